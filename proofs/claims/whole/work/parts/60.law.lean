/-! THE CLAIM OUT OF ONE WALK OF THE LAW'S BODY. Your part is whole_start (and what it stands on); all else here is the same for every law, but numbers. -/
def R_law : String := "StreetNumbersLaw"
def lw_P (b : Addr) (xs : List Int32) (args : Array Value) (s : State) : Prop := args = #[.ref b] ∧ s.IntsAt b xs ∧ xs.length ≤ 3072 ∧ (Jvm.Cond.and given_1 narrow_1).before args s = true
def lw_Q (_ : Array Value) (s : State) (o : Outcome) (t : State) : Prop := o = .returned (some (.int 1)) ∧ Framed s o t [] 600000 7302250
def lw_Z (below : List Frame) (a : Array Value) (s : State) : State → Prop := fun t => ∃ o, t.status = .running ∧ Ended t below o ∧ lw_Q a s o t
/-- the law's own end, with 1 on the stack, nothing written that was there before, its room as the claim has it -/
theorem lw_ret {p : Program} {l : Launch} {e : Env} {s : State} {m : MethodId} {below : List Frame} {meth : Method} {c : Code} {b : Nat} (hx : p.tables.exec = Jvm.exec) (hb : c.code = code) (hr : meth.sig.returnType = ret) (hlocks : meth.locks = false) {pc : Nat} {H : Heap} {ls : Array Slot} (hdg : decode code pc = .ok (.ireturn, 1)) : W p l e room_1 s m #[Value.ref b] below meth c H [] 600000 7302250 (lw_Z below #[Value.ref b] s) (F0 m pc ls [.int 1]) := by
  intro T hT X
  obtain ⟨fs, hret, hrun, hended, hW, hframe⟩ := X.leave (v := some (.int 1)) (hlocks := hlocks) (fun h => by rw [hr] at h; cases h)
  have hmeth' : T.vm.method? m = some meth := X.method'
  refine ⟨T.setFrames fs, ?_, .returned (some (.int 1)), hrun, hended, rfl, ⟨_, rfl⟩, hW, hframe⟩
  jvm_step X.here [X.here.top, hx, hb, hdg, hmeth', hr, ret, narrow_b1]
  (try refine ⟨rfl, ?_⟩); (try refine ⟨rfl, ?_⟩)
  first | (intro acts; rw [hret _ acts rfl rfl rfl]) | rw [hret _ _ rfl rfl rfl]
  exact Steps.refl _
/-- what holds at the law's entry: the machine, the code, the tables' words (any of lw_tbl by 'hts w (by decide +kernel)'), the script of L ints xs at the cell b, what the Statement gives of the start (any of its parts by flat_of_before) -/
def lw_At (p : Program) (s : State) (m : MethodId) (meth : Method) (c : Code) (b L : Nat) (xs : Nat → Int32) : Prop :=
  p.tables.exec = Jvm.exec ∧ c.code = code ∧ meth.sig.returnType = ret ∧ c.maxLocals = 4 ∧ s.vm.findClass R_law = some m.cls ∧ (∀ w ∈ lw_tbl, w.before #[Value.ref b] s = true) ∧ va_X b L xs s s.heap ∧ b < s.heap.size ∧ meth.locks = false ∧ (Jvm.Cond.and given_1 narrow_1).before #[Value.ref b] s = true
theorem q213 : Cond.methodLink "StreetNumbersLaw" 13 ⟨"StreetNumbers", "build", "(III)I"⟩ ∈ gT := gT_t 213 (by decide +kernel) rfl
theorem q247 : Cond.methodLink "StreetNumbersLaw" 18 ⟨"StreetNumbers", "houseIs", "(II)I"⟩ ∈ gT := gT_t 247 (by decide +kernel) rfl
theorem q314 : Cond.methodLink "StreetNumbersLaw" 23 ⟨"StreetNumbers", "standing", "(I)I"⟩ ∈ gT := gT_t 314 (by decide +kernel) rfl
theorem q319 : Cond.methodLink "StreetNumbersLaw" 28 ⟨"StreetNumbers", "become", "(II)I"⟩ ∈ gT := gT_t 319 (by decide +kernel) rfl
theorem q324 : Cond.methodLink "StreetNumbersLaw" 32 ⟨"StreetNumbers", "as", "(II)I"⟩ ∈ gT := gT_t 324 (by decide +kernel) rfl
theorem q336 : Cond.methodLink "StreetNumbersLaw" 36 ⟨"StreetNumbers", "harm", "(II)I"⟩ ∈ gT := gT_t 336 (by decide +kernel) rfl
theorem q358 : Cond.methodLink "StreetNumbersLaw" 40 ⟨"StreetNumbers", "renames", "(II)I"⟩ ∈ gT := gT_t 358 (by decide +kernel) rfl
theorem q369 : Cond.methodLink "StreetNumbersLaw" 44 ⟨"StreetNumbers", "year", "(I)I"⟩ ∈ gT := gT_t 369 (by decide +kernel) rfl
theorem q373 : Cond.methodLink "StreetNumbersLaw" 50 ⟨"StreetNumbers", "feed", "(JI)I"⟩ ∈ gT := gT_t 373 (by decide +kernel) rfl
theorem q382 : Cond.methodLink "StreetNumbersLaw" 55 ⟨"StreetNumbers", "text", "(I)I"⟩ ∈ gT := gT_t 382 (by decide +kernel) rfl
theorem q434 : Cond.methodLink "StreetNumbersLaw" 59 ⟨"StreetNumbers", "untell", "(I)I"⟩ ∈ gT := gT_t 434 (by decide +kernel) rfl
theorem q442 : Cond.methodLink "StreetNumbersLaw" 63 ⟨"StreetNumbers", "law", "(IIII)I"⟩ ∈ gT := gT_t 442 (by decide +kernel) rfl
theorem q447 : Cond.methodLink "StreetNumbersLaw" 68 ⟨"StreetNumbers", "renumber", "(I)I"⟩ ∈ gT := gT_t 447 (by decide +kernel) rfl
theorem q456 : Cond.methodLink "StreetNumbersLaw" 72 ⟨"StreetNumbers", "would", "(I)I"⟩ ∈ gT := gT_t 456 (by decide +kernel) rfl
theorem q464 : Cond.methodLink "StreetNumbersLaw" 76 ⟨"StreetNumbers", "gap", "(I)I"⟩ ∈ gT := gT_t 464 (by decide +kernel) rfl
theorem q468 : Cond.methodLink "StreetNumbersLaw" 80 ⟨"StreetNumbers", "least", "(I)I"⟩ ∈ gT := gT_t 468 (by decide +kernel) rfl
theorem q488 : Cond.methodLink "StreetNumbersLaw" 84 ⟨"StreetNumbers", "between", "(I)I"⟩ ∈ gT := gT_t 488 (by decide +kernel) rfl
theorem q500 : Cond.methodLink "StreetNumbersLaw" 88 ⟨"StreetNumbers", "fewest", "()I"⟩ ∈ gT := gT_t 500 (by decide +kernel) rfl
theorem q510 : Cond.methodLink "StreetNumbersLaw" 93 ⟨"StreetNumbers", "search", "(II)I"⟩ ∈ gT := gT_t 510 (by decide +kernel) rfl
theorem q518 : Cond.methodLink "StreetNumbersLaw" 97 ⟨"StreetNumbers", "odds", "(I)I"⟩ ∈ gT := gT_t 518 (by decide +kernel) rfl
theorem q533 : Cond.methodLink "StreetNumbersLaw" 101 ⟨"StreetNumbers", "order", "()I"⟩ ∈ gT := gT_t 533 (by decide +kernel) rfl
theorem q538 : Cond.methodLink "StreetNumbersLaw" 105 ⟨"StreetNumbers", "fits", "(II)I"⟩ ∈ gT := gT_t 538 (by decide +kernel) rfl
theorem q571 : Cond.methodLink "StreetNumbersLaw" 109 ⟨"StreetNumbers", "loose", "(I)I"⟩ ∈ gT := gT_t 571 (by decide +kernel) rfl
theorem q590 : Cond.methodLink "StreetNumbersLaw" 113 ⟨"StreetNumbers", "seed", "(I)I"⟩ ∈ gT := gT_t 590 (by decide +kernel) rfl
theorem q594 : Cond.methodLink "StreetNumbersLaw" 117 ⟨"StreetNumbers", "voice", "(III)I"⟩ ∈ gT := gT_t 594 (by decide +kernel) rfl
theorem q633 : Cond.methodLink "StreetNumbersLaw" 121 ⟨"StreetNumbers", "body", "(I)I"⟩ ∈ gT := gT_t 633 (by decide +kernel) rfl
theorem q641 : Cond.methodLink "StreetNumbersLaw" 125 ⟨"StreetNumbers", "sheet", "(III)I"⟩ ∈ gT := gT_t 641 (by decide +kernel) rfl
theorem q650 : Cond.methodLink "StreetNumbersLaw" 129 ⟨"StreetNumbers", "put", "(III)I"⟩ ∈ gT := gT_t 650 (by decide +kernel) rfl
theorem q661 : Cond.methodLink "StreetNumbersLaw" 133 ⟨"StreetNumbers", "move", "(IIIII)I"⟩ ∈ gT := gT_t 661 (by decide +kernel) rfl
theorem q672 : Cond.methodLink "StreetNumbersLaw" 138 ⟨"StreetNumbers", "plates", "(I)I"⟩ ∈ gT := gT_t 672 (by decide +kernel) rfl
theorem q677 : Cond.methodLink "StreetNumbersLaw" 142 ⟨"StreetNumbers", "judge", "(I)I"⟩ ∈ gT := gT_t 677 (by decide +kernel) rfl
theorem q681 : Cond.methodLink "StreetNumbersLaw" 146 ⟨"StreetNumbers", "image", "()I"⟩ ∈ gT := gT_t 681 (by decide +kernel) rfl
theorem q694 : Cond.methodLink "StreetNumbersLaw" 150 ⟨"StreetNumbers", "restore", "()I"⟩ ∈ gT := gT_t 694 (by decide +kernel) rfl
theorem q698 : Cond.methodLink "StreetNumbersLaw" 154 ⟨"StreetNumbers", "tell", "(I)I"⟩ ∈ gT := gT_t 698 (by decide +kernel) rfl
theorem q706 : Cond.methodLink "StreetNumbersLaw" 158 ⟨"StreetNumbers", "check", "()I"⟩ ∈ gT := gT_t 706 (by decide +kernel) rfl
theorem q714 : Cond.methodLink "StreetNumbersLaw" 162 ⟨"StreetNumbers", "count", "(I)I"⟩ ∈ gT := gT_t 714 (by decide +kernel) rfl
theorem q718 : Cond.methodLink "StreetNumbersLaw" 166 ⟨"StreetNumbers", "told", "(I)I"⟩ ∈ gT := gT_t 718 (by decide +kernel) rfl
theorem q795 : Cond.methodLink "StreetNumbersLaw" 54 ⟨"StreetNumbersModel", "feed", "(JI)I"⟩ ∈ gT := gT_t 795 (by decide +kernel) rfl
theorem q808 : Cond.methodLink "StreetNumbersLaw" 58 ⟨"StreetNumbersModel", "text", "(I)I"⟩ ∈ gT := gT_t 808 (by decide +kernel) rfl
theorem q852 : Cond.methodLink "StreetNumbersLaw" 62 ⟨"StreetNumbersModel", "untell", "(I)I"⟩ ∈ gT := gT_t 852 (by decide +kernel) rfl
theorem q860 : Cond.methodLink "StreetNumbersLaw" 17 ⟨"StreetNumbersModel", "build", "(III)I"⟩ ∈ gT := gT_t 860 (by decide +kernel) rfl
theorem q882 : Cond.methodLink "StreetNumbersLaw" 22 ⟨"StreetNumbersModel", "houseIs", "(II)I"⟩ ∈ gT := gT_t 882 (by decide +kernel) rfl
theorem q916 : Cond.methodLink "StreetNumbersLaw" 27 ⟨"StreetNumbersModel", "standing", "(I)I"⟩ ∈ gT := gT_t 916 (by decide +kernel) rfl
theorem q924 : Cond.methodLink "StreetNumbersLaw" 31 ⟨"StreetNumbersModel", "become", "(II)I"⟩ ∈ gT := gT_t 924 (by decide +kernel) rfl
theorem q932 : Cond.methodLink "StreetNumbersLaw" 35 ⟨"StreetNumbersModel", "as", "(II)I"⟩ ∈ gT := gT_t 932 (by decide +kernel) rfl
theorem q939 : Cond.methodLink "StreetNumbersLaw" 39 ⟨"StreetNumbersModel", "harm", "(II)I"⟩ ∈ gT := gT_t 939 (by decide +kernel) rfl
theorem q955 : Cond.methodLink "StreetNumbersLaw" 43 ⟨"StreetNumbersModel", "renames", "(II)I"⟩ ∈ gT := gT_t 955 (by decide +kernel) rfl
theorem q964 : Cond.methodLink "StreetNumbersLaw" 47 ⟨"StreetNumbersModel", "year", "(I)I"⟩ ∈ gT := gT_t 964 (by decide +kernel) rfl
theorem q968 : Cond.methodLink "StreetNumbersLaw" 67 ⟨"StreetNumbersModel", "law", "(IIII)I"⟩ ∈ gT := gT_t 968 (by decide +kernel) rfl
theorem q972 : Cond.methodLink "StreetNumbersLaw" 71 ⟨"StreetNumbersModel", "renumber", "(I)I"⟩ ∈ gT := gT_t 972 (by decide +kernel) rfl
theorem q983 : Cond.methodLink "StreetNumbersLaw" 75 ⟨"StreetNumbersModel", "would", "(I)I"⟩ ∈ gT := gT_t 983 (by decide +kernel) rfl
theorem q991 : Cond.methodLink "StreetNumbersLaw" 79 ⟨"StreetNumbersModel", "gap", "(I)I"⟩ ∈ gT := gT_t 991 (by decide +kernel) rfl
theorem q995 : Cond.methodLink "StreetNumbersLaw" 83 ⟨"StreetNumbersModel", "least", "(I)I"⟩ ∈ gT := gT_t 995 (by decide +kernel) rfl
theorem q1008 : Cond.methodLink "StreetNumbersLaw" 87 ⟨"StreetNumbersModel", "between", "(I)I"⟩ ∈ gT := gT_t 1008 (by decide +kernel) rfl
theorem q1016 : Cond.methodLink "StreetNumbersLaw" 92 ⟨"StreetNumbersModel", "fewest", "()I"⟩ ∈ gT := gT_t 1016 (by decide +kernel) rfl
theorem q1024 : Cond.methodLink "StreetNumbersLaw" 104 ⟨"StreetNumbersModel", "order", "()I"⟩ ∈ gT := gT_t 1024 (by decide +kernel) rfl
theorem q1028 : Cond.methodLink "StreetNumbersLaw" 96 ⟨"StreetNumbersModel", "search", "(II)I"⟩ ∈ gT := gT_t 1028 (by decide +kernel) rfl
theorem q1036 : Cond.methodLink "StreetNumbersLaw" 100 ⟨"StreetNumbersModel", "odds", "(I)I"⟩ ∈ gT := gT_t 1036 (by decide +kernel) rfl
theorem q1043 : Cond.methodLink "StreetNumbersLaw" 108 ⟨"StreetNumbersModel", "fits", "(II)I"⟩ ∈ gT := gT_t 1043 (by decide +kernel) rfl
theorem q1058 : Cond.methodLink "StreetNumbersLaw" 112 ⟨"StreetNumbersModel", "loose", "(I)I"⟩ ∈ gT := gT_t 1058 (by decide +kernel) rfl
theorem q1071 : Cond.methodLink "StreetNumbersLaw" 116 ⟨"StreetNumbersModel", "seed", "(I)I"⟩ ∈ gT := gT_t 1071 (by decide +kernel) rfl
theorem q1075 : Cond.methodLink "StreetNumbersLaw" 120 ⟨"StreetNumbersModel", "voice", "(III)I"⟩ ∈ gT := gT_t 1075 (by decide +kernel) rfl
theorem q1107 : Cond.methodLink "StreetNumbersLaw" 124 ⟨"StreetNumbersModel", "body", "(I)I"⟩ ∈ gT := gT_t 1107 (by decide +kernel) rfl
theorem q1111 : Cond.methodLink "StreetNumbersLaw" 128 ⟨"StreetNumbersModel", "sheet", "(III)I"⟩ ∈ gT := gT_t 1111 (by decide +kernel) rfl
theorem q1115 : Cond.methodLink "StreetNumbersLaw" 132 ⟨"StreetNumbersModel", "put", "(III)I"⟩ ∈ gT := gT_t 1115 (by decide +kernel) rfl
theorem q1119 : Cond.methodLink "StreetNumbersLaw" 137 ⟨"StreetNumbersModel", "move", "(IIIII)I"⟩ ∈ gT := gT_t 1119 (by decide +kernel) rfl
theorem q1123 : Cond.methodLink "StreetNumbersLaw" 141 ⟨"StreetNumbersModel", "plates", "(I)I"⟩ ∈ gT := gT_t 1123 (by decide +kernel) rfl
theorem q1127 : Cond.methodLink "StreetNumbersLaw" 145 ⟨"StreetNumbersModel", "judge", "(I)I"⟩ ∈ gT := gT_t 1127 (by decide +kernel) rfl
theorem q1131 : Cond.methodLink "StreetNumbersLaw" 149 ⟨"StreetNumbersModel", "image", "()I"⟩ ∈ gT := gT_t 1131 (by decide +kernel) rfl
theorem q1138 : Cond.methodLink "StreetNumbersLaw" 153 ⟨"StreetNumbersModel", "restore", "()I"⟩ ∈ gT := gT_t 1138 (by decide +kernel) rfl
theorem q1142 : Cond.methodLink "StreetNumbersLaw" 157 ⟨"StreetNumbersModel", "tell", "(I)I"⟩ ∈ gT := gT_t 1142 (by decide +kernel) rfl
theorem q1146 : Cond.methodLink "StreetNumbersLaw" 161 ⟨"StreetNumbersModel", "check", "()I"⟩ ∈ gT := gT_t 1146 (by decide +kernel) rfl
theorem q1150 : Cond.methodLink "StreetNumbersLaw" 165 ⟨"StreetNumbersModel", "count", "(I)I"⟩ ∈ gT := gT_t 1150 (by decide +kernel) rfl
theorem q1154 : Cond.methodLink "StreetNumbersLaw" 169 ⟨"StreetNumbersModel", "told", "(I)I"⟩ ∈ gT := gT_t 1154 (by decide +kernel) rfl
theorem q1158 : Cond.constantLong "StreetNumbersLaw" 48 (4294967295 : Int64) ∈ gT := gT_t 1158 (by decide +kernel) rfl
theorem q325 : Cond.instanceMethod ⟨"StreetNumbers", "as", "(II)I"⟩ ∈ gT := gT_t 325 (by decide +kernel) rfl
theorem q326 : Cond.selects "StreetNumbers" ⟨"StreetNumbers", "as", "(II)I"⟩ ⟨"StreetNumbers", "as", "(II)I"⟩ ∈ gT := gT_t 326 (by decide +kernel) rfl
theorem q327 : Cond.code ⟨"StreetNumbers", "as", "(II)I"⟩ prog_1_method_6_code 3 (Option.some FieldType.int) ∈ gT := gT_t 327 (by decide +kernel) rfl
theorem cal_X6_as : Cal yX6_as cX6_as 3 (some .int) 2 := ⟨q325, q326, q1, q327, by decide +kernel, by decide +kernel, by decide +kernel⟩
theorem q320 : Cond.instanceMethod ⟨"StreetNumbers", "become", "(II)I"⟩ ∈ gT := gT_t 320 (by decide +kernel) rfl
theorem q321 : Cond.selects "StreetNumbers" ⟨"StreetNumbers", "become", "(II)I"⟩ ⟨"StreetNumbers", "become", "(II)I"⟩ ∈ gT := gT_t 321 (by decide +kernel) rfl
theorem q322 : Cond.code ⟨"StreetNumbers", "become", "(II)I"⟩ prog_1_method_5_code 4 (Option.some FieldType.int) ∈ gT := gT_t 322 (by decide +kernel) rfl
theorem cal_X6_become : Cal yX6_become cX6_become 4 (some .int) 2 := ⟨q320, q321, q1, q322, by decide +kernel, by decide +kernel, by decide +kernel⟩
theorem q489 : Cond.instanceMethod ⟨"StreetNumbers", "between", "(I)I"⟩ ∈ gT := gT_t 489 (by decide +kernel) rfl
theorem q490 : Cond.selects "StreetNumbers" ⟨"StreetNumbers", "between", "(I)I"⟩ ⟨"StreetNumbers", "between", "(I)I"⟩ ∈ gT := gT_t 490 (by decide +kernel) rfl
theorem q491 : Cond.code ⟨"StreetNumbers", "between", "(I)I"⟩ prog_1_method_18_code 3 (Option.some FieldType.int) ∈ gT := gT_t 491 (by decide +kernel) rfl
theorem cal_X6_between : Cal yX6_between cX6_between 3 (some .int) 1 := ⟨q489, q490, q1, q491, by decide +kernel, by decide +kernel, by decide +kernel⟩
theorem q634 : Cond.instanceMethod ⟨"StreetNumbers", "body", "(I)I"⟩ ∈ gT := gT_t 634 (by decide +kernel) rfl
theorem q635 : Cond.selects "StreetNumbers" ⟨"StreetNumbers", "body", "(I)I"⟩ ⟨"StreetNumbers", "body", "(I)I"⟩ ∈ gT := gT_t 635 (by decide +kernel) rfl
theorem q636 : Cond.code ⟨"StreetNumbers", "body", "(I)I"⟩ prog_1_method_27_code 2 (Option.some FieldType.int) ∈ gT := gT_t 636 (by decide +kernel) rfl
theorem cal_X6_body : Cal yX6_body cX6_body 2 (some .int) 1 := ⟨q634, q635, q1, q636, by decide +kernel, by decide +kernel, by decide +kernel⟩
theorem q214 : Cond.instanceMethod ⟨"StreetNumbers", "build", "(III)I"⟩ ∈ gT := gT_t 214 (by decide +kernel) rfl
theorem q215 : Cond.selects "StreetNumbers" ⟨"StreetNumbers", "build", "(III)I"⟩ ⟨"StreetNumbers", "build", "(III)I"⟩ ∈ gT := gT_t 215 (by decide +kernel) rfl
theorem q216 : Cond.code ⟨"StreetNumbers", "build", "(III)I"⟩ prog_1_method_2_code 4 (Option.some FieldType.int) ∈ gT := gT_t 216 (by decide +kernel) rfl
theorem cal_X6_build : Cal yX6_build cX6_build 4 (some .int) 3 := ⟨q214, q215, q1, q216, by decide +kernel, by decide +kernel, by decide +kernel⟩
theorem q707 : Cond.instanceMethod ⟨"StreetNumbers", "check", "()I"⟩ ∈ gT := gT_t 707 (by decide +kernel) rfl
theorem q708 : Cond.selects "StreetNumbers" ⟨"StreetNumbers", "check", "()I"⟩ ⟨"StreetNumbers", "check", "()I"⟩ ∈ gT := gT_t 708 (by decide +kernel) rfl
theorem q709 : Cond.code ⟨"StreetNumbers", "check", "()I"⟩ prog_1_method_36_code 3 (Option.some FieldType.int) ∈ gT := gT_t 709 (by decide +kernel) rfl
theorem cal_X6_check : Cal yX6_check cX6_check 3 (some .int) 0 := ⟨q707, q708, q1, q709, by decide +kernel, by decide +kernel, by decide +kernel⟩
theorem q715 : Cond.instanceMethod ⟨"StreetNumbers", "count", "(I)I"⟩ ∈ gT := gT_t 715 (by decide +kernel) rfl
theorem q716 : Cond.selects "StreetNumbers" ⟨"StreetNumbers", "count", "(I)I"⟩ ⟨"StreetNumbers", "count", "(I)I"⟩ ∈ gT := gT_t 716 (by decide +kernel) rfl
theorem q717 : Cond.code ⟨"StreetNumbers", "count", "(I)I"⟩ prog_1_method_37_code 2 (Option.some FieldType.int) ∈ gT := gT_t 717 (by decide +kernel) rfl
theorem cal_X6_count : Cal yX6_count cX6_count 2 (some .int) 1 := ⟨q715, q716, q1, q717, by decide +kernel, by decide +kernel, by decide +kernel⟩
theorem q374 : Cond.instanceMethod ⟨"StreetNumbers", "feed", "(JI)I"⟩ ∈ gT := gT_t 374 (by decide +kernel) rfl
theorem q375 : Cond.selects "StreetNumbers" ⟨"StreetNumbers", "feed", "(JI)I"⟩ ⟨"StreetNumbers", "feed", "(JI)I"⟩ ∈ gT := gT_t 375 (by decide +kernel) rfl
theorem q376 : Cond.code ⟨"StreetNumbers", "feed", "(JI)I"⟩ prog_1_method_10_code 4 (Option.some FieldType.int) ∈ gT := gT_t 376 (by decide +kernel) rfl
theorem cal_X6_feed : Cal yX6_feed cX6_feed 4 (some .int) 2 := ⟨q374, q375, q1, q376, by decide +kernel, by decide +kernel, by decide +kernel⟩
theorem q501 : Cond.instanceMethod ⟨"StreetNumbers", "fewest", "()I"⟩ ∈ gT := gT_t 501 (by decide +kernel) rfl
theorem q502 : Cond.selects "StreetNumbers" ⟨"StreetNumbers", "fewest", "()I"⟩ ⟨"StreetNumbers", "fewest", "()I"⟩ ∈ gT := gT_t 502 (by decide +kernel) rfl
theorem q503 : Cond.code ⟨"StreetNumbers", "fewest", "()I"⟩ prog_1_method_19_code 1 (Option.some FieldType.int) ∈ gT := gT_t 503 (by decide +kernel) rfl
theorem cal_X6_fewest : Cal yX6_fewest cX6_fewest 1 (some .int) 0 := ⟨q501, q502, q1, q503, by decide +kernel, by decide +kernel, by decide +kernel⟩
theorem q539 : Cond.instanceMethod ⟨"StreetNumbers", "fits", "(II)I"⟩ ∈ gT := gT_t 539 (by decide +kernel) rfl
theorem q540 : Cond.selects "StreetNumbers" ⟨"StreetNumbers", "fits", "(II)I"⟩ ⟨"StreetNumbers", "fits", "(II)I"⟩ ∈ gT := gT_t 540 (by decide +kernel) rfl
theorem q541 : Cond.code ⟨"StreetNumbers", "fits", "(II)I"⟩ prog_1_method_23_code 6 (Option.some FieldType.int) ∈ gT := gT_t 541 (by decide +kernel) rfl
theorem cal_X6_fits : Cal yX6_fits cX6_fits 6 (some .int) 2 := ⟨q539, q540, q1, q541, by decide +kernel, by decide +kernel, by decide +kernel⟩
theorem q465 : Cond.instanceMethod ⟨"StreetNumbers", "gap", "(I)I"⟩ ∈ gT := gT_t 465 (by decide +kernel) rfl
theorem q466 : Cond.selects "StreetNumbers" ⟨"StreetNumbers", "gap", "(I)I"⟩ ⟨"StreetNumbers", "gap", "(I)I"⟩ ∈ gT := gT_t 466 (by decide +kernel) rfl
theorem q467 : Cond.code ⟨"StreetNumbers", "gap", "(I)I"⟩ prog_1_method_16_code 6 (Option.some FieldType.int) ∈ gT := gT_t 467 (by decide +kernel) rfl
theorem cal_X6_gap : Cal yX6_gap cX6_gap 6 (some .int) 1 := ⟨q465, q466, q1, q467, by decide +kernel, by decide +kernel, by decide +kernel⟩
theorem q337 : Cond.instanceMethod ⟨"StreetNumbers", "harm", "(II)I"⟩ ∈ gT := gT_t 337 (by decide +kernel) rfl
theorem q338 : Cond.selects "StreetNumbers" ⟨"StreetNumbers", "harm", "(II)I"⟩ ⟨"StreetNumbers", "harm", "(II)I"⟩ ∈ gT := gT_t 338 (by decide +kernel) rfl
theorem q339 : Cond.code ⟨"StreetNumbers", "harm", "(II)I"⟩ prog_1_method_7_code 3 (Option.some FieldType.int) ∈ gT := gT_t 339 (by decide +kernel) rfl
theorem cal_X6_harm : Cal yX6_harm cX6_harm 3 (some .int) 2 := ⟨q337, q338, q1, q339, by decide +kernel, by decide +kernel, by decide +kernel⟩
theorem q248 : Cond.instanceMethod ⟨"StreetNumbers", "houseIs", "(II)I"⟩ ∈ gT := gT_t 248 (by decide +kernel) rfl
theorem q249 : Cond.selects "StreetNumbers" ⟨"StreetNumbers", "houseIs", "(II)I"⟩ ⟨"StreetNumbers", "houseIs", "(II)I"⟩ ∈ gT := gT_t 249 (by decide +kernel) rfl
theorem q250 : Cond.code ⟨"StreetNumbers", "houseIs", "(II)I"⟩ prog_1_method_3_code 3 (Option.some FieldType.int) ∈ gT := gT_t 250 (by decide +kernel) rfl
theorem cal_X6_houseIs : Cal yX6_houseIs cX6_houseIs 3 (some .int) 2 := ⟨q248, q249, q1, q250, by decide +kernel, by decide +kernel, by decide +kernel⟩
theorem q682 : Cond.instanceMethod ⟨"StreetNumbers", "image", "()I"⟩ ∈ gT := gT_t 682 (by decide +kernel) rfl
theorem q683 : Cond.selects "StreetNumbers" ⟨"StreetNumbers", "image", "()I"⟩ ⟨"StreetNumbers", "image", "()I"⟩ ∈ gT := gT_t 683 (by decide +kernel) rfl
theorem q684 : Cond.code ⟨"StreetNumbers", "image", "()I"⟩ prog_1_method_33_code 1 (Option.some FieldType.int) ∈ gT := gT_t 684 (by decide +kernel) rfl
theorem cal_X6_image : Cal yX6_image cX6_image 1 (some .int) 0 := ⟨q682, q683, q1, q684, by decide +kernel, by decide +kernel, by decide +kernel⟩
theorem q678 : Cond.instanceMethod ⟨"StreetNumbers", "judge", "(I)I"⟩ ∈ gT := gT_t 678 (by decide +kernel) rfl
theorem q679 : Cond.selects "StreetNumbers" ⟨"StreetNumbers", "judge", "(I)I"⟩ ⟨"StreetNumbers", "judge", "(I)I"⟩ ∈ gT := gT_t 679 (by decide +kernel) rfl
theorem q680 : Cond.code ⟨"StreetNumbers", "judge", "(I)I"⟩ prog_1_method_32_code 5 (Option.some FieldType.int) ∈ gT := gT_t 680 (by decide +kernel) rfl
theorem cal_X6_judge : Cal yX6_judge cX6_judge 5 (some .int) 1 := ⟨q678, q679, q1, q680, by decide +kernel, by decide +kernel, by decide +kernel⟩
theorem q443 : Cond.instanceMethod ⟨"StreetNumbers", "law", "(IIII)I"⟩ ∈ gT := gT_t 443 (by decide +kernel) rfl
theorem q444 : Cond.selects "StreetNumbers" ⟨"StreetNumbers", "law", "(IIII)I"⟩ ⟨"StreetNumbers", "law", "(IIII)I"⟩ ∈ gT := gT_t 444 (by decide +kernel) rfl
theorem q445 : Cond.code ⟨"StreetNumbers", "law", "(IIII)I"⟩ prog_1_method_13_code 5 (Option.some FieldType.int) ∈ gT := gT_t 445 (by decide +kernel) rfl
theorem cal_X6_law : Cal yX6_law cX6_law 5 (some .int) 4 := ⟨q443, q444, q1, q445, by decide +kernel, by decide +kernel, by decide +kernel⟩
theorem q469 : Cond.instanceMethod ⟨"StreetNumbers", "least", "(I)I"⟩ ∈ gT := gT_t 469 (by decide +kernel) rfl
theorem q470 : Cond.selects "StreetNumbers" ⟨"StreetNumbers", "least", "(I)I"⟩ ⟨"StreetNumbers", "least", "(I)I"⟩ ∈ gT := gT_t 470 (by decide +kernel) rfl
theorem q471 : Cond.code ⟨"StreetNumbers", "least", "(I)I"⟩ prog_1_method_17_code 3 (Option.some FieldType.int) ∈ gT := gT_t 471 (by decide +kernel) rfl
theorem cal_X6_least : Cal yX6_least cX6_least 3 (some .int) 1 := ⟨q469, q470, q1, q471, by decide +kernel, by decide +kernel, by decide +kernel⟩
theorem q572 : Cond.instanceMethod ⟨"StreetNumbers", "loose", "(I)I"⟩ ∈ gT := gT_t 572 (by decide +kernel) rfl
theorem q573 : Cond.selects "StreetNumbers" ⟨"StreetNumbers", "loose", "(I)I"⟩ ⟨"StreetNumbers", "loose", "(I)I"⟩ ∈ gT := gT_t 573 (by decide +kernel) rfl
theorem q574 : Cond.code ⟨"StreetNumbers", "loose", "(I)I"⟩ prog_1_method_24_code 4 (Option.some FieldType.int) ∈ gT := gT_t 574 (by decide +kernel) rfl
theorem cal_X6_loose : Cal yX6_loose cX6_loose 4 (some .int) 1 := ⟨q572, q573, q1, q574, by decide +kernel, by decide +kernel, by decide +kernel⟩
theorem q662 : Cond.instanceMethod ⟨"StreetNumbers", "move", "(IIIII)I"⟩ ∈ gT := gT_t 662 (by decide +kernel) rfl
theorem q663 : Cond.selects "StreetNumbers" ⟨"StreetNumbers", "move", "(IIIII)I"⟩ ⟨"StreetNumbers", "move", "(IIIII)I"⟩ ∈ gT := gT_t 663 (by decide +kernel) rfl
theorem q664 : Cond.code ⟨"StreetNumbers", "move", "(IIIII)I"⟩ prog_1_method_30_code 6 (Option.some FieldType.int) ∈ gT := gT_t 664 (by decide +kernel) rfl
theorem cal_X6_move : Cal yX6_move cX6_move 6 (some .int) 5 := ⟨q662, q663, q1, q664, by decide +kernel, by decide +kernel, by decide +kernel⟩
theorem q519 : Cond.instanceMethod ⟨"StreetNumbers", "odds", "(I)I"⟩ ∈ gT := gT_t 519 (by decide +kernel) rfl
theorem q520 : Cond.selects "StreetNumbers" ⟨"StreetNumbers", "odds", "(I)I"⟩ ⟨"StreetNumbers", "odds", "(I)I"⟩ ∈ gT := gT_t 520 (by decide +kernel) rfl
theorem q521 : Cond.code ⟨"StreetNumbers", "odds", "(I)I"⟩ prog_1_method_21_code 4 (Option.some FieldType.int) ∈ gT := gT_t 521 (by decide +kernel) rfl
theorem cal_X6_odds : Cal yX6_odds cX6_odds 4 (some .int) 1 := ⟨q519, q520, q1, q521, by decide +kernel, by decide +kernel, by decide +kernel⟩
theorem q534 : Cond.instanceMethod ⟨"StreetNumbers", "order", "()I"⟩ ∈ gT := gT_t 534 (by decide +kernel) rfl
theorem q535 : Cond.selects "StreetNumbers" ⟨"StreetNumbers", "order", "()I"⟩ ⟨"StreetNumbers", "order", "()I"⟩ ∈ gT := gT_t 535 (by decide +kernel) rfl
theorem q536 : Cond.code ⟨"StreetNumbers", "order", "()I"⟩ prog_1_method_22_code 2 (Option.some FieldType.int) ∈ gT := gT_t 536 (by decide +kernel) rfl
theorem cal_X6_order : Cal yX6_order cX6_order 2 (some .int) 0 := ⟨q534, q535, q1, q536, by decide +kernel, by decide +kernel, by decide +kernel⟩
theorem q673 : Cond.instanceMethod ⟨"StreetNumbers", "plates", "(I)I"⟩ ∈ gT := gT_t 673 (by decide +kernel) rfl
theorem q674 : Cond.selects "StreetNumbers" ⟨"StreetNumbers", "plates", "(I)I"⟩ ⟨"StreetNumbers", "plates", "(I)I"⟩ ∈ gT := gT_t 674 (by decide +kernel) rfl
theorem q675 : Cond.code ⟨"StreetNumbers", "plates", "(I)I"⟩ prog_1_method_31_code 5 (Option.some FieldType.int) ∈ gT := gT_t 675 (by decide +kernel) rfl
theorem cal_X6_plates : Cal yX6_plates cX6_plates 5 (some .int) 1 := ⟨q673, q674, q1, q675, by decide +kernel, by decide +kernel, by decide +kernel⟩
theorem q651 : Cond.instanceMethod ⟨"StreetNumbers", "put", "(III)I"⟩ ∈ gT := gT_t 651 (by decide +kernel) rfl
theorem q652 : Cond.selects "StreetNumbers" ⟨"StreetNumbers", "put", "(III)I"⟩ ⟨"StreetNumbers", "put", "(III)I"⟩ ∈ gT := gT_t 652 (by decide +kernel) rfl
theorem q653 : Cond.code ⟨"StreetNumbers", "put", "(III)I"⟩ prog_1_method_29_code 4 (Option.some FieldType.int) ∈ gT := gT_t 653 (by decide +kernel) rfl
theorem cal_X6_put : Cal yX6_put cX6_put 4 (some .int) 3 := ⟨q651, q652, q1, q653, by decide +kernel, by decide +kernel, by decide +kernel⟩
theorem q359 : Cond.instanceMethod ⟨"StreetNumbers", "renames", "(II)I"⟩ ∈ gT := gT_t 359 (by decide +kernel) rfl
theorem q360 : Cond.selects "StreetNumbers" ⟨"StreetNumbers", "renames", "(II)I"⟩ ⟨"StreetNumbers", "renames", "(II)I"⟩ ∈ gT := gT_t 360 (by decide +kernel) rfl
theorem q361 : Cond.code ⟨"StreetNumbers", "renames", "(II)I"⟩ prog_1_method_8_code 3 (Option.some FieldType.int) ∈ gT := gT_t 361 (by decide +kernel) rfl
theorem cal_X6_renames : Cal yX6_renames cX6_renames 3 (some .int) 2 := ⟨q359, q360, q1, q361, by decide +kernel, by decide +kernel, by decide +kernel⟩
theorem q448 : Cond.instanceMethod ⟨"StreetNumbers", "renumber", "(I)I"⟩ ∈ gT := gT_t 448 (by decide +kernel) rfl
theorem q449 : Cond.selects "StreetNumbers" ⟨"StreetNumbers", "renumber", "(I)I"⟩ ⟨"StreetNumbers", "renumber", "(I)I"⟩ ∈ gT := gT_t 449 (by decide +kernel) rfl
theorem q450 : Cond.code ⟨"StreetNumbers", "renumber", "(I)I"⟩ prog_1_method_14_code 2 (Option.some FieldType.int) ∈ gT := gT_t 450 (by decide +kernel) rfl
theorem cal_X6_renumber : Cal yX6_renumber cX6_renumber 2 (some .int) 1 := ⟨q448, q449, q1, q450, by decide +kernel, by decide +kernel, by decide +kernel⟩
theorem q695 : Cond.instanceMethod ⟨"StreetNumbers", "restore", "()I"⟩ ∈ gT := gT_t 695 (by decide +kernel) rfl
theorem q696 : Cond.selects "StreetNumbers" ⟨"StreetNumbers", "restore", "()I"⟩ ⟨"StreetNumbers", "restore", "()I"⟩ ∈ gT := gT_t 696 (by decide +kernel) rfl
theorem q697 : Cond.code ⟨"StreetNumbers", "restore", "()I"⟩ prog_1_method_34_code 1 (Option.some FieldType.int) ∈ gT := gT_t 697 (by decide +kernel) rfl
theorem cal_X6_restore : Cal yX6_restore cX6_restore 1 (some .int) 0 := ⟨q695, q696, q1, q697, by decide +kernel, by decide +kernel, by decide +kernel⟩
theorem q511 : Cond.instanceMethod ⟨"StreetNumbers", "search", "(II)I"⟩ ∈ gT := gT_t 511 (by decide +kernel) rfl
theorem q512 : Cond.selects "StreetNumbers" ⟨"StreetNumbers", "search", "(II)I"⟩ ⟨"StreetNumbers", "search", "(II)I"⟩ ∈ gT := gT_t 512 (by decide +kernel) rfl
theorem q513 : Cond.code ⟨"StreetNumbers", "search", "(II)I"⟩ prog_1_method_20_code 4 (Option.some FieldType.int) ∈ gT := gT_t 513 (by decide +kernel) rfl
theorem cal_X6_search : Cal yX6_search cX6_search 4 (some .int) 2 := ⟨q511, q512, q1, q513, by decide +kernel, by decide +kernel, by decide +kernel⟩
theorem q591 : Cond.instanceMethod ⟨"StreetNumbers", "seed", "(I)I"⟩ ∈ gT := gT_t 591 (by decide +kernel) rfl
theorem q592 : Cond.selects "StreetNumbers" ⟨"StreetNumbers", "seed", "(I)I"⟩ ⟨"StreetNumbers", "seed", "(I)I"⟩ ∈ gT := gT_t 592 (by decide +kernel) rfl
theorem q593 : Cond.code ⟨"StreetNumbers", "seed", "(I)I"⟩ prog_1_method_25_code 3 (Option.some FieldType.int) ∈ gT := gT_t 593 (by decide +kernel) rfl
theorem cal_X6_seed : Cal yX6_seed cX6_seed 3 (some .int) 1 := ⟨q591, q592, q1, q593, by decide +kernel, by decide +kernel, by decide +kernel⟩
theorem q642 : Cond.instanceMethod ⟨"StreetNumbers", "sheet", "(III)I"⟩ ∈ gT := gT_t 642 (by decide +kernel) rfl
theorem q643 : Cond.selects "StreetNumbers" ⟨"StreetNumbers", "sheet", "(III)I"⟩ ⟨"StreetNumbers", "sheet", "(III)I"⟩ ∈ gT := gT_t 643 (by decide +kernel) rfl
theorem q644 : Cond.code ⟨"StreetNumbers", "sheet", "(III)I"⟩ prog_1_method_28_code 4 (Option.some FieldType.int) ∈ gT := gT_t 644 (by decide +kernel) rfl
theorem cal_X6_sheet : Cal yX6_sheet cX6_sheet 4 (some .int) 3 := ⟨q642, q643, q1, q644, by decide +kernel, by decide +kernel, by decide +kernel⟩
theorem q315 : Cond.instanceMethod ⟨"StreetNumbers", "standing", "(I)I"⟩ ∈ gT := gT_t 315 (by decide +kernel) rfl
theorem q316 : Cond.selects "StreetNumbers" ⟨"StreetNumbers", "standing", "(I)I"⟩ ⟨"StreetNumbers", "standing", "(I)I"⟩ ∈ gT := gT_t 316 (by decide +kernel) rfl
theorem q317 : Cond.code ⟨"StreetNumbers", "standing", "(I)I"⟩ prog_1_method_4_code 2 (Option.some FieldType.int) ∈ gT := gT_t 317 (by decide +kernel) rfl
theorem cal_X6_standing : Cal yX6_standing cX6_standing 2 (some .int) 1 := ⟨q315, q316, q1, q317, by decide +kernel, by decide +kernel, by decide +kernel⟩
theorem q699 : Cond.instanceMethod ⟨"StreetNumbers", "tell", "(I)I"⟩ ∈ gT := gT_t 699 (by decide +kernel) rfl
theorem q700 : Cond.selects "StreetNumbers" ⟨"StreetNumbers", "tell", "(I)I"⟩ ⟨"StreetNumbers", "tell", "(I)I"⟩ ∈ gT := gT_t 700 (by decide +kernel) rfl
theorem q701 : Cond.code ⟨"StreetNumbers", "tell", "(I)I"⟩ prog_1_method_35_code 2 (Option.some FieldType.int) ∈ gT := gT_t 701 (by decide +kernel) rfl
theorem cal_X6_tell : Cal yX6_tell cX6_tell 2 (some .int) 1 := ⟨q699, q700, q1, q701, by decide +kernel, by decide +kernel, by decide +kernel⟩
theorem q383 : Cond.instanceMethod ⟨"StreetNumbers", "text", "(I)I"⟩ ∈ gT := gT_t 383 (by decide +kernel) rfl
theorem q384 : Cond.selects "StreetNumbers" ⟨"StreetNumbers", "text", "(I)I"⟩ ⟨"StreetNumbers", "text", "(I)I"⟩ ∈ gT := gT_t 384 (by decide +kernel) rfl
theorem q385 : Cond.code ⟨"StreetNumbers", "text", "(I)I"⟩ prog_1_method_11_code 4 (Option.some FieldType.int) ∈ gT := gT_t 385 (by decide +kernel) rfl
theorem cal_X6_text : Cal yX6_text cX6_text 4 (some .int) 1 := ⟨q383, q384, q1, q385, by decide +kernel, by decide +kernel, by decide +kernel⟩
theorem q719 : Cond.instanceMethod ⟨"StreetNumbers", "told", "(I)I"⟩ ∈ gT := gT_t 719 (by decide +kernel) rfl
theorem q720 : Cond.selects "StreetNumbers" ⟨"StreetNumbers", "told", "(I)I"⟩ ⟨"StreetNumbers", "told", "(I)I"⟩ ∈ gT := gT_t 720 (by decide +kernel) rfl
theorem q721 : Cond.code ⟨"StreetNumbers", "told", "(I)I"⟩ prog_1_method_38_code 2 (Option.some FieldType.int) ∈ gT := gT_t 721 (by decide +kernel) rfl
theorem cal_X6_told : Cal yX6_told cX6_told 2 (some .int) 1 := ⟨q719, q720, q1, q721, by decide +kernel, by decide +kernel, by decide +kernel⟩
theorem q435 : Cond.instanceMethod ⟨"StreetNumbers", "untell", "(I)I"⟩ ∈ gT := gT_t 435 (by decide +kernel) rfl
theorem q436 : Cond.selects "StreetNumbers" ⟨"StreetNumbers", "untell", "(I)I"⟩ ⟨"StreetNumbers", "untell", "(I)I"⟩ ∈ gT := gT_t 436 (by decide +kernel) rfl
theorem q437 : Cond.code ⟨"StreetNumbers", "untell", "(I)I"⟩ prog_1_method_12_code 2 (Option.some FieldType.int) ∈ gT := gT_t 437 (by decide +kernel) rfl
theorem cal_X6_untell : Cal yX6_untell cX6_untell 2 (some .int) 1 := ⟨q435, q436, q1, q437, by decide +kernel, by decide +kernel, by decide +kernel⟩
theorem q595 : Cond.instanceMethod ⟨"StreetNumbers", "voice", "(III)I"⟩ ∈ gT := gT_t 595 (by decide +kernel) rfl
theorem q596 : Cond.selects "StreetNumbers" ⟨"StreetNumbers", "voice", "(III)I"⟩ ⟨"StreetNumbers", "voice", "(III)I"⟩ ∈ gT := gT_t 596 (by decide +kernel) rfl
theorem q597 : Cond.code ⟨"StreetNumbers", "voice", "(III)I"⟩ prog_1_method_26_code 5 (Option.some FieldType.int) ∈ gT := gT_t 597 (by decide +kernel) rfl
theorem cal_X6_voice : Cal yX6_voice cX6_voice 5 (some .int) 3 := ⟨q595, q596, q1, q597, by decide +kernel, by decide +kernel, by decide +kernel⟩
theorem q457 : Cond.instanceMethod ⟨"StreetNumbers", "would", "(I)I"⟩ ∈ gT := gT_t 457 (by decide +kernel) rfl
theorem q458 : Cond.selects "StreetNumbers" ⟨"StreetNumbers", "would", "(I)I"⟩ ⟨"StreetNumbers", "would", "(I)I"⟩ ∈ gT := gT_t 458 (by decide +kernel) rfl
theorem q459 : Cond.code ⟨"StreetNumbers", "would", "(I)I"⟩ prog_1_method_15_code 2 (Option.some FieldType.int) ∈ gT := gT_t 459 (by decide +kernel) rfl
theorem cal_X6_would : Cal yX6_would cX6_would 2 (some .int) 1 := ⟨q457, q458, q1, q459, by decide +kernel, by decide +kernel, by decide +kernel⟩
theorem q370 : Cond.instanceMethod ⟨"StreetNumbers", "year", "(I)I"⟩ ∈ gT := gT_t 370 (by decide +kernel) rfl
theorem q371 : Cond.selects "StreetNumbers" ⟨"StreetNumbers", "year", "(I)I"⟩ ⟨"StreetNumbers", "year", "(I)I"⟩ ∈ gT := gT_t 371 (by decide +kernel) rfl
theorem q372 : Cond.code ⟨"StreetNumbers", "year", "(I)I"⟩ prog_1_method_9_code 3 (Option.some FieldType.int) ∈ gT := gT_t 372 (by decide +kernel) rfl
theorem cal_X6_year : Cal yX6_year cX6_year 3 (some .int) 1 := ⟨q370, q371, q1, q372, by decide +kernel, by decide +kernel, by decide +kernel⟩
theorem q933 : Cond.instanceMethod ⟨"StreetNumbersModel", "as", "(II)I"⟩ ∈ gT := gT_t 933 (by decide +kernel) rfl
theorem q934 : Cond.selects "StreetNumbersModel" ⟨"StreetNumbersModel", "as", "(II)I"⟩ ⟨"StreetNumbersModel", "as", "(II)I"⟩ ∈ gT := gT_t 934 (by decide +kernel) rfl
theorem q935 : Cond.code ⟨"StreetNumbersModel", "as", "(II)I"⟩ prog_9_method_41_code 4 (Option.some FieldType.int) ∈ gT := gT_t 935 (by decide +kernel) rfl
theorem cal_X7_as : Cal yX7_as cX7_as 4 (some .int) 2 := ⟨q933, q934, q8, q935, by decide +kernel, by decide +kernel, by decide +kernel⟩
theorem q925 : Cond.instanceMethod ⟨"StreetNumbersModel", "become", "(II)I"⟩ ∈ gT := gT_t 925 (by decide +kernel) rfl
theorem q926 : Cond.selects "StreetNumbersModel" ⟨"StreetNumbersModel", "become", "(II)I"⟩ ⟨"StreetNumbersModel", "become", "(II)I"⟩ ∈ gT := gT_t 926 (by decide +kernel) rfl
theorem q927 : Cond.code ⟨"StreetNumbersModel", "become", "(II)I"⟩ prog_9_method_40_code 3 (Option.some FieldType.int) ∈ gT := gT_t 927 (by decide +kernel) rfl
theorem cal_X7_become : Cal yX7_become cX7_become 3 (some .int) 2 := ⟨q925, q926, q8, q927, by decide +kernel, by decide +kernel, by decide +kernel⟩
theorem q1009 : Cond.instanceMethod ⟨"StreetNumbersModel", "between", "(I)I"⟩ ∈ gT := gT_t 1009 (by decide +kernel) rfl
theorem q1010 : Cond.selects "StreetNumbersModel" ⟨"StreetNumbersModel", "between", "(I)I"⟩ ⟨"StreetNumbersModel", "between", "(I)I"⟩ ∈ gT := gT_t 1010 (by decide +kernel) rfl
theorem q1011 : Cond.code ⟨"StreetNumbersModel", "between", "(I)I"⟩ prog_9_method_57_code 3 (Option.some FieldType.int) ∈ gT := gT_t 1011 (by decide +kernel) rfl
theorem cal_X7_between : Cal yX7_between cX7_between 3 (some .int) 1 := ⟨q1009, q1010, q8, q1011, by decide +kernel, by decide +kernel, by decide +kernel⟩
theorem q1108 : Cond.instanceMethod ⟨"StreetNumbersModel", "body", "(I)I"⟩ ∈ gT := gT_t 1108 (by decide +kernel) rfl
theorem q1109 : Cond.selects "StreetNumbersModel" ⟨"StreetNumbersModel", "body", "(I)I"⟩ ⟨"StreetNumbersModel", "body", "(I)I"⟩ ∈ gT := gT_t 1109 (by decide +kernel) rfl
theorem q1110 : Cond.code ⟨"StreetNumbersModel", "body", "(I)I"⟩ prog_9_method_80_code 2 (Option.some FieldType.int) ∈ gT := gT_t 1110 (by decide +kernel) rfl
theorem cal_X7_body : Cal yX7_body cX7_body 2 (some .int) 1 := ⟨q1108, q1109, q8, q1110, by decide +kernel, by decide +kernel, by decide +kernel⟩
theorem q861 : Cond.instanceMethod ⟨"StreetNumbersModel", "build", "(III)I"⟩ ∈ gT := gT_t 861 (by decide +kernel) rfl
theorem q862 : Cond.selects "StreetNumbersModel" ⟨"StreetNumbersModel", "build", "(III)I"⟩ ⟨"StreetNumbersModel", "build", "(III)I"⟩ ∈ gT := gT_t 862 (by decide +kernel) rfl
theorem q863 : Cond.code ⟨"StreetNumbersModel", "build", "(III)I"⟩ prog_9_method_37_code 4 (Option.some FieldType.int) ∈ gT := gT_t 863 (by decide +kernel) rfl
theorem cal_X7_build : Cal yX7_build cX7_build 4 (some .int) 3 := ⟨q861, q862, q8, q863, by decide +kernel, by decide +kernel, by decide +kernel⟩
theorem q1147 : Cond.instanceMethod ⟨"StreetNumbersModel", "check", "()I"⟩ ∈ gT := gT_t 1147 (by decide +kernel) rfl
theorem q1148 : Cond.selects "StreetNumbersModel" ⟨"StreetNumbersModel", "check", "()I"⟩ ⟨"StreetNumbersModel", "check", "()I"⟩ ∈ gT := gT_t 1148 (by decide +kernel) rfl
theorem q1149 : Cond.code ⟨"StreetNumbersModel", "check", "()I"⟩ prog_9_method_91_code 3 (Option.some FieldType.int) ∈ gT := gT_t 1149 (by decide +kernel) rfl
theorem cal_X7_check : Cal yX7_check cX7_check 3 (some .int) 0 := ⟨q1147, q1148, q8, q1149, by decide +kernel, by decide +kernel, by decide +kernel⟩
theorem q1151 : Cond.instanceMethod ⟨"StreetNumbersModel", "count", "(I)I"⟩ ∈ gT := gT_t 1151 (by decide +kernel) rfl
theorem q1152 : Cond.selects "StreetNumbersModel" ⟨"StreetNumbersModel", "count", "(I)I"⟩ ⟨"StreetNumbersModel", "count", "(I)I"⟩ ∈ gT := gT_t 1152 (by decide +kernel) rfl
theorem q1153 : Cond.code ⟨"StreetNumbersModel", "count", "(I)I"⟩ prog_9_method_92_code 2 (Option.some FieldType.int) ∈ gT := gT_t 1153 (by decide +kernel) rfl
theorem cal_X7_count : Cal yX7_count cX7_count 2 (some .int) 1 := ⟨q1151, q1152, q8, q1153, by decide +kernel, by decide +kernel, by decide +kernel⟩
theorem q796 : Cond.instanceMethod ⟨"StreetNumbersModel", "feed", "(JI)I"⟩ ∈ gT := gT_t 796 (by decide +kernel) rfl
theorem q797 : Cond.selects "StreetNumbersModel" ⟨"StreetNumbersModel", "feed", "(JI)I"⟩ ⟨"StreetNumbersModel", "feed", "(JI)I"⟩ ∈ gT := gT_t 797 (by decide +kernel) rfl
theorem q798 : Cond.code ⟨"StreetNumbersModel", "feed", "(JI)I"⟩ prog_9_method_12_code 5 (Option.some FieldType.int) ∈ gT := gT_t 798 (by decide +kernel) rfl
theorem cal_X7_feed : Cal yX7_feed cX7_feed 5 (some .int) 2 := ⟨q796, q797, q8, q798, by decide +kernel, by decide +kernel, by decide +kernel⟩
theorem q1017 : Cond.instanceMethod ⟨"StreetNumbersModel", "fewest", "()I"⟩ ∈ gT := gT_t 1017 (by decide +kernel) rfl
theorem q1018 : Cond.selects "StreetNumbersModel" ⟨"StreetNumbersModel", "fewest", "()I"⟩ ⟨"StreetNumbersModel", "fewest", "()I"⟩ ∈ gT := gT_t 1018 (by decide +kernel) rfl
theorem q1019 : Cond.code ⟨"StreetNumbersModel", "fewest", "()I"⟩ prog_9_method_59_code 1 (Option.some FieldType.int) ∈ gT := gT_t 1019 (by decide +kernel) rfl
theorem cal_X7_fewest : Cal yX7_fewest cX7_fewest 1 (some .int) 0 := ⟨q1017, q1018, q8, q1019, by decide +kernel, by decide +kernel, by decide +kernel⟩
theorem q1044 : Cond.instanceMethod ⟨"StreetNumbersModel", "fits", "(II)I"⟩ ∈ gT := gT_t 1044 (by decide +kernel) rfl
theorem q1045 : Cond.selects "StreetNumbersModel" ⟨"StreetNumbersModel", "fits", "(II)I"⟩ ⟨"StreetNumbersModel", "fits", "(II)I"⟩ ∈ gT := gT_t 1045 (by decide +kernel) rfl
theorem q1046 : Cond.code ⟨"StreetNumbersModel", "fits", "(II)I"⟩ prog_9_method_66_code 8 (Option.some FieldType.int) ∈ gT := gT_t 1046 (by decide +kernel) rfl
theorem cal_X7_fits : Cal yX7_fits cX7_fits 8 (some .int) 2 := ⟨q1044, q1045, q8, q1046, by decide +kernel, by decide +kernel, by decide +kernel⟩
theorem q992 : Cond.instanceMethod ⟨"StreetNumbersModel", "gap", "(I)I"⟩ ∈ gT := gT_t 992 (by decide +kernel) rfl
theorem q993 : Cond.selects "StreetNumbersModel" ⟨"StreetNumbersModel", "gap", "(I)I"⟩ ⟨"StreetNumbersModel", "gap", "(I)I"⟩ ∈ gT := gT_t 993 (by decide +kernel) rfl
theorem q994 : Cond.code ⟨"StreetNumbersModel", "gap", "(I)I"⟩ prog_9_method_52_code 6 (Option.some FieldType.int) ∈ gT := gT_t 994 (by decide +kernel) rfl
theorem cal_X7_gap : Cal yX7_gap cX7_gap 6 (some .int) 1 := ⟨q992, q993, q8, q994, by decide +kernel, by decide +kernel, by decide +kernel⟩
theorem q940 : Cond.instanceMethod ⟨"StreetNumbersModel", "harm", "(II)I"⟩ ∈ gT := gT_t 940 (by decide +kernel) rfl
theorem q941 : Cond.selects "StreetNumbersModel" ⟨"StreetNumbersModel", "harm", "(II)I"⟩ ⟨"StreetNumbersModel", "harm", "(II)I"⟩ ∈ gT := gT_t 941 (by decide +kernel) rfl
theorem q942 : Cond.code ⟨"StreetNumbersModel", "harm", "(II)I"⟩ prog_9_method_42_code 3 (Option.some FieldType.int) ∈ gT := gT_t 942 (by decide +kernel) rfl
theorem cal_X7_harm : Cal yX7_harm cX7_harm 3 (some .int) 2 := ⟨q940, q941, q8, q942, by decide +kernel, by decide +kernel, by decide +kernel⟩
theorem q883 : Cond.instanceMethod ⟨"StreetNumbersModel", "houseIs", "(II)I"⟩ ∈ gT := gT_t 883 (by decide +kernel) rfl
theorem q884 : Cond.selects "StreetNumbersModel" ⟨"StreetNumbersModel", "houseIs", "(II)I"⟩ ⟨"StreetNumbersModel", "houseIs", "(II)I"⟩ ∈ gT := gT_t 884 (by decide +kernel) rfl
theorem q885 : Cond.code ⟨"StreetNumbersModel", "houseIs", "(II)I"⟩ prog_9_method_38_code 3 (Option.some FieldType.int) ∈ gT := gT_t 885 (by decide +kernel) rfl
theorem cal_X7_houseIs : Cal yX7_houseIs cX7_houseIs 3 (some .int) 2 := ⟨q883, q884, q8, q885, by decide +kernel, by decide +kernel, by decide +kernel⟩
theorem q1132 : Cond.instanceMethod ⟨"StreetNumbersModel", "image", "()I"⟩ ∈ gT := gT_t 1132 (by decide +kernel) rfl
theorem q1133 : Cond.selects "StreetNumbersModel" ⟨"StreetNumbersModel", "image", "()I"⟩ ⟨"StreetNumbersModel", "image", "()I"⟩ ∈ gT := gT_t 1133 (by decide +kernel) rfl
theorem q1134 : Cond.code ⟨"StreetNumbersModel", "image", "()I"⟩ prog_9_method_88_code 1 (Option.some FieldType.int) ∈ gT := gT_t 1134 (by decide +kernel) rfl
theorem cal_X7_image : Cal yX7_image cX7_image 1 (some .int) 0 := ⟨q1132, q1133, q8, q1134, by decide +kernel, by decide +kernel, by decide +kernel⟩
theorem q1128 : Cond.instanceMethod ⟨"StreetNumbersModel", "judge", "(I)I"⟩ ∈ gT := gT_t 1128 (by decide +kernel) rfl
theorem q1129 : Cond.selects "StreetNumbersModel" ⟨"StreetNumbersModel", "judge", "(I)I"⟩ ⟨"StreetNumbersModel", "judge", "(I)I"⟩ ∈ gT := gT_t 1129 (by decide +kernel) rfl
theorem q1130 : Cond.code ⟨"StreetNumbersModel", "judge", "(I)I"⟩ prog_9_method_87_code 4 (Option.some FieldType.int) ∈ gT := gT_t 1130 (by decide +kernel) rfl
theorem cal_X7_judge : Cal yX7_judge cX7_judge 4 (some .int) 1 := ⟨q1128, q1129, q8, q1130, by decide +kernel, by decide +kernel, by decide +kernel⟩
theorem q969 : Cond.instanceMethod ⟨"StreetNumbersModel", "law", "(IIII)I"⟩ ∈ gT := gT_t 969 (by decide +kernel) rfl
theorem q970 : Cond.selects "StreetNumbersModel" ⟨"StreetNumbersModel", "law", "(IIII)I"⟩ ⟨"StreetNumbersModel", "law", "(IIII)I"⟩ ∈ gT := gT_t 970 (by decide +kernel) rfl
theorem q971 : Cond.code ⟨"StreetNumbersModel", "law", "(IIII)I"⟩ prog_9_method_46_code 5 (Option.some FieldType.int) ∈ gT := gT_t 971 (by decide +kernel) rfl
theorem cal_X7_law : Cal yX7_law cX7_law 5 (some .int) 4 := ⟨q969, q970, q8, q971, by decide +kernel, by decide +kernel, by decide +kernel⟩
theorem q996 : Cond.instanceMethod ⟨"StreetNumbersModel", "least", "(I)I"⟩ ∈ gT := gT_t 996 (by decide +kernel) rfl
theorem q997 : Cond.selects "StreetNumbersModel" ⟨"StreetNumbersModel", "least", "(I)I"⟩ ⟨"StreetNumbersModel", "least", "(I)I"⟩ ∈ gT := gT_t 997 (by decide +kernel) rfl
theorem q998 : Cond.code ⟨"StreetNumbersModel", "least", "(I)I"⟩ prog_9_method_55_code 5 (Option.some FieldType.int) ∈ gT := gT_t 998 (by decide +kernel) rfl
theorem cal_X7_least : Cal yX7_least cX7_least 5 (some .int) 1 := ⟨q996, q997, q8, q998, by decide +kernel, by decide +kernel, by decide +kernel⟩
theorem q1059 : Cond.instanceMethod ⟨"StreetNumbersModel", "loose", "(I)I"⟩ ∈ gT := gT_t 1059 (by decide +kernel) rfl
theorem q1060 : Cond.selects "StreetNumbersModel" ⟨"StreetNumbersModel", "loose", "(I)I"⟩ ⟨"StreetNumbersModel", "loose", "(I)I"⟩ ∈ gT := gT_t 1060 (by decide +kernel) rfl
theorem q1061 : Cond.code ⟨"StreetNumbersModel", "loose", "(I)I"⟩ prog_9_method_69_code 4 (Option.some FieldType.int) ∈ gT := gT_t 1061 (by decide +kernel) rfl
theorem cal_X7_loose : Cal yX7_loose cX7_loose 4 (some .int) 1 := ⟨q1059, q1060, q8, q1061, by decide +kernel, by decide +kernel, by decide +kernel⟩
theorem q1120 : Cond.instanceMethod ⟨"StreetNumbersModel", "move", "(IIIII)I"⟩ ∈ gT := gT_t 1120 (by decide +kernel) rfl
theorem q1121 : Cond.selects "StreetNumbersModel" ⟨"StreetNumbersModel", "move", "(IIIII)I"⟩ ⟨"StreetNumbersModel", "move", "(IIIII)I"⟩ ∈ gT := gT_t 1121 (by decide +kernel) rfl
theorem q1122 : Cond.code ⟨"StreetNumbersModel", "move", "(IIIII)I"⟩ prog_9_method_84_code 7 (Option.some FieldType.int) ∈ gT := gT_t 1122 (by decide +kernel) rfl
theorem cal_X7_move : Cal yX7_move cX7_move 7 (some .int) 5 := ⟨q1120, q1121, q8, q1122, by decide +kernel, by decide +kernel, by decide +kernel⟩
theorem q1037 : Cond.instanceMethod ⟨"StreetNumbersModel", "odds", "(I)I"⟩ ∈ gT := gT_t 1037 (by decide +kernel) rfl
theorem q1038 : Cond.selects "StreetNumbersModel" ⟨"StreetNumbersModel", "odds", "(I)I"⟩ ⟨"StreetNumbersModel", "odds", "(I)I"⟩ ∈ gT := gT_t 1038 (by decide +kernel) rfl
theorem q1039 : Cond.code ⟨"StreetNumbersModel", "odds", "(I)I"⟩ prog_9_method_64_code 4 (Option.some FieldType.int) ∈ gT := gT_t 1039 (by decide +kernel) rfl
theorem cal_X7_odds : Cal yX7_odds cX7_odds 4 (some .int) 1 := ⟨q1037, q1038, q8, q1039, by decide +kernel, by decide +kernel, by decide +kernel⟩
theorem q1025 : Cond.instanceMethod ⟨"StreetNumbersModel", "order", "()I"⟩ ∈ gT := gT_t 1025 (by decide +kernel) rfl
theorem q1026 : Cond.selects "StreetNumbersModel" ⟨"StreetNumbersModel", "order", "()I"⟩ ⟨"StreetNumbersModel", "order", "()I"⟩ ∈ gT := gT_t 1026 (by decide +kernel) rfl
theorem q1027 : Cond.code ⟨"StreetNumbersModel", "order", "()I"⟩ prog_9_method_60_code 1 (Option.some FieldType.int) ∈ gT := gT_t 1027 (by decide +kernel) rfl
theorem cal_X7_order : Cal yX7_order cX7_order 1 (some .int) 0 := ⟨q1025, q1026, q8, q1027, by decide +kernel, by decide +kernel, by decide +kernel⟩
theorem q1124 : Cond.instanceMethod ⟨"StreetNumbersModel", "plates", "(I)I"⟩ ∈ gT := gT_t 1124 (by decide +kernel) rfl
theorem q1125 : Cond.selects "StreetNumbersModel" ⟨"StreetNumbersModel", "plates", "(I)I"⟩ ⟨"StreetNumbersModel", "plates", "(I)I"⟩ ∈ gT := gT_t 1125 (by decide +kernel) rfl
theorem q1126 : Cond.code ⟨"StreetNumbersModel", "plates", "(I)I"⟩ prog_9_method_86_code 4 (Option.some FieldType.int) ∈ gT := gT_t 1126 (by decide +kernel) rfl
theorem cal_X7_plates : Cal yX7_plates cX7_plates 4 (some .int) 1 := ⟨q1124, q1125, q8, q1126, by decide +kernel, by decide +kernel, by decide +kernel⟩
theorem q1116 : Cond.instanceMethod ⟨"StreetNumbersModel", "put", "(III)I"⟩ ∈ gT := gT_t 1116 (by decide +kernel) rfl
theorem q1117 : Cond.selects "StreetNumbersModel" ⟨"StreetNumbersModel", "put", "(III)I"⟩ ⟨"StreetNumbersModel", "put", "(III)I"⟩ ∈ gT := gT_t 1117 (by decide +kernel) rfl
theorem q1118 : Cond.code ⟨"StreetNumbersModel", "put", "(III)I"⟩ prog_9_method_83_code 5 (Option.some FieldType.int) ∈ gT := gT_t 1118 (by decide +kernel) rfl
theorem cal_X7_put : Cal yX7_put cX7_put 5 (some .int) 3 := ⟨q1116, q1117, q8, q1118, by decide +kernel, by decide +kernel, by decide +kernel⟩
theorem q956 : Cond.instanceMethod ⟨"StreetNumbersModel", "renames", "(II)I"⟩ ∈ gT := gT_t 956 (by decide +kernel) rfl
theorem q957 : Cond.selects "StreetNumbersModel" ⟨"StreetNumbersModel", "renames", "(II)I"⟩ ⟨"StreetNumbersModel", "renames", "(II)I"⟩ ∈ gT := gT_t 957 (by decide +kernel) rfl
theorem q958 : Cond.code ⟨"StreetNumbersModel", "renames", "(II)I"⟩ prog_9_method_44_code 3 (Option.some FieldType.int) ∈ gT := gT_t 958 (by decide +kernel) rfl
theorem cal_X7_renames : Cal yX7_renames cX7_renames 3 (some .int) 2 := ⟨q956, q957, q8, q958, by decide +kernel, by decide +kernel, by decide +kernel⟩
theorem q973 : Cond.instanceMethod ⟨"StreetNumbersModel", "renumber", "(I)I"⟩ ∈ gT := gT_t 973 (by decide +kernel) rfl
theorem q974 : Cond.selects "StreetNumbersModel" ⟨"StreetNumbersModel", "renumber", "(I)I"⟩ ⟨"StreetNumbersModel", "renumber", "(I)I"⟩ ∈ gT := gT_t 974 (by decide +kernel) rfl
theorem q975 : Cond.code ⟨"StreetNumbersModel", "renumber", "(I)I"⟩ prog_9_method_50_code 2 (Option.some FieldType.int) ∈ gT := gT_t 975 (by decide +kernel) rfl
theorem cal_X7_renumber : Cal yX7_renumber cX7_renumber 2 (some .int) 1 := ⟨q973, q974, q8, q975, by decide +kernel, by decide +kernel, by decide +kernel⟩
theorem q1139 : Cond.instanceMethod ⟨"StreetNumbersModel", "restore", "()I"⟩ ∈ gT := gT_t 1139 (by decide +kernel) rfl
theorem q1140 : Cond.selects "StreetNumbersModel" ⟨"StreetNumbersModel", "restore", "()I"⟩ ⟨"StreetNumbersModel", "restore", "()I"⟩ ∈ gT := gT_t 1140 (by decide +kernel) rfl
theorem q1141 : Cond.code ⟨"StreetNumbersModel", "restore", "()I"⟩ prog_9_method_89_code 1 (Option.some FieldType.int) ∈ gT := gT_t 1141 (by decide +kernel) rfl
theorem cal_X7_restore : Cal yX7_restore cX7_restore 1 (some .int) 0 := ⟨q1139, q1140, q8, q1141, by decide +kernel, by decide +kernel, by decide +kernel⟩
theorem q1029 : Cond.instanceMethod ⟨"StreetNumbersModel", "search", "(II)I"⟩ ∈ gT := gT_t 1029 (by decide +kernel) rfl
theorem q1030 : Cond.selects "StreetNumbersModel" ⟨"StreetNumbersModel", "search", "(II)I"⟩ ⟨"StreetNumbersModel", "search", "(II)I"⟩ ∈ gT := gT_t 1030 (by decide +kernel) rfl
theorem q1031 : Cond.code ⟨"StreetNumbersModel", "search", "(II)I"⟩ prog_9_method_62_code 4 (Option.some FieldType.int) ∈ gT := gT_t 1031 (by decide +kernel) rfl
theorem cal_X7_search : Cal yX7_search cX7_search 4 (some .int) 2 := ⟨q1029, q1030, q8, q1031, by decide +kernel, by decide +kernel, by decide +kernel⟩
theorem q1072 : Cond.instanceMethod ⟨"StreetNumbersModel", "seed", "(I)I"⟩ ∈ gT := gT_t 1072 (by decide +kernel) rfl
theorem q1073 : Cond.selects "StreetNumbersModel" ⟨"StreetNumbersModel", "seed", "(I)I"⟩ ⟨"StreetNumbersModel", "seed", "(I)I"⟩ ∈ gT := gT_t 1073 (by decide +kernel) rfl
theorem q1074 : Cond.code ⟨"StreetNumbersModel", "seed", "(I)I"⟩ prog_9_method_70_code 2 (Option.some FieldType.int) ∈ gT := gT_t 1074 (by decide +kernel) rfl
theorem cal_X7_seed : Cal yX7_seed cX7_seed 2 (some .int) 1 := ⟨q1072, q1073, q8, q1074, by decide +kernel, by decide +kernel, by decide +kernel⟩
theorem q1112 : Cond.instanceMethod ⟨"StreetNumbersModel", "sheet", "(III)I"⟩ ∈ gT := gT_t 1112 (by decide +kernel) rfl
theorem q1113 : Cond.selects "StreetNumbersModel" ⟨"StreetNumbersModel", "sheet", "(III)I"⟩ ⟨"StreetNumbersModel", "sheet", "(III)I"⟩ ∈ gT := gT_t 1113 (by decide +kernel) rfl
theorem q1114 : Cond.code ⟨"StreetNumbersModel", "sheet", "(III)I"⟩ prog_9_method_82_code 5 (Option.some FieldType.int) ∈ gT := gT_t 1114 (by decide +kernel) rfl
theorem cal_X7_sheet : Cal yX7_sheet cX7_sheet 5 (some .int) 3 := ⟨q1112, q1113, q8, q1114, by decide +kernel, by decide +kernel, by decide +kernel⟩
theorem q917 : Cond.instanceMethod ⟨"StreetNumbersModel", "standing", "(I)I"⟩ ∈ gT := gT_t 917 (by decide +kernel) rfl
theorem q918 : Cond.selects "StreetNumbersModel" ⟨"StreetNumbersModel", "standing", "(I)I"⟩ ⟨"StreetNumbersModel", "standing", "(I)I"⟩ ∈ gT := gT_t 918 (by decide +kernel) rfl
theorem q919 : Cond.code ⟨"StreetNumbersModel", "standing", "(I)I"⟩ prog_9_method_39_code 2 (Option.some FieldType.int) ∈ gT := gT_t 919 (by decide +kernel) rfl
theorem cal_X7_standing : Cal yX7_standing cX7_standing 2 (some .int) 1 := ⟨q917, q918, q8, q919, by decide +kernel, by decide +kernel, by decide +kernel⟩
theorem q1143 : Cond.instanceMethod ⟨"StreetNumbersModel", "tell", "(I)I"⟩ ∈ gT := gT_t 1143 (by decide +kernel) rfl
theorem q1144 : Cond.selects "StreetNumbersModel" ⟨"StreetNumbersModel", "tell", "(I)I"⟩ ⟨"StreetNumbersModel", "tell", "(I)I"⟩ ∈ gT := gT_t 1144 (by decide +kernel) rfl
theorem q1145 : Cond.code ⟨"StreetNumbersModel", "tell", "(I)I"⟩ prog_9_method_90_code 2 (Option.some FieldType.int) ∈ gT := gT_t 1145 (by decide +kernel) rfl
theorem cal_X7_tell : Cal yX7_tell cX7_tell 2 (some .int) 1 := ⟨q1143, q1144, q8, q1145, by decide +kernel, by decide +kernel, by decide +kernel⟩
theorem q809 : Cond.instanceMethod ⟨"StreetNumbersModel", "text", "(I)I"⟩ ∈ gT := gT_t 809 (by decide +kernel) rfl
theorem q810 : Cond.selects "StreetNumbersModel" ⟨"StreetNumbersModel", "text", "(I)I"⟩ ⟨"StreetNumbersModel", "text", "(I)I"⟩ ∈ gT := gT_t 810 (by decide +kernel) rfl
theorem q811 : Cond.code ⟨"StreetNumbersModel", "text", "(I)I"⟩ prog_9_method_24_code 5 (Option.some FieldType.int) ∈ gT := gT_t 811 (by decide +kernel) rfl
theorem cal_X7_text : Cal yX7_text cX7_text 5 (some .int) 1 := ⟨q809, q810, q8, q811, by decide +kernel, by decide +kernel, by decide +kernel⟩
theorem q1155 : Cond.instanceMethod ⟨"StreetNumbersModel", "told", "(I)I"⟩ ∈ gT := gT_t 1155 (by decide +kernel) rfl
theorem q1156 : Cond.selects "StreetNumbersModel" ⟨"StreetNumbersModel", "told", "(I)I"⟩ ⟨"StreetNumbersModel", "told", "(I)I"⟩ ∈ gT := gT_t 1156 (by decide +kernel) rfl
theorem q1157 : Cond.code ⟨"StreetNumbersModel", "told", "(I)I"⟩ prog_9_method_93_code 2 (Option.some FieldType.int) ∈ gT := gT_t 1157 (by decide +kernel) rfl
theorem cal_X7_told : Cal yX7_told cX7_told 2 (some .int) 1 := ⟨q1155, q1156, q8, q1157, by decide +kernel, by decide +kernel, by decide +kernel⟩
theorem q853 : Cond.instanceMethod ⟨"StreetNumbersModel", "untell", "(I)I"⟩ ∈ gT := gT_t 853 (by decide +kernel) rfl
theorem q854 : Cond.selects "StreetNumbersModel" ⟨"StreetNumbersModel", "untell", "(I)I"⟩ ⟨"StreetNumbersModel", "untell", "(I)I"⟩ ∈ gT := gT_t 854 (by decide +kernel) rfl
theorem q855 : Cond.code ⟨"StreetNumbersModel", "untell", "(I)I"⟩ prog_9_method_25_code 3 (Option.some FieldType.int) ∈ gT := gT_t 855 (by decide +kernel) rfl
theorem cal_X7_untell : Cal yX7_untell cX7_untell 3 (some .int) 1 := ⟨q853, q854, q8, q855, by decide +kernel, by decide +kernel, by decide +kernel⟩
theorem q1076 : Cond.instanceMethod ⟨"StreetNumbersModel", "voice", "(III)I"⟩ ∈ gT := gT_t 1076 (by decide +kernel) rfl
theorem q1077 : Cond.selects "StreetNumbersModel" ⟨"StreetNumbersModel", "voice", "(III)I"⟩ ⟨"StreetNumbersModel", "voice", "(III)I"⟩ ∈ gT := gT_t 1077 (by decide +kernel) rfl
theorem q1078 : Cond.code ⟨"StreetNumbersModel", "voice", "(III)I"⟩ prog_9_method_79_code 6 (Option.some FieldType.int) ∈ gT := gT_t 1078 (by decide +kernel) rfl
theorem cal_X7_voice : Cal yX7_voice cX7_voice 6 (some .int) 3 := ⟨q1076, q1077, q8, q1078, by decide +kernel, by decide +kernel, by decide +kernel⟩
theorem q984 : Cond.instanceMethod ⟨"StreetNumbersModel", "would", "(I)I"⟩ ∈ gT := gT_t 984 (by decide +kernel) rfl
theorem q985 : Cond.selects "StreetNumbersModel" ⟨"StreetNumbersModel", "would", "(I)I"⟩ ⟨"StreetNumbersModel", "would", "(I)I"⟩ ∈ gT := gT_t 985 (by decide +kernel) rfl
theorem q986 : Cond.code ⟨"StreetNumbersModel", "would", "(I)I"⟩ prog_9_method_51_code 2 (Option.some FieldType.int) ∈ gT := gT_t 986 (by decide +kernel) rfl
theorem cal_X7_would : Cal yX7_would cX7_would 2 (some .int) 1 := ⟨q984, q985, q8, q986, by decide +kernel, by decide +kernel, by decide +kernel⟩
theorem q965 : Cond.instanceMethod ⟨"StreetNumbersModel", "year", "(I)I"⟩ ∈ gT := gT_t 965 (by decide +kernel) rfl
theorem q966 : Cond.selects "StreetNumbersModel" ⟨"StreetNumbersModel", "year", "(I)I"⟩ ⟨"StreetNumbersModel", "year", "(I)I"⟩ ∈ gT := gT_t 966 (by decide +kernel) rfl
theorem q967 : Cond.code ⟨"StreetNumbersModel", "year", "(I)I"⟩ prog_9_method_45_code 2 (Option.some FieldType.int) ∈ gT := gT_t 967 (by decide +kernel) rfl
theorem cal_X7_year : Cal yX7_year cX7_year 2 (some .int) 1 := ⟨q965, q966, q8, q967, by decide +kernel, by decide +kernel, by decide +kernel⟩
/-! The law: its loop and its start -/
theorem in_s {i L : Nat} (hL : L ≤ 3072) (h : 6 * i + 6 ≤ L) (k : Nat) (hk : k < 6) : vp_in (nI (6 * i) + nI k) L := by
  rw [nI_add]
  exact vp_in_nI (by omega) (by omega)
set_option maxRecDepth 100000 in
set_option maxHeartbeats 4000000 in
theorem law_c0 {p : Program} {e : Env} {s : State} {m : MethodId} {below : List Frame} {meth : Method} {c : Code} {l : Launch} {b L : Nat} {xs : Nat → Int32} {Γ : Gm} (hL : L ≤ 3072) (X : Cx p s m #[Value.ref b] meth c code RL 4 ret Γ) (hX : va_X b L xs s s.heap) (hbl : b < s.heap.size) (hbA : ¬ Rg Γ s.heap.size b) {i : Nat} (h6 : 6 * i + 6 ≤ L) {σ : St} {H : Heap} {locs : List Loc} {ls : Array Slot} (hI : Inv σ) (M : Mv Γ σ s H locs) (hl : lv_has ls 4 [(0, .ref b), (1, .ref (Γ.1 0)), (2, .ref (Γ.1 66)), (3, .int (nI (6 * i)))]) (K : ∀ (σ : St) (H : Heap) (locs : List Loc) (ls : Array Slot), Inv σ → Mv Γ σ s H locs → lv_has ls 4 [(0, .ref b), (1, .ref (Γ.1 0)), (2, .ref (Γ.1 66)), (3, .int (nI (6 * i)))] → W p l e room_1 s m #[Value.ref b] below meth c H locs 80 5888 (lw_Z below #[Value.ref b] s) (F0 m 1257 ls [])) : W p l e room_1 s m #[Value.ref b] below meth c H locs 80 5888 (lw_Z below #[Value.ref b] s) (F0 m 196 ls []) := by
  refine lv_aload_n X.x X.b dL_law_196 rfl (lv_at hl 1 rfl) ?_
  refine lv_aload_n X.x X.b dL_law_197 rfl (lv_at hl 0 rfl) ?_
  refine lv_iload_n X.x X.b dL_law_198 rfl (lv_at hl 3 rfl) ?_
  refine lv_iconst (v := 1) X.x X.b dL_law_199 (by decide) ?_
  refine lv_iadd X.x X.b dL_law_200 ?_
  refine va_sld X.x X.b hX hbl hbA M.2 (in_s hL h6 1 (by decide)) dL_law_201 ?_
  refine lv_aload_n X.x X.b dL_law_202 rfl (lv_at hl 0 rfl) ?_
  refine lv_iload_n X.x X.b dL_law_203 rfl (lv_at hl 3 rfl) ?_
  refine lv_iconst (v := 2) X.x X.b dL_law_204 (by decide) ?_
  refine lv_iadd X.x X.b dL_law_205 ?_
  refine va_sld X.x X.b hX hbl hbA M.2 (in_s hL h6 2 (by decide)) dL_law_206 ?_
  refine lv_aload_n X.x X.b dL_law_207 rfl (lv_at hl 0 rfl) ?_
  refine lv_iload_n X.x X.b dL_law_208 rfl (lv_at hl 3 rfl) ?_
  refine lv_iconst (v := 3) X.x X.b dL_law_209 (by decide) ?_
  refine lv_iadd X.x X.b dL_law_210 ?_
  refine va_sld X.x X.b hX hbl hbA M.2 (in_s hL h6 3 (by decide)) dL_law_211 ?_
  obtain ⟨r0, σ1, σ2, h1, h2, hI⟩ := P_build hI (xs (nI (6 * i) + 1).toNatClampNeg) (xs (nI (6 * i) + 2).toNatClampNeg) (xs (nI (6 * i) + 3).toNatClampNeg)
  refine r_runI M (r_callV (As := [.int (xs (nI (6 * i) + 1).toNatClampNeg), .int (xs (nI (6 * i) + 2).toNatClampNeg), .int (xs (nI (6 * i) + 3).toNatClampNeg)]) X M (lv_sub hl [] rfl) (T_X6_build h1 _) cal_X6_build q213 ⟨by decide, by decide⟩ hq_0 (el_0 _ _) rfl rfl rfl (Nat.le_of_ble_eq_true rfl) ⟨by decide, by decide⟩ dL_law_212) (fun H locs M => ?_)
  refine lv_aload_n X.x X.b dL_law_215 rfl (lv_at hl 2 rfl) ?_
  refine lv_aload_n X.x X.b dL_law_216 rfl (lv_at hl 0 rfl) ?_
  refine lv_iload_n X.x X.b dL_law_217 rfl (lv_at hl 3 rfl) ?_
  refine lv_iconst (v := 1) X.x X.b dL_law_218 (by decide) ?_
  refine lv_iadd X.x X.b dL_law_219 ?_
  refine va_sld X.x X.b hX hbl hbA M.2 (in_s hL h6 1 (by decide)) dL_law_220 ?_
  refine lv_aload_n X.x X.b dL_law_221 rfl (lv_at hl 0 rfl) ?_
  refine lv_iload_n X.x X.b dL_law_222 rfl (lv_at hl 3 rfl) ?_
  refine lv_iconst (v := 2) X.x X.b dL_law_223 (by decide) ?_
  refine lv_iadd X.x X.b dL_law_224 ?_
  refine va_sld X.x X.b hX hbl hbA M.2 (in_s hL h6 2 (by decide)) dL_law_225 ?_
  refine lv_aload_n X.x X.b dL_law_226 rfl (lv_at hl 0 rfl) ?_
  refine lv_iload_n X.x X.b dL_law_227 rfl (lv_at hl 3 rfl) ?_
  refine lv_iconst (v := 3) X.x X.b dL_law_228 (by decide) ?_
  refine lv_iadd X.x X.b dL_law_229 ?_
  refine va_sld X.x X.b hX hbl hbA M.2 (in_s hL h6 3 (by decide)) dL_law_230 ?_
  refine r_runI M (r_callV (As := [.int (xs (nI (6 * i) + 1).toNatClampNeg), .int (xs (nI (6 * i) + 2).toNatClampNeg), .int (xs (nI (6 * i) + 3).toNatClampNeg)]) X M (lv_sub hl [] rfl) (T_X7_build h2 _) cal_X7_build q860 ⟨by decide, by decide⟩ hq_66 (el_66 _ _) rfl rfl rfl (Nat.le_of_ble_eq_true rfl) ⟨by decide, by decide⟩ dL_law_231) (fun H locs M => ?_)
  refine lv_icmp_eq (tgt := 1257) X.x X.b dL_law_234 (by decide) (fun _ => ?_) (fun c1 => absurd rfl c1)
  exact K _ H locs ls hI M hl
set_option maxRecDepth 100000 in
set_option maxHeartbeats 4000000 in
theorem law_c1 {p : Program} {e : Env} {s : State} {m : MethodId} {below : List Frame} {meth : Method} {c : Code} {l : Launch} {b L : Nat} {xs : Nat → Int32} {Γ : Gm} (hL : L ≤ 3072) (X : Cx p s m #[Value.ref b] meth c code RL 4 ret Γ) (hX : va_X b L xs s s.heap) (hbl : b < s.heap.size) (hbA : ¬ Rg Γ s.heap.size b) {i : Nat} (h6 : 6 * i + 6 ≤ L) {σ : St} {H : Heap} {locs : List Loc} {ls : Array Slot} (hI : Inv σ) (M : Mv Γ σ s H locs) (hl : lv_has ls 4 [(0, .ref b), (1, .ref (Γ.1 0)), (2, .ref (Γ.1 66)), (3, .int (nI (6 * i)))]) (K : ∀ (σ : St) (H : Heap) (locs : List Loc) (ls : Array Slot), Inv σ → Mv Γ σ s H locs → lv_has ls 4 [(0, .ref b), (1, .ref (Γ.1 0)), (2, .ref (Γ.1 66)), (3, .int (nI (6 * i)))] → W p l e room_1 s m #[Value.ref b] below meth c H locs 80 5888 (lw_Z below #[Value.ref b] s) (F0 m 1257 ls [])) : W p l e room_1 s m #[Value.ref b] below meth c H locs 80 5888 (lw_Z below #[Value.ref b] s) (F0 m 239 ls []) := by
  refine lv_aload_n X.x X.b dL_law_239 rfl (lv_at hl 1 rfl) ?_
  refine lv_aload_n X.x X.b dL_law_240 rfl (lv_at hl 0 rfl) ?_
  refine lv_iload_n X.x X.b dL_law_241 rfl (lv_at hl 3 rfl) ?_
  refine lv_iconst (v := 1) X.x X.b dL_law_242 (by decide) ?_
  refine lv_iadd X.x X.b dL_law_243 ?_
  refine va_sld X.x X.b hX hbl hbA M.2 (in_s hL h6 1 (by decide)) dL_law_244 ?_
  refine lv_aload_n X.x X.b dL_law_245 rfl (lv_at hl 0 rfl) ?_
  refine lv_iload_n X.x X.b dL_law_246 rfl (lv_at hl 3 rfl) ?_
  refine lv_iconst (v := 2) X.x X.b dL_law_247 (by decide) ?_
  refine lv_iadd X.x X.b dL_law_248 ?_
  refine va_sld X.x X.b hX hbl hbA M.2 (in_s hL h6 2 (by decide)) dL_law_249 ?_
  obtain ⟨r0, σ1, σ2, h1, h2, hI⟩ := P_houseIs hI (xs (nI (6 * i) + 1).toNatClampNeg) (xs (nI (6 * i) + 2).toNatClampNeg)
  refine r_runI M (r_callV (As := [.int (xs (nI (6 * i) + 1).toNatClampNeg), .int (xs (nI (6 * i) + 2).toNatClampNeg)]) X M (lv_sub hl [] rfl) (T_X6_houseIs h1 _) cal_X6_houseIs q247 ⟨by decide, by decide⟩ hq_0 (el_0 _ _) rfl rfl rfl (Nat.le_of_ble_eq_true rfl) ⟨by decide, by decide⟩ dL_law_250) (fun H locs M => ?_)
  refine lv_aload_n X.x X.b dL_law_253 rfl (lv_at hl 2 rfl) ?_
  refine lv_aload_n X.x X.b dL_law_254 rfl (lv_at hl 0 rfl) ?_
  refine lv_iload_n X.x X.b dL_law_255 rfl (lv_at hl 3 rfl) ?_
  refine lv_iconst (v := 1) X.x X.b dL_law_256 (by decide) ?_
  refine lv_iadd X.x X.b dL_law_257 ?_
  refine va_sld X.x X.b hX hbl hbA M.2 (in_s hL h6 1 (by decide)) dL_law_258 ?_
  refine lv_aload_n X.x X.b dL_law_259 rfl (lv_at hl 0 rfl) ?_
  refine lv_iload_n X.x X.b dL_law_260 rfl (lv_at hl 3 rfl) ?_
  refine lv_iconst (v := 2) X.x X.b dL_law_261 (by decide) ?_
  refine lv_iadd X.x X.b dL_law_262 ?_
  refine va_sld X.x X.b hX hbl hbA M.2 (in_s hL h6 2 (by decide)) dL_law_263 ?_
  refine r_runI M (r_callV (As := [.int (xs (nI (6 * i) + 1).toNatClampNeg), .int (xs (nI (6 * i) + 2).toNatClampNeg)]) X M (lv_sub hl [] rfl) (T_X7_houseIs h2 _) cal_X7_houseIs q882 ⟨by decide, by decide⟩ hq_66 (el_66 _ _) rfl rfl rfl (Nat.le_of_ble_eq_true rfl) ⟨by decide, by decide⟩ dL_law_264) (fun H locs M => ?_)
  refine lv_icmp_eq (tgt := 1257) X.x X.b dL_law_267 (by decide) (fun _ => ?_) (fun c1 => absurd rfl c1)
  exact K _ H locs ls hI M hl
set_option maxRecDepth 100000 in
set_option maxHeartbeats 4000000 in
theorem law_c2 {p : Program} {e : Env} {s : State} {m : MethodId} {below : List Frame} {meth : Method} {c : Code} {l : Launch} {b L : Nat} {xs : Nat → Int32} {Γ : Gm} (hL : L ≤ 3072) (X : Cx p s m #[Value.ref b] meth c code RL 4 ret Γ) (hX : va_X b L xs s s.heap) (hbl : b < s.heap.size) (hbA : ¬ Rg Γ s.heap.size b) {i : Nat} (h6 : 6 * i + 6 ≤ L) {σ : St} {H : Heap} {locs : List Loc} {ls : Array Slot} (hI : Inv σ) (M : Mv Γ σ s H locs) (hl : lv_has ls 4 [(0, .ref b), (1, .ref (Γ.1 0)), (2, .ref (Γ.1 66)), (3, .int (nI (6 * i)))]) (K : ∀ (σ : St) (H : Heap) (locs : List Loc) (ls : Array Slot), Inv σ → Mv Γ σ s H locs → lv_has ls 4 [(0, .ref b), (1, .ref (Γ.1 0)), (2, .ref (Γ.1 66)), (3, .int (nI (6 * i)))] → W p l e room_1 s m #[Value.ref b] below meth c H locs 80 5888 (lw_Z below #[Value.ref b] s) (F0 m 1257 ls [])) : W p l e room_1 s m #[Value.ref b] below meth c H locs 80 5888 (lw_Z below #[Value.ref b] s) (F0 m 272 ls []) := by
  refine lv_aload_n X.x X.b dL_law_272 rfl (lv_at hl 1 rfl) ?_
  refine lv_aload_n X.x X.b dL_law_273 rfl (lv_at hl 0 rfl) ?_
  refine lv_iload_n X.x X.b dL_law_274 rfl (lv_at hl 3 rfl) ?_
  refine lv_iconst (v := 1) X.x X.b dL_law_275 (by decide) ?_
  refine lv_iadd X.x X.b dL_law_276 ?_
  refine va_sld X.x X.b hX hbl hbA M.2 (in_s hL h6 1 (by decide)) dL_law_277 ?_
  obtain ⟨r0, σ1, σ2, h1, h2, hI⟩ := P_standing hI (xs (nI (6 * i) + 1).toNatClampNeg)
  refine r_runI M (r_callV (As := [.int (xs (nI (6 * i) + 1).toNatClampNeg)]) X M (lv_sub hl [] rfl) (T_X6_standing h1 _) cal_X6_standing q314 ⟨by decide, by decide⟩ hq_0 (el_0 _ _) rfl rfl rfl (Nat.le_of_ble_eq_true rfl) ⟨by decide, by decide⟩ dL_law_278) (fun H locs M => ?_)
  refine lv_aload_n X.x X.b dL_law_281 rfl (lv_at hl 2 rfl) ?_
  refine lv_aload_n X.x X.b dL_law_282 rfl (lv_at hl 0 rfl) ?_
  refine lv_iload_n X.x X.b dL_law_283 rfl (lv_at hl 3 rfl) ?_
  refine lv_iconst (v := 1) X.x X.b dL_law_284 (by decide) ?_
  refine lv_iadd X.x X.b dL_law_285 ?_
  refine va_sld X.x X.b hX hbl hbA M.2 (in_s hL h6 1 (by decide)) dL_law_286 ?_
  refine r_runI M (r_callV (As := [.int (xs (nI (6 * i) + 1).toNatClampNeg)]) X M (lv_sub hl [] rfl) (T_X7_standing h2 _) cal_X7_standing q916 ⟨by decide, by decide⟩ hq_66 (el_66 _ _) rfl rfl rfl (Nat.le_of_ble_eq_true rfl) ⟨by decide, by decide⟩ dL_law_287) (fun H locs M => ?_)
  refine lv_icmp_eq (tgt := 1257) X.x X.b dL_law_290 (by decide) (fun _ => ?_) (fun c1 => absurd rfl c1)
  exact K _ H locs ls hI M hl
set_option maxRecDepth 100000 in
set_option maxHeartbeats 4000000 in
theorem law_c3 {p : Program} {e : Env} {s : State} {m : MethodId} {below : List Frame} {meth : Method} {c : Code} {l : Launch} {b L : Nat} {xs : Nat → Int32} {Γ : Gm} (hL : L ≤ 3072) (X : Cx p s m #[Value.ref b] meth c code RL 4 ret Γ) (hX : va_X b L xs s s.heap) (hbl : b < s.heap.size) (hbA : ¬ Rg Γ s.heap.size b) {i : Nat} (h6 : 6 * i + 6 ≤ L) {σ : St} {H : Heap} {locs : List Loc} {ls : Array Slot} (hI : Inv σ) (M : Mv Γ σ s H locs) (hl : lv_has ls 4 [(0, .ref b), (1, .ref (Γ.1 0)), (2, .ref (Γ.1 66)), (3, .int (nI (6 * i)))]) (K : ∀ (σ : St) (H : Heap) (locs : List Loc) (ls : Array Slot), Inv σ → Mv Γ σ s H locs → lv_has ls 4 [(0, .ref b), (1, .ref (Γ.1 0)), (2, .ref (Γ.1 66)), (3, .int (nI (6 * i)))] → W p l e room_1 s m #[Value.ref b] below meth c H locs 80 5888 (lw_Z below #[Value.ref b] s) (F0 m 1257 ls [])) : W p l e room_1 s m #[Value.ref b] below meth c H locs 80 5888 (lw_Z below #[Value.ref b] s) (F0 m 295 ls []) := by
  refine lv_aload_n X.x X.b dL_law_295 rfl (lv_at hl 1 rfl) ?_
  refine lv_aload_n X.x X.b dL_law_296 rfl (lv_at hl 0 rfl) ?_
  refine lv_iload_n X.x X.b dL_law_297 rfl (lv_at hl 3 rfl) ?_
  refine lv_iconst (v := 1) X.x X.b dL_law_298 (by decide) ?_
  refine lv_iadd X.x X.b dL_law_299 ?_
  refine va_sld X.x X.b hX hbl hbA M.2 (in_s hL h6 1 (by decide)) dL_law_300 ?_
  refine lv_aload_n X.x X.b dL_law_301 rfl (lv_at hl 0 rfl) ?_
  refine lv_iload_n X.x X.b dL_law_302 rfl (lv_at hl 3 rfl) ?_
  refine lv_iconst (v := 2) X.x X.b dL_law_303 (by decide) ?_
  refine lv_iadd X.x X.b dL_law_304 ?_
  refine va_sld X.x X.b hX hbl hbA M.2 (in_s hL h6 2 (by decide)) dL_law_305 ?_
  obtain ⟨r0, σ1, σ2, h1, h2, hI⟩ := P_become hI (xs (nI (6 * i) + 1).toNatClampNeg) (xs (nI (6 * i) + 2).toNatClampNeg)
  refine r_runI M (r_callV (As := [.int (xs (nI (6 * i) + 1).toNatClampNeg), .int (xs (nI (6 * i) + 2).toNatClampNeg)]) X M (lv_sub hl [] rfl) (T_X6_become h1 _) cal_X6_become q319 ⟨by decide, by decide⟩ hq_0 (el_0 _ _) rfl rfl rfl (Nat.le_of_ble_eq_true rfl) ⟨by decide, by decide⟩ dL_law_306) (fun H locs M => ?_)
  refine lv_aload_n X.x X.b dL_law_309 rfl (lv_at hl 2 rfl) ?_
  refine lv_aload_n X.x X.b dL_law_310 rfl (lv_at hl 0 rfl) ?_
  refine lv_iload_n X.x X.b dL_law_311 rfl (lv_at hl 3 rfl) ?_
  refine lv_iconst (v := 1) X.x X.b dL_law_312 (by decide) ?_
  refine lv_iadd X.x X.b dL_law_313 ?_
  refine va_sld X.x X.b hX hbl hbA M.2 (in_s hL h6 1 (by decide)) dL_law_314 ?_
  refine lv_aload_n X.x X.b dL_law_315 rfl (lv_at hl 0 rfl) ?_
  refine lv_iload_n X.x X.b dL_law_316 rfl (lv_at hl 3 rfl) ?_
  refine lv_iconst (v := 2) X.x X.b dL_law_317 (by decide) ?_
  refine lv_iadd X.x X.b dL_law_318 ?_
  refine va_sld X.x X.b hX hbl hbA M.2 (in_s hL h6 2 (by decide)) dL_law_319 ?_
  refine r_runI M (r_callV (As := [.int (xs (nI (6 * i) + 1).toNatClampNeg), .int (xs (nI (6 * i) + 2).toNatClampNeg)]) X M (lv_sub hl [] rfl) (T_X7_become h2 _) cal_X7_become q924 ⟨by decide, by decide⟩ hq_66 (el_66 _ _) rfl rfl rfl (Nat.le_of_ble_eq_true rfl) ⟨by decide, by decide⟩ dL_law_320) (fun H locs M => ?_)
  refine lv_icmp_eq (tgt := 1257) X.x X.b dL_law_323 (by decide) (fun _ => ?_) (fun c1 => absurd rfl c1)
  exact K _ H locs ls hI M hl
set_option maxRecDepth 100000 in
set_option maxHeartbeats 4000000 in
theorem law_c4 {p : Program} {e : Env} {s : State} {m : MethodId} {below : List Frame} {meth : Method} {c : Code} {l : Launch} {b L : Nat} {xs : Nat → Int32} {Γ : Gm} (hL : L ≤ 3072) (X : Cx p s m #[Value.ref b] meth c code RL 4 ret Γ) (hX : va_X b L xs s s.heap) (hbl : b < s.heap.size) (hbA : ¬ Rg Γ s.heap.size b) {i : Nat} (h6 : 6 * i + 6 ≤ L) {σ : St} {H : Heap} {locs : List Loc} {ls : Array Slot} (hI : Inv σ) (M : Mv Γ σ s H locs) (hl : lv_has ls 4 [(0, .ref b), (1, .ref (Γ.1 0)), (2, .ref (Γ.1 66)), (3, .int (nI (6 * i)))]) (K : ∀ (σ : St) (H : Heap) (locs : List Loc) (ls : Array Slot), Inv σ → Mv Γ σ s H locs → lv_has ls 4 [(0, .ref b), (1, .ref (Γ.1 0)), (2, .ref (Γ.1 66)), (3, .int (nI (6 * i)))] → W p l e room_1 s m #[Value.ref b] below meth c H locs 80 5888 (lw_Z below #[Value.ref b] s) (F0 m 1257 ls [])) : W p l e room_1 s m #[Value.ref b] below meth c H locs 80 5888 (lw_Z below #[Value.ref b] s) (F0 m 328 ls []) := by
  refine lv_aload_n X.x X.b dL_law_328 rfl (lv_at hl 1 rfl) ?_
  refine lv_aload_n X.x X.b dL_law_329 rfl (lv_at hl 0 rfl) ?_
  refine lv_iload_n X.x X.b dL_law_330 rfl (lv_at hl 3 rfl) ?_
  refine lv_iconst (v := 1) X.x X.b dL_law_331 (by decide) ?_
  refine lv_iadd X.x X.b dL_law_332 ?_
  refine va_sld X.x X.b hX hbl hbA M.2 (in_s hL h6 1 (by decide)) dL_law_333 ?_
  refine lv_aload_n X.x X.b dL_law_334 rfl (lv_at hl 0 rfl) ?_
  refine lv_iload_n X.x X.b dL_law_335 rfl (lv_at hl 3 rfl) ?_
  refine lv_iconst (v := 2) X.x X.b dL_law_336 (by decide) ?_
  refine lv_iadd X.x X.b dL_law_337 ?_
  refine va_sld X.x X.b hX hbl hbA M.2 (in_s hL h6 2 (by decide)) dL_law_338 ?_
  obtain ⟨r0, σ1, σ2, h1, h2, hI⟩ := P_as hI (xs (nI (6 * i) + 1).toNatClampNeg) (xs (nI (6 * i) + 2).toNatClampNeg)
  refine r_runI M (r_callV (As := [.int (xs (nI (6 * i) + 1).toNatClampNeg), .int (xs (nI (6 * i) + 2).toNatClampNeg)]) X M (lv_sub hl [] rfl) (T_X6_as h1 _) cal_X6_as q324 ⟨by decide, by decide⟩ hq_0 (el_0 _ _) rfl rfl rfl (Nat.le_of_ble_eq_true rfl) ⟨by decide, by decide⟩ dL_law_339) (fun H locs M => ?_)
  refine lv_aload_n X.x X.b dL_law_342 rfl (lv_at hl 2 rfl) ?_
  refine lv_aload_n X.x X.b dL_law_343 rfl (lv_at hl 0 rfl) ?_
  refine lv_iload_n X.x X.b dL_law_344 rfl (lv_at hl 3 rfl) ?_
  refine lv_iconst (v := 1) X.x X.b dL_law_345 (by decide) ?_
  refine lv_iadd X.x X.b dL_law_346 ?_
  refine va_sld X.x X.b hX hbl hbA M.2 (in_s hL h6 1 (by decide)) dL_law_347 ?_
  refine lv_aload_n X.x X.b dL_law_348 rfl (lv_at hl 0 rfl) ?_
  refine lv_iload_n X.x X.b dL_law_349 rfl (lv_at hl 3 rfl) ?_
  refine lv_iconst (v := 2) X.x X.b dL_law_350 (by decide) ?_
  refine lv_iadd X.x X.b dL_law_351 ?_
  refine va_sld X.x X.b hX hbl hbA M.2 (in_s hL h6 2 (by decide)) dL_law_352 ?_
  refine r_runI M (r_callV (As := [.int (xs (nI (6 * i) + 1).toNatClampNeg), .int (xs (nI (6 * i) + 2).toNatClampNeg)]) X M (lv_sub hl [] rfl) (T_X7_as h2 _) cal_X7_as q932 ⟨by decide, by decide⟩ hq_66 (el_66 _ _) rfl rfl rfl (Nat.le_of_ble_eq_true rfl) ⟨by decide, by decide⟩ dL_law_353) (fun H locs M => ?_)
  refine lv_icmp_eq (tgt := 1257) X.x X.b dL_law_356 (by decide) (fun _ => ?_) (fun c1 => absurd rfl c1)
  exact K _ H locs ls hI M hl
set_option maxRecDepth 100000 in
set_option maxHeartbeats 4000000 in
theorem law_c5 {p : Program} {e : Env} {s : State} {m : MethodId} {below : List Frame} {meth : Method} {c : Code} {l : Launch} {b L : Nat} {xs : Nat → Int32} {Γ : Gm} (hL : L ≤ 3072) (X : Cx p s m #[Value.ref b] meth c code RL 4 ret Γ) (hX : va_X b L xs s s.heap) (hbl : b < s.heap.size) (hbA : ¬ Rg Γ s.heap.size b) {i : Nat} (h6 : 6 * i + 6 ≤ L) {σ : St} {H : Heap} {locs : List Loc} {ls : Array Slot} (hI : Inv σ) (M : Mv Γ σ s H locs) (hl : lv_has ls 4 [(0, .ref b), (1, .ref (Γ.1 0)), (2, .ref (Γ.1 66)), (3, .int (nI (6 * i)))]) (K : ∀ (σ : St) (H : Heap) (locs : List Loc) (ls : Array Slot), Inv σ → Mv Γ σ s H locs → lv_has ls 4 [(0, .ref b), (1, .ref (Γ.1 0)), (2, .ref (Γ.1 66)), (3, .int (nI (6 * i)))] → W p l e room_1 s m #[Value.ref b] below meth c H locs 80 5888 (lw_Z below #[Value.ref b] s) (F0 m 1257 ls [])) : W p l e room_1 s m #[Value.ref b] below meth c H locs 80 5888 (lw_Z below #[Value.ref b] s) (F0 m 361 ls []) := by
  refine lv_aload_n X.x X.b dL_law_361 rfl (lv_at hl 1 rfl) ?_
  refine lv_aload_n X.x X.b dL_law_362 rfl (lv_at hl 0 rfl) ?_
  refine lv_iload_n X.x X.b dL_law_363 rfl (lv_at hl 3 rfl) ?_
  refine lv_iconst (v := 1) X.x X.b dL_law_364 (by decide) ?_
  refine lv_iadd X.x X.b dL_law_365 ?_
  refine va_sld X.x X.b hX hbl hbA M.2 (in_s hL h6 1 (by decide)) dL_law_366 ?_
  refine lv_aload_n X.x X.b dL_law_367 rfl (lv_at hl 0 rfl) ?_
  refine lv_iload_n X.x X.b dL_law_368 rfl (lv_at hl 3 rfl) ?_
  refine lv_iconst (v := 2) X.x X.b dL_law_369 (by decide) ?_
  refine lv_iadd X.x X.b dL_law_370 ?_
  refine va_sld X.x X.b hX hbl hbA M.2 (in_s hL h6 2 (by decide)) dL_law_371 ?_
  obtain ⟨r0, σ1, σ2, h1, h2, hI⟩ := P_harm hI (xs (nI (6 * i) + 1).toNatClampNeg) (xs (nI (6 * i) + 2).toNatClampNeg)
  refine r_runI M (r_callV (As := [.int (xs (nI (6 * i) + 1).toNatClampNeg), .int (xs (nI (6 * i) + 2).toNatClampNeg)]) X M (lv_sub hl [] rfl) (T_X6_harm h1 _) cal_X6_harm q336 ⟨by decide, by decide⟩ hq_0 (el_0 _ _) rfl rfl rfl (Nat.le_of_ble_eq_true rfl) ⟨by decide, by decide⟩ dL_law_372) (fun H locs M => ?_)
  refine lv_aload_n X.x X.b dL_law_375 rfl (lv_at hl 2 rfl) ?_
  refine lv_aload_n X.x X.b dL_law_376 rfl (lv_at hl 0 rfl) ?_
  refine lv_iload_n X.x X.b dL_law_377 rfl (lv_at hl 3 rfl) ?_
  refine lv_iconst (v := 1) X.x X.b dL_law_378 (by decide) ?_
  refine lv_iadd X.x X.b dL_law_379 ?_
  refine va_sld X.x X.b hX hbl hbA M.2 (in_s hL h6 1 (by decide)) dL_law_380 ?_
  refine lv_aload_n X.x X.b dL_law_381 rfl (lv_at hl 0 rfl) ?_
  refine lv_iload_n X.x X.b dL_law_382 rfl (lv_at hl 3 rfl) ?_
  refine lv_iconst (v := 2) X.x X.b dL_law_383 (by decide) ?_
  refine lv_iadd X.x X.b dL_law_384 ?_
  refine va_sld X.x X.b hX hbl hbA M.2 (in_s hL h6 2 (by decide)) dL_law_385 ?_
  refine r_runI M (r_callV (As := [.int (xs (nI (6 * i) + 1).toNatClampNeg), .int (xs (nI (6 * i) + 2).toNatClampNeg)]) X M (lv_sub hl [] rfl) (T_X7_harm h2 _) cal_X7_harm q939 ⟨by decide, by decide⟩ hq_66 (el_66 _ _) rfl rfl rfl (Nat.le_of_ble_eq_true rfl) ⟨by decide, by decide⟩ dL_law_386) (fun H locs M => ?_)
  refine lv_icmp_eq (tgt := 1257) X.x X.b dL_law_389 (by decide) (fun _ => ?_) (fun c1 => absurd rfl c1)
  exact K _ H locs ls hI M hl
set_option maxRecDepth 100000 in
set_option maxHeartbeats 4000000 in
theorem law_c6 {p : Program} {e : Env} {s : State} {m : MethodId} {below : List Frame} {meth : Method} {c : Code} {l : Launch} {b L : Nat} {xs : Nat → Int32} {Γ : Gm} (hL : L ≤ 3072) (X : Cx p s m #[Value.ref b] meth c code RL 4 ret Γ) (hX : va_X b L xs s s.heap) (hbl : b < s.heap.size) (hbA : ¬ Rg Γ s.heap.size b) {i : Nat} (h6 : 6 * i + 6 ≤ L) {σ : St} {H : Heap} {locs : List Loc} {ls : Array Slot} (hI : Inv σ) (M : Mv Γ σ s H locs) (hl : lv_has ls 4 [(0, .ref b), (1, .ref (Γ.1 0)), (2, .ref (Γ.1 66)), (3, .int (nI (6 * i)))]) (K : ∀ (σ : St) (H : Heap) (locs : List Loc) (ls : Array Slot), Inv σ → Mv Γ σ s H locs → lv_has ls 4 [(0, .ref b), (1, .ref (Γ.1 0)), (2, .ref (Γ.1 66)), (3, .int (nI (6 * i)))] → W p l e room_1 s m #[Value.ref b] below meth c H locs 80 5888 (lw_Z below #[Value.ref b] s) (F0 m 1257 ls [])) : W p l e room_1 s m #[Value.ref b] below meth c H locs 80 5888 (lw_Z below #[Value.ref b] s) (F0 m 394 ls []) := by
  refine lv_aload_n X.x X.b dL_law_394 rfl (lv_at hl 1 rfl) ?_
  refine lv_aload_n X.x X.b dL_law_395 rfl (lv_at hl 0 rfl) ?_
  refine lv_iload_n X.x X.b dL_law_396 rfl (lv_at hl 3 rfl) ?_
  refine lv_iconst (v := 1) X.x X.b dL_law_397 (by decide) ?_
  refine lv_iadd X.x X.b dL_law_398 ?_
  refine va_sld X.x X.b hX hbl hbA M.2 (in_s hL h6 1 (by decide)) dL_law_399 ?_
  refine lv_aload_n X.x X.b dL_law_400 rfl (lv_at hl 0 rfl) ?_
  refine lv_iload_n X.x X.b dL_law_401 rfl (lv_at hl 3 rfl) ?_
  refine lv_iconst (v := 2) X.x X.b dL_law_402 (by decide) ?_
  refine lv_iadd X.x X.b dL_law_403 ?_
  refine va_sld X.x X.b hX hbl hbA M.2 (in_s hL h6 2 (by decide)) dL_law_404 ?_
  obtain ⟨r0, σ1, σ2, h1, h2, hI⟩ := P_renames hI (xs (nI (6 * i) + 1).toNatClampNeg) (xs (nI (6 * i) + 2).toNatClampNeg)
  refine r_runI M (r_callV (As := [.int (xs (nI (6 * i) + 1).toNatClampNeg), .int (xs (nI (6 * i) + 2).toNatClampNeg)]) X M (lv_sub hl [] rfl) (T_X6_renames h1 _) cal_X6_renames q358 ⟨by decide, by decide⟩ hq_0 (el_0 _ _) rfl rfl rfl (Nat.le_of_ble_eq_true rfl) ⟨by decide, by decide⟩ dL_law_405) (fun H locs M => ?_)
  refine lv_aload_n X.x X.b dL_law_408 rfl (lv_at hl 2 rfl) ?_
  refine lv_aload_n X.x X.b dL_law_409 rfl (lv_at hl 0 rfl) ?_
  refine lv_iload_n X.x X.b dL_law_410 rfl (lv_at hl 3 rfl) ?_
  refine lv_iconst (v := 1) X.x X.b dL_law_411 (by decide) ?_
  refine lv_iadd X.x X.b dL_law_412 ?_
  refine va_sld X.x X.b hX hbl hbA M.2 (in_s hL h6 1 (by decide)) dL_law_413 ?_
  refine lv_aload_n X.x X.b dL_law_414 rfl (lv_at hl 0 rfl) ?_
  refine lv_iload_n X.x X.b dL_law_415 rfl (lv_at hl 3 rfl) ?_
  refine lv_iconst (v := 2) X.x X.b dL_law_416 (by decide) ?_
  refine lv_iadd X.x X.b dL_law_417 ?_
  refine va_sld X.x X.b hX hbl hbA M.2 (in_s hL h6 2 (by decide)) dL_law_418 ?_
  refine r_runI M (r_callV (As := [.int (xs (nI (6 * i) + 1).toNatClampNeg), .int (xs (nI (6 * i) + 2).toNatClampNeg)]) X M (lv_sub hl [] rfl) (T_X7_renames h2 _) cal_X7_renames q955 ⟨by decide, by decide⟩ hq_66 (el_66 _ _) rfl rfl rfl (Nat.le_of_ble_eq_true rfl) ⟨by decide, by decide⟩ dL_law_419) (fun H locs M => ?_)
  refine lv_icmp_eq (tgt := 1257) X.x X.b dL_law_422 (by decide) (fun _ => ?_) (fun c1 => absurd rfl c1)
  exact K _ H locs ls hI M hl
set_option maxRecDepth 100000 in
set_option maxHeartbeats 4000000 in
theorem law_c7 {p : Program} {e : Env} {s : State} {m : MethodId} {below : List Frame} {meth : Method} {c : Code} {l : Launch} {b L : Nat} {xs : Nat → Int32} {Γ : Gm} (hL : L ≤ 3072) (X : Cx p s m #[Value.ref b] meth c code RL 4 ret Γ) (hX : va_X b L xs s s.heap) (hbl : b < s.heap.size) (hbA : ¬ Rg Γ s.heap.size b) {i : Nat} (h6 : 6 * i + 6 ≤ L) {σ : St} {H : Heap} {locs : List Loc} {ls : Array Slot} (hI : Inv σ) (M : Mv Γ σ s H locs) (hl : lv_has ls 4 [(0, .ref b), (1, .ref (Γ.1 0)), (2, .ref (Γ.1 66)), (3, .int (nI (6 * i)))]) (K : ∀ (σ : St) (H : Heap) (locs : List Loc) (ls : Array Slot), Inv σ → Mv Γ σ s H locs → lv_has ls 4 [(0, .ref b), (1, .ref (Γ.1 0)), (2, .ref (Γ.1 66)), (3, .int (nI (6 * i)))] → W p l e room_1 s m #[Value.ref b] below meth c H locs 80 5888 (lw_Z below #[Value.ref b] s) (F0 m 1257 ls [])) : W p l e room_1 s m #[Value.ref b] below meth c H locs 80 5888 (lw_Z below #[Value.ref b] s) (F0 m 427 ls []) := by
  refine lv_aload_n X.x X.b dL_law_427 rfl (lv_at hl 1 rfl) ?_
  refine lv_aload_n X.x X.b dL_law_428 rfl (lv_at hl 0 rfl) ?_
  refine lv_iload_n X.x X.b dL_law_429 rfl (lv_at hl 3 rfl) ?_
  refine lv_iconst (v := 1) X.x X.b dL_law_430 (by decide) ?_
  refine lv_iadd X.x X.b dL_law_431 ?_
  refine va_sld X.x X.b hX hbl hbA M.2 (in_s hL h6 1 (by decide)) dL_law_432 ?_
  obtain ⟨r0, σ1, σ2, h1, h2, hI⟩ := P_year hI (xs (nI (6 * i) + 1).toNatClampNeg)
  refine r_runI M (r_callV (As := [.int (xs (nI (6 * i) + 1).toNatClampNeg)]) X M (lv_sub hl [] rfl) (T_X6_year h1 _) cal_X6_year q369 ⟨by decide, by decide⟩ hq_0 (el_0 _ _) rfl rfl rfl (Nat.le_of_ble_eq_true rfl) ⟨by decide, by decide⟩ dL_law_433) (fun H locs M => ?_)
  refine lv_aload_n X.x X.b dL_law_436 rfl (lv_at hl 2 rfl) ?_
  refine lv_aload_n X.x X.b dL_law_437 rfl (lv_at hl 0 rfl) ?_
  refine lv_iload_n X.x X.b dL_law_438 rfl (lv_at hl 3 rfl) ?_
  refine lv_iconst (v := 1) X.x X.b dL_law_439 (by decide) ?_
  refine lv_iadd X.x X.b dL_law_440 ?_
  refine va_sld X.x X.b hX hbl hbA M.2 (in_s hL h6 1 (by decide)) dL_law_441 ?_
  refine r_runI M (r_callV (As := [.int (xs (nI (6 * i) + 1).toNatClampNeg)]) X M (lv_sub hl [] rfl) (T_X7_year h2 _) cal_X7_year q964 ⟨by decide, by decide⟩ hq_66 (el_66 _ _) rfl rfl rfl (Nat.le_of_ble_eq_true rfl) ⟨by decide, by decide⟩ dL_law_442) (fun H locs M => ?_)
  refine lv_icmp_eq (tgt := 1257) X.x X.b dL_law_445 (by decide) (fun _ => ?_) (fun c1 => absurd rfl c1)
  exact K _ H locs ls hI M hl
set_option maxRecDepth 100000 in
set_option maxHeartbeats 4000000 in
theorem law_c8 {p : Program} {e : Env} {s : State} {m : MethodId} {below : List Frame} {meth : Method} {c : Code} {l : Launch} {b L : Nat} {xs : Nat → Int32} {Γ : Gm} (hL : L ≤ 3072) (X : Cx p s m #[Value.ref b] meth c code RL 4 ret Γ) (hX : va_X b L xs s s.heap) (hbl : b < s.heap.size) (hbA : ¬ Rg Γ s.heap.size b) {i : Nat} (h6 : 6 * i + 6 ≤ L) {σ : St} {H : Heap} {locs : List Loc} {ls : Array Slot} (hI : Inv σ) (M : Mv Γ σ s H locs) (hl : lv_has ls 4 [(0, .ref b), (1, .ref (Γ.1 0)), (2, .ref (Γ.1 66)), (3, .int (nI (6 * i)))]) (K : ∀ (σ : St) (H : Heap) (locs : List Loc) (ls : Array Slot), Inv σ → Mv Γ σ s H locs → lv_has ls 4 [(0, .ref b), (1, .ref (Γ.1 0)), (2, .ref (Γ.1 66)), (3, .int (nI (6 * i)))] → W p l e room_1 s m #[Value.ref b] below meth c H locs 80 5888 (lw_Z below #[Value.ref b] s) (F0 m 1257 ls [])) : W p l e room_1 s m #[Value.ref b] below meth c H locs 80 5888 (lw_Z below #[Value.ref b] s) (F0 m 450 ls []) := by
  refine lv_aload_n X.x X.b dL_law_450 rfl (lv_at hl 1 rfl) ?_
  refine lv_aload_n X.x X.b dL_law_451 rfl (lv_at hl 0 rfl) ?_
  refine lv_iload_n X.x X.b dL_law_452 rfl (lv_at hl 3 rfl) ?_
  refine lv_iconst (v := 1) X.x X.b dL_law_453 (by decide) ?_
  refine lv_iadd X.x X.b dL_law_454 ?_
  refine va_sld X.x X.b hX hbl hbA M.2 (in_s hL h6 1 (by decide)) dL_law_455 ?_
  refine lv_i2l (v := ((xs (nI (6 * i) + 1).toNatClampNeg).toInt64)) X.x X.b dL_law_456 rfl ?_
  refine lv_bipush (v := 32) X.x X.b dL_law_457 (by decide) ?_
  refine lv_lshl (v := (lshl ((xs (nI (6 * i) + 1).toNatClampNeg).toInt64) 32)) X.x X.b dL_law_459 rfl ?_
  refine lv_aload_n X.x X.b dL_law_460 rfl (lv_at hl 0 rfl) ?_
  refine lv_iload_n X.x X.b dL_law_461 rfl (lv_at hl 3 rfl) ?_
  refine lv_iconst (v := 2) X.x X.b dL_law_462 (by decide) ?_
  refine lv_iadd X.x X.b dL_law_463 ?_
  refine va_sld X.x X.b hX hbl hbA M.2 (in_s hL h6 2 (by decide)) dL_law_464 ?_
  refine lv_i2l (v := ((xs (nI (6 * i) + 2).toNatClampNeg).toInt64)) X.x X.b dL_law_465 rfl ?_
  refine lv_ldc2 (v := 4294967295) X.x X.b X.ow (X.ts _ q1158) dL_law_466 ?_
  refine lv_land X.x X.b dL_law_469 ?_
  refine lv_lor X.x X.b dL_law_470 ?_
  refine lv_aload_n X.x X.b dL_law_471 rfl (lv_at hl 0 rfl) ?_
  refine lv_iload_n X.x X.b dL_law_472 rfl (lv_at hl 3 rfl) ?_
  refine lv_iconst (v := 3) X.x X.b dL_law_473 (by decide) ?_
  refine lv_iadd X.x X.b dL_law_474 ?_
  refine va_sld X.x X.b hX hbl hbA M.2 (in_s hL h6 3 (by decide)) dL_law_475 ?_
  obtain ⟨r0, σ1, σ2, h1, h2, hI⟩ := P_feed hI ((lshl ((xs (nI (6 * i) + 1).toNatClampNeg).toInt64) 32) ||| (((xs (nI (6 * i) + 2).toNatClampNeg).toInt64) &&& 4294967295)) (xs (nI (6 * i) + 3).toNatClampNeg)
  refine r_runI M (r_callV (As := [.long ((lshl ((xs (nI (6 * i) + 1).toNatClampNeg).toInt64) 32) ||| (((xs (nI (6 * i) + 2).toNatClampNeg).toInt64) &&& 4294967295)), .int (xs (nI (6 * i) + 3).toNatClampNeg)]) X M (lv_sub hl [] rfl) (T_X6_feed h1 _) cal_X6_feed q373 ⟨by decide, by decide⟩ hq_0 (el_0 _ _) rfl rfl rfl (Nat.le_of_ble_eq_true rfl) ⟨by decide, by decide⟩ dL_law_476) (fun H locs M => ?_)
  refine lv_aload_n X.x X.b dL_law_479 rfl (lv_at hl 2 rfl) ?_
  refine lv_aload_n X.x X.b dL_law_480 rfl (lv_at hl 0 rfl) ?_
  refine lv_iload_n X.x X.b dL_law_481 rfl (lv_at hl 3 rfl) ?_
  refine lv_iconst (v := 1) X.x X.b dL_law_482 (by decide) ?_
  refine lv_iadd X.x X.b dL_law_483 ?_
  refine va_sld X.x X.b hX hbl hbA M.2 (in_s hL h6 1 (by decide)) dL_law_484 ?_
  refine lv_i2l (v := ((xs (nI (6 * i) + 1).toNatClampNeg).toInt64)) X.x X.b dL_law_485 rfl ?_
  refine lv_bipush (v := 32) X.x X.b dL_law_486 (by decide) ?_
  refine lv_lshl (v := (lshl ((xs (nI (6 * i) + 1).toNatClampNeg).toInt64) 32)) X.x X.b dL_law_488 rfl ?_
  refine lv_aload_n X.x X.b dL_law_489 rfl (lv_at hl 0 rfl) ?_
  refine lv_iload_n X.x X.b dL_law_490 rfl (lv_at hl 3 rfl) ?_
  refine lv_iconst (v := 2) X.x X.b dL_law_491 (by decide) ?_
  refine lv_iadd X.x X.b dL_law_492 ?_
  refine va_sld X.x X.b hX hbl hbA M.2 (in_s hL h6 2 (by decide)) dL_law_493 ?_
  refine lv_i2l (v := ((xs (nI (6 * i) + 2).toNatClampNeg).toInt64)) X.x X.b dL_law_494 rfl ?_
  refine lv_ldc2 (v := 4294967295) X.x X.b X.ow (X.ts _ q1158) dL_law_495 ?_
  refine lv_land X.x X.b dL_law_498 ?_
  refine lv_lor X.x X.b dL_law_499 ?_
  refine lv_aload_n X.x X.b dL_law_500 rfl (lv_at hl 0 rfl) ?_
  refine lv_iload_n X.x X.b dL_law_501 rfl (lv_at hl 3 rfl) ?_
  refine lv_iconst (v := 3) X.x X.b dL_law_502 (by decide) ?_
  refine lv_iadd X.x X.b dL_law_503 ?_
  refine va_sld X.x X.b hX hbl hbA M.2 (in_s hL h6 3 (by decide)) dL_law_504 ?_
  refine r_runI M (r_callV (As := [.long ((lshl ((xs (nI (6 * i) + 1).toNatClampNeg).toInt64) 32) ||| (((xs (nI (6 * i) + 2).toNatClampNeg).toInt64) &&& 4294967295)), .int (xs (nI (6 * i) + 3).toNatClampNeg)]) X M (lv_sub hl [] rfl) (T_X7_feed h2 _) cal_X7_feed q795 ⟨by decide, by decide⟩ hq_66 (el_66 _ _) rfl rfl rfl (Nat.le_of_ble_eq_true rfl) ⟨by decide, by decide⟩ dL_law_505) (fun H locs M => ?_)
  refine lv_icmp_eq (tgt := 1257) X.x X.b dL_law_508 (by decide) (fun _ => ?_) (fun c1 => absurd rfl c1)
  exact K _ H locs ls hI M hl
set_option maxRecDepth 100000 in
set_option maxHeartbeats 4000000 in
theorem law_c9 {p : Program} {e : Env} {s : State} {m : MethodId} {below : List Frame} {meth : Method} {c : Code} {l : Launch} {b L : Nat} {xs : Nat → Int32} {Γ : Gm} (hL : L ≤ 3072) (X : Cx p s m #[Value.ref b] meth c code RL 4 ret Γ) (hX : va_X b L xs s s.heap) (hbl : b < s.heap.size) (hbA : ¬ Rg Γ s.heap.size b) {i : Nat} (h6 : 6 * i + 6 ≤ L) {σ : St} {H : Heap} {locs : List Loc} {ls : Array Slot} (hI : Inv σ) (M : Mv Γ σ s H locs) (hl : lv_has ls 4 [(0, .ref b), (1, .ref (Γ.1 0)), (2, .ref (Γ.1 66)), (3, .int (nI (6 * i)))]) (K : ∀ (σ : St) (H : Heap) (locs : List Loc) (ls : Array Slot), Inv σ → Mv Γ σ s H locs → lv_has ls 4 [(0, .ref b), (1, .ref (Γ.1 0)), (2, .ref (Γ.1 66)), (3, .int (nI (6 * i)))] → W p l e room_1 s m #[Value.ref b] below meth c H locs 80 5888 (lw_Z below #[Value.ref b] s) (F0 m 1257 ls [])) : W p l e room_1 s m #[Value.ref b] below meth c H locs 80 5888 (lw_Z below #[Value.ref b] s) (F0 m 513 ls []) := by
  refine lv_aload_n X.x X.b dL_law_513 rfl (lv_at hl 1 rfl) ?_
  refine lv_aload_n X.x X.b dL_law_514 rfl (lv_at hl 0 rfl) ?_
  refine lv_iload_n X.x X.b dL_law_515 rfl (lv_at hl 3 rfl) ?_
  refine lv_iconst (v := 1) X.x X.b dL_law_516 (by decide) ?_
  refine lv_iadd X.x X.b dL_law_517 ?_
  refine va_sld X.x X.b hX hbl hbA M.2 (in_s hL h6 1 (by decide)) dL_law_518 ?_
  obtain ⟨r0, σ1, σ2, h1, h2, hI⟩ := P_text hI (xs (nI (6 * i) + 1).toNatClampNeg)
  refine r_runI M (r_callV (As := [.int (xs (nI (6 * i) + 1).toNatClampNeg)]) X M (lv_sub hl [] rfl) (T_X6_text h1 _) cal_X6_text q382 ⟨by decide, by decide⟩ hq_0 (el_0 _ _) rfl rfl rfl (Nat.le_of_ble_eq_true rfl) ⟨by decide, by decide⟩ dL_law_519) (fun H locs M => ?_)
  refine lv_aload_n X.x X.b dL_law_522 rfl (lv_at hl 2 rfl) ?_
  refine lv_aload_n X.x X.b dL_law_523 rfl (lv_at hl 0 rfl) ?_
  refine lv_iload_n X.x X.b dL_law_524 rfl (lv_at hl 3 rfl) ?_
  refine lv_iconst (v := 1) X.x X.b dL_law_525 (by decide) ?_
  refine lv_iadd X.x X.b dL_law_526 ?_
  refine va_sld X.x X.b hX hbl hbA M.2 (in_s hL h6 1 (by decide)) dL_law_527 ?_
  refine r_runI M (r_callV (As := [.int (xs (nI (6 * i) + 1).toNatClampNeg)]) X M (lv_sub hl [] rfl) (T_X7_text h2 _) cal_X7_text q808 ⟨by decide, by decide⟩ hq_66 (el_66 _ _) rfl rfl rfl (Nat.le_of_ble_eq_true rfl) ⟨by decide, by decide⟩ dL_law_528) (fun H locs M => ?_)
  refine lv_icmp_eq (tgt := 1257) X.x X.b dL_law_531 (by decide) (fun _ => ?_) (fun c1 => absurd rfl c1)
  exact K _ H locs ls hI M hl
set_option maxRecDepth 100000 in
set_option maxHeartbeats 4000000 in
theorem law_c10 {p : Program} {e : Env} {s : State} {m : MethodId} {below : List Frame} {meth : Method} {c : Code} {l : Launch} {b L : Nat} {xs : Nat → Int32} {Γ : Gm} (hL : L ≤ 3072) (X : Cx p s m #[Value.ref b] meth c code RL 4 ret Γ) (hX : va_X b L xs s s.heap) (hbl : b < s.heap.size) (hbA : ¬ Rg Γ s.heap.size b) {i : Nat} (h6 : 6 * i + 6 ≤ L) {σ : St} {H : Heap} {locs : List Loc} {ls : Array Slot} (hI : Inv σ) (M : Mv Γ σ s H locs) (hl : lv_has ls 4 [(0, .ref b), (1, .ref (Γ.1 0)), (2, .ref (Γ.1 66)), (3, .int (nI (6 * i)))]) (K : ∀ (σ : St) (H : Heap) (locs : List Loc) (ls : Array Slot), Inv σ → Mv Γ σ s H locs → lv_has ls 4 [(0, .ref b), (1, .ref (Γ.1 0)), (2, .ref (Γ.1 66)), (3, .int (nI (6 * i)))] → W p l e room_1 s m #[Value.ref b] below meth c H locs 80 5888 (lw_Z below #[Value.ref b] s) (F0 m 1257 ls [])) : W p l e room_1 s m #[Value.ref b] below meth c H locs 80 5888 (lw_Z below #[Value.ref b] s) (F0 m 536 ls []) := by
  refine lv_aload_n X.x X.b dL_law_536 rfl (lv_at hl 1 rfl) ?_
  refine lv_aload_n X.x X.b dL_law_537 rfl (lv_at hl 0 rfl) ?_
  refine lv_iload_n X.x X.b dL_law_538 rfl (lv_at hl 3 rfl) ?_
  refine lv_iconst (v := 1) X.x X.b dL_law_539 (by decide) ?_
  refine lv_iadd X.x X.b dL_law_540 ?_
  refine va_sld X.x X.b hX hbl hbA M.2 (in_s hL h6 1 (by decide)) dL_law_541 ?_
  obtain ⟨r0, σ1, σ2, h1, h2, hI⟩ := P_untell hI (xs (nI (6 * i) + 1).toNatClampNeg)
  refine r_runI M (r_callV (As := [.int (xs (nI (6 * i) + 1).toNatClampNeg)]) X M (lv_sub hl [] rfl) (T_X6_untell h1 _) cal_X6_untell q434 ⟨by decide, by decide⟩ hq_0 (el_0 _ _) rfl rfl rfl (Nat.le_of_ble_eq_true rfl) ⟨by decide, by decide⟩ dL_law_542) (fun H locs M => ?_)
  refine lv_aload_n X.x X.b dL_law_545 rfl (lv_at hl 2 rfl) ?_
  refine lv_aload_n X.x X.b dL_law_546 rfl (lv_at hl 0 rfl) ?_
  refine lv_iload_n X.x X.b dL_law_547 rfl (lv_at hl 3 rfl) ?_
  refine lv_iconst (v := 1) X.x X.b dL_law_548 (by decide) ?_
  refine lv_iadd X.x X.b dL_law_549 ?_
  refine va_sld X.x X.b hX hbl hbA M.2 (in_s hL h6 1 (by decide)) dL_law_550 ?_
  refine r_runI M (r_callV (As := [.int (xs (nI (6 * i) + 1).toNatClampNeg)]) X M (lv_sub hl [] rfl) (T_X7_untell h2 _) cal_X7_untell q852 ⟨by decide, by decide⟩ hq_66 (el_66 _ _) rfl rfl rfl (Nat.le_of_ble_eq_true rfl) ⟨by decide, by decide⟩ dL_law_551) (fun H locs M => ?_)
  refine lv_icmp_eq (tgt := 1257) X.x X.b dL_law_554 (by decide) (fun _ => ?_) (fun c1 => absurd rfl c1)
  exact K _ H locs ls hI M hl
set_option maxRecDepth 100000 in
set_option maxHeartbeats 4000000 in
theorem law_c11 {p : Program} {e : Env} {s : State} {m : MethodId} {below : List Frame} {meth : Method} {c : Code} {l : Launch} {b L : Nat} {xs : Nat → Int32} {Γ : Gm} (hL : L ≤ 3072) (X : Cx p s m #[Value.ref b] meth c code RL 4 ret Γ) (hX : va_X b L xs s s.heap) (hbl : b < s.heap.size) (hbA : ¬ Rg Γ s.heap.size b) {i : Nat} (h6 : 6 * i + 6 ≤ L) {σ : St} {H : Heap} {locs : List Loc} {ls : Array Slot} (hI : Inv σ) (M : Mv Γ σ s H locs) (hl : lv_has ls 4 [(0, .ref b), (1, .ref (Γ.1 0)), (2, .ref (Γ.1 66)), (3, .int (nI (6 * i)))]) (K : ∀ (σ : St) (H : Heap) (locs : List Loc) (ls : Array Slot), Inv σ → Mv Γ σ s H locs → lv_has ls 4 [(0, .ref b), (1, .ref (Γ.1 0)), (2, .ref (Γ.1 66)), (3, .int (nI (6 * i)))] → W p l e room_1 s m #[Value.ref b] below meth c H locs 80 5888 (lw_Z below #[Value.ref b] s) (F0 m 1257 ls [])) : W p l e room_1 s m #[Value.ref b] below meth c H locs 80 5888 (lw_Z below #[Value.ref b] s) (F0 m 559 ls []) := by
  refine lv_aload_n X.x X.b dL_law_559 rfl (lv_at hl 1 rfl) ?_
  refine lv_aload_n X.x X.b dL_law_560 rfl (lv_at hl 0 rfl) ?_
  refine lv_iload_n X.x X.b dL_law_561 rfl (lv_at hl 3 rfl) ?_
  refine lv_iconst (v := 1) X.x X.b dL_law_562 (by decide) ?_
  refine lv_iadd X.x X.b dL_law_563 ?_
  refine va_sld X.x X.b hX hbl hbA M.2 (in_s hL h6 1 (by decide)) dL_law_564 ?_
  refine lv_aload_n X.x X.b dL_law_565 rfl (lv_at hl 0 rfl) ?_
  refine lv_iload_n X.x X.b dL_law_566 rfl (lv_at hl 3 rfl) ?_
  refine lv_iconst (v := 2) X.x X.b dL_law_567 (by decide) ?_
  refine lv_iadd X.x X.b dL_law_568 ?_
  refine va_sld X.x X.b hX hbl hbA M.2 (in_s hL h6 2 (by decide)) dL_law_569 ?_
  refine lv_aload_n X.x X.b dL_law_570 rfl (lv_at hl 0 rfl) ?_
  refine lv_iload_n X.x X.b dL_law_571 rfl (lv_at hl 3 rfl) ?_
  refine lv_iconst (v := 3) X.x X.b dL_law_572 (by decide) ?_
  refine lv_iadd X.x X.b dL_law_573 ?_
  refine va_sld X.x X.b hX hbl hbA M.2 (in_s hL h6 3 (by decide)) dL_law_574 ?_
  refine lv_aload_n X.x X.b dL_law_575 rfl (lv_at hl 0 rfl) ?_
  refine lv_iload_n X.x X.b dL_law_576 rfl (lv_at hl 3 rfl) ?_
  refine lv_iconst (v := 4) X.x X.b dL_law_577 (by decide) ?_
  refine lv_iadd X.x X.b dL_law_578 ?_
  refine va_sld X.x X.b hX hbl hbA M.2 (in_s hL h6 4 (by decide)) dL_law_579 ?_
  obtain ⟨r0, σ1, σ2, h1, h2, hI⟩ := P_law hI (xs (nI (6 * i) + 1).toNatClampNeg) (xs (nI (6 * i) + 2).toNatClampNeg) (xs (nI (6 * i) + 3).toNatClampNeg) (xs (nI (6 * i) + 4).toNatClampNeg)
  refine r_runI M (r_callV (As := [.int (xs (nI (6 * i) + 1).toNatClampNeg), .int (xs (nI (6 * i) + 2).toNatClampNeg), .int (xs (nI (6 * i) + 3).toNatClampNeg), .int (xs (nI (6 * i) + 4).toNatClampNeg)]) X M (lv_sub hl [] rfl) (T_X6_law h1 _) cal_X6_law q442 ⟨by decide, by decide⟩ hq_0 (el_0 _ _) rfl rfl rfl (Nat.le_of_ble_eq_true rfl) ⟨by decide, by decide⟩ dL_law_580) (fun H locs M => ?_)
  refine lv_aload_n X.x X.b dL_law_583 rfl (lv_at hl 2 rfl) ?_
  refine lv_aload_n X.x X.b dL_law_584 rfl (lv_at hl 0 rfl) ?_
  refine lv_iload_n X.x X.b dL_law_585 rfl (lv_at hl 3 rfl) ?_
  refine lv_iconst (v := 1) X.x X.b dL_law_586 (by decide) ?_
  refine lv_iadd X.x X.b dL_law_587 ?_
  refine va_sld X.x X.b hX hbl hbA M.2 (in_s hL h6 1 (by decide)) dL_law_588 ?_
  refine lv_aload_n X.x X.b dL_law_589 rfl (lv_at hl 0 rfl) ?_
  refine lv_iload_n X.x X.b dL_law_590 rfl (lv_at hl 3 rfl) ?_
  refine lv_iconst (v := 2) X.x X.b dL_law_591 (by decide) ?_
  refine lv_iadd X.x X.b dL_law_592 ?_
  refine va_sld X.x X.b hX hbl hbA M.2 (in_s hL h6 2 (by decide)) dL_law_593 ?_
  refine lv_aload_n X.x X.b dL_law_594 rfl (lv_at hl 0 rfl) ?_
  refine lv_iload_n X.x X.b dL_law_595 rfl (lv_at hl 3 rfl) ?_
  refine lv_iconst (v := 3) X.x X.b dL_law_596 (by decide) ?_
  refine lv_iadd X.x X.b dL_law_597 ?_
  refine va_sld X.x X.b hX hbl hbA M.2 (in_s hL h6 3 (by decide)) dL_law_598 ?_
  refine lv_aload_n X.x X.b dL_law_599 rfl (lv_at hl 0 rfl) ?_
  refine lv_iload_n X.x X.b dL_law_600 rfl (lv_at hl 3 rfl) ?_
  refine lv_iconst (v := 4) X.x X.b dL_law_601 (by decide) ?_
  refine lv_iadd X.x X.b dL_law_602 ?_
  refine va_sld X.x X.b hX hbl hbA M.2 (in_s hL h6 4 (by decide)) dL_law_603 ?_
  refine r_runI M (r_callV (As := [.int (xs (nI (6 * i) + 1).toNatClampNeg), .int (xs (nI (6 * i) + 2).toNatClampNeg), .int (xs (nI (6 * i) + 3).toNatClampNeg), .int (xs (nI (6 * i) + 4).toNatClampNeg)]) X M (lv_sub hl [] rfl) (T_X7_law h2 _) cal_X7_law q968 ⟨by decide, by decide⟩ hq_66 (el_66 _ _) rfl rfl rfl (Nat.le_of_ble_eq_true rfl) ⟨by decide, by decide⟩ dL_law_604) (fun H locs M => ?_)
  refine lv_icmp_eq (tgt := 1257) X.x X.b dL_law_607 (by decide) (fun _ => ?_) (fun c1 => absurd rfl c1)
  exact K _ H locs ls hI M hl
set_option maxRecDepth 100000 in
set_option maxHeartbeats 4000000 in
theorem law_c12 {p : Program} {e : Env} {s : State} {m : MethodId} {below : List Frame} {meth : Method} {c : Code} {l : Launch} {b L : Nat} {xs : Nat → Int32} {Γ : Gm} (hL : L ≤ 3072) (X : Cx p s m #[Value.ref b] meth c code RL 4 ret Γ) (hX : va_X b L xs s s.heap) (hbl : b < s.heap.size) (hbA : ¬ Rg Γ s.heap.size b) {i : Nat} (h6 : 6 * i + 6 ≤ L) {σ : St} {H : Heap} {locs : List Loc} {ls : Array Slot} (hI : Inv σ) (M : Mv Γ σ s H locs) (hl : lv_has ls 4 [(0, .ref b), (1, .ref (Γ.1 0)), (2, .ref (Γ.1 66)), (3, .int (nI (6 * i)))]) (K : ∀ (σ : St) (H : Heap) (locs : List Loc) (ls : Array Slot), Inv σ → Mv Γ σ s H locs → lv_has ls 4 [(0, .ref b), (1, .ref (Γ.1 0)), (2, .ref (Γ.1 66)), (3, .int (nI (6 * i)))] → W p l e room_1 s m #[Value.ref b] below meth c H locs 80 5888 (lw_Z below #[Value.ref b] s) (F0 m 1257 ls [])) : W p l e room_1 s m #[Value.ref b] below meth c H locs 80 5888 (lw_Z below #[Value.ref b] s) (F0 m 612 ls []) := by
  refine lv_aload_n X.x X.b dL_law_612 rfl (lv_at hl 1 rfl) ?_
  refine lv_aload_n X.x X.b dL_law_613 rfl (lv_at hl 0 rfl) ?_
  refine lv_iload_n X.x X.b dL_law_614 rfl (lv_at hl 3 rfl) ?_
  refine lv_iconst (v := 1) X.x X.b dL_law_615 (by decide) ?_
  refine lv_iadd X.x X.b dL_law_616 ?_
  refine va_sld X.x X.b hX hbl hbA M.2 (in_s hL h6 1 (by decide)) dL_law_617 ?_
  obtain ⟨r0, σ1, σ2, h1, h2, hI⟩ := P_renumber hI (xs (nI (6 * i) + 1).toNatClampNeg)
  refine r_runI M (r_callV (As := [.int (xs (nI (6 * i) + 1).toNatClampNeg)]) X M (lv_sub hl [] rfl) (T_X6_renumber h1 _) cal_X6_renumber q447 ⟨by decide, by decide⟩ hq_0 (el_0 _ _) rfl rfl rfl (Nat.le_of_ble_eq_true rfl) ⟨by decide, by decide⟩ dL_law_618) (fun H locs M => ?_)
  refine lv_aload_n X.x X.b dL_law_621 rfl (lv_at hl 2 rfl) ?_
  refine lv_aload_n X.x X.b dL_law_622 rfl (lv_at hl 0 rfl) ?_
  refine lv_iload_n X.x X.b dL_law_623 rfl (lv_at hl 3 rfl) ?_
  refine lv_iconst (v := 1) X.x X.b dL_law_624 (by decide) ?_
  refine lv_iadd X.x X.b dL_law_625 ?_
  refine va_sld X.x X.b hX hbl hbA M.2 (in_s hL h6 1 (by decide)) dL_law_626 ?_
  refine r_runI M (r_callV (As := [.int (xs (nI (6 * i) + 1).toNatClampNeg)]) X M (lv_sub hl [] rfl) (T_X7_renumber h2 _) cal_X7_renumber q972 ⟨by decide, by decide⟩ hq_66 (el_66 _ _) rfl rfl rfl (Nat.le_of_ble_eq_true rfl) ⟨by decide, by decide⟩ dL_law_627) (fun H locs M => ?_)
  refine lv_icmp_eq (tgt := 1257) X.x X.b dL_law_630 (by decide) (fun _ => ?_) (fun c1 => absurd rfl c1)
  exact K _ H locs ls hI M hl
set_option maxRecDepth 100000 in
set_option maxHeartbeats 4000000 in
theorem law_c13 {p : Program} {e : Env} {s : State} {m : MethodId} {below : List Frame} {meth : Method} {c : Code} {l : Launch} {b L : Nat} {xs : Nat → Int32} {Γ : Gm} (hL : L ≤ 3072) (X : Cx p s m #[Value.ref b] meth c code RL 4 ret Γ) (hX : va_X b L xs s s.heap) (hbl : b < s.heap.size) (hbA : ¬ Rg Γ s.heap.size b) {i : Nat} (h6 : 6 * i + 6 ≤ L) {σ : St} {H : Heap} {locs : List Loc} {ls : Array Slot} (hI : Inv σ) (M : Mv Γ σ s H locs) (hl : lv_has ls 4 [(0, .ref b), (1, .ref (Γ.1 0)), (2, .ref (Γ.1 66)), (3, .int (nI (6 * i)))]) (K : ∀ (σ : St) (H : Heap) (locs : List Loc) (ls : Array Slot), Inv σ → Mv Γ σ s H locs → lv_has ls 4 [(0, .ref b), (1, .ref (Γ.1 0)), (2, .ref (Γ.1 66)), (3, .int (nI (6 * i)))] → W p l e room_1 s m #[Value.ref b] below meth c H locs 80 5888 (lw_Z below #[Value.ref b] s) (F0 m 1257 ls [])) : W p l e room_1 s m #[Value.ref b] below meth c H locs 80 5888 (lw_Z below #[Value.ref b] s) (F0 m 635 ls []) := by
  refine lv_aload_n X.x X.b dL_law_635 rfl (lv_at hl 1 rfl) ?_
  refine lv_aload_n X.x X.b dL_law_636 rfl (lv_at hl 0 rfl) ?_
  refine lv_iload_n X.x X.b dL_law_637 rfl (lv_at hl 3 rfl) ?_
  refine lv_iconst (v := 1) X.x X.b dL_law_638 (by decide) ?_
  refine lv_iadd X.x X.b dL_law_639 ?_
  refine va_sld X.x X.b hX hbl hbA M.2 (in_s hL h6 1 (by decide)) dL_law_640 ?_
  obtain ⟨r0, σ1, σ2, h1, h2, hI⟩ := P_would hI (xs (nI (6 * i) + 1).toNatClampNeg)
  refine r_runI M (r_callV (As := [.int (xs (nI (6 * i) + 1).toNatClampNeg)]) X M (lv_sub hl [] rfl) (T_X6_would h1 _) cal_X6_would q456 ⟨by decide, by decide⟩ hq_0 (el_0 _ _) rfl rfl rfl (Nat.le_of_ble_eq_true rfl) ⟨by decide, by decide⟩ dL_law_641) (fun H locs M => ?_)
  refine lv_aload_n X.x X.b dL_law_644 rfl (lv_at hl 2 rfl) ?_
  refine lv_aload_n X.x X.b dL_law_645 rfl (lv_at hl 0 rfl) ?_
  refine lv_iload_n X.x X.b dL_law_646 rfl (lv_at hl 3 rfl) ?_
  refine lv_iconst (v := 1) X.x X.b dL_law_647 (by decide) ?_
  refine lv_iadd X.x X.b dL_law_648 ?_
  refine va_sld X.x X.b hX hbl hbA M.2 (in_s hL h6 1 (by decide)) dL_law_649 ?_
  refine r_runI M (r_callV (As := [.int (xs (nI (6 * i) + 1).toNatClampNeg)]) X M (lv_sub hl [] rfl) (T_X7_would h2 _) cal_X7_would q983 ⟨by decide, by decide⟩ hq_66 (el_66 _ _) rfl rfl rfl (Nat.le_of_ble_eq_true rfl) ⟨by decide, by decide⟩ dL_law_650) (fun H locs M => ?_)
  refine lv_icmp_eq (tgt := 1257) X.x X.b dL_law_653 (by decide) (fun _ => ?_) (fun c1 => absurd rfl c1)
  exact K _ H locs ls hI M hl
set_option maxRecDepth 100000 in
set_option maxHeartbeats 4000000 in
theorem law_c14 {p : Program} {e : Env} {s : State} {m : MethodId} {below : List Frame} {meth : Method} {c : Code} {l : Launch} {b L : Nat} {xs : Nat → Int32} {Γ : Gm} (hL : L ≤ 3072) (X : Cx p s m #[Value.ref b] meth c code RL 4 ret Γ) (hX : va_X b L xs s s.heap) (hbl : b < s.heap.size) (hbA : ¬ Rg Γ s.heap.size b) {i : Nat} (h6 : 6 * i + 6 ≤ L) {σ : St} {H : Heap} {locs : List Loc} {ls : Array Slot} (hI : Inv σ) (M : Mv Γ σ s H locs) (hl : lv_has ls 4 [(0, .ref b), (1, .ref (Γ.1 0)), (2, .ref (Γ.1 66)), (3, .int (nI (6 * i)))]) (K : ∀ (σ : St) (H : Heap) (locs : List Loc) (ls : Array Slot), Inv σ → Mv Γ σ s H locs → lv_has ls 4 [(0, .ref b), (1, .ref (Γ.1 0)), (2, .ref (Γ.1 66)), (3, .int (nI (6 * i)))] → W p l e room_1 s m #[Value.ref b] below meth c H locs 80 5888 (lw_Z below #[Value.ref b] s) (F0 m 1257 ls [])) : W p l e room_1 s m #[Value.ref b] below meth c H locs 80 5888 (lw_Z below #[Value.ref b] s) (F0 m 658 ls []) := by
  refine lv_aload_n X.x X.b dL_law_658 rfl (lv_at hl 1 rfl) ?_
  refine lv_aload_n X.x X.b dL_law_659 rfl (lv_at hl 0 rfl) ?_
  refine lv_iload_n X.x X.b dL_law_660 rfl (lv_at hl 3 rfl) ?_
  refine lv_iconst (v := 1) X.x X.b dL_law_661 (by decide) ?_
  refine lv_iadd X.x X.b dL_law_662 ?_
  refine va_sld X.x X.b hX hbl hbA M.2 (in_s hL h6 1 (by decide)) dL_law_663 ?_
  obtain ⟨r0, σ1, σ2, h1, h2, hI⟩ := P_gap hI (xs (nI (6 * i) + 1).toNatClampNeg)
  refine r_runI M (r_callV (As := [.int (xs (nI (6 * i) + 1).toNatClampNeg)]) X M (lv_sub hl [] rfl) (T_X6_gap h1 _) cal_X6_gap q464 ⟨by decide, by decide⟩ hq_0 (el_0 _ _) rfl rfl rfl (Nat.le_of_ble_eq_true rfl) ⟨by decide, by decide⟩ dL_law_664) (fun H locs M => ?_)
  refine lv_aload_n X.x X.b dL_law_667 rfl (lv_at hl 2 rfl) ?_
  refine lv_aload_n X.x X.b dL_law_668 rfl (lv_at hl 0 rfl) ?_
  refine lv_iload_n X.x X.b dL_law_669 rfl (lv_at hl 3 rfl) ?_
  refine lv_iconst (v := 1) X.x X.b dL_law_670 (by decide) ?_
  refine lv_iadd X.x X.b dL_law_671 ?_
  refine va_sld X.x X.b hX hbl hbA M.2 (in_s hL h6 1 (by decide)) dL_law_672 ?_
  refine r_runI M (r_callV (As := [.int (xs (nI (6 * i) + 1).toNatClampNeg)]) X M (lv_sub hl [] rfl) (T_X7_gap h2 _) cal_X7_gap q991 ⟨by decide, by decide⟩ hq_66 (el_66 _ _) rfl rfl rfl (Nat.le_of_ble_eq_true rfl) ⟨by decide, by decide⟩ dL_law_673) (fun H locs M => ?_)
  refine lv_icmp_eq (tgt := 1257) X.x X.b dL_law_676 (by decide) (fun _ => ?_) (fun c1 => absurd rfl c1)
  exact K _ H locs ls hI M hl
set_option maxRecDepth 100000 in
set_option maxHeartbeats 4000000 in
theorem law_c15 {p : Program} {e : Env} {s : State} {m : MethodId} {below : List Frame} {meth : Method} {c : Code} {l : Launch} {b L : Nat} {xs : Nat → Int32} {Γ : Gm} (hL : L ≤ 3072) (X : Cx p s m #[Value.ref b] meth c code RL 4 ret Γ) (hX : va_X b L xs s s.heap) (hbl : b < s.heap.size) (hbA : ¬ Rg Γ s.heap.size b) {i : Nat} (h6 : 6 * i + 6 ≤ L) {σ : St} {H : Heap} {locs : List Loc} {ls : Array Slot} (hI : Inv σ) (M : Mv Γ σ s H locs) (hl : lv_has ls 4 [(0, .ref b), (1, .ref (Γ.1 0)), (2, .ref (Γ.1 66)), (3, .int (nI (6 * i)))]) (K : ∀ (σ : St) (H : Heap) (locs : List Loc) (ls : Array Slot), Inv σ → Mv Γ σ s H locs → lv_has ls 4 [(0, .ref b), (1, .ref (Γ.1 0)), (2, .ref (Γ.1 66)), (3, .int (nI (6 * i)))] → W p l e room_1 s m #[Value.ref b] below meth c H locs 80 5888 (lw_Z below #[Value.ref b] s) (F0 m 1257 ls [])) : W p l e room_1 s m #[Value.ref b] below meth c H locs 80 5888 (lw_Z below #[Value.ref b] s) (F0 m 681 ls []) := by
  refine lv_aload_n X.x X.b dL_law_681 rfl (lv_at hl 1 rfl) ?_
  refine lv_aload_n X.x X.b dL_law_682 rfl (lv_at hl 0 rfl) ?_
  refine lv_iload_n X.x X.b dL_law_683 rfl (lv_at hl 3 rfl) ?_
  refine lv_iconst (v := 1) X.x X.b dL_law_684 (by decide) ?_
  refine lv_iadd X.x X.b dL_law_685 ?_
  refine va_sld X.x X.b hX hbl hbA M.2 (in_s hL h6 1 (by decide)) dL_law_686 ?_
  obtain ⟨r0, σ1, σ2, h1, h2, hI⟩ := P_least hI (xs (nI (6 * i) + 1).toNatClampNeg)
  refine r_runI M (r_callV (As := [.int (xs (nI (6 * i) + 1).toNatClampNeg)]) X M (lv_sub hl [] rfl) (T_X6_least h1 _) cal_X6_least q468 ⟨by decide, by decide⟩ hq_0 (el_0 _ _) rfl rfl rfl (Nat.le_of_ble_eq_true rfl) ⟨by decide, by decide⟩ dL_law_687) (fun H locs M => ?_)
  refine lv_aload_n X.x X.b dL_law_690 rfl (lv_at hl 2 rfl) ?_
  refine lv_aload_n X.x X.b dL_law_691 rfl (lv_at hl 0 rfl) ?_
  refine lv_iload_n X.x X.b dL_law_692 rfl (lv_at hl 3 rfl) ?_
  refine lv_iconst (v := 1) X.x X.b dL_law_693 (by decide) ?_
  refine lv_iadd X.x X.b dL_law_694 ?_
  refine va_sld X.x X.b hX hbl hbA M.2 (in_s hL h6 1 (by decide)) dL_law_695 ?_
  refine r_runI M (r_callV (As := [.int (xs (nI (6 * i) + 1).toNatClampNeg)]) X M (lv_sub hl [] rfl) (T_X7_least h2 _) cal_X7_least q995 ⟨by decide, by decide⟩ hq_66 (el_66 _ _) rfl rfl rfl (Nat.le_of_ble_eq_true rfl) ⟨by decide, by decide⟩ dL_law_696) (fun H locs M => ?_)
  refine lv_icmp_eq (tgt := 1257) X.x X.b dL_law_699 (by decide) (fun _ => ?_) (fun c1 => absurd rfl c1)
  exact K _ H locs ls hI M hl
set_option maxRecDepth 100000 in
set_option maxHeartbeats 4000000 in
theorem law_c16 {p : Program} {e : Env} {s : State} {m : MethodId} {below : List Frame} {meth : Method} {c : Code} {l : Launch} {b L : Nat} {xs : Nat → Int32} {Γ : Gm} (hL : L ≤ 3072) (X : Cx p s m #[Value.ref b] meth c code RL 4 ret Γ) (hX : va_X b L xs s s.heap) (hbl : b < s.heap.size) (hbA : ¬ Rg Γ s.heap.size b) {i : Nat} (h6 : 6 * i + 6 ≤ L) {σ : St} {H : Heap} {locs : List Loc} {ls : Array Slot} (hI : Inv σ) (M : Mv Γ σ s H locs) (hl : lv_has ls 4 [(0, .ref b), (1, .ref (Γ.1 0)), (2, .ref (Γ.1 66)), (3, .int (nI (6 * i)))]) (K : ∀ (σ : St) (H : Heap) (locs : List Loc) (ls : Array Slot), Inv σ → Mv Γ σ s H locs → lv_has ls 4 [(0, .ref b), (1, .ref (Γ.1 0)), (2, .ref (Γ.1 66)), (3, .int (nI (6 * i)))] → W p l e room_1 s m #[Value.ref b] below meth c H locs 80 5888 (lw_Z below #[Value.ref b] s) (F0 m 1257 ls [])) : W p l e room_1 s m #[Value.ref b] below meth c H locs 80 5888 (lw_Z below #[Value.ref b] s) (F0 m 704 ls []) := by
  refine lv_aload_n X.x X.b dL_law_704 rfl (lv_at hl 1 rfl) ?_
  refine lv_aload_n X.x X.b dL_law_705 rfl (lv_at hl 0 rfl) ?_
  refine lv_iload_n X.x X.b dL_law_706 rfl (lv_at hl 3 rfl) ?_
  refine lv_iconst (v := 1) X.x X.b dL_law_707 (by decide) ?_
  refine lv_iadd X.x X.b dL_law_708 ?_
  refine va_sld X.x X.b hX hbl hbA M.2 (in_s hL h6 1 (by decide)) dL_law_709 ?_
  obtain ⟨r0, σ1, σ2, h1, h2, hI⟩ := P_between hI (xs (nI (6 * i) + 1).toNatClampNeg)
  refine r_runI M (r_callV (As := [.int (xs (nI (6 * i) + 1).toNatClampNeg)]) X M (lv_sub hl [] rfl) (T_X6_between h1 _) cal_X6_between q488 ⟨by decide, by decide⟩ hq_0 (el_0 _ _) rfl rfl rfl (Nat.le_of_ble_eq_true rfl) ⟨by decide, by decide⟩ dL_law_710) (fun H locs M => ?_)
  refine lv_aload_n X.x X.b dL_law_713 rfl (lv_at hl 2 rfl) ?_
  refine lv_aload_n X.x X.b dL_law_714 rfl (lv_at hl 0 rfl) ?_
  refine lv_iload_n X.x X.b dL_law_715 rfl (lv_at hl 3 rfl) ?_
  refine lv_iconst (v := 1) X.x X.b dL_law_716 (by decide) ?_
  refine lv_iadd X.x X.b dL_law_717 ?_
  refine va_sld X.x X.b hX hbl hbA M.2 (in_s hL h6 1 (by decide)) dL_law_718 ?_
  refine r_runI M (r_callV (As := [.int (xs (nI (6 * i) + 1).toNatClampNeg)]) X M (lv_sub hl [] rfl) (T_X7_between h2 _) cal_X7_between q1008 ⟨by decide, by decide⟩ hq_66 (el_66 _ _) rfl rfl rfl (Nat.le_of_ble_eq_true rfl) ⟨by decide, by decide⟩ dL_law_719) (fun H locs M => ?_)
  refine lv_icmp_eq (tgt := 1257) X.x X.b dL_law_722 (by decide) (fun _ => ?_) (fun c1 => absurd rfl c1)
  exact K _ H locs ls hI M hl
set_option maxRecDepth 100000 in
set_option maxHeartbeats 4000000 in
theorem law_c17 {p : Program} {e : Env} {s : State} {m : MethodId} {below : List Frame} {meth : Method} {c : Code} {l : Launch} {b L : Nat} {xs : Nat → Int32} {Γ : Gm} (hL : L ≤ 3072) (X : Cx p s m #[Value.ref b] meth c code RL 4 ret Γ) (hX : va_X b L xs s s.heap) (hbl : b < s.heap.size) (hbA : ¬ Rg Γ s.heap.size b) {i : Nat} (h6 : 6 * i + 6 ≤ L) {σ : St} {H : Heap} {locs : List Loc} {ls : Array Slot} (hI : Inv σ) (M : Mv Γ σ s H locs) (hl : lv_has ls 4 [(0, .ref b), (1, .ref (Γ.1 0)), (2, .ref (Γ.1 66)), (3, .int (nI (6 * i)))]) (K : ∀ (σ : St) (H : Heap) (locs : List Loc) (ls : Array Slot), Inv σ → Mv Γ σ s H locs → lv_has ls 4 [(0, .ref b), (1, .ref (Γ.1 0)), (2, .ref (Γ.1 66)), (3, .int (nI (6 * i)))] → W p l e room_1 s m #[Value.ref b] below meth c H locs 80 5888 (lw_Z below #[Value.ref b] s) (F0 m 1257 ls [])) : W p l e room_1 s m #[Value.ref b] below meth c H locs 80 5888 (lw_Z below #[Value.ref b] s) (F0 m 727 ls []) := by
  refine lv_aload_n X.x X.b dL_law_727 rfl (lv_at hl 1 rfl) ?_
  obtain ⟨r0, σ1, σ2, h1, h2, hI⟩ := P_fewest hI 
  refine r_runI M (r_callV (As := []) X M (lv_sub hl [] rfl) (T_X6_fewest h1 _) cal_X6_fewest q500 ⟨by decide, by decide⟩ hq_0 (el_0 _ _) rfl rfl rfl (Nat.le_of_ble_eq_true rfl) ⟨by decide, by decide⟩ dL_law_728) (fun H locs M => ?_)
  refine lv_aload_n X.x X.b dL_law_731 rfl (lv_at hl 2 rfl) ?_
  refine r_runI M (r_callV (As := []) X M (lv_sub hl [] rfl) (T_X7_fewest h2 _) cal_X7_fewest q1016 ⟨by decide, by decide⟩ hq_66 (el_66 _ _) rfl rfl rfl (Nat.le_of_ble_eq_true rfl) ⟨by decide, by decide⟩ dL_law_732) (fun H locs M => ?_)
  refine lv_icmp_eq (tgt := 1257) X.x X.b dL_law_735 (by decide) (fun _ => ?_) (fun c1 => absurd rfl c1)
  exact K _ H locs ls hI M hl
set_option maxRecDepth 100000 in
set_option maxHeartbeats 4000000 in
theorem law_c18 {p : Program} {e : Env} {s : State} {m : MethodId} {below : List Frame} {meth : Method} {c : Code} {l : Launch} {b L : Nat} {xs : Nat → Int32} {Γ : Gm} (hL : L ≤ 3072) (X : Cx p s m #[Value.ref b] meth c code RL 4 ret Γ) (hX : va_X b L xs s s.heap) (hbl : b < s.heap.size) (hbA : ¬ Rg Γ s.heap.size b) {i : Nat} (h6 : 6 * i + 6 ≤ L) {σ : St} {H : Heap} {locs : List Loc} {ls : Array Slot} (hI : Inv σ) (M : Mv Γ σ s H locs) (hl : lv_has ls 4 [(0, .ref b), (1, .ref (Γ.1 0)), (2, .ref (Γ.1 66)), (3, .int (nI (6 * i)))]) (K : ∀ (σ : St) (H : Heap) (locs : List Loc) (ls : Array Slot), Inv σ → Mv Γ σ s H locs → lv_has ls 4 [(0, .ref b), (1, .ref (Γ.1 0)), (2, .ref (Γ.1 66)), (3, .int (nI (6 * i)))] → W p l e room_1 s m #[Value.ref b] below meth c H locs 80 5888 (lw_Z below #[Value.ref b] s) (F0 m 1257 ls [])) : W p l e room_1 s m #[Value.ref b] below meth c H locs 80 5888 (lw_Z below #[Value.ref b] s) (F0 m 740 ls []) := by
  refine lv_aload_n X.x X.b dL_law_740 rfl (lv_at hl 1 rfl) ?_
  refine lv_aload_n X.x X.b dL_law_741 rfl (lv_at hl 0 rfl) ?_
  refine lv_iload_n X.x X.b dL_law_742 rfl (lv_at hl 3 rfl) ?_
  refine lv_iconst (v := 1) X.x X.b dL_law_743 (by decide) ?_
  refine lv_iadd X.x X.b dL_law_744 ?_
  refine va_sld X.x X.b hX hbl hbA M.2 (in_s hL h6 1 (by decide)) dL_law_745 ?_
  refine lv_aload_n X.x X.b dL_law_746 rfl (lv_at hl 0 rfl) ?_
  refine lv_iload_n X.x X.b dL_law_747 rfl (lv_at hl 3 rfl) ?_
  refine lv_iconst (v := 2) X.x X.b dL_law_748 (by decide) ?_
  refine lv_iadd X.x X.b dL_law_749 ?_
  refine va_sld X.x X.b hX hbl hbA M.2 (in_s hL h6 2 (by decide)) dL_law_750 ?_
  obtain ⟨r0, σ1, σ2, h1, h2, hI⟩ := P_search hI (xs (nI (6 * i) + 1).toNatClampNeg) (xs (nI (6 * i) + 2).toNatClampNeg)
  refine r_runI M (r_callV (As := [.int (xs (nI (6 * i) + 1).toNatClampNeg), .int (xs (nI (6 * i) + 2).toNatClampNeg)]) X M (lv_sub hl [] rfl) (T_X6_search h1 _) cal_X6_search q510 ⟨by decide, by decide⟩ hq_0 (el_0 _ _) rfl rfl rfl (Nat.le_of_ble_eq_true rfl) ⟨by decide, by decide⟩ dL_law_751) (fun H locs M => ?_)
  refine lv_aload_n X.x X.b dL_law_754 rfl (lv_at hl 2 rfl) ?_
  refine lv_aload_n X.x X.b dL_law_755 rfl (lv_at hl 0 rfl) ?_
  refine lv_iload_n X.x X.b dL_law_756 rfl (lv_at hl 3 rfl) ?_
  refine lv_iconst (v := 1) X.x X.b dL_law_757 (by decide) ?_
  refine lv_iadd X.x X.b dL_law_758 ?_
  refine va_sld X.x X.b hX hbl hbA M.2 (in_s hL h6 1 (by decide)) dL_law_759 ?_
  refine lv_aload_n X.x X.b dL_law_760 rfl (lv_at hl 0 rfl) ?_
  refine lv_iload_n X.x X.b dL_law_761 rfl (lv_at hl 3 rfl) ?_
  refine lv_iconst (v := 2) X.x X.b dL_law_762 (by decide) ?_
  refine lv_iadd X.x X.b dL_law_763 ?_
  refine va_sld X.x X.b hX hbl hbA M.2 (in_s hL h6 2 (by decide)) dL_law_764 ?_
  refine r_runI M (r_callV (As := [.int (xs (nI (6 * i) + 1).toNatClampNeg), .int (xs (nI (6 * i) + 2).toNatClampNeg)]) X M (lv_sub hl [] rfl) (T_X7_search h2 _) cal_X7_search q1028 ⟨by decide, by decide⟩ hq_66 (el_66 _ _) rfl rfl rfl (Nat.le_of_ble_eq_true rfl) ⟨by decide, by decide⟩ dL_law_765) (fun H locs M => ?_)
  refine lv_icmp_eq (tgt := 1257) X.x X.b dL_law_768 (by decide) (fun _ => ?_) (fun c1 => absurd rfl c1)
  exact K _ H locs ls hI M hl
set_option maxRecDepth 100000 in
set_option maxHeartbeats 4000000 in
theorem law_c19 {p : Program} {e : Env} {s : State} {m : MethodId} {below : List Frame} {meth : Method} {c : Code} {l : Launch} {b L : Nat} {xs : Nat → Int32} {Γ : Gm} (hL : L ≤ 3072) (X : Cx p s m #[Value.ref b] meth c code RL 4 ret Γ) (hX : va_X b L xs s s.heap) (hbl : b < s.heap.size) (hbA : ¬ Rg Γ s.heap.size b) {i : Nat} (h6 : 6 * i + 6 ≤ L) {σ : St} {H : Heap} {locs : List Loc} {ls : Array Slot} (hI : Inv σ) (M : Mv Γ σ s H locs) (hl : lv_has ls 4 [(0, .ref b), (1, .ref (Γ.1 0)), (2, .ref (Γ.1 66)), (3, .int (nI (6 * i)))]) (K : ∀ (σ : St) (H : Heap) (locs : List Loc) (ls : Array Slot), Inv σ → Mv Γ σ s H locs → lv_has ls 4 [(0, .ref b), (1, .ref (Γ.1 0)), (2, .ref (Γ.1 66)), (3, .int (nI (6 * i)))] → W p l e room_1 s m #[Value.ref b] below meth c H locs 80 5888 (lw_Z below #[Value.ref b] s) (F0 m 1257 ls [])) : W p l e room_1 s m #[Value.ref b] below meth c H locs 80 5888 (lw_Z below #[Value.ref b] s) (F0 m 773 ls []) := by
  refine lv_aload_n X.x X.b dL_law_773 rfl (lv_at hl 1 rfl) ?_
  refine lv_aload_n X.x X.b dL_law_774 rfl (lv_at hl 0 rfl) ?_
  refine lv_iload_n X.x X.b dL_law_775 rfl (lv_at hl 3 rfl) ?_
  refine lv_iconst (v := 1) X.x X.b dL_law_776 (by decide) ?_
  refine lv_iadd X.x X.b dL_law_777 ?_
  refine va_sld X.x X.b hX hbl hbA M.2 (in_s hL h6 1 (by decide)) dL_law_778 ?_
  obtain ⟨r0, σ1, σ2, h1, h2, hI⟩ := P_odds hI (xs (nI (6 * i) + 1).toNatClampNeg)
  refine r_runI M (r_callV (As := [.int (xs (nI (6 * i) + 1).toNatClampNeg)]) X M (lv_sub hl [] rfl) (T_X6_odds h1 _) cal_X6_odds q518 ⟨by decide, by decide⟩ hq_0 (el_0 _ _) rfl rfl rfl (Nat.le_of_ble_eq_true rfl) ⟨by decide, by decide⟩ dL_law_779) (fun H locs M => ?_)
  refine lv_aload_n X.x X.b dL_law_782 rfl (lv_at hl 2 rfl) ?_
  refine lv_aload_n X.x X.b dL_law_783 rfl (lv_at hl 0 rfl) ?_
  refine lv_iload_n X.x X.b dL_law_784 rfl (lv_at hl 3 rfl) ?_
  refine lv_iconst (v := 1) X.x X.b dL_law_785 (by decide) ?_
  refine lv_iadd X.x X.b dL_law_786 ?_
  refine va_sld X.x X.b hX hbl hbA M.2 (in_s hL h6 1 (by decide)) dL_law_787 ?_
  refine r_runI M (r_callV (As := [.int (xs (nI (6 * i) + 1).toNatClampNeg)]) X M (lv_sub hl [] rfl) (T_X7_odds h2 _) cal_X7_odds q1036 ⟨by decide, by decide⟩ hq_66 (el_66 _ _) rfl rfl rfl (Nat.le_of_ble_eq_true rfl) ⟨by decide, by decide⟩ dL_law_788) (fun H locs M => ?_)
  refine lv_icmp_eq (tgt := 1257) X.x X.b dL_law_791 (by decide) (fun _ => ?_) (fun c1 => absurd rfl c1)
  exact K _ H locs ls hI M hl
set_option maxRecDepth 100000 in
set_option maxHeartbeats 4000000 in
theorem law_c20 {p : Program} {e : Env} {s : State} {m : MethodId} {below : List Frame} {meth : Method} {c : Code} {l : Launch} {b L : Nat} {xs : Nat → Int32} {Γ : Gm} (hL : L ≤ 3072) (X : Cx p s m #[Value.ref b] meth c code RL 4 ret Γ) (hX : va_X b L xs s s.heap) (hbl : b < s.heap.size) (hbA : ¬ Rg Γ s.heap.size b) {i : Nat} (h6 : 6 * i + 6 ≤ L) {σ : St} {H : Heap} {locs : List Loc} {ls : Array Slot} (hI : Inv σ) (M : Mv Γ σ s H locs) (hl : lv_has ls 4 [(0, .ref b), (1, .ref (Γ.1 0)), (2, .ref (Γ.1 66)), (3, .int (nI (6 * i)))]) (K : ∀ (σ : St) (H : Heap) (locs : List Loc) (ls : Array Slot), Inv σ → Mv Γ σ s H locs → lv_has ls 4 [(0, .ref b), (1, .ref (Γ.1 0)), (2, .ref (Γ.1 66)), (3, .int (nI (6 * i)))] → W p l e room_1 s m #[Value.ref b] below meth c H locs 80 5888 (lw_Z below #[Value.ref b] s) (F0 m 1257 ls [])) : W p l e room_1 s m #[Value.ref b] below meth c H locs 80 5888 (lw_Z below #[Value.ref b] s) (F0 m 796 ls []) := by
  refine lv_aload_n X.x X.b dL_law_796 rfl (lv_at hl 1 rfl) ?_
  obtain ⟨r0, σ1, σ2, h1, h2, hI⟩ := P_order hI 
  refine r_runI M (r_callV (As := []) X M (lv_sub hl [] rfl) (T_X6_order h1 _) cal_X6_order q533 ⟨by decide, by decide⟩ hq_0 (el_0 _ _) rfl rfl rfl (Nat.le_of_ble_eq_true rfl) ⟨by decide, by decide⟩ dL_law_797) (fun H locs M => ?_)
  refine lv_aload_n X.x X.b dL_law_800 rfl (lv_at hl 2 rfl) ?_
  refine r_runI M (r_callV (As := []) X M (lv_sub hl [] rfl) (T_X7_order h2 _) cal_X7_order q1024 ⟨by decide, by decide⟩ hq_66 (el_66 _ _) rfl rfl rfl (Nat.le_of_ble_eq_true rfl) ⟨by decide, by decide⟩ dL_law_801) (fun H locs M => ?_)
  refine lv_icmp_eq (tgt := 1257) X.x X.b dL_law_804 (by decide) (fun _ => ?_) (fun c1 => absurd rfl c1)
  exact K _ H locs ls hI M hl
set_option maxRecDepth 100000 in
set_option maxHeartbeats 4000000 in
theorem law_c21 {p : Program} {e : Env} {s : State} {m : MethodId} {below : List Frame} {meth : Method} {c : Code} {l : Launch} {b L : Nat} {xs : Nat → Int32} {Γ : Gm} (hL : L ≤ 3072) (X : Cx p s m #[Value.ref b] meth c code RL 4 ret Γ) (hX : va_X b L xs s s.heap) (hbl : b < s.heap.size) (hbA : ¬ Rg Γ s.heap.size b) {i : Nat} (h6 : 6 * i + 6 ≤ L) {σ : St} {H : Heap} {locs : List Loc} {ls : Array Slot} (hI : Inv σ) (M : Mv Γ σ s H locs) (hl : lv_has ls 4 [(0, .ref b), (1, .ref (Γ.1 0)), (2, .ref (Γ.1 66)), (3, .int (nI (6 * i)))]) (K : ∀ (σ : St) (H : Heap) (locs : List Loc) (ls : Array Slot), Inv σ → Mv Γ σ s H locs → lv_has ls 4 [(0, .ref b), (1, .ref (Γ.1 0)), (2, .ref (Γ.1 66)), (3, .int (nI (6 * i)))] → W p l e room_1 s m #[Value.ref b] below meth c H locs 80 5888 (lw_Z below #[Value.ref b] s) (F0 m 1257 ls [])) : W p l e room_1 s m #[Value.ref b] below meth c H locs 80 5888 (lw_Z below #[Value.ref b] s) (F0 m 809 ls []) := by
  refine lv_aload_n X.x X.b dL_law_809 rfl (lv_at hl 1 rfl) ?_
  refine lv_aload_n X.x X.b dL_law_810 rfl (lv_at hl 0 rfl) ?_
  refine lv_iload_n X.x X.b dL_law_811 rfl (lv_at hl 3 rfl) ?_
  refine lv_iconst (v := 1) X.x X.b dL_law_812 (by decide) ?_
  refine lv_iadd X.x X.b dL_law_813 ?_
  refine va_sld X.x X.b hX hbl hbA M.2 (in_s hL h6 1 (by decide)) dL_law_814 ?_
  refine lv_aload_n X.x X.b dL_law_815 rfl (lv_at hl 0 rfl) ?_
  refine lv_iload_n X.x X.b dL_law_816 rfl (lv_at hl 3 rfl) ?_
  refine lv_iconst (v := 2) X.x X.b dL_law_817 (by decide) ?_
  refine lv_iadd X.x X.b dL_law_818 ?_
  refine va_sld X.x X.b hX hbl hbA M.2 (in_s hL h6 2 (by decide)) dL_law_819 ?_
  obtain ⟨r0, σ1, σ2, h1, h2, hI⟩ := P_fits hI (xs (nI (6 * i) + 1).toNatClampNeg) (xs (nI (6 * i) + 2).toNatClampNeg)
  refine r_runI M (r_callV (As := [.int (xs (nI (6 * i) + 1).toNatClampNeg), .int (xs (nI (6 * i) + 2).toNatClampNeg)]) X M (lv_sub hl [] rfl) (T_X6_fits h1 _) cal_X6_fits q538 ⟨by decide, by decide⟩ hq_0 (el_0 _ _) rfl rfl rfl (Nat.le_of_ble_eq_true rfl) ⟨by decide, by decide⟩ dL_law_820) (fun H locs M => ?_)
  refine lv_aload_n X.x X.b dL_law_823 rfl (lv_at hl 2 rfl) ?_
  refine lv_aload_n X.x X.b dL_law_824 rfl (lv_at hl 0 rfl) ?_
  refine lv_iload_n X.x X.b dL_law_825 rfl (lv_at hl 3 rfl) ?_
  refine lv_iconst (v := 1) X.x X.b dL_law_826 (by decide) ?_
  refine lv_iadd X.x X.b dL_law_827 ?_
  refine va_sld X.x X.b hX hbl hbA M.2 (in_s hL h6 1 (by decide)) dL_law_828 ?_
  refine lv_aload_n X.x X.b dL_law_829 rfl (lv_at hl 0 rfl) ?_
  refine lv_iload_n X.x X.b dL_law_830 rfl (lv_at hl 3 rfl) ?_
  refine lv_iconst (v := 2) X.x X.b dL_law_831 (by decide) ?_
  refine lv_iadd X.x X.b dL_law_832 ?_
  refine va_sld X.x X.b hX hbl hbA M.2 (in_s hL h6 2 (by decide)) dL_law_833 ?_
  refine r_runI M (r_callV (As := [.int (xs (nI (6 * i) + 1).toNatClampNeg), .int (xs (nI (6 * i) + 2).toNatClampNeg)]) X M (lv_sub hl [] rfl) (T_X7_fits h2 _) cal_X7_fits q1043 ⟨by decide, by decide⟩ hq_66 (el_66 _ _) rfl rfl rfl (Nat.le_of_ble_eq_true rfl) ⟨by decide, by decide⟩ dL_law_834) (fun H locs M => ?_)
  refine lv_icmp_eq (tgt := 1257) X.x X.b dL_law_837 (by decide) (fun _ => ?_) (fun c1 => absurd rfl c1)
  exact K _ H locs ls hI M hl
set_option maxRecDepth 100000 in
set_option maxHeartbeats 4000000 in
theorem law_c22 {p : Program} {e : Env} {s : State} {m : MethodId} {below : List Frame} {meth : Method} {c : Code} {l : Launch} {b L : Nat} {xs : Nat → Int32} {Γ : Gm} (hL : L ≤ 3072) (X : Cx p s m #[Value.ref b] meth c code RL 4 ret Γ) (hX : va_X b L xs s s.heap) (hbl : b < s.heap.size) (hbA : ¬ Rg Γ s.heap.size b) {i : Nat} (h6 : 6 * i + 6 ≤ L) {σ : St} {H : Heap} {locs : List Loc} {ls : Array Slot} (hI : Inv σ) (M : Mv Γ σ s H locs) (hl : lv_has ls 4 [(0, .ref b), (1, .ref (Γ.1 0)), (2, .ref (Γ.1 66)), (3, .int (nI (6 * i)))]) (K : ∀ (σ : St) (H : Heap) (locs : List Loc) (ls : Array Slot), Inv σ → Mv Γ σ s H locs → lv_has ls 4 [(0, .ref b), (1, .ref (Γ.1 0)), (2, .ref (Γ.1 66)), (3, .int (nI (6 * i)))] → W p l e room_1 s m #[Value.ref b] below meth c H locs 80 5888 (lw_Z below #[Value.ref b] s) (F0 m 1257 ls [])) : W p l e room_1 s m #[Value.ref b] below meth c H locs 80 5888 (lw_Z below #[Value.ref b] s) (F0 m 842 ls []) := by
  refine lv_aload_n X.x X.b dL_law_842 rfl (lv_at hl 1 rfl) ?_
  refine lv_aload_n X.x X.b dL_law_843 rfl (lv_at hl 0 rfl) ?_
  refine lv_iload_n X.x X.b dL_law_844 rfl (lv_at hl 3 rfl) ?_
  refine lv_iconst (v := 1) X.x X.b dL_law_845 (by decide) ?_
  refine lv_iadd X.x X.b dL_law_846 ?_
  refine va_sld X.x X.b hX hbl hbA M.2 (in_s hL h6 1 (by decide)) dL_law_847 ?_
  obtain ⟨r0, σ1, σ2, h1, h2, hI⟩ := P_loose hI (xs (nI (6 * i) + 1).toNatClampNeg)
  refine r_runI M (r_callV (As := [.int (xs (nI (6 * i) + 1).toNatClampNeg)]) X M (lv_sub hl [] rfl) (T_X6_loose h1 _) cal_X6_loose q571 ⟨by decide, by decide⟩ hq_0 (el_0 _ _) rfl rfl rfl (Nat.le_of_ble_eq_true rfl) ⟨by decide, by decide⟩ dL_law_848) (fun H locs M => ?_)
  refine lv_aload_n X.x X.b dL_law_851 rfl (lv_at hl 2 rfl) ?_
  refine lv_aload_n X.x X.b dL_law_852 rfl (lv_at hl 0 rfl) ?_
  refine lv_iload_n X.x X.b dL_law_853 rfl (lv_at hl 3 rfl) ?_
  refine lv_iconst (v := 1) X.x X.b dL_law_854 (by decide) ?_
  refine lv_iadd X.x X.b dL_law_855 ?_
  refine va_sld X.x X.b hX hbl hbA M.2 (in_s hL h6 1 (by decide)) dL_law_856 ?_
  refine r_runI M (r_callV (As := [.int (xs (nI (6 * i) + 1).toNatClampNeg)]) X M (lv_sub hl [] rfl) (T_X7_loose h2 _) cal_X7_loose q1058 ⟨by decide, by decide⟩ hq_66 (el_66 _ _) rfl rfl rfl (Nat.le_of_ble_eq_true rfl) ⟨by decide, by decide⟩ dL_law_857) (fun H locs M => ?_)
  refine lv_icmp_eq (tgt := 1257) X.x X.b dL_law_860 (by decide) (fun _ => ?_) (fun c1 => absurd rfl c1)
  exact K _ H locs ls hI M hl
set_option maxRecDepth 100000 in
set_option maxHeartbeats 4000000 in
theorem law_c23 {p : Program} {e : Env} {s : State} {m : MethodId} {below : List Frame} {meth : Method} {c : Code} {l : Launch} {b L : Nat} {xs : Nat → Int32} {Γ : Gm} (hL : L ≤ 3072) (X : Cx p s m #[Value.ref b] meth c code RL 4 ret Γ) (hX : va_X b L xs s s.heap) (hbl : b < s.heap.size) (hbA : ¬ Rg Γ s.heap.size b) {i : Nat} (h6 : 6 * i + 6 ≤ L) {σ : St} {H : Heap} {locs : List Loc} {ls : Array Slot} (hI : Inv σ) (M : Mv Γ σ s H locs) (hl : lv_has ls 4 [(0, .ref b), (1, .ref (Γ.1 0)), (2, .ref (Γ.1 66)), (3, .int (nI (6 * i)))]) (K : ∀ (σ : St) (H : Heap) (locs : List Loc) (ls : Array Slot), Inv σ → Mv Γ σ s H locs → lv_has ls 4 [(0, .ref b), (1, .ref (Γ.1 0)), (2, .ref (Γ.1 66)), (3, .int (nI (6 * i)))] → W p l e room_1 s m #[Value.ref b] below meth c H locs 80 5888 (lw_Z below #[Value.ref b] s) (F0 m 1257 ls [])) : W p l e room_1 s m #[Value.ref b] below meth c H locs 80 5888 (lw_Z below #[Value.ref b] s) (F0 m 865 ls []) := by
  refine lv_aload_n X.x X.b dL_law_865 rfl (lv_at hl 1 rfl) ?_
  refine lv_aload_n X.x X.b dL_law_866 rfl (lv_at hl 0 rfl) ?_
  refine lv_iload_n X.x X.b dL_law_867 rfl (lv_at hl 3 rfl) ?_
  refine lv_iconst (v := 1) X.x X.b dL_law_868 (by decide) ?_
  refine lv_iadd X.x X.b dL_law_869 ?_
  refine va_sld X.x X.b hX hbl hbA M.2 (in_s hL h6 1 (by decide)) dL_law_870 ?_
  obtain ⟨r0, σ1, σ2, h1, h2, hI⟩ := P_seed hI (xs (nI (6 * i) + 1).toNatClampNeg)
  refine r_runI M (r_callV (As := [.int (xs (nI (6 * i) + 1).toNatClampNeg)]) X M (lv_sub hl [] rfl) (T_X6_seed h1 _) cal_X6_seed q590 ⟨by decide, by decide⟩ hq_0 (el_0 _ _) rfl rfl rfl (Nat.le_of_ble_eq_true rfl) ⟨by decide, by decide⟩ dL_law_871) (fun H locs M => ?_)
  refine lv_aload_n X.x X.b dL_law_874 rfl (lv_at hl 2 rfl) ?_
  refine lv_aload_n X.x X.b dL_law_875 rfl (lv_at hl 0 rfl) ?_
  refine lv_iload_n X.x X.b dL_law_876 rfl (lv_at hl 3 rfl) ?_
  refine lv_iconst (v := 1) X.x X.b dL_law_877 (by decide) ?_
  refine lv_iadd X.x X.b dL_law_878 ?_
  refine va_sld X.x X.b hX hbl hbA M.2 (in_s hL h6 1 (by decide)) dL_law_879 ?_
  refine r_runI M (r_callV (As := [.int (xs (nI (6 * i) + 1).toNatClampNeg)]) X M (lv_sub hl [] rfl) (T_X7_seed h2 _) cal_X7_seed q1071 ⟨by decide, by decide⟩ hq_66 (el_66 _ _) rfl rfl rfl (Nat.le_of_ble_eq_true rfl) ⟨by decide, by decide⟩ dL_law_880) (fun H locs M => ?_)
  refine lv_icmp_eq (tgt := 1257) X.x X.b dL_law_883 (by decide) (fun _ => ?_) (fun c1 => absurd rfl c1)
  exact K _ H locs ls hI M hl
set_option maxRecDepth 100000 in
set_option maxHeartbeats 4000000 in
theorem law_c24 {p : Program} {e : Env} {s : State} {m : MethodId} {below : List Frame} {meth : Method} {c : Code} {l : Launch} {b L : Nat} {xs : Nat → Int32} {Γ : Gm} (hL : L ≤ 3072) (X : Cx p s m #[Value.ref b] meth c code RL 4 ret Γ) (hX : va_X b L xs s s.heap) (hbl : b < s.heap.size) (hbA : ¬ Rg Γ s.heap.size b) {i : Nat} (h6 : 6 * i + 6 ≤ L) {σ : St} {H : Heap} {locs : List Loc} {ls : Array Slot} (hI : Inv σ) (M : Mv Γ σ s H locs) (hl : lv_has ls 4 [(0, .ref b), (1, .ref (Γ.1 0)), (2, .ref (Γ.1 66)), (3, .int (nI (6 * i)))]) (K : ∀ (σ : St) (H : Heap) (locs : List Loc) (ls : Array Slot), Inv σ → Mv Γ σ s H locs → lv_has ls 4 [(0, .ref b), (1, .ref (Γ.1 0)), (2, .ref (Γ.1 66)), (3, .int (nI (6 * i)))] → W p l e room_1 s m #[Value.ref b] below meth c H locs 80 5888 (lw_Z below #[Value.ref b] s) (F0 m 1257 ls [])) : W p l e room_1 s m #[Value.ref b] below meth c H locs 80 5888 (lw_Z below #[Value.ref b] s) (F0 m 888 ls []) := by
  refine lv_aload_n X.x X.b dL_law_888 rfl (lv_at hl 1 rfl) ?_
  refine lv_aload_n X.x X.b dL_law_889 rfl (lv_at hl 0 rfl) ?_
  refine lv_iload_n X.x X.b dL_law_890 rfl (lv_at hl 3 rfl) ?_
  refine lv_iconst (v := 1) X.x X.b dL_law_891 (by decide) ?_
  refine lv_iadd X.x X.b dL_law_892 ?_
  refine va_sld X.x X.b hX hbl hbA M.2 (in_s hL h6 1 (by decide)) dL_law_893 ?_
  refine lv_aload_n X.x X.b dL_law_894 rfl (lv_at hl 0 rfl) ?_
  refine lv_iload_n X.x X.b dL_law_895 rfl (lv_at hl 3 rfl) ?_
  refine lv_iconst (v := 2) X.x X.b dL_law_896 (by decide) ?_
  refine lv_iadd X.x X.b dL_law_897 ?_
  refine va_sld X.x X.b hX hbl hbA M.2 (in_s hL h6 2 (by decide)) dL_law_898 ?_
  refine lv_aload_n X.x X.b dL_law_899 rfl (lv_at hl 0 rfl) ?_
  refine lv_iload_n X.x X.b dL_law_900 rfl (lv_at hl 3 rfl) ?_
  refine lv_iconst (v := 3) X.x X.b dL_law_901 (by decide) ?_
  refine lv_iadd X.x X.b dL_law_902 ?_
  refine va_sld X.x X.b hX hbl hbA M.2 (in_s hL h6 3 (by decide)) dL_law_903 ?_
  obtain ⟨r0, σ1, σ2, h1, h2, hI⟩ := P_voice hI (xs (nI (6 * i) + 1).toNatClampNeg) (xs (nI (6 * i) + 2).toNatClampNeg) (xs (nI (6 * i) + 3).toNatClampNeg)
  refine r_runI M (r_callV (As := [.int (xs (nI (6 * i) + 1).toNatClampNeg), .int (xs (nI (6 * i) + 2).toNatClampNeg), .int (xs (nI (6 * i) + 3).toNatClampNeg)]) X M (lv_sub hl [] rfl) (T_X6_voice h1 _) cal_X6_voice q594 ⟨by decide, by decide⟩ hq_0 (el_0 _ _) rfl rfl rfl (Nat.le_of_ble_eq_true rfl) ⟨by decide, by decide⟩ dL_law_904) (fun H locs M => ?_)
  refine lv_aload_n X.x X.b dL_law_907 rfl (lv_at hl 2 rfl) ?_
  refine lv_aload_n X.x X.b dL_law_908 rfl (lv_at hl 0 rfl) ?_
  refine lv_iload_n X.x X.b dL_law_909 rfl (lv_at hl 3 rfl) ?_
  refine lv_iconst (v := 1) X.x X.b dL_law_910 (by decide) ?_
  refine lv_iadd X.x X.b dL_law_911 ?_
  refine va_sld X.x X.b hX hbl hbA M.2 (in_s hL h6 1 (by decide)) dL_law_912 ?_
  refine lv_aload_n X.x X.b dL_law_913 rfl (lv_at hl 0 rfl) ?_
  refine lv_iload_n X.x X.b dL_law_914 rfl (lv_at hl 3 rfl) ?_
  refine lv_iconst (v := 2) X.x X.b dL_law_915 (by decide) ?_
  refine lv_iadd X.x X.b dL_law_916 ?_
  refine va_sld X.x X.b hX hbl hbA M.2 (in_s hL h6 2 (by decide)) dL_law_917 ?_
  refine lv_aload_n X.x X.b dL_law_918 rfl (lv_at hl 0 rfl) ?_
  refine lv_iload_n X.x X.b dL_law_919 rfl (lv_at hl 3 rfl) ?_
  refine lv_iconst (v := 3) X.x X.b dL_law_920 (by decide) ?_
  refine lv_iadd X.x X.b dL_law_921 ?_
  refine va_sld X.x X.b hX hbl hbA M.2 (in_s hL h6 3 (by decide)) dL_law_922 ?_
  refine r_runI M (r_callV (As := [.int (xs (nI (6 * i) + 1).toNatClampNeg), .int (xs (nI (6 * i) + 2).toNatClampNeg), .int (xs (nI (6 * i) + 3).toNatClampNeg)]) X M (lv_sub hl [] rfl) (T_X7_voice h2 _) cal_X7_voice q1075 ⟨by decide, by decide⟩ hq_66 (el_66 _ _) rfl rfl rfl (Nat.le_of_ble_eq_true rfl) ⟨by decide, by decide⟩ dL_law_923) (fun H locs M => ?_)
  refine lv_icmp_eq (tgt := 1257) X.x X.b dL_law_926 (by decide) (fun _ => ?_) (fun c1 => absurd rfl c1)
  exact K _ H locs ls hI M hl
set_option maxRecDepth 100000 in
set_option maxHeartbeats 4000000 in
theorem law_c25 {p : Program} {e : Env} {s : State} {m : MethodId} {below : List Frame} {meth : Method} {c : Code} {l : Launch} {b L : Nat} {xs : Nat → Int32} {Γ : Gm} (hL : L ≤ 3072) (X : Cx p s m #[Value.ref b] meth c code RL 4 ret Γ) (hX : va_X b L xs s s.heap) (hbl : b < s.heap.size) (hbA : ¬ Rg Γ s.heap.size b) {i : Nat} (h6 : 6 * i + 6 ≤ L) {σ : St} {H : Heap} {locs : List Loc} {ls : Array Slot} (hI : Inv σ) (M : Mv Γ σ s H locs) (hl : lv_has ls 4 [(0, .ref b), (1, .ref (Γ.1 0)), (2, .ref (Γ.1 66)), (3, .int (nI (6 * i)))]) (K : ∀ (σ : St) (H : Heap) (locs : List Loc) (ls : Array Slot), Inv σ → Mv Γ σ s H locs → lv_has ls 4 [(0, .ref b), (1, .ref (Γ.1 0)), (2, .ref (Γ.1 66)), (3, .int (nI (6 * i)))] → W p l e room_1 s m #[Value.ref b] below meth c H locs 80 5888 (lw_Z below #[Value.ref b] s) (F0 m 1257 ls [])) : W p l e room_1 s m #[Value.ref b] below meth c H locs 80 5888 (lw_Z below #[Value.ref b] s) (F0 m 931 ls []) := by
  refine lv_aload_n X.x X.b dL_law_931 rfl (lv_at hl 1 rfl) ?_
  refine lv_aload_n X.x X.b dL_law_932 rfl (lv_at hl 0 rfl) ?_
  refine lv_iload_n X.x X.b dL_law_933 rfl (lv_at hl 3 rfl) ?_
  refine lv_iconst (v := 1) X.x X.b dL_law_934 (by decide) ?_
  refine lv_iadd X.x X.b dL_law_935 ?_
  refine va_sld X.x X.b hX hbl hbA M.2 (in_s hL h6 1 (by decide)) dL_law_936 ?_
  obtain ⟨r0, σ1, σ2, h1, h2, hI⟩ := P_body hI (xs (nI (6 * i) + 1).toNatClampNeg)
  refine r_runI M (r_callV (As := [.int (xs (nI (6 * i) + 1).toNatClampNeg)]) X M (lv_sub hl [] rfl) (T_X6_body h1 _) cal_X6_body q633 ⟨by decide, by decide⟩ hq_0 (el_0 _ _) rfl rfl rfl (Nat.le_of_ble_eq_true rfl) ⟨by decide, by decide⟩ dL_law_937) (fun H locs M => ?_)
  refine lv_aload_n X.x X.b dL_law_940 rfl (lv_at hl 2 rfl) ?_
  refine lv_aload_n X.x X.b dL_law_941 rfl (lv_at hl 0 rfl) ?_
  refine lv_iload_n X.x X.b dL_law_942 rfl (lv_at hl 3 rfl) ?_
  refine lv_iconst (v := 1) X.x X.b dL_law_943 (by decide) ?_
  refine lv_iadd X.x X.b dL_law_944 ?_
  refine va_sld X.x X.b hX hbl hbA M.2 (in_s hL h6 1 (by decide)) dL_law_945 ?_
  refine r_runI M (r_callV (As := [.int (xs (nI (6 * i) + 1).toNatClampNeg)]) X M (lv_sub hl [] rfl) (T_X7_body h2 _) cal_X7_body q1107 ⟨by decide, by decide⟩ hq_66 (el_66 _ _) rfl rfl rfl (Nat.le_of_ble_eq_true rfl) ⟨by decide, by decide⟩ dL_law_946) (fun H locs M => ?_)
  refine lv_icmp_eq (tgt := 1257) X.x X.b dL_law_949 (by decide) (fun _ => ?_) (fun c1 => absurd rfl c1)
  exact K _ H locs ls hI M hl
set_option maxRecDepth 100000 in
set_option maxHeartbeats 4000000 in
theorem law_c26 {p : Program} {e : Env} {s : State} {m : MethodId} {below : List Frame} {meth : Method} {c : Code} {l : Launch} {b L : Nat} {xs : Nat → Int32} {Γ : Gm} (hL : L ≤ 3072) (X : Cx p s m #[Value.ref b] meth c code RL 4 ret Γ) (hX : va_X b L xs s s.heap) (hbl : b < s.heap.size) (hbA : ¬ Rg Γ s.heap.size b) {i : Nat} (h6 : 6 * i + 6 ≤ L) {σ : St} {H : Heap} {locs : List Loc} {ls : Array Slot} (hI : Inv σ) (M : Mv Γ σ s H locs) (hl : lv_has ls 4 [(0, .ref b), (1, .ref (Γ.1 0)), (2, .ref (Γ.1 66)), (3, .int (nI (6 * i)))]) (K : ∀ (σ : St) (H : Heap) (locs : List Loc) (ls : Array Slot), Inv σ → Mv Γ σ s H locs → lv_has ls 4 [(0, .ref b), (1, .ref (Γ.1 0)), (2, .ref (Γ.1 66)), (3, .int (nI (6 * i)))] → W p l e room_1 s m #[Value.ref b] below meth c H locs 80 5888 (lw_Z below #[Value.ref b] s) (F0 m 1257 ls [])) : W p l e room_1 s m #[Value.ref b] below meth c H locs 80 5888 (lw_Z below #[Value.ref b] s) (F0 m 954 ls []) := by
  refine lv_aload_n X.x X.b dL_law_954 rfl (lv_at hl 1 rfl) ?_
  refine lv_aload_n X.x X.b dL_law_955 rfl (lv_at hl 0 rfl) ?_
  refine lv_iload_n X.x X.b dL_law_956 rfl (lv_at hl 3 rfl) ?_
  refine lv_iconst (v := 1) X.x X.b dL_law_957 (by decide) ?_
  refine lv_iadd X.x X.b dL_law_958 ?_
  refine va_sld X.x X.b hX hbl hbA M.2 (in_s hL h6 1 (by decide)) dL_law_959 ?_
  refine lv_aload_n X.x X.b dL_law_960 rfl (lv_at hl 0 rfl) ?_
  refine lv_iload_n X.x X.b dL_law_961 rfl (lv_at hl 3 rfl) ?_
  refine lv_iconst (v := 2) X.x X.b dL_law_962 (by decide) ?_
  refine lv_iadd X.x X.b dL_law_963 ?_
  refine va_sld X.x X.b hX hbl hbA M.2 (in_s hL h6 2 (by decide)) dL_law_964 ?_
  refine lv_aload_n X.x X.b dL_law_965 rfl (lv_at hl 0 rfl) ?_
  refine lv_iload_n X.x X.b dL_law_966 rfl (lv_at hl 3 rfl) ?_
  refine lv_iconst (v := 3) X.x X.b dL_law_967 (by decide) ?_
  refine lv_iadd X.x X.b dL_law_968 ?_
  refine va_sld X.x X.b hX hbl hbA M.2 (in_s hL h6 3 (by decide)) dL_law_969 ?_
  obtain ⟨r0, σ1, σ2, h1, h2, hI⟩ := P_sheet hI (xs (nI (6 * i) + 1).toNatClampNeg) (xs (nI (6 * i) + 2).toNatClampNeg) (xs (nI (6 * i) + 3).toNatClampNeg)
  refine r_runI M (r_callV (As := [.int (xs (nI (6 * i) + 1).toNatClampNeg), .int (xs (nI (6 * i) + 2).toNatClampNeg), .int (xs (nI (6 * i) + 3).toNatClampNeg)]) X M (lv_sub hl [] rfl) (T_X6_sheet h1 _) cal_X6_sheet q641 ⟨by decide, by decide⟩ hq_0 (el_0 _ _) rfl rfl rfl (Nat.le_of_ble_eq_true rfl) ⟨by decide, by decide⟩ dL_law_970) (fun H locs M => ?_)
  refine lv_aload_n X.x X.b dL_law_973 rfl (lv_at hl 2 rfl) ?_
  refine lv_aload_n X.x X.b dL_law_974 rfl (lv_at hl 0 rfl) ?_
  refine lv_iload_n X.x X.b dL_law_975 rfl (lv_at hl 3 rfl) ?_
  refine lv_iconst (v := 1) X.x X.b dL_law_976 (by decide) ?_
  refine lv_iadd X.x X.b dL_law_977 ?_
  refine va_sld X.x X.b hX hbl hbA M.2 (in_s hL h6 1 (by decide)) dL_law_978 ?_
  refine lv_aload_n X.x X.b dL_law_979 rfl (lv_at hl 0 rfl) ?_
  refine lv_iload_n X.x X.b dL_law_980 rfl (lv_at hl 3 rfl) ?_
  refine lv_iconst (v := 2) X.x X.b dL_law_981 (by decide) ?_
  refine lv_iadd X.x X.b dL_law_982 ?_
  refine va_sld X.x X.b hX hbl hbA M.2 (in_s hL h6 2 (by decide)) dL_law_983 ?_
  refine lv_aload_n X.x X.b dL_law_984 rfl (lv_at hl 0 rfl) ?_
  refine lv_iload_n X.x X.b dL_law_985 rfl (lv_at hl 3 rfl) ?_
  refine lv_iconst (v := 3) X.x X.b dL_law_986 (by decide) ?_
  refine lv_iadd X.x X.b dL_law_987 ?_
  refine va_sld X.x X.b hX hbl hbA M.2 (in_s hL h6 3 (by decide)) dL_law_988 ?_
  refine r_runI M (r_callV (As := [.int (xs (nI (6 * i) + 1).toNatClampNeg), .int (xs (nI (6 * i) + 2).toNatClampNeg), .int (xs (nI (6 * i) + 3).toNatClampNeg)]) X M (lv_sub hl [] rfl) (T_X7_sheet h2 _) cal_X7_sheet q1111 ⟨by decide, by decide⟩ hq_66 (el_66 _ _) rfl rfl rfl (Nat.le_of_ble_eq_true rfl) ⟨by decide, by decide⟩ dL_law_989) (fun H locs M => ?_)
  refine lv_icmp_eq (tgt := 1257) X.x X.b dL_law_992 (by decide) (fun _ => ?_) (fun c1 => absurd rfl c1)
  exact K _ H locs ls hI M hl
set_option maxRecDepth 100000 in
set_option maxHeartbeats 4000000 in
theorem law_c27 {p : Program} {e : Env} {s : State} {m : MethodId} {below : List Frame} {meth : Method} {c : Code} {l : Launch} {b L : Nat} {xs : Nat → Int32} {Γ : Gm} (hL : L ≤ 3072) (X : Cx p s m #[Value.ref b] meth c code RL 4 ret Γ) (hX : va_X b L xs s s.heap) (hbl : b < s.heap.size) (hbA : ¬ Rg Γ s.heap.size b) {i : Nat} (h6 : 6 * i + 6 ≤ L) {σ : St} {H : Heap} {locs : List Loc} {ls : Array Slot} (hI : Inv σ) (M : Mv Γ σ s H locs) (hl : lv_has ls 4 [(0, .ref b), (1, .ref (Γ.1 0)), (2, .ref (Γ.1 66)), (3, .int (nI (6 * i)))]) (K : ∀ (σ : St) (H : Heap) (locs : List Loc) (ls : Array Slot), Inv σ → Mv Γ σ s H locs → lv_has ls 4 [(0, .ref b), (1, .ref (Γ.1 0)), (2, .ref (Γ.1 66)), (3, .int (nI (6 * i)))] → W p l e room_1 s m #[Value.ref b] below meth c H locs 80 5888 (lw_Z below #[Value.ref b] s) (F0 m 1257 ls [])) : W p l e room_1 s m #[Value.ref b] below meth c H locs 80 5888 (lw_Z below #[Value.ref b] s) (F0 m 997 ls []) := by
  refine lv_aload_n X.x X.b dL_law_997 rfl (lv_at hl 1 rfl) ?_
  refine lv_aload_n X.x X.b dL_law_998 rfl (lv_at hl 0 rfl) ?_
  refine lv_iload_n X.x X.b dL_law_999 rfl (lv_at hl 3 rfl) ?_
  refine lv_iconst (v := 1) X.x X.b dL_law_1000 (by decide) ?_
  refine lv_iadd X.x X.b dL_law_1001 ?_
  refine va_sld X.x X.b hX hbl hbA M.2 (in_s hL h6 1 (by decide)) dL_law_1002 ?_
  refine lv_aload_n X.x X.b dL_law_1003 rfl (lv_at hl 0 rfl) ?_
  refine lv_iload_n X.x X.b dL_law_1004 rfl (lv_at hl 3 rfl) ?_
  refine lv_iconst (v := 2) X.x X.b dL_law_1005 (by decide) ?_
  refine lv_iadd X.x X.b dL_law_1006 ?_
  refine va_sld X.x X.b hX hbl hbA M.2 (in_s hL h6 2 (by decide)) dL_law_1007 ?_
  refine lv_aload_n X.x X.b dL_law_1008 rfl (lv_at hl 0 rfl) ?_
  refine lv_iload_n X.x X.b dL_law_1009 rfl (lv_at hl 3 rfl) ?_
  refine lv_iconst (v := 3) X.x X.b dL_law_1010 (by decide) ?_
  refine lv_iadd X.x X.b dL_law_1011 ?_
  refine va_sld X.x X.b hX hbl hbA M.2 (in_s hL h6 3 (by decide)) dL_law_1012 ?_
  obtain ⟨r0, σ1, σ2, h1, h2, hI⟩ := P_put hI (xs (nI (6 * i) + 1).toNatClampNeg) (xs (nI (6 * i) + 2).toNatClampNeg) (xs (nI (6 * i) + 3).toNatClampNeg)
  refine r_runI M (r_callV (As := [.int (xs (nI (6 * i) + 1).toNatClampNeg), .int (xs (nI (6 * i) + 2).toNatClampNeg), .int (xs (nI (6 * i) + 3).toNatClampNeg)]) X M (lv_sub hl [] rfl) (T_X6_put h1 _) cal_X6_put q650 ⟨by decide, by decide⟩ hq_0 (el_0 _ _) rfl rfl rfl (Nat.le_of_ble_eq_true rfl) ⟨by decide, by decide⟩ dL_law_1013) (fun H locs M => ?_)
  refine lv_aload_n X.x X.b dL_law_1016 rfl (lv_at hl 2 rfl) ?_
  refine lv_aload_n X.x X.b dL_law_1017 rfl (lv_at hl 0 rfl) ?_
  refine lv_iload_n X.x X.b dL_law_1018 rfl (lv_at hl 3 rfl) ?_
  refine lv_iconst (v := 1) X.x X.b dL_law_1019 (by decide) ?_
  refine lv_iadd X.x X.b dL_law_1020 ?_
  refine va_sld X.x X.b hX hbl hbA M.2 (in_s hL h6 1 (by decide)) dL_law_1021 ?_
  refine lv_aload_n X.x X.b dL_law_1022 rfl (lv_at hl 0 rfl) ?_
  refine lv_iload_n X.x X.b dL_law_1023 rfl (lv_at hl 3 rfl) ?_
  refine lv_iconst (v := 2) X.x X.b dL_law_1024 (by decide) ?_
  refine lv_iadd X.x X.b dL_law_1025 ?_
  refine va_sld X.x X.b hX hbl hbA M.2 (in_s hL h6 2 (by decide)) dL_law_1026 ?_
  refine lv_aload_n X.x X.b dL_law_1027 rfl (lv_at hl 0 rfl) ?_
  refine lv_iload_n X.x X.b dL_law_1028 rfl (lv_at hl 3 rfl) ?_
  refine lv_iconst (v := 3) X.x X.b dL_law_1029 (by decide) ?_
  refine lv_iadd X.x X.b dL_law_1030 ?_
  refine va_sld X.x X.b hX hbl hbA M.2 (in_s hL h6 3 (by decide)) dL_law_1031 ?_
  refine r_runI M (r_callV (As := [.int (xs (nI (6 * i) + 1).toNatClampNeg), .int (xs (nI (6 * i) + 2).toNatClampNeg), .int (xs (nI (6 * i) + 3).toNatClampNeg)]) X M (lv_sub hl [] rfl) (T_X7_put h2 _) cal_X7_put q1115 ⟨by decide, by decide⟩ hq_66 (el_66 _ _) rfl rfl rfl (Nat.le_of_ble_eq_true rfl) ⟨by decide, by decide⟩ dL_law_1032) (fun H locs M => ?_)
  refine lv_icmp_eq (tgt := 1257) X.x X.b dL_law_1035 (by decide) (fun _ => ?_) (fun c1 => absurd rfl c1)
  exact K _ H locs ls hI M hl
set_option maxRecDepth 100000 in
set_option maxHeartbeats 4000000 in
theorem law_c28 {p : Program} {e : Env} {s : State} {m : MethodId} {below : List Frame} {meth : Method} {c : Code} {l : Launch} {b L : Nat} {xs : Nat → Int32} {Γ : Gm} (hL : L ≤ 3072) (X : Cx p s m #[Value.ref b] meth c code RL 4 ret Γ) (hX : va_X b L xs s s.heap) (hbl : b < s.heap.size) (hbA : ¬ Rg Γ s.heap.size b) {i : Nat} (h6 : 6 * i + 6 ≤ L) {σ : St} {H : Heap} {locs : List Loc} {ls : Array Slot} (hI : Inv σ) (M : Mv Γ σ s H locs) (hl : lv_has ls 4 [(0, .ref b), (1, .ref (Γ.1 0)), (2, .ref (Γ.1 66)), (3, .int (nI (6 * i)))]) (K : ∀ (σ : St) (H : Heap) (locs : List Loc) (ls : Array Slot), Inv σ → Mv Γ σ s H locs → lv_has ls 4 [(0, .ref b), (1, .ref (Γ.1 0)), (2, .ref (Γ.1 66)), (3, .int (nI (6 * i)))] → W p l e room_1 s m #[Value.ref b] below meth c H locs 80 5888 (lw_Z below #[Value.ref b] s) (F0 m 1257 ls [])) : W p l e room_1 s m #[Value.ref b] below meth c H locs 80 5888 (lw_Z below #[Value.ref b] s) (F0 m 1040 ls []) := by
  refine lv_aload_n X.x X.b dL_law_1040 rfl (lv_at hl 1 rfl) ?_
  refine lv_aload_n X.x X.b dL_law_1041 rfl (lv_at hl 0 rfl) ?_
  refine lv_iload_n X.x X.b dL_law_1042 rfl (lv_at hl 3 rfl) ?_
  refine lv_iconst (v := 1) X.x X.b dL_law_1043 (by decide) ?_
  refine lv_iadd X.x X.b dL_law_1044 ?_
  refine va_sld X.x X.b hX hbl hbA M.2 (in_s hL h6 1 (by decide)) dL_law_1045 ?_
  refine lv_aload_n X.x X.b dL_law_1046 rfl (lv_at hl 0 rfl) ?_
  refine lv_iload_n X.x X.b dL_law_1047 rfl (lv_at hl 3 rfl) ?_
  refine lv_iconst (v := 2) X.x X.b dL_law_1048 (by decide) ?_
  refine lv_iadd X.x X.b dL_law_1049 ?_
  refine va_sld X.x X.b hX hbl hbA M.2 (in_s hL h6 2 (by decide)) dL_law_1050 ?_
  refine lv_aload_n X.x X.b dL_law_1051 rfl (lv_at hl 0 rfl) ?_
  refine lv_iload_n X.x X.b dL_law_1052 rfl (lv_at hl 3 rfl) ?_
  refine lv_iconst (v := 3) X.x X.b dL_law_1053 (by decide) ?_
  refine lv_iadd X.x X.b dL_law_1054 ?_
  refine va_sld X.x X.b hX hbl hbA M.2 (in_s hL h6 3 (by decide)) dL_law_1055 ?_
  refine lv_aload_n X.x X.b dL_law_1056 rfl (lv_at hl 0 rfl) ?_
  refine lv_iload_n X.x X.b dL_law_1057 rfl (lv_at hl 3 rfl) ?_
  refine lv_iconst (v := 4) X.x X.b dL_law_1058 (by decide) ?_
  refine lv_iadd X.x X.b dL_law_1059 ?_
  refine va_sld X.x X.b hX hbl hbA M.2 (in_s hL h6 4 (by decide)) dL_law_1060 ?_
  refine lv_aload_n X.x X.b dL_law_1061 rfl (lv_at hl 0 rfl) ?_
  refine lv_iload_n X.x X.b dL_law_1062 rfl (lv_at hl 3 rfl) ?_
  refine lv_iconst (v := 5) X.x X.b dL_law_1063 (by decide) ?_
  refine lv_iadd X.x X.b dL_law_1064 ?_
  refine va_sld X.x X.b hX hbl hbA M.2 (in_s hL h6 5 (by decide)) dL_law_1065 ?_
  obtain ⟨r0, σ1, σ2, h1, h2, hI⟩ := P_move hI (xs (nI (6 * i) + 1).toNatClampNeg) (xs (nI (6 * i) + 2).toNatClampNeg) (xs (nI (6 * i) + 3).toNatClampNeg) (xs (nI (6 * i) + 4).toNatClampNeg) (xs (nI (6 * i) + 5).toNatClampNeg)
  refine r_runI M (r_callV (As := [.int (xs (nI (6 * i) + 1).toNatClampNeg), .int (xs (nI (6 * i) + 2).toNatClampNeg), .int (xs (nI (6 * i) + 3).toNatClampNeg), .int (xs (nI (6 * i) + 4).toNatClampNeg), .int (xs (nI (6 * i) + 5).toNatClampNeg)]) X M (lv_sub hl [] rfl) (T_X6_move h1 _) cal_X6_move q661 ⟨by decide, by decide⟩ hq_0 (el_0 _ _) rfl rfl rfl (Nat.le_of_ble_eq_true rfl) ⟨by decide, by decide⟩ dL_law_1066) (fun H locs M => ?_)
  refine lv_aload_n X.x X.b dL_law_1069 rfl (lv_at hl 2 rfl) ?_
  refine lv_aload_n X.x X.b dL_law_1070 rfl (lv_at hl 0 rfl) ?_
  refine lv_iload_n X.x X.b dL_law_1071 rfl (lv_at hl 3 rfl) ?_
  refine lv_iconst (v := 1) X.x X.b dL_law_1072 (by decide) ?_
  refine lv_iadd X.x X.b dL_law_1073 ?_
  refine va_sld X.x X.b hX hbl hbA M.2 (in_s hL h6 1 (by decide)) dL_law_1074 ?_
  refine lv_aload_n X.x X.b dL_law_1075 rfl (lv_at hl 0 rfl) ?_
  refine lv_iload_n X.x X.b dL_law_1076 rfl (lv_at hl 3 rfl) ?_
  refine lv_iconst (v := 2) X.x X.b dL_law_1077 (by decide) ?_
  refine lv_iadd X.x X.b dL_law_1078 ?_
  refine va_sld X.x X.b hX hbl hbA M.2 (in_s hL h6 2 (by decide)) dL_law_1079 ?_
  refine lv_aload_n X.x X.b dL_law_1080 rfl (lv_at hl 0 rfl) ?_
  refine lv_iload_n X.x X.b dL_law_1081 rfl (lv_at hl 3 rfl) ?_
  refine lv_iconst (v := 3) X.x X.b dL_law_1082 (by decide) ?_
  refine lv_iadd X.x X.b dL_law_1083 ?_
  refine va_sld X.x X.b hX hbl hbA M.2 (in_s hL h6 3 (by decide)) dL_law_1084 ?_
  refine lv_aload_n X.x X.b dL_law_1085 rfl (lv_at hl 0 rfl) ?_
  refine lv_iload_n X.x X.b dL_law_1086 rfl (lv_at hl 3 rfl) ?_
  refine lv_iconst (v := 4) X.x X.b dL_law_1087 (by decide) ?_
  refine lv_iadd X.x X.b dL_law_1088 ?_
  refine va_sld X.x X.b hX hbl hbA M.2 (in_s hL h6 4 (by decide)) dL_law_1089 ?_
  refine lv_aload_n X.x X.b dL_law_1090 rfl (lv_at hl 0 rfl) ?_
  refine lv_iload_n X.x X.b dL_law_1091 rfl (lv_at hl 3 rfl) ?_
  refine lv_iconst (v := 5) X.x X.b dL_law_1092 (by decide) ?_
  refine lv_iadd X.x X.b dL_law_1093 ?_
  refine va_sld X.x X.b hX hbl hbA M.2 (in_s hL h6 5 (by decide)) dL_law_1094 ?_
  refine r_runI M (r_callV (As := [.int (xs (nI (6 * i) + 1).toNatClampNeg), .int (xs (nI (6 * i) + 2).toNatClampNeg), .int (xs (nI (6 * i) + 3).toNatClampNeg), .int (xs (nI (6 * i) + 4).toNatClampNeg), .int (xs (nI (6 * i) + 5).toNatClampNeg)]) X M (lv_sub hl [] rfl) (T_X7_move h2 _) cal_X7_move q1119 ⟨by decide, by decide⟩ hq_66 (el_66 _ _) rfl rfl rfl (Nat.le_of_ble_eq_true rfl) ⟨by decide, by decide⟩ dL_law_1095) (fun H locs M => ?_)
  refine lv_icmp_eq (tgt := 1257) X.x X.b dL_law_1098 (by decide) (fun _ => ?_) (fun c1 => absurd rfl c1)
  exact K _ H locs ls hI M hl
set_option maxRecDepth 100000 in
set_option maxHeartbeats 4000000 in
theorem law_c29 {p : Program} {e : Env} {s : State} {m : MethodId} {below : List Frame} {meth : Method} {c : Code} {l : Launch} {b L : Nat} {xs : Nat → Int32} {Γ : Gm} (hL : L ≤ 3072) (X : Cx p s m #[Value.ref b] meth c code RL 4 ret Γ) (hX : va_X b L xs s s.heap) (hbl : b < s.heap.size) (hbA : ¬ Rg Γ s.heap.size b) {i : Nat} (h6 : 6 * i + 6 ≤ L) {σ : St} {H : Heap} {locs : List Loc} {ls : Array Slot} (hI : Inv σ) (M : Mv Γ σ s H locs) (hl : lv_has ls 4 [(0, .ref b), (1, .ref (Γ.1 0)), (2, .ref (Γ.1 66)), (3, .int (nI (6 * i)))]) (K : ∀ (σ : St) (H : Heap) (locs : List Loc) (ls : Array Slot), Inv σ → Mv Γ σ s H locs → lv_has ls 4 [(0, .ref b), (1, .ref (Γ.1 0)), (2, .ref (Γ.1 66)), (3, .int (nI (6 * i)))] → W p l e room_1 s m #[Value.ref b] below meth c H locs 80 5888 (lw_Z below #[Value.ref b] s) (F0 m 1257 ls [])) : W p l e room_1 s m #[Value.ref b] below meth c H locs 80 5888 (lw_Z below #[Value.ref b] s) (F0 m 1103 ls []) := by
  refine lv_aload_n X.x X.b dL_law_1103 rfl (lv_at hl 1 rfl) ?_
  refine lv_aload_n X.x X.b dL_law_1104 rfl (lv_at hl 0 rfl) ?_
  refine lv_iload_n X.x X.b dL_law_1105 rfl (lv_at hl 3 rfl) ?_
  refine lv_iconst (v := 1) X.x X.b dL_law_1106 (by decide) ?_
  refine lv_iadd X.x X.b dL_law_1107 ?_
  refine va_sld X.x X.b hX hbl hbA M.2 (in_s hL h6 1 (by decide)) dL_law_1108 ?_
  obtain ⟨r0, σ1, σ2, h1, h2, hI⟩ := P_plates hI (xs (nI (6 * i) + 1).toNatClampNeg)
  refine r_runI M (r_callV (As := [.int (xs (nI (6 * i) + 1).toNatClampNeg)]) X M (lv_sub hl [] rfl) (T_X6_plates h1 _) cal_X6_plates q672 ⟨by decide, by decide⟩ hq_0 (el_0 _ _) rfl rfl rfl (Nat.le_of_ble_eq_true rfl) ⟨by decide, by decide⟩ dL_law_1109) (fun H locs M => ?_)
  refine lv_aload_n X.x X.b dL_law_1112 rfl (lv_at hl 2 rfl) ?_
  refine lv_aload_n X.x X.b dL_law_1113 rfl (lv_at hl 0 rfl) ?_
  refine lv_iload_n X.x X.b dL_law_1114 rfl (lv_at hl 3 rfl) ?_
  refine lv_iconst (v := 1) X.x X.b dL_law_1115 (by decide) ?_
  refine lv_iadd X.x X.b dL_law_1116 ?_
  refine va_sld X.x X.b hX hbl hbA M.2 (in_s hL h6 1 (by decide)) dL_law_1117 ?_
  refine r_runI M (r_callV (As := [.int (xs (nI (6 * i) + 1).toNatClampNeg)]) X M (lv_sub hl [] rfl) (T_X7_plates h2 _) cal_X7_plates q1123 ⟨by decide, by decide⟩ hq_66 (el_66 _ _) rfl rfl rfl (Nat.le_of_ble_eq_true rfl) ⟨by decide, by decide⟩ dL_law_1118) (fun H locs M => ?_)
  refine lv_icmp_eq (tgt := 1257) X.x X.b dL_law_1121 (by decide) (fun _ => ?_) (fun c1 => absurd rfl c1)
  exact K _ H locs ls hI M hl
set_option maxRecDepth 100000 in
set_option maxHeartbeats 4000000 in
theorem law_c30 {p : Program} {e : Env} {s : State} {m : MethodId} {below : List Frame} {meth : Method} {c : Code} {l : Launch} {b L : Nat} {xs : Nat → Int32} {Γ : Gm} (hL : L ≤ 3072) (X : Cx p s m #[Value.ref b] meth c code RL 4 ret Γ) (hX : va_X b L xs s s.heap) (hbl : b < s.heap.size) (hbA : ¬ Rg Γ s.heap.size b) {i : Nat} (h6 : 6 * i + 6 ≤ L) {σ : St} {H : Heap} {locs : List Loc} {ls : Array Slot} (hI : Inv σ) (M : Mv Γ σ s H locs) (hl : lv_has ls 4 [(0, .ref b), (1, .ref (Γ.1 0)), (2, .ref (Γ.1 66)), (3, .int (nI (6 * i)))]) (K : ∀ (σ : St) (H : Heap) (locs : List Loc) (ls : Array Slot), Inv σ → Mv Γ σ s H locs → lv_has ls 4 [(0, .ref b), (1, .ref (Γ.1 0)), (2, .ref (Γ.1 66)), (3, .int (nI (6 * i)))] → W p l e room_1 s m #[Value.ref b] below meth c H locs 80 5888 (lw_Z below #[Value.ref b] s) (F0 m 1257 ls [])) : W p l e room_1 s m #[Value.ref b] below meth c H locs 80 5888 (lw_Z below #[Value.ref b] s) (F0 m 1126 ls []) := by
  refine lv_aload_n X.x X.b dL_law_1126 rfl (lv_at hl 1 rfl) ?_
  refine lv_aload_n X.x X.b dL_law_1127 rfl (lv_at hl 0 rfl) ?_
  refine lv_iload_n X.x X.b dL_law_1128 rfl (lv_at hl 3 rfl) ?_
  refine lv_iconst (v := 1) X.x X.b dL_law_1129 (by decide) ?_
  refine lv_iadd X.x X.b dL_law_1130 ?_
  refine va_sld X.x X.b hX hbl hbA M.2 (in_s hL h6 1 (by decide)) dL_law_1131 ?_
  obtain ⟨r0, σ1, σ2, h1, h2, hI⟩ := P_judge hI (xs (nI (6 * i) + 1).toNatClampNeg)
  refine r_runI M (r_callV (As := [.int (xs (nI (6 * i) + 1).toNatClampNeg)]) X M (lv_sub hl [] rfl) (T_X6_judge h1 _) cal_X6_judge q677 ⟨by decide, by decide⟩ hq_0 (el_0 _ _) rfl rfl rfl (Nat.le_of_ble_eq_true rfl) ⟨by decide, by decide⟩ dL_law_1132) (fun H locs M => ?_)
  refine lv_aload_n X.x X.b dL_law_1135 rfl (lv_at hl 2 rfl) ?_
  refine lv_aload_n X.x X.b dL_law_1136 rfl (lv_at hl 0 rfl) ?_
  refine lv_iload_n X.x X.b dL_law_1137 rfl (lv_at hl 3 rfl) ?_
  refine lv_iconst (v := 1) X.x X.b dL_law_1138 (by decide) ?_
  refine lv_iadd X.x X.b dL_law_1139 ?_
  refine va_sld X.x X.b hX hbl hbA M.2 (in_s hL h6 1 (by decide)) dL_law_1140 ?_
  refine r_runI M (r_callV (As := [.int (xs (nI (6 * i) + 1).toNatClampNeg)]) X M (lv_sub hl [] rfl) (T_X7_judge h2 _) cal_X7_judge q1127 ⟨by decide, by decide⟩ hq_66 (el_66 _ _) rfl rfl rfl (Nat.le_of_ble_eq_true rfl) ⟨by decide, by decide⟩ dL_law_1141) (fun H locs M => ?_)
  refine lv_icmp_eq (tgt := 1257) X.x X.b dL_law_1144 (by decide) (fun _ => ?_) (fun c1 => absurd rfl c1)
  exact K _ H locs ls hI M hl
set_option maxRecDepth 100000 in
set_option maxHeartbeats 4000000 in
theorem law_c31 {p : Program} {e : Env} {s : State} {m : MethodId} {below : List Frame} {meth : Method} {c : Code} {l : Launch} {b L : Nat} {xs : Nat → Int32} {Γ : Gm} (hL : L ≤ 3072) (X : Cx p s m #[Value.ref b] meth c code RL 4 ret Γ) (hX : va_X b L xs s s.heap) (hbl : b < s.heap.size) (hbA : ¬ Rg Γ s.heap.size b) {i : Nat} (h6 : 6 * i + 6 ≤ L) {σ : St} {H : Heap} {locs : List Loc} {ls : Array Slot} (hI : Inv σ) (M : Mv Γ σ s H locs) (hl : lv_has ls 4 [(0, .ref b), (1, .ref (Γ.1 0)), (2, .ref (Γ.1 66)), (3, .int (nI (6 * i)))]) (K : ∀ (σ : St) (H : Heap) (locs : List Loc) (ls : Array Slot), Inv σ → Mv Γ σ s H locs → lv_has ls 4 [(0, .ref b), (1, .ref (Γ.1 0)), (2, .ref (Γ.1 66)), (3, .int (nI (6 * i)))] → W p l e room_1 s m #[Value.ref b] below meth c H locs 80 5888 (lw_Z below #[Value.ref b] s) (F0 m 1257 ls [])) : W p l e room_1 s m #[Value.ref b] below meth c H locs 80 5888 (lw_Z below #[Value.ref b] s) (F0 m 1149 ls []) := by
  refine lv_aload_n X.x X.b dL_law_1149 rfl (lv_at hl 1 rfl) ?_
  obtain ⟨r0, σ1, σ2, h1, h2, hI⟩ := P_image hI 
  refine r_runI M (r_callV (As := []) X M (lv_sub hl [] rfl) (T_X6_image h1 _) cal_X6_image q681 ⟨by decide, by decide⟩ hq_0 (el_0 _ _) rfl rfl rfl (Nat.le_of_ble_eq_true rfl) ⟨by decide, by decide⟩ dL_law_1150) (fun H locs M => ?_)
  refine lv_aload_n X.x X.b dL_law_1153 rfl (lv_at hl 2 rfl) ?_
  refine r_runI M (r_callV (As := []) X M (lv_sub hl [] rfl) (T_X7_image h2 _) cal_X7_image q1131 ⟨by decide, by decide⟩ hq_66 (el_66 _ _) rfl rfl rfl (Nat.le_of_ble_eq_true rfl) ⟨by decide, by decide⟩ dL_law_1154) (fun H locs M => ?_)
  refine lv_icmp_eq (tgt := 1257) X.x X.b dL_law_1157 (by decide) (fun _ => ?_) (fun c1 => absurd rfl c1)
  exact K _ H locs ls hI M hl
set_option maxRecDepth 100000 in
set_option maxHeartbeats 4000000 in
theorem law_c32 {p : Program} {e : Env} {s : State} {m : MethodId} {below : List Frame} {meth : Method} {c : Code} {l : Launch} {b L : Nat} {xs : Nat → Int32} {Γ : Gm} (hL : L ≤ 3072) (X : Cx p s m #[Value.ref b] meth c code RL 4 ret Γ) (hX : va_X b L xs s s.heap) (hbl : b < s.heap.size) (hbA : ¬ Rg Γ s.heap.size b) {i : Nat} (h6 : 6 * i + 6 ≤ L) {σ : St} {H : Heap} {locs : List Loc} {ls : Array Slot} (hI : Inv σ) (M : Mv Γ σ s H locs) (hl : lv_has ls 4 [(0, .ref b), (1, .ref (Γ.1 0)), (2, .ref (Γ.1 66)), (3, .int (nI (6 * i)))]) (K : ∀ (σ : St) (H : Heap) (locs : List Loc) (ls : Array Slot), Inv σ → Mv Γ σ s H locs → lv_has ls 4 [(0, .ref b), (1, .ref (Γ.1 0)), (2, .ref (Γ.1 66)), (3, .int (nI (6 * i)))] → W p l e room_1 s m #[Value.ref b] below meth c H locs 80 5888 (lw_Z below #[Value.ref b] s) (F0 m 1257 ls [])) : W p l e room_1 s m #[Value.ref b] below meth c H locs 80 5888 (lw_Z below #[Value.ref b] s) (F0 m 1162 ls []) := by
  refine lv_aload_n X.x X.b dL_law_1162 rfl (lv_at hl 1 rfl) ?_
  obtain ⟨r0, σ1, σ2, h1, h2, hI⟩ := P_restore hI 
  refine r_runI M (r_callV (As := []) X M (lv_sub hl [] rfl) (T_X6_restore h1 _) cal_X6_restore q694 ⟨by decide, by decide⟩ hq_0 (el_0 _ _) rfl rfl rfl (Nat.le_of_ble_eq_true rfl) ⟨by decide, by decide⟩ dL_law_1163) (fun H locs M => ?_)
  refine lv_aload_n X.x X.b dL_law_1166 rfl (lv_at hl 2 rfl) ?_
  refine r_runI M (r_callV (As := []) X M (lv_sub hl [] rfl) (T_X7_restore h2 _) cal_X7_restore q1138 ⟨by decide, by decide⟩ hq_66 (el_66 _ _) rfl rfl rfl (Nat.le_of_ble_eq_true rfl) ⟨by decide, by decide⟩ dL_law_1167) (fun H locs M => ?_)
  refine lv_icmp_eq (tgt := 1257) X.x X.b dL_law_1170 (by decide) (fun _ => ?_) (fun c1 => absurd rfl c1)
  exact K _ H locs ls hI M hl
set_option maxRecDepth 100000 in
set_option maxHeartbeats 4000000 in
theorem law_c33 {p : Program} {e : Env} {s : State} {m : MethodId} {below : List Frame} {meth : Method} {c : Code} {l : Launch} {b L : Nat} {xs : Nat → Int32} {Γ : Gm} (hL : L ≤ 3072) (X : Cx p s m #[Value.ref b] meth c code RL 4 ret Γ) (hX : va_X b L xs s s.heap) (hbl : b < s.heap.size) (hbA : ¬ Rg Γ s.heap.size b) {i : Nat} (h6 : 6 * i + 6 ≤ L) {σ : St} {H : Heap} {locs : List Loc} {ls : Array Slot} (hI : Inv σ) (M : Mv Γ σ s H locs) (hl : lv_has ls 4 [(0, .ref b), (1, .ref (Γ.1 0)), (2, .ref (Γ.1 66)), (3, .int (nI (6 * i)))]) (K : ∀ (σ : St) (H : Heap) (locs : List Loc) (ls : Array Slot), Inv σ → Mv Γ σ s H locs → lv_has ls 4 [(0, .ref b), (1, .ref (Γ.1 0)), (2, .ref (Γ.1 66)), (3, .int (nI (6 * i)))] → W p l e room_1 s m #[Value.ref b] below meth c H locs 80 5888 (lw_Z below #[Value.ref b] s) (F0 m 1257 ls [])) : W p l e room_1 s m #[Value.ref b] below meth c H locs 80 5888 (lw_Z below #[Value.ref b] s) (F0 m 1175 ls []) := by
  refine lv_aload_n X.x X.b dL_law_1175 rfl (lv_at hl 1 rfl) ?_
  refine lv_aload_n X.x X.b dL_law_1176 rfl (lv_at hl 0 rfl) ?_
  refine lv_iload_n X.x X.b dL_law_1177 rfl (lv_at hl 3 rfl) ?_
  refine lv_iconst (v := 1) X.x X.b dL_law_1178 (by decide) ?_
  refine lv_iadd X.x X.b dL_law_1179 ?_
  refine va_sld X.x X.b hX hbl hbA M.2 (in_s hL h6 1 (by decide)) dL_law_1180 ?_
  obtain ⟨r0, σ1, σ2, h1, h2, hI⟩ := P_tell hI (xs (nI (6 * i) + 1).toNatClampNeg)
  refine r_runI M (r_callV (As := [.int (xs (nI (6 * i) + 1).toNatClampNeg)]) X M (lv_sub hl [] rfl) (T_X6_tell h1 _) cal_X6_tell q698 ⟨by decide, by decide⟩ hq_0 (el_0 _ _) rfl rfl rfl (Nat.le_of_ble_eq_true rfl) ⟨by decide, by decide⟩ dL_law_1181) (fun H locs M => ?_)
  refine lv_aload_n X.x X.b dL_law_1184 rfl (lv_at hl 2 rfl) ?_
  refine lv_aload_n X.x X.b dL_law_1185 rfl (lv_at hl 0 rfl) ?_
  refine lv_iload_n X.x X.b dL_law_1186 rfl (lv_at hl 3 rfl) ?_
  refine lv_iconst (v := 1) X.x X.b dL_law_1187 (by decide) ?_
  refine lv_iadd X.x X.b dL_law_1188 ?_
  refine va_sld X.x X.b hX hbl hbA M.2 (in_s hL h6 1 (by decide)) dL_law_1189 ?_
  refine r_runI M (r_callV (As := [.int (xs (nI (6 * i) + 1).toNatClampNeg)]) X M (lv_sub hl [] rfl) (T_X7_tell h2 _) cal_X7_tell q1142 ⟨by decide, by decide⟩ hq_66 (el_66 _ _) rfl rfl rfl (Nat.le_of_ble_eq_true rfl) ⟨by decide, by decide⟩ dL_law_1190) (fun H locs M => ?_)
  refine lv_icmp_eq (tgt := 1257) X.x X.b dL_law_1193 (by decide) (fun _ => ?_) (fun c1 => absurd rfl c1)
  exact K _ H locs ls hI M hl
set_option maxRecDepth 100000 in
set_option maxHeartbeats 4000000 in
theorem law_c34 {p : Program} {e : Env} {s : State} {m : MethodId} {below : List Frame} {meth : Method} {c : Code} {l : Launch} {b L : Nat} {xs : Nat → Int32} {Γ : Gm} (hL : L ≤ 3072) (X : Cx p s m #[Value.ref b] meth c code RL 4 ret Γ) (hX : va_X b L xs s s.heap) (hbl : b < s.heap.size) (hbA : ¬ Rg Γ s.heap.size b) {i : Nat} (h6 : 6 * i + 6 ≤ L) {σ : St} {H : Heap} {locs : List Loc} {ls : Array Slot} (hI : Inv σ) (M : Mv Γ σ s H locs) (hl : lv_has ls 4 [(0, .ref b), (1, .ref (Γ.1 0)), (2, .ref (Γ.1 66)), (3, .int (nI (6 * i)))]) (K : ∀ (σ : St) (H : Heap) (locs : List Loc) (ls : Array Slot), Inv σ → Mv Γ σ s H locs → lv_has ls 4 [(0, .ref b), (1, .ref (Γ.1 0)), (2, .ref (Γ.1 66)), (3, .int (nI (6 * i)))] → W p l e room_1 s m #[Value.ref b] below meth c H locs 80 5888 (lw_Z below #[Value.ref b] s) (F0 m 1257 ls [])) : W p l e room_1 s m #[Value.ref b] below meth c H locs 80 5888 (lw_Z below #[Value.ref b] s) (F0 m 1198 ls []) := by
  refine lv_aload_n X.x X.b dL_law_1198 rfl (lv_at hl 1 rfl) ?_
  obtain ⟨r0, σ1, σ2, h1, h2, hI⟩ := P_check hI 
  refine r_runI M (r_callV (As := []) X M (lv_sub hl [] rfl) (T_X6_check h1 _) cal_X6_check q706 ⟨by decide, by decide⟩ hq_0 (el_0 _ _) rfl rfl rfl (Nat.le_of_ble_eq_true rfl) ⟨by decide, by decide⟩ dL_law_1199) (fun H locs M => ?_)
  refine lv_aload_n X.x X.b dL_law_1202 rfl (lv_at hl 2 rfl) ?_
  refine r_runI M (r_callV (As := []) X M (lv_sub hl [] rfl) (T_X7_check h2 _) cal_X7_check q1146 ⟨by decide, by decide⟩ hq_66 (el_66 _ _) rfl rfl rfl (Nat.le_of_ble_eq_true rfl) ⟨by decide, by decide⟩ dL_law_1203) (fun H locs M => ?_)
  refine lv_icmp_eq (tgt := 1257) X.x X.b dL_law_1206 (by decide) (fun _ => ?_) (fun c1 => absurd rfl c1)
  exact K _ H locs ls hI M hl
set_option maxRecDepth 100000 in
set_option maxHeartbeats 4000000 in
theorem law_c35 {p : Program} {e : Env} {s : State} {m : MethodId} {below : List Frame} {meth : Method} {c : Code} {l : Launch} {b L : Nat} {xs : Nat → Int32} {Γ : Gm} (hL : L ≤ 3072) (X : Cx p s m #[Value.ref b] meth c code RL 4 ret Γ) (hX : va_X b L xs s s.heap) (hbl : b < s.heap.size) (hbA : ¬ Rg Γ s.heap.size b) {i : Nat} (h6 : 6 * i + 6 ≤ L) {σ : St} {H : Heap} {locs : List Loc} {ls : Array Slot} (hI : Inv σ) (M : Mv Γ σ s H locs) (hl : lv_has ls 4 [(0, .ref b), (1, .ref (Γ.1 0)), (2, .ref (Γ.1 66)), (3, .int (nI (6 * i)))]) (K : ∀ (σ : St) (H : Heap) (locs : List Loc) (ls : Array Slot), Inv σ → Mv Γ σ s H locs → lv_has ls 4 [(0, .ref b), (1, .ref (Γ.1 0)), (2, .ref (Γ.1 66)), (3, .int (nI (6 * i)))] → W p l e room_1 s m #[Value.ref b] below meth c H locs 80 5888 (lw_Z below #[Value.ref b] s) (F0 m 1257 ls [])) : W p l e room_1 s m #[Value.ref b] below meth c H locs 80 5888 (lw_Z below #[Value.ref b] s) (F0 m 1211 ls []) := by
  refine lv_aload_n X.x X.b dL_law_1211 rfl (lv_at hl 1 rfl) ?_
  refine lv_aload_n X.x X.b dL_law_1212 rfl (lv_at hl 0 rfl) ?_
  refine lv_iload_n X.x X.b dL_law_1213 rfl (lv_at hl 3 rfl) ?_
  refine lv_iconst (v := 1) X.x X.b dL_law_1214 (by decide) ?_
  refine lv_iadd X.x X.b dL_law_1215 ?_
  refine va_sld X.x X.b hX hbl hbA M.2 (in_s hL h6 1 (by decide)) dL_law_1216 ?_
  obtain ⟨r0, σ1, σ2, h1, h2, hI⟩ := P_count hI (xs (nI (6 * i) + 1).toNatClampNeg)
  refine r_runI M (r_callV (As := [.int (xs (nI (6 * i) + 1).toNatClampNeg)]) X M (lv_sub hl [] rfl) (T_X6_count h1 _) cal_X6_count q714 ⟨by decide, by decide⟩ hq_0 (el_0 _ _) rfl rfl rfl (Nat.le_of_ble_eq_true rfl) ⟨by decide, by decide⟩ dL_law_1217) (fun H locs M => ?_)
  refine lv_aload_n X.x X.b dL_law_1220 rfl (lv_at hl 2 rfl) ?_
  refine lv_aload_n X.x X.b dL_law_1221 rfl (lv_at hl 0 rfl) ?_
  refine lv_iload_n X.x X.b dL_law_1222 rfl (lv_at hl 3 rfl) ?_
  refine lv_iconst (v := 1) X.x X.b dL_law_1223 (by decide) ?_
  refine lv_iadd X.x X.b dL_law_1224 ?_
  refine va_sld X.x X.b hX hbl hbA M.2 (in_s hL h6 1 (by decide)) dL_law_1225 ?_
  refine r_runI M (r_callV (As := [.int (xs (nI (6 * i) + 1).toNatClampNeg)]) X M (lv_sub hl [] rfl) (T_X7_count h2 _) cal_X7_count q1150 ⟨by decide, by decide⟩ hq_66 (el_66 _ _) rfl rfl rfl (Nat.le_of_ble_eq_true rfl) ⟨by decide, by decide⟩ dL_law_1226) (fun H locs M => ?_)
  refine lv_icmp_eq (tgt := 1257) X.x X.b dL_law_1229 (by decide) (fun _ => ?_) (fun c1 => absurd rfl c1)
  exact K _ H locs ls hI M hl
set_option maxRecDepth 100000 in
set_option maxHeartbeats 4000000 in
theorem law_c36 {p : Program} {e : Env} {s : State} {m : MethodId} {below : List Frame} {meth : Method} {c : Code} {l : Launch} {b L : Nat} {xs : Nat → Int32} {Γ : Gm} (hL : L ≤ 3072) (X : Cx p s m #[Value.ref b] meth c code RL 4 ret Γ) (hX : va_X b L xs s s.heap) (hbl : b < s.heap.size) (hbA : ¬ Rg Γ s.heap.size b) {i : Nat} (h6 : 6 * i + 6 ≤ L) {σ : St} {H : Heap} {locs : List Loc} {ls : Array Slot} (hI : Inv σ) (M : Mv Γ σ s H locs) (hl : lv_has ls 4 [(0, .ref b), (1, .ref (Γ.1 0)), (2, .ref (Γ.1 66)), (3, .int (nI (6 * i)))]) (K : ∀ (σ : St) (H : Heap) (locs : List Loc) (ls : Array Slot), Inv σ → Mv Γ σ s H locs → lv_has ls 4 [(0, .ref b), (1, .ref (Γ.1 0)), (2, .ref (Γ.1 66)), (3, .int (nI (6 * i)))] → W p l e room_1 s m #[Value.ref b] below meth c H locs 80 5888 (lw_Z below #[Value.ref b] s) (F0 m 1257 ls [])) : W p l e room_1 s m #[Value.ref b] below meth c H locs 80 5888 (lw_Z below #[Value.ref b] s) (F0 m 1234 ls []) := by
  refine lv_aload_n X.x X.b dL_law_1234 rfl (lv_at hl 1 rfl) ?_
  refine lv_aload_n X.x X.b dL_law_1235 rfl (lv_at hl 0 rfl) ?_
  refine lv_iload_n X.x X.b dL_law_1236 rfl (lv_at hl 3 rfl) ?_
  refine lv_iconst (v := 1) X.x X.b dL_law_1237 (by decide) ?_
  refine lv_iadd X.x X.b dL_law_1238 ?_
  refine va_sld X.x X.b hX hbl hbA M.2 (in_s hL h6 1 (by decide)) dL_law_1239 ?_
  obtain ⟨r0, σ1, σ2, h1, h2, hI⟩ := P_told hI (xs (nI (6 * i) + 1).toNatClampNeg)
  refine r_runI M (r_callV (As := [.int (xs (nI (6 * i) + 1).toNatClampNeg)]) X M (lv_sub hl [] rfl) (T_X6_told h1 _) cal_X6_told q718 ⟨by decide, by decide⟩ hq_0 (el_0 _ _) rfl rfl rfl (Nat.le_of_ble_eq_true rfl) ⟨by decide, by decide⟩ dL_law_1240) (fun H locs M => ?_)
  refine lv_aload_n X.x X.b dL_law_1243 rfl (lv_at hl 2 rfl) ?_
  refine lv_aload_n X.x X.b dL_law_1244 rfl (lv_at hl 0 rfl) ?_
  refine lv_iload_n X.x X.b dL_law_1245 rfl (lv_at hl 3 rfl) ?_
  refine lv_iconst (v := 1) X.x X.b dL_law_1246 (by decide) ?_
  refine lv_iadd X.x X.b dL_law_1247 ?_
  refine va_sld X.x X.b hX hbl hbA M.2 (in_s hL h6 1 (by decide)) dL_law_1248 ?_
  refine r_runI M (r_callV (As := [.int (xs (nI (6 * i) + 1).toNatClampNeg)]) X M (lv_sub hl [] rfl) (T_X7_told h2 _) cal_X7_told q1154 ⟨by decide, by decide⟩ hq_66 (el_66 _ _) rfl rfl rfl (Nat.le_of_ble_eq_true rfl) ⟨by decide, by decide⟩ dL_law_1249) (fun H locs M => ?_)
  refine lv_icmp_eq (tgt := 1257) X.x X.b dL_law_1252 (by decide) (fun _ => ?_) (fun c1 => absurd rfl c1)
  exact K _ H locs ls hI M hl
set_option maxRecDepth 100000 in
set_option maxHeartbeats 8000000 in
theorem law_loop {p : Program} {e : Env} {s : State} {m : MethodId} {below : List Frame} {meth : Method} {c : Code} {l : Launch} {b L : Nat} {xs : Nat → Int32} {Γ : Gm} (hL : L ≤ 3072) (X : Cx p s m #[Value.ref b] meth c code RL 4 ret Γ) (hX : va_X b L xs s s.heap) (hbl : b < s.heap.size) (hbA : ¬ Rg Γ s.heap.size b) (hge : ∀ k : Nat, k < nW → s.heap.size ≤ Γ.1 k) (hr : meth.sig.returnType = ret) (hlocks : meth.locks = false) : ∀ (n i : Nat) (σ : St) (H : Heap) (locs : List Loc) (ls : Array Slot), L + 6 - 6 * i < n → 6 * i ≤ L + 6 → Inv σ → Mv Γ σ s H locs → lv_has ls 4 [(0, .ref b), (1, .ref (Γ.1 0)), (2, .ref (Γ.1 66)), (3, .int (nI (6 * i)))] → W p l e room_1 s m #[Value.ref b] below meth c H locs 80 5888 (lw_Z below #[Value.ref b] s) (F0 m 18 ls []) := by
  intro n
  induction n with
  | zero => intro i σ H locs ls h; exact absurd h (Nat.not_lt_zero _)
  | succ n ih =>
    intro i σ H locs ls hn hi hI M hl
    refine lv_iload_n X.x X.b dL_law_18 rfl (lv_at hl 3 rfl) ?_
    refine lv_aload_n X.x X.b dL_law_19 rfl (lv_at hl 0 rfl) ?_
    refine va_slen X.x X.b hX hbl hbA M.2 dL_law_20 ?_
    refine lv_bipush (v := 6) X.x X.b dL_law_21 (by decide) ?_
    refine lv_isub X.x X.b dL_law_23 ?_
    have hsub : (Int32.ofNat L - 6 : Int32).toInt = (L : Int) - 6 := pk_sub_toInt (a := L) (b := 6) (by omega) (by omega)
    refine lv_icmp_gt (tgt := 1263) X.x X.b dL_law_24 (by decide) (fun c1 => ?_) (fun c1 => ?_)
    · refine lv_iconst (v := 1) X.x X.b dL_law_1263 (by decide) ?_
      refine va_forget (fun q hq => ?_) ?_
      · rcases M.2.2.2 q hq with ⟨k, hk, he⟩ | h
        · rw [← he]; exact hge k hk
        · exact h
      refine W.widen (k := 600000) (n := 7302250) (Nat.le_of_ble_eq_true rfl) (Nat.le_of_ble_eq_true rfl) ?_
      exact lw_ret X.x X.b hr hlocks dL_law_1264
    · have h6 : 6 * i + 6 ≤ L := by
        rw [Int32.lt_iff_toInt_lt, hsub, nI_toInt (by omega)] at c1
        omega
      have K : ∀ (σ : St) (H : Heap) (locs : List Loc) (ls : Array Slot), Inv σ → Mv Γ σ s H locs → lv_has ls 4 [(0, .ref b), (1, .ref (Γ.1 0)), (2, .ref (Γ.1 66)), (3, .int (nI (6 * i)))] → W p l e room_1 s m #[Value.ref b] below meth c H locs 80 5888 (lw_Z below #[Value.ref b] s) (F0 m 1257 ls []) := by
        intro σ H locs ls hI M hl
        refine lv_iinc (v := nI (6 * (i + 1))) (lv' := [(3, .int (nI (6 * (i + 1)))), (0, .ref b), (1, .ref (Γ.1 0)), (2, .ref (Γ.1 66))]) X.x X.b dL_law_1257 hl (k := 3) rfl (by show nI (6 * i) + nI 6 = _; rw [nI_add]; rfl) (by decide) rfl (fun ls hl => ?_)
        refine lv_goto (tgt := 18) X.x X.b dL_law_1260 (by decide) ?_
        exact ih (i + 1) σ H locs ls (by omega) (by omega) hI M (lv_sub hl [1, 2, 3, 0] rfl)
      refine lv_aload_n X.x X.b dL_law_27 rfl (lv_at hl 0 rfl) ?_
      refine lv_iload_n X.x X.b dL_law_28 rfl (lv_at hl 3 rfl) ?_
      refine va_sld X.x X.b hX hbl hbA M.2 (by simpa [nI_add] using in_s hL h6 0 (by decide)) dL_law_29 ?_
      refine lv_bipush (v := 63) X.x X.b dL_law_30 (by decide) ?_
      refine lv_iand X.x X.b dL_law_32 ?_
      generalize (xs (nI (6 * i)).toNatClampNeg &&& 63) = v
      by_cases c_0 : v = 0
      · refine lv_tableIn (tgt := 196) X.x X.b dL_law_33 (by rw [c_0]; decide) (by rw [c_0]; decide) (by first | (rw [c_0]; done) | (rw [c_0]; rfl)) (by decide) ?_
        exact law_c0 hL X hX hbl hbA h6 hI M hl K
      by_cases c_1 : v = 1
      · refine lv_tableIn (tgt := 239) X.x X.b dL_law_33 (by rw [c_1]; decide) (by rw [c_1]; decide) (by first | (rw [c_1]; done) | (rw [c_1]; rfl)) (by decide) ?_
        exact law_c1 hL X hX hbl hbA h6 hI M hl K
      by_cases c_2 : v = 2
      · refine lv_tableIn (tgt := 272) X.x X.b dL_law_33 (by rw [c_2]; decide) (by rw [c_2]; decide) (by first | (rw [c_2]; done) | (rw [c_2]; rfl)) (by decide) ?_
        exact law_c2 hL X hX hbl hbA h6 hI M hl K
      by_cases c_3 : v = 3
      · refine lv_tableIn (tgt := 295) X.x X.b dL_law_33 (by rw [c_3]; decide) (by rw [c_3]; decide) (by first | (rw [c_3]; done) | (rw [c_3]; rfl)) (by decide) ?_
        exact law_c3 hL X hX hbl hbA h6 hI M hl K
      by_cases c_4 : v = 4
      · refine lv_tableIn (tgt := 328) X.x X.b dL_law_33 (by rw [c_4]; decide) (by rw [c_4]; decide) (by first | (rw [c_4]; done) | (rw [c_4]; rfl)) (by decide) ?_
        exact law_c4 hL X hX hbl hbA h6 hI M hl K
      by_cases c_5 : v = 5
      · refine lv_tableIn (tgt := 361) X.x X.b dL_law_33 (by rw [c_5]; decide) (by rw [c_5]; decide) (by first | (rw [c_5]; done) | (rw [c_5]; rfl)) (by decide) ?_
        exact law_c5 hL X hX hbl hbA h6 hI M hl K
      by_cases c_6 : v = 6
      · refine lv_tableIn (tgt := 394) X.x X.b dL_law_33 (by rw [c_6]; decide) (by rw [c_6]; decide) (by first | (rw [c_6]; done) | (rw [c_6]; rfl)) (by decide) ?_
        exact law_c6 hL X hX hbl hbA h6 hI M hl K
      by_cases c_7 : v = 7
      · refine lv_tableIn (tgt := 427) X.x X.b dL_law_33 (by rw [c_7]; decide) (by rw [c_7]; decide) (by first | (rw [c_7]; done) | (rw [c_7]; rfl)) (by decide) ?_
        exact law_c7 hL X hX hbl hbA h6 hI M hl K
      by_cases c_8 : v = 8
      · refine lv_tableIn (tgt := 450) X.x X.b dL_law_33 (by rw [c_8]; decide) (by rw [c_8]; decide) (by first | (rw [c_8]; done) | (rw [c_8]; rfl)) (by decide) ?_
        exact law_c8 hL X hX hbl hbA h6 hI M hl K
      by_cases c_9 : v = 9
      · refine lv_tableIn (tgt := 513) X.x X.b dL_law_33 (by rw [c_9]; decide) (by rw [c_9]; decide) (by first | (rw [c_9]; done) | (rw [c_9]; rfl)) (by decide) ?_
        exact law_c9 hL X hX hbl hbA h6 hI M hl K
      by_cases c_10 : v = 10
      · refine lv_tableIn (tgt := 536) X.x X.b dL_law_33 (by rw [c_10]; decide) (by rw [c_10]; decide) (by first | (rw [c_10]; done) | (rw [c_10]; rfl)) (by decide) ?_
        exact law_c10 hL X hX hbl hbA h6 hI M hl K
      by_cases c_11 : v = 11
      · refine lv_tableIn (tgt := 559) X.x X.b dL_law_33 (by rw [c_11]; decide) (by rw [c_11]; decide) (by first | (rw [c_11]; done) | (rw [c_11]; rfl)) (by decide) ?_
        exact law_c11 hL X hX hbl hbA h6 hI M hl K
      by_cases c_12 : v = 12
      · refine lv_tableIn (tgt := 612) X.x X.b dL_law_33 (by rw [c_12]; decide) (by rw [c_12]; decide) (by first | (rw [c_12]; done) | (rw [c_12]; rfl)) (by decide) ?_
        exact law_c12 hL X hX hbl hbA h6 hI M hl K
      by_cases c_13 : v = 13
      · refine lv_tableIn (tgt := 635) X.x X.b dL_law_33 (by rw [c_13]; decide) (by rw [c_13]; decide) (by first | (rw [c_13]; done) | (rw [c_13]; rfl)) (by decide) ?_
        exact law_c13 hL X hX hbl hbA h6 hI M hl K
      by_cases c_14 : v = 14
      · refine lv_tableIn (tgt := 658) X.x X.b dL_law_33 (by rw [c_14]; decide) (by rw [c_14]; decide) (by first | (rw [c_14]; done) | (rw [c_14]; rfl)) (by decide) ?_
        exact law_c14 hL X hX hbl hbA h6 hI M hl K
      by_cases c_15 : v = 15
      · refine lv_tableIn (tgt := 681) X.x X.b dL_law_33 (by rw [c_15]; decide) (by rw [c_15]; decide) (by first | (rw [c_15]; done) | (rw [c_15]; rfl)) (by decide) ?_
        exact law_c15 hL X hX hbl hbA h6 hI M hl K
      by_cases c_16 : v = 16
      · refine lv_tableIn (tgt := 704) X.x X.b dL_law_33 (by rw [c_16]; decide) (by rw [c_16]; decide) (by first | (rw [c_16]; done) | (rw [c_16]; rfl)) (by decide) ?_
        exact law_c16 hL X hX hbl hbA h6 hI M hl K
      by_cases c_17 : v = 17
      · refine lv_tableIn (tgt := 727) X.x X.b dL_law_33 (by rw [c_17]; decide) (by rw [c_17]; decide) (by first | (rw [c_17]; done) | (rw [c_17]; rfl)) (by decide) ?_
        exact law_c17 hL X hX hbl hbA h6 hI M hl K
      by_cases c_18 : v = 18
      · refine lv_tableIn (tgt := 740) X.x X.b dL_law_33 (by rw [c_18]; decide) (by rw [c_18]; decide) (by first | (rw [c_18]; done) | (rw [c_18]; rfl)) (by decide) ?_
        exact law_c18 hL X hX hbl hbA h6 hI M hl K
      by_cases c_19 : v = 19
      · refine lv_tableIn (tgt := 773) X.x X.b dL_law_33 (by rw [c_19]; decide) (by rw [c_19]; decide) (by first | (rw [c_19]; done) | (rw [c_19]; rfl)) (by decide) ?_
        exact law_c19 hL X hX hbl hbA h6 hI M hl K
      by_cases c_20 : v = 20
      · refine lv_tableIn (tgt := 796) X.x X.b dL_law_33 (by rw [c_20]; decide) (by rw [c_20]; decide) (by first | (rw [c_20]; done) | (rw [c_20]; rfl)) (by decide) ?_
        exact law_c20 hL X hX hbl hbA h6 hI M hl K
      by_cases c_21 : v = 21
      · refine lv_tableIn (tgt := 809) X.x X.b dL_law_33 (by rw [c_21]; decide) (by rw [c_21]; decide) (by first | (rw [c_21]; done) | (rw [c_21]; rfl)) (by decide) ?_
        exact law_c21 hL X hX hbl hbA h6 hI M hl K
      by_cases c_22 : v = 22
      · refine lv_tableIn (tgt := 842) X.x X.b dL_law_33 (by rw [c_22]; decide) (by rw [c_22]; decide) (by first | (rw [c_22]; done) | (rw [c_22]; rfl)) (by decide) ?_
        exact law_c22 hL X hX hbl hbA h6 hI M hl K
      by_cases c_23 : v = 23
      · refine lv_tableIn (tgt := 865) X.x X.b dL_law_33 (by rw [c_23]; decide) (by rw [c_23]; decide) (by first | (rw [c_23]; done) | (rw [c_23]; rfl)) (by decide) ?_
        exact law_c23 hL X hX hbl hbA h6 hI M hl K
      by_cases c_24 : v = 24
      · refine lv_tableIn (tgt := 888) X.x X.b dL_law_33 (by rw [c_24]; decide) (by rw [c_24]; decide) (by first | (rw [c_24]; done) | (rw [c_24]; rfl)) (by decide) ?_
        exact law_c24 hL X hX hbl hbA h6 hI M hl K
      by_cases c_25 : v = 25
      · refine lv_tableIn (tgt := 931) X.x X.b dL_law_33 (by rw [c_25]; decide) (by rw [c_25]; decide) (by first | (rw [c_25]; done) | (rw [c_25]; rfl)) (by decide) ?_
        exact law_c25 hL X hX hbl hbA h6 hI M hl K
      by_cases c_26 : v = 26
      · refine lv_tableIn (tgt := 954) X.x X.b dL_law_33 (by rw [c_26]; decide) (by rw [c_26]; decide) (by first | (rw [c_26]; done) | (rw [c_26]; rfl)) (by decide) ?_
        exact law_c26 hL X hX hbl hbA h6 hI M hl K
      by_cases c_27 : v = 27
      · refine lv_tableIn (tgt := 997) X.x X.b dL_law_33 (by rw [c_27]; decide) (by rw [c_27]; decide) (by first | (rw [c_27]; done) | (rw [c_27]; rfl)) (by decide) ?_
        exact law_c27 hL X hX hbl hbA h6 hI M hl K
      by_cases c_28 : v = 28
      · refine lv_tableIn (tgt := 1040) X.x X.b dL_law_33 (by rw [c_28]; decide) (by rw [c_28]; decide) (by first | (rw [c_28]; done) | (rw [c_28]; rfl)) (by decide) ?_
        exact law_c28 hL X hX hbl hbA h6 hI M hl K
      by_cases c_29 : v = 29
      · refine lv_tableIn (tgt := 1103) X.x X.b dL_law_33 (by rw [c_29]; decide) (by rw [c_29]; decide) (by first | (rw [c_29]; done) | (rw [c_29]; rfl)) (by decide) ?_
        exact law_c29 hL X hX hbl hbA h6 hI M hl K
      by_cases c_30 : v = 30
      · refine lv_tableIn (tgt := 1126) X.x X.b dL_law_33 (by rw [c_30]; decide) (by rw [c_30]; decide) (by first | (rw [c_30]; done) | (rw [c_30]; rfl)) (by decide) ?_
        exact law_c30 hL X hX hbl hbA h6 hI M hl K
      by_cases c_31 : v = 31
      · refine lv_tableIn (tgt := 1149) X.x X.b dL_law_33 (by rw [c_31]; decide) (by rw [c_31]; decide) (by first | (rw [c_31]; done) | (rw [c_31]; rfl)) (by decide) ?_
        exact law_c31 hL X hX hbl hbA h6 hI M hl K
      by_cases c_32 : v = 32
      · refine lv_tableIn (tgt := 1162) X.x X.b dL_law_33 (by rw [c_32]; decide) (by rw [c_32]; decide) (by first | (rw [c_32]; done) | (rw [c_32]; rfl)) (by decide) ?_
        exact law_c32 hL X hX hbl hbA h6 hI M hl K
      by_cases c_33 : v = 33
      · refine lv_tableIn (tgt := 1175) X.x X.b dL_law_33 (by rw [c_33]; decide) (by rw [c_33]; decide) (by first | (rw [c_33]; done) | (rw [c_33]; rfl)) (by decide) ?_
        exact law_c33 hL X hX hbl hbA h6 hI M hl K
      by_cases c_34 : v = 34
      · refine lv_tableIn (tgt := 1198) X.x X.b dL_law_33 (by rw [c_34]; decide) (by rw [c_34]; decide) (by first | (rw [c_34]; done) | (rw [c_34]; rfl)) (by decide) ?_
        exact law_c34 hL X hX hbl hbA h6 hI M hl K
      by_cases c_35 : v = 35
      · refine lv_tableIn (tgt := 1211) X.x X.b dL_law_33 (by rw [c_35]; decide) (by rw [c_35]; decide) (by first | (rw [c_35]; done) | (rw [c_35]; rfl)) (by decide) ?_
        exact law_c35 hL X hX hbl hbA h6 hI M hl K
      by_cases c_36 : v = 36
      · refine lv_tableIn (tgt := 1234) X.x X.b dL_law_33 (by rw [c_36]; decide) (by rw [c_36]; decide) (by first | (rw [c_36]; done) | (rw [c_36]; rfl)) (by decide) ?_
        exact law_c36 hL X hX hbl hbA h6 hI M hl K
      have c_0z := lv_neT c_0 (show (0 : Int32).toInt = 0 by decide)
      have c_1z := lv_neT c_1 (show (1 : Int32).toInt = 1 by decide)
      have c_2z := lv_neT c_2 (show (2 : Int32).toInt = 2 by decide)
      have c_3z := lv_neT c_3 (show (3 : Int32).toInt = 3 by decide)
      have c_4z := lv_neT c_4 (show (4 : Int32).toInt = 4 by decide)
      have c_5z := lv_neT c_5 (show (5 : Int32).toInt = 5 by decide)
      have c_6z := lv_neT c_6 (show (6 : Int32).toInt = 6 by decide)
      have c_7z := lv_neT c_7 (show (7 : Int32).toInt = 7 by decide)
      have c_8z := lv_neT c_8 (show (8 : Int32).toInt = 8 by decide)
      have c_9z := lv_neT c_9 (show (9 : Int32).toInt = 9 by decide)
      have c_10z := lv_neT c_10 (show (10 : Int32).toInt = 10 by decide)
      have c_11z := lv_neT c_11 (show (11 : Int32).toInt = 11 by decide)
      have c_12z := lv_neT c_12 (show (12 : Int32).toInt = 12 by decide)
      have c_13z := lv_neT c_13 (show (13 : Int32).toInt = 13 by decide)
      have c_14z := lv_neT c_14 (show (14 : Int32).toInt = 14 by decide)
      have c_15z := lv_neT c_15 (show (15 : Int32).toInt = 15 by decide)
      have c_16z := lv_neT c_16 (show (16 : Int32).toInt = 16 by decide)
      have c_17z := lv_neT c_17 (show (17 : Int32).toInt = 17 by decide)
      have c_18z := lv_neT c_18 (show (18 : Int32).toInt = 18 by decide)
      have c_19z := lv_neT c_19 (show (19 : Int32).toInt = 19 by decide)
      have c_20z := lv_neT c_20 (show (20 : Int32).toInt = 20 by decide)
      have c_21z := lv_neT c_21 (show (21 : Int32).toInt = 21 by decide)
      have c_22z := lv_neT c_22 (show (22 : Int32).toInt = 22 by decide)
      have c_23z := lv_neT c_23 (show (23 : Int32).toInt = 23 by decide)
      have c_24z := lv_neT c_24 (show (24 : Int32).toInt = 24 by decide)
      have c_25z := lv_neT c_25 (show (25 : Int32).toInt = 25 by decide)
      have c_26z := lv_neT c_26 (show (26 : Int32).toInt = 26 by decide)
      have c_27z := lv_neT c_27 (show (27 : Int32).toInt = 27 by decide)
      have c_28z := lv_neT c_28 (show (28 : Int32).toInt = 28 by decide)
      have c_29z := lv_neT c_29 (show (29 : Int32).toInt = 29 by decide)
      have c_30z := lv_neT c_30 (show (30 : Int32).toInt = 30 by decide)
      have c_31z := lv_neT c_31 (show (31 : Int32).toInt = 31 by decide)
      have c_32z := lv_neT c_32 (show (32 : Int32).toInt = 32 by decide)
      have c_33z := lv_neT c_33 (show (33 : Int32).toInt = 33 by decide)
      have c_34z := lv_neT c_34 (show (34 : Int32).toInt = 34 by decide)
      have c_35z := lv_neT c_35 (show (35 : Int32).toInt = 35 by decide)
      have c_36z := lv_neT c_36 (show (36 : Int32).toInt = 36 by decide)
      refine lv_tableOut (tgt := 1257) X.x X.b dL_law_33 (by omega) (by decide) ?_
      exact K σ H locs ls hI M hl
