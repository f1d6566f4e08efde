section
-- ===== PART A: goes FIRST, ahead of the names: the tables' words, and 'selects' of the private methods out of them =====
/-- a private method of a class that the tables say can be made, by its rows of tables_1 -/
def lw_okq (q : MethodName × Nat) : Prop := (q.1.cls ≠ "java/lang/invoke/MethodHandle" ∧ q.1.cls ≠ "java/lang/invoke/VarHandle") ∧ Cond.instantiable q.1.cls q.2 ∈ tables_1 ∧ Cond.privateMethod q.1 ∈ tables_1 ∧ Cond.instanceMethod q.1 ∈ tables_1
theorem lw_p0 : lw_okq (⟨"StreetNumbers", "failing", "(I)I"⟩, 8) := ⟨⟨by decide +kernel, by decide +kernel⟩, List.mem_of_getElem? (i := 12) (by decide +kernel), List.mem_of_getElem? (i := 224) (by decide +kernel), List.mem_of_getElem? (i := 225) (by decide +kernel)⟩
theorem lw_p1 : lw_okq (⟨"StreetNumbers$Street", "front", "(I)I"⟩, 11) := ⟨⟨by decide +kernel, by decide +kernel⟩, List.mem_of_getElem? (i := 20) (by decide +kernel), List.mem_of_getElem? (i := 277) (by decide +kernel), List.mem_of_getElem? (i := 278) (by decide +kernel)⟩
theorem lw_p2 : lw_okq (⟨"StreetNumbers$Laws", "workOut", "([IIIII)I"⟩, 5) := ⟨⟨by decide +kernel, by decide +kernel⟩, List.mem_of_getElem? (i := 26) (by decide +kernel), List.mem_of_getElem? (i := 290) (by decide +kernel), List.mem_of_getElem? (i := 291) (by decide +kernel)⟩
theorem lw_p3 : lw_okq (⟨"StreetNumbers$Street", "minds", "(II)I"⟩, 11) := ⟨⟨by decide +kernel, by decide +kernel⟩, List.mem_of_getElem? (i := 20) (by decide +kernel), List.mem_of_getElem? (i := 346) (by decide +kernel), List.mem_of_getElem? (i := 347) (by decide +kernel)⟩
theorem lw_p4 : lw_okq (⟨"StreetNumbers$Reader", "reads", "(II)Z"⟩, 6) := ⟨⟨by decide +kernel, by decide +kernel⟩, List.mem_of_getElem? (i := 94) (by decide +kernel), List.mem_of_getElem? (i := 394) (by decide +kernel), List.mem_of_getElem? (i := 395) (by decide +kernel)⟩
theorem lw_p5 : lw_okq (⟨"StreetNumbers$Reader", "readsSmallest", "(I)Z"⟩, 6) := ⟨⟨by decide +kernel, by decide +kernel⟩, List.mem_of_getElem? (i := 94) (by decide +kernel), List.mem_of_getElem? (i := 398) (by decide +kernel), List.mem_of_getElem? (i := 399) (by decide +kernel)⟩
theorem lw_p6 : lw_okq (⟨"StreetNumbers$Reader", "sign", "()I"⟩, 6) := ⟨⟨by decide +kernel, by decide +kernel⟩, List.mem_of_getElem? (i := 94) (by decide +kernel), List.mem_of_getElem? (i := 402) (by decide +kernel), List.mem_of_getElem? (i := 403) (by decide +kernel)⟩
theorem lw_p7 : lw_okq (⟨"StreetNumbers$Reader", "readNumber", "()V"⟩, 6) := ⟨⟨by decide +kernel, by decide +kernel⟩, List.mem_of_getElem? (i := 94) (by decide +kernel), List.mem_of_getElem? (i := 409) (by decide +kernel), List.mem_of_getElem? (i := 410) (by decide +kernel)⟩
theorem lw_p8 : lw_okq (⟨"StreetNumbers$Reader", "write", "(I)V"⟩, 6) := ⟨⟨by decide +kernel, by decide +kernel⟩, List.mem_of_getElem? (i := 94) (by decide +kernel), List.mem_of_getElem? (i := 413) (by decide +kernel), List.mem_of_getElem? (i := 414) (by decide +kernel)⟩
theorem lw_p9 : lw_okq (⟨"StreetNumbers$Reader", "readsOpened", "(II)Z"⟩, 6) := ⟨⟨by decide +kernel, by decide +kernel⟩, List.mem_of_getElem? (i := 94) (by decide +kernel), List.mem_of_getElem? (i := 417) (by decide +kernel), List.mem_of_getElem? (i := 418) (by decide +kernel)⟩
theorem lw_p10 : lw_okq (⟨"StreetNumbers$Reader", "readsName", "(I)Z"⟩, 6) := ⟨⟨by decide +kernel, by decide +kernel⟩, List.mem_of_getElem? (i := 94) (by decide +kernel), List.mem_of_getElem? (i := 421) (by decide +kernel), List.mem_of_getElem? (i := 422) (by decide +kernel)⟩
theorem lw_p11 : lw_okq (⟨"StreetNumbers$Thoughts", "sumUpTo", "(LStreetNumbers$Street;I)V"⟩, 5) := ⟨⟨by decide +kernel, by decide +kernel⟩, List.mem_of_getElem? (i := 121) (by decide +kernel), List.mem_of_getElem? (i := 478) (by decide +kernel), List.mem_of_getElem? (i := 479) (by decide +kernel)⟩
theorem lw_p12 : lw_okq (⟨"StreetNumbers", "tellsHarmOfGap", "(II)Z"⟩, 8) := ⟨⟨by decide +kernel, by decide +kernel⟩, List.mem_of_getElem? (i := 12) (by decide +kernel), List.mem_of_getElem? (i := 555) (by decide +kernel), List.mem_of_getElem? (i := 556) (by decide +kernel)⟩
theorem lw_p13 : lw_okq (⟨"StreetNumbers$Street", "draw", "()I"⟩, 11) := ⟨⟨by decide +kernel, by decide +kernel⟩, List.mem_of_getElem? (i := 20) (by decide +kernel), List.mem_of_getElem? (i := 580) (by decide +kernel), List.mem_of_getElem? (i := 581) (by decide +kernel)⟩
theorem lw_p14 : lw_okq (⟨"StreetNumbers$Voices", "speak", "(IIII)I"⟩, 6) := ⟨⟨by decide +kernel, by decide +kernel⟩, List.mem_of_getElem? (i := 145) (by decide +kernel), List.mem_of_getElem? (i := 603) (by decide +kernel), List.mem_of_getElem? (i := 604) (by decide +kernel)⟩
theorem lw_p15 : lw_okq (⟨"StreetNumbers$Voices", "begin", "(I)V"⟩, 6) := ⟨⟨by decide +kernel, by decide +kernel⟩, List.mem_of_getElem? (i := 145) (by decide +kernel), List.mem_of_getElem? (i := 613) (by decide +kernel), List.mem_of_getElem? (i := 614) (by decide +kernel)⟩
def lw_privs_1 : List (MethodName × Nat) := [(⟨"StreetNumbers", "failing", "(I)I"⟩, 8), (⟨"StreetNumbers$Street", "front", "(I)I"⟩, 11), (⟨"StreetNumbers$Laws", "workOut", "([IIIII)I"⟩, 5), (⟨"StreetNumbers$Street", "minds", "(II)I"⟩, 11), (⟨"StreetNumbers$Reader", "reads", "(II)Z"⟩, 6), (⟨"StreetNumbers$Reader", "readsSmallest", "(I)Z"⟩, 6), (⟨"StreetNumbers$Reader", "sign", "()I"⟩, 6), (⟨"StreetNumbers$Reader", "readNumber", "()V"⟩, 6), (⟨"StreetNumbers$Reader", "write", "(I)V"⟩, 6), (⟨"StreetNumbers$Reader", "readsOpened", "(II)Z"⟩, 6), (⟨"StreetNumbers$Reader", "readsName", "(I)Z"⟩, 6), (⟨"StreetNumbers$Thoughts", "sumUpTo", "(LStreetNumbers$Street;I)V"⟩, 5), (⟨"StreetNumbers", "tellsHarmOfGap", "(II)Z"⟩, 8), (⟨"StreetNumbers$Street", "draw", "()I"⟩, 11), (⟨"StreetNumbers$Voices", "speak", "(IIII)I"⟩, 6), (⟨"StreetNumbers$Voices", "begin", "(I)V"⟩, 6)]
theorem lw_r1 : ∀ q ∈ lw_privs_1, lw_okq q := List.forall_mem_cons.mpr ⟨lw_p0, List.forall_mem_cons.mpr ⟨lw_p1, List.forall_mem_cons.mpr ⟨lw_p2, List.forall_mem_cons.mpr ⟨lw_p3, List.forall_mem_cons.mpr ⟨lw_p4, List.forall_mem_cons.mpr ⟨lw_p5, List.forall_mem_cons.mpr ⟨lw_p6, List.forall_mem_cons.mpr ⟨lw_p7, List.forall_mem_cons.mpr ⟨lw_p8, List.forall_mem_cons.mpr ⟨lw_p9, List.forall_mem_cons.mpr ⟨lw_p10, List.forall_mem_cons.mpr ⟨lw_p11, List.forall_mem_cons.mpr ⟨lw_p12, List.forall_mem_cons.mpr ⟨lw_p13, List.forall_mem_cons.mpr ⟨lw_p14, List.forall_mem_cons.mpr ⟨lw_p15, fun _ h => absurd h List.not_mem_nil⟩⟩⟩⟩⟩⟩⟩⟩⟩⟩⟩⟩⟩⟩⟩⟩
theorem lw_p16 : lw_okq (⟨"StreetNumbers$Voices", "work", "(III)I"⟩, 6) := ⟨⟨by decide +kernel, by decide +kernel⟩, List.mem_of_getElem? (i := 145) (by decide +kernel), List.mem_of_getElem? (i := 617) (by decide +kernel), List.mem_of_getElem? (i := 618) (by decide +kernel)⟩
theorem lw_p17 : lw_okq (⟨"StreetNumbers$Voices", "own", "(III)I"⟩, 6) := ⟨⟨by decide +kernel, by decide +kernel⟩, List.mem_of_getElem? (i := 145) (by decide +kernel), List.mem_of_getElem? (i := 621) (by decide +kernel), List.mem_of_getElem? (i := 622) (by decide +kernel)⟩
theorem lw_p18 : lw_okq (⟨"StreetNumbers$Voices", "partedBy", "(II)I"⟩, 6) := ⟨⟨by decide +kernel, by decide +kernel⟩, List.mem_of_getElem? (i := 145) (by decide +kernel), List.mem_of_getElem? (i := 625) (by decide +kernel), List.mem_of_getElem? (i := 626) (by decide +kernel)⟩
theorem lw_p19 : lw_okq (⟨"StreetNumbers$Voices", "above", "(IIII)I"⟩, 6) := ⟨⟨by decide +kernel, by decide +kernel⟩, List.mem_of_getElem? (i := 145) (by decide +kernel), List.mem_of_getElem? (i := 630) (by decide +kernel), List.mem_of_getElem? (i := 631) (by decide +kernel)⟩
theorem lw_p20 : lw_okq (⟨"StreetNumbersModel", "error", "(I)I"⟩, 22) := ⟨⟨by decide +kernel, by decide +kernel⟩, List.mem_of_getElem? (i := 723) (by decide +kernel), List.mem_of_getElem? (i := 803) (by decide +kernel), List.mem_of_getElem? (i := 804) (by decide +kernel)⟩
theorem lw_p21 : lw_okq (⟨"StreetNumbersModel", "whole", "()Z"⟩, 22) := ⟨⟨by decide +kernel, by decide +kernel⟩, List.mem_of_getElem? (i := 723) (by decide +kernel), List.mem_of_getElem? (i := 813) (by decide +kernel), List.mem_of_getElem? (i := 814) (by decide +kernel)⟩
theorem lw_p22 : lw_okq (⟨"StreetNumbersModel", "both", "()Z"⟩, 22) := ⟨⟨by decide +kernel, by decide +kernel⟩, List.mem_of_getElem? (i := 723) (by decide +kernel), List.mem_of_getElem? (i := 817) (by decide +kernel), List.mem_of_getElem? (i := 818) (by decide +kernel)⟩
theorem lw_p23 : lw_okq (⟨"StreetNumbersModel", "compared", "()Z"⟩, 22) := ⟨⟨by decide +kernel, by decide +kernel⟩, List.mem_of_getElem? (i := 723) (by decide +kernel), List.mem_of_getElem? (i := 821) (by decide +kernel), List.mem_of_getElem? (i := 822) (by decide +kernel)⟩
theorem lw_p24 : lw_okq (⟨"StreetNumbersModel", "sum", "()Z"⟩, 22) := ⟨⟨by decide +kernel, by decide +kernel⟩, List.mem_of_getElem? (i := 723) (by decide +kernel), List.mem_of_getElem? (i := 825) (by decide +kernel), List.mem_of_getElem? (i := 826) (by decide +kernel)⟩
theorem lw_p25 : lw_okq (⟨"StreetNumbersModel", "product", "()Z"⟩, 22) := ⟨⟨by decide +kernel, by decide +kernel⟩, List.mem_of_getElem? (i := 723) (by decide +kernel), List.mem_of_getElem? (i := 829) (by decide +kernel), List.mem_of_getElem? (i := 830) (by decide +kernel)⟩
theorem lw_p26 : lw_okq (⟨"StreetNumbersModel", "one", "()Z"⟩, 22) := ⟨⟨by decide +kernel, by decide +kernel⟩, List.mem_of_getElem? (i := 723) (by decide +kernel), List.mem_of_getElem? (i := 833) (by decide +kernel), List.mem_of_getElem? (i := 834) (by decide +kernel)⟩
theorem lw_p27 : lw_okq (⟨"StreetNumbersModel", "look", "()I"⟩, 22) := ⟨⟨by decide +kernel, by decide +kernel⟩, List.mem_of_getElem? (i := 723) (by decide +kernel), List.mem_of_getElem? (i := 837) (by decide +kernel), List.mem_of_getElem? (i := 838) (by decide +kernel)⟩
theorem lw_p28 : lw_okq (⟨"StreetNumbersModel", "isName", "(I)Z"⟩, 22) := ⟨⟨by decide +kernel, by decide +kernel⟩, List.mem_of_getElem? (i := 723) (by decide +kernel), List.mem_of_getElem? (i := 841) (by decide +kernel), List.mem_of_getElem? (i := 842) (by decide +kernel)⟩
theorem lw_p29 : lw_okq (⟨"StreetNumbersModel", "step1", "(II)V"⟩, 22) := ⟨⟨by decide +kernel, by decide +kernel⟩, List.mem_of_getElem? (i := 723) (by decide +kernel), List.mem_of_getElem? (i := 845) (by decide +kernel), List.mem_of_getElem? (i := 846) (by decide +kernel)⟩
theorem lw_p30 : lw_okq (⟨"StreetNumbersModel", "opens", "()Z"⟩, 22) := ⟨⟨by decide +kernel, by decide +kernel⟩, List.mem_of_getElem? (i := 723) (by decide +kernel), List.mem_of_getElem? (i := 849) (by decide +kernel), List.mem_of_getElem? (i := 850) (by decide +kernel)⟩
theorem lw_p31 : lw_okq (⟨"StreetNumbersModel", "hasText", "(I)Z"⟩, 22) := ⟨⟨by decide +kernel, by decide +kernel⟩, List.mem_of_getElem? (i := 723) (by decide +kernel), List.mem_of_getElem? (i := 857) (by decide +kernel), List.mem_of_getElem? (i := 858) (by decide +kernel)⟩
def lw_privs_2 : List (MethodName × Nat) := [(⟨"StreetNumbers$Voices", "work", "(III)I"⟩, 6), (⟨"StreetNumbers$Voices", "own", "(III)I"⟩, 6), (⟨"StreetNumbers$Voices", "partedBy", "(II)I"⟩, 6), (⟨"StreetNumbers$Voices", "above", "(IIII)I"⟩, 6), (⟨"StreetNumbersModel", "error", "(I)I"⟩, 22), (⟨"StreetNumbersModel", "whole", "()Z"⟩, 22), (⟨"StreetNumbersModel", "both", "()Z"⟩, 22), (⟨"StreetNumbersModel", "compared", "()Z"⟩, 22), (⟨"StreetNumbersModel", "sum", "()Z"⟩, 22), (⟨"StreetNumbersModel", "product", "()Z"⟩, 22), (⟨"StreetNumbersModel", "one", "()Z"⟩, 22), (⟨"StreetNumbersModel", "look", "()I"⟩, 22), (⟨"StreetNumbersModel", "isName", "(I)Z"⟩, 22), (⟨"StreetNumbersModel", "step1", "(II)V"⟩, 22), (⟨"StreetNumbersModel", "opens", "()Z"⟩, 22), (⟨"StreetNumbersModel", "hasText", "(I)Z"⟩, 22)]
theorem lw_r2 : ∀ q ∈ lw_privs_2, lw_okq q := List.forall_mem_cons.mpr ⟨lw_p16, List.forall_mem_cons.mpr ⟨lw_p17, List.forall_mem_cons.mpr ⟨lw_p18, List.forall_mem_cons.mpr ⟨lw_p19, List.forall_mem_cons.mpr ⟨lw_p20, List.forall_mem_cons.mpr ⟨lw_p21, List.forall_mem_cons.mpr ⟨lw_p22, List.forall_mem_cons.mpr ⟨lw_p23, List.forall_mem_cons.mpr ⟨lw_p24, List.forall_mem_cons.mpr ⟨lw_p25, List.forall_mem_cons.mpr ⟨lw_p26, List.forall_mem_cons.mpr ⟨lw_p27, List.forall_mem_cons.mpr ⟨lw_p28, List.forall_mem_cons.mpr ⟨lw_p29, List.forall_mem_cons.mpr ⟨lw_p30, List.forall_mem_cons.mpr ⟨lw_p31, fun _ h => absurd h List.not_mem_nil⟩⟩⟩⟩⟩⟩⟩⟩⟩⟩⟩⟩⟩⟩⟩⟩
theorem lw_p32 : lw_okq (⟨"StreetNumbersModel", "comes", "(III)V"⟩, 22) := ⟨⟨by decide +kernel, by decide +kernel⟩, List.mem_of_getElem? (i := 723) (by decide +kernel), List.mem_of_getElem? (i := 871) (by decide +kernel), List.mem_of_getElem? (i := 872) (by decide +kernel)⟩
theorem lw_p33 : lw_okq (⟨"StreetNumbersModel", "its", "(II)I"⟩, 22) := ⟨⟨by decide +kernel, by decide +kernel⟩, List.mem_of_getElem? (i := 723) (by decide +kernel), List.mem_of_getElem? (i := 875) (by decide +kernel), List.mem_of_getElem? (i := 876) (by decide +kernel)⟩
theorem lw_p34 : lw_okq (⟨"StreetNumbersModel", "lays1", "(III)V"⟩, 22) := ⟨⟨by decide +kernel, by decide +kernel⟩, List.mem_of_getElem? (i := 723) (by decide +kernel), List.mem_of_getElem? (i := 879) (by decide +kernel), List.mem_of_getElem? (i := 880) (by decide +kernel)⟩
theorem lw_p35 : lw_okq (⟨"StreetNumbersModel", "isHouse", "(I)Z"⟩, 22) := ⟨⟨by decide +kernel, by decide +kernel⟩, List.mem_of_getElem? (i := 723) (by decide +kernel), List.mem_of_getElem? (i := 887) (by decide +kernel), List.mem_of_getElem? (i := 888) (by decide +kernel)⟩
theorem lw_p36 : lw_okq (⟨"StreetNumbersModel", "yardsOf", "(I)I"⟩, 22) := ⟨⟨by decide +kernel, by decide +kernel⟩, List.mem_of_getElem? (i := 723) (by decide +kernel), List.mem_of_getElem? (i := 891) (by decide +kernel), List.mem_of_getElem? (i := 892) (by decide +kernel)⟩
theorem lw_p37 : lw_okq (⟨"StreetNumbersModel", "frontOf", "(I)I"⟩, 22) := ⟨⟨by decide +kernel, by decide +kernel⟩, List.mem_of_getElem? (i := 723) (by decide +kernel), List.mem_of_getElem? (i := 895) (by decide +kernel), List.mem_of_getElem? (i := 896) (by decide +kernel)⟩
theorem lw_p38 : lw_okq (⟨"StreetNumbersModel", "yardsTold", "(III)I"⟩, 22) := ⟨⟨by decide +kernel, by decide +kernel⟩, List.mem_of_getElem? (i := 723) (by decide +kernel), List.mem_of_getElem? (i := 899) (by decide +kernel), List.mem_of_getElem? (i := 900) (by decide +kernel)⟩
theorem lw_p39 : lw_okq (⟨"StreetNumbersModel", "worked", "(I)I"⟩, 22) := ⟨⟨by decide +kernel, by decide +kernel⟩, List.mem_of_getElem? (i := 723) (by decide +kernel), List.mem_of_getElem? (i := 903) (by decide +kernel), List.mem_of_getElem? (i := 904) (by decide +kernel)⟩
theorem lw_p40 : lw_okq (⟨"StreetNumbersModel", "yardsAhead", "(I)I"⟩, 22) := ⟨⟨by decide +kernel, by decide +kernel⟩, List.mem_of_getElem? (i := 723) (by decide +kernel), List.mem_of_getElem? (i := 913) (by decide +kernel), List.mem_of_getElem? (i := 914) (by decide +kernel)⟩
theorem lw_p41 : lw_okq (⟨"StreetNumbersModel", "at1", "(I)I"⟩, 22) := ⟨⟨by decide +kernel, by decide +kernel⟩, List.mem_of_getElem? (i := 723) (by decide +kernel), List.mem_of_getElem? (i := 921) (by decide +kernel), List.mem_of_getElem? (i := 922) (by decide +kernel)⟩
theorem lw_p42 : lw_okq (⟨"StreetNumbersModel", "change1", "(II)I"⟩, 22) := ⟨⟨by decide +kernel, by decide +kernel⟩, List.mem_of_getElem? (i := 723) (by decide +kernel), List.mem_of_getElem? (i := 929) (by decide +kernel), List.mem_of_getElem? (i := 930) (by decide +kernel)⟩
theorem lw_p43 : lw_okq (⟨"StreetNumbersModel", "harmOf", "(II)I"⟩, 22) := ⟨⟨by decide +kernel, by decide +kernel⟩, List.mem_of_getElem? (i := 723) (by decide +kernel), List.mem_of_getElem? (i := 944) (by decide +kernel), List.mem_of_getElem? (i := 945) (by decide +kernel)⟩
theorem lw_p44 : lw_okq (⟨"StreetNumbersModel", "mindsOf", "(II)I"⟩, 22) := ⟨⟨by decide +kernel, by decide +kernel⟩, List.mem_of_getElem? (i := 723) (by decide +kernel), List.mem_of_getElem? (i := 948) (by decide +kernel), List.mem_of_getElem? (i := 949) (by decide +kernel)⟩
theorem lw_p45 : lw_okq (⟨"StreetNumbersModel", "harmTold", "(III)I"⟩, 22) := ⟨⟨by decide +kernel, by decide +kernel⟩, List.mem_of_getElem? (i := 723) (by decide +kernel), List.mem_of_getElem? (i := 952) (by decide +kernel), List.mem_of_getElem? (i := 953) (by decide +kernel)⟩
theorem lw_p46 : lw_okq (⟨"StreetNumbersModel", "gets", "(II)I"⟩, 22) := ⟨⟨by decide +kernel, by decide +kernel⟩, List.mem_of_getElem? (i := 723) (by decide +kernel), List.mem_of_getElem? (i := 960) (by decide +kernel), List.mem_of_getElem? (i := 961) (by decide +kernel)⟩
theorem lw_p47 : lw_okq (⟨"StreetNumbersModel", "renumbers", "(I)I"⟩, 22) := ⟨⟨by decide +kernel, by decide +kernel⟩, List.mem_of_getElem? (i := 723) (by decide +kernel), List.mem_of_getElem? (i := 980) (by decide +kernel), List.mem_of_getElem? (i := 981) (by decide +kernel)⟩
def lw_privs_3 : List (MethodName × Nat) := [(⟨"StreetNumbersModel", "comes", "(III)V"⟩, 22), (⟨"StreetNumbersModel", "its", "(II)I"⟩, 22), (⟨"StreetNumbersModel", "lays1", "(III)V"⟩, 22), (⟨"StreetNumbersModel", "isHouse", "(I)Z"⟩, 22), (⟨"StreetNumbersModel", "yardsOf", "(I)I"⟩, 22), (⟨"StreetNumbersModel", "frontOf", "(I)I"⟩, 22), (⟨"StreetNumbersModel", "yardsTold", "(III)I"⟩, 22), (⟨"StreetNumbersModel", "worked", "(I)I"⟩, 22), (⟨"StreetNumbersModel", "yardsAhead", "(I)I"⟩, 22), (⟨"StreetNumbersModel", "at1", "(I)I"⟩, 22), (⟨"StreetNumbersModel", "change1", "(II)I"⟩, 22), (⟨"StreetNumbersModel", "harmOf", "(II)I"⟩, 22), (⟨"StreetNumbersModel", "mindsOf", "(II)I"⟩, 22), (⟨"StreetNumbersModel", "harmTold", "(III)I"⟩, 22), (⟨"StreetNumbersModel", "gets", "(II)I"⟩, 22), (⟨"StreetNumbersModel", "renumbers", "(I)I"⟩, 22)]
theorem lw_r3 : ∀ q ∈ lw_privs_3, lw_okq q := List.forall_mem_cons.mpr ⟨lw_p32, List.forall_mem_cons.mpr ⟨lw_p33, List.forall_mem_cons.mpr ⟨lw_p34, List.forall_mem_cons.mpr ⟨lw_p35, List.forall_mem_cons.mpr ⟨lw_p36, List.forall_mem_cons.mpr ⟨lw_p37, List.forall_mem_cons.mpr ⟨lw_p38, List.forall_mem_cons.mpr ⟨lw_p39, List.forall_mem_cons.mpr ⟨lw_p40, List.forall_mem_cons.mpr ⟨lw_p41, List.forall_mem_cons.mpr ⟨lw_p42, List.forall_mem_cons.mpr ⟨lw_p43, List.forall_mem_cons.mpr ⟨lw_p44, List.forall_mem_cons.mpr ⟨lw_p45, List.forall_mem_cons.mpr ⟨lw_p46, List.forall_mem_cons.mpr ⟨lw_p47, fun _ h => absurd h List.not_mem_nil⟩⟩⟩⟩⟩⟩⟩⟩⟩⟩⟩⟩⟩⟩⟩⟩
theorem lw_p48 : lw_okq (⟨"StreetNumbersModel", "wouldBe", "(I)I"⟩, 22) := ⟨⟨by decide +kernel, by decide +kernel⟩, List.mem_of_getElem? (i := 723) (by decide +kernel), List.mem_of_getElem? (i := 988) (by decide +kernel), List.mem_of_getElem? (i := 989) (by decide +kernel)⟩
theorem lw_p49 : lw_okq (⟨"StreetNumbersModel", "findLeast", "()V"⟩, 22) := ⟨⟨by decide +kernel, by decide +kernel⟩, List.mem_of_getElem? (i := 723) (by decide +kernel), List.mem_of_getElem? (i := 1000) (by decide +kernel), List.mem_of_getElem? (i := 1001) (by decide +kernel)⟩
theorem lw_p50 : lw_okq (⟨"StreetNumbersModel", "leastAt", "(II)I"⟩, 22) := ⟨⟨by decide +kernel, by decide +kernel⟩, List.mem_of_getElem? (i := 723) (by decide +kernel), List.mem_of_getElem? (i := 1005) (by decide +kernel), List.mem_of_getElem? (i := 1006) (by decide +kernel)⟩
theorem lw_p51 : lw_okq (⟨"StreetNumbersModel", "goesBetween", "(I)I"⟩, 22) := ⟨⟨by decide +kernel, by decide +kernel⟩, List.mem_of_getElem? (i := 723) (by decide +kernel), List.mem_of_getElem? (i := 1013) (by decide +kernel), List.mem_of_getElem? (i := 1014) (by decide +kernel)⟩
theorem lw_p52 : lw_okq (⟨"StreetNumbersModel", "longest", "()I"⟩, 22) := ⟨⟨by decide +kernel, by decide +kernel⟩, List.mem_of_getElem? (i := 723) (by decide +kernel), List.mem_of_getElem? (i := 1021) (by decide +kernel), List.mem_of_getElem? (i := 1022) (by decide +kernel)⟩
theorem lw_p53 : lw_okq (⟨"StreetNumbersModel", "finds1", "(I)I"⟩, 22) := ⟨⟨by decide +kernel, by decide +kernel⟩, List.mem_of_getElem? (i := 723) (by decide +kernel), List.mem_of_getElem? (i := 1033) (by decide +kernel), List.mem_of_getElem? (i := 1034) (by decide +kernel)⟩
theorem lw_p54 : lw_okq (⟨"StreetNumbersModel", "lacks", "(I)I"⟩, 22) := ⟨⟨by decide +kernel, by decide +kernel⟩, List.mem_of_getElem? (i := 723) (by decide +kernel), List.mem_of_getElem? (i := 1048) (by decide +kernel), List.mem_of_getElem? (i := 1049) (by decide +kernel)⟩
theorem lw_p55 : lw_okq (⟨"StreetNumbersModel", "harmsSo", "(II)Z"⟩, 22) := ⟨⟨by decide +kernel, by decide +kernel⟩, List.mem_of_getElem? (i := 723) (by decide +kernel), List.mem_of_getElem? (i := 1055) (by decide +kernel), List.mem_of_getElem? (i := 1056) (by decide +kernel)⟩
theorem lw_p56 : lw_okq (⟨"StreetNumbersModel", "buildsOne", "()Z"⟩, 22) := ⟨⟨by decide +kernel, by decide +kernel⟩, List.mem_of_getElem? (i := 723) (by decide +kernel), List.mem_of_getElem? (i := 1063) (by decide +kernel), List.mem_of_getElem? (i := 1064) (by decide +kernel)⟩
theorem lw_p57 : lw_okq (⟨"StreetNumbersModel", "draw", "()I"⟩, 22) := ⟨⟨by decide +kernel, by decide +kernel⟩, List.mem_of_getElem? (i := 723) (by decide +kernel), List.mem_of_getElem? (i := 1067) (by decide +kernel), List.mem_of_getElem? (i := 1068) (by decide +kernel)⟩
theorem lw_p58 : lw_okq (⟨"StreetNumbersModel", "kindNow", "()I"⟩, 22) := ⟨⟨by decide +kernel, by decide +kernel⟩, List.mem_of_getElem? (i := 723) (by decide +kernel), List.mem_of_getElem? (i := 1080) (by decide +kernel), List.mem_of_getElem? (i := 1081) (by decide +kernel)⟩
theorem lw_p59 : lw_okq (⟨"StreetNumbersModel", "ringsAs", "(II)I"⟩, 22) := ⟨⟨by decide +kernel, by decide +kernel⟩, List.mem_of_getElem? (i := 723) (by decide +kernel), List.mem_of_getElem? (i := 1084) (by decide +kernel), List.mem_of_getElem? (i := 1085) (by decide +kernel)⟩
theorem lw_p60 : lw_okq (⟨"StreetNumbersModel", "starts", "(I)V"⟩, 22) := ⟨⟨by decide +kernel, by decide +kernel⟩, List.mem_of_getElem? (i := 723) (by decide +kernel), List.mem_of_getElem? (i := 1088) (by decide +kernel), List.mem_of_getElem? (i := 1089) (by decide +kernel)⟩
theorem lw_p61 : lw_okq (⟨"StreetNumbersModel", "answersAs", "(II)I"⟩, 22) := ⟨⟨by decide +kernel, by decide +kernel⟩, List.mem_of_getElem? (i := 723) (by decide +kernel), List.mem_of_getElem? (i := 1092) (by decide +kernel), List.mem_of_getElem? (i := 1093) (by decide +kernel)⟩
theorem lw_p62 : lw_okq (⟨"StreetNumbersModel", "mNow", "()I"⟩, 22) := ⟨⟨by decide +kernel, by decide +kernel⟩, List.mem_of_getElem? (i := 723) (by decide +kernel), List.mem_of_getElem? (i := 1096) (by decide +kernel), List.mem_of_getElem? (i := 1097) (by decide +kernel)⟩
theorem lw_p63 : lw_okq (⟨"StreetNumbersModel", "waitsAs", "(II)I"⟩, 22) := ⟨⟨by decide +kernel, by decide +kernel⟩, List.mem_of_getElem? (i := 723) (by decide +kernel), List.mem_of_getElem? (i := 1100) (by decide +kernel), List.mem_of_getElem? (i := 1101) (by decide +kernel)⟩
def lw_privs_4 : List (MethodName × Nat) := [(⟨"StreetNumbersModel", "wouldBe", "(I)I"⟩, 22), (⟨"StreetNumbersModel", "findLeast", "()V"⟩, 22), (⟨"StreetNumbersModel", "leastAt", "(II)I"⟩, 22), (⟨"StreetNumbersModel", "goesBetween", "(I)I"⟩, 22), (⟨"StreetNumbersModel", "longest", "()I"⟩, 22), (⟨"StreetNumbersModel", "finds1", "(I)I"⟩, 22), (⟨"StreetNumbersModel", "lacks", "(I)I"⟩, 22), (⟨"StreetNumbersModel", "harmsSo", "(II)Z"⟩, 22), (⟨"StreetNumbersModel", "buildsOne", "()Z"⟩, 22), (⟨"StreetNumbersModel", "draw", "()I"⟩, 22), (⟨"StreetNumbersModel", "kindNow", "()I"⟩, 22), (⟨"StreetNumbersModel", "ringsAs", "(II)I"⟩, 22), (⟨"StreetNumbersModel", "starts", "(I)V"⟩, 22), (⟨"StreetNumbersModel", "answersAs", "(II)I"⟩, 22), (⟨"StreetNumbersModel", "mNow", "()I"⟩, 22), (⟨"StreetNumbersModel", "waitsAs", "(II)I"⟩, 22)]
theorem lw_r4 : ∀ q ∈ lw_privs_4, lw_okq q := List.forall_mem_cons.mpr ⟨lw_p48, List.forall_mem_cons.mpr ⟨lw_p49, List.forall_mem_cons.mpr ⟨lw_p50, List.forall_mem_cons.mpr ⟨lw_p51, List.forall_mem_cons.mpr ⟨lw_p52, List.forall_mem_cons.mpr ⟨lw_p53, List.forall_mem_cons.mpr ⟨lw_p54, List.forall_mem_cons.mpr ⟨lw_p55, List.forall_mem_cons.mpr ⟨lw_p56, List.forall_mem_cons.mpr ⟨lw_p57, List.forall_mem_cons.mpr ⟨lw_p58, List.forall_mem_cons.mpr ⟨lw_p59, List.forall_mem_cons.mpr ⟨lw_p60, List.forall_mem_cons.mpr ⟨lw_p61, List.forall_mem_cons.mpr ⟨lw_p62, List.forall_mem_cons.mpr ⟨lw_p63, fun _ h => absurd h List.not_mem_nil⟩⟩⟩⟩⟩⟩⟩⟩⟩⟩⟩⟩⟩⟩⟩⟩
theorem lw_p64 : lw_okq (⟨"StreetNumbersModel", "partsAs", "(II)I"⟩, 22) := ⟨⟨by decide +kernel, by decide +kernel⟩, List.mem_of_getElem? (i := 723) (by decide +kernel), List.mem_of_getElem? (i := 1104) (by decide +kernel), List.mem_of_getElem? (i := 1105) (by decide +kernel)⟩
def lw_privs_5 : List (MethodName × Nat) := [(⟨"StreetNumbersModel", "partsAs", "(II)I"⟩, 22)]
theorem lw_r5 : ∀ q ∈ lw_privs_5, lw_okq q := List.forall_mem_cons.mpr ⟨lw_p64, fun _ h => absurd h List.not_mem_nil⟩
def lw_privs : List (MethodName × Nat) := lw_privs_1 ++ (lw_privs_2 ++ (lw_privs_3 ++ (lw_privs_4 ++ (lw_privs_5))))
def lw_tbl : List Cond := k2_sels lw_privs ++ tables_1
theorem lw_privs_ok : ∀ q ∈ lw_privs, lw_okq q := by
  show ∀ q ∈ lw_privs_1 ++ (lw_privs_2 ++ (lw_privs_3 ++ (lw_privs_4 ++ (lw_privs_5)))), lw_okq q
  exact List.forall_mem_append.mpr ⟨lw_r1, List.forall_mem_append.mpr ⟨lw_r2, List.forall_mem_append.mpr ⟨lw_r3, List.forall_mem_append.mpr ⟨lw_r4, lw_r5⟩⟩⟩⟩
/-- (the printed row va_mna names these two, which the kit doesn't hold: written as va_AO is used) -/
def va_AOA (ty : FieldType) (U : State) : Prop := (Cond.arrayOver (.array ty)).before #[] U = true
theorem va_AOA.use {ty : FieldType} {A : Array Value} {U : State} (h : va_AOA ty U) : (Cond.arrayOver (.array ty)).before A U = true := h
/-! ===== BEGIN words of one list among another's, by their places ===== -/
theorem goodIn_r {big : List Cond} (ws : List Cond) (ps : List Nat) (hp : ws = ps.filterMap (fun i => big[i]?)) (h : ws.all goodWord = true) : GoodIn big ws := by
  intro w hw
  have h1 := List.all_eq_true.mp h w hw
  rw [hp] at hw
  obtain ⟨i, -, hi⟩ := List.mem_filterMap.mp hw
  have hm : w ∈ big := by first | exact List.mem_of_getElem? hi | exact List.getElem?_mem hi
  exact ⟨hm, good_of_word h1⟩
theorem goodIn_app {big a b : List Cond} (ha : GoodIn big a) (hb : GoodIn big b) : GoodIn big (a ++ b) := fun w h => (List.mem_append.mp h).elim (ha w) (hb w)
theorem goodIn_ca {big a b : List Cond} {c : Cond} (ha : GoodIn big (c :: a)) (hb : GoodIn big b) : GoodIn big (c :: (a ++ b)) := fun w h => (List.mem_cons.mp h).elim (fun e => ha w (List.mem_cons.mpr (Or.inl e))) (fun h => (List.mem_append.mp h).elim (fun h => ha w (List.mem_cons.mpr (Or.inr h))) (hb w))
theorem goodIn_sub {big ws : List Cond} (hm : ∀ w ∈ ws, w ∈ big) (h : ws.all goodWord = true) : GoodIn big ws := fun w hw => ⟨hm w hw, good_of_word (List.all_eq_true.mp h w hw)⟩
/-! ===== END ===== -/

/-! ===== BEGIN new T[n][m]: the outer array a place, the inner ones among the pooled ===== -/
/-- f, but v at every address of l -/
def vr_up {α : Type} (f : Nat → α) (l : List Nat) (v : α) : Nat → α := fun a => if a ∈ l then v else f a
theorem vr_up_in {α : Type} {f : Nat → α} {l : List Nat} {v : α} {a : Nat} (h : a ∈ l) : vr_up f l v a = v := if_pos h
theorem vr_up_ne {α : Type} {f : Nat → α} {l : List Nat} {v : α} {a : Nat} (h : a ∉ l) : vr_up f l v a = f a := if_neg h
theorem vr_rows {L l : List Nat} {f : Nat → va_E} {e : va_E} (h : ∀ a, a ∈ l → a ∉ L) : va_pl L f ++ l.map (fun a => (a, e)) = va_pl (L ++ l) (vr_up f l e) := by
  unfold va_pl
  rw [List.map_append]
  congr 1
  · apply List.map_congr_left
    intro a ha
    rw [vr_up_ne (fun q => h a q ha)]
  · apply List.map_congr_left
    intro a ha
    rw [vr_up_in ha]
theorem vr_lay {X rows : va_W} {x : Nat × va_E} {pl : va_W} {D : va_G} {cl : List vw_C} {H : Heap} (hP : va_P D cl (((X ++ pl) ++ [x]) ++ rows) H) : va_P D cl ((X ++ [x]) ++ (pl ++ rows)) H := by
  rw [List.append_assoc (X ++ pl)] at hP
  have h := va_P.swap hP
  rw [← List.append_assoc X] at h
  have h2 := va_P.swap h
  rw [List.append_assoc (X ++ [x])] at h2
  exact h2
theorem vr_layD {X rows : va_W} {x : Nat × va_E} {pl : va_W} {A : Nat → Prop} (hD : va_D A (((X ++ pl) ++ [x]) ++ rows)) : va_D A ((X ++ [x]) ++ (pl ++ rows)) := by
  rw [List.append_assoc (X ++ pl)] at hD
  have h := va_D.swap hD
  rw [← List.append_assoc X] at h
  have h2 := va_D.swap h
  rw [List.append_assoc (X ++ [x])] at h2
  exact h2
theorem vr_outer (c : ClassId) (N h0 : Nat) : ∀ i : Nat, Jvm.Free.Multi.outerC c N h0 i = arrV c N (fun j => va_rf (if j < i then some (h0 + 1 + j) else none))
  | 0 => by
    show ({ cls := c, slots := Array.replicate N .null, vm := .none } : Cell) = _
    rw [arrV_new]
    refine congrArg (arrV c N) (funext fun j => ?_)
    simp [va_rf]
  | i + 1 => by
    show (Jvm.Free.Multi.outerC c N h0 i).setSlot i (.ref (h0 + 1 + i)) = _
    rw [vr_outer c N h0 i, arrV_store]
    refine congrArg (arrV c N) (funext fun j => ?_)
    by_cases e : j = i
    · subst e
      simp [updV, va_rf]
    · by_cases h : j < i
      · simp [updV, e, h, Nat.lt_succ_of_lt h]
      · simp [updV, e, h, show ¬ j < i + 1 by omega]
section VGM
variable {p : Program} {l : Launch} {e : Env} {R : Room} {s : State} {m : MethodId} {args : Array Value} {below : List Frame} {meth : Method} {c : Code} {H : Heap} {locs : List Loc} {cells slots : Nat} {Q : State → Prop}
variable {cc : ByteArray} {pc : Nat} {ls : Array Slot} {rest : List Value} {D : va_G} {cl : List vw_C} {A : Nat → Prop} {a : Nat} {tys : List (ClassId × FieldType)} {ws : va_W} {H0 : Heap}
theorem va_mna {X : va_W} {L : List Nat} {f : Nat → va_E} {cc : ByteArray} (hexec : p.tables.exec = Jvm.exec) (hb : c.code = cc) {own : String} {index : Nat} {ty : FieldType} {cy : ClassId} (hown : s.vm.findClass own = some m.cls) (hclink : (Cond.classLink own index ("[" ++ (FieldType.array ty).toString)).before args s = true) (hover : va_AOA ty s) (harr : (Cond.arrayClass ty).before args s = true) (hcy : s.vm.findClass (FieldType.array ty).toString = some cy)
    (hK : va_K D cl tys s) (hP : va_P D cl (X ++ va_pl L f) H) (hD : va_D A (X ++ va_pl L f)) (hS : va_S A H0 H locs) (hA : ∀ q, H0.size ≤ q → A q) {n k : Int32} {N' K' : Nat} {z : vp_A} (hn : ¬ n < 0) (hk : ¬ k < 0) (hN : n.toNatClampNeg = N') (hM : k.toNatClampNeg = K')
    (hb1 : N' * 4 ≤ 536870912) (hb2 : K' * componentBytes ty ≤ 536870912) (hb3 : K' ≤ 536870912) (hdf : fits ty (defaultValue ty) = true) (hdd : (defaultValue ty).isDefault = true) (hcells : cells + (1 + N') ≤ R.cells) (hslots : slots + (N' + N' * K') ≤ R.slots) (hz : ∀ c : ClassId, Jvm.Free.Multi.innerC c K' (defaultValue ty) = vp_cell c z) (hdg : decode cc pc = .ok (.multianewarray index 2, 4))
    (kk : ∀ (q : Nat) (r : Nat → Nat) (cA : ClassId) (H1 : Heap), (∀ i j : Nat, i < N' → j < N' → r i = r j → i = j) → (∀ i : Nat, i < N' → r i ∉ L) → va_K D cl (tys ++ [(cA, .array ty)]) s →
      va_P D cl ((X ++ [(q, .inl (cA, N', .inr (.inr (.inr (.inr (fun i => if i < N' then some (r i) else none))))))]) ++ va_pl (L ++ (List.range N').map r) (vr_up f ((List.range N').map r) (.inl (cy, z)))) H1 → va_D A ((X ++ [(q, .inl (cA, N', .inr (.inr (.inr (.inr (fun i => if i < N' then some (r i) else none))))))]) ++ va_pl (L ++ (List.range N').map r) (vr_up f ((List.range N').map r) (.inl (cy, z)))) → va_S A H0 H1 locs →
      W p l e R s m args below meth c H1 locs (cells + 1 + N') (slots + N' + N' * K') Q (F0 m (pc + 4) ls (.ref q :: rest))) : W p l e R s m args below meth c H locs cells slots Q (F0 m pc ls (.int k :: .int n :: rest)) := by
  subst hN
  subst hM
  intro T hT Xs
  obtain ⟨vm₁, cA, comp, -, fA, fC, hO, -, X', step⟩ := Xs.multianewarray2F hexec hown hclink (va_AOA.use hover) harr (g := F0 m pc ls (.int k :: .int n :: rest)) rfl (by rw [hb]; exact hdg) rfl hn hk hb1 hb2 hb3 hdf hdd hcells hslots
  have ec : some cy = some comp := hcy.symm.trans fC
  cases ec
  generalize hF : Jvm.Free.Multi.fill (T.setVm vm₁) cA cy n.toNatClampNeg k.toNatClampNeg (defaultValue ty) n.toNatClampNeg = F at X' step
  have hTh : (T.setVm vm₁).heap = H := hT
  obtain ⟨f1, f2, -, -⟩ := Jvm.Free.Multi.fill_facts (T.setVm vm₁) cA cy n.toNatClampNeg k.toNatClampNeg (defaultValue ty) n.toNatClampNeg
  rw [hF, hTh] at f1 f2
  have hold : ∀ x : Nat, x < H.size → F.heap[x]? = H[x]? := fun x hx => by
    have := Jvm.Free.Multi.fill_old (T.setVm vm₁) cA cy n.toNatClampNeg k.toNatClampNeg (defaultValue ty) (a := x) (by rw [hTh]; exact hx) n.toNatClampNeg
    rw [hF, hTh] at this
    exact this
  have hrow : ∀ j : Nat, j < n.toNatClampNeg → F.heap[H.size + 1 + j]? = some (vp_cell cy z) := fun j hj => by
    have := Jvm.Free.Multi.fill_inner (T.setVm vm₁) cA cy n.toNatClampNeg k.toNatClampNeg (defaultValue ty) n.toNatClampNeg j hj
    rw [hF, hTh, hz] at this
    exact this
  have hout : Jvm.Free.Multi.outerC cA n.toNatClampNeg H.size n.toNatClampNeg = vp_cell cA (n.toNatClampNeg, .inr (.inr (.inr (.inr (fun i => if i < n.toNatClampNeg then some (H.size + 1 + i) else none))))) := by
    rw [vp_cell_q]
    exact vr_outer cA n.toNatClampNeg H.size n.toNatClampNeg
  rw [hout] at f2
  have hlt : ∀ a, a ∈ L → a < H.size := fun a ha => by
    obtain ⟨k9, hk9⟩ := va_pl_get (X := X) (f := f) ha
    exact (hP k9 _ hk9).lt
  have hnl : ∀ i : Nat, i < n.toNatClampNeg → H.size + 1 + i ∉ L := fun i _ h => by
    have := hlt _ h
    omega
  have hnm : ∀ a, a ∈ (List.range n.toNatClampNeg).map (fun i => H.size + 1 + i) → a ∉ L := fun a ha h => by
    obtain ⟨i, -, rfl⟩ := List.mem_map.mp ha
    have := hlt _ h
    omega
  have hP0 : va_P D cl (X ++ va_pl L f) F.heap := hP.kept (fun k9 x hx => hold x.1 ((hP k9 x hx).lt))
  have hP1 : va_P D cl ((X ++ va_pl L f) ++ [(H.size, .inl (cA, n.toNatClampNeg, .inr (.inr (.inr (.inr (fun i => if i < n.toNatClampNeg then some (H.size + 1 + i) else none))))))]) F.heap := hP0.app (fun k9 x hx => by
    have h0 : k9 < 1 := (List.getElem?_eq_some_iff.mp hx).1
    rw [show k9 = 0 by omega] at hx
    cases hx
    exact f2)
  have hP2 : va_P D cl (((X ++ va_pl L f) ++ [(H.size, .inl (cA, n.toNatClampNeg, .inr (.inr (.inr (.inr (fun i => if i < n.toNatClampNeg then some (H.size + 1 + i) else none))))))]) ++ ((List.range n.toNatClampNeg).map (fun i => H.size + 1 + i)).map (fun a => (a, .inl (cy, z)))) F.heap := hP1.app (fun k9 x hx => by
    obtain ⟨a, ha, rfl⟩ := List.mem_map.mp (List.mem_of_getElem? hx)
    obtain ⟨i, hi, rfl⟩ := List.mem_map.mp ha
    exact hrow i (List.mem_range.mp hi))
  have hD2 : va_D A (((X ++ va_pl L f) ++ [(H.size, .inl (cA, n.toNatClampNeg, .inr (.inr (.inr (.inr (fun i => if i < n.toNatClampNeg then some (H.size + 1 + i) else none))))))]) ++ ((List.range n.toNatClampNeg).map (fun i => H.size + 1 + i)).map (fun a => (a, .inl (cy, z)))) := by
    have hD1 := hD.push (e := .inl (cA, n.toNatClampNeg, .inr (.inr (.inr (.inr (fun i => if i < n.toNatClampNeg then some (H.size + 1 + i) else none)))))) hP rfl (hA _ hS.1)
    generalize hW1 : (X ++ va_pl L f) ++ [(H.size, .inl (cA, n.toNatClampNeg, .inr (.inr (.inr (.inr (fun i => if i < n.toNatClampNeg then some (H.size + 1 + i) else none))))))] = W1 at hD1 hP1 ⊢
    have hle : ∀ (k9 : Nat) (x : Nat × va_E), W1[k9]? = some x → x.1 ≤ H.size := fun k9 x hx => by
      rw [← hW1] at hx
      by_cases hl : k9 < (X ++ va_pl L f).length
      · rw [List.getElem?_append_left hl] at hx
        exact Nat.le_of_lt ((hP k9 x hx).lt)
      · rw [List.getElem?_append_right (by omega)] at hx
        have h0 : k9 - (X ++ va_pl L f).length < 1 := (List.getElem?_eq_some_iff.mp hx).1
        rw [show k9 - (X ++ va_pl L f).length = 0 by omega] at hx
        cases hx
        exact Nat.le_refl _
    have hr : ∀ (k9 : Nat) (x : Nat × va_E), (((List.range n.toNatClampNeg).map (fun i => H.size + 1 + i)).map (fun a => ((a, .inl (cy, z)) : Nat × va_E)))[k9]? = some x → x.1 = H.size + 1 + k9 := fun k9 x hx => by
      rw [List.getElem?_map, List.getElem?_map] at hx
      by_cases h9 : k9 < n.toNatClampNeg
      · rw [List.getElem?_range h9] at hx
        cases hx
        rfl
      · have hn0 : (List.range n.toNatClampNeg)[k9]? = none := List.getElem?_eq_none (by rw [List.length_range]; omega)
        rw [hn0] at hx
        cases hx
    refine ⟨fun i j x y hi hj hxy => ?_, fun k9 x hx => ?_⟩
    · by_cases h1 : i < W1.length <;> by_cases h2 : j < W1.length
      · rw [List.getElem?_append_left h1] at hi
        rw [List.getElem?_append_left h2] at hj
        exact hD1.1 i j x y hi hj hxy
      · rw [List.getElem?_append_left h1] at hi
        rw [List.getElem?_append_right (by omega)] at hj
        have := hle _ _ hi
        have := hr _ _ hj
        omega
      · rw [List.getElem?_append_right (by omega)] at hi
        rw [List.getElem?_append_left h2] at hj
        have := hle _ _ hj
        have := hr _ _ hi
        omega
      · rw [List.getElem?_append_right (by omega)] at hi hj
        have := hr _ _ hi
        have := hr _ _ hj
        omega
    · by_cases h1 : k9 < W1.length
      · rw [List.getElem?_append_left h1] at hx
        exact hD1.2 k9 x hx
      · rw [List.getElem?_append_right (by omega)] at hx
        have := hr _ _ hx
        exact hA _ (by have := hS.1; omega)
  have hAr : ArrOfT s cA (.array ty) := fun N9 z9 => by
    obtain ⟨-, k9, hk9, cm9, hkk9⟩ := (hO 0 0 0).1
    exact ⟨(fun q hq => by cases hq), k9, hk9, cm9, hkk9⟩
  have hK2 : va_K D cl (tys ++ [(cA, .array ty)]) s := ⟨hK.1, fun k9 x hx => by
    by_cases hl : k9 < tys.length
    · rw [List.getElem?_append_left hl] at hx
      exact hK.2 k9 x hx
    · rw [List.getElem?_append_right (by omega)] at hx
      have h0 : k9 - tys.length < 1 := (List.getElem?_eq_some_iff.mp hx).1
      rw [show k9 - tys.length = 0 by omega] at hx
      cases hx
      exact ⟨hAr, fA⟩⟩
  obtain ⟨t, a1, b1⟩ := kk H.size (fun i => H.size + 1 + i) cA F.heap (fun i j _ _ h => by have h9 : H.size + 1 + i = H.size + 1 + j := h; omega) hnl hK2 (by rw [← vr_rows hnm]; exact vr_lay hP2) (by rw [← vr_rows hnm]; exact vr_layD hD2) ⟨by rw [f1]; have := hS.1; omega, fun x h1 h2 => (hold x (Nat.lt_of_lt_of_le h1 hS.1)).trans (hS.2.1 x h1 h2), hS.2.2⟩ F rfl X'
  refine ⟨t, step t ?_, b1⟩
  have e : T.heap.size = H.size := by rw [hT]
  rw [e]
  exact a1
end VGM
/-! ===== END ===== -/

def RX0 : String := "StreetNumbers$Laws"
def TX0 : u_T := fun k => match k with
  | 0 => ("StreetNumbers$Laws", "tape", "[I", true)
  | 1 => ("StreetNumbers$Laws", "taped", "I", false)
  | 2 => ("StreetNumbers$Laws", "steps", "[[I", true)
  | 3 => ("StreetNumbers$Laws", "stepped", "[I", true)
  | _ => ("StreetNumbers$Laws", "stack", "[I", true)
def tyX0 : Nat → FieldType := fun k => match k with
  | 0 => .array .int
  | 1 => .int
  | 2 => .array (.array .int)
  | 3 => .array .int
  | _ => .array .int
abbrev wsX00 : List Cond := u_ws RX0 TX0 5
theorem nmX0 : ∀ a, a < 5 → ∀ b, b < 5 → a ≠ b → (TX0 a).2.1 ≠ (TX0 b).2.1 := by decide +kernel
theorem tyX0_ok : ∀ k, k < 5 → parseFieldDescriptor (TX0 k).2.2.1 = some (tyX0 k) := by decide +kernel
abbrev cX0_init : ByteArray := prog_2_method_1_code
def yX0_init : MethodName := ⟨RX0, "<init>", "()V"⟩
abbrev cX0_becomeLike : ByteArray := prog_2_method_2_code
def yX0_becomeLike : MethodName := ⟨RX0, "becomeLike", "(LStreetNumbers$Laws;)V"⟩
abbrev cX0_addBytes : ByteArray := prog_2_method_3_code
def yX0_addBytes : MethodName := ⟨RX0, "addBytes", "(JI)I"⟩
abbrev cX0_takeSteps : ByteArray := prog_2_method_4_code
def yX0_takeSteps : MethodName := ⟨RX0, "takeSteps", "(I[II)V"⟩
abbrev cX0_forget : ByteArray := prog_2_method_5_code
def yX0_forget : MethodName := ⟨RX0, "forget", "(I)Z"⟩
abbrev cX0_give : ByteArray := prog_2_method_6_code
def yX0_give : MethodName := ⟨RX0, "give", "(IIII)I"⟩
abbrev cX0_workOut : ByteArray := prog_2_method_7_code
def yX0_workOut : MethodName := ⟨RX0, "workOut", "([IIIII)I"⟩
abbrev cX0_named : ByteArray := prog_2_method_8_code
def yX0_named : MethodName := ⟨RX0, "named", "(IIII)I"⟩
abbrev cX0_joined : ByteArray := prog_2_method_9_code
def yX0_joined : MethodName := ⟨RX0, "joined", "(III)I"⟩
def RX1 : String := "StreetNumbers$Reader"
def TX1 : u_T := fun k => match k with
  | 0 => ("StreetNumbers$Reader", "steps", "[I", true)
  | 1 => ("StreetNumbers$Reader", "stepped", "I", false)
  | 2 => ("StreetNumbers$Reader", "bytes", "[I", true)
  | 3 => ("StreetNumbers$Reader", "size", "I", false)
  | 4 => ("StreetNumbers$Reader", "at", "I", false)
  | _ => ("StreetNumbers$Reader", "names", "I", false)
def tyX1 : Nat → FieldType := fun k => match k with
  | 0 => .array .int
  | 1 => .int
  | 2 => .array .int
  | 3 => .int
  | 4 => .int
  | _ => .int
abbrev wsX10 : List Cond := u_ws RX1 TX1 6
theorem nmX1 : ∀ a, a < 6 → ∀ b, b < 6 → a ≠ b → (TX1 a).2.1 ≠ (TX1 b).2.1 := by decide +kernel
theorem tyX1_ok : ∀ k, k < 6 → parseFieldDescriptor (TX1 k).2.2.1 = some (tyX1 k) := by decide +kernel
abbrev cX1_init : ByteArray := prog_3_method_1_code
def yX1_init : MethodName := ⟨RX1, "<init>", "()V"⟩
abbrev cX1_faultOf : ByteArray := prog_3_method_2_code
def yX1_faultOf : MethodName := ⟨RX1, "faultOf", "([III)I"⟩
abbrev cX1_sign : ByteArray := prog_3_method_3_code
def yX1_sign : MethodName := ⟨RX1, "sign", "()I"⟩
abbrev cX1_write : ByteArray := prog_3_method_4_code
def yX1_write : MethodName := ⟨RX1, "write", "(I)V"⟩
abbrev cX1_reads : ByteArray := prog_3_method_5_code
def yX1_reads : MethodName := ⟨RX1, "reads", "(II)Z"⟩
abbrev cX1_joins : ByteArray := prog_3_method_6_code
def yX1_joins : MethodName := ⟨RX1, "joins", "(II)Z"⟩
abbrev cX1_readsSmallest : ByteArray := prog_3_method_7_code
def yX1_readsSmallest : MethodName := ⟨RX1, "readsSmallest", "(I)Z"⟩
abbrev cX1_readsOpened : ByteArray := prog_3_method_8_code
def yX1_readsOpened : MethodName := ⟨RX1, "readsOpened", "(II)Z"⟩
abbrev cX1_readsName : ByteArray := prog_3_method_9_code
def yX1_readsName : MethodName := ⟨RX1, "readsName", "(I)Z"⟩
abbrev cX1_readNumber : ByteArray := prog_3_method_10_code
def yX1_readNumber : MethodName := ⟨RX1, "readNumber", "()V"⟩
abbrev cX1_isDigit : ByteArray := prog_3_method_11_code
def yX1_isDigit : MethodName := ⟨RX1, "isDigit", "(I)Z"⟩
def RX2 : String := "StreetNumbers$Sheets"
def TX2 : u_T := fun k => match k with
  | 0 => ("StreetNumbers$Sheets", "rows", "[[I", true)
  | 1 => ("StreetNumbers$Sheets", "widths", "[I", true)
  | _ => ("StreetNumbers$Sheets", "sizes", "[I", true)
def tyX2 : Nat → FieldType := fun k => match k with
  | 0 => .array (.array .int)
  | 1 => .array .int
  | _ => .array .int
abbrev wsX20 : List Cond := u_ws RX2 TX2 3
theorem nmX2 : ∀ a, a < 3 → ∀ b, b < 3 → a ≠ b → (TX2 a).2.1 ≠ (TX2 b).2.1 := by decide +kernel
theorem tyX2_ok : ∀ k, k < 3 → parseFieldDescriptor (TX2 k).2.2.1 = some (tyX2 k) := by decide +kernel
abbrev cX2_init : ByteArray := prog_4_method_1_code
def yX2_init : MethodName := ⟨RX2, "<init>", "()V"⟩
abbrev cX2_bits : ByteArray := prog_4_method_2_code
def yX2_bits : MethodName := ⟨RX2, "bits", "(I)I"⟩
abbrev cX2_isMissing : ByteArray := prog_4_method_3_code
def yX2_isMissing : MethodName := ⟨RX2, "isMissing", "(I)Z"⟩
abbrev cX2_size : ByteArray := prog_4_method_4_code
def yX2_size : MethodName := ⟨RX2, "size", "(I)I"⟩
abbrev cX2_holds : ByteArray := prog_4_method_5_code
def yX2_holds : MethodName := ⟨RX2, "holds", "(III)Z"⟩
abbrev cX2_number : ByteArray := prog_4_method_6_code
def yX2_number : MethodName := ⟨RX2, "number", "(II)I"⟩
abbrev cX2_renew : ByteArray := prog_4_method_7_code
def yX2_renew : MethodName := ⟨RX2, "renew", "(III)V"⟩
abbrev cX2_write : ByteArray := prog_4_method_8_code
def yX2_write : MethodName := ⟨RX2, "write", "(III)V"⟩
abbrev cX2_copy : ByteArray := prog_4_method_9_code
def yX2_copy : MethodName := ⟨RX2, "copy", "(IIIII)V"⟩
abbrev cX2_lowest : ByteArray := prog_4_method_10_code
def yX2_lowest : MethodName := ⟨RX2, "lowest", "(II)I"⟩
def RX3 : String := "StreetNumbers$Street"
def TX3 : u_T := fun k => match k with
  | 0 => ("StreetNumbers$Street", "laws", "LStreetNumbers$Laws;", true)
  | 1 => ("StreetNumbers$Street", "houses", "I", false)
  | 2 => ("StreetNumbers$Street", "year", "I", false)
  | 3 => ("StreetNumbers$Street", "done", "I", false)
  | 4 => ("StreetNumbers$Street", "z", "I", false)
  | 5 => ("StreetNumbers$Street", "waits", "I", false)
  | 6 => ("StreetNumbers$Street", "kinds", "[I", true)
  | 7 => ("StreetNumbers$Street", "extras", "[I", true)
  | 8 => ("StreetNumbers$Street", "signs", "[I", true)
  | 9 => ("StreetNumbers$Street", "row", "[I", true)
  | _ => ("StreetNumbers$Street", "waiting", "[I", true)
def tyX3 : Nat → FieldType := fun k => match k with
  | 0 => .object "StreetNumbers$Laws"
  | 1 => .int
  | 2 => .int
  | 3 => .int
  | 4 => .int
  | 5 => .int
  | 6 => .array .int
  | 7 => .array .int
  | 8 => .array .int
  | 9 => .array .int
  | _ => .array .int
abbrev wsX30 : List Cond := u_ws RX3 TX3 11
theorem nmX3 : ∀ a, a < 11 → ∀ b, b < 11 → a ≠ b → (TX3 a).2.1 ≠ (TX3 b).2.1 := by decide +kernel
theorem tyX3_ok : ∀ k, k < 11 → parseFieldDescriptor (TX3 k).2.2.1 = some (tyX3 k) := by decide +kernel
abbrev cX3_init : ByteArray := prog_5_method_1_code
def yX3_init : MethodName := ⟨RX3, "<init>", "()V"⟩
abbrev cX3_becomeLike : ByteArray := prog_5_method_2_code
def yX3_becomeLike : MethodName := ⟨RX3, "becomeLike", "(LStreetNumbers$Street;)V"⟩
abbrev cX3_hasHouse : ByteArray := prog_5_method_3_code
def yX3_hasHouse : MethodName := ⟨RX3, "hasHouse", "(I)Z"⟩
abbrev cX3_kind : ByteArray := prog_5_method_4_code
def yX3_kind : MethodName := ⟨RX3, "kind", "(I)I"⟩
abbrev cX3_m : ByteArray := prog_5_method_5_code
def yX3_m : MethodName := ⟨RX3, "m", "(I)I"⟩
abbrev cX3_plate : ByteArray := prog_5_method_6_code
def yX3_plate : MethodName := ⟨RX3, "plate", "(I)I"⟩
abbrev cX3_houseAt : ByteArray := prog_5_method_7_code
def yX3_houseAt : MethodName := ⟨RX3, "houseAt", "(I)I"⟩
abbrev cX3_plateAt : ByteArray := prog_5_method_8_code
def yX3_plateAt : MethodName := ⟨RX3, "plateAt", "(I)I"⟩
abbrev cX3_placeOf : ByteArray := prog_5_method_9_code
def yX3_placeOf : MethodName := ⟨RX3, "placeOf", "(I)I"⟩
abbrev cX3_setKind : ByteArray := prog_5_method_10_code
def yX3_setKind : MethodName := ⟨RX3, "setKind", "(III)V"⟩
abbrev cX3_setPlate : ByteArray := prog_5_method_11_code
def yX3_setPlate : MethodName := ⟨RX3, "setPlate", "(II)V"⟩
abbrev cX3_addHouse : ByteArray := prog_5_method_12_code
def yX3_addHouse : MethodName := ⟨RX3, "addHouse", "(IIII)I"⟩
abbrev cX3_addWaiting : ByteArray := prog_5_method_13_code
def yX3_addWaiting : MethodName := ⟨RX3, "addWaiting", "(I)I"⟩
abbrev cX3_waitingAt : ByteArray := prog_5_method_14_code
def yX3_waitingAt : MethodName := ⟨RX3, "waitingAt", "(I)I"⟩
abbrev cX3_minds : ByteArray := prog_5_method_15_code
def yX3_minds : MethodName := ⟨RX3, "minds", "(II)I"⟩
abbrev cX3_villaMinds : ByteArray := prog_5_method_16_code
def yX3_villaMinds : MethodName := ⟨RX3, "villaMinds", "(II)I"⟩
abbrev cX3_shopMinds : ByteArray := prog_5_method_17_code
def yX3_shopMinds : MethodName := ⟨RX3, "shopMinds", "(II)I"⟩
abbrev cX3_front : ByteArray := prog_5_method_18_code
def yX3_front : MethodName := ⟨RX3, "front", "(I)I"⟩
abbrev cX3_harmTo : ByteArray := prog_5_method_19_code
def yX3_harmTo : MethodName := ⟨RX3, "harmTo", "(II)I"⟩
abbrev cX3_yardsAt : ByteArray := prog_5_method_20_code
def yX3_yardsAt : MethodName := ⟨RX3, "yardsAt", "(I)I"⟩
abbrev cX3_yardsAhead : ByteArray := prog_5_method_21_code
def yX3_yardsAhead : MethodName := ⟨RX3, "yardsAhead", "(I)I"⟩
abbrev cX3_getsNumber : ByteArray := prog_5_method_22_code
def yX3_getsNumber : MethodName := ⟨RX3, "getsNumber", "(II)I"⟩
abbrev cX3_renumberBy : ByteArray := prog_5_method_23_code
def yX3_renumberBy : MethodName := ⟨RX3, "renumberBy", "(I)I"⟩
abbrev cX3_harmOfGap : ByteArray := prog_5_method_24_code
def yX3_harmOfGap : MethodName := ⟨RX3, "harmOfGap", "(I)I"⟩
abbrev cX3_numberBetween : ByteArray := prog_5_method_25_code
def yX3_numberBetween : MethodName := ⟨RX3, "numberBetween", "(I)I"⟩
abbrev cX3_draw : ByteArray := prog_5_method_26_code
def yX3_draw : MethodName := ⟨RX3, "draw", "()I"⟩
abbrev cX3_passYearByDraws : ByteArray := prog_5_method_27_code
def yX3_passYearByDraws : MethodName := ⟨RX3, "passYearByDraws", "()I"⟩
def RX4 : String := "StreetNumbers$Thoughts"
def TX4 : u_T := fun k => match k with
  | 0 => ("StreetNumbers$Thoughts", "looked", "I", false)
  | 1 => ("StreetNumbers$Thoughts", "sums", "[[I", true)
  | 2 => ("StreetNumbers$Thoughts", "lasts", "[[I", true)
  | 3 => ("StreetNumbers$Thoughts", "rising", "[I", true)
  | _ => ("StreetNumbers$Thoughts", "lengths", "[I", true)
def tyX4 : Nat → FieldType := fun k => match k with
  | 0 => .int
  | 1 => .array (.array .int)
  | 2 => .array (.array .int)
  | 3 => .array .int
  | _ => .array .int
abbrev wsX40 : List Cond := u_ws RX4 TX4 5
theorem nmX4 : ∀ a, a < 5 → ∀ b, b < 5 → a ≠ b → (TX4 a).2.1 ≠ (TX4 b).2.1 := by decide +kernel
theorem tyX4_ok : ∀ k, k < 5 → parseFieldDescriptor (TX4 k).2.2.1 = some (tyX4 k) := by decide +kernel
abbrev cX4_init : ByteArray := prog_6_method_1_code
def yX4_init : MethodName := ⟨RX4, "<init>", "()V"⟩
abbrev cX4_leastRising : ByteArray := prog_6_method_2_code
def yX4_leastRising : MethodName := ⟨RX4, "leastRising", "(LStreetNumbers$Street;)I"⟩
abbrev cX4_risingOf : ByteArray := prog_6_method_3_code
def yX4_risingOf : MethodName := ⟨RX4, "risingOf", "(I)I"⟩
abbrev cX4_sumUpTo : ByteArray := prog_6_method_4_code
def yX4_sumUpTo : MethodName := ⟨RX4, "sumUpTo", "(LStreetNumbers$Street;I)V"⟩
abbrev cX4_longestRising : ByteArray := prog_6_method_5_code
def yX4_longestRising : MethodName := ⟨RX4, "longestRising", "(LStreetNumbers$Street;)I"⟩
abbrev cX4_placeFound : ByteArray := prog_6_method_6_code
def yX4_placeFound : MethodName := ⟨RX4, "placeFound", "(LStreetNumbers$Street;I)I"⟩
abbrev cX4_housesFound : ByteArray := prog_6_method_7_code
def yX4_housesFound : MethodName := ⟨RX4, "housesFound", "(LStreetNumbers$Street;)I"⟩
abbrev cX4_commonDivisor : ByteArray := prog_6_method_8_code
def yX4_commonDivisor : MethodName := ⟨RX4, "commonDivisor", "(II)I"⟩
def RX5 : String := "StreetNumbers$Voices"
def TX5 : u_T := fun k => match k with
  | 0 => ("StreetNumbers$Voices", "parted", "Z", false)
  | 1 => ("StreetNumbers$Voices", "traced", "I", false)
  | 2 => ("StreetNumbers$Voices", "trace", "[I", true)
  | 3 => ("StreetNumbers$Voices", "kind", "I", false)
  | 4 => ("StreetNumbers$Voices", "k", "I", false)
  | _ => ("StreetNumbers$Voices", "m", "I", false)
def tyX5 : Nat → FieldType := fun k => match k with
  | 0 => .boolean
  | 1 => .int
  | 2 => .array .int
  | 3 => .int
  | 4 => .int
  | _ => .int
abbrev wsX50 : List Cond := u_ws RX5 TX5 6
theorem nmX5 : ∀ a, a < 6 → ∀ b, b < 6 → a ≠ b → (TX5 a).2.1 ≠ (TX5 b).2.1 := by decide +kernel
theorem tyX5_ok : ∀ k, k < 6 → parseFieldDescriptor (TX5 k).2.2.1 = some (tyX5 k) := by decide +kernel
abbrev cX5_init : ByteArray := prog_7_method_1_code
def yX5_init : MethodName := ⟨RX5, "<init>", "()V"⟩
abbrev cX5_answerOf : ByteArray := prog_7_method_2_code
def yX5_answerOf : MethodName := ⟨RX5, "answerOf", "(IIIII)I"⟩
abbrev cX5_bodyAt : ByteArray := prog_7_method_3_code
def yX5_bodyAt : MethodName := ⟨RX5, "bodyAt", "(I)I"⟩
abbrev cX5_ownBody : ByteArray := prog_7_method_4_code
def yX5_ownBody : MethodName := ⟨RX5, "ownBody", "(II)I"⟩
abbrev cX5_speak : ByteArray := prog_7_method_5_code
def yX5_speak : MethodName := ⟨RX5, "speak", "(IIII)I"⟩
abbrev cX5_begin : ByteArray := prog_7_method_6_code
def yX5_begin : MethodName := ⟨RX5, "begin", "(I)V"⟩
abbrev cX5_own : ByteArray := prog_7_method_7_code
def yX5_own : MethodName := ⟨RX5, "own", "(III)I"⟩
abbrev cX5_above : ByteArray := prog_7_method_8_code
def yX5_above : MethodName := ⟨RX5, "above", "(IIII)I"⟩
abbrev cX5_work : ByteArray := prog_7_method_9_code
def yX5_work : MethodName := ⟨RX5, "work", "(III)I"⟩
abbrev cX5_partedBy : ByteArray := prog_7_method_10_code
def yX5_partedBy : MethodName := ⟨RX5, "partedBy", "(II)I"⟩
def RX6 : String := "StreetNumbers"
def TX6 : u_T := fun k => match k with
  | 0 => ("StreetNumbers", "street", "LStreetNumbers$Street;", true)
  | 1 => ("StreetNumbers", "kept", "LStreetNumbers$Street;", true)
  | 2 => ("StreetNumbers", "reader", "LStreetNumbers$Reader;", true)
  | 3 => ("StreetNumbers", "thoughts", "LStreetNumbers$Thoughts;", true)
  | 4 => ("StreetNumbers", "voices", "LStreetNumbers$Voices;", true)
  | 5 => ("StreetNumbers", "sheets", "LStreetNumbers$Sheets;", true)
  | 6 => ("StreetNumbers", "errors", "[I", true)
  | _ => ("StreetNumbers", "images", "I", false)
def tyX6 : Nat → FieldType := fun k => match k with
  | 0 => .object "StreetNumbers$Street"
  | 1 => .object "StreetNumbers$Street"
  | 2 => .object "StreetNumbers$Reader"
  | 3 => .object "StreetNumbers$Thoughts"
  | 4 => .object "StreetNumbers$Voices"
  | 5 => .object "StreetNumbers$Sheets"
  | 6 => .array .int
  | _ => .int
abbrev wsX60 : List Cond := u_ws RX6 TX6 8
theorem nmX6 : ∀ a, a < 8 → ∀ b, b < 8 → a ≠ b → (TX6 a).2.1 ≠ (TX6 b).2.1 := by decide +kernel
theorem tyX6_ok : ∀ k, k < 8 → parseFieldDescriptor (TX6 k).2.2.1 = some (tyX6 k) := by decide +kernel
abbrev cX6_init : ByteArray := prog_1_method_1_code
def yX6_init : MethodName := ⟨RX6, "<init>", "()V"⟩
abbrev cX6_build : ByteArray := prog_1_method_2_code
def yX6_build : MethodName := ⟨RX6, "build", "(III)I"⟩
abbrev cX6_houseIs : ByteArray := prog_1_method_3_code
def yX6_houseIs : MethodName := ⟨RX6, "houseIs", "(II)I"⟩
abbrev cX6_standing : ByteArray := prog_1_method_4_code
def yX6_standing : MethodName := ⟨RX6, "standing", "(I)I"⟩
abbrev cX6_become : ByteArray := prog_1_method_5_code
def yX6_become : MethodName := ⟨RX6, "become", "(II)I"⟩
abbrev cX6_as : ByteArray := prog_1_method_6_code
def yX6_as : MethodName := ⟨RX6, "as", "(II)I"⟩
abbrev cX6_harm : ByteArray := prog_1_method_7_code
def yX6_harm : MethodName := ⟨RX6, "harm", "(II)I"⟩
abbrev cX6_renames : ByteArray := prog_1_method_8_code
def yX6_renames : MethodName := ⟨RX6, "renames", "(II)I"⟩
abbrev cX6_year : ByteArray := prog_1_method_9_code
def yX6_year : MethodName := ⟨RX6, "year", "(I)I"⟩
abbrev cX6_feed : ByteArray := prog_1_method_10_code
def yX6_feed : MethodName := ⟨RX6, "feed", "(JI)I"⟩
abbrev cX6_text : ByteArray := prog_1_method_11_code
def yX6_text : MethodName := ⟨RX6, "text", "(I)I"⟩
abbrev cX6_untell : ByteArray := prog_1_method_12_code
def yX6_untell : MethodName := ⟨RX6, "untell", "(I)I"⟩
abbrev cX6_law : ByteArray := prog_1_method_13_code
def yX6_law : MethodName := ⟨RX6, "law", "(IIII)I"⟩
abbrev cX6_renumber : ByteArray := prog_1_method_14_code
def yX6_renumber : MethodName := ⟨RX6, "renumber", "(I)I"⟩
abbrev cX6_would : ByteArray := prog_1_method_15_code
def yX6_would : MethodName := ⟨RX6, "would", "(I)I"⟩
abbrev cX6_gap : ByteArray := prog_1_method_16_code
def yX6_gap : MethodName := ⟨RX6, "gap", "(I)I"⟩
abbrev cX6_least : ByteArray := prog_1_method_17_code
def yX6_least : MethodName := ⟨RX6, "least", "(I)I"⟩
abbrev cX6_between : ByteArray := prog_1_method_18_code
def yX6_between : MethodName := ⟨RX6, "between", "(I)I"⟩
abbrev cX6_fewest : ByteArray := prog_1_method_19_code
def yX6_fewest : MethodName := ⟨RX6, "fewest", "()I"⟩
abbrev cX6_search : ByteArray := prog_1_method_20_code
def yX6_search : MethodName := ⟨RX6, "search", "(II)I"⟩
abbrev cX6_odds : ByteArray := prog_1_method_21_code
def yX6_odds : MethodName := ⟨RX6, "odds", "(I)I"⟩
abbrev cX6_order : ByteArray := prog_1_method_22_code
def yX6_order : MethodName := ⟨RX6, "order", "()I"⟩
abbrev cX6_fits : ByteArray := prog_1_method_23_code
def yX6_fits : MethodName := ⟨RX6, "fits", "(II)I"⟩
abbrev cX6_loose : ByteArray := prog_1_method_24_code
def yX6_loose : MethodName := ⟨RX6, "loose", "(I)I"⟩
abbrev cX6_seed : ByteArray := prog_1_method_25_code
def yX6_seed : MethodName := ⟨RX6, "seed", "(I)I"⟩
abbrev cX6_voice : ByteArray := prog_1_method_26_code
def yX6_voice : MethodName := ⟨RX6, "voice", "(III)I"⟩
abbrev cX6_body : ByteArray := prog_1_method_27_code
def yX6_body : MethodName := ⟨RX6, "body", "(I)I"⟩
abbrev cX6_sheet : ByteArray := prog_1_method_28_code
def yX6_sheet : MethodName := ⟨RX6, "sheet", "(III)I"⟩
abbrev cX6_put : ByteArray := prog_1_method_29_code
def yX6_put : MethodName := ⟨RX6, "put", "(III)I"⟩
abbrev cX6_move : ByteArray := prog_1_method_30_code
def yX6_move : MethodName := ⟨RX6, "move", "(IIIII)I"⟩
abbrev cX6_plates : ByteArray := prog_1_method_31_code
def yX6_plates : MethodName := ⟨RX6, "plates", "(I)I"⟩
abbrev cX6_judge : ByteArray := prog_1_method_32_code
def yX6_judge : MethodName := ⟨RX6, "judge", "(I)I"⟩
abbrev cX6_image : ByteArray := prog_1_method_33_code
def yX6_image : MethodName := ⟨RX6, "image", "()I"⟩
abbrev cX6_restore : ByteArray := prog_1_method_34_code
def yX6_restore : MethodName := ⟨RX6, "restore", "()I"⟩
abbrev cX6_tell : ByteArray := prog_1_method_35_code
def yX6_tell : MethodName := ⟨RX6, "tell", "(I)I"⟩
abbrev cX6_check : ByteArray := prog_1_method_36_code
def yX6_check : MethodName := ⟨RX6, "check", "()I"⟩
abbrev cX6_count : ByteArray := prog_1_method_37_code
def yX6_count : MethodName := ⟨RX6, "count", "(I)I"⟩
abbrev cX6_told : ByteArray := prog_1_method_38_code
def yX6_told : MethodName := ⟨RX6, "told", "(I)I"⟩
abbrev cX6_failing : ByteArray := prog_1_method_39_code
def yX6_failing : MethodName := ⟨RX6, "failing", "(I)I"⟩
abbrev cX6_tellsHarmOfGap : ByteArray := prog_1_method_40_code
def yX6_tellsHarmOfGap : MethodName := ⟨RX6, "tellsHarmOfGap", "(II)Z"⟩
abbrev cX6_isKindWithM : ByteArray := prog_1_method_41_code
def yX6_isKindWithM : MethodName := ⟨RX6, "isKindWithM", "(I)Z"⟩
abbrev cX6_isPlate : ByteArray := prog_1_method_42_code
def yX6_isPlate : MethodName := ⟨RX6, "isPlate", "(I)Z"⟩
abbrev cX6_isUse : ByteArray := prog_1_method_43_code
def yX6_isUse : MethodName := ⟨RX6, "isUse", "(I)Z"⟩
abbrev cX6_isSheet : ByteArray := prog_1_method_44_code
def yX6_isSheet : MethodName := ⟨RX6, "isSheet", "(I)Z"⟩
abbrev cX6_isOrIsUnder : ByteArray := prog_1_method_45_code
def yX6_isOrIsUnder : MethodName := ⟨RX6, "isOrIsUnder", "(II)Z"⟩
abbrev cX6_kindAbove : ByteArray := prog_1_method_46_code
def yX6_kindAbove : MethodName := ⟨RX6, "kindAbove", "(I)I"⟩
abbrev cX6_quotient : ByteArray := prog_1_method_47_code
def yX6_quotient : MethodName := ⟨RX6, "quotient", "(II)I"⟩
abbrev cX6_rest : ByteArray := prog_1_method_48_code
def yX6_rest : MethodName := ⟨RX6, "rest", "(II)I"⟩
abbrev cX6_held : ByteArray := prog_1_method_49_code
def yX6_held : MethodName := ⟨RX6, "held", "(III)I"⟩
def RX7 : String := "StreetNumbersModel"
def TX7 : u_T := fun k => match k with
  | 0 => ("StreetNumbersModel", "s", "[I", true)
  | 1 => ("StreetNumbersModel", "kept", "[I", true)
  | 2 => ("StreetNumbersModel", "images", "I", false)
  | 3 => ("StreetNumbersModel", "errors", "[I", true)
  | 4 => ("StreetNumbersModel", "at", "I", false)
  | 5 => ("StreetNumbersModel", "open", "I", false)
  | 6 => ("StreetNumbersModel", "steps", "I", false)
  | 7 => ("StreetNumbersModel", "use", "I", false)
  | 8 => ("StreetNumbersModel", "step", "[I", true)
  | 9 => ("StreetNumbersModel", "named", "[I", true)
  | 10 => ("StreetNumbersModel", "pile", "[I", true)
  | 11 => ("StreetNumbersModel", "leastBy", "[I", true)
  | 12 => ("StreetNumbersModel", "rising", "[I", true)
  | 13 => ("StreetNumbersModel", "looked", "I", false)
  | 14 => ("StreetNumbersModel", "traced", "I", false)
  | 15 => ("StreetNumbersModel", "trace", "[I", true)
  | 16 => ("StreetNumbersModel", "speaks", "I", false)
  | 17 => ("StreetNumbersModel", "isParted", "Z", false)
  | 18 => ("StreetNumbersModel", "bits", "[I", true)
  | 19 => ("StreetNumbersModel", "sizes", "[I", true)
  | 20 => ("StreetNumbersModel", "number", "[I", true)
  | _ => ("StreetNumbersModel", "aside", "[I", true)
def tyX7 : Nat → FieldType := fun k => match k with
  | 0 => .array .int
  | 1 => .array .int
  | 2 => .int
  | 3 => .array .int
  | 4 => .int
  | 5 => .int
  | 6 => .int
  | 7 => .int
  | 8 => .array .int
  | 9 => .array .int
  | 10 => .array .int
  | 11 => .array .int
  | 12 => .array .int
  | 13 => .int
  | 14 => .int
  | 15 => .array .int
  | 16 => .int
  | 17 => .boolean
  | 18 => .array .int
  | 19 => .array .int
  | 20 => .array .int
  | _ => .array .int
abbrev wsX70 : List Cond := u_ws RX7 TX7 22
theorem nmX7 : ∀ a, a < 22 → ∀ b, b < 22 → a ≠ b → (TX7 a).2.1 ≠ (TX7 b).2.1 := by decide +kernel
theorem tyX7_ok : ∀ k, k < 22 → parseFieldDescriptor (TX7 k).2.2.1 = some (tyX7 k) := by decide +kernel
abbrev cX7_init : ByteArray := prog_9_method_1_code
def yX7_init : MethodName := ⟨RX7, "<init>", "()V"⟩
abbrev cX7_error : ByteArray := prog_9_method_2_code
def yX7_error : MethodName := ⟨RX7, "error", "(I)I"⟩
abbrev cX7_in : ByteArray := prog_9_method_3_code
def yX7_in : MethodName := ⟨RX7, "in", "(III)Z"⟩
abbrev cX7_held : ByteArray := prog_9_method_4_code
def yX7_held : MethodName := ⟨RX7, "held", "(III)I"⟩
abbrev cX7_copyAll : ByteArray := prog_9_method_5_code
def yX7_copyAll : MethodName := ⟨RX7, "copyAll", "([I[I)V"⟩
abbrev cX7_isHouse : ByteArray := prog_9_method_6_code
def yX7_isHouse : MethodName := ⟨RX7, "isHouse", "(I)Z"⟩
abbrev cX7_isNumber : ByteArray := prog_9_method_7_code
def yX7_isNumber : MethodName := ⟨RX7, "isNumber", "(I)Z"⟩
abbrev cX7_its : ByteArray := prog_9_method_8_code
def yX7_its : MethodName := ⟨RX7, "its", "(II)I"⟩
abbrev cX7_lays1 : ByteArray := prog_9_method_9_code
def yX7_lays1 : MethodName := ⟨RX7, "lays1", "(III)V"⟩
abbrev cX7_change1 : ByteArray := prog_9_method_10_code
def yX7_change1 : MethodName := ⟨RX7, "change1", "(II)I"⟩
abbrev cX7_at1 : ByteArray := prog_9_method_11_code
def yX7_at1 : MethodName := ⟨RX7, "at1", "(I)I"⟩
abbrev cX7_feed : ByteArray := prog_9_method_12_code
def yX7_feed : MethodName := ⟨RX7, "feed", "(JI)I"⟩
abbrev cX7_look : ByteArray := prog_9_method_13_code
def yX7_look : MethodName := ⟨RX7, "look", "()I"⟩
abbrev cX7_isName : ByteArray := prog_9_method_14_code
def yX7_isName : MethodName := ⟨RX7, "isName", "(I)Z"⟩
abbrev cX7_step1 : ByteArray := prog_9_method_15_code
def yX7_step1 : MethodName := ⟨RX7, "step1", "(II)V"⟩
abbrev cX7_whole : ByteArray := prog_9_method_16_code
def yX7_whole : MethodName := ⟨RX7, "whole", "()Z"⟩
abbrev cX7_both : ByteArray := prog_9_method_17_code
def yX7_both : MethodName := ⟨RX7, "both", "()Z"⟩
abbrev cX7_compared : ByteArray := prog_9_method_18_code
def yX7_compared : MethodName := ⟨RX7, "compared", "()Z"⟩
abbrev cX7_sum : ByteArray := prog_9_method_19_code
def yX7_sum : MethodName := ⟨RX7, "sum", "()Z"⟩
abbrev cX7_product : ByteArray := prog_9_method_20_code
def yX7_product : MethodName := ⟨RX7, "product", "()Z"⟩
abbrev cX7_opens : ByteArray := prog_9_method_21_code
def yX7_opens : MethodName := ⟨RX7, "opens", "()Z"⟩
abbrev cX7_one : ByteArray := prog_9_method_22_code
def yX7_one : MethodName := ⟨RX7, "one", "()Z"⟩
abbrev cX7_hasText : ByteArray := prog_9_method_23_code
def yX7_hasText : MethodName := ⟨RX7, "hasText", "(I)Z"⟩
abbrev cX7_text : ByteArray := prog_9_method_24_code
def yX7_text : MethodName := ⟨RX7, "text", "(I)I"⟩
abbrev cX7_untell : ByteArray := prog_9_method_25_code
def yX7_untell : MethodName := ⟨RX7, "untell", "(I)I"⟩
abbrev cX7_joined : ByteArray := prog_9_method_26_code
def yX7_joined : MethodName := ⟨RX7, "joined", "(III)I"⟩
abbrev cX7_worked : ByteArray := prog_9_method_27_code
def yX7_worked : MethodName := ⟨RX7, "worked", "(I)I"⟩
abbrev cX7_mindsOf : ByteArray := prog_9_method_28_code
def yX7_mindsOf : MethodName := ⟨RX7, "mindsOf", "(II)I"⟩
abbrev cX7_frontOf : ByteArray := prog_9_method_29_code
def yX7_frontOf : MethodName := ⟨RX7, "frontOf", "(I)I"⟩
abbrev cX7_harmTold : ByteArray := prog_9_method_30_code
def yX7_harmTold : MethodName := ⟨RX7, "harmTold", "(III)I"⟩
abbrev cX7_yardsTold : ByteArray := prog_9_method_31_code
def yX7_yardsTold : MethodName := ⟨RX7, "yardsTold", "(III)I"⟩
abbrev cX7_harmOf : ByteArray := prog_9_method_32_code
def yX7_harmOf : MethodName := ⟨RX7, "harmOf", "(II)I"⟩
abbrev cX7_yardsOf : ByteArray := prog_9_method_33_code
def yX7_yardsOf : MethodName := ⟨RX7, "yardsOf", "(I)I"⟩
abbrev cX7_yardsAhead : ByteArray := prog_9_method_34_code
def yX7_yardsAhead : MethodName := ⟨RX7, "yardsAhead", "(I)I"⟩
abbrev cX7_isKind : ByteArray := prog_9_method_35_code
def yX7_isKind : MethodName := ⟨RX7, "isKind", "(I)Z"⟩
abbrev cX7_comes : ByteArray := prog_9_method_36_code
def yX7_comes : MethodName := ⟨RX7, "comes", "(III)V"⟩
abbrev cX7_build : ByteArray := prog_9_method_37_code
def yX7_build : MethodName := ⟨RX7, "build", "(III)I"⟩
abbrev cX7_houseIs : ByteArray := prog_9_method_38_code
def yX7_houseIs : MethodName := ⟨RX7, "houseIs", "(II)I"⟩
abbrev cX7_standing : ByteArray := prog_9_method_39_code
def yX7_standing : MethodName := ⟨RX7, "standing", "(I)I"⟩
abbrev cX7_become : ByteArray := prog_9_method_40_code
def yX7_become : MethodName := ⟨RX7, "become", "(II)I"⟩
abbrev cX7_as : ByteArray := prog_9_method_41_code
def yX7_as : MethodName := ⟨RX7, "as", "(II)I"⟩
abbrev cX7_harm : ByteArray := prog_9_method_42_code
def yX7_harm : MethodName := ⟨RX7, "harm", "(II)I"⟩
abbrev cX7_gets : ByteArray := prog_9_method_43_code
def yX7_gets : MethodName := ⟨RX7, "gets", "(II)I"⟩
abbrev cX7_renames : ByteArray := prog_9_method_44_code
def yX7_renames : MethodName := ⟨RX7, "renames", "(II)I"⟩
abbrev cX7_year : ByteArray := prog_9_method_45_code
def yX7_year : MethodName := ⟨RX7, "year", "(I)I"⟩
abbrev cX7_law : ByteArray := prog_9_method_46_code
def yX7_law : MethodName := ⟨RX7, "law", "(IIII)I"⟩
abbrev cX7_isGap : ByteArray := prog_9_method_47_code
def yX7_isGap : MethodName := ⟨RX7, "isGap", "(I)Z"⟩
abbrev cX7_renumbers : ByteArray := prog_9_method_48_code
def yX7_renumbers : MethodName := ⟨RX7, "renumbers", "(I)I"⟩
abbrev cX7_wouldBe : ByteArray := prog_9_method_49_code
def yX7_wouldBe : MethodName := ⟨RX7, "wouldBe", "(I)I"⟩
abbrev cX7_renumber : ByteArray := prog_9_method_50_code
def yX7_renumber : MethodName := ⟨RX7, "renumber", "(I)I"⟩
abbrev cX7_would : ByteArray := prog_9_method_51_code
def yX7_would : MethodName := ⟨RX7, "would", "(I)I"⟩
abbrev cX7_gap : ByteArray := prog_9_method_52_code
def yX7_gap : MethodName := ⟨RX7, "gap", "(I)I"⟩
abbrev cX7_findLeast : ByteArray := prog_9_method_53_code
def yX7_findLeast : MethodName := ⟨RX7, "findLeast", "()V"⟩
abbrev cX7_leastAt : ByteArray := prog_9_method_54_code
def yX7_leastAt : MethodName := ⟨RX7, "leastAt", "(II)I"⟩
abbrev cX7_least : ByteArray := prog_9_method_55_code
def yX7_least : MethodName := ⟨RX7, "least", "(I)I"⟩
abbrev cX7_goesBetween : ByteArray := prog_9_method_56_code
def yX7_goesBetween : MethodName := ⟨RX7, "goesBetween", "(I)I"⟩
abbrev cX7_between : ByteArray := prog_9_method_57_code
def yX7_between : MethodName := ⟨RX7, "between", "(I)I"⟩
abbrev cX7_longest : ByteArray := prog_9_method_58_code
def yX7_longest : MethodName := ⟨RX7, "longest", "()I"⟩
abbrev cX7_fewest : ByteArray := prog_9_method_59_code
def yX7_fewest : MethodName := ⟨RX7, "fewest", "()I"⟩
abbrev cX7_order : ByteArray := prog_9_method_60_code
def yX7_order : MethodName := ⟨RX7, "order", "()I"⟩
abbrev cX7_finds1 : ByteArray := prog_9_method_61_code
def yX7_finds1 : MethodName := ⟨RX7, "finds1", "(I)I"⟩
abbrev cX7_search : ByteArray := prog_9_method_62_code
def yX7_search : MethodName := ⟨RX7, "search", "(II)I"⟩
abbrev cX7_divisor : ByteArray := prog_9_method_63_code
def yX7_divisor : MethodName := ⟨RX7, "divisor", "(II)I"⟩
abbrev cX7_odds : ByteArray := prog_9_method_64_code
def yX7_odds : MethodName := ⟨RX7, "odds", "(I)I"⟩
abbrev cX7_harmsSo : ByteArray := prog_9_method_65_code
def yX7_harmsSo : MethodName := ⟨RX7, "harmsSo", "(II)Z"⟩
abbrev cX7_fits : ByteArray := prog_9_method_66_code
def yX7_fits : MethodName := ⟨RX7, "fits", "(II)I"⟩
abbrev cX7_draw : ByteArray := prog_9_method_67_code
def yX7_draw : MethodName := ⟨RX7, "draw", "()I"⟩
abbrev cX7_buildsOne : ByteArray := prog_9_method_68_code
def yX7_buildsOne : MethodName := ⟨RX7, "buildsOne", "()Z"⟩
abbrev cX7_loose : ByteArray := prog_9_method_69_code
def yX7_loose : MethodName := ⟨RX7, "loose", "(I)I"⟩
abbrev cX7_seed : ByteArray := prog_9_method_70_code
def yX7_seed : MethodName := ⟨RX7, "seed", "(I)I"⟩
abbrev cX7_starts : ByteArray := prog_9_method_71_code
def yX7_starts : MethodName := ⟨RX7, "starts", "(I)V"⟩
abbrev cX7_above : ByteArray := prog_9_method_72_code
def yX7_above : MethodName := ⟨RX7, "above", "(I)I"⟩
abbrev cX7_kindNow : ByteArray := prog_9_method_73_code
def yX7_kindNow : MethodName := ⟨RX7, "kindNow", "()I"⟩
abbrev cX7_mNow : ByteArray := prog_9_method_74_code
def yX7_mNow : MethodName := ⟨RX7, "mNow", "()I"⟩
abbrev cX7_ringsAs : ByteArray := prog_9_method_75_code
def yX7_ringsAs : MethodName := ⟨RX7, "ringsAs", "(II)I"⟩
abbrev cX7_answersAs : ByteArray := prog_9_method_76_code
def yX7_answersAs : MethodName := ⟨RX7, "answersAs", "(II)I"⟩
abbrev cX7_waitsAs : ByteArray := prog_9_method_77_code
def yX7_waitsAs : MethodName := ⟨RX7, "waitsAs", "(II)I"⟩
abbrev cX7_partsAs : ByteArray := prog_9_method_78_code
def yX7_partsAs : MethodName := ⟨RX7, "partsAs", "(II)I"⟩
abbrev cX7_voice : ByteArray := prog_9_method_79_code
def yX7_voice : MethodName := ⟨RX7, "voice", "(III)I"⟩
abbrev cX7_body : ByteArray := prog_9_method_80_code
def yX7_body : MethodName := ⟨RX7, "body", "(I)I"⟩
abbrev cX7_isSheet : ByteArray := prog_9_method_81_code
def yX7_isSheet : MethodName := ⟨RX7, "isSheet", "(I)Z"⟩
abbrev cX7_sheet : ByteArray := prog_9_method_82_code
def yX7_sheet : MethodName := ⟨RX7, "sheet", "(III)I"⟩
abbrev cX7_put : ByteArray := prog_9_method_83_code
def yX7_put : MethodName := ⟨RX7, "put", "(III)I"⟩
abbrev cX7_move : ByteArray := prog_9_method_84_code
def yX7_move : MethodName := ⟨RX7, "move", "(IIIII)I"⟩
abbrev cX7_lacks : ByteArray := prog_9_method_85_code
def yX7_lacks : MethodName := ⟨RX7, "lacks", "(I)I"⟩
abbrev cX7_plates : ByteArray := prog_9_method_86_code
def yX7_plates : MethodName := ⟨RX7, "plates", "(I)I"⟩
abbrev cX7_judge : ByteArray := prog_9_method_87_code
def yX7_judge : MethodName := ⟨RX7, "judge", "(I)I"⟩
abbrev cX7_image : ByteArray := prog_9_method_88_code
def yX7_image : MethodName := ⟨RX7, "image", "()I"⟩
abbrev cX7_restore : ByteArray := prog_9_method_89_code
def yX7_restore : MethodName := ⟨RX7, "restore", "()I"⟩
abbrev cX7_tell : ByteArray := prog_9_method_90_code
def yX7_tell : MethodName := ⟨RX7, "tell", "(I)I"⟩
abbrev cX7_check : ByteArray := prog_9_method_91_code
def yX7_check : MethodName := ⟨RX7, "check", "()I"⟩
abbrev cX7_count : ByteArray := prog_9_method_92_code
def yX7_count : MethodName := ⟨RX7, "count", "(I)I"⟩
abbrev cX7_told : ByteArray := prog_9_method_93_code
def yX7_told : MethodName := ⟨RX7, "told", "(I)I"⟩
def RJ9 : String := "java/lang/Math"
def TJ9 : u_T := fun k => match k with
  | _ => ("", "", "", false)
def tyJ9 : Nat → FieldType := fun k => match k with
  | _ => .int
abbrev wsJ90 : List Cond := u_ws RJ9 TJ9 0
theorem nmJ9 : ∀ a, a < 0 → ∀ b, b < 0 → a ≠ b → (TJ9 a).2.1 ≠ (TJ9 b).2.1 := by decide +kernel
theorem tyJ9_ok : ∀ k, k < 0 → parseFieldDescriptor (TJ9 k).2.2.1 = some (tyJ9 k) := by decide +kernel
abbrev cJ9_abs_0f7a4 : ByteArray := prog_10_method_59_code
def yJ9_abs_0f7a4 : MethodName := ⟨RJ9, "abs", "(I)I"⟩
abbrev cJ9_max_7cf53 : ByteArray := prog_10_method_65_code
def yJ9_max_7cf53 : MethodName := ⟨RJ9, "max", "(II)I"⟩
abbrev cJ9_min_7cf53 : ByteArray := prog_10_method_69_code
def yJ9_min_7cf53 : MethodName := ⟨RJ9, "min", "(II)I"⟩
def RJ10 : String := "java/lang/System"
def TJ10 : u_T := fun k => match k with
  | _ => ("", "", "", false)
def tyJ10 : Nat → FieldType := fun k => match k with
  | _ => .int
abbrev wsJ100 : List Cond := u_ws RJ10 TJ10 0
theorem nmJ10 : ∀ a, a < 0 → ∀ b, b < 0 → a ≠ b → (TJ10 a).2.1 ≠ (TJ10 b).2.1 := by decide +kernel
theorem tyJ10_ok : ∀ k, k < 0 → parseFieldDescriptor (TJ10 k).2.2.1 = some (tyJ10 k) := by decide +kernel
def RL : String := "StreetNumbersLaw"
abbrev cL_law : ByteArray := code
def yL_law : MethodName := ⟨RL, "law", "([I)Z"⟩
end
section
theorem dX0_init_0 : decode cX0_init 0 = .ok (.aload_n 0, 1) := by decide +kernel
theorem dX0_init_1 : decode cX0_init 1 = .ok (.invokespecial 3, 3) := by decide +kernel
theorem dX0_init_4 : decode cX0_init 4 = .ok (.aload_n 0, 1) := by decide +kernel
theorem dX0_init_5 : decode cX0_init 5 = .ok (.bipush 60, 2) := by decide +kernel
theorem dX0_init_7 : decode cX0_init 7 = .ok (.newarray .int, 2) := by decide +kernel
theorem dX0_init_9 : decode cX0_init 9 = .ok (.putfield 9, 3) := by decide +kernel
theorem dX0_init_12 : decode cX0_init 12 = .ok (.aload_n 0, 1) := by decide +kernel
theorem dX0_init_13 : decode cX0_init 13 = .ok (.iconst 2, 1) := by decide +kernel
theorem dX0_init_14 : decode cX0_init 14 = .ok (.bipush 60, 2) := by decide +kernel
theorem dX0_init_16 : decode cX0_init 16 = .ok (.multianewarray 15 2, 4) := by decide +kernel
theorem dX0_init_20 : decode cX0_init 20 = .ok (.putfield 17, 3) := by decide +kernel
theorem dX0_init_23 : decode cX0_init 23 = .ok (.aload_n 0, 1) := by decide +kernel
theorem dX0_init_24 : decode cX0_init 24 = .ok (.iconst 2, 1) := by decide +kernel
theorem dX0_init_25 : decode cX0_init 25 = .ok (.newarray .int, 2) := by decide +kernel
theorem dX0_init_27 : decode cX0_init 27 = .ok (.putfield 20, 3) := by decide +kernel
theorem dX0_init_30 : decode cX0_init 30 = .ok (.aload_n 0, 1) := by decide +kernel
theorem dX0_init_31 : decode cX0_init 31 = .ok (.bipush 60, 2) := by decide +kernel
theorem dX0_init_33 : decode cX0_init 33 = .ok (.newarray .int, 2) := by decide +kernel
theorem dX0_init_35 : decode cX0_init 35 = .ok (.putfield 23, 3) := by decide +kernel
theorem dX0_init_38 : decode cX0_init 38 = .ok (.return_, 1) := by decide +kernel
theorem dX0_becomeLike_0 : decode cX0_becomeLike 0 = .ok (.aload_n 0, 1) := by decide +kernel
theorem dX0_becomeLike_1 : decode cX0_becomeLike 1 = .ok (.aload_n 1, 1) := by decide +kernel
theorem dX0_becomeLike_2 : decode cX0_becomeLike 2 = .ok (.getfield 26, 3) := by decide +kernel
theorem dX0_becomeLike_5 : decode cX0_becomeLike 5 = .ok (.putfield 26, 3) := by decide +kernel
theorem dX0_becomeLike_8 : decode cX0_becomeLike 8 = .ok (.aload_n 1, 1) := by decide +kernel
theorem dX0_becomeLike_9 : decode cX0_becomeLike 9 = .ok (.getfield 9, 3) := by decide +kernel
theorem dX0_becomeLike_12 : decode cX0_becomeLike 12 = .ok (.iconst 0, 1) := by decide +kernel
theorem dX0_becomeLike_13 : decode cX0_becomeLike 13 = .ok (.aload_n 0, 1) := by decide +kernel
theorem dX0_becomeLike_14 : decode cX0_becomeLike 14 = .ok (.getfield 9, 3) := by decide +kernel
theorem dX0_becomeLike_17 : decode cX0_becomeLike 17 = .ok (.iconst 0, 1) := by decide +kernel
theorem dX0_becomeLike_18 : decode cX0_becomeLike 18 = .ok (.bipush 60, 2) := by decide +kernel
theorem dX0_becomeLike_20 : decode cX0_becomeLike 20 = .ok (.invokestatic 30, 3) := by decide +kernel
theorem dX0_becomeLike_23 : decode cX0_becomeLike 23 = .ok (.iconst 0, 1) := by decide +kernel
theorem dX0_becomeLike_24 : decode cX0_becomeLike 24 = .ok (.istore_n 2, 1) := by decide +kernel
theorem dX0_becomeLike_25 : decode cX0_becomeLike 25 = .ok (.iload_n 2, 1) := by decide +kernel
theorem dX0_becomeLike_26 : decode cX0_becomeLike 26 = .ok (.iconst 2, 1) := by decide +kernel
theorem dX0_becomeLike_27 : decode cX0_becomeLike 27 = .ok (.if_icmp .ge 26, 3) := by decide +kernel
theorem dX0_becomeLike_30 : decode cX0_becomeLike 30 = .ok (.aload_n 0, 1) := by decide +kernel
theorem dX0_becomeLike_31 : decode cX0_becomeLike 31 = .ok (.iload_n 2, 1) := by decide +kernel
theorem dX0_becomeLike_32 : decode cX0_becomeLike 32 = .ok (.aload_n 1, 1) := by decide +kernel
theorem dX0_becomeLike_33 : decode cX0_becomeLike 33 = .ok (.getfield 17, 3) := by decide +kernel
theorem dX0_becomeLike_36 : decode cX0_becomeLike 36 = .ok (.iload_n 2, 1) := by decide +kernel
theorem dX0_becomeLike_37 : decode cX0_becomeLike 37 = .ok (.aaload, 1) := by decide +kernel
theorem dX0_becomeLike_38 : decode cX0_becomeLike 38 = .ok (.aload_n 1, 1) := by decide +kernel
theorem dX0_becomeLike_39 : decode cX0_becomeLike 39 = .ok (.getfield 20, 3) := by decide +kernel
theorem dX0_becomeLike_42 : decode cX0_becomeLike 42 = .ok (.iload_n 2, 1) := by decide +kernel
theorem dX0_becomeLike_43 : decode cX0_becomeLike 43 = .ok (.iaload, 1) := by decide +kernel
theorem dX0_becomeLike_44 : decode cX0_becomeLike 44 = .ok (.invokevirtual 36, 3) := by decide +kernel
theorem dX0_becomeLike_47 : decode cX0_becomeLike 47 = .ok (.iinc 2 1, 3) := by decide +kernel
theorem dX0_becomeLike_50 : decode cX0_becomeLike 50 = .ok (.goto (-25), 3) := by decide +kernel
theorem dX0_becomeLike_53 : decode cX0_becomeLike 53 = .ok (.return_, 1) := by decide +kernel
theorem dX0_addBytes_0 : decode cX0_addBytes 0 = .ok (.lload_n 1, 1) := by decide +kernel
theorem dX0_addBytes_1 : decode cX0_addBytes 1 = .ok (.lstore 4, 2) := by decide +kernel
theorem dX0_addBytes_3 : decode cX0_addBytes 3 = .ok (.iconst 0, 1) := by decide +kernel
theorem dX0_addBytes_4 : decode cX0_addBytes 4 = .ok (.istore 6, 2) := by decide +kernel
theorem dX0_addBytes_6 : decode cX0_addBytes 6 = .ok (.iload 6, 2) := by decide +kernel
theorem dX0_addBytes_8 : decode cX0_addBytes 8 = .ok (.iload_n 3, 1) := by decide +kernel
theorem dX0_addBytes_9 : decode cX0_addBytes 9 = .ok (.if_icmp .ge 51, 3) := by decide +kernel
theorem dX0_addBytes_12 : decode cX0_addBytes 12 = .ok (.aload_n 0, 1) := by decide +kernel
theorem dX0_addBytes_13 : decode cX0_addBytes 13 = .ok (.getfield 26, 3) := by decide +kernel
theorem dX0_addBytes_16 : decode cX0_addBytes 16 = .ok (.bipush 60, 2) := by decide +kernel
theorem dX0_addBytes_18 : decode cX0_addBytes 18 = .ok (.if_icmp .ge 42, 3) := by decide +kernel
theorem dX0_addBytes_21 : decode cX0_addBytes 21 = .ok (.aload_n 0, 1) := by decide +kernel
theorem dX0_addBytes_22 : decode cX0_addBytes 22 = .ok (.getfield 9, 3) := by decide +kernel
theorem dX0_addBytes_25 : decode cX0_addBytes 25 = .ok (.aload_n 0, 1) := by decide +kernel
theorem dX0_addBytes_26 : decode cX0_addBytes 26 = .ok (.getfield 26, 3) := by decide +kernel
theorem dX0_addBytes_29 : decode cX0_addBytes 29 = .ok (.lload 4, 2) := by decide +kernel
theorem dX0_addBytes_31 : decode cX0_addBytes 31 = .ok (.ldc2_w 40, 3) := by decide +kernel
theorem dX0_addBytes_34 : decode cX0_addBytes 34 = .ok (.land, 1) := by decide +kernel
theorem dX0_addBytes_35 : decode cX0_addBytes 35 = .ok (.l2i, 1) := by decide +kernel
theorem dX0_addBytes_36 : decode cX0_addBytes 36 = .ok (.iastore, 1) := by decide +kernel
theorem dX0_addBytes_37 : decode cX0_addBytes 37 = .ok (.aload_n 0, 1) := by decide +kernel
theorem dX0_addBytes_38 : decode cX0_addBytes 38 = .ok (.dup, 1) := by decide +kernel
theorem dX0_addBytes_39 : decode cX0_addBytes 39 = .ok (.getfield 26, 3) := by decide +kernel
theorem dX0_addBytes_42 : decode cX0_addBytes 42 = .ok (.iconst 1, 1) := by decide +kernel
theorem dX0_addBytes_43 : decode cX0_addBytes 43 = .ok (.iadd, 1) := by decide +kernel
theorem dX0_addBytes_44 : decode cX0_addBytes 44 = .ok (.putfield 26, 3) := by decide +kernel
theorem dX0_addBytes_47 : decode cX0_addBytes 47 = .ok (.lload 4, 2) := by decide +kernel
theorem dX0_addBytes_49 : decode cX0_addBytes 49 = .ok (.bipush 8, 2) := by decide +kernel
theorem dX0_addBytes_51 : decode cX0_addBytes 51 = .ok (.lushr, 1) := by decide +kernel
theorem dX0_addBytes_52 : decode cX0_addBytes 52 = .ok (.lstore 4, 2) := by decide +kernel
theorem dX0_addBytes_54 : decode cX0_addBytes 54 = .ok (.iinc 6 1, 3) := by decide +kernel
theorem dX0_addBytes_57 : decode cX0_addBytes 57 = .ok (.goto (-51), 3) := by decide +kernel
theorem dX0_addBytes_60 : decode cX0_addBytes 60 = .ok (.aload_n 0, 1) := by decide +kernel
theorem dX0_addBytes_61 : decode cX0_addBytes 61 = .ok (.getfield 26, 3) := by decide +kernel
theorem dX0_addBytes_64 : decode cX0_addBytes 64 = .ok (.ireturn, 1) := by decide +kernel
theorem dX0_takeSteps_0 : decode cX0_takeSteps 0 = .ok (.iload_n 1, 1) := by decide +kernel
theorem dX0_takeSteps_1 : decode cX0_takeSteps 1 = .ok (.invokestatic 42, 3) := by decide +kernel
theorem dX0_takeSteps_4 : decode cX0_takeSteps 4 = .ok (.ifCond .eq 24, 3) := by decide +kernel
theorem dX0_takeSteps_7 : decode cX0_takeSteps 7 = .ok (.aload_n 2, 1) := by decide +kernel
theorem dX0_takeSteps_8 : decode cX0_takeSteps 8 = .ok (.iconst 0, 1) := by decide +kernel
theorem dX0_takeSteps_9 : decode cX0_takeSteps 9 = .ok (.aload_n 0, 1) := by decide +kernel
theorem dX0_takeSteps_10 : decode cX0_takeSteps 10 = .ok (.getfield 17, 3) := by decide +kernel
theorem dX0_takeSteps_13 : decode cX0_takeSteps 13 = .ok (.iload_n 1, 1) := by decide +kernel
theorem dX0_takeSteps_14 : decode cX0_takeSteps 14 = .ok (.aaload, 1) := by decide +kernel
theorem dX0_takeSteps_15 : decode cX0_takeSteps 15 = .ok (.iconst 0, 1) := by decide +kernel
theorem dX0_takeSteps_16 : decode cX0_takeSteps 16 = .ok (.bipush 60, 2) := by decide +kernel
theorem dX0_takeSteps_18 : decode cX0_takeSteps 18 = .ok (.invokestatic 30, 3) := by decide +kernel
theorem dX0_takeSteps_21 : decode cX0_takeSteps 21 = .ok (.aload_n 0, 1) := by decide +kernel
theorem dX0_takeSteps_22 : decode cX0_takeSteps 22 = .ok (.getfield 20, 3) := by decide +kernel
theorem dX0_takeSteps_25 : decode cX0_takeSteps 25 = .ok (.iload_n 1, 1) := by decide +kernel
theorem dX0_takeSteps_26 : decode cX0_takeSteps 26 = .ok (.iload_n 3, 1) := by decide +kernel
theorem dX0_takeSteps_27 : decode cX0_takeSteps 27 = .ok (.iastore, 1) := by decide +kernel
theorem dX0_takeSteps_28 : decode cX0_takeSteps 28 = .ok (.return_, 1) := by decide +kernel
theorem dX0_forget_0 : decode cX0_forget 0 = .ok (.iload_n 1, 1) := by decide +kernel
theorem dX0_forget_1 : decode cX0_forget 1 = .ok (.invokestatic 42, 3) := by decide +kernel
theorem dX0_forget_4 : decode cX0_forget 4 = .ok (.ifCond .eq 16, 3) := by decide +kernel
theorem dX0_forget_7 : decode cX0_forget 7 = .ok (.aload_n 0, 1) := by decide +kernel
theorem dX0_forget_8 : decode cX0_forget 8 = .ok (.getfield 20, 3) := by decide +kernel
theorem dX0_forget_11 : decode cX0_forget 11 = .ok (.iload_n 1, 1) := by decide +kernel
theorem dX0_forget_12 : decode cX0_forget 12 = .ok (.iaload, 1) := by decide +kernel
theorem dX0_forget_13 : decode cX0_forget 13 = .ok (.ifCond .le 7, 3) := by decide +kernel
theorem dX0_forget_16 : decode cX0_forget 16 = .ok (.iconst 1, 1) := by decide +kernel
theorem dX0_forget_17 : decode cX0_forget 17 = .ok (.goto 4, 3) := by decide +kernel
theorem dX0_forget_20 : decode cX0_forget 20 = .ok (.iconst 0, 1) := by decide +kernel
theorem dX0_forget_21 : decode cX0_forget 21 = .ok (.istore_n 2, 1) := by decide +kernel
theorem dX0_forget_22 : decode cX0_forget 22 = .ok (.iload_n 2, 1) := by decide +kernel
theorem dX0_forget_23 : decode cX0_forget 23 = .ok (.ifCond .eq 10, 3) := by decide +kernel
theorem dX0_forget_26 : decode cX0_forget 26 = .ok (.aload_n 0, 1) := by decide +kernel
theorem dX0_forget_27 : decode cX0_forget 27 = .ok (.getfield 20, 3) := by decide +kernel
theorem dX0_forget_30 : decode cX0_forget 30 = .ok (.iload_n 1, 1) := by decide +kernel
theorem dX0_forget_31 : decode cX0_forget 31 = .ok (.iconst 0, 1) := by decide +kernel
theorem dX0_forget_32 : decode cX0_forget 32 = .ok (.iastore, 1) := by decide +kernel
theorem dX0_forget_33 : decode cX0_forget 33 = .ok (.iload_n 2, 1) := by decide +kernel
theorem dX0_forget_34 : decode cX0_forget 34 = .ok (.ireturn, 1) := by decide +kernel
theorem dX0_give_0 : decode cX0_give 0 = .ok (.iload_n 1, 1) := by decide +kernel
theorem dX0_give_1 : decode cX0_give 1 = .ok (.invokestatic 42, 3) := by decide +kernel
theorem dX0_give_4 : decode cX0_give 4 = .ok (.ifCond .ne 5, 3) := by decide +kernel
theorem dX0_give_7 : decode cX0_give 7 = .ok (.iconst 0, 1) := by decide +kernel
theorem dX0_give_8 : decode cX0_give 8 = .ok (.ireturn, 1) := by decide +kernel
theorem dX0_give_9 : decode cX0_give 9 = .ok (.aload_n 0, 1) := by decide +kernel
theorem dX0_give_10 : decode cX0_give 10 = .ok (.getfield 20, 3) := by decide +kernel
theorem dX0_give_13 : decode cX0_give 13 = .ok (.iload_n 1, 1) := by decide +kernel
theorem dX0_give_14 : decode cX0_give 14 = .ok (.iaload, 1) := by decide +kernel
theorem dX0_give_15 : decode cX0_give 15 = .ok (.ifCond .ne 7, 3) := by decide +kernel
theorem dX0_give_18 : decode cX0_give 18 = .ok (.iload_n 2, 1) := by decide +kernel
theorem dX0_give_19 : decode cX0_give 19 = .ok (.goto 23, 3) := by decide +kernel
theorem dX0_give_22 : decode cX0_give 22 = .ok (.aload_n 0, 1) := by decide +kernel
theorem dX0_give_23 : decode cX0_give 23 = .ok (.aload_n 0, 1) := by decide +kernel
theorem dX0_give_24 : decode cX0_give 24 = .ok (.getfield 17, 3) := by decide +kernel
theorem dX0_give_27 : decode cX0_give 27 = .ok (.iload_n 1, 1) := by decide +kernel
theorem dX0_give_28 : decode cX0_give 28 = .ok (.aaload, 1) := by decide +kernel
theorem dX0_give_29 : decode cX0_give 29 = .ok (.aload_n 0, 1) := by decide +kernel
theorem dX0_give_30 : decode cX0_give 30 = .ok (.getfield 20, 3) := by decide +kernel
theorem dX0_give_33 : decode cX0_give 33 = .ok (.iload_n 1, 1) := by decide +kernel
theorem dX0_give_34 : decode cX0_give 34 = .ok (.iaload, 1) := by decide +kernel
theorem dX0_give_35 : decode cX0_give 35 = .ok (.iload_n 2, 1) := by decide +kernel
theorem dX0_give_36 : decode cX0_give 36 = .ok (.iload_n 3, 1) := by decide +kernel
theorem dX0_give_37 : decode cX0_give 37 = .ok (.iload 4, 2) := by decide +kernel
theorem dX0_give_39 : decode cX0_give 39 = .ok (.invokevirtual 46, 3) := by decide +kernel
theorem dX0_give_42 : decode cX0_give 42 = .ok (.istore 5, 2) := by decide +kernel
theorem dX0_give_44 : decode cX0_give 44 = .ok (.iload_n 1, 1) := by decide +kernel
theorem dX0_give_45 : decode cX0_give 45 = .ok (.ifCond .ne 15, 3) := by decide +kernel
theorem dX0_give_48 : decode cX0_give 48 = .ok (.iload 5, 2) := by decide +kernel
theorem dX0_give_50 : decode cX0_give 50 = .ok (.iconst 0, 1) := by decide +kernel
theorem dX0_give_51 : decode cX0_give 51 = .ok (.sipush 999, 3) := by decide +kernel
theorem dX0_give_54 : decode cX0_give 54 = .ok (.invokestatic 50, 3) := by decide +kernel
theorem dX0_give_57 : decode cX0_give 57 = .ok (.goto 11, 3) := by decide +kernel
theorem dX0_give_60 : decode cX0_give 60 = .ok (.iload 5, 2) := by decide +kernel
theorem dX0_give_62 : decode cX0_give 62 = .ok (.iconst 1, 1) := by decide +kernel
theorem dX0_give_63 : decode cX0_give 63 = .ok (.bipush 99, 2) := by decide +kernel
theorem dX0_give_65 : decode cX0_give 65 = .ok (.invokestatic 50, 3) := by decide +kernel
theorem dX0_give_68 : decode cX0_give 68 = .ok (.ireturn, 1) := by decide +kernel
theorem dX0_workOut_0 : decode cX0_workOut 0 = .ok (.iconst (-1), 1) := by decide +kernel
theorem dX0_workOut_1 : decode cX0_workOut 1 = .ok (.istore 6, 2) := by decide +kernel
theorem dX0_workOut_3 : decode cX0_workOut 3 = .ok (.iconst 0, 1) := by decide +kernel
theorem dX0_workOut_4 : decode cX0_workOut 4 = .ok (.istore 7, 2) := by decide +kernel
theorem dX0_workOut_6 : decode cX0_workOut 6 = .ok (.iload 7, 2) := by decide +kernel
theorem dX0_workOut_8 : decode cX0_workOut 8 = .ok (.iload_n 2, 1) := by decide +kernel
theorem dX0_workOut_9 : decode cX0_workOut 9 = .ok (.if_icmp .ge 155, 3) := by decide +kernel
theorem dX0_workOut_12 : decode cX0_workOut 12 = .ok (.iload 7, 2) := by decide +kernel
theorem dX0_workOut_14 : decode cX0_workOut 14 = .ok (.aload_n 1, 1) := by decide +kernel
theorem dX0_workOut_15 : decode cX0_workOut 15 = .ok (.arraylength, 1) := by decide +kernel
theorem dX0_workOut_16 : decode cX0_workOut 16 = .ok (.if_icmp .ge 148, 3) := by decide +kernel
theorem dX0_workOut_19 : decode cX0_workOut 19 = .ok (.aload_n 1, 1) := by decide +kernel
theorem dX0_workOut_20 : decode cX0_workOut 20 = .ok (.iload 7, 2) := by decide +kernel
theorem dX0_workOut_22 : decode cX0_workOut 22 = .ok (.iaload, 1) := by decide +kernel
theorem dX0_workOut_23 : decode cX0_workOut 23 = .ok (.istore 8, 2) := by decide +kernel
theorem dX0_workOut_25 : decode cX0_workOut 25 = .ok (.iload 8, 2) := by decide +kernel
theorem dX0_workOut_27 : decode cX0_workOut 27 = .ok (.ifCond .lt 56, 3) := by decide +kernel
theorem dX0_workOut_30 : decode cX0_workOut 30 = .ok (.iload 6, 2) := by decide +kernel
theorem dX0_workOut_32 : decode cX0_workOut 32 = .ok (.iconst 1, 1) := by decide +kernel
theorem dX0_workOut_33 : decode cX0_workOut 33 = .ok (.iadd, 1) := by decide +kernel
theorem dX0_workOut_34 : decode cX0_workOut 34 = .ok (.aload_n 0, 1) := by decide +kernel
theorem dX0_workOut_35 : decode cX0_workOut 35 = .ok (.getfield 23, 3) := by decide +kernel
theorem dX0_workOut_38 : decode cX0_workOut 38 = .ok (.arraylength, 1) := by decide +kernel
theorem dX0_workOut_39 : decode cX0_workOut 39 = .ok (.iconst 1, 1) := by decide +kernel
theorem dX0_workOut_40 : decode cX0_workOut 40 = .ok (.isub, 1) := by decide +kernel
theorem dX0_workOut_41 : decode cX0_workOut 41 = .ok (.invokestatic 54, 3) := by decide +kernel
theorem dX0_workOut_44 : decode cX0_workOut 44 = .ok (.istore 6, 2) := by decide +kernel
theorem dX0_workOut_46 : decode cX0_workOut 46 = .ok (.aload_n 0, 1) := by decide +kernel
theorem dX0_workOut_47 : decode cX0_workOut 47 = .ok (.getfield 23, 3) := by decide +kernel
theorem dX0_workOut_50 : decode cX0_workOut 50 = .ok (.iload 6, 2) := by decide +kernel
theorem dX0_workOut_52 : decode cX0_workOut 52 = .ok (.iload 8, 2) := by decide +kernel
theorem dX0_workOut_54 : decode cX0_workOut 54 = .ok (.sipush 10000, 3) := by decide +kernel
theorem dX0_workOut_57 : decode cX0_workOut 57 = .ok (.if_icmp .ge 8, 3) := by decide +kernel
theorem dX0_workOut_60 : decode cX0_workOut 60 = .ok (.iload 8, 2) := by decide +kernel
theorem dX0_workOut_62 : decode cX0_workOut 62 = .ok (.goto 17, 3) := by decide +kernel
theorem dX0_workOut_65 : decode cX0_workOut 65 = .ok (.iload 8, 2) := by decide +kernel
theorem dX0_workOut_67 : decode cX0_workOut 67 = .ok (.sipush 10000, 3) := by decide +kernel
theorem dX0_workOut_70 : decode cX0_workOut 70 = .ok (.isub, 1) := by decide +kernel
theorem dX0_workOut_71 : decode cX0_workOut 71 = .ok (.iload_n 3, 1) := by decide +kernel
theorem dX0_workOut_72 : decode cX0_workOut 72 = .ok (.iload 4, 2) := by decide +kernel
theorem dX0_workOut_74 : decode cX0_workOut 74 = .ok (.iload 5, 2) := by decide +kernel
theorem dX0_workOut_76 : decode cX0_workOut 76 = .ok (.invokestatic 60, 3) := by decide +kernel
theorem dX0_workOut_79 : decode cX0_workOut 79 = .ok (.iastore, 1) := by decide +kernel
theorem dX0_workOut_80 : decode cX0_workOut 80 = .ok (.goto 78, 3) := by decide +kernel
theorem dX0_workOut_83 : decode cX0_workOut 83 = .ok (.iload 8, 2) := by decide +kernel
theorem dX0_workOut_85 : decode cX0_workOut 85 = .ok (.bipush (-33), 2) := by decide +kernel
theorem dX0_workOut_87 : decode cX0_workOut 87 = .ok (.if_icmp .ne 33, 3) := by decide +kernel
theorem dX0_workOut_90 : decode cX0_workOut 90 = .ok (.iload 6, 2) := by decide +kernel
theorem dX0_workOut_92 : decode cX0_workOut 92 = .ok (.ifCond .lt 66, 3) := by decide +kernel
theorem dX0_workOut_95 : decode cX0_workOut 95 = .ok (.aload_n 0, 1) := by decide +kernel
theorem dX0_workOut_96 : decode cX0_workOut 96 = .ok (.getfield 23, 3) := by decide +kernel
theorem dX0_workOut_99 : decode cX0_workOut 99 = .ok (.iload 6, 2) := by decide +kernel
theorem dX0_workOut_101 : decode cX0_workOut 101 = .ok (.aload_n 0, 1) := by decide +kernel
theorem dX0_workOut_102 : decode cX0_workOut 102 = .ok (.getfield 23, 3) := by decide +kernel
theorem dX0_workOut_105 : decode cX0_workOut 105 = .ok (.iload 6, 2) := by decide +kernel
theorem dX0_workOut_107 : decode cX0_workOut 107 = .ok (.iaload, 1) := by decide +kernel
theorem dX0_workOut_108 : decode cX0_workOut 108 = .ok (.ifCond .ne 7, 3) := by decide +kernel
theorem dX0_workOut_111 : decode cX0_workOut 111 = .ok (.iconst 1, 1) := by decide +kernel
theorem dX0_workOut_112 : decode cX0_workOut 112 = .ok (.goto 4, 3) := by decide +kernel
theorem dX0_workOut_115 : decode cX0_workOut 115 = .ok (.iconst 0, 1) := by decide +kernel
theorem dX0_workOut_116 : decode cX0_workOut 116 = .ok (.iastore, 1) := by decide +kernel
theorem dX0_workOut_117 : decode cX0_workOut 117 = .ok (.goto 41, 3) := by decide +kernel
theorem dX0_workOut_120 : decode cX0_workOut 120 = .ok (.iload 6, 2) := by decide +kernel
theorem dX0_workOut_122 : decode cX0_workOut 122 = .ok (.iconst 1, 1) := by decide +kernel
theorem dX0_workOut_123 : decode cX0_workOut 123 = .ok (.if_icmp .lt 35, 3) := by decide +kernel
theorem dX0_workOut_126 : decode cX0_workOut 126 = .ok (.iinc 6 (-1), 3) := by decide +kernel
theorem dX0_workOut_129 : decode cX0_workOut 129 = .ok (.aload_n 0, 1) := by decide +kernel
theorem dX0_workOut_130 : decode cX0_workOut 130 = .ok (.getfield 23, 3) := by decide +kernel
theorem dX0_workOut_133 : decode cX0_workOut 133 = .ok (.iload 6, 2) := by decide +kernel
theorem dX0_workOut_135 : decode cX0_workOut 135 = .ok (.iload 8, 2) := by decide +kernel
theorem dX0_workOut_137 : decode cX0_workOut 137 = .ok (.ineg, 1) := by decide +kernel
theorem dX0_workOut_138 : decode cX0_workOut 138 = .ok (.aload_n 0, 1) := by decide +kernel
theorem dX0_workOut_139 : decode cX0_workOut 139 = .ok (.getfield 23, 3) := by decide +kernel
theorem dX0_workOut_142 : decode cX0_workOut 142 = .ok (.iload 6, 2) := by decide +kernel
theorem dX0_workOut_144 : decode cX0_workOut 144 = .ok (.iaload, 1) := by decide +kernel
theorem dX0_workOut_145 : decode cX0_workOut 145 = .ok (.aload_n 0, 1) := by decide +kernel
theorem dX0_workOut_146 : decode cX0_workOut 146 = .ok (.getfield 23, 3) := by decide +kernel
theorem dX0_workOut_149 : decode cX0_workOut 149 = .ok (.iload 6, 2) := by decide +kernel
theorem dX0_workOut_151 : decode cX0_workOut 151 = .ok (.iconst 1, 1) := by decide +kernel
theorem dX0_workOut_152 : decode cX0_workOut 152 = .ok (.iadd, 1) := by decide +kernel
theorem dX0_workOut_153 : decode cX0_workOut 153 = .ok (.iaload, 1) := by decide +kernel
theorem dX0_workOut_154 : decode cX0_workOut 154 = .ok (.invokestatic 64, 3) := by decide +kernel
theorem dX0_workOut_157 : decode cX0_workOut 157 = .ok (.iastore, 1) := by decide +kernel
theorem dX0_workOut_158 : decode cX0_workOut 158 = .ok (.iinc 7 1, 3) := by decide +kernel
theorem dX0_workOut_161 : decode cX0_workOut 161 = .ok (.goto (-155), 3) := by decide +kernel
theorem dX0_workOut_164 : decode cX0_workOut 164 = .ok (.iload 6, 2) := by decide +kernel
theorem dX0_workOut_166 : decode cX0_workOut 166 = .ok (.ifCond .lt 13, 3) := by decide +kernel
theorem dX0_workOut_169 : decode cX0_workOut 169 = .ok (.aload_n 0, 1) := by decide +kernel
theorem dX0_workOut_170 : decode cX0_workOut 170 = .ok (.getfield 23, 3) := by decide +kernel
theorem dX0_workOut_173 : decode cX0_workOut 173 = .ok (.iload 6, 2) := by decide +kernel
theorem dX0_workOut_175 : decode cX0_workOut 175 = .ok (.iaload, 1) := by decide +kernel
theorem dX0_workOut_176 : decode cX0_workOut 176 = .ok (.goto 4, 3) := by decide +kernel
theorem dX0_workOut_179 : decode cX0_workOut 179 = .ok (.iconst 0, 1) := by decide +kernel
theorem dX0_workOut_180 : decode cX0_workOut 180 = .ok (.ireturn, 1) := by decide +kernel
theorem dX0_named_0 : decode cX0_named 0 = .ok (.iload_n 0, 1) := by decide +kernel
theorem dX0_named_1 : decode cX0_named 1 = .ok (.ifCond .ne 5, 3) := by decide +kernel
theorem dX0_named_4 : decode cX0_named 4 = .ok (.iload_n 1, 1) := by decide +kernel
theorem dX0_named_5 : decode cX0_named 5 = .ok (.ireturn, 1) := by decide +kernel
theorem dX0_named_6 : decode cX0_named 6 = .ok (.iload_n 0, 1) := by decide +kernel
theorem dX0_named_7 : decode cX0_named 7 = .ok (.iconst 1, 1) := by decide +kernel
theorem dX0_named_8 : decode cX0_named 8 = .ok (.if_icmp .ne 7, 3) := by decide +kernel
theorem dX0_named_11 : decode cX0_named 11 = .ok (.iload_n 2, 1) := by decide +kernel
theorem dX0_named_12 : decode cX0_named 12 = .ok (.goto 4, 3) := by decide +kernel
theorem dX0_named_15 : decode cX0_named 15 = .ok (.iload_n 3, 1) := by decide +kernel
theorem dX0_named_16 : decode cX0_named 16 = .ok (.ireturn, 1) := by decide +kernel
theorem dX0_joined_0 : decode cX0_joined 0 = .ok (.iload_n 0, 1) := by decide +kernel
theorem dX0_joined_1 : decode cX0_joined 1 = .ok (.lookupswitch 168 #[(38, 97), (42, 152), (43, 144), (45, 148), (47, 156), (60, 111), (61, 122), (62, 133), (124, 83)], 83) := by decide +kernel
theorem dX0_joined_84 : decode cX0_joined 84 = .ok (.iload_n 1, 1) := by decide +kernel
theorem dX0_joined_85 : decode cX0_joined 85 = .ok (.ifCond .ne 7, 3) := by decide +kernel
theorem dX0_joined_88 : decode cX0_joined 88 = .ok (.iload_n 2, 1) := by decide +kernel
theorem dX0_joined_89 : decode cX0_joined 89 = .ok (.ifCond .eq 7, 3) := by decide +kernel
theorem dX0_joined_92 : decode cX0_joined 92 = .ok (.iconst 1, 1) := by decide +kernel
theorem dX0_joined_93 : decode cX0_joined 93 = .ok (.goto 4, 3) := by decide +kernel
theorem dX0_joined_96 : decode cX0_joined 96 = .ok (.iconst 0, 1) := by decide +kernel
theorem dX0_joined_97 : decode cX0_joined 97 = .ok (.ireturn, 1) := by decide +kernel
theorem dX0_joined_98 : decode cX0_joined 98 = .ok (.iload_n 1, 1) := by decide +kernel
theorem dX0_joined_99 : decode cX0_joined 99 = .ok (.ifCond .eq 11, 3) := by decide +kernel
theorem dX0_joined_102 : decode cX0_joined 102 = .ok (.iload_n 2, 1) := by decide +kernel
theorem dX0_joined_103 : decode cX0_joined 103 = .ok (.ifCond .eq 7, 3) := by decide +kernel
theorem dX0_joined_106 : decode cX0_joined 106 = .ok (.iconst 1, 1) := by decide +kernel
theorem dX0_joined_107 : decode cX0_joined 107 = .ok (.goto 4, 3) := by decide +kernel
theorem dX0_joined_110 : decode cX0_joined 110 = .ok (.iconst 0, 1) := by decide +kernel
theorem dX0_joined_111 : decode cX0_joined 111 = .ok (.ireturn, 1) := by decide +kernel
theorem dX0_joined_112 : decode cX0_joined 112 = .ok (.iload_n 1, 1) := by decide +kernel
theorem dX0_joined_113 : decode cX0_joined 113 = .ok (.iload_n 2, 1) := by decide +kernel
theorem dX0_joined_114 : decode cX0_joined 114 = .ok (.if_icmp .ge 7, 3) := by decide +kernel
theorem dX0_joined_117 : decode cX0_joined 117 = .ok (.iconst 1, 1) := by decide +kernel
theorem dX0_joined_118 : decode cX0_joined 118 = .ok (.goto 4, 3) := by decide +kernel
theorem dX0_joined_121 : decode cX0_joined 121 = .ok (.iconst 0, 1) := by decide +kernel
theorem dX0_joined_122 : decode cX0_joined 122 = .ok (.ireturn, 1) := by decide +kernel
theorem dX0_joined_123 : decode cX0_joined 123 = .ok (.iload_n 1, 1) := by decide +kernel
theorem dX0_joined_124 : decode cX0_joined 124 = .ok (.iload_n 2, 1) := by decide +kernel
theorem dX0_joined_125 : decode cX0_joined 125 = .ok (.if_icmp .ne 7, 3) := by decide +kernel
theorem dX0_joined_128 : decode cX0_joined 128 = .ok (.iconst 1, 1) := by decide +kernel
theorem dX0_joined_129 : decode cX0_joined 129 = .ok (.goto 4, 3) := by decide +kernel
theorem dX0_joined_132 : decode cX0_joined 132 = .ok (.iconst 0, 1) := by decide +kernel
theorem dX0_joined_133 : decode cX0_joined 133 = .ok (.ireturn, 1) := by decide +kernel
theorem dX0_joined_134 : decode cX0_joined 134 = .ok (.iload_n 1, 1) := by decide +kernel
theorem dX0_joined_135 : decode cX0_joined 135 = .ok (.iload_n 2, 1) := by decide +kernel
theorem dX0_joined_136 : decode cX0_joined 136 = .ok (.if_icmp .le 7, 3) := by decide +kernel
theorem dX0_joined_139 : decode cX0_joined 139 = .ok (.iconst 1, 1) := by decide +kernel
theorem dX0_joined_140 : decode cX0_joined 140 = .ok (.goto 4, 3) := by decide +kernel
theorem dX0_joined_143 : decode cX0_joined 143 = .ok (.iconst 0, 1) := by decide +kernel
theorem dX0_joined_144 : decode cX0_joined 144 = .ok (.ireturn, 1) := by decide +kernel
theorem dX0_joined_145 : decode cX0_joined 145 = .ok (.iload_n 1, 1) := by decide +kernel
theorem dX0_joined_146 : decode cX0_joined 146 = .ok (.iload_n 2, 1) := by decide +kernel
theorem dX0_joined_147 : decode cX0_joined 147 = .ok (.iadd, 1) := by decide +kernel
theorem dX0_joined_148 : decode cX0_joined 148 = .ok (.ireturn, 1) := by decide +kernel
theorem dX0_joined_149 : decode cX0_joined 149 = .ok (.iload_n 1, 1) := by decide +kernel
theorem dX0_joined_150 : decode cX0_joined 150 = .ok (.iload_n 2, 1) := by decide +kernel
theorem dX0_joined_151 : decode cX0_joined 151 = .ok (.isub, 1) := by decide +kernel
theorem dX0_joined_152 : decode cX0_joined 152 = .ok (.ireturn, 1) := by decide +kernel
theorem dX0_joined_153 : decode cX0_joined 153 = .ok (.iload_n 1, 1) := by decide +kernel
theorem dX0_joined_154 : decode cX0_joined 154 = .ok (.iload_n 2, 1) := by decide +kernel
theorem dX0_joined_155 : decode cX0_joined 155 = .ok (.imul, 1) := by decide +kernel
theorem dX0_joined_156 : decode cX0_joined 156 = .ok (.ireturn, 1) := by decide +kernel
theorem dX0_joined_157 : decode cX0_joined 157 = .ok (.iload_n 2, 1) := by decide +kernel
theorem dX0_joined_158 : decode cX0_joined 158 = .ok (.ifCond .ne 7, 3) := by decide +kernel
theorem dX0_joined_161 : decode cX0_joined 161 = .ok (.iconst 0, 1) := by decide +kernel
theorem dX0_joined_162 : decode cX0_joined 162 = .ok (.goto 6, 3) := by decide +kernel
theorem dX0_joined_165 : decode cX0_joined 165 = .ok (.iload_n 1, 1) := by decide +kernel
theorem dX0_joined_166 : decode cX0_joined 166 = .ok (.iload_n 2, 1) := by decide +kernel
theorem dX0_joined_167 : decode cX0_joined 167 = .ok (.idiv, 1) := by decide +kernel
theorem dX0_joined_168 : decode cX0_joined 168 = .ok (.ireturn, 1) := by decide +kernel
theorem dX0_joined_169 : decode cX0_joined 169 = .ok (.iload_n 2, 1) := by decide +kernel
theorem dX0_joined_170 : decode cX0_joined 170 = .ok (.ifCond .ne 7, 3) := by decide +kernel
theorem dX0_joined_173 : decode cX0_joined 173 = .ok (.iconst 0, 1) := by decide +kernel
theorem dX0_joined_174 : decode cX0_joined 174 = .ok (.goto 6, 3) := by decide +kernel
theorem dX0_joined_177 : decode cX0_joined 177 = .ok (.iload_n 1, 1) := by decide +kernel
theorem dX0_joined_178 : decode cX0_joined 178 = .ok (.iload_n 2, 1) := by decide +kernel
theorem dX0_joined_179 : decode cX0_joined 179 = .ok (.irem, 1) := by decide +kernel
theorem dX0_joined_180 : decode cX0_joined 180 = .ok (.ireturn, 1) := by decide +kernel
theorem dX1_init_0 : decode cX1_init 0 = .ok (.aload_n 0, 1) := by decide +kernel
theorem dX1_init_1 : decode cX1_init 1 = .ok (.invokespecial 3, 3) := by decide +kernel
theorem dX1_init_4 : decode cX1_init 4 = .ok (.aload_n 0, 1) := by decide +kernel
theorem dX1_init_5 : decode cX1_init 5 = .ok (.bipush 60, 2) := by decide +kernel
theorem dX1_init_7 : decode cX1_init 7 = .ok (.newarray .int, 2) := by decide +kernel
theorem dX1_init_9 : decode cX1_init 9 = .ok (.putfield 9, 3) := by decide +kernel
theorem dX1_init_12 : decode cX1_init 12 = .ok (.aload_n 0, 1) := by decide +kernel
theorem dX1_init_13 : decode cX1_init 13 = .ok (.bipush 60, 2) := by decide +kernel
theorem dX1_init_15 : decode cX1_init 15 = .ok (.newarray .int, 2) := by decide +kernel
theorem dX1_init_17 : decode cX1_init 17 = .ok (.putfield 15, 3) := by decide +kernel
theorem dX1_init_20 : decode cX1_init 20 = .ok (.return_, 1) := by decide +kernel
theorem dX1_faultOf_0 : decode cX1_faultOf 0 = .ok (.aload_n 1, 1) := by decide +kernel
theorem dX1_faultOf_1 : decode cX1_faultOf 1 = .ok (.iconst 0, 1) := by decide +kernel
theorem dX1_faultOf_2 : decode cX1_faultOf 2 = .ok (.aload_n 0, 1) := by decide +kernel
theorem dX1_faultOf_3 : decode cX1_faultOf 3 = .ok (.getfield 15, 3) := by decide +kernel
theorem dX1_faultOf_6 : decode cX1_faultOf 6 = .ok (.iconst 0, 1) := by decide +kernel
theorem dX1_faultOf_7 : decode cX1_faultOf 7 = .ok (.bipush 60, 2) := by decide +kernel
theorem dX1_faultOf_9 : decode cX1_faultOf 9 = .ok (.invokestatic 18, 3) := by decide +kernel
theorem dX1_faultOf_12 : decode cX1_faultOf 12 = .ok (.aload_n 0, 1) := by decide +kernel
theorem dX1_faultOf_13 : decode cX1_faultOf 13 = .ok (.iload_n 2, 1) := by decide +kernel
theorem dX1_faultOf_14 : decode cX1_faultOf 14 = .ok (.iconst 0, 1) := by decide +kernel
theorem dX1_faultOf_15 : decode cX1_faultOf 15 = .ok (.bipush 60, 2) := by decide +kernel
theorem dX1_faultOf_17 : decode cX1_faultOf 17 = .ok (.invokestatic 24, 3) := by decide +kernel
theorem dX1_faultOf_20 : decode cX1_faultOf 20 = .ok (.putfield 28, 3) := by decide +kernel
theorem dX1_faultOf_23 : decode cX1_faultOf 23 = .ok (.aload_n 0, 1) := by decide +kernel
theorem dX1_faultOf_24 : decode cX1_faultOf 24 = .ok (.iconst 0, 1) := by decide +kernel
theorem dX1_faultOf_25 : decode cX1_faultOf 25 = .ok (.putfield 32, 3) := by decide +kernel
theorem dX1_faultOf_28 : decode cX1_faultOf 28 = .ok (.aload_n 0, 1) := by decide +kernel
theorem dX1_faultOf_29 : decode cX1_faultOf 29 = .ok (.iconst 0, 1) := by decide +kernel
theorem dX1_faultOf_30 : decode cX1_faultOf 30 = .ok (.putfield 35, 3) := by decide +kernel
theorem dX1_faultOf_33 : decode cX1_faultOf 33 = .ok (.aload_n 0, 1) := by decide +kernel
theorem dX1_faultOf_34 : decode cX1_faultOf 34 = .ok (.iload_n 3, 1) := by decide +kernel
theorem dX1_faultOf_35 : decode cX1_faultOf 35 = .ok (.iconst 3, 1) := by decide +kernel
theorem dX1_faultOf_36 : decode cX1_faultOf 36 = .ok (.imul, 1) := by decide +kernel
theorem dX1_faultOf_37 : decode cX1_faultOf 37 = .ok (.putfield 38, 3) := by decide +kernel
theorem dX1_faultOf_40 : decode cX1_faultOf 40 = .ok (.aload_n 0, 1) := by decide +kernel
theorem dX1_faultOf_41 : decode cX1_faultOf 41 = .ok (.iconst 0, 1) := by decide +kernel
theorem dX1_faultOf_42 : decode cX1_faultOf 42 = .ok (.iconst 0, 1) := by decide +kernel
theorem dX1_faultOf_43 : decode cX1_faultOf 43 = .ok (.invokevirtual 41, 3) := by decide +kernel
theorem dX1_faultOf_46 : decode cX1_faultOf 46 = .ok (.ifCond .eq 18, 3) := by decide +kernel
theorem dX1_faultOf_49 : decode cX1_faultOf 49 = .ok (.aload_n 0, 1) := by decide +kernel
theorem dX1_faultOf_50 : decode cX1_faultOf 50 = .ok (.getfield 32, 3) := by decide +kernel
theorem dX1_faultOf_53 : decode cX1_faultOf 53 = .ok (.aload_n 0, 1) := by decide +kernel
theorem dX1_faultOf_54 : decode cX1_faultOf 54 = .ok (.getfield 28, 3) := by decide +kernel
theorem dX1_faultOf_57 : decode cX1_faultOf 57 = .ok (.if_icmp .ne 7, 3) := by decide +kernel
theorem dX1_faultOf_60 : decode cX1_faultOf 60 = .ok (.iconst (-1), 1) := by decide +kernel
theorem dX1_faultOf_61 : decode cX1_faultOf 61 = .ok (.goto 7, 3) := by decide +kernel
theorem dX1_faultOf_64 : decode cX1_faultOf 64 = .ok (.aload_n 0, 1) := by decide +kernel
theorem dX1_faultOf_65 : decode cX1_faultOf 65 = .ok (.getfield 32, 3) := by decide +kernel
theorem dX1_faultOf_68 : decode cX1_faultOf 68 = .ok (.ireturn, 1) := by decide +kernel
theorem dX1_sign_0 : decode cX1_sign 0 = .ok (.aload_n 0, 1) := by decide +kernel
theorem dX1_sign_1 : decode cX1_sign 1 = .ok (.getfield 32, 3) := by decide +kernel
theorem dX1_sign_4 : decode cX1_sign 4 = .ok (.ifCond .lt 38, 3) := by decide +kernel
theorem dX1_sign_7 : decode cX1_sign 7 = .ok (.aload_n 0, 1) := by decide +kernel
theorem dX1_sign_8 : decode cX1_sign 8 = .ok (.getfield 32, 3) := by decide +kernel
theorem dX1_sign_11 : decode cX1_sign 11 = .ok (.aload_n 0, 1) := by decide +kernel
theorem dX1_sign_12 : decode cX1_sign 12 = .ok (.getfield 28, 3) := by decide +kernel
theorem dX1_sign_15 : decode cX1_sign 15 = .ok (.if_icmp .ge 27, 3) := by decide +kernel
theorem dX1_sign_18 : decode cX1_sign 18 = .ok (.aload_n 0, 1) := by decide +kernel
theorem dX1_sign_19 : decode cX1_sign 19 = .ok (.getfield 32, 3) := by decide +kernel
theorem dX1_sign_22 : decode cX1_sign 22 = .ok (.aload_n 0, 1) := by decide +kernel
theorem dX1_sign_23 : decode cX1_sign 23 = .ok (.getfield 15, 3) := by decide +kernel
theorem dX1_sign_26 : decode cX1_sign 26 = .ok (.arraylength, 1) := by decide +kernel
theorem dX1_sign_27 : decode cX1_sign 27 = .ok (.if_icmp .ge 15, 3) := by decide +kernel
theorem dX1_sign_30 : decode cX1_sign 30 = .ok (.aload_n 0, 1) := by decide +kernel
theorem dX1_sign_31 : decode cX1_sign 31 = .ok (.getfield 15, 3) := by decide +kernel
theorem dX1_sign_34 : decode cX1_sign 34 = .ok (.aload_n 0, 1) := by decide +kernel
theorem dX1_sign_35 : decode cX1_sign 35 = .ok (.getfield 32, 3) := by decide +kernel
theorem dX1_sign_38 : decode cX1_sign 38 = .ok (.iaload, 1) := by decide +kernel
theorem dX1_sign_39 : decode cX1_sign 39 = .ok (.goto 4, 3) := by decide +kernel
theorem dX1_sign_42 : decode cX1_sign 42 = .ok (.iconst (-1), 1) := by decide +kernel
theorem dX1_sign_43 : decode cX1_sign 43 = .ok (.ireturn, 1) := by decide +kernel
theorem dX1_write_0 : decode cX1_write 0 = .ok (.aload_n 0, 1) := by decide +kernel
theorem dX1_write_1 : decode cX1_write 1 = .ok (.getfield 35, 3) := by decide +kernel
theorem dX1_write_4 : decode cX1_write 4 = .ok (.ifCond .lt 35, 3) := by decide +kernel
theorem dX1_write_7 : decode cX1_write 7 = .ok (.aload_n 0, 1) := by decide +kernel
theorem dX1_write_8 : decode cX1_write 8 = .ok (.getfield 35, 3) := by decide +kernel
theorem dX1_write_11 : decode cX1_write 11 = .ok (.aload_n 0, 1) := by decide +kernel
theorem dX1_write_12 : decode cX1_write 12 = .ok (.getfield 9, 3) := by decide +kernel
theorem dX1_write_15 : decode cX1_write 15 = .ok (.arraylength, 1) := by decide +kernel
theorem dX1_write_16 : decode cX1_write 16 = .ok (.if_icmp .ge 23, 3) := by decide +kernel
theorem dX1_write_19 : decode cX1_write 19 = .ok (.aload_n 0, 1) := by decide +kernel
theorem dX1_write_20 : decode cX1_write 20 = .ok (.getfield 9, 3) := by decide +kernel
theorem dX1_write_23 : decode cX1_write 23 = .ok (.aload_n 0, 1) := by decide +kernel
theorem dX1_write_24 : decode cX1_write 24 = .ok (.getfield 35, 3) := by decide +kernel
theorem dX1_write_27 : decode cX1_write 27 = .ok (.iload_n 1, 1) := by decide +kernel
theorem dX1_write_28 : decode cX1_write 28 = .ok (.iastore, 1) := by decide +kernel
theorem dX1_write_29 : decode cX1_write 29 = .ok (.aload_n 0, 1) := by decide +kernel
theorem dX1_write_30 : decode cX1_write 30 = .ok (.dup, 1) := by decide +kernel
theorem dX1_write_31 : decode cX1_write 31 = .ok (.getfield 35, 3) := by decide +kernel
theorem dX1_write_34 : decode cX1_write 34 = .ok (.iconst 1, 1) := by decide +kernel
theorem dX1_write_35 : decode cX1_write 35 = .ok (.iadd, 1) := by decide +kernel
theorem dX1_write_36 : decode cX1_write 36 = .ok (.putfield 35, 3) := by decide +kernel
theorem dX1_write_39 : decode cX1_write 39 = .ok (.return_, 1) := by decide +kernel
theorem dX1_reads_0 : decode cX1_reads 0 = .ok (.iload_n 1, 1) := by decide +kernel
theorem dX1_reads_1 : decode cX1_reads 1 = .ok (.iconst 5, 1) := by decide +kernel
theorem dX1_reads_2 : decode cX1_reads 2 = .ok (.if_icmp .lt 9, 3) := by decide +kernel
theorem dX1_reads_5 : decode cX1_reads 5 = .ok (.aload_n 0, 1) := by decide +kernel
theorem dX1_reads_6 : decode cX1_reads 6 = .ok (.iload_n 2, 1) := by decide +kernel
theorem dX1_reads_7 : decode cX1_reads 7 = .ok (.invokevirtual 45, 3) := by decide +kernel
theorem dX1_reads_10 : decode cX1_reads 10 = .ok (.ireturn, 1) := by decide +kernel
theorem dX1_reads_11 : decode cX1_reads 11 = .ok (.aload_n 0, 1) := by decide +kernel
theorem dX1_reads_12 : decode cX1_reads 12 = .ok (.iload_n 1, 1) := by decide +kernel
theorem dX1_reads_13 : decode cX1_reads 13 = .ok (.iconst 1, 1) := by decide +kernel
theorem dX1_reads_14 : decode cX1_reads 14 = .ok (.iadd, 1) := by decide +kernel
theorem dX1_reads_15 : decode cX1_reads 15 = .ok (.iload_n 2, 1) := by decide +kernel
theorem dX1_reads_16 : decode cX1_reads 16 = .ok (.invokevirtual 41, 3) := by decide +kernel
theorem dX1_reads_19 : decode cX1_reads 19 = .ok (.ifCond .ne 5, 3) := by decide +kernel
theorem dX1_reads_22 : decode cX1_reads 22 = .ok (.iconst 0, 1) := by decide +kernel
theorem dX1_reads_23 : decode cX1_reads 23 = .ok (.ireturn, 1) := by decide +kernel
theorem dX1_reads_24 : decode cX1_reads 24 = .ok (.iload_n 1, 1) := by decide +kernel
theorem dX1_reads_25 : decode cX1_reads 25 = .ok (.iconst 2, 1) := by decide +kernel
theorem dX1_reads_26 : decode cX1_reads 26 = .ok (.if_icmp .ne 7, 3) := by decide +kernel
theorem dX1_reads_29 : decode cX1_reads 29 = .ok (.iconst 1, 1) := by decide +kernel
theorem dX1_reads_30 : decode cX1_reads 30 = .ok (.goto 5, 3) := by decide +kernel
theorem dX1_reads_33 : decode cX1_reads 33 = .ok (.bipush 60, 2) := by decide +kernel
theorem dX1_reads_35 : decode cX1_reads 35 = .ok (.istore_n 3, 1) := by decide +kernel
theorem dX1_reads_36 : decode cX1_reads 36 = .ok (.iconst 0, 1) := by decide +kernel
theorem dX1_reads_37 : decode cX1_reads 37 = .ok (.istore 4, 2) := by decide +kernel
theorem dX1_reads_39 : decode cX1_reads 39 = .ok (.iload 4, 2) := by decide +kernel
theorem dX1_reads_41 : decode cX1_reads 41 = .ok (.iload_n 3, 1) := by decide +kernel
theorem dX1_reads_42 : decode cX1_reads 42 = .ok (.if_icmp .ge 56, 3) := by decide +kernel
theorem dX1_reads_45 : decode cX1_reads 45 = .ok (.iload_n 1, 1) := by decide +kernel
theorem dX1_reads_46 : decode cX1_reads 46 = .ok (.aload_n 0, 1) := by decide +kernel
theorem dX1_reads_47 : decode cX1_reads 47 = .ok (.invokevirtual 49, 3) := by decide +kernel
theorem dX1_reads_50 : decode cX1_reads 50 = .ok (.invokestatic 53, 3) := by decide +kernel
theorem dX1_reads_53 : decode cX1_reads 53 = .ok (.ifCond .eq 45, 3) := by decide +kernel
theorem dX1_reads_56 : decode cX1_reads 56 = .ok (.aload_n 0, 1) := by decide +kernel
theorem dX1_reads_57 : decode cX1_reads 57 = .ok (.invokevirtual 49, 3) := by decide +kernel
theorem dX1_reads_60 : decode cX1_reads 60 = .ok (.istore 5, 2) := by decide +kernel
theorem dX1_reads_62 : decode cX1_reads 62 = .ok (.aload_n 0, 1) := by decide +kernel
theorem dX1_reads_63 : decode cX1_reads 63 = .ok (.dup, 1) := by decide +kernel
theorem dX1_reads_64 : decode cX1_reads 64 = .ok (.getfield 32, 3) := by decide +kernel
theorem dX1_reads_67 : decode cX1_reads 67 = .ok (.iconst 1, 1) := by decide +kernel
theorem dX1_reads_68 : decode cX1_reads 68 = .ok (.iadd, 1) := by decide +kernel
theorem dX1_reads_69 : decode cX1_reads 69 = .ok (.putfield 32, 3) := by decide +kernel
theorem dX1_reads_72 : decode cX1_reads 72 = .ok (.aload_n 0, 1) := by decide +kernel
theorem dX1_reads_73 : decode cX1_reads 73 = .ok (.iload_n 1, 1) := by decide +kernel
theorem dX1_reads_74 : decode cX1_reads 74 = .ok (.iconst 1, 1) := by decide +kernel
theorem dX1_reads_75 : decode cX1_reads 75 = .ok (.iadd, 1) := by decide +kernel
theorem dX1_reads_76 : decode cX1_reads 76 = .ok (.iload_n 2, 1) := by decide +kernel
theorem dX1_reads_77 : decode cX1_reads 77 = .ok (.invokevirtual 41, 3) := by decide +kernel
theorem dX1_reads_80 : decode cX1_reads 80 = .ok (.ifCond .ne 5, 3) := by decide +kernel
theorem dX1_reads_83 : decode cX1_reads 83 = .ok (.iconst 0, 1) := by decide +kernel
theorem dX1_reads_84 : decode cX1_reads 84 = .ok (.ireturn, 1) := by decide +kernel
theorem dX1_reads_85 : decode cX1_reads 85 = .ok (.aload_n 0, 1) := by decide +kernel
theorem dX1_reads_86 : decode cX1_reads 86 = .ok (.iload 5, 2) := by decide +kernel
theorem dX1_reads_88 : decode cX1_reads 88 = .ok (.ineg, 1) := by decide +kernel
theorem dX1_reads_89 : decode cX1_reads 89 = .ok (.invokevirtual 56, 3) := by decide +kernel
theorem dX1_reads_92 : decode cX1_reads 92 = .ok (.iinc 4 1, 3) := by decide +kernel
theorem dX1_reads_95 : decode cX1_reads 95 = .ok (.goto (-56), 3) := by decide +kernel
theorem dX1_reads_98 : decode cX1_reads 98 = .ok (.iconst 1, 1) := by decide +kernel
theorem dX1_reads_99 : decode cX1_reads 99 = .ok (.ireturn, 1) := by decide +kernel
theorem dX1_joins_0 : decode cX1_joins 0 = .ok (.iload_n 0, 1) := by decide +kernel
theorem dX1_joins_1 : decode cX1_joins 1 = .ok (.tableswitch 97 0 3 #[31, 43, 55, 79], 31) := by decide +kernel
theorem dX1_joins_32 : decode cX1_joins 32 = .ok (.iload_n 1, 1) := by decide +kernel
theorem dX1_joins_33 : decode cX1_joins 33 = .ok (.bipush 124, 2) := by decide +kernel
theorem dX1_joins_35 : decode cX1_joins 35 = .ok (.if_icmp .ne 7, 3) := by decide +kernel
theorem dX1_joins_38 : decode cX1_joins 38 = .ok (.iconst 1, 1) := by decide +kernel
theorem dX1_joins_39 : decode cX1_joins 39 = .ok (.goto 4, 3) := by decide +kernel
theorem dX1_joins_42 : decode cX1_joins 42 = .ok (.iconst 0, 1) := by decide +kernel
theorem dX1_joins_43 : decode cX1_joins 43 = .ok (.ireturn, 1) := by decide +kernel
theorem dX1_joins_44 : decode cX1_joins 44 = .ok (.iload_n 1, 1) := by decide +kernel
theorem dX1_joins_45 : decode cX1_joins 45 = .ok (.bipush 38, 2) := by decide +kernel
theorem dX1_joins_47 : decode cX1_joins 47 = .ok (.if_icmp .ne 7, 3) := by decide +kernel
theorem dX1_joins_50 : decode cX1_joins 50 = .ok (.iconst 1, 1) := by decide +kernel
theorem dX1_joins_51 : decode cX1_joins 51 = .ok (.goto 4, 3) := by decide +kernel
theorem dX1_joins_54 : decode cX1_joins 54 = .ok (.iconst 0, 1) := by decide +kernel
theorem dX1_joins_55 : decode cX1_joins 55 = .ok (.ireturn, 1) := by decide +kernel
theorem dX1_joins_56 : decode cX1_joins 56 = .ok (.iload_n 1, 1) := by decide +kernel
theorem dX1_joins_57 : decode cX1_joins 57 = .ok (.bipush 60, 2) := by decide +kernel
theorem dX1_joins_59 : decode cX1_joins 59 = .ok (.if_icmp .eq 15, 3) := by decide +kernel
theorem dX1_joins_62 : decode cX1_joins 62 = .ok (.iload_n 1, 1) := by decide +kernel
theorem dX1_joins_63 : decode cX1_joins 63 = .ok (.bipush 61, 2) := by decide +kernel
theorem dX1_joins_65 : decode cX1_joins 65 = .ok (.if_icmp .eq 9, 3) := by decide +kernel
theorem dX1_joins_68 : decode cX1_joins 68 = .ok (.iload_n 1, 1) := by decide +kernel
theorem dX1_joins_69 : decode cX1_joins 69 = .ok (.bipush 62, 2) := by decide +kernel
theorem dX1_joins_71 : decode cX1_joins 71 = .ok (.if_icmp .ne 7, 3) := by decide +kernel
theorem dX1_joins_74 : decode cX1_joins 74 = .ok (.iconst 1, 1) := by decide +kernel
theorem dX1_joins_75 : decode cX1_joins 75 = .ok (.goto 4, 3) := by decide +kernel
theorem dX1_joins_78 : decode cX1_joins 78 = .ok (.iconst 0, 1) := by decide +kernel
theorem dX1_joins_79 : decode cX1_joins 79 = .ok (.ireturn, 1) := by decide +kernel
theorem dX1_joins_80 : decode cX1_joins 80 = .ok (.iload_n 1, 1) := by decide +kernel
theorem dX1_joins_81 : decode cX1_joins 81 = .ok (.bipush 43, 2) := by decide +kernel
theorem dX1_joins_83 : decode cX1_joins 83 = .ok (.if_icmp .eq 9, 3) := by decide +kernel
theorem dX1_joins_86 : decode cX1_joins 86 = .ok (.iload_n 1, 1) := by decide +kernel
theorem dX1_joins_87 : decode cX1_joins 87 = .ok (.bipush 45, 2) := by decide +kernel
theorem dX1_joins_89 : decode cX1_joins 89 = .ok (.if_icmp .ne 7, 3) := by decide +kernel
theorem dX1_joins_92 : decode cX1_joins 92 = .ok (.iconst 1, 1) := by decide +kernel
theorem dX1_joins_93 : decode cX1_joins 93 = .ok (.goto 4, 3) := by decide +kernel
theorem dX1_joins_96 : decode cX1_joins 96 = .ok (.iconst 0, 1) := by decide +kernel
theorem dX1_joins_97 : decode cX1_joins 97 = .ok (.ireturn, 1) := by decide +kernel
theorem dX1_joins_98 : decode cX1_joins 98 = .ok (.iload_n 1, 1) := by decide +kernel
theorem dX1_joins_99 : decode cX1_joins 99 = .ok (.bipush 42, 2) := by decide +kernel
theorem dX1_joins_101 : decode cX1_joins 101 = .ok (.if_icmp .eq 15, 3) := by decide +kernel
theorem dX1_joins_104 : decode cX1_joins 104 = .ok (.iload_n 1, 1) := by decide +kernel
theorem dX1_joins_105 : decode cX1_joins 105 = .ok (.bipush 47, 2) := by decide +kernel
theorem dX1_joins_107 : decode cX1_joins 107 = .ok (.if_icmp .eq 9, 3) := by decide +kernel
theorem dX1_joins_110 : decode cX1_joins 110 = .ok (.iload_n 1, 1) := by decide +kernel
theorem dX1_joins_111 : decode cX1_joins 111 = .ok (.bipush 37, 2) := by decide +kernel
theorem dX1_joins_113 : decode cX1_joins 113 = .ok (.if_icmp .ne 7, 3) := by decide +kernel
theorem dX1_joins_116 : decode cX1_joins 116 = .ok (.iconst 1, 1) := by decide +kernel
theorem dX1_joins_117 : decode cX1_joins 117 = .ok (.goto 4, 3) := by decide +kernel
theorem dX1_joins_120 : decode cX1_joins 120 = .ok (.iconst 0, 1) := by decide +kernel
theorem dX1_joins_121 : decode cX1_joins 121 = .ok (.ireturn, 1) := by decide +kernel
theorem dX1_readsSmallest_0 : decode cX1_readsSmallest 0 = .ok (.aload_n 0, 1) := by decide +kernel
theorem dX1_readsSmallest_1 : decode cX1_readsSmallest 1 = .ok (.invokevirtual 49, 3) := by decide +kernel
theorem dX1_readsSmallest_4 : decode cX1_readsSmallest 4 = .ok (.istore_n 2, 1) := by decide +kernel
theorem dX1_readsSmallest_5 : decode cX1_readsSmallest 5 = .ok (.iload_n 2, 1) := by decide +kernel
theorem dX1_readsSmallest_6 : decode cX1_readsSmallest 6 = .ok (.invokestatic 60, 3) := by decide +kernel
theorem dX1_readsSmallest_9 : decode cX1_readsSmallest 9 = .ok (.ifCond .eq 9, 3) := by decide +kernel
theorem dX1_readsSmallest_12 : decode cX1_readsSmallest 12 = .ok (.aload_n 0, 1) := by decide +kernel
theorem dX1_readsSmallest_13 : decode cX1_readsSmallest 13 = .ok (.invokevirtual 63, 3) := by decide +kernel
theorem dX1_readsSmallest_16 : decode cX1_readsSmallest 16 = .ok (.iconst 1, 1) := by decide +kernel
theorem dX1_readsSmallest_17 : decode cX1_readsSmallest 17 = .ok (.ireturn, 1) := by decide +kernel
theorem dX1_readsSmallest_18 : decode cX1_readsSmallest 18 = .ok (.iload_n 2, 1) := by decide +kernel
theorem dX1_readsSmallest_19 : decode cX1_readsSmallest 19 = .ok (.bipush 33, 2) := by decide +kernel
theorem dX1_readsSmallest_21 : decode cX1_readsSmallest 21 = .ok (.if_icmp .eq 9, 3) := by decide +kernel
theorem dX1_readsSmallest_24 : decode cX1_readsSmallest 24 = .ok (.iload_n 2, 1) := by decide +kernel
theorem dX1_readsSmallest_25 : decode cX1_readsSmallest 25 = .ok (.bipush 40, 2) := by decide +kernel
theorem dX1_readsSmallest_27 : decode cX1_readsSmallest 27 = .ok (.if_icmp .ne 25, 3) := by decide +kernel
theorem dX1_readsSmallest_30 : decode cX1_readsSmallest 30 = .ok (.iload_n 1, 1) := by decide +kernel
theorem dX1_readsSmallest_31 : decode cX1_readsSmallest 31 = .ok (.iconst 5, 1) := by decide +kernel
theorem dX1_readsSmallest_32 : decode cX1_readsSmallest 32 = .ok (.if_icmp .ge 18, 3) := by decide +kernel
theorem dX1_readsSmallest_35 : decode cX1_readsSmallest 35 = .ok (.aload_n 0, 1) := by decide +kernel
theorem dX1_readsSmallest_36 : decode cX1_readsSmallest 36 = .ok (.iload_n 2, 1) := by decide +kernel
theorem dX1_readsSmallest_37 : decode cX1_readsSmallest 37 = .ok (.iload_n 1, 1) := by decide +kernel
theorem dX1_readsSmallest_38 : decode cX1_readsSmallest 38 = .ok (.iconst 1, 1) := by decide +kernel
theorem dX1_readsSmallest_39 : decode cX1_readsSmallest 39 = .ok (.iadd, 1) := by decide +kernel
theorem dX1_readsSmallest_40 : decode cX1_readsSmallest 40 = .ok (.invokevirtual 66, 3) := by decide +kernel
theorem dX1_readsSmallest_43 : decode cX1_readsSmallest 43 = .ok (.ifCond .eq 7, 3) := by decide +kernel
theorem dX1_readsSmallest_46 : decode cX1_readsSmallest 46 = .ok (.iconst 1, 1) := by decide +kernel
theorem dX1_readsSmallest_47 : decode cX1_readsSmallest 47 = .ok (.goto 4, 3) := by decide +kernel
theorem dX1_readsSmallest_50 : decode cX1_readsSmallest 50 = .ok (.iconst 0, 1) := by decide +kernel
theorem dX1_readsSmallest_51 : decode cX1_readsSmallest 51 = .ok (.ireturn, 1) := by decide +kernel
theorem dX1_readsSmallest_52 : decode cX1_readsSmallest 52 = .ok (.aload_n 0, 1) := by decide +kernel
theorem dX1_readsSmallest_53 : decode cX1_readsSmallest 53 = .ok (.iload_n 2, 1) := by decide +kernel
theorem dX1_readsSmallest_54 : decode cX1_readsSmallest 54 = .ok (.invokevirtual 69, 3) := by decide +kernel
theorem dX1_readsSmallest_57 : decode cX1_readsSmallest 57 = .ok (.ireturn, 1) := by decide +kernel
theorem dX1_readsOpened_0 : decode cX1_readsOpened 0 = .ok (.aload_n 0, 1) := by decide +kernel
theorem dX1_readsOpened_1 : decode cX1_readsOpened 1 = .ok (.dup, 1) := by decide +kernel
theorem dX1_readsOpened_2 : decode cX1_readsOpened 2 = .ok (.getfield 32, 3) := by decide +kernel
theorem dX1_readsOpened_5 : decode cX1_readsOpened 5 = .ok (.iconst 1, 1) := by decide +kernel
theorem dX1_readsOpened_6 : decode cX1_readsOpened 6 = .ok (.iadd, 1) := by decide +kernel
theorem dX1_readsOpened_7 : decode cX1_readsOpened 7 = .ok (.putfield 32, 3) := by decide +kernel
theorem dX1_readsOpened_10 : decode cX1_readsOpened 10 = .ok (.iload_n 1, 1) := by decide +kernel
theorem dX1_readsOpened_11 : decode cX1_readsOpened 11 = .ok (.bipush 33, 2) := by decide +kernel
theorem dX1_readsOpened_13 : decode cX1_readsOpened 13 = .ok (.if_icmp .ne 21, 3) := by decide +kernel
theorem dX1_readsOpened_16 : decode cX1_readsOpened 16 = .ok (.aload_n 0, 1) := by decide +kernel
theorem dX1_readsOpened_17 : decode cX1_readsOpened 17 = .ok (.iload_n 2, 1) := by decide +kernel
theorem dX1_readsOpened_18 : decode cX1_readsOpened 18 = .ok (.invokevirtual 45, 3) := by decide +kernel
theorem dX1_readsOpened_21 : decode cX1_readsOpened 21 = .ok (.ifCond .ne 5, 3) := by decide +kernel
theorem dX1_readsOpened_24 : decode cX1_readsOpened 24 = .ok (.iconst 0, 1) := by decide +kernel
theorem dX1_readsOpened_25 : decode cX1_readsOpened 25 = .ok (.ireturn, 1) := by decide +kernel
theorem dX1_readsOpened_26 : decode cX1_readsOpened 26 = .ok (.aload_n 0, 1) := by decide +kernel
theorem dX1_readsOpened_27 : decode cX1_readsOpened 27 = .ok (.bipush (-33), 2) := by decide +kernel
theorem dX1_readsOpened_29 : decode cX1_readsOpened 29 = .ok (.invokevirtual 56, 3) := by decide +kernel
theorem dX1_readsOpened_32 : decode cX1_readsOpened 32 = .ok (.iconst 1, 1) := by decide +kernel
theorem dX1_readsOpened_33 : decode cX1_readsOpened 33 = .ok (.ireturn, 1) := by decide +kernel
theorem dX1_readsOpened_34 : decode cX1_readsOpened 34 = .ok (.aload_n 0, 1) := by decide +kernel
theorem dX1_readsOpened_35 : decode cX1_readsOpened 35 = .ok (.iconst 0, 1) := by decide +kernel
theorem dX1_readsOpened_36 : decode cX1_readsOpened 36 = .ok (.iload_n 2, 1) := by decide +kernel
theorem dX1_readsOpened_37 : decode cX1_readsOpened 37 = .ok (.invokevirtual 41, 3) := by decide +kernel
theorem dX1_readsOpened_40 : decode cX1_readsOpened 40 = .ok (.ifCond .eq 12, 3) := by decide +kernel
theorem dX1_readsOpened_43 : decode cX1_readsOpened 43 = .ok (.aload_n 0, 1) := by decide +kernel
theorem dX1_readsOpened_44 : decode cX1_readsOpened 44 = .ok (.invokevirtual 49, 3) := by decide +kernel
theorem dX1_readsOpened_47 : decode cX1_readsOpened 47 = .ok (.bipush 41, 2) := by decide +kernel
theorem dX1_readsOpened_49 : decode cX1_readsOpened 49 = .ok (.if_icmp .eq 5, 3) := by decide +kernel
theorem dX1_readsOpened_52 : decode cX1_readsOpened 52 = .ok (.iconst 0, 1) := by decide +kernel
theorem dX1_readsOpened_53 : decode cX1_readsOpened 53 = .ok (.ireturn, 1) := by decide +kernel
theorem dX1_readsOpened_54 : decode cX1_readsOpened 54 = .ok (.aload_n 0, 1) := by decide +kernel
theorem dX1_readsOpened_55 : decode cX1_readsOpened 55 = .ok (.dup, 1) := by decide +kernel
theorem dX1_readsOpened_56 : decode cX1_readsOpened 56 = .ok (.getfield 32, 3) := by decide +kernel
theorem dX1_readsOpened_59 : decode cX1_readsOpened 59 = .ok (.iconst 1, 1) := by decide +kernel
theorem dX1_readsOpened_60 : decode cX1_readsOpened 60 = .ok (.iadd, 1) := by decide +kernel
theorem dX1_readsOpened_61 : decode cX1_readsOpened 61 = .ok (.putfield 32, 3) := by decide +kernel
theorem dX1_readsOpened_64 : decode cX1_readsOpened 64 = .ok (.iconst 1, 1) := by decide +kernel
theorem dX1_readsOpened_65 : decode cX1_readsOpened 65 = .ok (.ireturn, 1) := by decide +kernel
theorem dX1_readsName_0 : decode cX1_readsName 0 = .ok (.iconst 0, 1) := by decide +kernel
theorem dX1_readsName_1 : decode cX1_readsName 1 = .ok (.istore_n 2, 1) := by decide +kernel
theorem dX1_readsName_2 : decode cX1_readsName 2 = .ok (.iload_n 2, 1) := by decide +kernel
theorem dX1_readsName_3 : decode cX1_readsName 3 = .ok (.iconst 3, 1) := by decide +kernel
theorem dX1_readsName_4 : decode cX1_readsName 4 = .ok (.if_icmp .ge 58, 3) := by decide +kernel
theorem dX1_readsName_7 : decode cX1_readsName 7 = .ok (.aload_n 0, 1) := by decide +kernel
theorem dX1_readsName_8 : decode cX1_readsName 8 = .ok (.getfield 38, 3) := by decide +kernel
theorem dX1_readsName_11 : decode cX1_readsName 11 = .ok (.iload_n 2, 1) := by decide +kernel
theorem dX1_readsName_12 : decode cX1_readsName 12 = .ok (.iadd, 1) := by decide +kernel
theorem dX1_readsName_13 : decode cX1_readsName 13 = .ok (.istore_n 3, 1) := by decide +kernel
theorem dX1_readsName_14 : decode cX1_readsName 14 = .ok (.iload_n 3, 1) := by decide +kernel
theorem dX1_readsName_15 : decode cX1_readsName 15 = .ok (.ifCond .lt 41, 3) := by decide +kernel
theorem dX1_readsName_18 : decode cX1_readsName 18 = .ok (.iload_n 3, 1) := by decide +kernel
theorem dX1_readsName_19 : decode cX1_readsName 19 = .ok (.getstatic 72, 3) := by decide +kernel
theorem dX1_readsName_22 : decode cX1_readsName 22 = .ok (.arraylength, 1) := by decide +kernel
theorem dX1_readsName_23 : decode cX1_readsName 23 = .ok (.if_icmp .ge 33, 3) := by decide +kernel
theorem dX1_readsName_26 : decode cX1_readsName 26 = .ok (.getstatic 72, 3) := by decide +kernel
theorem dX1_readsName_29 : decode cX1_readsName 29 = .ok (.iload_n 3, 1) := by decide +kernel
theorem dX1_readsName_30 : decode cX1_readsName 30 = .ok (.caload, 1) := by decide +kernel
theorem dX1_readsName_31 : decode cX1_readsName 31 = .ok (.iload_n 1, 1) := by decide +kernel
theorem dX1_readsName_32 : decode cX1_readsName 32 = .ok (.if_icmp .ne 24, 3) := by decide +kernel
theorem dX1_readsName_35 : decode cX1_readsName 35 = .ok (.aload_n 0, 1) := by decide +kernel
theorem dX1_readsName_36 : decode cX1_readsName 36 = .ok (.dup, 1) := by decide +kernel
theorem dX1_readsName_37 : decode cX1_readsName 37 = .ok (.getfield 32, 3) := by decide +kernel
theorem dX1_readsName_40 : decode cX1_readsName 40 = .ok (.iconst 1, 1) := by decide +kernel
theorem dX1_readsName_41 : decode cX1_readsName 41 = .ok (.iadd, 1) := by decide +kernel
theorem dX1_readsName_42 : decode cX1_readsName 42 = .ok (.putfield 32, 3) := by decide +kernel
theorem dX1_readsName_45 : decode cX1_readsName 45 = .ok (.aload_n 0, 1) := by decide +kernel
theorem dX1_readsName_46 : decode cX1_readsName 46 = .ok (.sipush 10000, 3) := by decide +kernel
theorem dX1_readsName_49 : decode cX1_readsName 49 = .ok (.iload_n 2, 1) := by decide +kernel
theorem dX1_readsName_50 : decode cX1_readsName 50 = .ok (.iadd, 1) := by decide +kernel
theorem dX1_readsName_51 : decode cX1_readsName 51 = .ok (.invokevirtual 56, 3) := by decide +kernel
theorem dX1_readsName_54 : decode cX1_readsName 54 = .ok (.iconst 1, 1) := by decide +kernel
theorem dX1_readsName_55 : decode cX1_readsName 55 = .ok (.ireturn, 1) := by decide +kernel
theorem dX1_readsName_56 : decode cX1_readsName 56 = .ok (.iinc 2 1, 3) := by decide +kernel
theorem dX1_readsName_59 : decode cX1_readsName 59 = .ok (.goto (-57), 3) := by decide +kernel
theorem dX1_readsName_62 : decode cX1_readsName 62 = .ok (.iconst 0, 1) := by decide +kernel
theorem dX1_readsName_63 : decode cX1_readsName 63 = .ok (.ireturn, 1) := by decide +kernel
theorem dX1_readNumber_0 : decode cX1_readNumber 0 = .ok (.iconst 0, 1) := by decide +kernel
theorem dX1_readNumber_1 : decode cX1_readNumber 1 = .ok (.istore_n 1, 1) := by decide +kernel
theorem dX1_readNumber_2 : decode cX1_readNumber 2 = .ok (.iconst 0, 1) := by decide +kernel
theorem dX1_readNumber_3 : decode cX1_readNumber 3 = .ok (.istore_n 2, 1) := by decide +kernel
theorem dX1_readNumber_4 : decode cX1_readNumber 4 = .ok (.iload_n 2, 1) := by decide +kernel
theorem dX1_readNumber_5 : decode cX1_readNumber 5 = .ok (.iconst 4, 1) := by decide +kernel
theorem dX1_readNumber_6 : decode cX1_readNumber 6 = .ok (.if_icmp .ge 42, 3) := by decide +kernel
theorem dX1_readNumber_9 : decode cX1_readNumber 9 = .ok (.aload_n 0, 1) := by decide +kernel
theorem dX1_readNumber_10 : decode cX1_readNumber 10 = .ok (.invokevirtual 49, 3) := by decide +kernel
theorem dX1_readNumber_13 : decode cX1_readNumber 13 = .ok (.invokestatic 60, 3) := by decide +kernel
theorem dX1_readNumber_16 : decode cX1_readNumber 16 = .ok (.ifCond .eq 32, 3) := by decide +kernel
theorem dX1_readNumber_19 : decode cX1_readNumber 19 = .ok (.iload_n 1, 1) := by decide +kernel
theorem dX1_readNumber_20 : decode cX1_readNumber 20 = .ok (.bipush 10, 2) := by decide +kernel
theorem dX1_readNumber_22 : decode cX1_readNumber 22 = .ok (.imul, 1) := by decide +kernel
theorem dX1_readNumber_23 : decode cX1_readNumber 23 = .ok (.aload_n 0, 1) := by decide +kernel
theorem dX1_readNumber_24 : decode cX1_readNumber 24 = .ok (.invokevirtual 49, 3) := by decide +kernel
theorem dX1_readNumber_27 : decode cX1_readNumber 27 = .ok (.bipush 48, 2) := by decide +kernel
theorem dX1_readNumber_29 : decode cX1_readNumber 29 = .ok (.isub, 1) := by decide +kernel
theorem dX1_readNumber_30 : decode cX1_readNumber 30 = .ok (.iadd, 1) := by decide +kernel
theorem dX1_readNumber_31 : decode cX1_readNumber 31 = .ok (.istore_n 1, 1) := by decide +kernel
theorem dX1_readNumber_32 : decode cX1_readNumber 32 = .ok (.aload_n 0, 1) := by decide +kernel
theorem dX1_readNumber_33 : decode cX1_readNumber 33 = .ok (.dup, 1) := by decide +kernel
theorem dX1_readNumber_34 : decode cX1_readNumber 34 = .ok (.getfield 32, 3) := by decide +kernel
theorem dX1_readNumber_37 : decode cX1_readNumber 37 = .ok (.iconst 1, 1) := by decide +kernel
theorem dX1_readNumber_38 : decode cX1_readNumber 38 = .ok (.iadd, 1) := by decide +kernel
theorem dX1_readNumber_39 : decode cX1_readNumber 39 = .ok (.putfield 32, 3) := by decide +kernel
theorem dX1_readNumber_42 : decode cX1_readNumber 42 = .ok (.iinc 2 1, 3) := by decide +kernel
theorem dX1_readNumber_45 : decode cX1_readNumber 45 = .ok (.goto (-41), 3) := by decide +kernel
theorem dX1_readNumber_48 : decode cX1_readNumber 48 = .ok (.aload_n 0, 1) := by decide +kernel
theorem dX1_readNumber_49 : decode cX1_readNumber 49 = .ok (.iload_n 1, 1) := by decide +kernel
theorem dX1_readNumber_50 : decode cX1_readNumber 50 = .ok (.invokevirtual 56, 3) := by decide +kernel
theorem dX1_readNumber_53 : decode cX1_readNumber 53 = .ok (.return_, 1) := by decide +kernel
theorem dX1_isDigit_0 : decode cX1_isDigit 0 = .ok (.iload_n 0, 1) := by decide +kernel
theorem dX1_isDigit_1 : decode cX1_isDigit 1 = .ok (.bipush 48, 2) := by decide +kernel
theorem dX1_isDigit_3 : decode cX1_isDigit 3 = .ok (.if_icmp .lt 13, 3) := by decide +kernel
theorem dX1_isDigit_6 : decode cX1_isDigit 6 = .ok (.iload_n 0, 1) := by decide +kernel
theorem dX1_isDigit_7 : decode cX1_isDigit 7 = .ok (.bipush 57, 2) := by decide +kernel
theorem dX1_isDigit_9 : decode cX1_isDigit 9 = .ok (.if_icmp .gt 7, 3) := by decide +kernel
theorem dX1_isDigit_12 : decode cX1_isDigit 12 = .ok (.iconst 1, 1) := by decide +kernel
theorem dX1_isDigit_13 : decode cX1_isDigit 13 = .ok (.goto 4, 3) := by decide +kernel
theorem dX1_isDigit_16 : decode cX1_isDigit 16 = .ok (.iconst 0, 1) := by decide +kernel
theorem dX1_isDigit_17 : decode cX1_isDigit 17 = .ok (.ireturn, 1) := by decide +kernel
theorem dX2_init_0 : decode cX2_init 0 = .ok (.aload_n 0, 1) := by decide +kernel
theorem dX2_init_1 : decode cX2_init 1 = .ok (.invokespecial 1, 3) := by decide +kernel
theorem dX2_init_4 : decode cX2_init 4 = .ok (.aload_n 0, 1) := by decide +kernel
theorem dX2_init_5 : decode cX2_init 5 = .ok (.iconst 4, 1) := by decide +kernel
theorem dX2_init_6 : decode cX2_init 6 = .ok (.bipush 24, 2) := by decide +kernel
theorem dX2_init_8 : decode cX2_init 8 = .ok (.multianewarray 9 2, 4) := by decide +kernel
theorem dX2_init_12 : decode cX2_init 12 = .ok (.putfield 11, 3) := by decide +kernel
theorem dX2_init_15 : decode cX2_init 15 = .ok (.aload_n 0, 1) := by decide +kernel
theorem dX2_init_16 : decode cX2_init 16 = .ok (.iconst 4, 1) := by decide +kernel
theorem dX2_init_17 : decode cX2_init 17 = .ok (.newarray .int, 2) := by decide +kernel
theorem dX2_init_19 : decode cX2_init 19 = .ok (.putfield 14, 3) := by decide +kernel
theorem dX2_init_22 : decode cX2_init 22 = .ok (.aload_n 0, 1) := by decide +kernel
theorem dX2_init_23 : decode cX2_init 23 = .ok (.iconst 4, 1) := by decide +kernel
theorem dX2_init_24 : decode cX2_init 24 = .ok (.newarray .int, 2) := by decide +kernel
theorem dX2_init_26 : decode cX2_init 26 = .ok (.putfield 18, 3) := by decide +kernel
theorem dX2_init_29 : decode cX2_init 29 = .ok (.return_, 1) := by decide +kernel
theorem dX2_bits_0 : decode cX2_bits 0 = .ok (.iload_n 1, 1) := by decide +kernel
theorem dX2_bits_1 : decode cX2_bits 1 = .ok (.invokestatic 21, 3) := by decide +kernel
theorem dX2_bits_4 : decode cX2_bits 4 = .ok (.ifCond .eq 12, 3) := by decide +kernel
theorem dX2_bits_7 : decode cX2_bits 7 = .ok (.aload_n 0, 1) := by decide +kernel
theorem dX2_bits_8 : decode cX2_bits 8 = .ok (.getfield 14, 3) := by decide +kernel
theorem dX2_bits_11 : decode cX2_bits 11 = .ok (.iload_n 1, 1) := by decide +kernel
theorem dX2_bits_12 : decode cX2_bits 12 = .ok (.iaload, 1) := by decide +kernel
theorem dX2_bits_13 : decode cX2_bits 13 = .ok (.goto 4, 3) := by decide +kernel
theorem dX2_bits_16 : decode cX2_bits 16 = .ok (.iconst 0, 1) := by decide +kernel
theorem dX2_bits_17 : decode cX2_bits 17 = .ok (.ireturn, 1) := by decide +kernel
theorem dX2_isMissing_0 : decode cX2_isMissing 0 = .ok (.aload_n 0, 1) := by decide +kernel
theorem dX2_isMissing_1 : decode cX2_isMissing 1 = .ok (.iload_n 1, 1) := by decide +kernel
theorem dX2_isMissing_2 : decode cX2_isMissing 2 = .ok (.invokevirtual 27, 3) := by decide +kernel
theorem dX2_isMissing_5 : decode cX2_isMissing 5 = .ok (.ifCond .ne 7, 3) := by decide +kernel
theorem dX2_isMissing_8 : decode cX2_isMissing 8 = .ok (.iconst 1, 1) := by decide +kernel
theorem dX2_isMissing_9 : decode cX2_isMissing 9 = .ok (.goto 4, 3) := by decide +kernel
theorem dX2_isMissing_12 : decode cX2_isMissing 12 = .ok (.iconst 0, 1) := by decide +kernel
theorem dX2_isMissing_13 : decode cX2_isMissing 13 = .ok (.ireturn, 1) := by decide +kernel
theorem dX2_size_0 : decode cX2_size 0 = .ok (.iload_n 1, 1) := by decide +kernel
theorem dX2_size_1 : decode cX2_size 1 = .ok (.invokestatic 21, 3) := by decide +kernel
theorem dX2_size_4 : decode cX2_size 4 = .ok (.ifCond .eq 12, 3) := by decide +kernel
theorem dX2_size_7 : decode cX2_size 7 = .ok (.aload_n 0, 1) := by decide +kernel
theorem dX2_size_8 : decode cX2_size 8 = .ok (.getfield 18, 3) := by decide +kernel
theorem dX2_size_11 : decode cX2_size 11 = .ok (.iload_n 1, 1) := by decide +kernel
theorem dX2_size_12 : decode cX2_size 12 = .ok (.iaload, 1) := by decide +kernel
theorem dX2_size_13 : decode cX2_size 13 = .ok (.goto 4, 3) := by decide +kernel
theorem dX2_size_16 : decode cX2_size 16 = .ok (.iconst 0, 1) := by decide +kernel
theorem dX2_size_17 : decode cX2_size 17 = .ok (.ireturn, 1) := by decide +kernel
theorem dX2_holds_0 : decode cX2_holds 0 = .ok (.iload_n 3, 1) := by decide +kernel
theorem dX2_holds_1 : decode cX2_holds 1 = .ok (.ifCond .lt 31, 3) := by decide +kernel
theorem dX2_holds_4 : decode cX2_holds 4 = .ok (.iload_n 2, 1) := by decide +kernel
theorem dX2_holds_5 : decode cX2_holds 5 = .ok (.ifCond .lt 27, 3) := by decide +kernel
theorem dX2_holds_8 : decode cX2_holds 8 = .ok (.iload_n 3, 1) := by decide +kernel
theorem dX2_holds_9 : decode cX2_holds 9 = .ok (.aload_n 0, 1) := by decide +kernel
theorem dX2_holds_10 : decode cX2_holds 10 = .ok (.iload_n 1, 1) := by decide +kernel
theorem dX2_holds_11 : decode cX2_holds 11 = .ok (.invokevirtual 31, 3) := by decide +kernel
theorem dX2_holds_14 : decode cX2_holds 14 = .ok (.if_icmp .gt 18, 3) := by decide +kernel
theorem dX2_holds_17 : decode cX2_holds 17 = .ok (.iload_n 2, 1) := by decide +kernel
theorem dX2_holds_18 : decode cX2_holds 18 = .ok (.aload_n 0, 1) := by decide +kernel
theorem dX2_holds_19 : decode cX2_holds 19 = .ok (.iload_n 1, 1) := by decide +kernel
theorem dX2_holds_20 : decode cX2_holds 20 = .ok (.invokevirtual 31, 3) := by decide +kernel
theorem dX2_holds_23 : decode cX2_holds 23 = .ok (.iload_n 3, 1) := by decide +kernel
theorem dX2_holds_24 : decode cX2_holds 24 = .ok (.isub, 1) := by decide +kernel
theorem dX2_holds_25 : decode cX2_holds 25 = .ok (.if_icmp .gt 7, 3) := by decide +kernel
theorem dX2_holds_28 : decode cX2_holds 28 = .ok (.iconst 1, 1) := by decide +kernel
theorem dX2_holds_29 : decode cX2_holds 29 = .ok (.goto 4, 3) := by decide +kernel
theorem dX2_holds_32 : decode cX2_holds 32 = .ok (.iconst 0, 1) := by decide +kernel
theorem dX2_holds_33 : decode cX2_holds 33 = .ok (.ireturn, 1) := by decide +kernel
theorem dX2_number_0 : decode cX2_number 0 = .ok (.aload_n 0, 1) := by decide +kernel
theorem dX2_number_1 : decode cX2_number 1 = .ok (.iload_n 1, 1) := by decide +kernel
theorem dX2_number_2 : decode cX2_number 2 = .ok (.iload_n 2, 1) := by decide +kernel
theorem dX2_number_3 : decode cX2_number 3 = .ok (.iconst 1, 1) := by decide +kernel
theorem dX2_number_4 : decode cX2_number 4 = .ok (.invokevirtual 34, 3) := by decide +kernel
theorem dX2_number_7 : decode cX2_number 7 = .ok (.ifCond .eq 14, 3) := by decide +kernel
theorem dX2_number_10 : decode cX2_number 10 = .ok (.aload_n 0, 1) := by decide +kernel
theorem dX2_number_11 : decode cX2_number 11 = .ok (.getfield 11, 3) := by decide +kernel
theorem dX2_number_14 : decode cX2_number 14 = .ok (.iload_n 1, 1) := by decide +kernel
theorem dX2_number_15 : decode cX2_number 15 = .ok (.aaload, 1) := by decide +kernel
theorem dX2_number_16 : decode cX2_number 16 = .ok (.iload_n 2, 1) := by decide +kernel
theorem dX2_number_17 : decode cX2_number 17 = .ok (.iaload, 1) := by decide +kernel
theorem dX2_number_18 : decode cX2_number 18 = .ok (.goto 4, 3) := by decide +kernel
theorem dX2_number_21 : decode cX2_number 21 = .ok (.iconst 0, 1) := by decide +kernel
theorem dX2_number_22 : decode cX2_number 22 = .ok (.ireturn, 1) := by decide +kernel
theorem dX2_renew_0 : decode cX2_renew 0 = .ok (.iload_n 1, 1) := by decide +kernel
theorem dX2_renew_1 : decode cX2_renew 1 = .ok (.invokestatic 21, 3) := by decide +kernel
theorem dX2_renew_4 : decode cX2_renew 4 = .ok (.ifCond .ne 4, 3) := by decide +kernel
theorem dX2_renew_7 : decode cX2_renew 7 = .ok (.return_, 1) := by decide +kernel
theorem dX2_renew_8 : decode cX2_renew 8 = .ok (.aload_n 0, 1) := by decide +kernel
theorem dX2_renew_9 : decode cX2_renew 9 = .ok (.getfield 14, 3) := by decide +kernel
theorem dX2_renew_12 : decode cX2_renew 12 = .ok (.iload_n 1, 1) := by decide +kernel
theorem dX2_renew_13 : decode cX2_renew 13 = .ok (.iload_n 2, 1) := by decide +kernel
theorem dX2_renew_14 : decode cX2_renew 14 = .ok (.iastore, 1) := by decide +kernel
theorem dX2_renew_15 : decode cX2_renew 15 = .ok (.aload_n 0, 1) := by decide +kernel
theorem dX2_renew_16 : decode cX2_renew 16 = .ok (.getfield 18, 3) := by decide +kernel
theorem dX2_renew_19 : decode cX2_renew 19 = .ok (.iload_n 1, 1) := by decide +kernel
theorem dX2_renew_20 : decode cX2_renew 20 = .ok (.iload_n 3, 1) := by decide +kernel
theorem dX2_renew_21 : decode cX2_renew 21 = .ok (.iconst 0, 1) := by decide +kernel
theorem dX2_renew_22 : decode cX2_renew 22 = .ok (.bipush 24, 2) := by decide +kernel
theorem dX2_renew_24 : decode cX2_renew 24 = .ok (.invokestatic 38, 3) := by decide +kernel
theorem dX2_renew_27 : decode cX2_renew 27 = .ok (.iastore, 1) := by decide +kernel
theorem dX2_renew_28 : decode cX2_renew 28 = .ok (.iconst 0, 1) := by decide +kernel
theorem dX2_renew_29 : decode cX2_renew 29 = .ok (.istore 4, 2) := by decide +kernel
theorem dX2_renew_31 : decode cX2_renew 31 = .ok (.iload 4, 2) := by decide +kernel
theorem dX2_renew_33 : decode cX2_renew 33 = .ok (.bipush 24, 2) := by decide +kernel
theorem dX2_renew_35 : decode cX2_renew 35 = .ok (.if_icmp .ge 19, 3) := by decide +kernel
theorem dX2_renew_38 : decode cX2_renew 38 = .ok (.aload_n 0, 1) := by decide +kernel
theorem dX2_renew_39 : decode cX2_renew 39 = .ok (.getfield 11, 3) := by decide +kernel
theorem dX2_renew_42 : decode cX2_renew 42 = .ok (.iload_n 1, 1) := by decide +kernel
theorem dX2_renew_43 : decode cX2_renew 43 = .ok (.aaload, 1) := by decide +kernel
theorem dX2_renew_44 : decode cX2_renew 44 = .ok (.iload 4, 2) := by decide +kernel
theorem dX2_renew_46 : decode cX2_renew 46 = .ok (.iconst 0, 1) := by decide +kernel
theorem dX2_renew_47 : decode cX2_renew 47 = .ok (.iastore, 1) := by decide +kernel
theorem dX2_renew_48 : decode cX2_renew 48 = .ok (.iinc 4 1, 3) := by decide +kernel
theorem dX2_renew_51 : decode cX2_renew 51 = .ok (.goto (-20), 3) := by decide +kernel
theorem dX2_renew_54 : decode cX2_renew 54 = .ok (.return_, 1) := by decide +kernel
theorem dX2_write_0 : decode cX2_write 0 = .ok (.aload_n 0, 1) := by decide +kernel
theorem dX2_write_1 : decode cX2_write 1 = .ok (.iload_n 1, 1) := by decide +kernel
theorem dX2_write_2 : decode cX2_write 2 = .ok (.iload_n 2, 1) := by decide +kernel
theorem dX2_write_3 : decode cX2_write 3 = .ok (.iconst 1, 1) := by decide +kernel
theorem dX2_write_4 : decode cX2_write 4 = .ok (.invokevirtual 34, 3) := by decide +kernel
theorem dX2_write_7 : decode cX2_write 7 = .ok (.ifCond .eq 21, 3) := by decide +kernel
theorem dX2_write_10 : decode cX2_write 10 = .ok (.aload_n 0, 1) := by decide +kernel
theorem dX2_write_11 : decode cX2_write 11 = .ok (.getfield 11, 3) := by decide +kernel
theorem dX2_write_14 : decode cX2_write 14 = .ok (.iload_n 1, 1) := by decide +kernel
theorem dX2_write_15 : decode cX2_write 15 = .ok (.aaload, 1) := by decide +kernel
theorem dX2_write_16 : decode cX2_write 16 = .ok (.iload_n 2, 1) := by decide +kernel
theorem dX2_write_17 : decode cX2_write 17 = .ok (.iload_n 3, 1) := by decide +kernel
theorem dX2_write_18 : decode cX2_write 18 = .ok (.aload_n 0, 1) := by decide +kernel
theorem dX2_write_19 : decode cX2_write 19 = .ok (.getfield 14, 3) := by decide +kernel
theorem dX2_write_22 : decode cX2_write 22 = .ok (.iload_n 1, 1) := by decide +kernel
theorem dX2_write_23 : decode cX2_write 23 = .ok (.iaload, 1) := by decide +kernel
theorem dX2_write_24 : decode cX2_write 24 = .ok (.invokestatic 42, 3) := by decide +kernel
theorem dX2_write_27 : decode cX2_write 27 = .ok (.iastore, 1) := by decide +kernel
theorem dX2_write_28 : decode cX2_write 28 = .ok (.return_, 1) := by decide +kernel
theorem dX2_copy_0 : decode cX2_copy 0 = .ok (.aload_n 0, 1) := by decide +kernel
theorem dX2_copy_1 : decode cX2_copy 1 = .ok (.iload_n 1, 1) := by decide +kernel
theorem dX2_copy_2 : decode cX2_copy 2 = .ok (.iload_n 2, 1) := by decide +kernel
theorem dX2_copy_3 : decode cX2_copy 3 = .ok (.iload 5, 2) := by decide +kernel
theorem dX2_copy_5 : decode cX2_copy 5 = .ok (.invokevirtual 34, 3) := by decide +kernel
theorem dX2_copy_8 : decode cX2_copy 8 = .ok (.ifCond .eq 49, 3) := by decide +kernel
theorem dX2_copy_11 : decode cX2_copy 11 = .ok (.aload_n 0, 1) := by decide +kernel
theorem dX2_copy_12 : decode cX2_copy 12 = .ok (.iload_n 3, 1) := by decide +kernel
theorem dX2_copy_13 : decode cX2_copy 13 = .ok (.iload 4, 2) := by decide +kernel
theorem dX2_copy_15 : decode cX2_copy 15 = .ok (.iload 5, 2) := by decide +kernel
theorem dX2_copy_17 : decode cX2_copy 17 = .ok (.invokevirtual 34, 3) := by decide +kernel
theorem dX2_copy_20 : decode cX2_copy 20 = .ok (.ifCond .eq 37, 3) := by decide +kernel
theorem dX2_copy_23 : decode cX2_copy 23 = .ok (.iload_n 1, 1) := by decide +kernel
theorem dX2_copy_24 : decode cX2_copy 24 = .ok (.invokestatic 21, 3) := by decide +kernel
theorem dX2_copy_27 : decode cX2_copy 27 = .ok (.ifCond .eq 30, 3) := by decide +kernel
theorem dX2_copy_30 : decode cX2_copy 30 = .ok (.iload_n 3, 1) := by decide +kernel
theorem dX2_copy_31 : decode cX2_copy 31 = .ok (.invokestatic 21, 3) := by decide +kernel
theorem dX2_copy_34 : decode cX2_copy 34 = .ok (.ifCond .eq 23, 3) := by decide +kernel
theorem dX2_copy_37 : decode cX2_copy 37 = .ok (.aload_n 0, 1) := by decide +kernel
theorem dX2_copy_38 : decode cX2_copy 38 = .ok (.getfield 11, 3) := by decide +kernel
theorem dX2_copy_41 : decode cX2_copy 41 = .ok (.iload_n 1, 1) := by decide +kernel
theorem dX2_copy_42 : decode cX2_copy 42 = .ok (.aaload, 1) := by decide +kernel
theorem dX2_copy_43 : decode cX2_copy 43 = .ok (.iload_n 2, 1) := by decide +kernel
theorem dX2_copy_44 : decode cX2_copy 44 = .ok (.aload_n 0, 1) := by decide +kernel
theorem dX2_copy_45 : decode cX2_copy 45 = .ok (.getfield 11, 3) := by decide +kernel
theorem dX2_copy_48 : decode cX2_copy 48 = .ok (.iload_n 3, 1) := by decide +kernel
theorem dX2_copy_49 : decode cX2_copy 49 = .ok (.aaload, 1) := by decide +kernel
theorem dX2_copy_50 : decode cX2_copy 50 = .ok (.iload 4, 2) := by decide +kernel
theorem dX2_copy_52 : decode cX2_copy 52 = .ok (.iload 5, 2) := by decide +kernel
theorem dX2_copy_54 : decode cX2_copy 54 = .ok (.invokestatic 46, 3) := by decide +kernel
theorem dX2_copy_57 : decode cX2_copy 57 = .ok (.return_, 1) := by decide +kernel
theorem dX2_lowest_0 : decode cX2_lowest 0 = .ok (.iload_n 1, 1) := by decide +kernel
theorem dX2_lowest_1 : decode cX2_lowest 1 = .ok (.bipush 8, 2) := by decide +kernel
theorem dX2_lowest_3 : decode cX2_lowest 3 = .ok (.if_icmp .ne 6, 3) := by decide +kernel
theorem dX2_lowest_6 : decode cX2_lowest 6 = .ok (.iload_n 0, 1) := by decide +kernel
theorem dX2_lowest_7 : decode cX2_lowest 7 = .ok (.i2b, 1) := by decide +kernel
theorem dX2_lowest_8 : decode cX2_lowest 8 = .ok (.ireturn, 1) := by decide +kernel
theorem dX2_lowest_9 : decode cX2_lowest 9 = .ok (.iload_n 1, 1) := by decide +kernel
theorem dX2_lowest_10 : decode cX2_lowest 10 = .ok (.bipush 16, 2) := by decide +kernel
theorem dX2_lowest_12 : decode cX2_lowest 12 = .ok (.if_icmp .ne 8, 3) := by decide +kernel
theorem dX2_lowest_15 : decode cX2_lowest 15 = .ok (.iload_n 0, 1) := by decide +kernel
theorem dX2_lowest_16 : decode cX2_lowest 16 = .ok (.i2s, 1) := by decide +kernel
theorem dX2_lowest_17 : decode cX2_lowest 17 = .ok (.goto 4, 3) := by decide +kernel
theorem dX2_lowest_20 : decode cX2_lowest 20 = .ok (.iload_n 0, 1) := by decide +kernel
theorem dX2_lowest_21 : decode cX2_lowest 21 = .ok (.ireturn, 1) := by decide +kernel
theorem dX4_init_0 : decode cX4_init 0 = .ok (.aload_n 0, 1) := by decide +kernel
theorem dX4_init_1 : decode cX4_init 1 = .ok (.invokespecial 3, 3) := by decide +kernel
theorem dX4_init_4 : decode cX4_init 4 = .ok (.aload_n 0, 1) := by decide +kernel
theorem dX4_init_5 : decode cX4_init 5 = .ok (.bipush 10, 2) := by decide +kernel
theorem dX4_init_7 : decode cX4_init 7 = .ok (.bipush 121, 2) := by decide +kernel
theorem dX4_init_9 : decode cX4_init 9 = .ok (.multianewarray 11 2, 4) := by decide +kernel
theorem dX4_init_13 : decode cX4_init 13 = .ok (.putfield 13, 3) := by decide +kernel
theorem dX4_init_16 : decode cX4_init 16 = .ok (.aload_n 0, 1) := by decide +kernel
theorem dX4_init_17 : decode cX4_init 17 = .ok (.bipush 10, 2) := by decide +kernel
theorem dX4_init_19 : decode cX4_init 19 = .ok (.bipush 121, 2) := by decide +kernel
theorem dX4_init_21 : decode cX4_init 21 = .ok (.multianewarray 11 2, 4) := by decide +kernel
theorem dX4_init_25 : decode cX4_init 25 = .ok (.putfield 16, 3) := by decide +kernel
theorem dX4_init_28 : decode cX4_init 28 = .ok (.aload_n 0, 1) := by decide +kernel
theorem dX4_init_29 : decode cX4_init 29 = .ok (.bipush 10, 2) := by decide +kernel
theorem dX4_init_31 : decode cX4_init 31 = .ok (.newarray .int, 2) := by decide +kernel
theorem dX4_init_33 : decode cX4_init 33 = .ok (.putfield 19, 3) := by decide +kernel
theorem dX4_init_36 : decode cX4_init 36 = .ok (.aload_n 0, 1) := by decide +kernel
theorem dX4_init_37 : decode cX4_init 37 = .ok (.bipush 10, 2) := by decide +kernel
theorem dX4_init_39 : decode cX4_init 39 = .ok (.newarray .int, 2) := by decide +kernel
theorem dX4_init_41 : decode cX4_init 41 = .ok (.putfield 23, 3) := by decide +kernel
theorem dX4_init_44 : decode cX4_init 44 = .ok (.return_, 1) := by decide +kernel
theorem dX4_leastRising_0 : decode cX4_leastRising 0 = .ok (.aload_n 1, 1) := by decide +kernel
theorem dX4_leastRising_1 : decode cX4_leastRising 1 = .ok (.getfield 26, 3) := by decide +kernel
theorem dX4_leastRising_4 : decode cX4_leastRising 4 = .ok (.bipush 10, 2) := by decide +kernel
theorem dX4_leastRising_6 : decode cX4_leastRising 6 = .ok (.invokestatic 32, 3) := by decide +kernel
theorem dX4_leastRising_9 : decode cX4_leastRising 9 = .ok (.istore_n 2, 1) := by decide +kernel
theorem dX4_leastRising_10 : decode cX4_leastRising 10 = .ok (.iconst 0, 1) := by decide +kernel
theorem dX4_leastRising_11 : decode cX4_leastRising 11 = .ok (.istore_n 3, 1) := by decide +kernel
theorem dX4_leastRising_12 : decode cX4_leastRising 12 = .ok (.iload_n 3, 1) := by decide +kernel
theorem dX4_leastRising_13 : decode cX4_leastRising 13 = .ok (.iload_n 2, 1) := by decide +kernel
theorem dX4_leastRising_14 : decode cX4_leastRising 14 = .ok (.if_icmp .ge 15, 3) := by decide +kernel
theorem dX4_leastRising_17 : decode cX4_leastRising 17 = .ok (.aload_n 0, 1) := by decide +kernel
theorem dX4_leastRising_18 : decode cX4_leastRising 18 = .ok (.aload_n 1, 1) := by decide +kernel
theorem dX4_leastRising_19 : decode cX4_leastRising 19 = .ok (.iload_n 3, 1) := by decide +kernel
theorem dX4_leastRising_20 : decode cX4_leastRising 20 = .ok (.invokevirtual 38, 3) := by decide +kernel
theorem dX4_leastRising_23 : decode cX4_leastRising 23 = .ok (.iinc 3 1, 3) := by decide +kernel
theorem dX4_leastRising_26 : decode cX4_leastRising 26 = .ok (.goto (-14), 3) := by decide +kernel
theorem dX4_leastRising_29 : decode cX4_leastRising 29 = .ok (.bipush 120, 2) := by decide +kernel
theorem dX4_leastRising_31 : decode cX4_leastRising 31 = .ok (.istore_n 3, 1) := by decide +kernel
theorem dX4_leastRising_32 : decode cX4_leastRising 32 = .ok (.iload_n 2, 1) := by decide +kernel
theorem dX4_leastRising_33 : decode cX4_leastRising 33 = .ok (.iconst 1, 1) := by decide +kernel
theorem dX4_leastRising_34 : decode cX4_leastRising 34 = .ok (.isub, 1) := by decide +kernel
theorem dX4_leastRising_35 : decode cX4_leastRising 35 = .ok (.istore 4, 2) := by decide +kernel
theorem dX4_leastRising_37 : decode cX4_leastRising 37 = .ok (.iload 4, 2) := by decide +kernel
theorem dX4_leastRising_39 : decode cX4_leastRising 39 = .ok (.ifCond .lt 43, 3) := by decide +kernel
theorem dX4_leastRising_42 : decode cX4_leastRising 42 = .ok (.aload_n 0, 1) := by decide +kernel
theorem dX4_leastRising_43 : decode cX4_leastRising 43 = .ok (.getfield 19, 3) := by decide +kernel
theorem dX4_leastRising_46 : decode cX4_leastRising 46 = .ok (.iload 4, 2) := by decide +kernel
theorem dX4_leastRising_48 : decode cX4_leastRising 48 = .ok (.iload_n 3, 1) := by decide +kernel
theorem dX4_leastRising_49 : decode cX4_leastRising 49 = .ok (.ifCond .lt 15, 3) := by decide +kernel
theorem dX4_leastRising_52 : decode cX4_leastRising 52 = .ok (.aload_n 0, 1) := by decide +kernel
theorem dX4_leastRising_53 : decode cX4_leastRising 53 = .ok (.getfield 16, 3) := by decide +kernel
theorem dX4_leastRising_56 : decode cX4_leastRising 56 = .ok (.iload 4, 2) := by decide +kernel
theorem dX4_leastRising_58 : decode cX4_leastRising 58 = .ok (.aaload, 1) := by decide +kernel
theorem dX4_leastRising_59 : decode cX4_leastRising 59 = .ok (.iload_n 3, 1) := by decide +kernel
theorem dX4_leastRising_60 : decode cX4_leastRising 60 = .ok (.iaload, 1) := by decide +kernel
theorem dX4_leastRising_61 : decode cX4_leastRising 61 = .ok (.goto 4, 3) := by decide +kernel
theorem dX4_leastRising_64 : decode cX4_leastRising 64 = .ok (.iconst 0, 1) := by decide +kernel
theorem dX4_leastRising_65 : decode cX4_leastRising 65 = .ok (.iastore, 1) := by decide +kernel
theorem dX4_leastRising_66 : decode cX4_leastRising 66 = .ok (.aload_n 0, 1) := by decide +kernel
theorem dX4_leastRising_67 : decode cX4_leastRising 67 = .ok (.getfield 19, 3) := by decide +kernel
theorem dX4_leastRising_70 : decode cX4_leastRising 70 = .ok (.iload 4, 2) := by decide +kernel
theorem dX4_leastRising_72 : decode cX4_leastRising 72 = .ok (.iaload, 1) := by decide +kernel
theorem dX4_leastRising_73 : decode cX4_leastRising 73 = .ok (.iconst 1, 1) := by decide +kernel
theorem dX4_leastRising_74 : decode cX4_leastRising 74 = .ok (.isub, 1) := by decide +kernel
theorem dX4_leastRising_75 : decode cX4_leastRising 75 = .ok (.istore_n 3, 1) := by decide +kernel
theorem dX4_leastRising_76 : decode cX4_leastRising 76 = .ok (.iinc 4 (-1), 3) := by decide +kernel
theorem dX4_leastRising_79 : decode cX4_leastRising 79 = .ok (.goto (-42), 3) := by decide +kernel
theorem dX4_leastRising_82 : decode cX4_leastRising 82 = .ok (.iload_n 2, 1) := by decide +kernel
theorem dX4_leastRising_83 : decode cX4_leastRising 83 = .ok (.ifCond .le 17, 3) := by decide +kernel
theorem dX4_leastRising_86 : decode cX4_leastRising 86 = .ok (.aload_n 0, 1) := by decide +kernel
theorem dX4_leastRising_87 : decode cX4_leastRising 87 = .ok (.getfield 13, 3) := by decide +kernel
theorem dX4_leastRising_90 : decode cX4_leastRising 90 = .ok (.iload_n 2, 1) := by decide +kernel
theorem dX4_leastRising_91 : decode cX4_leastRising 91 = .ok (.iconst 1, 1) := by decide +kernel
theorem dX4_leastRising_92 : decode cX4_leastRising 92 = .ok (.isub, 1) := by decide +kernel
theorem dX4_leastRising_93 : decode cX4_leastRising 93 = .ok (.aaload, 1) := by decide +kernel
theorem dX4_leastRising_94 : decode cX4_leastRising 94 = .ok (.bipush 120, 2) := by decide +kernel
theorem dX4_leastRising_96 : decode cX4_leastRising 96 = .ok (.iaload, 1) := by decide +kernel
theorem dX4_leastRising_97 : decode cX4_leastRising 97 = .ok (.goto 4, 3) := by decide +kernel
theorem dX4_leastRising_100 : decode cX4_leastRising 100 = .ok (.iconst 0, 1) := by decide +kernel
theorem dX4_leastRising_101 : decode cX4_leastRising 101 = .ok (.ireturn, 1) := by decide +kernel
theorem dX4_risingOf_0 : decode cX4_risingOf 0 = .ok (.iload_n 1, 1) := by decide +kernel
theorem dX4_risingOf_1 : decode cX4_risingOf 1 = .ok (.ifCond .lt 18, 3) := by decide +kernel
theorem dX4_risingOf_4 : decode cX4_risingOf 4 = .ok (.iload_n 1, 1) := by decide +kernel
theorem dX4_risingOf_5 : decode cX4_risingOf 5 = .ok (.bipush 10, 2) := by decide +kernel
theorem dX4_risingOf_7 : decode cX4_risingOf 7 = .ok (.if_icmp .ge 12, 3) := by decide +kernel
theorem dX4_risingOf_10 : decode cX4_risingOf 10 = .ok (.aload_n 0, 1) := by decide +kernel
theorem dX4_risingOf_11 : decode cX4_risingOf 11 = .ok (.getfield 19, 3) := by decide +kernel
theorem dX4_risingOf_14 : decode cX4_risingOf 14 = .ok (.iload_n 1, 1) := by decide +kernel
theorem dX4_risingOf_15 : decode cX4_risingOf 15 = .ok (.iaload, 1) := by decide +kernel
theorem dX4_risingOf_16 : decode cX4_risingOf 16 = .ok (.goto 4, 3) := by decide +kernel
theorem dX4_risingOf_19 : decode cX4_risingOf 19 = .ok (.iconst 0, 1) := by decide +kernel
theorem dX4_risingOf_20 : decode cX4_risingOf 20 = .ok (.ireturn, 1) := by decide +kernel
theorem dX4_sumUpTo_0 : decode cX4_sumUpTo 0 = .ok (.iload_n 2, 1) := by decide +kernel
theorem dX4_sumUpTo_1 : decode cX4_sumUpTo 1 = .ok (.ifCond .lt 9, 3) := by decide +kernel
theorem dX4_sumUpTo_4 : decode cX4_sumUpTo 4 = .ok (.iload_n 2, 1) := by decide +kernel
theorem dX4_sumUpTo_5 : decode cX4_sumUpTo 5 = .ok (.bipush 10, 2) := by decide +kernel
theorem dX4_sumUpTo_7 : decode cX4_sumUpTo 7 = .ok (.if_icmp .lt 4, 3) := by decide +kernel
theorem dX4_sumUpTo_10 : decode cX4_sumUpTo 10 = .ok (.return_, 1) := by decide +kernel
theorem dX4_sumUpTo_11 : decode cX4_sumUpTo 11 = .ok (.aload_n 1, 1) := by decide +kernel
theorem dX4_sumUpTo_12 : decode cX4_sumUpTo 12 = .ok (.iload_n 2, 1) := by decide +kernel
theorem dX4_sumUpTo_13 : decode cX4_sumUpTo 13 = .ok (.invokevirtual 42, 3) := by decide +kernel
theorem dX4_sumUpTo_16 : decode cX4_sumUpTo 16 = .ok (.istore_n 3, 1) := by decide +kernel
theorem dX4_sumUpTo_17 : decode cX4_sumUpTo 17 = .ok (.ldc 46, 2) := by decide +kernel
theorem dX4_sumUpTo_19 : decode cX4_sumUpTo 19 = .ok (.istore 4, 2) := by decide +kernel
theorem dX4_sumUpTo_21 : decode cX4_sumUpTo 21 = .ok (.iconst 0, 1) := by decide +kernel
theorem dX4_sumUpTo_22 : decode cX4_sumUpTo 22 = .ok (.istore 5, 2) := by decide +kernel
theorem dX4_sumUpTo_24 : decode cX4_sumUpTo 24 = .ok (.aload_n 0, 1) := by decide +kernel
theorem dX4_sumUpTo_25 : decode cX4_sumUpTo 25 = .ok (.getfield 13, 3) := by decide +kernel
theorem dX4_sumUpTo_28 : decode cX4_sumUpTo 28 = .ok (.iload_n 2, 1) := by decide +kernel
theorem dX4_sumUpTo_29 : decode cX4_sumUpTo 29 = .ok (.aaload, 1) := by decide +kernel
theorem dX4_sumUpTo_30 : decode cX4_sumUpTo 30 = .ok (.iconst 0, 1) := by decide +kernel
theorem dX4_sumUpTo_31 : decode cX4_sumUpTo 31 = .ok (.iload 4, 2) := by decide +kernel
theorem dX4_sumUpTo_33 : decode cX4_sumUpTo 33 = .ok (.iastore, 1) := by decide +kernel
theorem dX4_sumUpTo_34 : decode cX4_sumUpTo 34 = .ok (.aload_n 0, 1) := by decide +kernel
theorem dX4_sumUpTo_35 : decode cX4_sumUpTo 35 = .ok (.getfield 16, 3) := by decide +kernel
theorem dX4_sumUpTo_38 : decode cX4_sumUpTo 38 = .ok (.iload_n 2, 1) := by decide +kernel
theorem dX4_sumUpTo_39 : decode cX4_sumUpTo 39 = .ok (.aaload, 1) := by decide +kernel
theorem dX4_sumUpTo_40 : decode cX4_sumUpTo 40 = .ok (.iconst 0, 1) := by decide +kernel
theorem dX4_sumUpTo_41 : decode cX4_sumUpTo 41 = .ok (.iload 5, 2) := by decide +kernel
theorem dX4_sumUpTo_43 : decode cX4_sumUpTo 43 = .ok (.iastore, 1) := by decide +kernel
theorem dX4_sumUpTo_44 : decode cX4_sumUpTo 44 = .ok (.iconst 1, 1) := by decide +kernel
theorem dX4_sumUpTo_45 : decode cX4_sumUpTo 45 = .ok (.istore 6, 2) := by decide +kernel
theorem dX4_sumUpTo_47 : decode cX4_sumUpTo 47 = .ok (.iload 6, 2) := by decide +kernel
theorem dX4_sumUpTo_49 : decode cX4_sumUpTo 49 = .ok (.bipush 120, 2) := by decide +kernel
theorem dX4_sumUpTo_51 : decode cX4_sumUpTo 51 = .ok (.if_icmp .gt 88, 3) := by decide +kernel
theorem dX4_sumUpTo_54 : decode cX4_sumUpTo 54 = .ok (.iload_n 2, 1) := by decide +kernel
theorem dX4_sumUpTo_55 : decode cX4_sumUpTo 55 = .ok (.ifCond .le 19, 3) := by decide +kernel
theorem dX4_sumUpTo_58 : decode cX4_sumUpTo 58 = .ok (.aload_n 0, 1) := by decide +kernel
theorem dX4_sumUpTo_59 : decode cX4_sumUpTo 59 = .ok (.getfield 13, 3) := by decide +kernel
theorem dX4_sumUpTo_62 : decode cX4_sumUpTo 62 = .ok (.iload_n 2, 1) := by decide +kernel
theorem dX4_sumUpTo_63 : decode cX4_sumUpTo 63 = .ok (.iconst 1, 1) := by decide +kernel
theorem dX4_sumUpTo_64 : decode cX4_sumUpTo 64 = .ok (.isub, 1) := by decide +kernel
theorem dX4_sumUpTo_65 : decode cX4_sumUpTo 65 = .ok (.aaload, 1) := by decide +kernel
theorem dX4_sumUpTo_66 : decode cX4_sumUpTo 66 = .ok (.iload 6, 2) := by decide +kernel
theorem dX4_sumUpTo_68 : decode cX4_sumUpTo 68 = .ok (.iconst 1, 1) := by decide +kernel
theorem dX4_sumUpTo_69 : decode cX4_sumUpTo 69 = .ok (.isub, 1) := by decide +kernel
theorem dX4_sumUpTo_70 : decode cX4_sumUpTo 70 = .ok (.iaload, 1) := by decide +kernel
theorem dX4_sumUpTo_71 : decode cX4_sumUpTo 71 = .ok (.goto 4, 3) := by decide +kernel
theorem dX4_sumUpTo_74 : decode cX4_sumUpTo 74 = .ok (.iconst 0, 1) := by decide +kernel
theorem dX4_sumUpTo_75 : decode cX4_sumUpTo 75 = .ok (.istore 7, 2) := by decide +kernel
theorem dX4_sumUpTo_77 : decode cX4_sumUpTo 77 = .ok (.iload 7, 2) := by decide +kernel
theorem dX4_sumUpTo_79 : decode cX4_sumUpTo 79 = .ok (.aload_n 1, 1) := by decide +kernel
theorem dX4_sumUpTo_80 : decode cX4_sumUpTo 80 = .ok (.iload_n 3, 1) := by decide +kernel
theorem dX4_sumUpTo_81 : decode cX4_sumUpTo 81 = .ok (.iload 6, 2) := by decide +kernel
theorem dX4_sumUpTo_83 : decode cX4_sumUpTo 83 = .ok (.invokevirtual 47, 3) := by decide +kernel
theorem dX4_sumUpTo_86 : decode cX4_sumUpTo 86 = .ok (.iadd, 1) := by decide +kernel
theorem dX4_sumUpTo_87 : decode cX4_sumUpTo 87 = .ok (.istore 8, 2) := by decide +kernel
theorem dX4_sumUpTo_89 : decode cX4_sumUpTo 89 = .ok (.iload 7, 2) := by decide +kernel
theorem dX4_sumUpTo_91 : decode cX4_sumUpTo 91 = .ok (.ldc 46, 2) := by decide +kernel
theorem dX4_sumUpTo_93 : decode cX4_sumUpTo 93 = .ok (.if_icmp .ge 18, 3) := by decide +kernel
theorem dX4_sumUpTo_96 : decode cX4_sumUpTo 96 = .ok (.iload 8, 2) := by decide +kernel
theorem dX4_sumUpTo_98 : decode cX4_sumUpTo 98 = .ok (.iload 4, 2) := by decide +kernel
theorem dX4_sumUpTo_100 : decode cX4_sumUpTo 100 = .ok (.if_icmp .ge 11, 3) := by decide +kernel
theorem dX4_sumUpTo_103 : decode cX4_sumUpTo 103 = .ok (.iload 8, 2) := by decide +kernel
theorem dX4_sumUpTo_105 : decode cX4_sumUpTo 105 = .ok (.istore 4, 2) := by decide +kernel
theorem dX4_sumUpTo_107 : decode cX4_sumUpTo 107 = .ok (.iload 6, 2) := by decide +kernel
theorem dX4_sumUpTo_109 : decode cX4_sumUpTo 109 = .ok (.istore 5, 2) := by decide +kernel
theorem dX4_sumUpTo_111 : decode cX4_sumUpTo 111 = .ok (.aload_n 0, 1) := by decide +kernel
theorem dX4_sumUpTo_112 : decode cX4_sumUpTo 112 = .ok (.getfield 13, 3) := by decide +kernel
theorem dX4_sumUpTo_115 : decode cX4_sumUpTo 115 = .ok (.iload_n 2, 1) := by decide +kernel
theorem dX4_sumUpTo_116 : decode cX4_sumUpTo 116 = .ok (.aaload, 1) := by decide +kernel
theorem dX4_sumUpTo_117 : decode cX4_sumUpTo 117 = .ok (.iload 6, 2) := by decide +kernel
theorem dX4_sumUpTo_119 : decode cX4_sumUpTo 119 = .ok (.iload 4, 2) := by decide +kernel
theorem dX4_sumUpTo_121 : decode cX4_sumUpTo 121 = .ok (.iastore, 1) := by decide +kernel
theorem dX4_sumUpTo_122 : decode cX4_sumUpTo 122 = .ok (.aload_n 0, 1) := by decide +kernel
theorem dX4_sumUpTo_123 : decode cX4_sumUpTo 123 = .ok (.getfield 16, 3) := by decide +kernel
theorem dX4_sumUpTo_126 : decode cX4_sumUpTo 126 = .ok (.iload_n 2, 1) := by decide +kernel
theorem dX4_sumUpTo_127 : decode cX4_sumUpTo 127 = .ok (.aaload, 1) := by decide +kernel
theorem dX4_sumUpTo_128 : decode cX4_sumUpTo 128 = .ok (.iload 6, 2) := by decide +kernel
theorem dX4_sumUpTo_130 : decode cX4_sumUpTo 130 = .ok (.iload 5, 2) := by decide +kernel
theorem dX4_sumUpTo_132 : decode cX4_sumUpTo 132 = .ok (.iastore, 1) := by decide +kernel
theorem dX4_sumUpTo_133 : decode cX4_sumUpTo 133 = .ok (.iinc 6 1, 3) := by decide +kernel
theorem dX4_sumUpTo_136 : decode cX4_sumUpTo 136 = .ok (.goto (-89), 3) := by decide +kernel
theorem dX4_sumUpTo_139 : decode cX4_sumUpTo 139 = .ok (.return_, 1) := by decide +kernel
theorem dX4_longestRising_0 : decode cX4_longestRising 0 = .ok (.iconst 0, 1) := by decide +kernel
theorem dX4_longestRising_1 : decode cX4_longestRising 1 = .ok (.istore_n 2, 1) := by decide +kernel
theorem dX4_longestRising_2 : decode cX4_longestRising 2 = .ok (.iconst 0, 1) := by decide +kernel
theorem dX4_longestRising_3 : decode cX4_longestRising 3 = .ok (.istore_n 3, 1) := by decide +kernel
theorem dX4_longestRising_4 : decode cX4_longestRising 4 = .ok (.iload_n 3, 1) := by decide +kernel
theorem dX4_longestRising_5 : decode cX4_longestRising 5 = .ok (.bipush 10, 2) := by decide +kernel
theorem dX4_longestRising_7 : decode cX4_longestRising 7 = .ok (.if_icmp .ge 80, 3) := by decide +kernel
theorem dX4_longestRising_10 : decode cX4_longestRising 10 = .ok (.iload_n 3, 1) := by decide +kernel
theorem dX4_longestRising_11 : decode cX4_longestRising 11 = .ok (.aload_n 1, 1) := by decide +kernel
theorem dX4_longestRising_12 : decode cX4_longestRising 12 = .ok (.getfield 26, 3) := by decide +kernel
theorem dX4_longestRising_15 : decode cX4_longestRising 15 = .ok (.if_icmp .ge 72, 3) := by decide +kernel
theorem dX4_longestRising_18 : decode cX4_longestRising 18 = .ok (.iconst 1, 1) := by decide +kernel
theorem dX4_longestRising_19 : decode cX4_longestRising 19 = .ok (.istore 4, 2) := by decide +kernel
theorem dX4_longestRising_21 : decode cX4_longestRising 21 = .ok (.iconst 0, 1) := by decide +kernel
theorem dX4_longestRising_22 : decode cX4_longestRising 22 = .ok (.istore 5, 2) := by decide +kernel
theorem dX4_longestRising_24 : decode cX4_longestRising 24 = .ok (.iload 5, 2) := by decide +kernel
theorem dX4_longestRising_26 : decode cX4_longestRising 26 = .ok (.iload_n 3, 1) := by decide +kernel
theorem dX4_longestRising_27 : decode cX4_longestRising 27 = .ok (.if_icmp .ge 39, 3) := by decide +kernel
theorem dX4_longestRising_30 : decode cX4_longestRising 30 = .ok (.aload_n 1, 1) := by decide +kernel
theorem dX4_longestRising_31 : decode cX4_longestRising 31 = .ok (.iload 5, 2) := by decide +kernel
theorem dX4_longestRising_33 : decode cX4_longestRising 33 = .ok (.invokevirtual 50, 3) := by decide +kernel
theorem dX4_longestRising_36 : decode cX4_longestRising 36 = .ok (.aload_n 1, 1) := by decide +kernel
theorem dX4_longestRising_37 : decode cX4_longestRising 37 = .ok (.iload_n 3, 1) := by decide +kernel
theorem dX4_longestRising_38 : decode cX4_longestRising 38 = .ok (.invokevirtual 50, 3) := by decide +kernel
theorem dX4_longestRising_41 : decode cX4_longestRising 41 = .ok (.if_icmp .ge 19, 3) := by decide +kernel
theorem dX4_longestRising_44 : decode cX4_longestRising 44 = .ok (.iload 4, 2) := by decide +kernel
theorem dX4_longestRising_46 : decode cX4_longestRising 46 = .ok (.aload_n 0, 1) := by decide +kernel
theorem dX4_longestRising_47 : decode cX4_longestRising 47 = .ok (.getfield 23, 3) := by decide +kernel
theorem dX4_longestRising_50 : decode cX4_longestRising 50 = .ok (.iload 5, 2) := by decide +kernel
theorem dX4_longestRising_52 : decode cX4_longestRising 52 = .ok (.iaload, 1) := by decide +kernel
theorem dX4_longestRising_53 : decode cX4_longestRising 53 = .ok (.iconst 1, 1) := by decide +kernel
theorem dX4_longestRising_54 : decode cX4_longestRising 54 = .ok (.iadd, 1) := by decide +kernel
theorem dX4_longestRising_55 : decode cX4_longestRising 55 = .ok (.invokestatic 53, 3) := by decide +kernel
theorem dX4_longestRising_58 : decode cX4_longestRising 58 = .ok (.istore 4, 2) := by decide +kernel
theorem dX4_longestRising_60 : decode cX4_longestRising 60 = .ok (.iinc 5 1, 3) := by decide +kernel
theorem dX4_longestRising_63 : decode cX4_longestRising 63 = .ok (.goto (-39), 3) := by decide +kernel
theorem dX4_longestRising_66 : decode cX4_longestRising 66 = .ok (.aload_n 0, 1) := by decide +kernel
theorem dX4_longestRising_67 : decode cX4_longestRising 67 = .ok (.getfield 23, 3) := by decide +kernel
theorem dX4_longestRising_70 : decode cX4_longestRising 70 = .ok (.iload_n 3, 1) := by decide +kernel
theorem dX4_longestRising_71 : decode cX4_longestRising 71 = .ok (.iload 4, 2) := by decide +kernel
theorem dX4_longestRising_73 : decode cX4_longestRising 73 = .ok (.iastore, 1) := by decide +kernel
theorem dX4_longestRising_74 : decode cX4_longestRising 74 = .ok (.iload_n 2, 1) := by decide +kernel
theorem dX4_longestRising_75 : decode cX4_longestRising 75 = .ok (.iload 4, 2) := by decide +kernel
theorem dX4_longestRising_77 : decode cX4_longestRising 77 = .ok (.invokestatic 53, 3) := by decide +kernel
theorem dX4_longestRising_80 : decode cX4_longestRising 80 = .ok (.istore_n 2, 1) := by decide +kernel
theorem dX4_longestRising_81 : decode cX4_longestRising 81 = .ok (.iinc 3 1, 3) := by decide +kernel
theorem dX4_longestRising_84 : decode cX4_longestRising 84 = .ok (.goto (-80), 3) := by decide +kernel
theorem dX4_longestRising_87 : decode cX4_longestRising 87 = .ok (.iload_n 2, 1) := by decide +kernel
theorem dX4_longestRising_88 : decode cX4_longestRising 88 = .ok (.ireturn, 1) := by decide +kernel
theorem dX4_placeFound_0 : decode cX4_placeFound 0 = .ok (.iconst 0, 1) := by decide +kernel
theorem dX4_placeFound_1 : decode cX4_placeFound 1 = .ok (.istore_n 3, 1) := by decide +kernel
theorem dX4_placeFound_2 : decode cX4_placeFound 2 = .ok (.aload_n 1, 1) := by decide +kernel
theorem dX4_placeFound_3 : decode cX4_placeFound 3 = .ok (.getfield 26, 3) := by decide +kernel
theorem dX4_placeFound_6 : decode cX4_placeFound 6 = .ok (.iconst 1, 1) := by decide +kernel
theorem dX4_placeFound_7 : decode cX4_placeFound 7 = .ok (.isub, 1) := by decide +kernel
theorem dX4_placeFound_8 : decode cX4_placeFound 8 = .ok (.istore 4, 2) := by decide +kernel
theorem dX4_placeFound_10 : decode cX4_placeFound 10 = .ok (.aload_n 0, 1) := by decide +kernel
theorem dX4_placeFound_11 : decode cX4_placeFound 11 = .ok (.iconst 0, 1) := by decide +kernel
theorem dX4_placeFound_12 : decode cX4_placeFound 12 = .ok (.putfield 56, 3) := by decide +kernel
theorem dX4_placeFound_15 : decode cX4_placeFound 15 = .ok (.iconst 0, 1) := by decide +kernel
theorem dX4_placeFound_16 : decode cX4_placeFound 16 = .ok (.istore 5, 2) := by decide +kernel
theorem dX4_placeFound_18 : decode cX4_placeFound 18 = .ok (.iload 5, 2) := by decide +kernel
theorem dX4_placeFound_20 : decode cX4_placeFound 20 = .ok (.bipush 10, 2) := by decide +kernel
theorem dX4_placeFound_22 : decode cX4_placeFound 22 = .ok (.if_icmp .ge 70, 3) := by decide +kernel
theorem dX4_placeFound_25 : decode cX4_placeFound 25 = .ok (.iload_n 3, 1) := by decide +kernel
theorem dX4_placeFound_26 : decode cX4_placeFound 26 = .ok (.iload 4, 2) := by decide +kernel
theorem dX4_placeFound_28 : decode cX4_placeFound 28 = .ok (.if_icmp .gt 64, 3) := by decide +kernel
theorem dX4_placeFound_31 : decode cX4_placeFound 31 = .ok (.iload_n 3, 1) := by decide +kernel
theorem dX4_placeFound_32 : decode cX4_placeFound 32 = .ok (.iload 4, 2) := by decide +kernel
theorem dX4_placeFound_34 : decode cX4_placeFound 34 = .ok (.iadd, 1) := by decide +kernel
theorem dX4_placeFound_35 : decode cX4_placeFound 35 = .ok (.iconst 2, 1) := by decide +kernel
theorem dX4_placeFound_36 : decode cX4_placeFound 36 = .ok (.idiv, 1) := by decide +kernel
theorem dX4_placeFound_37 : decode cX4_placeFound 37 = .ok (.istore 6, 2) := by decide +kernel
theorem dX4_placeFound_39 : decode cX4_placeFound 39 = .ok (.aload_n 1, 1) := by decide +kernel
theorem dX4_placeFound_40 : decode cX4_placeFound 40 = .ok (.iload 6, 2) := by decide +kernel
theorem dX4_placeFound_42 : decode cX4_placeFound 42 = .ok (.invokevirtual 50, 3) := by decide +kernel
theorem dX4_placeFound_45 : decode cX4_placeFound 45 = .ok (.istore 7, 2) := by decide +kernel
theorem dX4_placeFound_47 : decode cX4_placeFound 47 = .ok (.aload_n 0, 1) := by decide +kernel
theorem dX4_placeFound_48 : decode cX4_placeFound 48 = .ok (.dup, 1) := by decide +kernel
theorem dX4_placeFound_49 : decode cX4_placeFound 49 = .ok (.getfield 56, 3) := by decide +kernel
theorem dX4_placeFound_52 : decode cX4_placeFound 52 = .ok (.iconst 1, 1) := by decide +kernel
theorem dX4_placeFound_53 : decode cX4_placeFound 53 = .ok (.iadd, 1) := by decide +kernel
theorem dX4_placeFound_54 : decode cX4_placeFound 54 = .ok (.putfield 56, 3) := by decide +kernel
theorem dX4_placeFound_57 : decode cX4_placeFound 57 = .ok (.iload 7, 2) := by decide +kernel
theorem dX4_placeFound_59 : decode cX4_placeFound 59 = .ok (.iload_n 2, 1) := by decide +kernel
theorem dX4_placeFound_60 : decode cX4_placeFound 60 = .ok (.if_icmp .ne 6, 3) := by decide +kernel
theorem dX4_placeFound_63 : decode cX4_placeFound 63 = .ok (.iload 6, 2) := by decide +kernel
theorem dX4_placeFound_65 : decode cX4_placeFound 65 = .ok (.ireturn, 1) := by decide +kernel
theorem dX4_placeFound_66 : decode cX4_placeFound 66 = .ok (.iload 7, 2) := by decide +kernel
theorem dX4_placeFound_68 : decode cX4_placeFound 68 = .ok (.iload_n 2, 1) := by decide +kernel
theorem dX4_placeFound_69 : decode cX4_placeFound 69 = .ok (.if_icmp .ge 11, 3) := by decide +kernel
theorem dX4_placeFound_72 : decode cX4_placeFound 72 = .ok (.iload 6, 2) := by decide +kernel
theorem dX4_placeFound_74 : decode cX4_placeFound 74 = .ok (.iconst 1, 1) := by decide +kernel
theorem dX4_placeFound_75 : decode cX4_placeFound 75 = .ok (.iadd, 1) := by decide +kernel
theorem dX4_placeFound_76 : decode cX4_placeFound 76 = .ok (.istore_n 3, 1) := by decide +kernel
theorem dX4_placeFound_77 : decode cX4_placeFound 77 = .ok (.goto 9, 3) := by decide +kernel
theorem dX4_placeFound_80 : decode cX4_placeFound 80 = .ok (.iload 6, 2) := by decide +kernel
theorem dX4_placeFound_82 : decode cX4_placeFound 82 = .ok (.iconst 1, 1) := by decide +kernel
theorem dX4_placeFound_83 : decode cX4_placeFound 83 = .ok (.isub, 1) := by decide +kernel
theorem dX4_placeFound_84 : decode cX4_placeFound 84 = .ok (.istore 4, 2) := by decide +kernel
theorem dX4_placeFound_86 : decode cX4_placeFound 86 = .ok (.iinc 5 1, 3) := by decide +kernel
theorem dX4_placeFound_89 : decode cX4_placeFound 89 = .ok (.goto (-71), 3) := by decide +kernel
theorem dX4_placeFound_92 : decode cX4_placeFound 92 = .ok (.iconst (-1), 1) := by decide +kernel
theorem dX4_placeFound_93 : decode cX4_placeFound 93 = .ok (.ireturn, 1) := by decide +kernel
theorem dX4_housesFound_0 : decode cX4_housesFound 0 = .ok (.iconst 0, 1) := by decide +kernel
theorem dX4_housesFound_1 : decode cX4_housesFound 1 = .ok (.istore_n 2, 1) := by decide +kernel
theorem dX4_housesFound_2 : decode cX4_housesFound 2 = .ok (.iconst 0, 1) := by decide +kernel
theorem dX4_housesFound_3 : decode cX4_housesFound 3 = .ok (.istore_n 3, 1) := by decide +kernel
theorem dX4_housesFound_4 : decode cX4_housesFound 4 = .ok (.iload_n 3, 1) := by decide +kernel
theorem dX4_housesFound_5 : decode cX4_housesFound 5 = .ok (.aload_n 1, 1) := by decide +kernel
theorem dX4_housesFound_6 : decode cX4_housesFound 6 = .ok (.getfield 26, 3) := by decide +kernel
theorem dX4_housesFound_9 : decode cX4_housesFound 9 = .ok (.if_icmp .ge 26, 3) := by decide +kernel
theorem dX4_housesFound_12 : decode cX4_housesFound 12 = .ok (.aload_n 0, 1) := by decide +kernel
theorem dX4_housesFound_13 : decode cX4_housesFound 13 = .ok (.aload_n 1, 1) := by decide +kernel
theorem dX4_housesFound_14 : decode cX4_housesFound 14 = .ok (.aload_n 1, 1) := by decide +kernel
theorem dX4_housesFound_15 : decode cX4_housesFound 15 = .ok (.iload_n 3, 1) := by decide +kernel
theorem dX4_housesFound_16 : decode cX4_housesFound 16 = .ok (.invokevirtual 50, 3) := by decide +kernel
theorem dX4_housesFound_19 : decode cX4_housesFound 19 = .ok (.invokevirtual 59, 3) := by decide +kernel
theorem dX4_housesFound_22 : decode cX4_housesFound 22 = .ok (.iload_n 3, 1) := by decide +kernel
theorem dX4_housesFound_23 : decode cX4_housesFound 23 = .ok (.if_icmp .ne 6, 3) := by decide +kernel
theorem dX4_housesFound_26 : decode cX4_housesFound 26 = .ok (.iinc 2 1, 3) := by decide +kernel
theorem dX4_housesFound_29 : decode cX4_housesFound 29 = .ok (.iinc 3 1, 3) := by decide +kernel
theorem dX4_housesFound_32 : decode cX4_housesFound 32 = .ok (.goto (-28), 3) := by decide +kernel
theorem dX4_housesFound_35 : decode cX4_housesFound 35 = .ok (.iload_n 2, 1) := by decide +kernel
theorem dX4_housesFound_36 : decode cX4_housesFound 36 = .ok (.ireturn, 1) := by decide +kernel
theorem dX4_commonDivisor_0 : decode cX4_commonDivisor 0 = .ok (.iload_n 1, 1) := by decide +kernel
theorem dX4_commonDivisor_1 : decode cX4_commonDivisor 1 = .ok (.istore_n 2, 1) := by decide +kernel
theorem dX4_commonDivisor_2 : decode cX4_commonDivisor 2 = .ok (.iload_n 2, 1) := by decide +kernel
theorem dX4_commonDivisor_3 : decode cX4_commonDivisor 3 = .ok (.iconst 1, 1) := by decide +kernel
theorem dX4_commonDivisor_4 : decode cX4_commonDivisor 4 = .ok (.if_icmp .le 23, 3) := by decide +kernel
theorem dX4_commonDivisor_7 : decode cX4_commonDivisor 7 = .ok (.iload_n 0, 1) := by decide +kernel
theorem dX4_commonDivisor_8 : decode cX4_commonDivisor 8 = .ok (.iload_n 2, 1) := by decide +kernel
theorem dX4_commonDivisor_9 : decode cX4_commonDivisor 9 = .ok (.irem, 1) := by decide +kernel
theorem dX4_commonDivisor_10 : decode cX4_commonDivisor 10 = .ok (.ifCond .ne 11, 3) := by decide +kernel
theorem dX4_commonDivisor_13 : decode cX4_commonDivisor 13 = .ok (.iload_n 1, 1) := by decide +kernel
theorem dX4_commonDivisor_14 : decode cX4_commonDivisor 14 = .ok (.iload_n 2, 1) := by decide +kernel
theorem dX4_commonDivisor_15 : decode cX4_commonDivisor 15 = .ok (.irem, 1) := by decide +kernel
theorem dX4_commonDivisor_16 : decode cX4_commonDivisor 16 = .ok (.ifCond .ne 5, 3) := by decide +kernel
theorem dX4_commonDivisor_19 : decode cX4_commonDivisor 19 = .ok (.iload_n 2, 1) := by decide +kernel
theorem dX4_commonDivisor_20 : decode cX4_commonDivisor 20 = .ok (.ireturn, 1) := by decide +kernel
theorem dX4_commonDivisor_21 : decode cX4_commonDivisor 21 = .ok (.iinc 2 (-1), 3) := by decide +kernel
theorem dX4_commonDivisor_24 : decode cX4_commonDivisor 24 = .ok (.goto (-22), 3) := by decide +kernel
theorem dX4_commonDivisor_27 : decode cX4_commonDivisor 27 = .ok (.iconst 1, 1) := by decide +kernel
theorem dX4_commonDivisor_28 : decode cX4_commonDivisor 28 = .ok (.ireturn, 1) := by decide +kernel
theorem dX5_init_0 : decode cX5_init 0 = .ok (.aload_n 0, 1) := by decide +kernel
theorem dX5_init_1 : decode cX5_init 1 = .ok (.invokespecial 3, 3) := by decide +kernel
theorem dX5_init_4 : decode cX5_init 4 = .ok (.aload_n 0, 1) := by decide +kernel
theorem dX5_init_5 : decode cX5_init 5 = .ok (.bipush 30, 2) := by decide +kernel
theorem dX5_init_7 : decode cX5_init 7 = .ok (.newarray .int, 2) := by decide +kernel
theorem dX5_init_9 : decode cX5_init 9 = .ok (.putfield 11, 3) := by decide +kernel
theorem dX5_init_12 : decode cX5_init 12 = .ok (.return_, 1) := by decide +kernel
theorem dX5_answerOf_0 : decode cX5_answerOf 0 = .ok (.aload_n 0, 1) := by decide +kernel
theorem dX5_answerOf_1 : decode cX5_answerOf 1 = .ok (.iload_n 1, 1) := by decide +kernel
theorem dX5_answerOf_2 : decode cX5_answerOf 2 = .ok (.putfield 15, 3) := by decide +kernel
theorem dX5_answerOf_5 : decode cX5_answerOf 5 = .ok (.aload_n 0, 1) := by decide +kernel
theorem dX5_answerOf_6 : decode cX5_answerOf 6 = .ok (.iload_n 2, 1) := by decide +kernel
theorem dX5_answerOf_7 : decode cX5_answerOf 7 = .ok (.putfield 19, 3) := by decide +kernel
theorem dX5_answerOf_10 : decode cX5_answerOf 10 = .ok (.aload_n 0, 1) := by decide +kernel
theorem dX5_answerOf_11 : decode cX5_answerOf 11 = .ok (.iload_n 3, 1) := by decide +kernel
theorem dX5_answerOf_12 : decode cX5_answerOf 12 = .ok (.putfield 22, 3) := by decide +kernel
theorem dX5_answerOf_15 : decode cX5_answerOf 15 = .ok (.aload_n 0, 1) := by decide +kernel
theorem dX5_answerOf_16 : decode cX5_answerOf 16 = .ok (.iconst 0, 1) := by decide +kernel
theorem dX5_answerOf_17 : decode cX5_answerOf 17 = .ok (.putfield 25, 3) := by decide +kernel
theorem dX5_answerOf_20 : decode cX5_answerOf 20 = .ok (.aload_n 0, 1) := by decide +kernel
theorem dX5_answerOf_21 : decode cX5_answerOf 21 = .ok (.iconst 0, 1) := by decide +kernel
theorem dX5_answerOf_22 : decode cX5_answerOf 22 = .ok (.putfield 29, 3) := by decide +kernel
theorem dX5_answerOf_25 : decode cX5_answerOf 25 = .ok (.aload_n 0, 1) := by decide +kernel
theorem dX5_answerOf_26 : decode cX5_answerOf 26 = .ok (.iload_n 1, 1) := by decide +kernel
theorem dX5_answerOf_27 : decode cX5_answerOf 27 = .ok (.iload 4, 2) := by decide +kernel
theorem dX5_answerOf_29 : decode cX5_answerOf 29 = .ok (.iload 5, 2) := by decide +kernel
theorem dX5_answerOf_31 : decode cX5_answerOf 31 = .ok (.iconst 0, 1) := by decide +kernel
theorem dX5_answerOf_32 : decode cX5_answerOf 32 = .ok (.invokevirtual 32, 3) := by decide +kernel
theorem dX5_answerOf_35 : decode cX5_answerOf 35 = .ok (.ireturn, 1) := by decide +kernel
theorem dX5_bodyAt_0 : decode cX5_bodyAt 0 = .ok (.iload_n 1, 1) := by decide +kernel
theorem dX5_bodyAt_1 : decode cX5_bodyAt 1 = .ok (.ifCond .lt 18, 3) := by decide +kernel
theorem dX5_bodyAt_4 : decode cX5_bodyAt 4 = .ok (.iload_n 1, 1) := by decide +kernel
theorem dX5_bodyAt_5 : decode cX5_bodyAt 5 = .ok (.bipush 30, 2) := by decide +kernel
theorem dX5_bodyAt_7 : decode cX5_bodyAt 7 = .ok (.if_icmp .ge 12, 3) := by decide +kernel
theorem dX5_bodyAt_10 : decode cX5_bodyAt 10 = .ok (.aload_n 0, 1) := by decide +kernel
theorem dX5_bodyAt_11 : decode cX5_bodyAt 11 = .ok (.getfield 11, 3) := by decide +kernel
theorem dX5_bodyAt_14 : decode cX5_bodyAt 14 = .ok (.iload_n 1, 1) := by decide +kernel
theorem dX5_bodyAt_15 : decode cX5_bodyAt 15 = .ok (.iaload, 1) := by decide +kernel
theorem dX5_bodyAt_16 : decode cX5_bodyAt 16 = .ok (.goto 4, 3) := by decide +kernel
theorem dX5_bodyAt_19 : decode cX5_bodyAt 19 = .ok (.iconst 0, 1) := by decide +kernel
theorem dX5_bodyAt_20 : decode cX5_bodyAt 20 = .ok (.ireturn, 1) := by decide +kernel
theorem dX5_ownBody_0 : decode cX5_ownBody 0 = .ok (.iload_n 0, 1) := by decide +kernel
theorem dX5_ownBody_1 : decode cX5_ownBody 1 = .ok (.iconst 4, 1) := by decide +kernel
theorem dX5_ownBody_2 : decode cX5_ownBody 2 = .ok (.imul, 1) := by decide +kernel
theorem dX5_ownBody_3 : decode cX5_ownBody 3 = .ok (.iload_n 1, 1) := by decide +kernel
theorem dX5_ownBody_4 : decode cX5_ownBody 4 = .ok (.iadd, 1) := by decide +kernel
theorem dX5_ownBody_5 : decode cX5_ownBody 5 = .ok (.istore_n 2, 1) := by decide +kernel
theorem dX5_ownBody_6 : decode cX5_ownBody 6 = .ok (.iload_n 0, 1) := by decide +kernel
theorem dX5_ownBody_7 : decode cX5_ownBody 7 = .ok (.ifCond .lt 28, 3) := by decide +kernel
theorem dX5_ownBody_10 : decode cX5_ownBody 10 = .ok (.iload_n 1, 1) := by decide +kernel
theorem dX5_ownBody_11 : decode cX5_ownBody 11 = .ok (.ifCond .lt 24, 3) := by decide +kernel
theorem dX5_ownBody_14 : decode cX5_ownBody 14 = .ok (.iload_n 1, 1) := by decide +kernel
theorem dX5_ownBody_15 : decode cX5_ownBody 15 = .ok (.iconst 4, 1) := by decide +kernel
theorem dX5_ownBody_16 : decode cX5_ownBody 16 = .ok (.if_icmp .ge 19, 3) := by decide +kernel
theorem dX5_ownBody_19 : decode cX5_ownBody 19 = .ok (.iload_n 2, 1) := by decide +kernel
theorem dX5_ownBody_20 : decode cX5_ownBody 20 = .ok (.getstatic 36, 3) := by decide +kernel
theorem dX5_ownBody_23 : decode cX5_ownBody 23 = .ok (.arraylength, 1) := by decide +kernel
theorem dX5_ownBody_24 : decode cX5_ownBody 24 = .ok (.if_icmp .ge 11, 3) := by decide +kernel
theorem dX5_ownBody_27 : decode cX5_ownBody 27 = .ok (.getstatic 36, 3) := by decide +kernel
theorem dX5_ownBody_30 : decode cX5_ownBody 30 = .ok (.iload_n 2, 1) := by decide +kernel
theorem dX5_ownBody_31 : decode cX5_ownBody 31 = .ok (.iaload, 1) := by decide +kernel
theorem dX5_ownBody_32 : decode cX5_ownBody 32 = .ok (.goto 4, 3) := by decide +kernel
theorem dX5_ownBody_35 : decode cX5_ownBody 35 = .ok (.iconst 0, 1) := by decide +kernel
theorem dX5_ownBody_36 : decode cX5_ownBody 36 = .ok (.ireturn, 1) := by decide +kernel
theorem dX5_speak_0 : decode cX5_speak 0 = .ok (.aload_n 0, 1) := by decide +kernel
theorem dX5_speak_1 : decode cX5_speak 1 = .ok (.getfield 25, 3) := by decide +kernel
theorem dX5_speak_4 : decode cX5_speak 4 = .ok (.ifCond .ne 10, 3) := by decide +kernel
theorem dX5_speak_7 : decode cX5_speak 7 = .ok (.iload 4, 2) := by decide +kernel
theorem dX5_speak_9 : decode cX5_speak 9 = .ok (.bipush 40, 2) := by decide +kernel
theorem dX5_speak_11 : decode cX5_speak 11 = .ok (.if_icmp .le 5, 3) := by decide +kernel
theorem dX5_speak_14 : decode cX5_speak 14 = .ok (.iconst 0, 1) := by decide +kernel
theorem dX5_speak_15 : decode cX5_speak 15 = .ok (.ireturn, 1) := by decide +kernel
theorem dX5_speak_16 : decode cX5_speak 16 = .ok (.iload_n 1, 1) := by decide +kernel
theorem dX5_speak_17 : decode cX5_speak 17 = .ok (.istore 5, 2) := by decide +kernel
theorem dX5_speak_19 : decode cX5_speak 19 = .ok (.iconst 0, 1) := by decide +kernel
theorem dX5_speak_20 : decode cX5_speak 20 = .ok (.istore 6, 2) := by decide +kernel
theorem dX5_speak_22 : decode cX5_speak 22 = .ok (.iload 6, 2) := by decide +kernel
theorem dX5_speak_24 : decode cX5_speak 24 = .ok (.bipush 7, 2) := by decide +kernel
theorem dX5_speak_26 : decode cX5_speak 26 = .ok (.if_icmp .ge 30, 3) := by decide +kernel
theorem dX5_speak_29 : decode cX5_speak 29 = .ok (.iload 5, 2) := by decide +kernel
theorem dX5_speak_31 : decode cX5_speak 31 = .ok (.ifCond .le 25, 3) := by decide +kernel
theorem dX5_speak_34 : decode cX5_speak 34 = .ok (.iload 5, 2) := by decide +kernel
theorem dX5_speak_36 : decode cX5_speak 36 = .ok (.iload_n 2, 1) := by decide +kernel
theorem dX5_speak_37 : decode cX5_speak 37 = .ok (.invokestatic 39, 3) := by decide +kernel
theorem dX5_speak_40 : decode cX5_speak 40 = .ok (.ifCond .ne 16, 3) := by decide +kernel
theorem dX5_speak_43 : decode cX5_speak 43 = .ok (.iload 5, 2) := by decide +kernel
theorem dX5_speak_45 : decode cX5_speak 45 = .ok (.invokestatic 43, 3) := by decide +kernel
theorem dX5_speak_48 : decode cX5_speak 48 = .ok (.istore 5, 2) := by decide +kernel
theorem dX5_speak_50 : decode cX5_speak 50 = .ok (.iinc 6 1, 3) := by decide +kernel
theorem dX5_speak_53 : decode cX5_speak 53 = .ok (.goto (-31), 3) := by decide +kernel
theorem dX5_speak_56 : decode cX5_speak 56 = .ok (.iload 5, 2) := by decide +kernel
theorem dX5_speak_58 : decode cX5_speak 58 = .ok (.iload_n 2, 1) := by decide +kernel
theorem dX5_speak_59 : decode cX5_speak 59 = .ok (.invokestatic 39, 3) := by decide +kernel
theorem dX5_speak_62 : decode cX5_speak 62 = .ok (.istore 6, 2) := by decide +kernel
theorem dX5_speak_64 : decode cX5_speak 64 = .ok (.aload_n 0, 1) := by decide +kernel
theorem dX5_speak_65 : decode cX5_speak 65 = .ok (.iload 6, 2) := by decide +kernel
theorem dX5_speak_67 : decode cX5_speak 67 = .ok (.invokevirtual 47, 3) := by decide +kernel
theorem dX5_speak_70 : decode cX5_speak 70 = .ok (.aload_n 0, 1) := by decide +kernel
theorem dX5_speak_71 : decode cX5_speak 71 = .ok (.iload 6, 2) := by decide +kernel
theorem dX5_speak_73 : decode cX5_speak 73 = .ok (.iload_n 3, 1) := by decide +kernel
theorem dX5_speak_74 : decode cX5_speak 74 = .ok (.iload 4, 2) := by decide +kernel
theorem dX5_speak_76 : decode cX5_speak 76 = .ok (.iconst 1, 1) := by decide +kernel
theorem dX5_speak_77 : decode cX5_speak 77 = .ok (.iadd, 1) := by decide +kernel
theorem dX5_speak_78 : decode cX5_speak 78 = .ok (.invokevirtual 51, 3) := by decide +kernel
theorem dX5_speak_81 : decode cX5_speak 81 = .ok (.ireturn, 1) := by decide +kernel
theorem dX5_begin_0 : decode cX5_begin 0 = .ok (.aload_n 0, 1) := by decide +kernel
theorem dX5_begin_1 : decode cX5_begin 1 = .ok (.getfield 29, 3) := by decide +kernel
theorem dX5_begin_4 : decode cX5_begin 4 = .ok (.ifCond .lt 32, 3) := by decide +kernel
theorem dX5_begin_7 : decode cX5_begin 7 = .ok (.aload_n 0, 1) := by decide +kernel
theorem dX5_begin_8 : decode cX5_begin 8 = .ok (.getfield 29, 3) := by decide +kernel
theorem dX5_begin_11 : decode cX5_begin 11 = .ok (.bipush 30, 2) := by decide +kernel
theorem dX5_begin_13 : decode cX5_begin 13 = .ok (.if_icmp .ge 23, 3) := by decide +kernel
theorem dX5_begin_16 : decode cX5_begin 16 = .ok (.aload_n 0, 1) := by decide +kernel
theorem dX5_begin_17 : decode cX5_begin 17 = .ok (.getfield 11, 3) := by decide +kernel
theorem dX5_begin_20 : decode cX5_begin 20 = .ok (.aload_n 0, 1) := by decide +kernel
theorem dX5_begin_21 : decode cX5_begin 21 = .ok (.getfield 29, 3) := by decide +kernel
theorem dX5_begin_24 : decode cX5_begin 24 = .ok (.iload_n 1, 1) := by decide +kernel
theorem dX5_begin_25 : decode cX5_begin 25 = .ok (.iastore, 1) := by decide +kernel
theorem dX5_begin_26 : decode cX5_begin 26 = .ok (.aload_n 0, 1) := by decide +kernel
theorem dX5_begin_27 : decode cX5_begin 27 = .ok (.dup, 1) := by decide +kernel
theorem dX5_begin_28 : decode cX5_begin 28 = .ok (.getfield 29, 3) := by decide +kernel
theorem dX5_begin_31 : decode cX5_begin 31 = .ok (.iconst 1, 1) := by decide +kernel
theorem dX5_begin_32 : decode cX5_begin 32 = .ok (.iadd, 1) := by decide +kernel
theorem dX5_begin_33 : decode cX5_begin 33 = .ok (.putfield 29, 3) := by decide +kernel
theorem dX5_begin_36 : decode cX5_begin 36 = .ok (.return_, 1) := by decide +kernel
theorem dX5_own_0 : decode cX5_own 0 = .ok (.aload_n 0, 1) := by decide +kernel
theorem dX5_own_1 : decode cX5_own 1 = .ok (.aload_n 0, 1) := by decide +kernel
theorem dX5_own_2 : decode cX5_own 2 = .ok (.getfield 15, 3) := by decide +kernel
theorem dX5_own_5 : decode cX5_own 5 = .ok (.iload_n 1, 1) := by decide +kernel
theorem dX5_own_6 : decode cX5_own 6 = .ok (.iload_n 2, 1) := by decide +kernel
theorem dX5_own_7 : decode cX5_own 7 = .ok (.iload_n 3, 1) := by decide +kernel
theorem dX5_own_8 : decode cX5_own 8 = .ok (.invokevirtual 32, 3) := by decide +kernel
theorem dX5_own_11 : decode cX5_own 11 = .ok (.ireturn, 1) := by decide +kernel
theorem dX5_above_0 : decode cX5_above 0 = .ok (.aload_n 0, 1) := by decide +kernel
theorem dX5_above_1 : decode cX5_above 1 = .ok (.iload_n 1, 1) := by decide +kernel
theorem dX5_above_2 : decode cX5_above 2 = .ok (.invokestatic 43, 3) := by decide +kernel
theorem dX5_above_5 : decode cX5_above 5 = .ok (.iload_n 2, 1) := by decide +kernel
theorem dX5_above_6 : decode cX5_above 6 = .ok (.iload_n 3, 1) := by decide +kernel
theorem dX5_above_7 : decode cX5_above 7 = .ok (.iload 4, 2) := by decide +kernel
theorem dX5_above_9 : decode cX5_above 9 = .ok (.invokevirtual 32, 3) := by decide +kernel
theorem dX5_above_12 : decode cX5_above 12 = .ok (.ireturn, 1) := by decide +kernel
theorem dX5_work_0 : decode cX5_work 0 = .ok (.iload_n 1, 1) := by decide +kernel
theorem dX5_work_1 : decode cX5_work 1 = .ok (.lookupswitch 264 #[(10, 115), (11, 122), (12, 132), (13, 145), (20, 160), (21, 171), (30, 188), (40, 199), (50, 210), (51, 221), (60, 235), (70, 246), (71, 249)], 115) := by decide +kernel
theorem dX5_work_116 : decode cX5_work 116 = .ok (.iload_n 2, 1) := by decide +kernel
theorem dX5_work_117 : decode cX5_work 117 = .ok (.aload_n 0, 1) := by decide +kernel
theorem dX5_work_118 : decode cX5_work 118 = .ok (.getfield 19, 3) := by decide +kernel
theorem dX5_work_121 : decode cX5_work 121 = .ok (.iadd, 1) := by decide +kernel
theorem dX5_work_122 : decode cX5_work 122 = .ok (.ireturn, 1) := by decide +kernel
theorem dX5_work_123 : decode cX5_work 123 = .ok (.aload_n 0, 1) := by decide +kernel
theorem dX5_work_124 : decode cX5_work 124 = .ok (.iconst 0, 1) := by decide +kernel
theorem dX5_work_125 : decode cX5_work 125 = .ok (.iload_n 2, 1) := by decide +kernel
theorem dX5_work_126 : decode cX5_work 126 = .ok (.iload_n 3, 1) := by decide +kernel
theorem dX5_work_127 : decode cX5_work 127 = .ok (.invokevirtual 55, 3) := by decide +kernel
theorem dX5_work_130 : decode cX5_work 130 = .ok (.iconst 2, 1) := by decide +kernel
theorem dX5_work_131 : decode cX5_work 131 = .ok (.imul, 1) := by decide +kernel
theorem dX5_work_132 : decode cX5_work 132 = .ok (.ireturn, 1) := by decide +kernel
theorem dX5_work_133 : decode cX5_work 133 = .ok (.aload_n 0, 1) := by decide +kernel
theorem dX5_work_134 : decode cX5_work 134 = .ok (.iconst 1, 1) := by decide +kernel
theorem dX5_work_135 : decode cX5_work 135 = .ok (.iload_n 2, 1) := by decide +kernel
theorem dX5_work_136 : decode cX5_work 136 = .ok (.iload_n 3, 1) := by decide +kernel
theorem dX5_work_137 : decode cX5_work 137 = .ok (.invokevirtual 55, 3) := by decide +kernel
theorem dX5_work_140 : decode cX5_work 140 = .ok (.aload_n 0, 1) := by decide +kernel
theorem dX5_work_141 : decode cX5_work 141 = .ok (.getfield 22, 3) := by decide +kernel
theorem dX5_work_144 : decode cX5_work 144 = .ok (.isub, 1) := by decide +kernel
theorem dX5_work_145 : decode cX5_work 145 = .ok (.ireturn, 1) := by decide +kernel
theorem dX5_work_146 : decode cX5_work 146 = .ok (.aload_n 0, 1) := by decide +kernel
theorem dX5_work_147 : decode cX5_work 147 = .ok (.aload_n 0, 1) := by decide +kernel
theorem dX5_work_148 : decode cX5_work 148 = .ok (.getfield 22, 3) := by decide +kernel
theorem dX5_work_151 : decode cX5_work 151 = .ok (.aload_n 0, 1) := by decide +kernel
theorem dX5_work_152 : decode cX5_work 152 = .ok (.getfield 19, 3) := by decide +kernel
theorem dX5_work_155 : decode cX5_work 155 = .ok (.isub, 1) := by decide +kernel
theorem dX5_work_156 : decode cX5_work 156 = .ok (.iload_n 2, 1) := by decide +kernel
theorem dX5_work_157 : decode cX5_work 157 = .ok (.invokevirtual 58, 3) := by decide +kernel
theorem dX5_work_160 : decode cX5_work 160 = .ok (.ireturn, 1) := by decide +kernel
theorem dX5_work_161 : decode cX5_work 161 = .ok (.aload_n 0, 1) := by decide +kernel
theorem dX5_work_162 : decode cX5_work 162 = .ok (.iconst 1, 1) := by decide +kernel
theorem dX5_work_163 : decode cX5_work 163 = .ok (.iconst 0, 1) := by decide +kernel
theorem dX5_work_164 : decode cX5_work 164 = .ok (.iload_n 2, 1) := by decide +kernel
theorem dX5_work_165 : decode cX5_work 165 = .ok (.iload_n 3, 1) := by decide +kernel
theorem dX5_work_166 : decode cX5_work 166 = .ok (.invokevirtual 61, 3) := by decide +kernel
theorem dX5_work_169 : decode cX5_work 169 = .ok (.iconst 4, 1) := by decide +kernel
theorem dX5_work_170 : decode cX5_work 170 = .ok (.isub, 1) := by decide +kernel
theorem dX5_work_171 : decode cX5_work 171 = .ok (.ireturn, 1) := by decide +kernel
theorem dX5_work_172 : decode cX5_work 172 = .ok (.aload_n 0, 1) := by decide +kernel
theorem dX5_work_173 : decode cX5_work 173 = .ok (.iconst 1, 1) := by decide +kernel
theorem dX5_work_174 : decode cX5_work 174 = .ok (.iconst 3, 1) := by decide +kernel
theorem dX5_work_175 : decode cX5_work 175 = .ok (.iload_n 2, 1) := by decide +kernel
theorem dX5_work_176 : decode cX5_work 176 = .ok (.iload_n 3, 1) := by decide +kernel
theorem dX5_work_177 : decode cX5_work 177 = .ok (.invokevirtual 61, 3) := by decide +kernel
theorem dX5_work_180 : decode cX5_work 180 = .ok (.aload_n 0, 1) := by decide +kernel
theorem dX5_work_181 : decode cX5_work 181 = .ok (.iconst 1, 1) := by decide +kernel
theorem dX5_work_182 : decode cX5_work 182 = .ok (.iconst 1, 1) := by decide +kernel
theorem dX5_work_183 : decode cX5_work 183 = .ok (.iload_n 3, 1) := by decide +kernel
theorem dX5_work_184 : decode cX5_work 184 = .ok (.invokevirtual 55, 3) := by decide +kernel
theorem dX5_work_187 : decode cX5_work 187 = .ok (.iadd, 1) := by decide +kernel
theorem dX5_work_188 : decode cX5_work 188 = .ok (.ireturn, 1) := by decide +kernel
theorem dX5_work_189 : decode cX5_work 189 = .ok (.iconst 0, 1) := by decide +kernel
theorem dX5_work_190 : decode cX5_work 190 = .ok (.aload_n 0, 1) := by decide +kernel
theorem dX5_work_191 : decode cX5_work 191 = .ok (.iconst 2, 1) := by decide +kernel
theorem dX5_work_192 : decode cX5_work 192 = .ok (.iconst 1, 1) := by decide +kernel
theorem dX5_work_193 : decode cX5_work 193 = .ok (.iload_n 2, 1) := by decide +kernel
theorem dX5_work_194 : decode cX5_work 194 = .ok (.iload_n 3, 1) := by decide +kernel
theorem dX5_work_195 : decode cX5_work 195 = .ok (.invokevirtual 61, 3) := by decide +kernel
theorem dX5_work_198 : decode cX5_work 198 = .ok (.isub, 1) := by decide +kernel
theorem dX5_work_199 : decode cX5_work 199 = .ok (.ireturn, 1) := by decide +kernel
theorem dX5_work_200 : decode cX5_work 200 = .ok (.aload_n 0, 1) := by decide +kernel
theorem dX5_work_201 : decode cX5_work 201 = .ok (.iconst 3, 1) := by decide +kernel
theorem dX5_work_202 : decode cX5_work 202 = .ok (.iconst 2, 1) := by decide +kernel
theorem dX5_work_203 : decode cX5_work 203 = .ok (.iload_n 2, 1) := by decide +kernel
theorem dX5_work_204 : decode cX5_work 204 = .ok (.iconst 2, 1) := by decide +kernel
theorem dX5_work_205 : decode cX5_work 205 = .ok (.idiv, 1) := by decide +kernel
theorem dX5_work_206 : decode cX5_work 206 = .ok (.iload_n 3, 1) := by decide +kernel
theorem dX5_work_207 : decode cX5_work 207 = .ok (.invokevirtual 61, 3) := by decide +kernel
theorem dX5_work_210 : decode cX5_work 210 = .ok (.ireturn, 1) := by decide +kernel
theorem dX5_work_211 : decode cX5_work 211 = .ok (.aload_n 0, 1) := by decide +kernel
theorem dX5_work_212 : decode cX5_work 212 = .ok (.iconst 4, 1) := by decide +kernel
theorem dX5_work_213 : decode cX5_work 213 = .ok (.iconst 0, 1) := by decide +kernel
theorem dX5_work_214 : decode cX5_work 214 = .ok (.iload_n 2, 1) := by decide +kernel
theorem dX5_work_215 : decode cX5_work 215 = .ok (.iload_n 3, 1) := by decide +kernel
theorem dX5_work_216 : decode cX5_work 216 = .ok (.invokevirtual 61, 3) := by decide +kernel
theorem dX5_work_219 : decode cX5_work 219 = .ok (.iconst 3, 1) := by decide +kernel
theorem dX5_work_220 : decode cX5_work 220 = .ok (.imul, 1) := by decide +kernel
theorem dX5_work_221 : decode cX5_work 221 = .ok (.ireturn, 1) := by decide +kernel
theorem dX5_work_222 : decode cX5_work 222 = .ok (.aload_n 0, 1) := by decide +kernel
theorem dX5_work_223 : decode cX5_work 223 = .ok (.iconst 4, 1) := by decide +kernel
theorem dX5_work_224 : decode cX5_work 224 = .ok (.iconst 2, 1) := by decide +kernel
theorem dX5_work_225 : decode cX5_work 225 = .ok (.iload_n 2, 1) := by decide +kernel
theorem dX5_work_226 : decode cX5_work 226 = .ok (.iload_n 3, 1) := by decide +kernel
theorem dX5_work_227 : decode cX5_work 227 = .ok (.invokevirtual 61, 3) := by decide +kernel
theorem dX5_work_230 : decode cX5_work 230 = .ok (.aload_n 0, 1) := by decide +kernel
theorem dX5_work_231 : decode cX5_work 231 = .ok (.getfield 19, 3) := by decide +kernel
theorem dX5_work_234 : decode cX5_work 234 = .ok (.ixor, 1) := by decide +kernel
theorem dX5_work_235 : decode cX5_work 235 = .ok (.ireturn, 1) := by decide +kernel
theorem dX5_work_236 : decode cX5_work 236 = .ok (.aload_n 0, 1) := by decide +kernel
theorem dX5_work_237 : decode cX5_work 237 = .ok (.iconst 5, 1) := by decide +kernel
theorem dX5_work_238 : decode cX5_work 238 = .ok (.iconst 1, 1) := by decide +kernel
theorem dX5_work_239 : decode cX5_work 239 = .ok (.iload_n 2, 1) := by decide +kernel
theorem dX5_work_240 : decode cX5_work 240 = .ok (.iconst 1, 1) := by decide +kernel
theorem dX5_work_241 : decode cX5_work 241 = .ok (.iadd, 1) := by decide +kernel
theorem dX5_work_242 : decode cX5_work 242 = .ok (.iload_n 3, 1) := by decide +kernel
theorem dX5_work_243 : decode cX5_work 243 = .ok (.invokevirtual 61, 3) := by decide +kernel
theorem dX5_work_246 : decode cX5_work 246 = .ok (.ireturn, 1) := by decide +kernel
theorem dX5_work_247 : decode cX5_work 247 = .ok (.bipush 9, 2) := by decide +kernel
theorem dX5_work_249 : decode cX5_work 249 = .ok (.ireturn, 1) := by decide +kernel
theorem dX5_work_250 : decode cX5_work 250 = .ok (.aload_n 0, 1) := by decide +kernel
theorem dX5_work_251 : decode cX5_work 251 = .ok (.bipush 6, 2) := by decide +kernel
theorem dX5_work_253 : decode cX5_work 253 = .ok (.iconst 1, 1) := by decide +kernel
theorem dX5_work_254 : decode cX5_work 254 = .ok (.iload_n 2, 1) := by decide +kernel
theorem dX5_work_255 : decode cX5_work 255 = .ok (.iload_n 3, 1) := by decide +kernel
theorem dX5_work_256 : decode cX5_work 256 = .ok (.invokevirtual 61, 3) := by decide +kernel
theorem dX5_work_259 : decode cX5_work 259 = .ok (.aload_n 0, 1) := by decide +kernel
theorem dX5_work_260 : decode cX5_work 260 = .ok (.getfield 22, 3) := by decide +kernel
theorem dX5_work_263 : decode cX5_work 263 = .ok (.iadd, 1) := by decide +kernel
theorem dX5_work_264 : decode cX5_work 264 = .ok (.ireturn, 1) := by decide +kernel
theorem dX5_work_265 : decode cX5_work 265 = .ok (.iconst 0, 1) := by decide +kernel
theorem dX5_work_266 : decode cX5_work 266 = .ok (.ireturn, 1) := by decide +kernel
theorem dX5_partedBy_0 : decode cX5_partedBy 0 = .ok (.aload_n 0, 1) := by decide +kernel
theorem dX5_partedBy_1 : decode cX5_partedBy 1 = .ok (.aload_n 0, 1) := by decide +kernel
theorem dX5_partedBy_2 : decode cX5_partedBy 2 = .ok (.getfield 25, 3) := by decide +kernel
theorem dX5_partedBy_5 : decode cX5_partedBy 5 = .ok (.ifCond .ne 7, 3) := by decide +kernel
theorem dX5_partedBy_8 : decode cX5_partedBy 8 = .ok (.iload_n 1, 1) := by decide +kernel
theorem dX5_partedBy_9 : decode cX5_partedBy 9 = .ok (.ifCond .ne 7, 3) := by decide +kernel
theorem dX5_partedBy_12 : decode cX5_partedBy 12 = .ok (.iconst 1, 1) := by decide +kernel
theorem dX5_partedBy_13 : decode cX5_partedBy 13 = .ok (.goto 4, 3) := by decide +kernel
theorem dX5_partedBy_16 : decode cX5_partedBy 16 = .ok (.iconst 0, 1) := by decide +kernel
theorem dX5_partedBy_17 : decode cX5_partedBy 17 = .ok (.putfield 25, 3) := by decide +kernel
theorem dX5_partedBy_20 : decode cX5_partedBy 20 = .ok (.iload_n 2, 1) := by decide +kernel
theorem dX5_partedBy_21 : decode cX5_partedBy 21 = .ok (.iload_n 1, 1) := by decide +kernel
theorem dX5_partedBy_22 : decode cX5_partedBy 22 = .ok (.invokestatic 64, 3) := by decide +kernel
theorem dX5_partedBy_25 : decode cX5_partedBy 25 = .ok (.ireturn, 1) := by decide +kernel
end
section
theorem dX3_init_0 : decode cX3_init 0 = .ok (.aload_n 0, 1) := by decide +kernel
theorem dX3_init_1 : decode cX3_init 1 = .ok (.invokespecial 3, 3) := by decide +kernel
theorem dX3_init_4 : decode cX3_init 4 = .ok (.aload_n 0, 1) := by decide +kernel
theorem dX3_init_5 : decode cX3_init 5 = .ok (.new 9, 3) := by decide +kernel
theorem dX3_init_8 : decode cX3_init 8 = .ok (.dup, 1) := by decide +kernel
theorem dX3_init_9 : decode cX3_init 9 = .ok (.invokespecial 11, 3) := by decide +kernel
theorem dX3_init_12 : decode cX3_init 12 = .ok (.putfield 12, 3) := by decide +kernel
theorem dX3_init_15 : decode cX3_init 15 = .ok (.aload_n 0, 1) := by decide +kernel
theorem dX3_init_16 : decode cX3_init 16 = .ok (.bipush 10, 2) := by decide +kernel
theorem dX3_init_18 : decode cX3_init 18 = .ok (.newarray .int, 2) := by decide +kernel
theorem dX3_init_20 : decode cX3_init 20 = .ok (.putfield 18, 3) := by decide +kernel
theorem dX3_init_23 : decode cX3_init 23 = .ok (.aload_n 0, 1) := by decide +kernel
theorem dX3_init_24 : decode cX3_init 24 = .ok (.bipush 10, 2) := by decide +kernel
theorem dX3_init_26 : decode cX3_init 26 = .ok (.newarray .int, 2) := by decide +kernel
theorem dX3_init_28 : decode cX3_init 28 = .ok (.putfield 22, 3) := by decide +kernel
theorem dX3_init_31 : decode cX3_init 31 = .ok (.aload_n 0, 1) := by decide +kernel
theorem dX3_init_32 : decode cX3_init 32 = .ok (.bipush 10, 2) := by decide +kernel
theorem dX3_init_34 : decode cX3_init 34 = .ok (.newarray .int, 2) := by decide +kernel
theorem dX3_init_36 : decode cX3_init 36 = .ok (.putfield 25, 3) := by decide +kernel
theorem dX3_init_39 : decode cX3_init 39 = .ok (.aload_n 0, 1) := by decide +kernel
theorem dX3_init_40 : decode cX3_init 40 = .ok (.bipush 10, 2) := by decide +kernel
theorem dX3_init_42 : decode cX3_init 42 = .ok (.newarray .int, 2) := by decide +kernel
theorem dX3_init_44 : decode cX3_init 44 = .ok (.putfield 28, 3) := by decide +kernel
theorem dX3_init_47 : decode cX3_init 47 = .ok (.aload_n 0, 1) := by decide +kernel
theorem dX3_init_48 : decode cX3_init 48 = .ok (.bipush 24, 2) := by decide +kernel
theorem dX3_init_50 : decode cX3_init 50 = .ok (.newarray .int, 2) := by decide +kernel
theorem dX3_init_52 : decode cX3_init 52 = .ok (.putfield 31, 3) := by decide +kernel
theorem dX3_init_55 : decode cX3_init 55 = .ok (.aload_n 0, 1) := by decide +kernel
theorem dX3_init_56 : decode cX3_init 56 = .ok (.iconst 1, 1) := by decide +kernel
theorem dX3_init_57 : decode cX3_init 57 = .ok (.putfield 34, 3) := by decide +kernel
theorem dX3_init_60 : decode cX3_init 60 = .ok (.return_, 1) := by decide +kernel
theorem dX3_becomeLike_0 : decode cX3_becomeLike 0 = .ok (.aload_n 0, 1) := by decide +kernel
theorem dX3_becomeLike_1 : decode cX3_becomeLike 1 = .ok (.aload_n 1, 1) := by decide +kernel
theorem dX3_becomeLike_2 : decode cX3_becomeLike 2 = .ok (.getfield 38, 3) := by decide +kernel
theorem dX3_becomeLike_5 : decode cX3_becomeLike 5 = .ok (.putfield 38, 3) := by decide +kernel
theorem dX3_becomeLike_8 : decode cX3_becomeLike 8 = .ok (.aload_n 0, 1) := by decide +kernel
theorem dX3_becomeLike_9 : decode cX3_becomeLike 9 = .ok (.aload_n 1, 1) := by decide +kernel
theorem dX3_becomeLike_10 : decode cX3_becomeLike 10 = .ok (.getfield 41, 3) := by decide +kernel
theorem dX3_becomeLike_13 : decode cX3_becomeLike 13 = .ok (.putfield 41, 3) := by decide +kernel
theorem dX3_becomeLike_16 : decode cX3_becomeLike 16 = .ok (.aload_n 0, 1) := by decide +kernel
theorem dX3_becomeLike_17 : decode cX3_becomeLike 17 = .ok (.aload_n 1, 1) := by decide +kernel
theorem dX3_becomeLike_18 : decode cX3_becomeLike 18 = .ok (.getfield 44, 3) := by decide +kernel
theorem dX3_becomeLike_21 : decode cX3_becomeLike 21 = .ok (.putfield 44, 3) := by decide +kernel
theorem dX3_becomeLike_24 : decode cX3_becomeLike 24 = .ok (.aload_n 0, 1) := by decide +kernel
theorem dX3_becomeLike_25 : decode cX3_becomeLike 25 = .ok (.aload_n 1, 1) := by decide +kernel
theorem dX3_becomeLike_26 : decode cX3_becomeLike 26 = .ok (.getfield 34, 3) := by decide +kernel
theorem dX3_becomeLike_29 : decode cX3_becomeLike 29 = .ok (.putfield 34, 3) := by decide +kernel
theorem dX3_becomeLike_32 : decode cX3_becomeLike 32 = .ok (.aload_n 0, 1) := by decide +kernel
theorem dX3_becomeLike_33 : decode cX3_becomeLike 33 = .ok (.aload_n 1, 1) := by decide +kernel
theorem dX3_becomeLike_34 : decode cX3_becomeLike 34 = .ok (.getfield 47, 3) := by decide +kernel
theorem dX3_becomeLike_37 : decode cX3_becomeLike 37 = .ok (.putfield 47, 3) := by decide +kernel
theorem dX3_becomeLike_40 : decode cX3_becomeLike 40 = .ok (.aload_n 1, 1) := by decide +kernel
theorem dX3_becomeLike_41 : decode cX3_becomeLike 41 = .ok (.getfield 18, 3) := by decide +kernel
theorem dX3_becomeLike_44 : decode cX3_becomeLike 44 = .ok (.iconst 0, 1) := by decide +kernel
theorem dX3_becomeLike_45 : decode cX3_becomeLike 45 = .ok (.aload_n 0, 1) := by decide +kernel
theorem dX3_becomeLike_46 : decode cX3_becomeLike 46 = .ok (.getfield 18, 3) := by decide +kernel
theorem dX3_becomeLike_49 : decode cX3_becomeLike 49 = .ok (.iconst 0, 1) := by decide +kernel
theorem dX3_becomeLike_50 : decode cX3_becomeLike 50 = .ok (.bipush 10, 2) := by decide +kernel
theorem dX3_becomeLike_52 : decode cX3_becomeLike 52 = .ok (.invokestatic 50, 3) := by decide +kernel
theorem dX3_becomeLike_55 : decode cX3_becomeLike 55 = .ok (.aload_n 1, 1) := by decide +kernel
theorem dX3_becomeLike_56 : decode cX3_becomeLike 56 = .ok (.getfield 22, 3) := by decide +kernel
theorem dX3_becomeLike_59 : decode cX3_becomeLike 59 = .ok (.iconst 0, 1) := by decide +kernel
theorem dX3_becomeLike_60 : decode cX3_becomeLike 60 = .ok (.aload_n 0, 1) := by decide +kernel
theorem dX3_becomeLike_61 : decode cX3_becomeLike 61 = .ok (.getfield 22, 3) := by decide +kernel
theorem dX3_becomeLike_64 : decode cX3_becomeLike 64 = .ok (.iconst 0, 1) := by decide +kernel
theorem dX3_becomeLike_65 : decode cX3_becomeLike 65 = .ok (.bipush 10, 2) := by decide +kernel
theorem dX3_becomeLike_67 : decode cX3_becomeLike 67 = .ok (.invokestatic 50, 3) := by decide +kernel
theorem dX3_becomeLike_70 : decode cX3_becomeLike 70 = .ok (.aload_n 1, 1) := by decide +kernel
theorem dX3_becomeLike_71 : decode cX3_becomeLike 71 = .ok (.getfield 25, 3) := by decide +kernel
theorem dX3_becomeLike_74 : decode cX3_becomeLike 74 = .ok (.iconst 0, 1) := by decide +kernel
theorem dX3_becomeLike_75 : decode cX3_becomeLike 75 = .ok (.aload_n 0, 1) := by decide +kernel
theorem dX3_becomeLike_76 : decode cX3_becomeLike 76 = .ok (.getfield 25, 3) := by decide +kernel
theorem dX3_becomeLike_79 : decode cX3_becomeLike 79 = .ok (.iconst 0, 1) := by decide +kernel
theorem dX3_becomeLike_80 : decode cX3_becomeLike 80 = .ok (.bipush 10, 2) := by decide +kernel
theorem dX3_becomeLike_82 : decode cX3_becomeLike 82 = .ok (.invokestatic 50, 3) := by decide +kernel
theorem dX3_becomeLike_85 : decode cX3_becomeLike 85 = .ok (.aload_n 1, 1) := by decide +kernel
theorem dX3_becomeLike_86 : decode cX3_becomeLike 86 = .ok (.getfield 28, 3) := by decide +kernel
theorem dX3_becomeLike_89 : decode cX3_becomeLike 89 = .ok (.iconst 0, 1) := by decide +kernel
theorem dX3_becomeLike_90 : decode cX3_becomeLike 90 = .ok (.aload_n 0, 1) := by decide +kernel
theorem dX3_becomeLike_91 : decode cX3_becomeLike 91 = .ok (.getfield 28, 3) := by decide +kernel
theorem dX3_becomeLike_94 : decode cX3_becomeLike 94 = .ok (.iconst 0, 1) := by decide +kernel
theorem dX3_becomeLike_95 : decode cX3_becomeLike 95 = .ok (.bipush 10, 2) := by decide +kernel
theorem dX3_becomeLike_97 : decode cX3_becomeLike 97 = .ok (.invokestatic 50, 3) := by decide +kernel
theorem dX3_becomeLike_100 : decode cX3_becomeLike 100 = .ok (.aload_n 1, 1) := by decide +kernel
theorem dX3_becomeLike_101 : decode cX3_becomeLike 101 = .ok (.getfield 31, 3) := by decide +kernel
theorem dX3_becomeLike_104 : decode cX3_becomeLike 104 = .ok (.iconst 0, 1) := by decide +kernel
theorem dX3_becomeLike_105 : decode cX3_becomeLike 105 = .ok (.aload_n 0, 1) := by decide +kernel
theorem dX3_becomeLike_106 : decode cX3_becomeLike 106 = .ok (.getfield 31, 3) := by decide +kernel
theorem dX3_becomeLike_109 : decode cX3_becomeLike 109 = .ok (.iconst 0, 1) := by decide +kernel
theorem dX3_becomeLike_110 : decode cX3_becomeLike 110 = .ok (.bipush 24, 2) := by decide +kernel
theorem dX3_becomeLike_112 : decode cX3_becomeLike 112 = .ok (.invokestatic 50, 3) := by decide +kernel
theorem dX3_becomeLike_115 : decode cX3_becomeLike 115 = .ok (.aload_n 0, 1) := by decide +kernel
theorem dX3_becomeLike_116 : decode cX3_becomeLike 116 = .ok (.getfield 12, 3) := by decide +kernel
theorem dX3_becomeLike_119 : decode cX3_becomeLike 119 = .ok (.aload_n 1, 1) := by decide +kernel
theorem dX3_becomeLike_120 : decode cX3_becomeLike 120 = .ok (.getfield 12, 3) := by decide +kernel
theorem dX3_becomeLike_123 : decode cX3_becomeLike 123 = .ok (.invokevirtual 56, 3) := by decide +kernel
theorem dX3_becomeLike_126 : decode cX3_becomeLike 126 = .ok (.return_, 1) := by decide +kernel
theorem dX3_hasHouse_0 : decode cX3_hasHouse 0 = .ok (.iload_n 1, 1) := by decide +kernel
theorem dX3_hasHouse_1 : decode cX3_hasHouse 1 = .ok (.ifCond .lt 21, 3) := by decide +kernel
theorem dX3_hasHouse_4 : decode cX3_hasHouse 4 = .ok (.iload_n 1, 1) := by decide +kernel
theorem dX3_hasHouse_5 : decode cX3_hasHouse 5 = .ok (.aload_n 0, 1) := by decide +kernel
theorem dX3_hasHouse_6 : decode cX3_hasHouse 6 = .ok (.getfield 38, 3) := by decide +kernel
theorem dX3_hasHouse_9 : decode cX3_hasHouse 9 = .ok (.if_icmp .ge 13, 3) := by decide +kernel
theorem dX3_hasHouse_12 : decode cX3_hasHouse 12 = .ok (.iload_n 1, 1) := by decide +kernel
theorem dX3_hasHouse_13 : decode cX3_hasHouse 13 = .ok (.bipush 10, 2) := by decide +kernel
theorem dX3_hasHouse_15 : decode cX3_hasHouse 15 = .ok (.if_icmp .ge 7, 3) := by decide +kernel
theorem dX3_hasHouse_18 : decode cX3_hasHouse 18 = .ok (.iconst 1, 1) := by decide +kernel
theorem dX3_hasHouse_19 : decode cX3_hasHouse 19 = .ok (.goto 4, 3) := by decide +kernel
theorem dX3_hasHouse_22 : decode cX3_hasHouse 22 = .ok (.iconst 0, 1) := by decide +kernel
theorem dX3_hasHouse_23 : decode cX3_hasHouse 23 = .ok (.ireturn, 1) := by decide +kernel
theorem dX3_kind_0 : decode cX3_kind 0 = .ok (.aload_n 0, 1) := by decide +kernel
theorem dX3_kind_1 : decode cX3_kind 1 = .ok (.iload_n 1, 1) := by decide +kernel
theorem dX3_kind_2 : decode cX3_kind 2 = .ok (.invokevirtual 60, 3) := by decide +kernel
theorem dX3_kind_5 : decode cX3_kind 5 = .ok (.ifCond .eq 12, 3) := by decide +kernel
theorem dX3_kind_8 : decode cX3_kind 8 = .ok (.aload_n 0, 1) := by decide +kernel
theorem dX3_kind_9 : decode cX3_kind 9 = .ok (.getfield 18, 3) := by decide +kernel
theorem dX3_kind_12 : decode cX3_kind 12 = .ok (.iload_n 1, 1) := by decide +kernel
theorem dX3_kind_13 : decode cX3_kind 13 = .ok (.iaload, 1) := by decide +kernel
theorem dX3_kind_14 : decode cX3_kind 14 = .ok (.goto 4, 3) := by decide +kernel
theorem dX3_kind_17 : decode cX3_kind 17 = .ok (.iconst 0, 1) := by decide +kernel
theorem dX3_kind_18 : decode cX3_kind 18 = .ok (.ireturn, 1) := by decide +kernel
theorem dX3_m_0 : decode cX3_m 0 = .ok (.aload_n 0, 1) := by decide +kernel
theorem dX3_m_1 : decode cX3_m 1 = .ok (.iload_n 1, 1) := by decide +kernel
theorem dX3_m_2 : decode cX3_m 2 = .ok (.invokevirtual 60, 3) := by decide +kernel
theorem dX3_m_5 : decode cX3_m 5 = .ok (.ifCond .eq 12, 3) := by decide +kernel
theorem dX3_m_8 : decode cX3_m 8 = .ok (.aload_n 0, 1) := by decide +kernel
theorem dX3_m_9 : decode cX3_m 9 = .ok (.getfield 22, 3) := by decide +kernel
theorem dX3_m_12 : decode cX3_m 12 = .ok (.iload_n 1, 1) := by decide +kernel
theorem dX3_m_13 : decode cX3_m 13 = .ok (.iaload, 1) := by decide +kernel
theorem dX3_m_14 : decode cX3_m 14 = .ok (.goto 4, 3) := by decide +kernel
theorem dX3_m_17 : decode cX3_m 17 = .ok (.iconst 0, 1) := by decide +kernel
theorem dX3_m_18 : decode cX3_m 18 = .ok (.ireturn, 1) := by decide +kernel
theorem dX3_plate_0 : decode cX3_plate 0 = .ok (.aload_n 0, 1) := by decide +kernel
theorem dX3_plate_1 : decode cX3_plate 1 = .ok (.iload_n 1, 1) := by decide +kernel
theorem dX3_plate_2 : decode cX3_plate 2 = .ok (.invokevirtual 60, 3) := by decide +kernel
theorem dX3_plate_5 : decode cX3_plate 5 = .ok (.ifCond .eq 12, 3) := by decide +kernel
theorem dX3_plate_8 : decode cX3_plate 8 = .ok (.aload_n 0, 1) := by decide +kernel
theorem dX3_plate_9 : decode cX3_plate 9 = .ok (.getfield 25, 3) := by decide +kernel
theorem dX3_plate_12 : decode cX3_plate 12 = .ok (.iload_n 1, 1) := by decide +kernel
theorem dX3_plate_13 : decode cX3_plate 13 = .ok (.iaload, 1) := by decide +kernel
theorem dX3_plate_14 : decode cX3_plate 14 = .ok (.goto 4, 3) := by decide +kernel
theorem dX3_plate_17 : decode cX3_plate 17 = .ok (.iconst 0, 1) := by decide +kernel
theorem dX3_plate_18 : decode cX3_plate 18 = .ok (.ireturn, 1) := by decide +kernel
theorem dX3_houseAt_0 : decode cX3_houseAt 0 = .ok (.aload_n 0, 1) := by decide +kernel
theorem dX3_houseAt_1 : decode cX3_houseAt 1 = .ok (.iload_n 1, 1) := by decide +kernel
theorem dX3_houseAt_2 : decode cX3_houseAt 2 = .ok (.invokevirtual 60, 3) := by decide +kernel
theorem dX3_houseAt_5 : decode cX3_houseAt 5 = .ok (.ifCond .eq 12, 3) := by decide +kernel
theorem dX3_houseAt_8 : decode cX3_houseAt 8 = .ok (.aload_n 0, 1) := by decide +kernel
theorem dX3_houseAt_9 : decode cX3_houseAt 9 = .ok (.getfield 28, 3) := by decide +kernel
theorem dX3_houseAt_12 : decode cX3_houseAt 12 = .ok (.iload_n 1, 1) := by decide +kernel
theorem dX3_houseAt_13 : decode cX3_houseAt 13 = .ok (.iaload, 1) := by decide +kernel
theorem dX3_houseAt_14 : decode cX3_houseAt 14 = .ok (.goto 4, 3) := by decide +kernel
theorem dX3_houseAt_17 : decode cX3_houseAt 17 = .ok (.iconst (-1), 1) := by decide +kernel
theorem dX3_houseAt_18 : decode cX3_houseAt 18 = .ok (.ireturn, 1) := by decide +kernel
theorem dX3_plateAt_0 : decode cX3_plateAt 0 = .ok (.aload_n 0, 1) := by decide +kernel
theorem dX3_plateAt_1 : decode cX3_plateAt 1 = .ok (.aload_n 0, 1) := by decide +kernel
theorem dX3_plateAt_2 : decode cX3_plateAt 2 = .ok (.iload_n 1, 1) := by decide +kernel
theorem dX3_plateAt_3 : decode cX3_plateAt 3 = .ok (.invokevirtual 64, 3) := by decide +kernel
theorem dX3_plateAt_6 : decode cX3_plateAt 6 = .ok (.invokevirtual 68, 3) := by decide +kernel
theorem dX3_plateAt_9 : decode cX3_plateAt 9 = .ok (.ireturn, 1) := by decide +kernel
theorem dX3_placeOf_0 : decode cX3_placeOf 0 = .ok (.iconst 0, 1) := by decide +kernel
theorem dX3_placeOf_1 : decode cX3_placeOf 1 = .ok (.istore_n 2, 1) := by decide +kernel
theorem dX3_placeOf_2 : decode cX3_placeOf 2 = .ok (.iload_n 2, 1) := by decide +kernel
theorem dX3_placeOf_3 : decode cX3_placeOf 3 = .ok (.bipush 10, 2) := by decide +kernel
theorem dX3_placeOf_5 : decode cX3_placeOf 5 = .ok (.if_icmp .ge 29, 3) := by decide +kernel
theorem dX3_placeOf_8 : decode cX3_placeOf 8 = .ok (.iload_n 2, 1) := by decide +kernel
theorem dX3_placeOf_9 : decode cX3_placeOf 9 = .ok (.aload_n 0, 1) := by decide +kernel
theorem dX3_placeOf_10 : decode cX3_placeOf 10 = .ok (.getfield 38, 3) := by decide +kernel
theorem dX3_placeOf_13 : decode cX3_placeOf 13 = .ok (.if_icmp .ge 21, 3) := by decide +kernel
theorem dX3_placeOf_16 : decode cX3_placeOf 16 = .ok (.aload_n 0, 1) := by decide +kernel
theorem dX3_placeOf_17 : decode cX3_placeOf 17 = .ok (.getfield 28, 3) := by decide +kernel
theorem dX3_placeOf_20 : decode cX3_placeOf 20 = .ok (.iload_n 2, 1) := by decide +kernel
theorem dX3_placeOf_21 : decode cX3_placeOf 21 = .ok (.iaload, 1) := by decide +kernel
theorem dX3_placeOf_22 : decode cX3_placeOf 22 = .ok (.iload_n 1, 1) := by decide +kernel
theorem dX3_placeOf_23 : decode cX3_placeOf 23 = .ok (.if_icmp .ne 5, 3) := by decide +kernel
theorem dX3_placeOf_26 : decode cX3_placeOf 26 = .ok (.iload_n 2, 1) := by decide +kernel
theorem dX3_placeOf_27 : decode cX3_placeOf 27 = .ok (.ireturn, 1) := by decide +kernel
theorem dX3_placeOf_28 : decode cX3_placeOf 28 = .ok (.iinc 2 1, 3) := by decide +kernel
theorem dX3_placeOf_31 : decode cX3_placeOf 31 = .ok (.goto (-29), 3) := by decide +kernel
theorem dX3_placeOf_34 : decode cX3_placeOf 34 = .ok (.iconst (-1), 1) := by decide +kernel
theorem dX3_placeOf_35 : decode cX3_placeOf 35 = .ok (.ireturn, 1) := by decide +kernel
theorem dX3_setKind_0 : decode cX3_setKind 0 = .ok (.aload_n 0, 1) := by decide +kernel
theorem dX3_setKind_1 : decode cX3_setKind 1 = .ok (.iload_n 1, 1) := by decide +kernel
theorem dX3_setKind_2 : decode cX3_setKind 2 = .ok (.invokevirtual 60, 3) := by decide +kernel
theorem dX3_setKind_5 : decode cX3_setKind 5 = .ok (.ifCond .eq 17, 3) := by decide +kernel
theorem dX3_setKind_8 : decode cX3_setKind 8 = .ok (.aload_n 0, 1) := by decide +kernel
theorem dX3_setKind_9 : decode cX3_setKind 9 = .ok (.getfield 18, 3) := by decide +kernel
theorem dX3_setKind_12 : decode cX3_setKind 12 = .ok (.iload_n 1, 1) := by decide +kernel
theorem dX3_setKind_13 : decode cX3_setKind 13 = .ok (.iload_n 2, 1) := by decide +kernel
theorem dX3_setKind_14 : decode cX3_setKind 14 = .ok (.iastore, 1) := by decide +kernel
theorem dX3_setKind_15 : decode cX3_setKind 15 = .ok (.aload_n 0, 1) := by decide +kernel
theorem dX3_setKind_16 : decode cX3_setKind 16 = .ok (.getfield 22, 3) := by decide +kernel
theorem dX3_setKind_19 : decode cX3_setKind 19 = .ok (.iload_n 1, 1) := by decide +kernel
theorem dX3_setKind_20 : decode cX3_setKind 20 = .ok (.iload_n 3, 1) := by decide +kernel
theorem dX3_setKind_21 : decode cX3_setKind 21 = .ok (.iastore, 1) := by decide +kernel
theorem dX3_setKind_22 : decode cX3_setKind 22 = .ok (.return_, 1) := by decide +kernel
theorem dX3_setPlate_0 : decode cX3_setPlate 0 = .ok (.aload_n 0, 1) := by decide +kernel
theorem dX3_setPlate_1 : decode cX3_setPlate 1 = .ok (.iload_n 1, 1) := by decide +kernel
theorem dX3_setPlate_2 : decode cX3_setPlate 2 = .ok (.invokevirtual 60, 3) := by decide +kernel
theorem dX3_setPlate_5 : decode cX3_setPlate 5 = .ok (.ifCond .eq 10, 3) := by decide +kernel
theorem dX3_setPlate_8 : decode cX3_setPlate 8 = .ok (.aload_n 0, 1) := by decide +kernel
theorem dX3_setPlate_9 : decode cX3_setPlate 9 = .ok (.getfield 25, 3) := by decide +kernel
theorem dX3_setPlate_12 : decode cX3_setPlate 12 = .ok (.iload_n 1, 1) := by decide +kernel
theorem dX3_setPlate_13 : decode cX3_setPlate 13 = .ok (.iload_n 2, 1) := by decide +kernel
theorem dX3_setPlate_14 : decode cX3_setPlate 14 = .ok (.iastore, 1) := by decide +kernel
theorem dX3_setPlate_15 : decode cX3_setPlate 15 = .ok (.return_, 1) := by decide +kernel
theorem dX3_addHouse_0 : decode cX3_addHouse 0 = .ok (.aload_n 0, 1) := by decide +kernel
theorem dX3_addHouse_1 : decode cX3_addHouse 1 = .ok (.getfield 38, 3) := by decide +kernel
theorem dX3_addHouse_4 : decode cX3_addHouse 4 = .ok (.istore 5, 2) := by decide +kernel
theorem dX3_addHouse_6 : decode cX3_addHouse 6 = .ok (.iload 5, 2) := by decide +kernel
theorem dX3_addHouse_8 : decode cX3_addHouse 8 = .ok (.ifCond .lt 20, 3) := by decide +kernel
theorem dX3_addHouse_11 : decode cX3_addHouse 11 = .ok (.iload 5, 2) := by decide +kernel
theorem dX3_addHouse_13 : decode cX3_addHouse 13 = .ok (.bipush 10, 2) := by decide +kernel
theorem dX3_addHouse_15 : decode cX3_addHouse 15 = .ok (.if_icmp .ge 13, 3) := by decide +kernel
theorem dX3_addHouse_18 : decode cX3_addHouse 18 = .ok (.iload_n 3, 1) := by decide +kernel
theorem dX3_addHouse_19 : decode cX3_addHouse 19 = .ok (.ifCond .lt 9, 3) := by decide +kernel
theorem dX3_addHouse_22 : decode cX3_addHouse 22 = .ok (.iload_n 3, 1) := by decide +kernel
theorem dX3_addHouse_23 : decode cX3_addHouse 23 = .ok (.iload 5, 2) := by decide +kernel
theorem dX3_addHouse_25 : decode cX3_addHouse 25 = .ok (.if_icmp .le 5, 3) := by decide +kernel
theorem dX3_addHouse_28 : decode cX3_addHouse 28 = .ok (.iconst (-1), 1) := by decide +kernel
theorem dX3_addHouse_29 : decode cX3_addHouse 29 = .ok (.ireturn, 1) := by decide +kernel
theorem dX3_addHouse_30 : decode cX3_addHouse 30 = .ok (.aload_n 0, 1) := by decide +kernel
theorem dX3_addHouse_31 : decode cX3_addHouse 31 = .ok (.getfield 28, 3) := by decide +kernel
theorem dX3_addHouse_34 : decode cX3_addHouse 34 = .ok (.iload_n 3, 1) := by decide +kernel
theorem dX3_addHouse_35 : decode cX3_addHouse 35 = .ok (.aload_n 0, 1) := by decide +kernel
theorem dX3_addHouse_36 : decode cX3_addHouse 36 = .ok (.getfield 28, 3) := by decide +kernel
theorem dX3_addHouse_39 : decode cX3_addHouse 39 = .ok (.iload_n 3, 1) := by decide +kernel
theorem dX3_addHouse_40 : decode cX3_addHouse 40 = .ok (.iconst 1, 1) := by decide +kernel
theorem dX3_addHouse_41 : decode cX3_addHouse 41 = .ok (.iadd, 1) := by decide +kernel
theorem dX3_addHouse_42 : decode cX3_addHouse 42 = .ok (.iload 5, 2) := by decide +kernel
theorem dX3_addHouse_44 : decode cX3_addHouse 44 = .ok (.iload_n 3, 1) := by decide +kernel
theorem dX3_addHouse_45 : decode cX3_addHouse 45 = .ok (.isub, 1) := by decide +kernel
theorem dX3_addHouse_46 : decode cX3_addHouse 46 = .ok (.invokestatic 50, 3) := by decide +kernel
theorem dX3_addHouse_49 : decode cX3_addHouse 49 = .ok (.aload_n 0, 1) := by decide +kernel
theorem dX3_addHouse_50 : decode cX3_addHouse 50 = .ok (.getfield 28, 3) := by decide +kernel
theorem dX3_addHouse_53 : decode cX3_addHouse 53 = .ok (.iload_n 3, 1) := by decide +kernel
theorem dX3_addHouse_54 : decode cX3_addHouse 54 = .ok (.iload 5, 2) := by decide +kernel
theorem dX3_addHouse_56 : decode cX3_addHouse 56 = .ok (.iastore, 1) := by decide +kernel
theorem dX3_addHouse_57 : decode cX3_addHouse 57 = .ok (.aload_n 0, 1) := by decide +kernel
theorem dX3_addHouse_58 : decode cX3_addHouse 58 = .ok (.iload 5, 2) := by decide +kernel
theorem dX3_addHouse_60 : decode cX3_addHouse 60 = .ok (.iconst 1, 1) := by decide +kernel
theorem dX3_addHouse_61 : decode cX3_addHouse 61 = .ok (.iadd, 1) := by decide +kernel
theorem dX3_addHouse_62 : decode cX3_addHouse 62 = .ok (.putfield 38, 3) := by decide +kernel
theorem dX3_addHouse_65 : decode cX3_addHouse 65 = .ok (.aload_n 0, 1) := by decide +kernel
theorem dX3_addHouse_66 : decode cX3_addHouse 66 = .ok (.iload 5, 2) := by decide +kernel
theorem dX3_addHouse_68 : decode cX3_addHouse 68 = .ok (.iload_n 1, 1) := by decide +kernel
theorem dX3_addHouse_69 : decode cX3_addHouse 69 = .ok (.iload_n 2, 1) := by decide +kernel
theorem dX3_addHouse_70 : decode cX3_addHouse 70 = .ok (.invokevirtual 71, 3) := by decide +kernel
theorem dX3_addHouse_73 : decode cX3_addHouse 73 = .ok (.aload_n 0, 1) := by decide +kernel
theorem dX3_addHouse_74 : decode cX3_addHouse 74 = .ok (.iload 5, 2) := by decide +kernel
theorem dX3_addHouse_76 : decode cX3_addHouse 76 = .ok (.iload 4, 2) := by decide +kernel
theorem dX3_addHouse_78 : decode cX3_addHouse 78 = .ok (.invokevirtual 75, 3) := by decide +kernel
theorem dX3_addHouse_81 : decode cX3_addHouse 81 = .ok (.iload 5, 2) := by decide +kernel
theorem dX3_addHouse_83 : decode cX3_addHouse 83 = .ok (.ireturn, 1) := by decide +kernel
theorem dX3_addWaiting_0 : decode cX3_addWaiting 0 = .ok (.aload_n 0, 1) := by decide +kernel
theorem dX3_addWaiting_1 : decode cX3_addWaiting 1 = .ok (.getfield 47, 3) := by decide +kernel
theorem dX3_addWaiting_4 : decode cX3_addWaiting 4 = .ok (.ifCond .lt 32, 3) := by decide +kernel
theorem dX3_addWaiting_7 : decode cX3_addWaiting 7 = .ok (.aload_n 0, 1) := by decide +kernel
theorem dX3_addWaiting_8 : decode cX3_addWaiting 8 = .ok (.getfield 47, 3) := by decide +kernel
theorem dX3_addWaiting_11 : decode cX3_addWaiting 11 = .ok (.bipush 24, 2) := by decide +kernel
theorem dX3_addWaiting_13 : decode cX3_addWaiting 13 = .ok (.if_icmp .ge 23, 3) := by decide +kernel
theorem dX3_addWaiting_16 : decode cX3_addWaiting 16 = .ok (.aload_n 0, 1) := by decide +kernel
theorem dX3_addWaiting_17 : decode cX3_addWaiting 17 = .ok (.getfield 31, 3) := by decide +kernel
theorem dX3_addWaiting_20 : decode cX3_addWaiting 20 = .ok (.aload_n 0, 1) := by decide +kernel
theorem dX3_addWaiting_21 : decode cX3_addWaiting 21 = .ok (.getfield 47, 3) := by decide +kernel
theorem dX3_addWaiting_24 : decode cX3_addWaiting 24 = .ok (.iload_n 1, 1) := by decide +kernel
theorem dX3_addWaiting_25 : decode cX3_addWaiting 25 = .ok (.iastore, 1) := by decide +kernel
theorem dX3_addWaiting_26 : decode cX3_addWaiting 26 = .ok (.aload_n 0, 1) := by decide +kernel
theorem dX3_addWaiting_27 : decode cX3_addWaiting 27 = .ok (.dup, 1) := by decide +kernel
theorem dX3_addWaiting_28 : decode cX3_addWaiting 28 = .ok (.getfield 47, 3) := by decide +kernel
theorem dX3_addWaiting_31 : decode cX3_addWaiting 31 = .ok (.iconst 1, 1) := by decide +kernel
theorem dX3_addWaiting_32 : decode cX3_addWaiting 32 = .ok (.iadd, 1) := by decide +kernel
theorem dX3_addWaiting_33 : decode cX3_addWaiting 33 = .ok (.putfield 47, 3) := by decide +kernel
theorem dX3_addWaiting_36 : decode cX3_addWaiting 36 = .ok (.aload_n 0, 1) := by decide +kernel
theorem dX3_addWaiting_37 : decode cX3_addWaiting 37 = .ok (.getfield 47, 3) := by decide +kernel
theorem dX3_addWaiting_40 : decode cX3_addWaiting 40 = .ok (.ireturn, 1) := by decide +kernel
theorem dX3_waitingAt_0 : decode cX3_waitingAt 0 = .ok (.iload_n 1, 1) := by decide +kernel
theorem dX3_waitingAt_1 : decode cX3_waitingAt 1 = .ok (.ifCond .lt 18, 3) := by decide +kernel
theorem dX3_waitingAt_4 : decode cX3_waitingAt 4 = .ok (.iload_n 1, 1) := by decide +kernel
theorem dX3_waitingAt_5 : decode cX3_waitingAt 5 = .ok (.bipush 24, 2) := by decide +kernel
theorem dX3_waitingAt_7 : decode cX3_waitingAt 7 = .ok (.if_icmp .ge 12, 3) := by decide +kernel
theorem dX3_waitingAt_10 : decode cX3_waitingAt 10 = .ok (.aload_n 0, 1) := by decide +kernel
theorem dX3_waitingAt_11 : decode cX3_waitingAt 11 = .ok (.getfield 31, 3) := by decide +kernel
theorem dX3_waitingAt_14 : decode cX3_waitingAt 14 = .ok (.iload_n 1, 1) := by decide +kernel
theorem dX3_waitingAt_15 : decode cX3_waitingAt 15 = .ok (.iaload, 1) := by decide +kernel
theorem dX3_waitingAt_16 : decode cX3_waitingAt 16 = .ok (.goto 4, 3) := by decide +kernel
theorem dX3_waitingAt_19 : decode cX3_waitingAt 19 = .ok (.iconst 0, 1) := by decide +kernel
theorem dX3_waitingAt_20 : decode cX3_waitingAt 20 = .ok (.ireturn, 1) := by decide +kernel
theorem dX3_minds_0 : decode cX3_minds 0 = .ok (.iload_n 2, 1) := by decide +kernel
theorem dX3_minds_1 : decode cX3_minds 1 = .ok (.aload_n 0, 1) := by decide +kernel
theorem dX3_minds_2 : decode cX3_minds 2 = .ok (.iload_n 1, 1) := by decide +kernel
theorem dX3_minds_3 : decode cX3_minds 3 = .ok (.invokevirtual 68, 3) := by decide +kernel
theorem dX3_minds_6 : decode cX3_minds 6 = .ok (.isub, 1) := by decide +kernel
theorem dX3_minds_7 : decode cX3_minds 7 = .ok (.invokestatic 79, 3) := by decide +kernel
theorem dX3_minds_10 : decode cX3_minds 10 = .ok (.istore_n 3, 1) := by decide +kernel
theorem dX3_minds_11 : decode cX3_minds 11 = .ok (.aload_n 0, 1) := by decide +kernel
theorem dX3_minds_12 : decode cX3_minds 12 = .ok (.iload_n 1, 1) := by decide +kernel
theorem dX3_minds_13 : decode cX3_minds 13 = .ok (.invokevirtual 84, 3) := by decide +kernel
theorem dX3_minds_16 : decode cX3_minds 16 = .ok (.tableswitch 101 1 6 #[40, 46, 52, 70, 78, 99], 40) := by decide +kernel
theorem dX3_minds_56 : decode cX3_minds 56 = .ok (.iload_n 3, 1) := by decide +kernel
theorem dX3_minds_57 : decode cX3_minds 57 = .ok (.iload_n 2, 1) := by decide +kernel
theorem dX3_minds_58 : decode cX3_minds 58 = .ok (.invokestatic 87, 3) := by decide +kernel
theorem dX3_minds_61 : decode cX3_minds 61 = .ok (.ireturn, 1) := by decide +kernel
theorem dX3_minds_62 : decode cX3_minds 62 = .ok (.iload_n 3, 1) := by decide +kernel
theorem dX3_minds_63 : decode cX3_minds 63 = .ok (.iload_n 2, 1) := by decide +kernel
theorem dX3_minds_64 : decode cX3_minds 64 = .ok (.invokestatic 91, 3) := by decide +kernel
theorem dX3_minds_67 : decode cX3_minds 67 = .ok (.ireturn, 1) := by decide +kernel
theorem dX3_minds_68 : decode cX3_minds 68 = .ok (.iload_n 2, 1) := by decide +kernel
theorem dX3_minds_69 : decode cX3_minds 69 = .ok (.iconst 2, 1) := by decide +kernel
theorem dX3_minds_70 : decode cX3_minds 70 = .ok (.irem, 1) := by decide +kernel
theorem dX3_minds_71 : decode cX3_minds 71 = .ok (.ifCond .ne 7, 3) := by decide +kernel
theorem dX3_minds_74 : decode cX3_minds 74 = .ok (.iload_n 3, 1) := by decide +kernel
theorem dX3_minds_75 : decode cX3_minds 75 = .ok (.goto 10, 3) := by decide +kernel
theorem dX3_minds_78 : decode cX3_minds 78 = .ok (.iload_n 3, 1) := by decide +kernel
theorem dX3_minds_79 : decode cX3_minds 79 = .ok (.aload_n 0, 1) := by decide +kernel
theorem dX3_minds_80 : decode cX3_minds 80 = .ok (.iload_n 1, 1) := by decide +kernel
theorem dX3_minds_81 : decode cX3_minds 81 = .ok (.invokevirtual 94, 3) := by decide +kernel
theorem dX3_minds_84 : decode cX3_minds 84 = .ok (.iadd, 1) := by decide +kernel
theorem dX3_minds_85 : decode cX3_minds 85 = .ok (.ireturn, 1) := by decide +kernel
theorem dX3_minds_86 : decode cX3_minds 86 = .ok (.iconst 3, 1) := by decide +kernel
theorem dX3_minds_87 : decode cX3_minds 87 = .ok (.iload_n 3, 1) := by decide +kernel
theorem dX3_minds_88 : decode cX3_minds 88 = .ok (.iload_n 2, 1) := by decide +kernel
theorem dX3_minds_89 : decode cX3_minds 89 = .ok (.invokestatic 87, 3) := by decide +kernel
theorem dX3_minds_92 : decode cX3_minds 92 = .ok (.imul, 1) := by decide +kernel
theorem dX3_minds_93 : decode cX3_minds 93 = .ok (.ireturn, 1) := by decide +kernel
theorem dX3_minds_94 : decode cX3_minds 94 = .ok (.iload_n 3, 1) := by decide +kernel
theorem dX3_minds_95 : decode cX3_minds 95 = .ok (.iload_n 2, 1) := by decide +kernel
theorem dX3_minds_96 : decode cX3_minds 96 = .ok (.invokestatic 91, 3) := by decide +kernel
theorem dX3_minds_99 : decode cX3_minds 99 = .ok (.iload_n 2, 1) := by decide +kernel
theorem dX3_minds_100 : decode cX3_minds 100 = .ok (.bipush 10, 2) := by decide +kernel
theorem dX3_minds_102 : decode cX3_minds 102 = .ok (.irem, 1) := by decide +kernel
theorem dX3_minds_103 : decode cX3_minds 103 = .ok (.iconst 4, 1) := by decide +kernel
theorem dX3_minds_104 : decode cX3_minds 104 = .ok (.if_icmp .ne 8, 3) := by decide +kernel
theorem dX3_minds_107 : decode cX3_minds 107 = .ok (.bipush 20, 2) := by decide +kernel
theorem dX3_minds_109 : decode cX3_minds 109 = .ok (.goto 4, 3) := by decide +kernel
theorem dX3_minds_112 : decode cX3_minds 112 = .ok (.iconst 0, 1) := by decide +kernel
theorem dX3_minds_113 : decode cX3_minds 113 = .ok (.iadd, 1) := by decide +kernel
theorem dX3_minds_114 : decode cX3_minds 114 = .ok (.ireturn, 1) := by decide +kernel
theorem dX3_minds_115 : decode cX3_minds 115 = .ok (.iconst 0, 1) := by decide +kernel
theorem dX3_minds_116 : decode cX3_minds 116 = .ok (.ireturn, 1) := by decide +kernel
theorem dX3_minds_117 : decode cX3_minds 117 = .ok (.iload_n 3, 1) := by decide +kernel
theorem dX3_minds_118 : decode cX3_minds 118 = .ok (.ireturn, 1) := by decide +kernel
theorem dX3_villaMinds_0 : decode cX3_villaMinds 0 = .ok (.iload_n 1, 1) := by decide +kernel
theorem dX3_villaMinds_1 : decode cX3_villaMinds 1 = .ok (.bipush 100, 2) := by decide +kernel
theorem dX3_villaMinds_3 : decode cX3_villaMinds 3 = .ok (.irem, 1) := by decide +kernel
theorem dX3_villaMinds_4 : decode cX3_villaMinds 4 = .ok (.bipush 13, 2) := by decide +kernel
theorem dX3_villaMinds_6 : decode cX3_villaMinds 6 = .ok (.if_icmp .ne 10, 3) := by decide +kernel
theorem dX3_villaMinds_9 : decode cX3_villaMinds 9 = .ok (.iload_n 0, 1) := by decide +kernel
theorem dX3_villaMinds_10 : decode cX3_villaMinds 10 = .ok (.bipush 50, 2) := by decide +kernel
theorem dX3_villaMinds_12 : decode cX3_villaMinds 12 = .ok (.iadd, 1) := by decide +kernel
theorem dX3_villaMinds_13 : decode cX3_villaMinds 13 = .ok (.goto 4, 3) := by decide +kernel
theorem dX3_villaMinds_16 : decode cX3_villaMinds 16 = .ok (.iload_n 0, 1) := by decide +kernel
theorem dX3_villaMinds_17 : decode cX3_villaMinds 17 = .ok (.ireturn, 1) := by decide +kernel
theorem dX3_shopMinds_0 : decode cX3_shopMinds 0 = .ok (.iload_n 1, 1) := by decide +kernel
theorem dX3_shopMinds_1 : decode cX3_shopMinds 1 = .ok (.bipush 10, 2) := by decide +kernel
theorem dX3_shopMinds_3 : decode cX3_shopMinds 3 = .ok (.irem, 1) := by decide +kernel
theorem dX3_shopMinds_4 : decode cX3_shopMinds 4 = .ok (.bipush 8, 2) := by decide +kernel
theorem dX3_shopMinds_6 : decode cX3_shopMinds 6 = .ok (.if_icmp .ne 7, 3) := by decide +kernel
theorem dX3_shopMinds_9 : decode cX3_shopMinds 9 = .ok (.iconst 0, 1) := by decide +kernel
theorem dX3_shopMinds_10 : decode cX3_shopMinds 10 = .ok (.goto 6, 3) := by decide +kernel
theorem dX3_shopMinds_13 : decode cX3_shopMinds 13 = .ok (.iload_n 0, 1) := by decide +kernel
theorem dX3_shopMinds_14 : decode cX3_shopMinds 14 = .ok (.iconst 2, 1) := by decide +kernel
theorem dX3_shopMinds_15 : decode cX3_shopMinds 15 = .ok (.idiv, 1) := by decide +kernel
theorem dX3_shopMinds_16 : decode cX3_shopMinds 16 = .ok (.ireturn, 1) := by decide +kernel
theorem dX3_front_0 : decode cX3_front 0 = .ok (.bipush 6, 2) := by decide +kernel
theorem dX3_front_2 : decode cX3_front 2 = .ok (.aload_n 0, 1) := by decide +kernel
theorem dX3_front_3 : decode cX3_front 3 = .ok (.iload_n 1, 1) := by decide +kernel
theorem dX3_front_4 : decode cX3_front 4 = .ok (.invokevirtual 94, 3) := by decide +kernel
theorem dX3_front_7 : decode cX3_front 7 = .ok (.iadd, 1) := by decide +kernel
theorem dX3_front_8 : decode cX3_front 8 = .ok (.istore_n 2, 1) := by decide +kernel
theorem dX3_front_9 : decode cX3_front 9 = .ok (.aload_n 0, 1) := by decide +kernel
theorem dX3_front_10 : decode cX3_front 10 = .ok (.iload_n 1, 1) := by decide +kernel
theorem dX3_front_11 : decode cX3_front 11 = .ok (.invokevirtual 84, 3) := by decide +kernel
theorem dX3_front_14 : decode cX3_front 14 = .ok (.tableswitch 69 1 6 #[38, 42, 69, 46, 53, 59], 38) := by decide +kernel
theorem dX3_front_52 : decode cX3_front 52 = .ok (.iconst 2, 1) := by decide +kernel
theorem dX3_front_53 : decode cX3_front 53 = .ok (.iload_n 2, 1) := by decide +kernel
theorem dX3_front_54 : decode cX3_front 54 = .ok (.imul, 1) := by decide +kernel
theorem dX3_front_55 : decode cX3_front 55 = .ok (.ireturn, 1) := by decide +kernel
theorem dX3_front_56 : decode cX3_front 56 = .ok (.iload_n 2, 1) := by decide +kernel
theorem dX3_front_57 : decode cX3_front 57 = .ok (.iconst 2, 1) := by decide +kernel
theorem dX3_front_58 : decode cX3_front 58 = .ok (.isub, 1) := by decide +kernel
theorem dX3_front_59 : decode cX3_front 59 = .ok (.ireturn, 1) := by decide +kernel
theorem dX3_front_60 : decode cX3_front 60 = .ok (.iconst 2, 1) := by decide +kernel
theorem dX3_front_61 : decode cX3_front 61 = .ok (.iload_n 2, 1) := by decide +kernel
theorem dX3_front_62 : decode cX3_front 62 = .ok (.imul, 1) := by decide +kernel
theorem dX3_front_63 : decode cX3_front 63 = .ok (.bipush 10, 2) := by decide +kernel
theorem dX3_front_65 : decode cX3_front 65 = .ok (.iadd, 1) := by decide +kernel
theorem dX3_front_66 : decode cX3_front 66 = .ok (.ireturn, 1) := by decide +kernel
theorem dX3_front_67 : decode cX3_front 67 = .ok (.iload_n 2, 1) := by decide +kernel
theorem dX3_front_68 : decode cX3_front 68 = .ok (.iconst 2, 1) := by decide +kernel
theorem dX3_front_69 : decode cX3_front 69 = .ok (.isub, 1) := by decide +kernel
theorem dX3_front_70 : decode cX3_front 70 = .ok (.iconst 2, 1) := by decide +kernel
theorem dX3_front_71 : decode cX3_front 71 = .ok (.idiv, 1) := by decide +kernel
theorem dX3_front_72 : decode cX3_front 72 = .ok (.ireturn, 1) := by decide +kernel
theorem dX3_front_73 : decode cX3_front 73 = .ok (.bipush 20, 2) := by decide +kernel
theorem dX3_front_75 : decode cX3_front 75 = .ok (.aload_n 0, 1) := by decide +kernel
theorem dX3_front_76 : decode cX3_front 76 = .ok (.getfield 41, 3) := by decide +kernel
theorem dX3_front_79 : decode cX3_front 79 = .ok (.iconst 5, 1) := by decide +kernel
theorem dX3_front_80 : decode cX3_front 80 = .ok (.irem, 1) := by decide +kernel
theorem dX3_front_81 : decode cX3_front 81 = .ok (.iadd, 1) := by decide +kernel
theorem dX3_front_82 : decode cX3_front 82 = .ok (.ireturn, 1) := by decide +kernel
theorem dX3_front_83 : decode cX3_front 83 = .ok (.iload_n 2, 1) := by decide +kernel
theorem dX3_front_84 : decode cX3_front 84 = .ok (.ireturn, 1) := by decide +kernel
theorem dX3_harmTo_0 : decode cX3_harmTo 0 = .ok (.aload_n 0, 1) := by decide +kernel
theorem dX3_harmTo_1 : decode cX3_harmTo 1 = .ok (.iload_n 1, 1) := by decide +kernel
theorem dX3_harmTo_2 : decode cX3_harmTo 2 = .ok (.invokevirtual 68, 3) := by decide +kernel
theorem dX3_harmTo_5 : decode cX3_harmTo 5 = .ok (.istore_n 3, 1) := by decide +kernel
theorem dX3_harmTo_6 : decode cX3_harmTo 6 = .ok (.iload_n 2, 1) := by decide +kernel
theorem dX3_harmTo_7 : decode cX3_harmTo 7 = .ok (.iload_n 3, 1) := by decide +kernel
theorem dX3_harmTo_8 : decode cX3_harmTo 8 = .ok (.if_icmp .ne 7, 3) := by decide +kernel
theorem dX3_harmTo_11 : decode cX3_harmTo 11 = .ok (.iconst 0, 1) := by decide +kernel
theorem dX3_harmTo_12 : decode cX3_harmTo 12 = .ok (.goto 25, 3) := by decide +kernel
theorem dX3_harmTo_15 : decode cX3_harmTo 15 = .ok (.aload_n 0, 1) := by decide +kernel
theorem dX3_harmTo_16 : decode cX3_harmTo 16 = .ok (.getfield 12, 3) := by decide +kernel
theorem dX3_harmTo_19 : decode cX3_harmTo 19 = .ok (.iconst 0, 1) := by decide +kernel
theorem dX3_harmTo_20 : decode cX3_harmTo 20 = .ok (.aload_n 0, 1) := by decide +kernel
theorem dX3_harmTo_21 : decode cX3_harmTo 21 = .ok (.iload_n 1, 1) := by decide +kernel
theorem dX3_harmTo_22 : decode cX3_harmTo 22 = .ok (.iload_n 2, 1) := by decide +kernel
theorem dX3_harmTo_23 : decode cX3_harmTo 23 = .ok (.invokevirtual 97, 3) := by decide +kernel
theorem dX3_harmTo_26 : decode cX3_harmTo 26 = .ok (.aload_n 0, 1) := by decide +kernel
theorem dX3_harmTo_27 : decode cX3_harmTo 27 = .ok (.getfield 41, 3) := by decide +kernel
theorem dX3_harmTo_30 : decode cX3_harmTo 30 = .ok (.bipush 7, 2) := by decide +kernel
theorem dX3_harmTo_32 : decode cX3_harmTo 32 = .ok (.irem, 1) := by decide +kernel
theorem dX3_harmTo_33 : decode cX3_harmTo 33 = .ok (.iload_n 3, 1) := by decide +kernel
theorem dX3_harmTo_34 : decode cX3_harmTo 34 = .ok (.invokevirtual 100, 3) := by decide +kernel
theorem dX3_harmTo_37 : decode cX3_harmTo 37 = .ok (.ireturn, 1) := by decide +kernel
theorem dX3_yardsAt_0 : decode cX3_yardsAt 0 = .ok (.aload_n 0, 1) := by decide +kernel
theorem dX3_yardsAt_1 : decode cX3_yardsAt 1 = .ok (.getfield 12, 3) := by decide +kernel
theorem dX3_yardsAt_4 : decode cX3_yardsAt 4 = .ok (.iconst 1, 1) := by decide +kernel
theorem dX3_yardsAt_5 : decode cX3_yardsAt 5 = .ok (.aload_n 0, 1) := by decide +kernel
theorem dX3_yardsAt_6 : decode cX3_yardsAt 6 = .ok (.aload_n 0, 1) := by decide +kernel
theorem dX3_yardsAt_7 : decode cX3_yardsAt 7 = .ok (.iload_n 1, 1) := by decide +kernel
theorem dX3_yardsAt_8 : decode cX3_yardsAt 8 = .ok (.invokevirtual 64, 3) := by decide +kernel
theorem dX3_yardsAt_11 : decode cX3_yardsAt 11 = .ok (.invokevirtual 104, 3) := by decide +kernel
theorem dX3_yardsAt_14 : decode cX3_yardsAt 14 = .ok (.iload_n 1, 1) := by decide +kernel
theorem dX3_yardsAt_15 : decode cX3_yardsAt 15 = .ok (.aload_n 0, 1) := by decide +kernel
theorem dX3_yardsAt_16 : decode cX3_yardsAt 16 = .ok (.getfield 41, 3) := by decide +kernel
theorem dX3_yardsAt_19 : decode cX3_yardsAt 19 = .ok (.bipush 7, 2) := by decide +kernel
theorem dX3_yardsAt_21 : decode cX3_yardsAt 21 = .ok (.irem, 1) := by decide +kernel
theorem dX3_yardsAt_22 : decode cX3_yardsAt 22 = .ok (.invokevirtual 100, 3) := by decide +kernel
theorem dX3_yardsAt_25 : decode cX3_yardsAt 25 = .ok (.ireturn, 1) := by decide +kernel
theorem dX3_yardsAhead_0 : decode cX3_yardsAhead 0 = .ok (.iconst 0, 1) := by decide +kernel
theorem dX3_yardsAhead_1 : decode cX3_yardsAhead 1 = .ok (.istore_n 2, 1) := by decide +kernel
theorem dX3_yardsAhead_2 : decode cX3_yardsAhead 2 = .ok (.iconst 0, 1) := by decide +kernel
theorem dX3_yardsAhead_3 : decode cX3_yardsAhead 3 = .ok (.istore_n 3, 1) := by decide +kernel
theorem dX3_yardsAhead_4 : decode cX3_yardsAhead 4 = .ok (.iload_n 3, 1) := by decide +kernel
theorem dX3_yardsAhead_5 : decode cX3_yardsAhead 5 = .ok (.iload_n 1, 1) := by decide +kernel
theorem dX3_yardsAhead_6 : decode cX3_yardsAhead 6 = .ok (.if_icmp .ge 17, 3) := by decide +kernel
theorem dX3_yardsAhead_9 : decode cX3_yardsAhead 9 = .ok (.iload_n 2, 1) := by decide +kernel
theorem dX3_yardsAhead_10 : decode cX3_yardsAhead 10 = .ok (.aload_n 0, 1) := by decide +kernel
theorem dX3_yardsAhead_11 : decode cX3_yardsAhead 11 = .ok (.iload_n 3, 1) := by decide +kernel
theorem dX3_yardsAhead_12 : decode cX3_yardsAhead 12 = .ok (.invokevirtual 107, 3) := by decide +kernel
theorem dX3_yardsAhead_15 : decode cX3_yardsAhead 15 = .ok (.iadd, 1) := by decide +kernel
theorem dX3_yardsAhead_16 : decode cX3_yardsAhead 16 = .ok (.istore_n 2, 1) := by decide +kernel
theorem dX3_yardsAhead_17 : decode cX3_yardsAhead 17 = .ok (.iinc 3 1, 3) := by decide +kernel
theorem dX3_yardsAhead_20 : decode cX3_yardsAhead 20 = .ok (.goto (-16), 3) := by decide +kernel
theorem dX3_yardsAhead_23 : decode cX3_yardsAhead 23 = .ok (.iload_n 2, 1) := by decide +kernel
theorem dX3_yardsAhead_24 : decode cX3_yardsAhead 24 = .ok (.ireturn, 1) := by decide +kernel
theorem dX3_getsNumber_0 : decode cX3_getsNumber 0 = .ok (.aload_n 0, 1) := by decide +kernel
theorem dX3_getsNumber_1 : decode cX3_getsNumber 1 = .ok (.iload_n 1, 1) := by decide +kernel
theorem dX3_getsNumber_2 : decode cX3_getsNumber 2 = .ok (.iload_n 2, 1) := by decide +kernel
theorem dX3_getsNumber_3 : decode cX3_getsNumber 3 = .ok (.invokevirtual 110, 3) := by decide +kernel
theorem dX3_getsNumber_6 : decode cX3_getsNumber 6 = .ok (.istore_n 3, 1) := by decide +kernel
theorem dX3_getsNumber_7 : decode cX3_getsNumber 7 = .ok (.aload_n 0, 1) := by decide +kernel
theorem dX3_getsNumber_8 : decode cX3_getsNumber 8 = .ok (.ldc 113, 2) := by decide +kernel
theorem dX3_getsNumber_10 : decode cX3_getsNumber 10 = .ok (.aload_n 0, 1) := by decide +kernel
theorem dX3_getsNumber_11 : decode cX3_getsNumber 11 = .ok (.getfield 44, 3) := by decide +kernel
theorem dX3_getsNumber_14 : decode cX3_getsNumber 14 = .ok (.iload_n 3, 1) := by decide +kernel
theorem dX3_getsNumber_15 : decode cX3_getsNumber 15 = .ok (.iadd, 1) := by decide +kernel
theorem dX3_getsNumber_16 : decode cX3_getsNumber 16 = .ok (.invokestatic 114, 3) := by decide +kernel
theorem dX3_getsNumber_19 : decode cX3_getsNumber 19 = .ok (.putfield 44, 3) := by decide +kernel
theorem dX3_getsNumber_22 : decode cX3_getsNumber 22 = .ok (.aload_n 0, 1) := by decide +kernel
theorem dX3_getsNumber_23 : decode cX3_getsNumber 23 = .ok (.iload_n 1, 1) := by decide +kernel
theorem dX3_getsNumber_24 : decode cX3_getsNumber 24 = .ok (.iload_n 2, 1) := by decide +kernel
theorem dX3_getsNumber_25 : decode cX3_getsNumber 25 = .ok (.invokevirtual 75, 3) := by decide +kernel
theorem dX3_getsNumber_28 : decode cX3_getsNumber 28 = .ok (.iload_n 3, 1) := by decide +kernel
theorem dX3_getsNumber_29 : decode cX3_getsNumber 29 = .ok (.ireturn, 1) := by decide +kernel
theorem dX3_renumberBy_0 : decode cX3_renumberBy 0 = .ok (.iconst 0, 1) := by decide +kernel
theorem dX3_renumberBy_1 : decode cX3_renumberBy 1 = .ok (.istore_n 2, 1) := by decide +kernel
theorem dX3_renumberBy_2 : decode cX3_renumberBy 2 = .ok (.iconst 0, 1) := by decide +kernel
theorem dX3_renumberBy_3 : decode cX3_renumberBy 3 = .ok (.istore_n 3, 1) := by decide +kernel
theorem dX3_renumberBy_4 : decode cX3_renumberBy 4 = .ok (.iload_n 3, 1) := by decide +kernel
theorem dX3_renumberBy_5 : decode cX3_renumberBy 5 = .ok (.aload_n 0, 1) := by decide +kernel
theorem dX3_renumberBy_6 : decode cX3_renumberBy 6 = .ok (.getfield 38, 3) := by decide +kernel
theorem dX3_renumberBy_9 : decode cX3_renumberBy 9 = .ok (.if_icmp .ge 26, 3) := by decide +kernel
theorem dX3_renumberBy_12 : decode cX3_renumberBy 12 = .ok (.iload_n 2, 1) := by decide +kernel
theorem dX3_renumberBy_13 : decode cX3_renumberBy 13 = .ok (.aload_n 0, 1) := by decide +kernel
theorem dX3_renumberBy_14 : decode cX3_renumberBy 14 = .ok (.aload_n 0, 1) := by decide +kernel
theorem dX3_renumberBy_15 : decode cX3_renumberBy 15 = .ok (.iload_n 3, 1) := by decide +kernel
theorem dX3_renumberBy_16 : decode cX3_renumberBy 16 = .ok (.invokevirtual 64, 3) := by decide +kernel
theorem dX3_renumberBy_19 : decode cX3_renumberBy 19 = .ok (.iload_n 1, 1) := by decide +kernel
theorem dX3_renumberBy_20 : decode cX3_renumberBy 20 = .ok (.iload_n 3, 1) := by decide +kernel
theorem dX3_renumberBy_21 : decode cX3_renumberBy 21 = .ok (.iconst 1, 1) := by decide +kernel
theorem dX3_renumberBy_22 : decode cX3_renumberBy 22 = .ok (.iadd, 1) := by decide +kernel
theorem dX3_renumberBy_23 : decode cX3_renumberBy 23 = .ok (.imul, 1) := by decide +kernel
theorem dX3_renumberBy_24 : decode cX3_renumberBy 24 = .ok (.invokevirtual 117, 3) := by decide +kernel
theorem dX3_renumberBy_27 : decode cX3_renumberBy 27 = .ok (.iadd, 1) := by decide +kernel
theorem dX3_renumberBy_28 : decode cX3_renumberBy 28 = .ok (.istore_n 2, 1) := by decide +kernel
theorem dX3_renumberBy_29 : decode cX3_renumberBy 29 = .ok (.iinc 3 1, 3) := by decide +kernel
theorem dX3_renumberBy_32 : decode cX3_renumberBy 32 = .ok (.goto (-28), 3) := by decide +kernel
theorem dX3_renumberBy_35 : decode cX3_renumberBy 35 = .ok (.iload_n 2, 1) := by decide +kernel
theorem dX3_renumberBy_36 : decode cX3_renumberBy 36 = .ok (.ireturn, 1) := by decide +kernel
theorem dX3_harmOfGap_0 : decode cX3_harmOfGap 0 = .ok (.iconst 0, 1) := by decide +kernel
theorem dX3_harmOfGap_1 : decode cX3_harmOfGap 1 = .ok (.istore_n 2, 1) := by decide +kernel
theorem dX3_harmOfGap_2 : decode cX3_harmOfGap 2 = .ok (.iconst 0, 1) := by decide +kernel
theorem dX3_harmOfGap_3 : decode cX3_harmOfGap 3 = .ok (.istore_n 3, 1) := by decide +kernel
theorem dX3_harmOfGap_4 : decode cX3_harmOfGap 4 = .ok (.iload_n 3, 1) := by decide +kernel
theorem dX3_harmOfGap_5 : decode cX3_harmOfGap 5 = .ok (.aload_n 0, 1) := by decide +kernel
theorem dX3_harmOfGap_6 : decode cX3_harmOfGap 6 = .ok (.getfield 38, 3) := by decide +kernel
theorem dX3_harmOfGap_9 : decode cX3_harmOfGap 9 = .ok (.if_icmp .ge 26, 3) := by decide +kernel
theorem dX3_harmOfGap_12 : decode cX3_harmOfGap 12 = .ok (.iload_n 2, 1) := by decide +kernel
theorem dX3_harmOfGap_13 : decode cX3_harmOfGap 13 = .ok (.aload_n 0, 1) := by decide +kernel
theorem dX3_harmOfGap_14 : decode cX3_harmOfGap 14 = .ok (.aload_n 0, 1) := by decide +kernel
theorem dX3_harmOfGap_15 : decode cX3_harmOfGap 15 = .ok (.iload_n 3, 1) := by decide +kernel
theorem dX3_harmOfGap_16 : decode cX3_harmOfGap 16 = .ok (.invokevirtual 64, 3) := by decide +kernel
theorem dX3_harmOfGap_19 : decode cX3_harmOfGap 19 = .ok (.iload_n 1, 1) := by decide +kernel
theorem dX3_harmOfGap_20 : decode cX3_harmOfGap 20 = .ok (.iload_n 3, 1) := by decide +kernel
theorem dX3_harmOfGap_21 : decode cX3_harmOfGap 21 = .ok (.iconst 1, 1) := by decide +kernel
theorem dX3_harmOfGap_22 : decode cX3_harmOfGap 22 = .ok (.iadd, 1) := by decide +kernel
theorem dX3_harmOfGap_23 : decode cX3_harmOfGap 23 = .ok (.imul, 1) := by decide +kernel
theorem dX3_harmOfGap_24 : decode cX3_harmOfGap 24 = .ok (.invokevirtual 110, 3) := by decide +kernel
theorem dX3_harmOfGap_27 : decode cX3_harmOfGap 27 = .ok (.iadd, 1) := by decide +kernel
theorem dX3_harmOfGap_28 : decode cX3_harmOfGap 28 = .ok (.istore_n 2, 1) := by decide +kernel
theorem dX3_harmOfGap_29 : decode cX3_harmOfGap 29 = .ok (.iinc 3 1, 3) := by decide +kernel
theorem dX3_harmOfGap_32 : decode cX3_harmOfGap 32 = .ok (.goto (-28), 3) := by decide +kernel
theorem dX3_harmOfGap_35 : decode cX3_harmOfGap 35 = .ok (.iload_n 2, 1) := by decide +kernel
theorem dX3_harmOfGap_36 : decode cX3_harmOfGap 36 = .ok (.ireturn, 1) := by decide +kernel
theorem dX3_numberBetween_0 : decode cX3_numberBetween 0 = .ok (.iload_n 1, 1) := by decide +kernel
theorem dX3_numberBetween_1 : decode cX3_numberBetween 1 = .ok (.ifCond .le 13, 3) := by decide +kernel
theorem dX3_numberBetween_4 : decode cX3_numberBetween 4 = .ok (.aload_n 0, 1) := by decide +kernel
theorem dX3_numberBetween_5 : decode cX3_numberBetween 5 = .ok (.iload_n 1, 1) := by decide +kernel
theorem dX3_numberBetween_6 : decode cX3_numberBetween 6 = .ok (.iconst 1, 1) := by decide +kernel
theorem dX3_numberBetween_7 : decode cX3_numberBetween 7 = .ok (.isub, 1) := by decide +kernel
theorem dX3_numberBetween_8 : decode cX3_numberBetween 8 = .ok (.invokevirtual 120, 3) := by decide +kernel
theorem dX3_numberBetween_11 : decode cX3_numberBetween 11 = .ok (.goto 4, 3) := by decide +kernel
theorem dX3_numberBetween_14 : decode cX3_numberBetween 14 = .ok (.iconst 0, 1) := by decide +kernel
theorem dX3_numberBetween_15 : decode cX3_numberBetween 15 = .ok (.istore_n 2, 1) := by decide +kernel
theorem dX3_numberBetween_16 : decode cX3_numberBetween 16 = .ok (.iload_n 1, 1) := by decide +kernel
theorem dX3_numberBetween_17 : decode cX3_numberBetween 17 = .ok (.aload_n 0, 1) := by decide +kernel
theorem dX3_numberBetween_18 : decode cX3_numberBetween 18 = .ok (.getfield 38, 3) := by decide +kernel
theorem dX3_numberBetween_21 : decode cX3_numberBetween 21 = .ok (.if_icmp .ge 11, 3) := by decide +kernel
theorem dX3_numberBetween_24 : decode cX3_numberBetween 24 = .ok (.aload_n 0, 1) := by decide +kernel
theorem dX3_numberBetween_25 : decode cX3_numberBetween 25 = .ok (.iload_n 1, 1) := by decide +kernel
theorem dX3_numberBetween_26 : decode cX3_numberBetween 26 = .ok (.invokevirtual 120, 3) := by decide +kernel
theorem dX3_numberBetween_29 : decode cX3_numberBetween 29 = .ok (.goto 6, 3) := by decide +kernel
theorem dX3_numberBetween_32 : decode cX3_numberBetween 32 = .ok (.sipush 1000, 3) := by decide +kernel
theorem dX3_numberBetween_35 : decode cX3_numberBetween 35 = .ok (.istore_n 3, 1) := by decide +kernel
theorem dX3_numberBetween_36 : decode cX3_numberBetween 36 = .ok (.iload_n 3, 1) := by decide +kernel
theorem dX3_numberBetween_37 : decode cX3_numberBetween 37 = .ok (.iload_n 2, 1) := by decide +kernel
theorem dX3_numberBetween_38 : decode cX3_numberBetween 38 = .ok (.isub, 1) := by decide +kernel
theorem dX3_numberBetween_39 : decode cX3_numberBetween 39 = .ok (.iconst 2, 1) := by decide +kernel
theorem dX3_numberBetween_40 : decode cX3_numberBetween 40 = .ok (.if_icmp .ge 5, 3) := by decide +kernel
theorem dX3_numberBetween_43 : decode cX3_numberBetween 43 = .ok (.iconst (-1), 1) := by decide +kernel
theorem dX3_numberBetween_44 : decode cX3_numberBetween 44 = .ok (.ireturn, 1) := by decide +kernel
theorem dX3_numberBetween_45 : decode cX3_numberBetween 45 = .ok (.iload_n 1, 1) := by decide +kernel
theorem dX3_numberBetween_46 : decode cX3_numberBetween 46 = .ok (.aload_n 0, 1) := by decide +kernel
theorem dX3_numberBetween_47 : decode cX3_numberBetween 47 = .ok (.getfield 38, 3) := by decide +kernel
theorem dX3_numberBetween_50 : decode cX3_numberBetween 50 = .ok (.if_icmp .lt 9, 3) := by decide +kernel
theorem dX3_numberBetween_53 : decode cX3_numberBetween 53 = .ok (.iload_n 2, 1) := by decide +kernel
theorem dX3_numberBetween_54 : decode cX3_numberBetween 54 = .ok (.iconst 1, 1) := by decide +kernel
theorem dX3_numberBetween_55 : decode cX3_numberBetween 55 = .ok (.iadd, 1) := by decide +kernel
theorem dX3_numberBetween_56 : decode cX3_numberBetween 56 = .ok (.goto 10, 3) := by decide +kernel
theorem dX3_numberBetween_59 : decode cX3_numberBetween 59 = .ok (.iload_n 2, 1) := by decide +kernel
theorem dX3_numberBetween_60 : decode cX3_numberBetween 60 = .ok (.iload_n 3, 1) := by decide +kernel
theorem dX3_numberBetween_61 : decode cX3_numberBetween 61 = .ok (.iload_n 2, 1) := by decide +kernel
theorem dX3_numberBetween_62 : decode cX3_numberBetween 62 = .ok (.isub, 1) := by decide +kernel
theorem dX3_numberBetween_63 : decode cX3_numberBetween 63 = .ok (.iconst 2, 1) := by decide +kernel
theorem dX3_numberBetween_64 : decode cX3_numberBetween 64 = .ok (.idiv, 1) := by decide +kernel
theorem dX3_numberBetween_65 : decode cX3_numberBetween 65 = .ok (.iadd, 1) := by decide +kernel
theorem dX3_numberBetween_66 : decode cX3_numberBetween 66 = .ok (.ireturn, 1) := by decide +kernel
theorem dX3_draw_0 : decode cX3_draw 0 = .ok (.aload_n 0, 1) := by decide +kernel
theorem dX3_draw_1 : decode cX3_draw 1 = .ok (.aload_n 0, 1) := by decide +kernel
theorem dX3_draw_2 : decode cX3_draw 2 = .ok (.getfield 34, 3) := by decide +kernel
theorem dX3_draw_5 : decode cX3_draw 5 = .ok (.ldc 123, 2) := by decide +kernel
theorem dX3_draw_7 : decode cX3_draw 7 = .ok (.imul, 1) := by decide +kernel
theorem dX3_draw_8 : decode cX3_draw 8 = .ok (.sipush 12345, 3) := by decide +kernel
theorem dX3_draw_11 : decode cX3_draw 11 = .ok (.iadd, 1) := by decide +kernel
theorem dX3_draw_12 : decode cX3_draw 12 = .ok (.putfield 34, 3) := by decide +kernel
theorem dX3_draw_15 : decode cX3_draw 15 = .ok (.aload_n 0, 1) := by decide +kernel
theorem dX3_draw_16 : decode cX3_draw 16 = .ok (.getfield 34, 3) := by decide +kernel
theorem dX3_draw_19 : decode cX3_draw 19 = .ok (.bipush 8, 2) := by decide +kernel
theorem dX3_draw_21 : decode cX3_draw 21 = .ok (.iushr, 1) := by decide +kernel
theorem dX3_draw_22 : decode cX3_draw 22 = .ok (.ireturn, 1) := by decide +kernel
theorem dX3_passYearByDraws_0 : decode cX3_passYearByDraws 0 = .ok (.aload_n 0, 1) := by decide +kernel
theorem dX3_passYearByDraws_1 : decode cX3_passYearByDraws 1 = .ok (.invokevirtual 124, 3) := by decide +kernel
theorem dX3_passYearByDraws_4 : decode cX3_passYearByDraws 4 = .ok (.iconst 1, 1) := by decide +kernel
theorem dX3_passYearByDraws_5 : decode cX3_passYearByDraws 5 = .ok (.aload_n 0, 1) := by decide +kernel
theorem dX3_passYearByDraws_6 : decode cX3_passYearByDraws 6 = .ok (.getfield 38, 3) := by decide +kernel
theorem dX3_passYearByDraws_9 : decode cX3_passYearByDraws 9 = .ok (.iadd, 1) := by decide +kernel
theorem dX3_passYearByDraws_10 : decode cX3_passYearByDraws 10 = .ok (.invokestatic 128, 3) := by decide +kernel
theorem dX3_passYearByDraws_13 : decode cX3_passYearByDraws 13 = .ok (.istore_n 1, 1) := by decide +kernel
theorem dX3_passYearByDraws_14 : decode cX3_passYearByDraws 14 = .ok (.aload_n 0, 1) := by decide +kernel
theorem dX3_passYearByDraws_15 : decode cX3_passYearByDraws 15 = .ok (.invokevirtual 124, 3) := by decide +kernel
theorem dX3_passYearByDraws_18 : decode cX3_passYearByDraws 18 = .ok (.bipush 7, 2) := by decide +kernel
theorem dX3_passYearByDraws_20 : decode cX3_passYearByDraws 20 = .ok (.invokestatic 128, 3) := by decide +kernel
theorem dX3_passYearByDraws_23 : decode cX3_passYearByDraws 23 = .ok (.istore_n 2, 1) := by decide +kernel
theorem dX3_passYearByDraws_24 : decode cX3_passYearByDraws 24 = .ok (.aload_n 0, 1) := by decide +kernel
theorem dX3_passYearByDraws_25 : decode cX3_passYearByDraws 25 = .ok (.getfield 38, 3) := by decide +kernel
theorem dX3_passYearByDraws_28 : decode cX3_passYearByDraws 28 = .ok (.istore_n 3, 1) := by decide +kernel
theorem dX3_passYearByDraws_29 : decode cX3_passYearByDraws 29 = .ok (.aload_n 0, 1) := by decide +kernel
theorem dX3_passYearByDraws_30 : decode cX3_passYearByDraws 30 = .ok (.getfield 38, 3) := by decide +kernel
theorem dX3_passYearByDraws_33 : decode cX3_passYearByDraws 33 = .ok (.bipush 10, 2) := by decide +kernel
theorem dX3_passYearByDraws_35 : decode cX3_passYearByDraws 35 = .ok (.if_icmp .ge 31, 3) := by decide +kernel
theorem dX3_passYearByDraws_38 : decode cX3_passYearByDraws 38 = .ok (.aload_n 0, 1) := by decide +kernel
theorem dX3_passYearByDraws_39 : decode cX3_passYearByDraws 39 = .ok (.iload_n 1, 1) := by decide +kernel
theorem dX3_passYearByDraws_40 : decode cX3_passYearByDraws 40 = .ok (.invokevirtual 131, 3) := by decide +kernel
theorem dX3_passYearByDraws_43 : decode cX3_passYearByDraws 43 = .ok (.ifCond .ge 10, 3) := by decide +kernel
theorem dX3_passYearByDraws_46 : decode cX3_passYearByDraws 46 = .ok (.aload_n 0, 1) := by decide +kernel
theorem dX3_passYearByDraws_47 : decode cX3_passYearByDraws 47 = .ok (.bipush 10, 2) := by decide +kernel
theorem dX3_passYearByDraws_49 : decode cX3_passYearByDraws 49 = .ok (.invokevirtual 134, 3) := by decide +kernel
theorem dX3_passYearByDraws_52 : decode cX3_passYearByDraws 52 = .ok (.pop, 1) := by decide +kernel
theorem dX3_passYearByDraws_53 : decode cX3_passYearByDraws 53 = .ok (.aload_n 0, 1) := by decide +kernel
theorem dX3_passYearByDraws_54 : decode cX3_passYearByDraws 54 = .ok (.iload_n 2, 1) := by decide +kernel
theorem dX3_passYearByDraws_55 : decode cX3_passYearByDraws 55 = .ok (.iconst 0, 1) := by decide +kernel
theorem dX3_passYearByDraws_56 : decode cX3_passYearByDraws 56 = .ok (.iload_n 1, 1) := by decide +kernel
theorem dX3_passYearByDraws_57 : decode cX3_passYearByDraws 57 = .ok (.aload_n 0, 1) := by decide +kernel
theorem dX3_passYearByDraws_58 : decode cX3_passYearByDraws 58 = .ok (.iload_n 1, 1) := by decide +kernel
theorem dX3_passYearByDraws_59 : decode cX3_passYearByDraws 59 = .ok (.invokevirtual 131, 3) := by decide +kernel
theorem dX3_passYearByDraws_62 : decode cX3_passYearByDraws 62 = .ok (.invokevirtual 137, 3) := by decide +kernel
theorem dX3_passYearByDraws_65 : decode cX3_passYearByDraws 65 = .ok (.pop, 1) := by decide +kernel
theorem dX3_passYearByDraws_66 : decode cX3_passYearByDraws 66 = .ok (.aload_n 0, 1) := by decide +kernel
theorem dX3_passYearByDraws_67 : decode cX3_passYearByDraws 67 = .ok (.dup, 1) := by decide +kernel
theorem dX3_passYearByDraws_68 : decode cX3_passYearByDraws 68 = .ok (.getfield 41, 3) := by decide +kernel
theorem dX3_passYearByDraws_71 : decode cX3_passYearByDraws 71 = .ok (.iconst 1, 1) := by decide +kernel
theorem dX3_passYearByDraws_72 : decode cX3_passYearByDraws 72 = .ok (.iadd, 1) := by decide +kernel
theorem dX3_passYearByDraws_73 : decode cX3_passYearByDraws 73 = .ok (.putfield 41, 3) := by decide +kernel
theorem dX3_passYearByDraws_76 : decode cX3_passYearByDraws 76 = .ok (.aload_n 0, 1) := by decide +kernel
theorem dX3_passYearByDraws_77 : decode cX3_passYearByDraws 77 = .ok (.getfield 38, 3) := by decide +kernel
theorem dX3_passYearByDraws_80 : decode cX3_passYearByDraws 80 = .ok (.iload_n 3, 1) := by decide +kernel
theorem dX3_passYearByDraws_81 : decode cX3_passYearByDraws 81 = .ok (.isub, 1) := by decide +kernel
theorem dX3_passYearByDraws_82 : decode cX3_passYearByDraws 82 = .ok (.ireturn, 1) := by decide +kernel
theorem dX6_init_0 : decode cX6_init 0 = .ok (.aload_n 0, 1) := by decide +kernel
theorem dX6_init_1 : decode cX6_init 1 = .ok (.invokespecial 1, 3) := by decide +kernel
theorem dX6_init_4 : decode cX6_init 4 = .ok (.aload_n 0, 1) := by decide +kernel
theorem dX6_init_5 : decode cX6_init 5 = .ok (.new 7, 3) := by decide +kernel
theorem dX6_init_8 : decode cX6_init 8 = .ok (.dup, 1) := by decide +kernel
theorem dX6_init_9 : decode cX6_init 9 = .ok (.invokespecial 9, 3) := by decide +kernel
theorem dX6_init_12 : decode cX6_init 12 = .ok (.putfield 10, 3) := by decide +kernel
theorem dX6_init_15 : decode cX6_init 15 = .ok (.aload_n 0, 1) := by decide +kernel
theorem dX6_init_16 : decode cX6_init 16 = .ok (.new 7, 3) := by decide +kernel
theorem dX6_init_19 : decode cX6_init 19 = .ok (.dup, 1) := by decide +kernel
theorem dX6_init_20 : decode cX6_init 20 = .ok (.invokespecial 9, 3) := by decide +kernel
theorem dX6_init_23 : decode cX6_init 23 = .ok (.putfield 16, 3) := by decide +kernel
theorem dX6_init_26 : decode cX6_init 26 = .ok (.aload_n 0, 1) := by decide +kernel
theorem dX6_init_27 : decode cX6_init 27 = .ok (.new 19, 3) := by decide +kernel
theorem dX6_init_30 : decode cX6_init 30 = .ok (.dup, 1) := by decide +kernel
theorem dX6_init_31 : decode cX6_init 31 = .ok (.invokespecial 21, 3) := by decide +kernel
theorem dX6_init_34 : decode cX6_init 34 = .ok (.putfield 22, 3) := by decide +kernel
theorem dX6_init_37 : decode cX6_init 37 = .ok (.aload_n 0, 1) := by decide +kernel
theorem dX6_init_38 : decode cX6_init 38 = .ok (.new 26, 3) := by decide +kernel
theorem dX6_init_41 : decode cX6_init 41 = .ok (.dup, 1) := by decide +kernel
theorem dX6_init_42 : decode cX6_init 42 = .ok (.invokespecial 28, 3) := by decide +kernel
theorem dX6_init_45 : decode cX6_init 45 = .ok (.putfield 29, 3) := by decide +kernel
theorem dX6_init_48 : decode cX6_init 48 = .ok (.aload_n 0, 1) := by decide +kernel
theorem dX6_init_49 : decode cX6_init 49 = .ok (.new 33, 3) := by decide +kernel
theorem dX6_init_52 : decode cX6_init 52 = .ok (.dup, 1) := by decide +kernel
theorem dX6_init_53 : decode cX6_init 53 = .ok (.invokespecial 35, 3) := by decide +kernel
theorem dX6_init_56 : decode cX6_init 56 = .ok (.putfield 36, 3) := by decide +kernel
theorem dX6_init_59 : decode cX6_init 59 = .ok (.aload_n 0, 1) := by decide +kernel
theorem dX6_init_60 : decode cX6_init 60 = .ok (.new 40, 3) := by decide +kernel
theorem dX6_init_63 : decode cX6_init 63 = .ok (.dup, 1) := by decide +kernel
theorem dX6_init_64 : decode cX6_init 64 = .ok (.invokespecial 42, 3) := by decide +kernel
theorem dX6_init_67 : decode cX6_init 67 = .ok (.putfield 43, 3) := by decide +kernel
theorem dX6_init_70 : decode cX6_init 70 = .ok (.aload_n 0, 1) := by decide +kernel
theorem dX6_init_71 : decode cX6_init 71 = .ok (.bipush 7, 2) := by decide +kernel
theorem dX6_init_73 : decode cX6_init 73 = .ok (.newarray .int, 2) := by decide +kernel
theorem dX6_init_75 : decode cX6_init 75 = .ok (.putfield 47, 3) := by decide +kernel
theorem dX6_init_78 : decode cX6_init 78 = .ok (.aload_n 0, 1) := by decide +kernel
theorem dX6_init_79 : decode cX6_init 79 = .ok (.iconst 0, 1) := by decide +kernel
theorem dX6_init_80 : decode cX6_init 80 = .ok (.putfield 51, 3) := by decide +kernel
theorem dX6_init_83 : decode cX6_init 83 = .ok (.return_, 1) := by decide +kernel
theorem dX6_build_0 : decode cX6_build 0 = .ok (.iload_n 1, 1) := by decide +kernel
theorem dX6_build_1 : decode cX6_build 1 = .ok (.invokestatic 55, 3) := by decide +kernel
theorem dX6_build_4 : decode cX6_build 4 = .ok (.ifCond .eq 25, 3) := by decide +kernel
theorem dX6_build_7 : decode cX6_build 7 = .ok (.iload_n 2, 1) := by decide +kernel
theorem dX6_build_8 : decode cX6_build 8 = .ok (.ifCond .lt 21, 3) := by decide +kernel
theorem dX6_build_11 : decode cX6_build 11 = .ok (.iload_n 2, 1) := by decide +kernel
theorem dX6_build_12 : decode cX6_build 12 = .ok (.aload_n 0, 1) := by decide +kernel
theorem dX6_build_13 : decode cX6_build 13 = .ok (.getfield 10, 3) := by decide +kernel
theorem dX6_build_16 : decode cX6_build 16 = .ok (.getfield 59, 3) := by decide +kernel
theorem dX6_build_19 : decode cX6_build 19 = .ok (.if_icmp .gt 10, 3) := by decide +kernel
theorem dX6_build_22 : decode cX6_build 22 = .ok (.iload_n 3, 1) := by decide +kernel
theorem dX6_build_23 : decode cX6_build 23 = .ok (.invokestatic 62, 3) := by decide +kernel
theorem dX6_build_26 : decode cX6_build 26 = .ok (.ifCond .ne 9, 3) := by decide +kernel
theorem dX6_build_29 : decode cX6_build 29 = .ok (.aload_n 0, 1) := by decide +kernel
theorem dX6_build_30 : decode cX6_build 30 = .ok (.iconst 1, 1) := by decide +kernel
theorem dX6_build_31 : decode cX6_build 31 = .ok (.invokevirtual 65, 3) := by decide +kernel
theorem dX6_build_34 : decode cX6_build 34 = .ok (.ireturn, 1) := by decide +kernel
theorem dX6_build_35 : decode cX6_build 35 = .ok (.aload_n 0, 1) := by decide +kernel
theorem dX6_build_36 : decode cX6_build 36 = .ok (.getfield 10, 3) := by decide +kernel
theorem dX6_build_39 : decode cX6_build 39 = .ok (.getfield 59, 3) := by decide +kernel
theorem dX6_build_42 : decode cX6_build 42 = .ok (.bipush 10, 2) := by decide +kernel
theorem dX6_build_44 : decode cX6_build 44 = .ok (.if_icmp .lt 9, 3) := by decide +kernel
theorem dX6_build_47 : decode cX6_build 47 = .ok (.aload_n 0, 1) := by decide +kernel
theorem dX6_build_48 : decode cX6_build 48 = .ok (.iconst 4, 1) := by decide +kernel
theorem dX6_build_49 : decode cX6_build 49 = .ok (.invokevirtual 65, 3) := by decide +kernel
theorem dX6_build_52 : decode cX6_build 52 = .ok (.ireturn, 1) := by decide +kernel
theorem dX6_build_53 : decode cX6_build 53 = .ok (.aload_n 0, 1) := by decide +kernel
theorem dX6_build_54 : decode cX6_build 54 = .ok (.getfield 10, 3) := by decide +kernel
theorem dX6_build_57 : decode cX6_build 57 = .ok (.iload_n 1, 1) := by decide +kernel
theorem dX6_build_58 : decode cX6_build 58 = .ok (.bipush 10, 2) := by decide +kernel
theorem dX6_build_60 : decode cX6_build 60 = .ok (.idiv, 1) := by decide +kernel
theorem dX6_build_61 : decode cX6_build 61 = .ok (.iload_n 1, 1) := by decide +kernel
theorem dX6_build_62 : decode cX6_build 62 = .ok (.bipush 10, 2) := by decide +kernel
theorem dX6_build_64 : decode cX6_build 64 = .ok (.irem, 1) := by decide +kernel
theorem dX6_build_65 : decode cX6_build 65 = .ok (.iload_n 2, 1) := by decide +kernel
theorem dX6_build_66 : decode cX6_build 66 = .ok (.iload_n 3, 1) := by decide +kernel
theorem dX6_build_67 : decode cX6_build 67 = .ok (.invokevirtual 69, 3) := by decide +kernel
theorem dX6_build_70 : decode cX6_build 70 = .ok (.ireturn, 1) := by decide +kernel
theorem dX6_houseIs_0 : decode cX6_houseIs 0 = .ok (.aload_n 0, 1) := by decide +kernel
theorem dX6_houseIs_1 : decode cX6_houseIs 1 = .ok (.getfield 10, 3) := by decide +kernel
theorem dX6_houseIs_4 : decode cX6_houseIs 4 = .ok (.iload_n 1, 1) := by decide +kernel
theorem dX6_houseIs_5 : decode cX6_houseIs 5 = .ok (.invokevirtual 73, 3) := by decide +kernel
theorem dX6_houseIs_8 : decode cX6_houseIs 8 = .ok (.ifCond .ne 9, 3) := by decide +kernel
theorem dX6_houseIs_11 : decode cX6_houseIs 11 = .ok (.aload_n 0, 1) := by decide +kernel
theorem dX6_houseIs_12 : decode cX6_houseIs 12 = .ok (.iconst 1, 1) := by decide +kernel
theorem dX6_houseIs_13 : decode cX6_houseIs 13 = .ok (.invokevirtual 65, 3) := by decide +kernel
theorem dX6_houseIs_16 : decode cX6_houseIs 16 = .ok (.ireturn, 1) := by decide +kernel
theorem dX6_houseIs_17 : decode cX6_houseIs 17 = .ok (.iload_n 2, 1) := by decide +kernel
theorem dX6_houseIs_18 : decode cX6_houseIs 18 = .ok (.tableswitch 106 0 5 #[38, 47, 56, 65, 74, 90], 38) := by decide +kernel
theorem dX6_houseIs_56 : decode cX6_houseIs 56 = .ok (.aload_n 0, 1) := by decide +kernel
theorem dX6_houseIs_57 : decode cX6_houseIs 57 = .ok (.getfield 10, 3) := by decide +kernel
theorem dX6_houseIs_60 : decode cX6_houseIs 60 = .ok (.iload_n 1, 1) := by decide +kernel
theorem dX6_houseIs_61 : decode cX6_houseIs 61 = .ok (.invokevirtual 76, 3) := by decide +kernel
theorem dX6_houseIs_64 : decode cX6_houseIs 64 = .ok (.ireturn, 1) := by decide +kernel
theorem dX6_houseIs_65 : decode cX6_houseIs 65 = .ok (.aload_n 0, 1) := by decide +kernel
theorem dX6_houseIs_66 : decode cX6_houseIs 66 = .ok (.getfield 10, 3) := by decide +kernel
theorem dX6_houseIs_69 : decode cX6_houseIs 69 = .ok (.iload_n 1, 1) := by decide +kernel
theorem dX6_houseIs_70 : decode cX6_houseIs 70 = .ok (.invokevirtual 79, 3) := by decide +kernel
theorem dX6_houseIs_73 : decode cX6_houseIs 73 = .ok (.ireturn, 1) := by decide +kernel
theorem dX6_houseIs_74 : decode cX6_houseIs 74 = .ok (.aload_n 0, 1) := by decide +kernel
theorem dX6_houseIs_75 : decode cX6_houseIs 75 = .ok (.getfield 10, 3) := by decide +kernel
theorem dX6_houseIs_78 : decode cX6_houseIs 78 = .ok (.iload_n 1, 1) := by decide +kernel
theorem dX6_houseIs_79 : decode cX6_houseIs 79 = .ok (.invokevirtual 82, 3) := by decide +kernel
theorem dX6_houseIs_82 : decode cX6_houseIs 82 = .ok (.ireturn, 1) := by decide +kernel
theorem dX6_houseIs_83 : decode cX6_houseIs 83 = .ok (.aload_n 0, 1) := by decide +kernel
theorem dX6_houseIs_84 : decode cX6_houseIs 84 = .ok (.getfield 10, 3) := by decide +kernel
theorem dX6_houseIs_87 : decode cX6_houseIs 87 = .ok (.iload_n 1, 1) := by decide +kernel
theorem dX6_houseIs_88 : decode cX6_houseIs 88 = .ok (.invokevirtual 85, 3) := by decide +kernel
theorem dX6_houseIs_91 : decode cX6_houseIs 91 = .ok (.ireturn, 1) := by decide +kernel
theorem dX6_houseIs_92 : decode cX6_houseIs 92 = .ok (.aload_n 0, 1) := by decide +kernel
theorem dX6_houseIs_93 : decode cX6_houseIs 93 = .ok (.getfield 10, 3) := by decide +kernel
theorem dX6_houseIs_96 : decode cX6_houseIs 96 = .ok (.aload_n 0, 1) := by decide +kernel
theorem dX6_houseIs_97 : decode cX6_houseIs 97 = .ok (.getfield 10, 3) := by decide +kernel
theorem dX6_houseIs_100 : decode cX6_houseIs 100 = .ok (.iload_n 1, 1) := by decide +kernel
theorem dX6_houseIs_101 : decode cX6_houseIs 101 = .ok (.invokevirtual 85, 3) := by decide +kernel
theorem dX6_houseIs_104 : decode cX6_houseIs 104 = .ok (.invokevirtual 88, 3) := by decide +kernel
theorem dX6_houseIs_107 : decode cX6_houseIs 107 = .ok (.ireturn, 1) := by decide +kernel
theorem dX6_houseIs_108 : decode cX6_houseIs 108 = .ok (.aload_n 0, 1) := by decide +kernel
theorem dX6_houseIs_109 : decode cX6_houseIs 109 = .ok (.getfield 10, 3) := by decide +kernel
theorem dX6_houseIs_112 : decode cX6_houseIs 112 = .ok (.aload_n 0, 1) := by decide +kernel
theorem dX6_houseIs_113 : decode cX6_houseIs 113 = .ok (.getfield 10, 3) := by decide +kernel
theorem dX6_houseIs_116 : decode cX6_houseIs 116 = .ok (.iload_n 1, 1) := by decide +kernel
theorem dX6_houseIs_117 : decode cX6_houseIs 117 = .ok (.invokevirtual 85, 3) := by decide +kernel
theorem dX6_houseIs_120 : decode cX6_houseIs 120 = .ok (.invokevirtual 91, 3) := by decide +kernel
theorem dX6_houseIs_123 : decode cX6_houseIs 123 = .ok (.ireturn, 1) := by decide +kernel
theorem dX6_houseIs_124 : decode cX6_houseIs 124 = .ok (.aload_n 0, 1) := by decide +kernel
theorem dX6_houseIs_125 : decode cX6_houseIs 125 = .ok (.iconst 1, 1) := by decide +kernel
theorem dX6_houseIs_126 : decode cX6_houseIs 126 = .ok (.invokevirtual 65, 3) := by decide +kernel
theorem dX6_houseIs_129 : decode cX6_houseIs 129 = .ok (.ireturn, 1) := by decide +kernel
theorem dX6_standing_0 : decode cX6_standing 0 = .ok (.iload_n 1, 1) := by decide +kernel
theorem dX6_standing_1 : decode cX6_standing 1 = .ok (.ifCond .lt 14, 3) := by decide +kernel
theorem dX6_standing_4 : decode cX6_standing 4 = .ok (.iload_n 1, 1) := by decide +kernel
theorem dX6_standing_5 : decode cX6_standing 5 = .ok (.aload_n 0, 1) := by decide +kernel
theorem dX6_standing_6 : decode cX6_standing 6 = .ok (.getfield 10, 3) := by decide +kernel
theorem dX6_standing_9 : decode cX6_standing 9 = .ok (.getfield 59, 3) := by decide +kernel
theorem dX6_standing_12 : decode cX6_standing 12 = .ok (.if_icmp .lt 9, 3) := by decide +kernel
theorem dX6_standing_15 : decode cX6_standing 15 = .ok (.aload_n 0, 1) := by decide +kernel
theorem dX6_standing_16 : decode cX6_standing 16 = .ok (.iconst 1, 1) := by decide +kernel
theorem dX6_standing_17 : decode cX6_standing 17 = .ok (.invokevirtual 65, 3) := by decide +kernel
theorem dX6_standing_20 : decode cX6_standing 20 = .ok (.ireturn, 1) := by decide +kernel
theorem dX6_standing_21 : decode cX6_standing 21 = .ok (.aload_n 0, 1) := by decide +kernel
theorem dX6_standing_22 : decode cX6_standing 22 = .ok (.getfield 10, 3) := by decide +kernel
theorem dX6_standing_25 : decode cX6_standing 25 = .ok (.iload_n 1, 1) := by decide +kernel
theorem dX6_standing_26 : decode cX6_standing 26 = .ok (.invokevirtual 94, 3) := by decide +kernel
theorem dX6_standing_29 : decode cX6_standing 29 = .ok (.ireturn, 1) := by decide +kernel
theorem dX6_become_0 : decode cX6_become 0 = .ok (.aload_n 0, 1) := by decide +kernel
theorem dX6_become_1 : decode cX6_become 1 = .ok (.getfield 10, 3) := by decide +kernel
theorem dX6_become_4 : decode cX6_become 4 = .ok (.iload_n 1, 1) := by decide +kernel
theorem dX6_become_5 : decode cX6_become 5 = .ok (.invokevirtual 73, 3) := by decide +kernel
theorem dX6_become_8 : decode cX6_become 8 = .ok (.ifCond .eq 10, 3) := by decide +kernel
theorem dX6_become_11 : decode cX6_become 11 = .ok (.iload_n 2, 1) := by decide +kernel
theorem dX6_become_12 : decode cX6_become 12 = .ok (.invokestatic 55, 3) := by decide +kernel
theorem dX6_become_15 : decode cX6_become 15 = .ok (.ifCond .ne 9, 3) := by decide +kernel
theorem dX6_become_18 : decode cX6_become 18 = .ok (.aload_n 0, 1) := by decide +kernel
theorem dX6_become_19 : decode cX6_become 19 = .ok (.iconst 1, 1) := by decide +kernel
theorem dX6_become_20 : decode cX6_become 20 = .ok (.invokevirtual 65, 3) := by decide +kernel
theorem dX6_become_23 : decode cX6_become 23 = .ok (.ireturn, 1) := by decide +kernel
theorem dX6_become_24 : decode cX6_become 24 = .ok (.aload_n 0, 1) := by decide +kernel
theorem dX6_become_25 : decode cX6_become 25 = .ok (.getfield 10, 3) := by decide +kernel
theorem dX6_become_28 : decode cX6_become 28 = .ok (.iload_n 1, 1) := by decide +kernel
theorem dX6_become_29 : decode cX6_become 29 = .ok (.invokevirtual 76, 3) := by decide +kernel
theorem dX6_become_32 : decode cX6_become 32 = .ok (.istore_n 3, 1) := by decide +kernel
theorem dX6_become_33 : decode cX6_become 33 = .ok (.aload_n 0, 1) := by decide +kernel
theorem dX6_become_34 : decode cX6_become 34 = .ok (.getfield 10, 3) := by decide +kernel
theorem dX6_become_37 : decode cX6_become 37 = .ok (.iload_n 1, 1) := by decide +kernel
theorem dX6_become_38 : decode cX6_become 38 = .ok (.iload_n 2, 1) := by decide +kernel
theorem dX6_become_39 : decode cX6_become 39 = .ok (.bipush 10, 2) := by decide +kernel
theorem dX6_become_41 : decode cX6_become 41 = .ok (.idiv, 1) := by decide +kernel
theorem dX6_become_42 : decode cX6_become 42 = .ok (.iload_n 2, 1) := by decide +kernel
theorem dX6_become_43 : decode cX6_become 43 = .ok (.bipush 10, 2) := by decide +kernel
theorem dX6_become_45 : decode cX6_become 45 = .ok (.irem, 1) := by decide +kernel
theorem dX6_become_46 : decode cX6_become 46 = .ok (.invokevirtual 97, 3) := by decide +kernel
theorem dX6_become_49 : decode cX6_become 49 = .ok (.iload_n 3, 1) := by decide +kernel
theorem dX6_become_50 : decode cX6_become 50 = .ok (.ireturn, 1) := by decide +kernel
theorem dX6_as_0 : decode cX6_as 0 = .ok (.aload_n 0, 1) := by decide +kernel
theorem dX6_as_1 : decode cX6_as 1 = .ok (.getfield 10, 3) := by decide +kernel
theorem dX6_as_4 : decode cX6_as 4 = .ok (.iload_n 1, 1) := by decide +kernel
theorem dX6_as_5 : decode cX6_as 5 = .ok (.invokevirtual 73, 3) := by decide +kernel
theorem dX6_as_8 : decode cX6_as 8 = .ok (.ifCond .eq 13, 3) := by decide +kernel
theorem dX6_as_11 : decode cX6_as 11 = .ok (.iload_n 2, 1) := by decide +kernel
theorem dX6_as_12 : decode cX6_as 12 = .ok (.ifCond .lt 9, 3) := by decide +kernel
theorem dX6_as_15 : decode cX6_as 15 = .ok (.iload_n 2, 1) := by decide +kernel
theorem dX6_as_16 : decode cX6_as 16 = .ok (.bipush 7, 2) := by decide +kernel
theorem dX6_as_18 : decode cX6_as 18 = .ok (.if_icmp .lt 9, 3) := by decide +kernel
theorem dX6_as_21 : decode cX6_as 21 = .ok (.aload_n 0, 1) := by decide +kernel
theorem dX6_as_22 : decode cX6_as 22 = .ok (.iconst 1, 1) := by decide +kernel
theorem dX6_as_23 : decode cX6_as 23 = .ok (.invokevirtual 65, 3) := by decide +kernel
theorem dX6_as_26 : decode cX6_as 26 = .ok (.ireturn, 1) := by decide +kernel
theorem dX6_as_27 : decode cX6_as 27 = .ok (.aload_n 0, 1) := by decide +kernel
theorem dX6_as_28 : decode cX6_as 28 = .ok (.getfield 10, 3) := by decide +kernel
theorem dX6_as_31 : decode cX6_as 31 = .ok (.iload_n 1, 1) := by decide +kernel
theorem dX6_as_32 : decode cX6_as 32 = .ok (.invokevirtual 76, 3) := by decide +kernel
theorem dX6_as_35 : decode cX6_as 35 = .ok (.iload_n 2, 1) := by decide +kernel
theorem dX6_as_36 : decode cX6_as 36 = .ok (.invokestatic 101, 3) := by decide +kernel
theorem dX6_as_39 : decode cX6_as 39 = .ok (.ifCond .eq 14, 3) := by decide +kernel
theorem dX6_as_42 : decode cX6_as 42 = .ok (.aload_n 0, 1) := by decide +kernel
theorem dX6_as_43 : decode cX6_as 43 = .ok (.getfield 10, 3) := by decide +kernel
theorem dX6_as_46 : decode cX6_as 46 = .ok (.iload_n 1, 1) := by decide +kernel
theorem dX6_as_47 : decode cX6_as 47 = .ok (.invokevirtual 79, 3) := by decide +kernel
theorem dX6_as_50 : decode cX6_as 50 = .ok (.goto 8, 3) := by decide +kernel
theorem dX6_as_53 : decode cX6_as 53 = .ok (.aload_n 0, 1) := by decide +kernel
theorem dX6_as_54 : decode cX6_as 54 = .ok (.iconst 5, 1) := by decide +kernel
theorem dX6_as_55 : decode cX6_as 55 = .ok (.invokevirtual 65, 3) := by decide +kernel
theorem dX6_as_58 : decode cX6_as 58 = .ok (.ireturn, 1) := by decide +kernel
theorem dX6_harm_0 : decode cX6_harm 0 = .ok (.aload_n 0, 1) := by decide +kernel
theorem dX6_harm_1 : decode cX6_harm 1 = .ok (.getfield 10, 3) := by decide +kernel
theorem dX6_harm_4 : decode cX6_harm 4 = .ok (.iload_n 1, 1) := by decide +kernel
theorem dX6_harm_5 : decode cX6_harm 5 = .ok (.invokevirtual 73, 3) := by decide +kernel
theorem dX6_harm_8 : decode cX6_harm 8 = .ok (.ifCond .eq 10, 3) := by decide +kernel
theorem dX6_harm_11 : decode cX6_harm 11 = .ok (.iload_n 2, 1) := by decide +kernel
theorem dX6_harm_12 : decode cX6_harm 12 = .ok (.invokestatic 62, 3) := by decide +kernel
theorem dX6_harm_15 : decode cX6_harm 15 = .ok (.ifCond .ne 9, 3) := by decide +kernel
theorem dX6_harm_18 : decode cX6_harm 18 = .ok (.aload_n 0, 1) := by decide +kernel
theorem dX6_harm_19 : decode cX6_harm 19 = .ok (.iconst 1, 1) := by decide +kernel
theorem dX6_harm_20 : decode cX6_harm 20 = .ok (.invokevirtual 65, 3) := by decide +kernel
theorem dX6_harm_23 : decode cX6_harm 23 = .ok (.ireturn, 1) := by decide +kernel
theorem dX6_harm_24 : decode cX6_harm 24 = .ok (.aload_n 0, 1) := by decide +kernel
theorem dX6_harm_25 : decode cX6_harm 25 = .ok (.getfield 10, 3) := by decide +kernel
theorem dX6_harm_28 : decode cX6_harm 28 = .ok (.iload_n 1, 1) := by decide +kernel
theorem dX6_harm_29 : decode cX6_harm 29 = .ok (.iload_n 2, 1) := by decide +kernel
theorem dX6_harm_30 : decode cX6_harm 30 = .ok (.invokevirtual 105, 3) := by decide +kernel
theorem dX6_harm_33 : decode cX6_harm 33 = .ok (.ireturn, 1) := by decide +kernel
theorem dX6_renames_0 : decode cX6_renames 0 = .ok (.aload_n 0, 1) := by decide +kernel
theorem dX6_renames_1 : decode cX6_renames 1 = .ok (.getfield 10, 3) := by decide +kernel
theorem dX6_renames_4 : decode cX6_renames 4 = .ok (.iload_n 1, 1) := by decide +kernel
theorem dX6_renames_5 : decode cX6_renames 5 = .ok (.invokevirtual 73, 3) := by decide +kernel
theorem dX6_renames_8 : decode cX6_renames 8 = .ok (.ifCond .eq 10, 3) := by decide +kernel
theorem dX6_renames_11 : decode cX6_renames 11 = .ok (.iload_n 2, 1) := by decide +kernel
theorem dX6_renames_12 : decode cX6_renames 12 = .ok (.invokestatic 62, 3) := by decide +kernel
theorem dX6_renames_15 : decode cX6_renames 15 = .ok (.ifCond .ne 9, 3) := by decide +kernel
theorem dX6_renames_18 : decode cX6_renames 18 = .ok (.aload_n 0, 1) := by decide +kernel
theorem dX6_renames_19 : decode cX6_renames 19 = .ok (.iconst 1, 1) := by decide +kernel
theorem dX6_renames_20 : decode cX6_renames 20 = .ok (.invokevirtual 65, 3) := by decide +kernel
theorem dX6_renames_23 : decode cX6_renames 23 = .ok (.ireturn, 1) := by decide +kernel
theorem dX6_renames_24 : decode cX6_renames 24 = .ok (.aload_n 0, 1) := by decide +kernel
theorem dX6_renames_25 : decode cX6_renames 25 = .ok (.getfield 10, 3) := by decide +kernel
theorem dX6_renames_28 : decode cX6_renames 28 = .ok (.iload_n 1, 1) := by decide +kernel
theorem dX6_renames_29 : decode cX6_renames 29 = .ok (.iload_n 2, 1) := by decide +kernel
theorem dX6_renames_30 : decode cX6_renames 30 = .ok (.invokevirtual 109, 3) := by decide +kernel
theorem dX6_renames_33 : decode cX6_renames 33 = .ok (.ireturn, 1) := by decide +kernel
theorem dX6_year_0 : decode cX6_year 0 = .ok (.iload_n 1, 1) := by decide +kernel
theorem dX6_year_1 : decode cX6_year 1 = .ok (.ifCond .lt 10, 3) := by decide +kernel
theorem dX6_year_4 : decode cX6_year 4 = .ok (.iload_n 1, 1) := by decide +kernel
theorem dX6_year_5 : decode cX6_year 5 = .ok (.sipush 9999, 3) := by decide +kernel
theorem dX6_year_8 : decode cX6_year 8 = .ok (.if_icmp .le 9, 3) := by decide +kernel
theorem dX6_year_11 : decode cX6_year 11 = .ok (.aload_n 0, 1) := by decide +kernel
theorem dX6_year_12 : decode cX6_year 12 = .ok (.iconst 1, 1) := by decide +kernel
theorem dX6_year_13 : decode cX6_year 13 = .ok (.invokevirtual 65, 3) := by decide +kernel
theorem dX6_year_16 : decode cX6_year 16 = .ok (.ireturn, 1) := by decide +kernel
theorem dX6_year_17 : decode cX6_year 17 = .ok (.aload_n 0, 1) := by decide +kernel
theorem dX6_year_18 : decode cX6_year 18 = .ok (.getfield 10, 3) := by decide +kernel
theorem dX6_year_21 : decode cX6_year 21 = .ok (.getfield 112, 3) := by decide +kernel
theorem dX6_year_24 : decode cX6_year 24 = .ok (.istore_n 2, 1) := by decide +kernel
theorem dX6_year_25 : decode cX6_year 25 = .ok (.aload_n 0, 1) := by decide +kernel
theorem dX6_year_26 : decode cX6_year 26 = .ok (.getfield 10, 3) := by decide +kernel
theorem dX6_year_29 : decode cX6_year 29 = .ok (.iload_n 1, 1) := by decide +kernel
theorem dX6_year_30 : decode cX6_year 30 = .ok (.putfield 112, 3) := by decide +kernel
theorem dX6_year_33 : decode cX6_year 33 = .ok (.iload_n 2, 1) := by decide +kernel
theorem dX6_year_34 : decode cX6_year 34 = .ok (.ireturn, 1) := by decide +kernel
theorem dX6_feed_0 : decode cX6_feed 0 = .ok (.iload_n 3, 1) := by decide +kernel
theorem dX6_feed_1 : decode cX6_feed 1 = .ok (.iconst 1, 1) := by decide +kernel
theorem dX6_feed_2 : decode cX6_feed 2 = .ok (.if_icmp .lt 9, 3) := by decide +kernel
theorem dX6_feed_5 : decode cX6_feed 5 = .ok (.iload_n 3, 1) := by decide +kernel
theorem dX6_feed_6 : decode cX6_feed 6 = .ok (.bipush 8, 2) := by decide +kernel
theorem dX6_feed_8 : decode cX6_feed 8 = .ok (.if_icmp .le 9, 3) := by decide +kernel
theorem dX6_feed_11 : decode cX6_feed 11 = .ok (.aload_n 0, 1) := by decide +kernel
theorem dX6_feed_12 : decode cX6_feed 12 = .ok (.iconst 1, 1) := by decide +kernel
theorem dX6_feed_13 : decode cX6_feed 13 = .ok (.invokevirtual 65, 3) := by decide +kernel
theorem dX6_feed_16 : decode cX6_feed 16 = .ok (.ireturn, 1) := by decide +kernel
theorem dX6_feed_17 : decode cX6_feed 17 = .ok (.aload_n 0, 1) := by decide +kernel
theorem dX6_feed_18 : decode cX6_feed 18 = .ok (.getfield 10, 3) := by decide +kernel
theorem dX6_feed_21 : decode cX6_feed 21 = .ok (.getfield 115, 3) := by decide +kernel
theorem dX6_feed_24 : decode cX6_feed 24 = .ok (.getfield 119, 3) := by decide +kernel
theorem dX6_feed_27 : decode cX6_feed 27 = .ok (.iload_n 3, 1) := by decide +kernel
theorem dX6_feed_28 : decode cX6_feed 28 = .ok (.iadd, 1) := by decide +kernel
theorem dX6_feed_29 : decode cX6_feed 29 = .ok (.bipush 60, 2) := by decide +kernel
theorem dX6_feed_31 : decode cX6_feed 31 = .ok (.if_icmp .le 9, 3) := by decide +kernel
theorem dX6_feed_34 : decode cX6_feed 34 = .ok (.aload_n 0, 1) := by decide +kernel
theorem dX6_feed_35 : decode cX6_feed 35 = .ok (.iconst 4, 1) := by decide +kernel
theorem dX6_feed_36 : decode cX6_feed 36 = .ok (.invokevirtual 65, 3) := by decide +kernel
theorem dX6_feed_39 : decode cX6_feed 39 = .ok (.ireturn, 1) := by decide +kernel
theorem dX6_feed_40 : decode cX6_feed 40 = .ok (.aload_n 0, 1) := by decide +kernel
theorem dX6_feed_41 : decode cX6_feed 41 = .ok (.getfield 10, 3) := by decide +kernel
theorem dX6_feed_44 : decode cX6_feed 44 = .ok (.getfield 115, 3) := by decide +kernel
theorem dX6_feed_47 : decode cX6_feed 47 = .ok (.lload_n 1, 1) := by decide +kernel
theorem dX6_feed_48 : decode cX6_feed 48 = .ok (.iload_n 3, 1) := by decide +kernel
theorem dX6_feed_49 : decode cX6_feed 49 = .ok (.invokevirtual 124, 3) := by decide +kernel
theorem dX6_feed_52 : decode cX6_feed 52 = .ok (.ireturn, 1) := by decide +kernel
theorem dX6_text_0 : decode cX6_text 0 = .ok (.iload_n 1, 1) := by decide +kernel
theorem dX6_text_1 : decode cX6_text 1 = .ok (.invokestatic 128, 3) := by decide +kernel
theorem dX6_text_4 : decode cX6_text 4 = .ok (.ifCond .ne 9, 3) := by decide +kernel
theorem dX6_text_7 : decode cX6_text 7 = .ok (.aload_n 0, 1) := by decide +kernel
theorem dX6_text_8 : decode cX6_text 8 = .ok (.iconst 1, 1) := by decide +kernel
theorem dX6_text_9 : decode cX6_text 9 = .ok (.invokevirtual 65, 3) := by decide +kernel
theorem dX6_text_12 : decode cX6_text 12 = .ok (.ireturn, 1) := by decide +kernel
theorem dX6_text_13 : decode cX6_text 13 = .ok (.aload_n 0, 1) := by decide +kernel
theorem dX6_text_14 : decode cX6_text 14 = .ok (.getfield 10, 3) := by decide +kernel
theorem dX6_text_17 : decode cX6_text 17 = .ok (.getfield 115, 3) := by decide +kernel
theorem dX6_text_20 : decode cX6_text 20 = .ok (.astore_n 2, 1) := by decide +kernel
theorem dX6_text_21 : decode cX6_text 21 = .ok (.aload_n 0, 1) := by decide +kernel
theorem dX6_text_22 : decode cX6_text 22 = .ok (.getfield 22, 3) := by decide +kernel
theorem dX6_text_25 : decode cX6_text 25 = .ok (.aload_n 2, 1) := by decide +kernel
theorem dX6_text_26 : decode cX6_text 26 = .ok (.getfield 131, 3) := by decide +kernel
theorem dX6_text_29 : decode cX6_text 29 = .ok (.aload_n 2, 1) := by decide +kernel
theorem dX6_text_30 : decode cX6_text 30 = .ok (.getfield 119, 3) := by decide +kernel
theorem dX6_text_33 : decode cX6_text 33 = .ok (.iload_n 1, 1) := by decide +kernel
theorem dX6_text_34 : decode cX6_text 34 = .ok (.invokevirtual 134, 3) := by decide +kernel
theorem dX6_text_37 : decode cX6_text 37 = .ok (.istore_n 3, 1) := by decide +kernel
theorem dX6_text_38 : decode cX6_text 38 = .ok (.aload_n 2, 1) := by decide +kernel
theorem dX6_text_39 : decode cX6_text 39 = .ok (.iconst 0, 1) := by decide +kernel
theorem dX6_text_40 : decode cX6_text 40 = .ok (.putfield 119, 3) := by decide +kernel
theorem dX6_text_43 : decode cX6_text 43 = .ok (.iload_n 3, 1) := by decide +kernel
theorem dX6_text_44 : decode cX6_text 44 = .ok (.ifCond .lt 8, 3) := by decide +kernel
theorem dX6_text_47 : decode cX6_text 47 = .ok (.bipush (-10), 2) := by decide +kernel
theorem dX6_text_49 : decode cX6_text 49 = .ok (.iload_n 3, 1) := by decide +kernel
theorem dX6_text_50 : decode cX6_text 50 = .ok (.isub, 1) := by decide +kernel
theorem dX6_text_51 : decode cX6_text 51 = .ok (.ireturn, 1) := by decide +kernel
theorem dX6_text_52 : decode cX6_text 52 = .ok (.aload_n 2, 1) := by decide +kernel
theorem dX6_text_53 : decode cX6_text 53 = .ok (.iload_n 1, 1) := by decide +kernel
theorem dX6_text_54 : decode cX6_text 54 = .ok (.aload_n 0, 1) := by decide +kernel
theorem dX6_text_55 : decode cX6_text 55 = .ok (.getfield 22, 3) := by decide +kernel
theorem dX6_text_58 : decode cX6_text 58 = .ok (.getfield 138, 3) := by decide +kernel
theorem dX6_text_61 : decode cX6_text 61 = .ok (.aload_n 0, 1) := by decide +kernel
theorem dX6_text_62 : decode cX6_text 62 = .ok (.getfield 22, 3) := by decide +kernel
theorem dX6_text_65 : decode cX6_text 65 = .ok (.getfield 141, 3) := by decide +kernel
theorem dX6_text_68 : decode cX6_text 68 = .ok (.invokevirtual 144, 3) := by decide +kernel
theorem dX6_text_71 : decode cX6_text 71 = .ok (.iconst 1, 1) := by decide +kernel
theorem dX6_text_72 : decode cX6_text 72 = .ok (.ireturn, 1) := by decide +kernel
theorem dX6_untell_0 : decode cX6_untell 0 = .ok (.iload_n 1, 1) := by decide +kernel
theorem dX6_untell_1 : decode cX6_untell 1 = .ok (.invokestatic 128, 3) := by decide +kernel
theorem dX6_untell_4 : decode cX6_untell 4 = .ok (.ifCond .ne 9, 3) := by decide +kernel
theorem dX6_untell_7 : decode cX6_untell 7 = .ok (.aload_n 0, 1) := by decide +kernel
theorem dX6_untell_8 : decode cX6_untell 8 = .ok (.iconst 1, 1) := by decide +kernel
theorem dX6_untell_9 : decode cX6_untell 9 = .ok (.invokevirtual 65, 3) := by decide +kernel
theorem dX6_untell_12 : decode cX6_untell 12 = .ok (.ireturn, 1) := by decide +kernel
theorem dX6_untell_13 : decode cX6_untell 13 = .ok (.aload_n 0, 1) := by decide +kernel
theorem dX6_untell_14 : decode cX6_untell 14 = .ok (.getfield 10, 3) := by decide +kernel
theorem dX6_untell_17 : decode cX6_untell 17 = .ok (.getfield 115, 3) := by decide +kernel
theorem dX6_untell_20 : decode cX6_untell 20 = .ok (.iload_n 1, 1) := by decide +kernel
theorem dX6_untell_21 : decode cX6_untell 21 = .ok (.invokevirtual 148, 3) := by decide +kernel
theorem dX6_untell_24 : decode cX6_untell 24 = .ok (.ifCond .eq 7, 3) := by decide +kernel
theorem dX6_untell_27 : decode cX6_untell 27 = .ok (.iconst 1, 1) := by decide +kernel
theorem dX6_untell_28 : decode cX6_untell 28 = .ok (.goto 4, 3) := by decide +kernel
theorem dX6_untell_31 : decode cX6_untell 31 = .ok (.iconst 0, 1) := by decide +kernel
theorem dX6_untell_32 : decode cX6_untell 32 = .ok (.ireturn, 1) := by decide +kernel
theorem dX6_law_0 : decode cX6_law 0 = .ok (.iload_n 1, 1) := by decide +kernel
theorem dX6_law_1 : decode cX6_law 1 = .ok (.invokestatic 128, 3) := by decide +kernel
theorem dX6_law_4 : decode cX6_law 4 = .ok (.ifCond .ne 9, 3) := by decide +kernel
theorem dX6_law_7 : decode cX6_law 7 = .ok (.aload_n 0, 1) := by decide +kernel
theorem dX6_law_8 : decode cX6_law 8 = .ok (.iconst 1, 1) := by decide +kernel
theorem dX6_law_9 : decode cX6_law 9 = .ok (.invokevirtual 65, 3) := by decide +kernel
theorem dX6_law_12 : decode cX6_law 12 = .ok (.ireturn, 1) := by decide +kernel
theorem dX6_law_13 : decode cX6_law 13 = .ok (.aload_n 0, 1) := by decide +kernel
theorem dX6_law_14 : decode cX6_law 14 = .ok (.getfield 10, 3) := by decide +kernel
theorem dX6_law_17 : decode cX6_law 17 = .ok (.getfield 115, 3) := by decide +kernel
theorem dX6_law_20 : decode cX6_law 20 = .ok (.iload_n 1, 1) := by decide +kernel
theorem dX6_law_21 : decode cX6_law 21 = .ok (.iload_n 2, 1) := by decide +kernel
theorem dX6_law_22 : decode cX6_law 22 = .ok (.iload_n 3, 1) := by decide +kernel
theorem dX6_law_23 : decode cX6_law 23 = .ok (.iload 4, 2) := by decide +kernel
theorem dX6_law_25 : decode cX6_law 25 = .ok (.invokevirtual 151, 3) := by decide +kernel
theorem dX6_law_28 : decode cX6_law 28 = .ok (.ireturn, 1) := by decide +kernel
theorem dX6_renumber_0 : decode cX6_renumber 0 = .ok (.iload_n 1, 1) := by decide +kernel
theorem dX6_renumber_1 : decode cX6_renumber 1 = .ok (.iconst 1, 1) := by decide +kernel
theorem dX6_renumber_2 : decode cX6_renumber 2 = .ok (.if_icmp .lt 9, 3) := by decide +kernel
theorem dX6_renumber_5 : decode cX6_renumber 5 = .ok (.iload_n 1, 1) := by decide +kernel
theorem dX6_renumber_6 : decode cX6_renumber 6 = .ok (.bipush 50, 2) := by decide +kernel
theorem dX6_renumber_8 : decode cX6_renumber 8 = .ok (.if_icmp .le 9, 3) := by decide +kernel
theorem dX6_renumber_11 : decode cX6_renumber 11 = .ok (.aload_n 0, 1) := by decide +kernel
theorem dX6_renumber_12 : decode cX6_renumber 12 = .ok (.iconst 1, 1) := by decide +kernel
theorem dX6_renumber_13 : decode cX6_renumber 13 = .ok (.invokevirtual 65, 3) := by decide +kernel
theorem dX6_renumber_16 : decode cX6_renumber 16 = .ok (.ireturn, 1) := by decide +kernel
theorem dX6_renumber_17 : decode cX6_renumber 17 = .ok (.aload_n 0, 1) := by decide +kernel
theorem dX6_renumber_18 : decode cX6_renumber 18 = .ok (.getfield 10, 3) := by decide +kernel
theorem dX6_renumber_21 : decode cX6_renumber 21 = .ok (.iload_n 1, 1) := by decide +kernel
theorem dX6_renumber_22 : decode cX6_renumber 22 = .ok (.invokevirtual 154, 3) := by decide +kernel
theorem dX6_renumber_25 : decode cX6_renumber 25 = .ok (.ireturn, 1) := by decide +kernel
theorem dX6_would_0 : decode cX6_would 0 = .ok (.iload_n 1, 1) := by decide +kernel
theorem dX6_would_1 : decode cX6_would 1 = .ok (.iconst 1, 1) := by decide +kernel
theorem dX6_would_2 : decode cX6_would 2 = .ok (.if_icmp .lt 9, 3) := by decide +kernel
theorem dX6_would_5 : decode cX6_would 5 = .ok (.iload_n 1, 1) := by decide +kernel
theorem dX6_would_6 : decode cX6_would 6 = .ok (.bipush 50, 2) := by decide +kernel
theorem dX6_would_8 : decode cX6_would 8 = .ok (.if_icmp .le 9, 3) := by decide +kernel
theorem dX6_would_11 : decode cX6_would 11 = .ok (.aload_n 0, 1) := by decide +kernel
theorem dX6_would_12 : decode cX6_would 12 = .ok (.iconst 1, 1) := by decide +kernel
theorem dX6_would_13 : decode cX6_would 13 = .ok (.invokevirtual 65, 3) := by decide +kernel
theorem dX6_would_16 : decode cX6_would 16 = .ok (.ireturn, 1) := by decide +kernel
theorem dX6_would_17 : decode cX6_would 17 = .ok (.aload_n 0, 1) := by decide +kernel
theorem dX6_would_18 : decode cX6_would 18 = .ok (.getfield 10, 3) := by decide +kernel
theorem dX6_would_21 : decode cX6_would 21 = .ok (.iload_n 1, 1) := by decide +kernel
theorem dX6_would_22 : decode cX6_would 22 = .ok (.invokevirtual 157, 3) := by decide +kernel
theorem dX6_would_25 : decode cX6_would 25 = .ok (.ireturn, 1) := by decide +kernel
theorem dX6_gap_0 : decode cX6_gap 0 = .ok (.iload_n 1, 1) := by decide +kernel
theorem dX6_gap_1 : decode cX6_gap 1 = .ok (.ifCond .lt 8, 3) := by decide +kernel
theorem dX6_gap_4 : decode cX6_gap 4 = .ok (.iload_n 1, 1) := by decide +kernel
theorem dX6_gap_5 : decode cX6_gap 5 = .ok (.iconst 1, 1) := by decide +kernel
theorem dX6_gap_6 : decode cX6_gap 6 = .ok (.if_icmp .le 9, 3) := by decide +kernel
theorem dX6_gap_9 : decode cX6_gap 9 = .ok (.aload_n 0, 1) := by decide +kernel
theorem dX6_gap_10 : decode cX6_gap 10 = .ok (.iconst 1, 1) := by decide +kernel
theorem dX6_gap_11 : decode cX6_gap 11 = .ok (.invokevirtual 65, 3) := by decide +kernel
theorem dX6_gap_14 : decode cX6_gap 14 = .ok (.ireturn, 1) := by decide +kernel
theorem dX6_gap_15 : decode cX6_gap 15 = .ok (.iconst 1, 1) := by decide +kernel
theorem dX6_gap_16 : decode cX6_gap 16 = .ok (.istore_n 2, 1) := by decide +kernel
theorem dX6_gap_17 : decode cX6_gap 17 = .ok (.aload_n 0, 1) := by decide +kernel
theorem dX6_gap_18 : decode cX6_gap 18 = .ok (.getfield 10, 3) := by decide +kernel
theorem dX6_gap_21 : decode cX6_gap 21 = .ok (.iconst 1, 1) := by decide +kernel
theorem dX6_gap_22 : decode cX6_gap 22 = .ok (.invokevirtual 157, 3) := by decide +kernel
theorem dX6_gap_25 : decode cX6_gap 25 = .ok (.istore_n 3, 1) := by decide +kernel
theorem dX6_gap_26 : decode cX6_gap 26 = .ok (.iconst 2, 1) := by decide +kernel
theorem dX6_gap_27 : decode cX6_gap 27 = .ok (.istore 4, 2) := by decide +kernel
theorem dX6_gap_29 : decode cX6_gap 29 = .ok (.iload 4, 2) := by decide +kernel
theorem dX6_gap_31 : decode cX6_gap 31 = .ok (.bipush 50, 2) := by decide +kernel
theorem dX6_gap_33 : decode cX6_gap 33 = .ok (.if_icmp .gt 32, 3) := by decide +kernel
theorem dX6_gap_36 : decode cX6_gap 36 = .ok (.aload_n 0, 1) := by decide +kernel
theorem dX6_gap_37 : decode cX6_gap 37 = .ok (.getfield 10, 3) := by decide +kernel
theorem dX6_gap_40 : decode cX6_gap 40 = .ok (.iload 4, 2) := by decide +kernel
theorem dX6_gap_42 : decode cX6_gap 42 = .ok (.invokevirtual 157, 3) := by decide +kernel
theorem dX6_gap_45 : decode cX6_gap 45 = .ok (.istore 5, 2) := by decide +kernel
theorem dX6_gap_47 : decode cX6_gap 47 = .ok (.iload 5, 2) := by decide +kernel
theorem dX6_gap_49 : decode cX6_gap 49 = .ok (.iload_n 3, 1) := by decide +kernel
theorem dX6_gap_50 : decode cX6_gap 50 = .ok (.if_icmp .ge 9, 3) := by decide +kernel
theorem dX6_gap_53 : decode cX6_gap 53 = .ok (.iload 4, 2) := by decide +kernel
theorem dX6_gap_55 : decode cX6_gap 55 = .ok (.istore_n 2, 1) := by decide +kernel
theorem dX6_gap_56 : decode cX6_gap 56 = .ok (.iload 5, 2) := by decide +kernel
theorem dX6_gap_58 : decode cX6_gap 58 = .ok (.istore_n 3, 1) := by decide +kernel
theorem dX6_gap_59 : decode cX6_gap 59 = .ok (.iinc 4 1, 3) := by decide +kernel
theorem dX6_gap_62 : decode cX6_gap 62 = .ok (.goto (-33), 3) := by decide +kernel
theorem dX6_gap_65 : decode cX6_gap 65 = .ok (.iload_n 1, 1) := by decide +kernel
theorem dX6_gap_66 : decode cX6_gap 66 = .ok (.ifCond .ne 7, 3) := by decide +kernel
theorem dX6_gap_69 : decode cX6_gap 69 = .ok (.iload_n 2, 1) := by decide +kernel
theorem dX6_gap_70 : decode cX6_gap 70 = .ok (.goto 4, 3) := by decide +kernel
theorem dX6_gap_73 : decode cX6_gap 73 = .ok (.iload_n 3, 1) := by decide +kernel
theorem dX6_gap_74 : decode cX6_gap 74 = .ok (.ireturn, 1) := by decide +kernel
theorem dX6_least_0 : decode cX6_least 0 = .ok (.iload_n 1, 1) := by decide +kernel
theorem dX6_least_1 : decode cX6_least 1 = .ok (.iconst (-1), 1) := by decide +kernel
theorem dX6_least_2 : decode cX6_least 2 = .ok (.if_icmp .lt 9, 3) := by decide +kernel
theorem dX6_least_5 : decode cX6_least 5 = .ok (.iload_n 1, 1) := by decide +kernel
theorem dX6_least_6 : decode cX6_least 6 = .ok (.bipush 10, 2) := by decide +kernel
theorem dX6_least_8 : decode cX6_least 8 = .ok (.if_icmp .lt 9, 3) := by decide +kernel
theorem dX6_least_11 : decode cX6_least 11 = .ok (.aload_n 0, 1) := by decide +kernel
theorem dX6_least_12 : decode cX6_least 12 = .ok (.iconst 1, 1) := by decide +kernel
theorem dX6_least_13 : decode cX6_least 13 = .ok (.invokevirtual 65, 3) := by decide +kernel
theorem dX6_least_16 : decode cX6_least 16 = .ok (.ireturn, 1) := by decide +kernel
theorem dX6_least_17 : decode cX6_least 17 = .ok (.iload_n 1, 1) := by decide +kernel
theorem dX6_least_18 : decode cX6_least 18 = .ok (.aload_n 0, 1) := by decide +kernel
theorem dX6_least_19 : decode cX6_least 19 = .ok (.getfield 10, 3) := by decide +kernel
theorem dX6_least_22 : decode cX6_least 22 = .ok (.getfield 59, 3) := by decide +kernel
theorem dX6_least_25 : decode cX6_least 25 = .ok (.if_icmp .lt 9, 3) := by decide +kernel
theorem dX6_least_28 : decode cX6_least 28 = .ok (.aload_n 0, 1) := by decide +kernel
theorem dX6_least_29 : decode cX6_least 29 = .ok (.iconst 2, 1) := by decide +kernel
theorem dX6_least_30 : decode cX6_least 30 = .ok (.invokevirtual 65, 3) := by decide +kernel
theorem dX6_least_33 : decode cX6_least 33 = .ok (.ireturn, 1) := by decide +kernel
theorem dX6_least_34 : decode cX6_least 34 = .ok (.aload_n 0, 1) := by decide +kernel
theorem dX6_least_35 : decode cX6_least 35 = .ok (.getfield 29, 3) := by decide +kernel
theorem dX6_least_38 : decode cX6_least 38 = .ok (.aload_n 0, 1) := by decide +kernel
theorem dX6_least_39 : decode cX6_least 39 = .ok (.getfield 10, 3) := by decide +kernel
theorem dX6_least_42 : decode cX6_least 42 = .ok (.invokevirtual 160, 3) := by decide +kernel
theorem dX6_least_45 : decode cX6_least 45 = .ok (.istore_n 2, 1) := by decide +kernel
theorem dX6_least_46 : decode cX6_least 46 = .ok (.iload_n 1, 1) := by decide +kernel
theorem dX6_least_47 : decode cX6_least 47 = .ok (.ifCond .ge 7, 3) := by decide +kernel
theorem dX6_least_50 : decode cX6_least 50 = .ok (.iload_n 2, 1) := by decide +kernel
theorem dX6_least_51 : decode cX6_least 51 = .ok (.goto 18, 3) := by decide +kernel
theorem dX6_least_54 : decode cX6_least 54 = .ok (.aload_n 0, 1) := by decide +kernel
theorem dX6_least_55 : decode cX6_least 55 = .ok (.getfield 29, 3) := by decide +kernel
theorem dX6_least_58 : decode cX6_least 58 = .ok (.aload_n 0, 1) := by decide +kernel
theorem dX6_least_59 : decode cX6_least 59 = .ok (.getfield 10, 3) := by decide +kernel
theorem dX6_least_62 : decode cX6_least 62 = .ok (.iload_n 1, 1) := by decide +kernel
theorem dX6_least_63 : decode cX6_least 63 = .ok (.invokevirtual 85, 3) := by decide +kernel
theorem dX6_least_66 : decode cX6_least 66 = .ok (.invokevirtual 164, 3) := by decide +kernel
theorem dX6_least_69 : decode cX6_least 69 = .ok (.ireturn, 1) := by decide +kernel
theorem dX6_between_0 : decode cX6_between 0 = .ok (.iload_n 1, 1) := by decide +kernel
theorem dX6_between_1 : decode cX6_between 1 = .ok (.ifCond .lt 14, 3) := by decide +kernel
theorem dX6_between_4 : decode cX6_between 4 = .ok (.iload_n 1, 1) := by decide +kernel
theorem dX6_between_5 : decode cX6_between 5 = .ok (.aload_n 0, 1) := by decide +kernel
theorem dX6_between_6 : decode cX6_between 6 = .ok (.getfield 10, 3) := by decide +kernel
theorem dX6_between_9 : decode cX6_between 9 = .ok (.getfield 59, 3) := by decide +kernel
theorem dX6_between_12 : decode cX6_between 12 = .ok (.if_icmp .le 9, 3) := by decide +kernel
theorem dX6_between_15 : decode cX6_between 15 = .ok (.aload_n 0, 1) := by decide +kernel
theorem dX6_between_16 : decode cX6_between 16 = .ok (.iconst 1, 1) := by decide +kernel
theorem dX6_between_17 : decode cX6_between 17 = .ok (.invokevirtual 65, 3) := by decide +kernel
theorem dX6_between_20 : decode cX6_between 20 = .ok (.ireturn, 1) := by decide +kernel
theorem dX6_between_21 : decode cX6_between 21 = .ok (.aload_n 0, 1) := by decide +kernel
theorem dX6_between_22 : decode cX6_between 22 = .ok (.getfield 10, 3) := by decide +kernel
theorem dX6_between_25 : decode cX6_between 25 = .ok (.iload_n 1, 1) := by decide +kernel
theorem dX6_between_26 : decode cX6_between 26 = .ok (.invokevirtual 167, 3) := by decide +kernel
theorem dX6_between_29 : decode cX6_between 29 = .ok (.istore_n 2, 1) := by decide +kernel
theorem dX6_between_30 : decode cX6_between 30 = .ok (.iload_n 2, 1) := by decide +kernel
theorem dX6_between_31 : decode cX6_between 31 = .ok (.ifCond .ge 11, 3) := by decide +kernel
theorem dX6_between_34 : decode cX6_between 34 = .ok (.aload_n 0, 1) := by decide +kernel
theorem dX6_between_35 : decode cX6_between 35 = .ok (.iconst 2, 1) := by decide +kernel
theorem dX6_between_36 : decode cX6_between 36 = .ok (.invokevirtual 65, 3) := by decide +kernel
theorem dX6_between_39 : decode cX6_between 39 = .ok (.goto 4, 3) := by decide +kernel
theorem dX6_between_42 : decode cX6_between 42 = .ok (.iload_n 2, 1) := by decide +kernel
theorem dX6_between_43 : decode cX6_between 43 = .ok (.ireturn, 1) := by decide +kernel
theorem dX6_fewest_0 : decode cX6_fewest 0 = .ok (.aload_n 0, 1) := by decide +kernel
theorem dX6_fewest_1 : decode cX6_fewest 1 = .ok (.getfield 10, 3) := by decide +kernel
theorem dX6_fewest_4 : decode cX6_fewest 4 = .ok (.getfield 59, 3) := by decide +kernel
theorem dX6_fewest_7 : decode cX6_fewest 7 = .ok (.aload_n 0, 1) := by decide +kernel
theorem dX6_fewest_8 : decode cX6_fewest 8 = .ok (.getfield 29, 3) := by decide +kernel
theorem dX6_fewest_11 : decode cX6_fewest 11 = .ok (.aload_n 0, 1) := by decide +kernel
theorem dX6_fewest_12 : decode cX6_fewest 12 = .ok (.getfield 10, 3) := by decide +kernel
theorem dX6_fewest_15 : decode cX6_fewest 15 = .ok (.invokevirtual 170, 3) := by decide +kernel
theorem dX6_fewest_18 : decode cX6_fewest 18 = .ok (.isub, 1) := by decide +kernel
theorem dX6_fewest_19 : decode cX6_fewest 19 = .ok (.ireturn, 1) := by decide +kernel
theorem dX6_search_0 : decode cX6_search 0 = .ok (.iload_n 1, 1) := by decide +kernel
theorem dX6_search_1 : decode cX6_search 1 = .ok (.invokestatic 62, 3) := by decide +kernel
theorem dX6_search_4 : decode cX6_search 4 = .ok (.ifCond .eq 12, 3) := by decide +kernel
theorem dX6_search_7 : decode cX6_search 7 = .ok (.iload_n 2, 1) := by decide +kernel
theorem dX6_search_8 : decode cX6_search 8 = .ok (.ifCond .lt 8, 3) := by decide +kernel
theorem dX6_search_11 : decode cX6_search 11 = .ok (.iload_n 2, 1) := by decide +kernel
theorem dX6_search_12 : decode cX6_search 12 = .ok (.iconst 1, 1) := by decide +kernel
theorem dX6_search_13 : decode cX6_search 13 = .ok (.if_icmp .le 9, 3) := by decide +kernel
theorem dX6_search_16 : decode cX6_search 16 = .ok (.aload_n 0, 1) := by decide +kernel
theorem dX6_search_17 : decode cX6_search 17 = .ok (.iconst 1, 1) := by decide +kernel
theorem dX6_search_18 : decode cX6_search 18 = .ok (.invokevirtual 65, 3) := by decide +kernel
theorem dX6_search_21 : decode cX6_search 21 = .ok (.ireturn, 1) := by decide +kernel
theorem dX6_search_22 : decode cX6_search 22 = .ok (.aload_n 0, 1) := by decide +kernel
theorem dX6_search_23 : decode cX6_search 23 = .ok (.getfield 29, 3) := by decide +kernel
theorem dX6_search_26 : decode cX6_search 26 = .ok (.aload_n 0, 1) := by decide +kernel
theorem dX6_search_27 : decode cX6_search 27 = .ok (.getfield 10, 3) := by decide +kernel
theorem dX6_search_30 : decode cX6_search 30 = .ok (.iload_n 1, 1) := by decide +kernel
theorem dX6_search_31 : decode cX6_search 31 = .ok (.invokevirtual 173, 3) := by decide +kernel
theorem dX6_search_34 : decode cX6_search 34 = .ok (.istore_n 3, 1) := by decide +kernel
theorem dX6_search_35 : decode cX6_search 35 = .ok (.iload_n 2, 1) := by decide +kernel
theorem dX6_search_36 : decode cX6_search 36 = .ok (.iconst 1, 1) := by decide +kernel
theorem dX6_search_37 : decode cX6_search 37 = .ok (.if_icmp .ne 11, 3) := by decide +kernel
theorem dX6_search_40 : decode cX6_search 40 = .ok (.aload_n 0, 1) := by decide +kernel
theorem dX6_search_41 : decode cX6_search 41 = .ok (.getfield 29, 3) := by decide +kernel
theorem dX6_search_44 : decode cX6_search 44 = .ok (.getfield 177, 3) := by decide +kernel
theorem dX6_search_47 : decode cX6_search 47 = .ok (.ireturn, 1) := by decide +kernel
theorem dX6_search_48 : decode cX6_search 48 = .ok (.iload_n 3, 1) := by decide +kernel
theorem dX6_search_49 : decode cX6_search 49 = .ok (.ifCond .ge 11, 3) := by decide +kernel
theorem dX6_search_52 : decode cX6_search 52 = .ok (.aload_n 0, 1) := by decide +kernel
theorem dX6_search_53 : decode cX6_search 53 = .ok (.iconst 2, 1) := by decide +kernel
theorem dX6_search_54 : decode cX6_search 54 = .ok (.invokevirtual 65, 3) := by decide +kernel
theorem dX6_search_57 : decode cX6_search 57 = .ok (.goto 11, 3) := by decide +kernel
theorem dX6_search_60 : decode cX6_search 60 = .ok (.aload_n 0, 1) := by decide +kernel
theorem dX6_search_61 : decode cX6_search 61 = .ok (.getfield 10, 3) := by decide +kernel
theorem dX6_search_64 : decode cX6_search 64 = .ok (.iload_n 3, 1) := by decide +kernel
theorem dX6_search_65 : decode cX6_search 65 = .ok (.invokevirtual 94, 3) := by decide +kernel
theorem dX6_search_68 : decode cX6_search 68 = .ok (.ireturn, 1) := by decide +kernel
theorem dX6_odds_0 : decode cX6_odds 0 = .ok (.iload_n 1, 1) := by decide +kernel
theorem dX6_odds_1 : decode cX6_odds 1 = .ok (.ifCond .lt 8, 3) := by decide +kernel
theorem dX6_odds_4 : decode cX6_odds 4 = .ok (.iload_n 1, 1) := by decide +kernel
theorem dX6_odds_5 : decode cX6_odds 5 = .ok (.iconst 1, 1) := by decide +kernel
theorem dX6_odds_6 : decode cX6_odds 6 = .ok (.if_icmp .le 9, 3) := by decide +kernel
theorem dX6_odds_9 : decode cX6_odds 9 = .ok (.aload_n 0, 1) := by decide +kernel
theorem dX6_odds_10 : decode cX6_odds 10 = .ok (.iconst 1, 1) := by decide +kernel
theorem dX6_odds_11 : decode cX6_odds 11 = .ok (.invokevirtual 65, 3) := by decide +kernel
theorem dX6_odds_14 : decode cX6_odds 14 = .ok (.ireturn, 1) := by decide +kernel
theorem dX6_odds_15 : decode cX6_odds 15 = .ok (.aload_n 0, 1) := by decide +kernel
theorem dX6_odds_16 : decode cX6_odds 16 = .ok (.getfield 10, 3) := by decide +kernel
theorem dX6_odds_19 : decode cX6_odds 19 = .ok (.getfield 59, 3) := by decide +kernel
theorem dX6_odds_22 : decode cX6_odds 22 = .ok (.ifCond .ne 9, 3) := by decide +kernel
theorem dX6_odds_25 : decode cX6_odds 25 = .ok (.aload_n 0, 1) := by decide +kernel
theorem dX6_odds_26 : decode cX6_odds 26 = .ok (.iconst 3, 1) := by decide +kernel
theorem dX6_odds_27 : decode cX6_odds 27 = .ok (.invokevirtual 65, 3) := by decide +kernel
theorem dX6_odds_30 : decode cX6_odds 30 = .ok (.ireturn, 1) := by decide +kernel
theorem dX6_odds_31 : decode cX6_odds 31 = .ok (.aload_n 0, 1) := by decide +kernel
theorem dX6_odds_32 : decode cX6_odds 32 = .ok (.getfield 29, 3) := by decide +kernel
theorem dX6_odds_35 : decode cX6_odds 35 = .ok (.aload_n 0, 1) := by decide +kernel
theorem dX6_odds_36 : decode cX6_odds 36 = .ok (.getfield 10, 3) := by decide +kernel
theorem dX6_odds_39 : decode cX6_odds 39 = .ok (.invokevirtual 180, 3) := by decide +kernel
theorem dX6_odds_42 : decode cX6_odds 42 = .ok (.istore_n 2, 1) := by decide +kernel
theorem dX6_odds_43 : decode cX6_odds 43 = .ok (.iload_n 2, 1) := by decide +kernel
theorem dX6_odds_44 : decode cX6_odds 44 = .ok (.aload_n 0, 1) := by decide +kernel
theorem dX6_odds_45 : decode cX6_odds 45 = .ok (.getfield 10, 3) := by decide +kernel
theorem dX6_odds_48 : decode cX6_odds 48 = .ok (.getfield 59, 3) := by decide +kernel
theorem dX6_odds_51 : decode cX6_odds 51 = .ok (.invokestatic 183, 3) := by decide +kernel
theorem dX6_odds_54 : decode cX6_odds 54 = .ok (.istore_n 3, 1) := by decide +kernel
theorem dX6_odds_55 : decode cX6_odds 55 = .ok (.iload_n 1, 1) := by decide +kernel
theorem dX6_odds_56 : decode cX6_odds 56 = .ok (.ifCond .ne 7, 3) := by decide +kernel
theorem dX6_odds_59 : decode cX6_odds 59 = .ok (.iload_n 2, 1) := by decide +kernel
theorem dX6_odds_60 : decode cX6_odds 60 = .ok (.goto 10, 3) := by decide +kernel
theorem dX6_odds_63 : decode cX6_odds 63 = .ok (.aload_n 0, 1) := by decide +kernel
theorem dX6_odds_64 : decode cX6_odds 64 = .ok (.getfield 10, 3) := by decide +kernel
theorem dX6_odds_67 : decode cX6_odds 67 = .ok (.getfield 59, 3) := by decide +kernel
theorem dX6_odds_70 : decode cX6_odds 70 = .ok (.iload_n 3, 1) := by decide +kernel
theorem dX6_odds_71 : decode cX6_odds 71 = .ok (.invokestatic 186, 3) := by decide +kernel
theorem dX6_odds_74 : decode cX6_odds 74 = .ok (.ireturn, 1) := by decide +kernel
theorem dX6_order_0 : decode cX6_order 0 = .ok (.iconst 1, 1) := by decide +kernel
theorem dX6_order_1 : decode cX6_order 1 = .ok (.istore_n 1, 1) := by decide +kernel
theorem dX6_order_2 : decode cX6_order 2 = .ok (.iload_n 1, 1) := by decide +kernel
theorem dX6_order_3 : decode cX6_order 3 = .ok (.aload_n 0, 1) := by decide +kernel
theorem dX6_order_4 : decode cX6_order 4 = .ok (.getfield 10, 3) := by decide +kernel
theorem dX6_order_7 : decode cX6_order 7 = .ok (.getfield 59, 3) := by decide +kernel
theorem dX6_order_10 : decode cX6_order 10 = .ok (.if_icmp .ge 32, 3) := by decide +kernel
theorem dX6_order_13 : decode cX6_order 13 = .ok (.aload_n 0, 1) := by decide +kernel
theorem dX6_order_14 : decode cX6_order 14 = .ok (.getfield 10, 3) := by decide +kernel
theorem dX6_order_17 : decode cX6_order 17 = .ok (.iload_n 1, 1) := by decide +kernel
theorem dX6_order_18 : decode cX6_order 18 = .ok (.invokevirtual 189, 3) := by decide +kernel
theorem dX6_order_21 : decode cX6_order 21 = .ok (.aload_n 0, 1) := by decide +kernel
theorem dX6_order_22 : decode cX6_order 22 = .ok (.getfield 10, 3) := by decide +kernel
theorem dX6_order_25 : decode cX6_order 25 = .ok (.iload_n 1, 1) := by decide +kernel
theorem dX6_order_26 : decode cX6_order 26 = .ok (.iconst 1, 1) := by decide +kernel
theorem dX6_order_27 : decode cX6_order 27 = .ok (.isub, 1) := by decide +kernel
theorem dX6_order_28 : decode cX6_order 28 = .ok (.invokevirtual 189, 3) := by decide +kernel
theorem dX6_order_31 : decode cX6_order 31 = .ok (.if_icmp .gt 5, 3) := by decide +kernel
theorem dX6_order_34 : decode cX6_order 34 = .ok (.iconst 0, 1) := by decide +kernel
theorem dX6_order_35 : decode cX6_order 35 = .ok (.ireturn, 1) := by decide +kernel
theorem dX6_order_36 : decode cX6_order 36 = .ok (.iinc 1 1, 3) := by decide +kernel
theorem dX6_order_39 : decode cX6_order 39 = .ok (.goto (-37), 3) := by decide +kernel
theorem dX6_order_42 : decode cX6_order 42 = .ok (.iconst 1, 1) := by decide +kernel
theorem dX6_order_43 : decode cX6_order 43 = .ok (.ireturn, 1) := by decide +kernel
theorem dX6_fits_0 : decode cX6_fits 0 = .ok (.iload_n 1, 1) := by decide +kernel
theorem dX6_fits_1 : decode cX6_fits 1 = .ok (.invokestatic 192, 3) := by decide +kernel
theorem dX6_fits_4 : decode cX6_fits 4 = .ok (.ifCond .eq 12, 3) := by decide +kernel
theorem dX6_fits_7 : decode cX6_fits 7 = .ok (.iload_n 2, 1) := by decide +kernel
theorem dX6_fits_8 : decode cX6_fits 8 = .ok (.ifCond .lt 8, 3) := by decide +kernel
theorem dX6_fits_11 : decode cX6_fits 11 = .ok (.iload_n 2, 1) := by decide +kernel
theorem dX6_fits_12 : decode cX6_fits 12 = .ok (.iconst 1, 1) := by decide +kernel
theorem dX6_fits_13 : decode cX6_fits 13 = .ok (.if_icmp .le 9, 3) := by decide +kernel
theorem dX6_fits_16 : decode cX6_fits 16 = .ok (.aload_n 0, 1) := by decide +kernel
theorem dX6_fits_17 : decode cX6_fits 17 = .ok (.iconst 1, 1) := by decide +kernel
theorem dX6_fits_18 : decode cX6_fits 18 = .ok (.invokevirtual 65, 3) := by decide +kernel
theorem dX6_fits_21 : decode cX6_fits 21 = .ok (.ireturn, 1) := by decide +kernel
theorem dX6_fits_22 : decode cX6_fits 22 = .ok (.aload_n 0, 1) := by decide +kernel
theorem dX6_fits_23 : decode cX6_fits 23 = .ok (.getfield 43, 3) := by decide +kernel
theorem dX6_fits_26 : decode cX6_fits 26 = .ok (.iload_n 1, 1) := by decide +kernel
theorem dX6_fits_27 : decode cX6_fits 27 = .ok (.invokevirtual 195, 3) := by decide +kernel
theorem dX6_fits_30 : decode cX6_fits 30 = .ok (.ifCond .eq 9, 3) := by decide +kernel
theorem dX6_fits_33 : decode cX6_fits 33 = .ok (.aload_n 0, 1) := by decide +kernel
theorem dX6_fits_34 : decode cX6_fits 34 = .ok (.iconst 2, 1) := by decide +kernel
theorem dX6_fits_35 : decode cX6_fits 35 = .ok (.invokevirtual 65, 3) := by decide +kernel
theorem dX6_fits_38 : decode cX6_fits 38 = .ok (.ireturn, 1) := by decide +kernel
theorem dX6_fits_39 : decode cX6_fits 39 = .ok (.iconst 0, 1) := by decide +kernel
theorem dX6_fits_40 : decode cX6_fits 40 = .ok (.istore_n 3, 1) := by decide +kernel
theorem dX6_fits_41 : decode cX6_fits 41 = .ok (.iconst 0, 1) := by decide +kernel
theorem dX6_fits_42 : decode cX6_fits 42 = .ok (.istore 4, 2) := by decide +kernel
theorem dX6_fits_44 : decode cX6_fits 44 = .ok (.bipush 50, 2) := by decide +kernel
theorem dX6_fits_46 : decode cX6_fits 46 = .ok (.istore 5, 2) := by decide +kernel
theorem dX6_fits_48 : decode cX6_fits 48 = .ok (.iload 5, 2) := by decide +kernel
theorem dX6_fits_50 : decode cX6_fits 50 = .ok (.iconst 1, 1) := by decide +kernel
theorem dX6_fits_51 : decode cX6_fits 51 = .ok (.if_icmp .lt 26, 3) := by decide +kernel
theorem dX6_fits_54 : decode cX6_fits 54 = .ok (.aload_n 0, 1) := by decide +kernel
theorem dX6_fits_55 : decode cX6_fits 55 = .ok (.iload_n 1, 1) := by decide +kernel
theorem dX6_fits_56 : decode cX6_fits 56 = .ok (.iload 5, 2) := by decide +kernel
theorem dX6_fits_58 : decode cX6_fits 58 = .ok (.invokevirtual 198, 3) := by decide +kernel
theorem dX6_fits_61 : decode cX6_fits 61 = .ok (.ifCond .eq 10, 3) := by decide +kernel
theorem dX6_fits_64 : decode cX6_fits 64 = .ok (.iinc 3 1, 3) := by decide +kernel
theorem dX6_fits_67 : decode cX6_fits 67 = .ok (.iload 5, 2) := by decide +kernel
theorem dX6_fits_69 : decode cX6_fits 69 = .ok (.istore 4, 2) := by decide +kernel
theorem dX6_fits_71 : decode cX6_fits 71 = .ok (.iinc 5 (-1), 3) := by decide +kernel
theorem dX6_fits_74 : decode cX6_fits 74 = .ok (.goto (-26), 3) := by decide +kernel
theorem dX6_fits_77 : decode cX6_fits 77 = .ok (.iload_n 2, 1) := by decide +kernel
theorem dX6_fits_78 : decode cX6_fits 78 = .ok (.ifCond .ne 5, 3) := by decide +kernel
theorem dX6_fits_81 : decode cX6_fits 81 = .ok (.iload_n 3, 1) := by decide +kernel
theorem dX6_fits_82 : decode cX6_fits 82 = .ok (.ireturn, 1) := by decide +kernel
theorem dX6_fits_83 : decode cX6_fits 83 = .ok (.iload_n 3, 1) := by decide +kernel
theorem dX6_fits_84 : decode cX6_fits 84 = .ok (.ifCond .ne 11, 3) := by decide +kernel
theorem dX6_fits_87 : decode cX6_fits 87 = .ok (.aload_n 0, 1) := by decide +kernel
theorem dX6_fits_88 : decode cX6_fits 88 = .ok (.iconst 2, 1) := by decide +kernel
theorem dX6_fits_89 : decode cX6_fits 89 = .ok (.invokevirtual 65, 3) := by decide +kernel
theorem dX6_fits_92 : decode cX6_fits 92 = .ok (.goto 5, 3) := by decide +kernel
theorem dX6_fits_95 : decode cX6_fits 95 = .ok (.iload 4, 2) := by decide +kernel
theorem dX6_fits_97 : decode cX6_fits 97 = .ok (.ireturn, 1) := by decide +kernel
theorem dX6_loose_0 : decode cX6_loose 0 = .ok (.iload_n 1, 1) := by decide +kernel
theorem dX6_loose_1 : decode cX6_loose 1 = .ok (.iconst 1, 1) := by decide +kernel
theorem dX6_loose_2 : decode cX6_loose 2 = .ok (.if_icmp .lt 9, 3) := by decide +kernel
theorem dX6_loose_5 : decode cX6_loose 5 = .ok (.iload_n 1, 1) := by decide +kernel
theorem dX6_loose_6 : decode cX6_loose 6 = .ok (.bipush 30, 2) := by decide +kernel
theorem dX6_loose_8 : decode cX6_loose 8 = .ok (.if_icmp .le 9, 3) := by decide +kernel
theorem dX6_loose_11 : decode cX6_loose 11 = .ok (.aload_n 0, 1) := by decide +kernel
theorem dX6_loose_12 : decode cX6_loose 12 = .ok (.iconst 1, 1) := by decide +kernel
theorem dX6_loose_13 : decode cX6_loose 13 = .ok (.invokevirtual 65, 3) := by decide +kernel
theorem dX6_loose_16 : decode cX6_loose 16 = .ok (.ireturn, 1) := by decide +kernel
theorem dX6_loose_17 : decode cX6_loose 17 = .ok (.aload_n 0, 1) := by decide +kernel
theorem dX6_loose_18 : decode cX6_loose 18 = .ok (.getfield 10, 3) := by decide +kernel
theorem dX6_loose_21 : decode cX6_loose 21 = .ok (.getfield 112, 3) := by decide +kernel
theorem dX6_loose_24 : decode cX6_loose 24 = .ok (.iload_n 1, 1) := by decide +kernel
theorem dX6_loose_25 : decode cX6_loose 25 = .ok (.iadd, 1) := by decide +kernel
theorem dX6_loose_26 : decode cX6_loose 26 = .ok (.sipush 9999, 3) := by decide +kernel
theorem dX6_loose_29 : decode cX6_loose 29 = .ok (.if_icmp .le 9, 3) := by decide +kernel
theorem dX6_loose_32 : decode cX6_loose 32 = .ok (.aload_n 0, 1) := by decide +kernel
theorem dX6_loose_33 : decode cX6_loose 33 = .ok (.iconst 3, 1) := by decide +kernel
theorem dX6_loose_34 : decode cX6_loose 34 = .ok (.invokevirtual 65, 3) := by decide +kernel
theorem dX6_loose_37 : decode cX6_loose 37 = .ok (.ireturn, 1) := by decide +kernel
theorem dX6_loose_38 : decode cX6_loose 38 = .ok (.iconst 0, 1) := by decide +kernel
theorem dX6_loose_39 : decode cX6_loose 39 = .ok (.istore_n 2, 1) := by decide +kernel
theorem dX6_loose_40 : decode cX6_loose 40 = .ok (.iconst 0, 1) := by decide +kernel
theorem dX6_loose_41 : decode cX6_loose 41 = .ok (.istore_n 3, 1) := by decide +kernel
theorem dX6_loose_42 : decode cX6_loose 42 = .ok (.iload_n 3, 1) := by decide +kernel
theorem dX6_loose_43 : decode cX6_loose 43 = .ok (.iload_n 1, 1) := by decide +kernel
theorem dX6_loose_44 : decode cX6_loose 44 = .ok (.if_icmp .ge 19, 3) := by decide +kernel
theorem dX6_loose_47 : decode cX6_loose 47 = .ok (.iload_n 2, 1) := by decide +kernel
theorem dX6_loose_48 : decode cX6_loose 48 = .ok (.aload_n 0, 1) := by decide +kernel
theorem dX6_loose_49 : decode cX6_loose 49 = .ok (.getfield 10, 3) := by decide +kernel
theorem dX6_loose_52 : decode cX6_loose 52 = .ok (.invokevirtual 201, 3) := by decide +kernel
theorem dX6_loose_55 : decode cX6_loose 55 = .ok (.iadd, 1) := by decide +kernel
theorem dX6_loose_56 : decode cX6_loose 56 = .ok (.istore_n 2, 1) := by decide +kernel
theorem dX6_loose_57 : decode cX6_loose 57 = .ok (.iinc 3 1, 3) := by decide +kernel
theorem dX6_loose_60 : decode cX6_loose 60 = .ok (.goto (-18), 3) := by decide +kernel
theorem dX6_loose_63 : decode cX6_loose 63 = .ok (.iload_n 2, 1) := by decide +kernel
theorem dX6_loose_64 : decode cX6_loose 64 = .ok (.ireturn, 1) := by decide +kernel
theorem dX6_seed_0 : decode cX6_seed 0 = .ok (.aload_n 0, 1) := by decide +kernel
theorem dX6_seed_1 : decode cX6_seed 1 = .ok (.getfield 10, 3) := by decide +kernel
theorem dX6_seed_4 : decode cX6_seed 4 = .ok (.getfield 205, 3) := by decide +kernel
theorem dX6_seed_7 : decode cX6_seed 7 = .ok (.istore_n 2, 1) := by decide +kernel
theorem dX6_seed_8 : decode cX6_seed 8 = .ok (.aload_n 0, 1) := by decide +kernel
theorem dX6_seed_9 : decode cX6_seed 9 = .ok (.getfield 10, 3) := by decide +kernel
theorem dX6_seed_12 : decode cX6_seed 12 = .ok (.iload_n 1, 1) := by decide +kernel
theorem dX6_seed_13 : decode cX6_seed 13 = .ok (.putfield 205, 3) := by decide +kernel
theorem dX6_seed_16 : decode cX6_seed 16 = .ok (.iload_n 2, 1) := by decide +kernel
theorem dX6_seed_17 : decode cX6_seed 17 = .ok (.ireturn, 1) := by decide +kernel
theorem dX6_voice_0 : decode cX6_voice 0 = .ok (.aload_n 0, 1) := by decide +kernel
theorem dX6_voice_1 : decode cX6_voice 1 = .ok (.getfield 10, 3) := by decide +kernel
theorem dX6_voice_4 : decode cX6_voice 4 = .ok (.iload_n 1, 1) := by decide +kernel
theorem dX6_voice_5 : decode cX6_voice 5 = .ok (.invokevirtual 73, 3) := by decide +kernel
theorem dX6_voice_8 : decode cX6_voice 8 = .ok (.ifCond .eq 12, 3) := by decide +kernel
theorem dX6_voice_11 : decode cX6_voice 11 = .ok (.iload_n 2, 1) := by decide +kernel
theorem dX6_voice_12 : decode cX6_voice 12 = .ok (.ifCond .lt 8, 3) := by decide +kernel
theorem dX6_voice_15 : decode cX6_voice 15 = .ok (.iload_n 2, 1) := by decide +kernel
theorem dX6_voice_16 : decode cX6_voice 16 = .ok (.iconst 4, 1) := by decide +kernel
theorem dX6_voice_17 : decode cX6_voice 17 = .ok (.if_icmp .lt 9, 3) := by decide +kernel
theorem dX6_voice_20 : decode cX6_voice 20 = .ok (.aload_n 0, 1) := by decide +kernel
theorem dX6_voice_21 : decode cX6_voice 21 = .ok (.iconst 1, 1) := by decide +kernel
theorem dX6_voice_22 : decode cX6_voice 22 = .ok (.invokevirtual 65, 3) := by decide +kernel
theorem dX6_voice_25 : decode cX6_voice 25 = .ok (.ireturn, 1) := by decide +kernel
theorem dX6_voice_26 : decode cX6_voice 26 = .ok (.aload_n 0, 1) := by decide +kernel
theorem dX6_voice_27 : decode cX6_voice 27 = .ok (.getfield 36, 3) := by decide +kernel
theorem dX6_voice_30 : decode cX6_voice 30 = .ok (.aload_n 0, 1) := by decide +kernel
theorem dX6_voice_31 : decode cX6_voice 31 = .ok (.getfield 10, 3) := by decide +kernel
theorem dX6_voice_34 : decode cX6_voice 34 = .ok (.iload_n 1, 1) := by decide +kernel
theorem dX6_voice_35 : decode cX6_voice 35 = .ok (.invokevirtual 76, 3) := by decide +kernel
theorem dX6_voice_38 : decode cX6_voice 38 = .ok (.iload_n 1, 1) := by decide +kernel
theorem dX6_voice_39 : decode cX6_voice 39 = .ok (.aload_n 0, 1) := by decide +kernel
theorem dX6_voice_40 : decode cX6_voice 40 = .ok (.getfield 10, 3) := by decide +kernel
theorem dX6_voice_43 : decode cX6_voice 43 = .ok (.iload_n 1, 1) := by decide +kernel
theorem dX6_voice_44 : decode cX6_voice 44 = .ok (.invokevirtual 79, 3) := by decide +kernel
theorem dX6_voice_47 : decode cX6_voice 47 = .ok (.iload_n 2, 1) := by decide +kernel
theorem dX6_voice_48 : decode cX6_voice 48 = .ok (.iload_n 3, 1) := by decide +kernel
theorem dX6_voice_49 : decode cX6_voice 49 = .ok (.invokevirtual 208, 3) := by decide +kernel
theorem dX6_voice_52 : decode cX6_voice 52 = .ok (.istore 4, 2) := by decide +kernel
theorem dX6_voice_54 : decode cX6_voice 54 = .ok (.aload_n 0, 1) := by decide +kernel
theorem dX6_voice_55 : decode cX6_voice 55 = .ok (.getfield 36, 3) := by decide +kernel
theorem dX6_voice_58 : decode cX6_voice 58 = .ok (.getfield 212, 3) := by decide +kernel
theorem dX6_voice_61 : decode cX6_voice 61 = .ok (.ifCond .eq 12, 3) := by decide +kernel
theorem dX6_voice_64 : decode cX6_voice 64 = .ok (.aload_n 0, 1) := by decide +kernel
theorem dX6_voice_65 : decode cX6_voice 65 = .ok (.bipush 6, 2) := by decide +kernel
theorem dX6_voice_67 : decode cX6_voice 67 = .ok (.invokevirtual 65, 3) := by decide +kernel
theorem dX6_voice_70 : decode cX6_voice 70 = .ok (.goto 5, 3) := by decide +kernel
theorem dX6_voice_73 : decode cX6_voice 73 = .ok (.iload 4, 2) := by decide +kernel
theorem dX6_voice_75 : decode cX6_voice 75 = .ok (.ireturn, 1) := by decide +kernel
theorem dX6_body_0 : decode cX6_body 0 = .ok (.iload_n 1, 1) := by decide +kernel
theorem dX6_body_1 : decode cX6_body 1 = .ok (.ifCond .lt 14, 3) := by decide +kernel
theorem dX6_body_4 : decode cX6_body 4 = .ok (.iload_n 1, 1) := by decide +kernel
theorem dX6_body_5 : decode cX6_body 5 = .ok (.aload_n 0, 1) := by decide +kernel
theorem dX6_body_6 : decode cX6_body 6 = .ok (.getfield 36, 3) := by decide +kernel
theorem dX6_body_9 : decode cX6_body 9 = .ok (.getfield 216, 3) := by decide +kernel
theorem dX6_body_12 : decode cX6_body 12 = .ok (.if_icmp .lt 9, 3) := by decide +kernel
theorem dX6_body_15 : decode cX6_body 15 = .ok (.aload_n 0, 1) := by decide +kernel
theorem dX6_body_16 : decode cX6_body 16 = .ok (.iconst 2, 1) := by decide +kernel
theorem dX6_body_17 : decode cX6_body 17 = .ok (.invokevirtual 65, 3) := by decide +kernel
theorem dX6_body_20 : decode cX6_body 20 = .ok (.ireturn, 1) := by decide +kernel
theorem dX6_body_21 : decode cX6_body 21 = .ok (.aload_n 0, 1) := by decide +kernel
theorem dX6_body_22 : decode cX6_body 22 = .ok (.getfield 36, 3) := by decide +kernel
theorem dX6_body_25 : decode cX6_body 25 = .ok (.iload_n 1, 1) := by decide +kernel
theorem dX6_body_26 : decode cX6_body 26 = .ok (.invokevirtual 219, 3) := by decide +kernel
theorem dX6_body_29 : decode cX6_body 29 = .ok (.ireturn, 1) := by decide +kernel
theorem dX6_sheet_0 : decode cX6_sheet 0 = .ok (.iload_n 1, 1) := by decide +kernel
theorem dX6_sheet_1 : decode cX6_sheet 1 = .ok (.invokestatic 192, 3) := by decide +kernel
theorem dX6_sheet_4 : decode cX6_sheet 4 = .ok (.ifCond .eq 25, 3) := by decide +kernel
theorem dX6_sheet_7 : decode cX6_sheet 7 = .ok (.iload_n 2, 1) := by decide +kernel
theorem dX6_sheet_8 : decode cX6_sheet 8 = .ok (.ifCond .eq 27, 3) := by decide +kernel
theorem dX6_sheet_11 : decode cX6_sheet 11 = .ok (.iload_n 2, 1) := by decide +kernel
theorem dX6_sheet_12 : decode cX6_sheet 12 = .ok (.bipush 8, 2) := by decide +kernel
theorem dX6_sheet_14 : decode cX6_sheet 14 = .ok (.if_icmp .eq 21, 3) := by decide +kernel
theorem dX6_sheet_17 : decode cX6_sheet 17 = .ok (.iload_n 2, 1) := by decide +kernel
theorem dX6_sheet_18 : decode cX6_sheet 18 = .ok (.bipush 16, 2) := by decide +kernel
theorem dX6_sheet_20 : decode cX6_sheet 20 = .ok (.if_icmp .eq 15, 3) := by decide +kernel
theorem dX6_sheet_23 : decode cX6_sheet 23 = .ok (.iload_n 2, 1) := by decide +kernel
theorem dX6_sheet_24 : decode cX6_sheet 24 = .ok (.bipush 32, 2) := by decide +kernel
theorem dX6_sheet_26 : decode cX6_sheet 26 = .ok (.if_icmp .eq 9, 3) := by decide +kernel
theorem dX6_sheet_29 : decode cX6_sheet 29 = .ok (.aload_n 0, 1) := by decide +kernel
theorem dX6_sheet_30 : decode cX6_sheet 30 = .ok (.iconst 1, 1) := by decide +kernel
theorem dX6_sheet_31 : decode cX6_sheet 31 = .ok (.invokevirtual 65, 3) := by decide +kernel
theorem dX6_sheet_34 : decode cX6_sheet 34 = .ok (.ireturn, 1) := by decide +kernel
theorem dX6_sheet_35 : decode cX6_sheet 35 = .ok (.iload_n 2, 1) := by decide +kernel
theorem dX6_sheet_36 : decode cX6_sheet 36 = .ok (.ifCond .ne 15, 3) := by decide +kernel
theorem dX6_sheet_39 : decode cX6_sheet 39 = .ok (.aload_n 0, 1) := by decide +kernel
theorem dX6_sheet_40 : decode cX6_sheet 40 = .ok (.getfield 43, 3) := by decide +kernel
theorem dX6_sheet_43 : decode cX6_sheet 43 = .ok (.iload_n 1, 1) := by decide +kernel
theorem dX6_sheet_44 : decode cX6_sheet 44 = .ok (.iconst 0, 1) := by decide +kernel
theorem dX6_sheet_45 : decode cX6_sheet 45 = .ok (.iconst 0, 1) := by decide +kernel
theorem dX6_sheet_46 : decode cX6_sheet 46 = .ok (.invokevirtual 222, 3) := by decide +kernel
theorem dX6_sheet_49 : decode cX6_sheet 49 = .ok (.iconst 1, 1) := by decide +kernel
theorem dX6_sheet_50 : decode cX6_sheet 50 = .ok (.ireturn, 1) := by decide +kernel
theorem dX6_sheet_51 : decode cX6_sheet 51 = .ok (.iload_n 3, 1) := by decide +kernel
theorem dX6_sheet_52 : decode cX6_sheet 52 = .ok (.ifCond .ge 9, 3) := by decide +kernel
theorem dX6_sheet_55 : decode cX6_sheet 55 = .ok (.aload_n 0, 1) := by decide +kernel
theorem dX6_sheet_56 : decode cX6_sheet 56 = .ok (.iconst 3, 1) := by decide +kernel
theorem dX6_sheet_57 : decode cX6_sheet 57 = .ok (.invokevirtual 65, 3) := by decide +kernel
theorem dX6_sheet_60 : decode cX6_sheet 60 = .ok (.ireturn, 1) := by decide +kernel
theorem dX6_sheet_61 : decode cX6_sheet 61 = .ok (.iload_n 3, 1) := by decide +kernel
theorem dX6_sheet_62 : decode cX6_sheet 62 = .ok (.bipush 24, 2) := by decide +kernel
theorem dX6_sheet_64 : decode cX6_sheet 64 = .ok (.if_icmp .le 9, 3) := by decide +kernel
theorem dX6_sheet_67 : decode cX6_sheet 67 = .ok (.aload_n 0, 1) := by decide +kernel
theorem dX6_sheet_68 : decode cX6_sheet 68 = .ok (.iconst 1, 1) := by decide +kernel
theorem dX6_sheet_69 : decode cX6_sheet 69 = .ok (.invokevirtual 65, 3) := by decide +kernel
theorem dX6_sheet_72 : decode cX6_sheet 72 = .ok (.ireturn, 1) := by decide +kernel
theorem dX6_sheet_73 : decode cX6_sheet 73 = .ok (.aload_n 0, 1) := by decide +kernel
theorem dX6_sheet_74 : decode cX6_sheet 74 = .ok (.getfield 43, 3) := by decide +kernel
theorem dX6_sheet_77 : decode cX6_sheet 77 = .ok (.iload_n 1, 1) := by decide +kernel
theorem dX6_sheet_78 : decode cX6_sheet 78 = .ok (.iload_n 2, 1) := by decide +kernel
theorem dX6_sheet_79 : decode cX6_sheet 79 = .ok (.iload_n 3, 1) := by decide +kernel
theorem dX6_sheet_80 : decode cX6_sheet 80 = .ok (.invokevirtual 222, 3) := by decide +kernel
theorem dX6_sheet_83 : decode cX6_sheet 83 = .ok (.iconst 1, 1) := by decide +kernel
theorem dX6_sheet_84 : decode cX6_sheet 84 = .ok (.ireturn, 1) := by decide +kernel
theorem dX6_put_0 : decode cX6_put 0 = .ok (.iload_n 1, 1) := by decide +kernel
theorem dX6_put_1 : decode cX6_put 1 = .ok (.invokestatic 192, 3) := by decide +kernel
theorem dX6_put_4 : decode cX6_put 4 = .ok (.ifCond .ne 9, 3) := by decide +kernel
theorem dX6_put_7 : decode cX6_put 7 = .ok (.aload_n 0, 1) := by decide +kernel
theorem dX6_put_8 : decode cX6_put 8 = .ok (.iconst 1, 1) := by decide +kernel
theorem dX6_put_9 : decode cX6_put 9 = .ok (.invokevirtual 65, 3) := by decide +kernel
theorem dX6_put_12 : decode cX6_put 12 = .ok (.ireturn, 1) := by decide +kernel
theorem dX6_put_13 : decode cX6_put 13 = .ok (.aload_n 0, 1) := by decide +kernel
theorem dX6_put_14 : decode cX6_put 14 = .ok (.getfield 43, 3) := by decide +kernel
theorem dX6_put_17 : decode cX6_put 17 = .ok (.iload_n 1, 1) := by decide +kernel
theorem dX6_put_18 : decode cX6_put 18 = .ok (.invokevirtual 195, 3) := by decide +kernel
theorem dX6_put_21 : decode cX6_put 21 = .ok (.ifCond .eq 9, 3) := by decide +kernel
theorem dX6_put_24 : decode cX6_put 24 = .ok (.aload_n 0, 1) := by decide +kernel
theorem dX6_put_25 : decode cX6_put 25 = .ok (.iconst 2, 1) := by decide +kernel
theorem dX6_put_26 : decode cX6_put 26 = .ok (.invokevirtual 65, 3) := by decide +kernel
theorem dX6_put_29 : decode cX6_put 29 = .ok (.ireturn, 1) := by decide +kernel
theorem dX6_put_30 : decode cX6_put 30 = .ok (.iload_n 2, 1) := by decide +kernel
theorem dX6_put_31 : decode cX6_put 31 = .ok (.ifCond .lt 15, 3) := by decide +kernel
theorem dX6_put_34 : decode cX6_put 34 = .ok (.iload_n 2, 1) := by decide +kernel
theorem dX6_put_35 : decode cX6_put 35 = .ok (.aload_n 0, 1) := by decide +kernel
theorem dX6_put_36 : decode cX6_put 36 = .ok (.getfield 43, 3) := by decide +kernel
theorem dX6_put_39 : decode cX6_put 39 = .ok (.iload_n 1, 1) := by decide +kernel
theorem dX6_put_40 : decode cX6_put 40 = .ok (.invokevirtual 225, 3) := by decide +kernel
theorem dX6_put_43 : decode cX6_put 43 = .ok (.if_icmp .lt 9, 3) := by decide +kernel
theorem dX6_put_46 : decode cX6_put 46 = .ok (.aload_n 0, 1) := by decide +kernel
theorem dX6_put_47 : decode cX6_put 47 = .ok (.iconst 1, 1) := by decide +kernel
theorem dX6_put_48 : decode cX6_put 48 = .ok (.invokevirtual 65, 3) := by decide +kernel
theorem dX6_put_51 : decode cX6_put 51 = .ok (.ireturn, 1) := by decide +kernel
theorem dX6_put_52 : decode cX6_put 52 = .ok (.aload_n 0, 1) := by decide +kernel
theorem dX6_put_53 : decode cX6_put 53 = .ok (.getfield 43, 3) := by decide +kernel
theorem dX6_put_56 : decode cX6_put 56 = .ok (.iload_n 1, 1) := by decide +kernel
theorem dX6_put_57 : decode cX6_put 57 = .ok (.iload_n 2, 1) := by decide +kernel
theorem dX6_put_58 : decode cX6_put 58 = .ok (.iload_n 3, 1) := by decide +kernel
theorem dX6_put_59 : decode cX6_put 59 = .ok (.invokevirtual 228, 3) := by decide +kernel
theorem dX6_put_62 : decode cX6_put 62 = .ok (.iconst 1, 1) := by decide +kernel
theorem dX6_put_63 : decode cX6_put 63 = .ok (.ireturn, 1) := by decide +kernel
theorem dX6_move_0 : decode cX6_move 0 = .ok (.iload_n 1, 1) := by decide +kernel
theorem dX6_move_1 : decode cX6_move 1 = .ok (.invokestatic 192, 3) := by decide +kernel
theorem dX6_move_4 : decode cX6_move 4 = .ok (.ifCond .eq 10, 3) := by decide +kernel
theorem dX6_move_7 : decode cX6_move 7 = .ok (.iload_n 3, 1) := by decide +kernel
theorem dX6_move_8 : decode cX6_move 8 = .ok (.invokestatic 192, 3) := by decide +kernel
theorem dX6_move_11 : decode cX6_move 11 = .ok (.ifCond .ne 9, 3) := by decide +kernel
theorem dX6_move_14 : decode cX6_move 14 = .ok (.aload_n 0, 1) := by decide +kernel
theorem dX6_move_15 : decode cX6_move 15 = .ok (.iconst 1, 1) := by decide +kernel
theorem dX6_move_16 : decode cX6_move 16 = .ok (.invokevirtual 65, 3) := by decide +kernel
theorem dX6_move_19 : decode cX6_move 19 = .ok (.ireturn, 1) := by decide +kernel
theorem dX6_move_20 : decode cX6_move 20 = .ok (.aload_n 0, 1) := by decide +kernel
theorem dX6_move_21 : decode cX6_move 21 = .ok (.getfield 43, 3) := by decide +kernel
theorem dX6_move_24 : decode cX6_move 24 = .ok (.iload_n 1, 1) := by decide +kernel
theorem dX6_move_25 : decode cX6_move 25 = .ok (.invokevirtual 195, 3) := by decide +kernel
theorem dX6_move_28 : decode cX6_move 28 = .ok (.ifCond .ne 14, 3) := by decide +kernel
theorem dX6_move_31 : decode cX6_move 31 = .ok (.aload_n 0, 1) := by decide +kernel
theorem dX6_move_32 : decode cX6_move 32 = .ok (.getfield 43, 3) := by decide +kernel
theorem dX6_move_35 : decode cX6_move 35 = .ok (.iload_n 3, 1) := by decide +kernel
theorem dX6_move_36 : decode cX6_move 36 = .ok (.invokevirtual 195, 3) := by decide +kernel
theorem dX6_move_39 : decode cX6_move 39 = .ok (.ifCond .eq 9, 3) := by decide +kernel
theorem dX6_move_42 : decode cX6_move 42 = .ok (.aload_n 0, 1) := by decide +kernel
theorem dX6_move_43 : decode cX6_move 43 = .ok (.iconst 2, 1) := by decide +kernel
theorem dX6_move_44 : decode cX6_move 44 = .ok (.invokevirtual 65, 3) := by decide +kernel
theorem dX6_move_47 : decode cX6_move 47 = .ok (.ireturn, 1) := by decide +kernel
theorem dX6_move_48 : decode cX6_move 48 = .ok (.aload_n 0, 1) := by decide +kernel
theorem dX6_move_49 : decode cX6_move 49 = .ok (.getfield 43, 3) := by decide +kernel
theorem dX6_move_52 : decode cX6_move 52 = .ok (.iload_n 1, 1) := by decide +kernel
theorem dX6_move_53 : decode cX6_move 53 = .ok (.invokevirtual 231, 3) := by decide +kernel
theorem dX6_move_56 : decode cX6_move 56 = .ok (.aload_n 0, 1) := by decide +kernel
theorem dX6_move_57 : decode cX6_move 57 = .ok (.getfield 43, 3) := by decide +kernel
theorem dX6_move_60 : decode cX6_move 60 = .ok (.iload_n 3, 1) := by decide +kernel
theorem dX6_move_61 : decode cX6_move 61 = .ok (.invokevirtual 231, 3) := by decide +kernel
theorem dX6_move_64 : decode cX6_move 64 = .ok (.if_icmp .eq 9, 3) := by decide +kernel
theorem dX6_move_67 : decode cX6_move 67 = .ok (.aload_n 0, 1) := by decide +kernel
theorem dX6_move_68 : decode cX6_move 68 = .ok (.iconst 5, 1) := by decide +kernel
theorem dX6_move_69 : decode cX6_move 69 = .ok (.invokevirtual 65, 3) := by decide +kernel
theorem dX6_move_72 : decode cX6_move 72 = .ok (.ireturn, 1) := by decide +kernel
theorem dX6_move_73 : decode cX6_move 73 = .ok (.aload_n 0, 1) := by decide +kernel
theorem dX6_move_74 : decode cX6_move 74 = .ok (.getfield 43, 3) := by decide +kernel
theorem dX6_move_77 : decode cX6_move 77 = .ok (.iload_n 1, 1) := by decide +kernel
theorem dX6_move_78 : decode cX6_move 78 = .ok (.iload_n 2, 1) := by decide +kernel
theorem dX6_move_79 : decode cX6_move 79 = .ok (.iload 5, 2) := by decide +kernel
theorem dX6_move_81 : decode cX6_move 81 = .ok (.invokevirtual 234, 3) := by decide +kernel
theorem dX6_move_84 : decode cX6_move 84 = .ok (.ifCond .eq 18, 3) := by decide +kernel
theorem dX6_move_87 : decode cX6_move 87 = .ok (.aload_n 0, 1) := by decide +kernel
theorem dX6_move_88 : decode cX6_move 88 = .ok (.getfield 43, 3) := by decide +kernel
theorem dX6_move_91 : decode cX6_move 91 = .ok (.iload_n 3, 1) := by decide +kernel
theorem dX6_move_92 : decode cX6_move 92 = .ok (.iload 4, 2) := by decide +kernel
theorem dX6_move_94 : decode cX6_move 94 = .ok (.iload 5, 2) := by decide +kernel
theorem dX6_move_96 : decode cX6_move 96 = .ok (.invokevirtual 234, 3) := by decide +kernel
theorem dX6_move_99 : decode cX6_move 99 = .ok (.ifCond .ne 9, 3) := by decide +kernel
theorem dX6_move_102 : decode cX6_move 102 = .ok (.aload_n 0, 1) := by decide +kernel
theorem dX6_move_103 : decode cX6_move 103 = .ok (.iconst 1, 1) := by decide +kernel
theorem dX6_move_104 : decode cX6_move 104 = .ok (.invokevirtual 65, 3) := by decide +kernel
theorem dX6_move_107 : decode cX6_move 107 = .ok (.ireturn, 1) := by decide +kernel
theorem dX6_move_108 : decode cX6_move 108 = .ok (.aload_n 0, 1) := by decide +kernel
theorem dX6_move_109 : decode cX6_move 109 = .ok (.getfield 43, 3) := by decide +kernel
theorem dX6_move_112 : decode cX6_move 112 = .ok (.iload_n 1, 1) := by decide +kernel
theorem dX6_move_113 : decode cX6_move 113 = .ok (.iload_n 2, 1) := by decide +kernel
theorem dX6_move_114 : decode cX6_move 114 = .ok (.iload_n 3, 1) := by decide +kernel
theorem dX6_move_115 : decode cX6_move 115 = .ok (.iload 4, 2) := by decide +kernel
theorem dX6_move_117 : decode cX6_move 117 = .ok (.iload 5, 2) := by decide +kernel
theorem dX6_move_119 : decode cX6_move 119 = .ok (.invokevirtual 238, 3) := by decide +kernel
theorem dX6_move_122 : decode cX6_move 122 = .ok (.iload 5, 2) := by decide +kernel
theorem dX6_move_124 : decode cX6_move 124 = .ok (.ireturn, 1) := by decide +kernel
theorem dX6_plates_0 : decode cX6_plates 0 = .ok (.iload_n 1, 1) := by decide +kernel
theorem dX6_plates_1 : decode cX6_plates 1 = .ok (.invokestatic 192, 3) := by decide +kernel
theorem dX6_plates_4 : decode cX6_plates 4 = .ok (.ifCond .ne 9, 3) := by decide +kernel
theorem dX6_plates_7 : decode cX6_plates 7 = .ok (.aload_n 0, 1) := by decide +kernel
theorem dX6_plates_8 : decode cX6_plates 8 = .ok (.iconst 1, 1) := by decide +kernel
theorem dX6_plates_9 : decode cX6_plates 9 = .ok (.invokevirtual 65, 3) := by decide +kernel
theorem dX6_plates_12 : decode cX6_plates 12 = .ok (.ireturn, 1) := by decide +kernel
theorem dX6_plates_13 : decode cX6_plates 13 = .ok (.aload_n 0, 1) := by decide +kernel
theorem dX6_plates_14 : decode cX6_plates 14 = .ok (.getfield 43, 3) := by decide +kernel
theorem dX6_plates_17 : decode cX6_plates 17 = .ok (.iload_n 1, 1) := by decide +kernel
theorem dX6_plates_18 : decode cX6_plates 18 = .ok (.invokevirtual 195, 3) := by decide +kernel
theorem dX6_plates_21 : decode cX6_plates 21 = .ok (.ifCond .eq 9, 3) := by decide +kernel
theorem dX6_plates_24 : decode cX6_plates 24 = .ok (.aload_n 0, 1) := by decide +kernel
theorem dX6_plates_25 : decode cX6_plates 25 = .ok (.iconst 2, 1) := by decide +kernel
theorem dX6_plates_26 : decode cX6_plates 26 = .ok (.invokevirtual 65, 3) := by decide +kernel
theorem dX6_plates_29 : decode cX6_plates 29 = .ok (.ireturn, 1) := by decide +kernel
theorem dX6_plates_30 : decode cX6_plates 30 = .ok (.aload_n 0, 1) := by decide +kernel
theorem dX6_plates_31 : decode cX6_plates 31 = .ok (.getfield 43, 3) := by decide +kernel
theorem dX6_plates_34 : decode cX6_plates 34 = .ok (.iload_n 1, 1) := by decide +kernel
theorem dX6_plates_35 : decode cX6_plates 35 = .ok (.invokevirtual 225, 3) := by decide +kernel
theorem dX6_plates_38 : decode cX6_plates 38 = .ok (.aload_n 0, 1) := by decide +kernel
theorem dX6_plates_39 : decode cX6_plates 39 = .ok (.getfield 10, 3) := by decide +kernel
theorem dX6_plates_42 : decode cX6_plates 42 = .ok (.getfield 59, 3) := by decide +kernel
theorem dX6_plates_45 : decode cX6_plates 45 = .ok (.invokestatic 242, 3) := by decide +kernel
theorem dX6_plates_48 : decode cX6_plates 48 = .ok (.istore_n 2, 1) := by decide +kernel
theorem dX6_plates_49 : decode cX6_plates 49 = .ok (.iconst 0, 1) := by decide +kernel
theorem dX6_plates_50 : decode cX6_plates 50 = .ok (.istore_n 3, 1) := by decide +kernel
theorem dX6_plates_51 : decode cX6_plates 51 = .ok (.iload_n 3, 1) := by decide +kernel
theorem dX6_plates_52 : decode cX6_plates 52 = .ok (.iload_n 2, 1) := by decide +kernel
theorem dX6_plates_53 : decode cX6_plates 53 = .ok (.if_icmp .ge 40, 3) := by decide +kernel
theorem dX6_plates_56 : decode cX6_plates 56 = .ok (.aload_n 0, 1) := by decide +kernel
theorem dX6_plates_57 : decode cX6_plates 57 = .ok (.getfield 43, 3) := by decide +kernel
theorem dX6_plates_60 : decode cX6_plates 60 = .ok (.iload_n 1, 1) := by decide +kernel
theorem dX6_plates_61 : decode cX6_plates 61 = .ok (.iload_n 3, 1) := by decide +kernel
theorem dX6_plates_62 : decode cX6_plates 62 = .ok (.invokevirtual 247, 3) := by decide +kernel
theorem dX6_plates_65 : decode cX6_plates 65 = .ok (.istore 4, 2) := by decide +kernel
theorem dX6_plates_67 : decode cX6_plates 67 = .ok (.iload 4, 2) := by decide +kernel
theorem dX6_plates_69 : decode cX6_plates 69 = .ok (.invokestatic 62, 3) := by decide +kernel
theorem dX6_plates_72 : decode cX6_plates 72 = .ok (.ifCond .ne 5, 3) := by decide +kernel
theorem dX6_plates_75 : decode cX6_plates 75 = .ok (.iload_n 3, 1) := by decide +kernel
theorem dX6_plates_76 : decode cX6_plates 76 = .ok (.ireturn, 1) := by decide +kernel
theorem dX6_plates_77 : decode cX6_plates 77 = .ok (.aload_n 0, 1) := by decide +kernel
theorem dX6_plates_78 : decode cX6_plates 78 = .ok (.getfield 10, 3) := by decide +kernel
theorem dX6_plates_81 : decode cX6_plates 81 = .ok (.iload_n 3, 1) := by decide +kernel
theorem dX6_plates_82 : decode cX6_plates 82 = .ok (.iload 4, 2) := by decide +kernel
theorem dX6_plates_84 : decode cX6_plates 84 = .ok (.invokevirtual 250, 3) := by decide +kernel
theorem dX6_plates_87 : decode cX6_plates 87 = .ok (.iinc 3 1, 3) := by decide +kernel
theorem dX6_plates_90 : decode cX6_plates 90 = .ok (.goto (-39), 3) := by decide +kernel
theorem dX6_plates_93 : decode cX6_plates 93 = .ok (.iload_n 2, 1) := by decide +kernel
theorem dX6_plates_94 : decode cX6_plates 94 = .ok (.ireturn, 1) := by decide +kernel
theorem dX6_judge_0 : decode cX6_judge 0 = .ok (.iload_n 1, 1) := by decide +kernel
theorem dX6_judge_1 : decode cX6_judge 1 = .ok (.invokestatic 192, 3) := by decide +kernel
theorem dX6_judge_4 : decode cX6_judge 4 = .ok (.ifCond .ne 9, 3) := by decide +kernel
theorem dX6_judge_7 : decode cX6_judge 7 = .ok (.aload_n 0, 1) := by decide +kernel
theorem dX6_judge_8 : decode cX6_judge 8 = .ok (.iconst 1, 1) := by decide +kernel
theorem dX6_judge_9 : decode cX6_judge 9 = .ok (.invokevirtual 65, 3) := by decide +kernel
theorem dX6_judge_12 : decode cX6_judge 12 = .ok (.ireturn, 1) := by decide +kernel
theorem dX6_judge_13 : decode cX6_judge 13 = .ok (.aload_n 0, 1) := by decide +kernel
theorem dX6_judge_14 : decode cX6_judge 14 = .ok (.getfield 43, 3) := by decide +kernel
theorem dX6_judge_17 : decode cX6_judge 17 = .ok (.iload_n 1, 1) := by decide +kernel
theorem dX6_judge_18 : decode cX6_judge 18 = .ok (.invokevirtual 195, 3) := by decide +kernel
theorem dX6_judge_21 : decode cX6_judge 21 = .ok (.ifCond .eq 9, 3) := by decide +kernel
theorem dX6_judge_24 : decode cX6_judge 24 = .ok (.aload_n 0, 1) := by decide +kernel
theorem dX6_judge_25 : decode cX6_judge 25 = .ok (.iconst 2, 1) := by decide +kernel
theorem dX6_judge_26 : decode cX6_judge 26 = .ok (.invokevirtual 65, 3) := by decide +kernel
theorem dX6_judge_29 : decode cX6_judge 29 = .ok (.ireturn, 1) := by decide +kernel
theorem dX6_judge_30 : decode cX6_judge 30 = .ok (.aload_n 0, 1) := by decide +kernel
theorem dX6_judge_31 : decode cX6_judge 31 = .ok (.getfield 43, 3) := by decide +kernel
theorem dX6_judge_34 : decode cX6_judge 34 = .ok (.iload_n 1, 1) := by decide +kernel
theorem dX6_judge_35 : decode cX6_judge 35 = .ok (.invokevirtual 225, 3) := by decide +kernel
theorem dX6_judge_38 : decode cX6_judge 38 = .ok (.aload_n 0, 1) := by decide +kernel
theorem dX6_judge_39 : decode cX6_judge 39 = .ok (.getfield 10, 3) := by decide +kernel
theorem dX6_judge_42 : decode cX6_judge 42 = .ok (.getfield 59, 3) := by decide +kernel
theorem dX6_judge_45 : decode cX6_judge 45 = .ok (.invokestatic 242, 3) := by decide +kernel
theorem dX6_judge_48 : decode cX6_judge 48 = .ok (.istore_n 2, 1) := by decide +kernel
theorem dX6_judge_49 : decode cX6_judge 49 = .ok (.iconst 0, 1) := by decide +kernel
theorem dX6_judge_50 : decode cX6_judge 50 = .ok (.istore_n 3, 1) := by decide +kernel
theorem dX6_judge_51 : decode cX6_judge 51 = .ok (.iconst 0, 1) := by decide +kernel
theorem dX6_judge_52 : decode cX6_judge 52 = .ok (.istore 4, 2) := by decide +kernel
theorem dX6_judge_54 : decode cX6_judge 54 = .ok (.iload 4, 2) := by decide +kernel
theorem dX6_judge_56 : decode cX6_judge 56 = .ok (.iload_n 2, 1) := by decide +kernel
theorem dX6_judge_57 : decode cX6_judge 57 = .ok (.if_icmp .ge 38, 3) := by decide +kernel
theorem dX6_judge_60 : decode cX6_judge 60 = .ok (.aload_n 0, 1) := by decide +kernel
theorem dX6_judge_61 : decode cX6_judge 61 = .ok (.getfield 43, 3) := by decide +kernel
theorem dX6_judge_64 : decode cX6_judge 64 = .ok (.iload_n 1, 1) := by decide +kernel
theorem dX6_judge_65 : decode cX6_judge 65 = .ok (.iload 4, 2) := by decide +kernel
theorem dX6_judge_67 : decode cX6_judge 67 = .ok (.invokevirtual 247, 3) := by decide +kernel
theorem dX6_judge_70 : decode cX6_judge 70 = .ok (.iload_n 3, 1) := by decide +kernel
theorem dX6_judge_71 : decode cX6_judge 71 = .ok (.if_icmp .eq 6, 3) := by decide +kernel
theorem dX6_judge_74 : decode cX6_judge 74 = .ok (.iload 4, 2) := by decide +kernel
theorem dX6_judge_76 : decode cX6_judge 76 = .ok (.ireturn, 1) := by decide +kernel
theorem dX6_judge_77 : decode cX6_judge 77 = .ok (.iload_n 3, 1) := by decide +kernel
theorem dX6_judge_78 : decode cX6_judge 78 = .ok (.aload_n 0, 1) := by decide +kernel
theorem dX6_judge_79 : decode cX6_judge 79 = .ok (.getfield 10, 3) := by decide +kernel
theorem dX6_judge_82 : decode cX6_judge 82 = .ok (.iload 4, 2) := by decide +kernel
theorem dX6_judge_84 : decode cX6_judge 84 = .ok (.invokevirtual 88, 3) := by decide +kernel
theorem dX6_judge_87 : decode cX6_judge 87 = .ok (.iadd, 1) := by decide +kernel
theorem dX6_judge_88 : decode cX6_judge 88 = .ok (.istore_n 3, 1) := by decide +kernel
theorem dX6_judge_89 : decode cX6_judge 89 = .ok (.iinc 4 1, 3) := by decide +kernel
theorem dX6_judge_92 : decode cX6_judge 92 = .ok (.goto (-38), 3) := by decide +kernel
theorem dX6_judge_95 : decode cX6_judge 95 = .ok (.iload_n 2, 1) := by decide +kernel
theorem dX6_judge_96 : decode cX6_judge 96 = .ok (.ireturn, 1) := by decide +kernel
theorem dX6_image_0 : decode cX6_image 0 = .ok (.aload_n 0, 1) := by decide +kernel
theorem dX6_image_1 : decode cX6_image 1 = .ok (.getfield 16, 3) := by decide +kernel
theorem dX6_image_4 : decode cX6_image 4 = .ok (.aload_n 0, 1) := by decide +kernel
theorem dX6_image_5 : decode cX6_image 5 = .ok (.getfield 10, 3) := by decide +kernel
theorem dX6_image_8 : decode cX6_image 8 = .ok (.invokevirtual 254, 3) := by decide +kernel
theorem dX6_image_11 : decode cX6_image 11 = .ok (.aload_n 0, 1) := by decide +kernel
theorem dX6_image_12 : decode cX6_image 12 = .ok (.dup, 1) := by decide +kernel
theorem dX6_image_13 : decode cX6_image 13 = .ok (.getfield 51, 3) := by decide +kernel
theorem dX6_image_16 : decode cX6_image 16 = .ok (.iconst 1, 1) := by decide +kernel
theorem dX6_image_17 : decode cX6_image 17 = .ok (.iadd, 1) := by decide +kernel
theorem dX6_image_18 : decode cX6_image 18 = .ok (.putfield 51, 3) := by decide +kernel
theorem dX6_image_21 : decode cX6_image 21 = .ok (.aload_n 0, 1) := by decide +kernel
theorem dX6_image_22 : decode cX6_image 22 = .ok (.getfield 51, 3) := by decide +kernel
theorem dX6_image_25 : decode cX6_image 25 = .ok (.ireturn, 1) := by decide +kernel
theorem dX6_restore_0 : decode cX6_restore 0 = .ok (.aload_n 0, 1) := by decide +kernel
theorem dX6_restore_1 : decode cX6_restore 1 = .ok (.getfield 51, 3) := by decide +kernel
theorem dX6_restore_4 : decode cX6_restore 4 = .ok (.ifCond .ne 9, 3) := by decide +kernel
theorem dX6_restore_7 : decode cX6_restore 7 = .ok (.aload_n 0, 1) := by decide +kernel
theorem dX6_restore_8 : decode cX6_restore 8 = .ok (.iconst 2, 1) := by decide +kernel
theorem dX6_restore_9 : decode cX6_restore 9 = .ok (.invokevirtual 65, 3) := by decide +kernel
theorem dX6_restore_12 : decode cX6_restore 12 = .ok (.ireturn, 1) := by decide +kernel
theorem dX6_restore_13 : decode cX6_restore 13 = .ok (.aload_n 0, 1) := by decide +kernel
theorem dX6_restore_14 : decode cX6_restore 14 = .ok (.getfield 10, 3) := by decide +kernel
theorem dX6_restore_17 : decode cX6_restore 17 = .ok (.aload_n 0, 1) := by decide +kernel
theorem dX6_restore_18 : decode cX6_restore 18 = .ok (.getfield 16, 3) := by decide +kernel
theorem dX6_restore_21 : decode cX6_restore 21 = .ok (.invokevirtual 254, 3) := by decide +kernel
theorem dX6_restore_24 : decode cX6_restore 24 = .ok (.aload_n 0, 1) := by decide +kernel
theorem dX6_restore_25 : decode cX6_restore 25 = .ok (.getfield 10, 3) := by decide +kernel
theorem dX6_restore_28 : decode cX6_restore 28 = .ok (.getfield 112, 3) := by decide +kernel
theorem dX6_restore_31 : decode cX6_restore 31 = .ok (.ireturn, 1) := by decide +kernel
theorem dX6_tell_0 : decode cX6_tell 0 = .ok (.aload_n 0, 1) := by decide +kernel
theorem dX6_tell_1 : decode cX6_tell 1 = .ok (.getfield 10, 3) := by decide +kernel
theorem dX6_tell_4 : decode cX6_tell 4 = .ok (.getfield 258, 3) := by decide +kernel
theorem dX6_tell_7 : decode cX6_tell 7 = .ok (.bipush 24, 2) := by decide +kernel
theorem dX6_tell_9 : decode cX6_tell 9 = .ok (.if_icmp .lt 11, 3) := by decide +kernel
theorem dX6_tell_12 : decode cX6_tell 12 = .ok (.aload_n 0, 1) := by decide +kernel
theorem dX6_tell_13 : decode cX6_tell 13 = .ok (.iconst 4, 1) := by decide +kernel
theorem dX6_tell_14 : decode cX6_tell 14 = .ok (.invokevirtual 65, 3) := by decide +kernel
theorem dX6_tell_17 : decode cX6_tell 17 = .ok (.goto 11, 3) := by decide +kernel
theorem dX6_tell_20 : decode cX6_tell 20 = .ok (.aload_n 0, 1) := by decide +kernel
theorem dX6_tell_21 : decode cX6_tell 21 = .ok (.getfield 10, 3) := by decide +kernel
theorem dX6_tell_24 : decode cX6_tell 24 = .ok (.iload_n 1, 1) := by decide +kernel
theorem dX6_tell_25 : decode cX6_tell 25 = .ok (.invokevirtual 261, 3) := by decide +kernel
theorem dX6_tell_28 : decode cX6_tell 28 = .ok (.ireturn, 1) := by decide +kernel
theorem dX6_check_0 : decode cX6_check 0 = .ok (.aload_n 0, 1) := by decide +kernel
theorem dX6_check_1 : decode cX6_check 1 = .ok (.getfield 10, 3) := by decide +kernel
theorem dX6_check_4 : decode cX6_check 4 = .ok (.getfield 258, 3) := by decide +kernel
theorem dX6_check_7 : decode cX6_check 7 = .ok (.istore_n 1, 1) := by decide +kernel
theorem dX6_check_8 : decode cX6_check 8 = .ok (.aload_n 0, 1) := by decide +kernel
theorem dX6_check_9 : decode cX6_check 9 = .ok (.getfield 10, 3) := by decide +kernel
theorem dX6_check_12 : decode cX6_check 12 = .ok (.iconst 0, 1) := by decide +kernel
theorem dX6_check_13 : decode cX6_check 13 = .ok (.putfield 258, 3) := by decide +kernel
theorem dX6_check_16 : decode cX6_check 16 = .ok (.iconst 0, 1) := by decide +kernel
theorem dX6_check_17 : decode cX6_check 17 = .ok (.istore_n 2, 1) := by decide +kernel
theorem dX6_check_18 : decode cX6_check 18 = .ok (.iload_n 2, 1) := by decide +kernel
theorem dX6_check_19 : decode cX6_check 19 = .ok (.iload_n 1, 1) := by decide +kernel
theorem dX6_check_20 : decode cX6_check 20 = .ok (.if_icmp .ge 43, 3) := by decide +kernel
theorem dX6_check_23 : decode cX6_check 23 = .ok (.aload_n 0, 1) := by decide +kernel
theorem dX6_check_24 : decode cX6_check 24 = .ok (.getfield 10, 3) := by decide +kernel
theorem dX6_check_27 : decode cX6_check 27 = .ok (.iload_n 2, 1) := by decide +kernel
theorem dX6_check_28 : decode cX6_check 28 = .ok (.invokevirtual 73, 3) := by decide +kernel
theorem dX6_check_31 : decode cX6_check 31 = .ok (.ifCond .eq 22, 3) := by decide +kernel
theorem dX6_check_34 : decode cX6_check 34 = .ok (.aload_n 0, 1) := by decide +kernel
theorem dX6_check_35 : decode cX6_check 35 = .ok (.getfield 10, 3) := by decide +kernel
theorem dX6_check_38 : decode cX6_check 38 = .ok (.iload_n 2, 1) := by decide +kernel
theorem dX6_check_39 : decode cX6_check 39 = .ok (.invokevirtual 264, 3) := by decide +kernel
theorem dX6_check_42 : decode cX6_check 42 = .ok (.aload_n 0, 1) := by decide +kernel
theorem dX6_check_43 : decode cX6_check 43 = .ok (.getfield 10, 3) := by decide +kernel
theorem dX6_check_46 : decode cX6_check 46 = .ok (.iload_n 2, 1) := by decide +kernel
theorem dX6_check_47 : decode cX6_check 47 = .ok (.invokevirtual 82, 3) := by decide +kernel
theorem dX6_check_50 : decode cX6_check 50 = .ok (.if_icmp .eq 7, 3) := by decide +kernel
theorem dX6_check_53 : decode cX6_check 53 = .ok (.iconst 1, 1) := by decide +kernel
theorem dX6_check_54 : decode cX6_check 54 = .ok (.iload_n 2, 1) := by decide +kernel
theorem dX6_check_55 : decode cX6_check 55 = .ok (.iadd, 1) := by decide +kernel
theorem dX6_check_56 : decode cX6_check 56 = .ok (.ireturn, 1) := by decide +kernel
theorem dX6_check_57 : decode cX6_check 57 = .ok (.iinc 2 1, 3) := by decide +kernel
theorem dX6_check_60 : decode cX6_check 60 = .ok (.goto (-42), 3) := by decide +kernel
theorem dX6_check_63 : decode cX6_check 63 = .ok (.iconst 0, 1) := by decide +kernel
theorem dX6_check_64 : decode cX6_check 64 = .ok (.ireturn, 1) := by decide +kernel
theorem dX6_count_0 : decode cX6_count 0 = .ok (.iload_n 1, 1) := by decide +kernel
theorem dX6_count_1 : decode cX6_count 1 = .ok (.tableswitch 102 0 6 #[43, 51, 59, 67, 78, 86, 94], 43) := by decide +kernel
theorem dX6_count_44 : decode cX6_count 44 = .ok (.aload_n 0, 1) := by decide +kernel
theorem dX6_count_45 : decode cX6_count 45 = .ok (.getfield 10, 3) := by decide +kernel
theorem dX6_count_48 : decode cX6_count 48 = .ok (.getfield 59, 3) := by decide +kernel
theorem dX6_count_51 : decode cX6_count 51 = .ok (.ireturn, 1) := by decide +kernel
theorem dX6_count_52 : decode cX6_count 52 = .ok (.aload_n 0, 1) := by decide +kernel
theorem dX6_count_53 : decode cX6_count 53 = .ok (.getfield 10, 3) := by decide +kernel
theorem dX6_count_56 : decode cX6_count 56 = .ok (.getfield 112, 3) := by decide +kernel
theorem dX6_count_59 : decode cX6_count 59 = .ok (.ireturn, 1) := by decide +kernel
theorem dX6_count_60 : decode cX6_count 60 = .ok (.aload_n 0, 1) := by decide +kernel
theorem dX6_count_61 : decode cX6_count 61 = .ok (.getfield 10, 3) := by decide +kernel
theorem dX6_count_64 : decode cX6_count 64 = .ok (.getfield 267, 3) := by decide +kernel
theorem dX6_count_67 : decode cX6_count 67 = .ok (.ireturn, 1) := by decide +kernel
theorem dX6_count_68 : decode cX6_count 68 = .ok (.aload_n 0, 1) := by decide +kernel
theorem dX6_count_69 : decode cX6_count 69 = .ok (.getfield 10, 3) := by decide +kernel
theorem dX6_count_72 : decode cX6_count 72 = .ok (.getfield 115, 3) := by decide +kernel
theorem dX6_count_75 : decode cX6_count 75 = .ok (.getfield 119, 3) := by decide +kernel
theorem dX6_count_78 : decode cX6_count 78 = .ok (.ireturn, 1) := by decide +kernel
theorem dX6_count_79 : decode cX6_count 79 = .ok (.aload_n 0, 1) := by decide +kernel
theorem dX6_count_80 : decode cX6_count 80 = .ok (.getfield 10, 3) := by decide +kernel
theorem dX6_count_83 : decode cX6_count 83 = .ok (.getfield 258, 3) := by decide +kernel
theorem dX6_count_86 : decode cX6_count 86 = .ok (.ireturn, 1) := by decide +kernel
theorem dX6_count_87 : decode cX6_count 87 = .ok (.aload_n 0, 1) := by decide +kernel
theorem dX6_count_88 : decode cX6_count 88 = .ok (.getfield 36, 3) := by decide +kernel
theorem dX6_count_91 : decode cX6_count 91 = .ok (.getfield 216, 3) := by decide +kernel
theorem dX6_count_94 : decode cX6_count 94 = .ok (.ireturn, 1) := by decide +kernel
theorem dX6_count_95 : decode cX6_count 95 = .ok (.aload_n 0, 1) := by decide +kernel
theorem dX6_count_96 : decode cX6_count 96 = .ok (.getfield 10, 3) := by decide +kernel
theorem dX6_count_99 : decode cX6_count 99 = .ok (.getfield 205, 3) := by decide +kernel
theorem dX6_count_102 : decode cX6_count 102 = .ok (.ireturn, 1) := by decide +kernel
theorem dX6_count_103 : decode cX6_count 103 = .ok (.aload_n 0, 1) := by decide +kernel
theorem dX6_count_104 : decode cX6_count 104 = .ok (.iconst 1, 1) := by decide +kernel
theorem dX6_count_105 : decode cX6_count 105 = .ok (.invokevirtual 65, 3) := by decide +kernel
theorem dX6_count_108 : decode cX6_count 108 = .ok (.ireturn, 1) := by decide +kernel
theorem dX6_told_0 : decode cX6_told 0 = .ok (.iload_n 1, 1) := by decide +kernel
theorem dX6_told_1 : decode cX6_told 1 = .ok (.iconst 1, 1) := by decide +kernel
theorem dX6_told_2 : decode cX6_told 2 = .ok (.if_icmp .lt 18, 3) := by decide +kernel
theorem dX6_told_5 : decode cX6_told 5 = .ok (.iload_n 1, 1) := by decide +kernel
theorem dX6_told_6 : decode cX6_told 6 = .ok (.bipush 6, 2) := by decide +kernel
theorem dX6_told_8 : decode cX6_told 8 = .ok (.if_icmp .gt 12, 3) := by decide +kernel
theorem dX6_told_11 : decode cX6_told 11 = .ok (.iload_n 1, 1) := by decide +kernel
theorem dX6_told_12 : decode cX6_told 12 = .ok (.aload_n 0, 1) := by decide +kernel
theorem dX6_told_13 : decode cX6_told 13 = .ok (.getfield 47, 3) := by decide +kernel
theorem dX6_told_16 : decode cX6_told 16 = .ok (.arraylength, 1) := by decide +kernel
theorem dX6_told_17 : decode cX6_told 17 = .ok (.if_icmp .lt 9, 3) := by decide +kernel
theorem dX6_told_20 : decode cX6_told 20 = .ok (.aload_n 0, 1) := by decide +kernel
theorem dX6_told_21 : decode cX6_told 21 = .ok (.iconst 1, 1) := by decide +kernel
theorem dX6_told_22 : decode cX6_told 22 = .ok (.invokevirtual 65, 3) := by decide +kernel
theorem dX6_told_25 : decode cX6_told 25 = .ok (.ireturn, 1) := by decide +kernel
theorem dX6_told_26 : decode cX6_told 26 = .ok (.aload_n 0, 1) := by decide +kernel
theorem dX6_told_27 : decode cX6_told 27 = .ok (.getfield 47, 3) := by decide +kernel
theorem dX6_told_30 : decode cX6_told 30 = .ok (.iload_n 1, 1) := by decide +kernel
theorem dX6_told_31 : decode cX6_told 31 = .ok (.iaload, 1) := by decide +kernel
theorem dX6_told_32 : decode cX6_told 32 = .ok (.ireturn, 1) := by decide +kernel
theorem dX6_failing_0 : decode cX6_failing 0 = .ok (.iload_n 1, 1) := by decide +kernel
theorem dX6_failing_1 : decode cX6_failing 1 = .ok (.ifCond .lt 22, 3) := by decide +kernel
theorem dX6_failing_4 : decode cX6_failing 4 = .ok (.iload_n 1, 1) := by decide +kernel
theorem dX6_failing_5 : decode cX6_failing 5 = .ok (.aload_n 0, 1) := by decide +kernel
theorem dX6_failing_6 : decode cX6_failing 6 = .ok (.getfield 47, 3) := by decide +kernel
theorem dX6_failing_9 : decode cX6_failing 9 = .ok (.arraylength, 1) := by decide +kernel
theorem dX6_failing_10 : decode cX6_failing 10 = .ok (.if_icmp .ge 13, 3) := by decide +kernel
theorem dX6_failing_13 : decode cX6_failing 13 = .ok (.aload_n 0, 1) := by decide +kernel
theorem dX6_failing_14 : decode cX6_failing 14 = .ok (.getfield 47, 3) := by decide +kernel
theorem dX6_failing_17 : decode cX6_failing 17 = .ok (.iload_n 1, 1) := by decide +kernel
theorem dX6_failing_18 : decode cX6_failing 18 = .ok (.dup2, 1) := by decide +kernel
theorem dX6_failing_19 : decode cX6_failing 19 = .ok (.iaload, 1) := by decide +kernel
theorem dX6_failing_20 : decode cX6_failing 20 = .ok (.iconst 1, 1) := by decide +kernel
theorem dX6_failing_21 : decode cX6_failing 21 = .ok (.iadd, 1) := by decide +kernel
theorem dX6_failing_22 : decode cX6_failing 22 = .ok (.iastore, 1) := by decide +kernel
theorem dX6_failing_23 : decode cX6_failing 23 = .ok (.ldc_w 270, 3) := by decide +kernel
theorem dX6_failing_26 : decode cX6_failing 26 = .ok (.iload_n 1, 1) := by decide +kernel
theorem dX6_failing_27 : decode cX6_failing 27 = .ok (.isub, 1) := by decide +kernel
theorem dX6_failing_28 : decode cX6_failing 28 = .ok (.ireturn, 1) := by decide +kernel
theorem dX6_tellsHarmOfGap_0 : decode cX6_tellsHarmOfGap 0 = .ok (.aload_n 0, 1) := by decide +kernel
theorem dX6_tellsHarmOfGap_1 : decode cX6_tellsHarmOfGap 1 = .ok (.getfield 43, 3) := by decide +kernel
theorem dX6_tellsHarmOfGap_4 : decode cX6_tellsHarmOfGap 4 = .ok (.iload_n 1, 1) := by decide +kernel
theorem dX6_tellsHarmOfGap_5 : decode cX6_tellsHarmOfGap 5 = .ok (.invokevirtual 225, 3) := by decide +kernel
theorem dX6_tellsHarmOfGap_8 : decode cX6_tellsHarmOfGap 8 = .ok (.istore_n 3, 1) := by decide +kernel
theorem dX6_tellsHarmOfGap_9 : decode cX6_tellsHarmOfGap 9 = .ok (.iload_n 3, 1) := by decide +kernel
theorem dX6_tellsHarmOfGap_10 : decode cX6_tellsHarmOfGap 10 = .ok (.aload_n 0, 1) := by decide +kernel
theorem dX6_tellsHarmOfGap_11 : decode cX6_tellsHarmOfGap 11 = .ok (.getfield 10, 3) := by decide +kernel
theorem dX6_tellsHarmOfGap_14 : decode cX6_tellsHarmOfGap 14 = .ok (.getfield 59, 3) := by decide +kernel
theorem dX6_tellsHarmOfGap_17 : decode cX6_tellsHarmOfGap 17 = .ok (.if_icmp .le 5, 3) := by decide +kernel
theorem dX6_tellsHarmOfGap_20 : decode cX6_tellsHarmOfGap 20 = .ok (.iconst 0, 1) := by decide +kernel
theorem dX6_tellsHarmOfGap_21 : decode cX6_tellsHarmOfGap 21 = .ok (.ireturn, 1) := by decide +kernel
theorem dX6_tellsHarmOfGap_22 : decode cX6_tellsHarmOfGap 22 = .ok (.iconst 0, 1) := by decide +kernel
theorem dX6_tellsHarmOfGap_23 : decode cX6_tellsHarmOfGap 23 = .ok (.istore 4, 2) := by decide +kernel
theorem dX6_tellsHarmOfGap_25 : decode cX6_tellsHarmOfGap 25 = .ok (.iload 4, 2) := by decide +kernel
theorem dX6_tellsHarmOfGap_27 : decode cX6_tellsHarmOfGap 27 = .ok (.iload_n 3, 1) := by decide +kernel
theorem dX6_tellsHarmOfGap_28 : decode cX6_tellsHarmOfGap 28 = .ok (.if_icmp .ge 50, 3) := by decide +kernel
theorem dX6_tellsHarmOfGap_31 : decode cX6_tellsHarmOfGap 31 = .ok (.aload_n 0, 1) := by decide +kernel
theorem dX6_tellsHarmOfGap_32 : decode cX6_tellsHarmOfGap 32 = .ok (.getfield 10, 3) := by decide +kernel
theorem dX6_tellsHarmOfGap_35 : decode cX6_tellsHarmOfGap 35 = .ok (.aload_n 0, 1) := by decide +kernel
theorem dX6_tellsHarmOfGap_36 : decode cX6_tellsHarmOfGap 36 = .ok (.getfield 10, 3) := by decide +kernel
theorem dX6_tellsHarmOfGap_39 : decode cX6_tellsHarmOfGap 39 = .ok (.iload 4, 2) := by decide +kernel
theorem dX6_tellsHarmOfGap_41 : decode cX6_tellsHarmOfGap 41 = .ok (.invokevirtual 94, 3) := by decide +kernel
theorem dX6_tellsHarmOfGap_44 : decode cX6_tellsHarmOfGap 44 = .ok (.iload_n 2, 1) := by decide +kernel
theorem dX6_tellsHarmOfGap_45 : decode cX6_tellsHarmOfGap 45 = .ok (.iload 4, 2) := by decide +kernel
theorem dX6_tellsHarmOfGap_47 : decode cX6_tellsHarmOfGap 47 = .ok (.iconst 1, 1) := by decide +kernel
theorem dX6_tellsHarmOfGap_48 : decode cX6_tellsHarmOfGap 48 = .ok (.iadd, 1) := by decide +kernel
theorem dX6_tellsHarmOfGap_49 : decode cX6_tellsHarmOfGap 49 = .ok (.imul, 1) := by decide +kernel
theorem dX6_tellsHarmOfGap_50 : decode cX6_tellsHarmOfGap 50 = .ok (.invokevirtual 105, 3) := by decide +kernel
theorem dX6_tellsHarmOfGap_53 : decode cX6_tellsHarmOfGap 53 = .ok (.istore 5, 2) := by decide +kernel
theorem dX6_tellsHarmOfGap_55 : decode cX6_tellsHarmOfGap 55 = .ok (.aload_n 0, 1) := by decide +kernel
theorem dX6_tellsHarmOfGap_56 : decode cX6_tellsHarmOfGap 56 = .ok (.getfield 43, 3) := by decide +kernel
theorem dX6_tellsHarmOfGap_59 : decode cX6_tellsHarmOfGap 59 = .ok (.iload_n 1, 1) := by decide +kernel
theorem dX6_tellsHarmOfGap_60 : decode cX6_tellsHarmOfGap 60 = .ok (.iload 4, 2) := by decide +kernel
theorem dX6_tellsHarmOfGap_62 : decode cX6_tellsHarmOfGap 62 = .ok (.invokevirtual 247, 3) := by decide +kernel
theorem dX6_tellsHarmOfGap_65 : decode cX6_tellsHarmOfGap 65 = .ok (.iload 5, 2) := by decide +kernel
theorem dX6_tellsHarmOfGap_67 : decode cX6_tellsHarmOfGap 67 = .ok (.if_icmp .eq 5, 3) := by decide +kernel
theorem dX6_tellsHarmOfGap_70 : decode cX6_tellsHarmOfGap 70 = .ok (.iconst 0, 1) := by decide +kernel
theorem dX6_tellsHarmOfGap_71 : decode cX6_tellsHarmOfGap 71 = .ok (.ireturn, 1) := by decide +kernel
theorem dX6_tellsHarmOfGap_72 : decode cX6_tellsHarmOfGap 72 = .ok (.iinc 4 1, 3) := by decide +kernel
theorem dX6_tellsHarmOfGap_75 : decode cX6_tellsHarmOfGap 75 = .ok (.goto (-50), 3) := by decide +kernel
theorem dX6_tellsHarmOfGap_78 : decode cX6_tellsHarmOfGap 78 = .ok (.iconst 1, 1) := by decide +kernel
theorem dX6_tellsHarmOfGap_79 : decode cX6_tellsHarmOfGap 79 = .ok (.ireturn, 1) := by decide +kernel
theorem dX6_isKindWithM_0 : decode cX6_isKindWithM 0 = .ok (.iload_n 0, 1) := by decide +kernel
theorem dX6_isKindWithM_1 : decode cX6_isKindWithM 1 = .ok (.ifCond .lt 13, 3) := by decide +kernel
theorem dX6_isKindWithM_4 : decode cX6_isKindWithM 4 = .ok (.iload_n 0, 1) := by decide +kernel
theorem dX6_isKindWithM_5 : decode cX6_isKindWithM 5 = .ok (.bipush 70, 2) := by decide +kernel
theorem dX6_isKindWithM_7 : decode cX6_isKindWithM 7 = .ok (.if_icmp .ge 7, 3) := by decide +kernel
theorem dX6_isKindWithM_10 : decode cX6_isKindWithM 10 = .ok (.iconst 1, 1) := by decide +kernel
theorem dX6_isKindWithM_11 : decode cX6_isKindWithM 11 = .ok (.goto 4, 3) := by decide +kernel
theorem dX6_isKindWithM_14 : decode cX6_isKindWithM 14 = .ok (.iconst 0, 1) := by decide +kernel
theorem dX6_isKindWithM_15 : decode cX6_isKindWithM 15 = .ok (.ireturn, 1) := by decide +kernel
theorem dX6_isPlate_0 : decode cX6_isPlate 0 = .ok (.iload_n 0, 1) := by decide +kernel
theorem dX6_isPlate_1 : decode cX6_isPlate 1 = .ok (.iconst 1, 1) := by decide +kernel
theorem dX6_isPlate_2 : decode cX6_isPlate 2 = .ok (.if_icmp .lt 14, 3) := by decide +kernel
theorem dX6_isPlate_5 : decode cX6_isPlate 5 = .ok (.iload_n 0, 1) := by decide +kernel
theorem dX6_isPlate_6 : decode cX6_isPlate 6 = .ok (.sipush 999, 3) := by decide +kernel
theorem dX6_isPlate_9 : decode cX6_isPlate 9 = .ok (.if_icmp .gt 7, 3) := by decide +kernel
theorem dX6_isPlate_12 : decode cX6_isPlate 12 = .ok (.iconst 1, 1) := by decide +kernel
theorem dX6_isPlate_13 : decode cX6_isPlate 13 = .ok (.goto 4, 3) := by decide +kernel
theorem dX6_isPlate_16 : decode cX6_isPlate 16 = .ok (.iconst 0, 1) := by decide +kernel
theorem dX6_isPlate_17 : decode cX6_isPlate 17 = .ok (.ireturn, 1) := by decide +kernel
theorem dX6_isUse_0 : decode cX6_isUse 0 = .ok (.iload_n 0, 1) := by decide +kernel
theorem dX6_isUse_1 : decode cX6_isUse 1 = .ok (.ifCond .lt 12, 3) := by decide +kernel
theorem dX6_isUse_4 : decode cX6_isUse 4 = .ok (.iload_n 0, 1) := by decide +kernel
theorem dX6_isUse_5 : decode cX6_isUse 5 = .ok (.iconst 2, 1) := by decide +kernel
theorem dX6_isUse_6 : decode cX6_isUse 6 = .ok (.if_icmp .ge 7, 3) := by decide +kernel
theorem dX6_isUse_9 : decode cX6_isUse 9 = .ok (.iconst 1, 1) := by decide +kernel
theorem dX6_isUse_10 : decode cX6_isUse 10 = .ok (.goto 4, 3) := by decide +kernel
theorem dX6_isUse_13 : decode cX6_isUse 13 = .ok (.iconst 0, 1) := by decide +kernel
theorem dX6_isUse_14 : decode cX6_isUse 14 = .ok (.ireturn, 1) := by decide +kernel
theorem dX6_isSheet_0 : decode cX6_isSheet 0 = .ok (.iload_n 0, 1) := by decide +kernel
theorem dX6_isSheet_1 : decode cX6_isSheet 1 = .ok (.ifCond .lt 12, 3) := by decide +kernel
theorem dX6_isSheet_4 : decode cX6_isSheet 4 = .ok (.iload_n 0, 1) := by decide +kernel
theorem dX6_isSheet_5 : decode cX6_isSheet 5 = .ok (.iconst 4, 1) := by decide +kernel
theorem dX6_isSheet_6 : decode cX6_isSheet 6 = .ok (.if_icmp .ge 7, 3) := by decide +kernel
theorem dX6_isSheet_9 : decode cX6_isSheet 9 = .ok (.iconst 1, 1) := by decide +kernel
theorem dX6_isSheet_10 : decode cX6_isSheet 10 = .ok (.goto 4, 3) := by decide +kernel
theorem dX6_isSheet_13 : decode cX6_isSheet 13 = .ok (.iconst 0, 1) := by decide +kernel
theorem dX6_isSheet_14 : decode cX6_isSheet 14 = .ok (.ireturn, 1) := by decide +kernel
theorem dX6_isOrIsUnder_0 : decode cX6_isOrIsUnder 0 = .ok (.iload_n 0, 1) := by decide +kernel
theorem dX6_isOrIsUnder_1 : decode cX6_isOrIsUnder 1 = .ok (.istore_n 2, 1) := by decide +kernel
theorem dX6_isOrIsUnder_2 : decode cX6_isOrIsUnder 2 = .ok (.iconst 0, 1) := by decide +kernel
theorem dX6_isOrIsUnder_3 : decode cX6_isOrIsUnder 3 = .ok (.istore_n 3, 1) := by decide +kernel
theorem dX6_isOrIsUnder_4 : decode cX6_isOrIsUnder 4 = .ok (.iload_n 3, 1) := by decide +kernel
theorem dX6_isOrIsUnder_5 : decode cX6_isOrIsUnder 5 = .ok (.bipush 7, 2) := by decide +kernel
theorem dX6_isOrIsUnder_7 : decode cX6_isOrIsUnder 7 = .ok (.if_icmp .ge 25, 3) := by decide +kernel
theorem dX6_isOrIsUnder_10 : decode cX6_isOrIsUnder 10 = .ok (.iload_n 2, 1) := by decide +kernel
theorem dX6_isOrIsUnder_11 : decode cX6_isOrIsUnder 11 = .ok (.ifCond .lt 21, 3) := by decide +kernel
theorem dX6_isOrIsUnder_14 : decode cX6_isOrIsUnder 14 = .ok (.iload_n 2, 1) := by decide +kernel
theorem dX6_isOrIsUnder_15 : decode cX6_isOrIsUnder 15 = .ok (.iload_n 1, 1) := by decide +kernel
theorem dX6_isOrIsUnder_16 : decode cX6_isOrIsUnder 16 = .ok (.if_icmp .ne 5, 3) := by decide +kernel
theorem dX6_isOrIsUnder_19 : decode cX6_isOrIsUnder 19 = .ok (.iconst 1, 1) := by decide +kernel
theorem dX6_isOrIsUnder_20 : decode cX6_isOrIsUnder 20 = .ok (.ireturn, 1) := by decide +kernel
theorem dX6_isOrIsUnder_21 : decode cX6_isOrIsUnder 21 = .ok (.iload_n 2, 1) := by decide +kernel
theorem dX6_isOrIsUnder_22 : decode cX6_isOrIsUnder 22 = .ok (.invokestatic 271, 3) := by decide +kernel
theorem dX6_isOrIsUnder_25 : decode cX6_isOrIsUnder 25 = .ok (.istore_n 2, 1) := by decide +kernel
theorem dX6_isOrIsUnder_26 : decode cX6_isOrIsUnder 26 = .ok (.iinc 3 1, 3) := by decide +kernel
theorem dX6_isOrIsUnder_29 : decode cX6_isOrIsUnder 29 = .ok (.goto (-25), 3) := by decide +kernel
theorem dX6_isOrIsUnder_32 : decode cX6_isOrIsUnder 32 = .ok (.iconst 0, 1) := by decide +kernel
theorem dX6_isOrIsUnder_33 : decode cX6_isOrIsUnder 33 = .ok (.ireturn, 1) := by decide +kernel
theorem dX6_kindAbove_0 : decode cX6_kindAbove 0 = .ok (.iload_n 0, 1) := by decide +kernel
theorem dX6_kindAbove_1 : decode cX6_kindAbove 1 = .ok (.ifCond .lt 19, 3) := by decide +kernel
theorem dX6_kindAbove_4 : decode cX6_kindAbove 4 = .ok (.iload_n 0, 1) := by decide +kernel
theorem dX6_kindAbove_5 : decode cX6_kindAbove 5 = .ok (.getstatic 274, 3) := by decide +kernel
theorem dX6_kindAbove_8 : decode cX6_kindAbove 8 = .ok (.arraylength, 1) := by decide +kernel
theorem dX6_kindAbove_9 : decode cX6_kindAbove 9 = .ok (.if_icmp .ge 11, 3) := by decide +kernel
theorem dX6_kindAbove_12 : decode cX6_kindAbove 12 = .ok (.getstatic 274, 3) := by decide +kernel
theorem dX6_kindAbove_15 : decode cX6_kindAbove 15 = .ok (.iload_n 0, 1) := by decide +kernel
theorem dX6_kindAbove_16 : decode cX6_kindAbove 16 = .ok (.iaload, 1) := by decide +kernel
theorem dX6_kindAbove_17 : decode cX6_kindAbove 17 = .ok (.goto 4, 3) := by decide +kernel
theorem dX6_kindAbove_20 : decode cX6_kindAbove 20 = .ok (.iconst (-1), 1) := by decide +kernel
theorem dX6_kindAbove_21 : decode cX6_kindAbove 21 = .ok (.ireturn, 1) := by decide +kernel
theorem dX6_quotient_0 : decode cX6_quotient 0 = .ok (.iload_n 1, 1) := by decide +kernel
theorem dX6_quotient_1 : decode cX6_quotient 1 = .ok (.ifCond .ne 7, 3) := by decide +kernel
theorem dX6_quotient_4 : decode cX6_quotient 4 = .ok (.iconst 0, 1) := by decide +kernel
theorem dX6_quotient_5 : decode cX6_quotient 5 = .ok (.goto 6, 3) := by decide +kernel
theorem dX6_quotient_8 : decode cX6_quotient 8 = .ok (.iload_n 0, 1) := by decide +kernel
theorem dX6_quotient_9 : decode cX6_quotient 9 = .ok (.iload_n 1, 1) := by decide +kernel
theorem dX6_quotient_10 : decode cX6_quotient 10 = .ok (.idiv, 1) := by decide +kernel
theorem dX6_quotient_11 : decode cX6_quotient 11 = .ok (.ireturn, 1) := by decide +kernel
theorem dX6_rest_0 : decode cX6_rest 0 = .ok (.iload_n 1, 1) := by decide +kernel
theorem dX6_rest_1 : decode cX6_rest 1 = .ok (.ifCond .ne 7, 3) := by decide +kernel
theorem dX6_rest_4 : decode cX6_rest 4 = .ok (.iconst 0, 1) := by decide +kernel
theorem dX6_rest_5 : decode cX6_rest 5 = .ok (.goto 6, 3) := by decide +kernel
theorem dX6_rest_8 : decode cX6_rest 8 = .ok (.iload_n 0, 1) := by decide +kernel
theorem dX6_rest_9 : decode cX6_rest 9 = .ok (.iload_n 1, 1) := by decide +kernel
theorem dX6_rest_10 : decode cX6_rest 10 = .ok (.irem, 1) := by decide +kernel
theorem dX6_rest_11 : decode cX6_rest 11 = .ok (.ireturn, 1) := by decide +kernel
theorem dX6_held_0 : decode cX6_held 0 = .ok (.iload_n 1, 1) := by decide +kernel
theorem dX6_held_1 : decode cX6_held 1 = .ok (.iload_n 2, 1) := by decide +kernel
theorem dX6_held_2 : decode cX6_held 2 = .ok (.iload_n 0, 1) := by decide +kernel
theorem dX6_held_3 : decode cX6_held 3 = .ok (.invokestatic 242, 3) := by decide +kernel
theorem dX6_held_6 : decode cX6_held 6 = .ok (.invokestatic 277, 3) := by decide +kernel
theorem dX6_held_9 : decode cX6_held 9 = .ok (.ireturn, 1) := by decide +kernel
end
section
theorem dX7_init_0 : decode cX7_init 0 = .ok (.aload_n 0, 1) := by decide +kernel
theorem dX7_init_1 : decode cX7_init 1 = .ok (.invokespecial 1, 3) := by decide +kernel
theorem dX7_init_4 : decode cX7_init 4 = .ok (.aload_n 0, 1) := by decide +kernel
theorem dX7_init_5 : decode cX7_init 5 = .ok (.sipush 382, 3) := by decide +kernel
theorem dX7_init_8 : decode cX7_init 8 = .ok (.newarray .int, 2) := by decide +kernel
theorem dX7_init_10 : decode cX7_init 10 = .ok (.putfield 7, 3) := by decide +kernel
theorem dX7_init_13 : decode cX7_init 13 = .ok (.aload_n 0, 1) := by decide +kernel
theorem dX7_init_14 : decode cX7_init 14 = .ok (.sipush 382, 3) := by decide +kernel
theorem dX7_init_17 : decode cX7_init 17 = .ok (.newarray .int, 2) := by decide +kernel
theorem dX7_init_19 : decode cX7_init 19 = .ok (.putfield 13, 3) := by decide +kernel
theorem dX7_init_22 : decode cX7_init 22 = .ok (.aload_n 0, 1) := by decide +kernel
theorem dX7_init_23 : decode cX7_init 23 = .ok (.bipush 7, 2) := by decide +kernel
theorem dX7_init_25 : decode cX7_init 25 = .ok (.newarray .int, 2) := by decide +kernel
theorem dX7_init_27 : decode cX7_init 27 = .ok (.putfield 16, 3) := by decide +kernel
theorem dX7_init_30 : decode cX7_init 30 = .ok (.aload_n 0, 1) := by decide +kernel
theorem dX7_init_31 : decode cX7_init 31 = .ok (.bipush 124, 2) := by decide +kernel
theorem dX7_init_33 : decode cX7_init 33 = .ok (.newarray .int, 2) := by decide +kernel
theorem dX7_init_35 : decode cX7_init 35 = .ok (.putfield 19, 3) := by decide +kernel
theorem dX7_init_38 : decode cX7_init 38 = .ok (.aload_n 0, 1) := by decide +kernel
theorem dX7_init_39 : decode cX7_init 39 = .ok (.sipush 128, 3) := by decide +kernel
theorem dX7_init_42 : decode cX7_init 42 = .ok (.newarray .int, 2) := by decide +kernel
theorem dX7_init_44 : decode cX7_init 44 = .ok (.putfield 22, 3) := by decide +kernel
theorem dX7_init_47 : decode cX7_init 47 = .ok (.aload_n 0, 1) := by decide +kernel
theorem dX7_init_48 : decode cX7_init 48 = .ok (.bipush 64, 2) := by decide +kernel
theorem dX7_init_50 : decode cX7_init 50 = .ok (.newarray .int, 2) := by decide +kernel
theorem dX7_init_52 : decode cX7_init 52 = .ok (.putfield 25, 3) := by decide +kernel
theorem dX7_init_55 : decode cX7_init 55 = .ok (.aload_n 0, 1) := by decide +kernel
theorem dX7_init_56 : decode cX7_init 56 = .ok (.sipush 1210, 3) := by decide +kernel
theorem dX7_init_59 : decode cX7_init 59 = .ok (.newarray .int, 2) := by decide +kernel
theorem dX7_init_61 : decode cX7_init 61 = .ok (.putfield 28, 3) := by decide +kernel
theorem dX7_init_64 : decode cX7_init 64 = .ok (.aload_n 0, 1) := by decide +kernel
theorem dX7_init_65 : decode cX7_init 65 = .ok (.bipush 10, 2) := by decide +kernel
theorem dX7_init_67 : decode cX7_init 67 = .ok (.newarray .int, 2) := by decide +kernel
theorem dX7_init_69 : decode cX7_init 69 = .ok (.putfield 31, 3) := by decide +kernel
theorem dX7_init_72 : decode cX7_init 72 = .ok (.aload_n 0, 1) := by decide +kernel
theorem dX7_init_73 : decode cX7_init 73 = .ok (.bipush 30, 2) := by decide +kernel
theorem dX7_init_75 : decode cX7_init 75 = .ok (.newarray .int, 2) := by decide +kernel
theorem dX7_init_77 : decode cX7_init 77 = .ok (.putfield 34, 3) := by decide +kernel
theorem dX7_init_80 : decode cX7_init 80 = .ok (.aload_n 0, 1) := by decide +kernel
theorem dX7_init_81 : decode cX7_init 81 = .ok (.iconst 4, 1) := by decide +kernel
theorem dX7_init_82 : decode cX7_init 82 = .ok (.newarray .int, 2) := by decide +kernel
theorem dX7_init_84 : decode cX7_init 84 = .ok (.putfield 37, 3) := by decide +kernel
theorem dX7_init_87 : decode cX7_init 87 = .ok (.aload_n 0, 1) := by decide +kernel
theorem dX7_init_88 : decode cX7_init 88 = .ok (.iconst 4, 1) := by decide +kernel
theorem dX7_init_89 : decode cX7_init 89 = .ok (.newarray .int, 2) := by decide +kernel
theorem dX7_init_91 : decode cX7_init 91 = .ok (.putfield 40, 3) := by decide +kernel
theorem dX7_init_94 : decode cX7_init 94 = .ok (.aload_n 0, 1) := by decide +kernel
theorem dX7_init_95 : decode cX7_init 95 = .ok (.bipush 96, 2) := by decide +kernel
theorem dX7_init_97 : decode cX7_init 97 = .ok (.newarray .int, 2) := by decide +kernel
theorem dX7_init_99 : decode cX7_init 99 = .ok (.putfield 43, 3) := by decide +kernel
theorem dX7_init_102 : decode cX7_init 102 = .ok (.aload_n 0, 1) := by decide +kernel
theorem dX7_init_103 : decode cX7_init 103 = .ok (.bipush 24, 2) := by decide +kernel
theorem dX7_init_105 : decode cX7_init 105 = .ok (.newarray .int, 2) := by decide +kernel
theorem dX7_init_107 : decode cX7_init 107 = .ok (.putfield 46, 3) := by decide +kernel
theorem dX7_init_110 : decode cX7_init 110 = .ok (.aload_n 0, 1) := by decide +kernel
theorem dX7_init_111 : decode cX7_init 111 = .ok (.getfield 7, 3) := by decide +kernel
theorem dX7_init_114 : decode cX7_init 114 = .ok (.iconst 2, 1) := by decide +kernel
theorem dX7_init_115 : decode cX7_init 115 = .ok (.iconst 1, 1) := by decide +kernel
theorem dX7_init_116 : decode cX7_init 116 = .ok (.iastore, 1) := by decide +kernel
theorem dX7_init_117 : decode cX7_init 117 = .ok (.return_, 1) := by decide +kernel
theorem dX7_error_0 : decode cX7_error 0 = .ok (.aload_n 0, 1) := by decide +kernel
theorem dX7_error_1 : decode cX7_error 1 = .ok (.getfield 16, 3) := by decide +kernel
theorem dX7_error_4 : decode cX7_error 4 = .ok (.iload_n 1, 1) := by decide +kernel
theorem dX7_error_5 : decode cX7_error 5 = .ok (.dup2, 1) := by decide +kernel
theorem dX7_error_6 : decode cX7_error 6 = .ok (.iaload, 1) := by decide +kernel
theorem dX7_error_7 : decode cX7_error 7 = .ok (.iconst 1, 1) := by decide +kernel
theorem dX7_error_8 : decode cX7_error 8 = .ok (.iadd, 1) := by decide +kernel
theorem dX7_error_9 : decode cX7_error 9 = .ok (.iastore, 1) := by decide +kernel
theorem dX7_error_10 : decode cX7_error 10 = .ok (.ldc 49, 2) := by decide +kernel
theorem dX7_error_12 : decode cX7_error 12 = .ok (.iload_n 1, 1) := by decide +kernel
theorem dX7_error_13 : decode cX7_error 13 = .ok (.isub, 1) := by decide +kernel
theorem dX7_error_14 : decode cX7_error 14 = .ok (.ireturn, 1) := by decide +kernel
theorem dX7_in_0 : decode cX7_in 0 = .ok (.iload_n 0, 1) := by decide +kernel
theorem dX7_in_1 : decode cX7_in 1 = .ok (.iload_n 1, 1) := by decide +kernel
theorem dX7_in_2 : decode cX7_in 2 = .ok (.if_icmp .lt 12, 3) := by decide +kernel
theorem dX7_in_5 : decode cX7_in 5 = .ok (.iload_n 0, 1) := by decide +kernel
theorem dX7_in_6 : decode cX7_in 6 = .ok (.iload_n 2, 1) := by decide +kernel
theorem dX7_in_7 : decode cX7_in 7 = .ok (.if_icmp .gt 7, 3) := by decide +kernel
theorem dX7_in_10 : decode cX7_in 10 = .ok (.iconst 1, 1) := by decide +kernel
theorem dX7_in_11 : decode cX7_in 11 = .ok (.goto 4, 3) := by decide +kernel
theorem dX7_in_14 : decode cX7_in 14 = .ok (.iconst 0, 1) := by decide +kernel
theorem dX7_in_15 : decode cX7_in 15 = .ok (.ireturn, 1) := by decide +kernel
theorem dX7_held_0 : decode cX7_held 0 = .ok (.iload_n 0, 1) := by decide +kernel
theorem dX7_held_1 : decode cX7_held 1 = .ok (.iload_n 1, 1) := by decide +kernel
theorem dX7_held_2 : decode cX7_held 2 = .ok (.if_icmp .ge 7, 3) := by decide +kernel
theorem dX7_held_5 : decode cX7_held 5 = .ok (.iload_n 1, 1) := by decide +kernel
theorem dX7_held_6 : decode cX7_held 6 = .ok (.goto 13, 3) := by decide +kernel
theorem dX7_held_9 : decode cX7_held 9 = .ok (.iload_n 0, 1) := by decide +kernel
theorem dX7_held_10 : decode cX7_held 10 = .ok (.iload_n 2, 1) := by decide +kernel
theorem dX7_held_11 : decode cX7_held 11 = .ok (.if_icmp .le 7, 3) := by decide +kernel
theorem dX7_held_14 : decode cX7_held 14 = .ok (.iload_n 2, 1) := by decide +kernel
theorem dX7_held_15 : decode cX7_held 15 = .ok (.goto 4, 3) := by decide +kernel
theorem dX7_held_18 : decode cX7_held 18 = .ok (.iload_n 0, 1) := by decide +kernel
theorem dX7_held_19 : decode cX7_held 19 = .ok (.ireturn, 1) := by decide +kernel
theorem dX7_copyAll_0 : decode cX7_copyAll 0 = .ok (.iconst 0, 1) := by decide +kernel
theorem dX7_copyAll_1 : decode cX7_copyAll 1 = .ok (.istore_n 2, 1) := by decide +kernel
theorem dX7_copyAll_2 : decode cX7_copyAll 2 = .ok (.iload_n 2, 1) := by decide +kernel
theorem dX7_copyAll_3 : decode cX7_copyAll 3 = .ok (.sipush 382, 3) := by decide +kernel
theorem dX7_copyAll_6 : decode cX7_copyAll 6 = .ok (.if_icmp .ge 15, 3) := by decide +kernel
theorem dX7_copyAll_9 : decode cX7_copyAll 9 = .ok (.aload_n 1, 1) := by decide +kernel
theorem dX7_copyAll_10 : decode cX7_copyAll 10 = .ok (.iload_n 2, 1) := by decide +kernel
theorem dX7_copyAll_11 : decode cX7_copyAll 11 = .ok (.aload_n 0, 1) := by decide +kernel
theorem dX7_copyAll_12 : decode cX7_copyAll 12 = .ok (.iload_n 2, 1) := by decide +kernel
theorem dX7_copyAll_13 : decode cX7_copyAll 13 = .ok (.iaload, 1) := by decide +kernel
theorem dX7_copyAll_14 : decode cX7_copyAll 14 = .ok (.iastore, 1) := by decide +kernel
theorem dX7_copyAll_15 : decode cX7_copyAll 15 = .ok (.iinc 2 1, 3) := by decide +kernel
theorem dX7_copyAll_18 : decode cX7_copyAll 18 = .ok (.goto (-16), 3) := by decide +kernel
theorem dX7_copyAll_21 : decode cX7_copyAll 21 = .ok (.return_, 1) := by decide +kernel
theorem dX7_isHouse_0 : decode cX7_isHouse 0 = .ok (.iload_n 1, 1) := by decide +kernel
theorem dX7_isHouse_1 : decode cX7_isHouse 1 = .ok (.iconst 0, 1) := by decide +kernel
theorem dX7_isHouse_2 : decode cX7_isHouse 2 = .ok (.aload_n 0, 1) := by decide +kernel
theorem dX7_isHouse_3 : decode cX7_isHouse 3 = .ok (.getfield 7, 3) := by decide +kernel
theorem dX7_isHouse_6 : decode cX7_isHouse 6 = .ok (.iconst 5, 1) := by decide +kernel
theorem dX7_isHouse_7 : decode cX7_isHouse 7 = .ok (.iaload, 1) := by decide +kernel
theorem dX7_isHouse_8 : decode cX7_isHouse 8 = .ok (.iconst 1, 1) := by decide +kernel
theorem dX7_isHouse_9 : decode cX7_isHouse 9 = .ok (.isub, 1) := by decide +kernel
theorem dX7_isHouse_10 : decode cX7_isHouse 10 = .ok (.invokestatic 50, 3) := by decide +kernel
theorem dX7_isHouse_13 : decode cX7_isHouse 13 = .ok (.ireturn, 1) := by decide +kernel
theorem dX7_isNumber_0 : decode cX7_isNumber 0 = .ok (.iload_n 0, 1) := by decide +kernel
theorem dX7_isNumber_1 : decode cX7_isNumber 1 = .ok (.iconst 1, 1) := by decide +kernel
theorem dX7_isNumber_2 : decode cX7_isNumber 2 = .ok (.sipush 999, 3) := by decide +kernel
theorem dX7_isNumber_5 : decode cX7_isNumber 5 = .ok (.invokestatic 50, 3) := by decide +kernel
theorem dX7_isNumber_8 : decode cX7_isNumber 8 = .ok (.ireturn, 1) := by decide +kernel
theorem dX7_its_0 : decode cX7_its 0 = .ok (.aload_n 0, 1) := by decide +kernel
theorem dX7_its_1 : decode cX7_its 1 = .ok (.getfield 7, 3) := by decide +kernel
theorem dX7_its_4 : decode cX7_its 4 = .ok (.bipush 8, 2) := by decide +kernel
theorem dX7_its_6 : decode cX7_its 6 = .ok (.iconst 4, 1) := by decide +kernel
theorem dX7_its_7 : decode cX7_its 7 = .ok (.iload_n 1, 1) := by decide +kernel
theorem dX7_its_8 : decode cX7_its 8 = .ok (.imul, 1) := by decide +kernel
theorem dX7_its_9 : decode cX7_its 9 = .ok (.iadd, 1) := by decide +kernel
theorem dX7_its_10 : decode cX7_its 10 = .ok (.iload_n 2, 1) := by decide +kernel
theorem dX7_its_11 : decode cX7_its 11 = .ok (.iadd, 1) := by decide +kernel
theorem dX7_its_12 : decode cX7_its 12 = .ok (.iaload, 1) := by decide +kernel
theorem dX7_its_13 : decode cX7_its 13 = .ok (.ireturn, 1) := by decide +kernel
theorem dX7_lays1_0 : decode cX7_lays1 0 = .ok (.aload_n 0, 1) := by decide +kernel
theorem dX7_lays1_1 : decode cX7_lays1 1 = .ok (.getfield 7, 3) := by decide +kernel
theorem dX7_lays1_4 : decode cX7_lays1 4 = .ok (.bipush 8, 2) := by decide +kernel
theorem dX7_lays1_6 : decode cX7_lays1 6 = .ok (.iconst 4, 1) := by decide +kernel
theorem dX7_lays1_7 : decode cX7_lays1 7 = .ok (.iload_n 1, 1) := by decide +kernel
theorem dX7_lays1_8 : decode cX7_lays1 8 = .ok (.imul, 1) := by decide +kernel
theorem dX7_lays1_9 : decode cX7_lays1 9 = .ok (.iadd, 1) := by decide +kernel
theorem dX7_lays1_10 : decode cX7_lays1 10 = .ok (.iload_n 2, 1) := by decide +kernel
theorem dX7_lays1_11 : decode cX7_lays1 11 = .ok (.iadd, 1) := by decide +kernel
theorem dX7_lays1_12 : decode cX7_lays1 12 = .ok (.iload_n 3, 1) := by decide +kernel
theorem dX7_lays1_13 : decode cX7_lays1 13 = .ok (.iastore, 1) := by decide +kernel
theorem dX7_lays1_14 : decode cX7_lays1 14 = .ok (.return_, 1) := by decide +kernel
theorem dX7_change1_0 : decode cX7_change1 0 = .ok (.aload_n 0, 1) := by decide +kernel
theorem dX7_change1_1 : decode cX7_change1 1 = .ok (.getfield 7, 3) := by decide +kernel
theorem dX7_change1_4 : decode cX7_change1 4 = .ok (.iload_n 1, 1) := by decide +kernel
theorem dX7_change1_5 : decode cX7_change1 5 = .ok (.iaload, 1) := by decide +kernel
theorem dX7_change1_6 : decode cX7_change1 6 = .ok (.istore_n 3, 1) := by decide +kernel
theorem dX7_change1_7 : decode cX7_change1 7 = .ok (.aload_n 0, 1) := by decide +kernel
theorem dX7_change1_8 : decode cX7_change1 8 = .ok (.getfield 7, 3) := by decide +kernel
theorem dX7_change1_11 : decode cX7_change1 11 = .ok (.iload_n 1, 1) := by decide +kernel
theorem dX7_change1_12 : decode cX7_change1 12 = .ok (.iload_n 2, 1) := by decide +kernel
theorem dX7_change1_13 : decode cX7_change1 13 = .ok (.iastore, 1) := by decide +kernel
theorem dX7_change1_14 : decode cX7_change1 14 = .ok (.iload_n 3, 1) := by decide +kernel
theorem dX7_change1_15 : decode cX7_change1 15 = .ok (.ireturn, 1) := by decide +kernel
theorem dX7_at1_0 : decode cX7_at1 0 = .ok (.iconst 0, 1) := by decide +kernel
theorem dX7_at1_1 : decode cX7_at1 1 = .ok (.istore_n 2, 1) := by decide +kernel
theorem dX7_at1_2 : decode cX7_at1 2 = .ok (.aload_n 0, 1) := by decide +kernel
theorem dX7_at1_3 : decode cX7_at1 3 = .ok (.iload_n 2, 1) := by decide +kernel
theorem dX7_at1_4 : decode cX7_at1 4 = .ok (.iconst 3, 1) := by decide +kernel
theorem dX7_at1_5 : decode cX7_at1 5 = .ok (.invokevirtual 54, 3) := by decide +kernel
theorem dX7_at1_8 : decode cX7_at1 8 = .ok (.iload_n 1, 1) := by decide +kernel
theorem dX7_at1_9 : decode cX7_at1 9 = .ok (.if_icmp .eq 9, 3) := by decide +kernel
theorem dX7_at1_12 : decode cX7_at1 12 = .ok (.iinc 2 1, 3) := by decide +kernel
theorem dX7_at1_15 : decode cX7_at1 15 = .ok (.goto (-13), 3) := by decide +kernel
theorem dX7_at1_18 : decode cX7_at1 18 = .ok (.iload_n 2, 1) := by decide +kernel
theorem dX7_at1_19 : decode cX7_at1 19 = .ok (.ireturn, 1) := by decide +kernel
theorem dX7_feed_0 : decode cX7_feed 0 = .ok (.iload_n 3, 1) := by decide +kernel
theorem dX7_feed_1 : decode cX7_feed 1 = .ok (.iconst 1, 1) := by decide +kernel
theorem dX7_feed_2 : decode cX7_feed 2 = .ok (.bipush 8, 2) := by decide +kernel
theorem dX7_feed_4 : decode cX7_feed 4 = .ok (.invokestatic 50, 3) := by decide +kernel
theorem dX7_feed_7 : decode cX7_feed 7 = .ok (.ifCond .ne 9, 3) := by decide +kernel
theorem dX7_feed_10 : decode cX7_feed 10 = .ok (.aload_n 0, 1) := by decide +kernel
theorem dX7_feed_11 : decode cX7_feed 11 = .ok (.iconst 1, 1) := by decide +kernel
theorem dX7_feed_12 : decode cX7_feed 12 = .ok (.invokevirtual 58, 3) := by decide +kernel
theorem dX7_feed_15 : decode cX7_feed 15 = .ok (.ireturn, 1) := by decide +kernel
theorem dX7_feed_16 : decode cX7_feed 16 = .ok (.aload_n 0, 1) := by decide +kernel
theorem dX7_feed_17 : decode cX7_feed 17 = .ok (.getfield 7, 3) := by decide +kernel
theorem dX7_feed_20 : decode cX7_feed 20 = .ok (.iconst 3, 1) := by decide +kernel
theorem dX7_feed_21 : decode cX7_feed 21 = .ok (.iaload, 1) := by decide +kernel
theorem dX7_feed_22 : decode cX7_feed 22 = .ok (.iload_n 3, 1) := by decide +kernel
theorem dX7_feed_23 : decode cX7_feed 23 = .ok (.iadd, 1) := by decide +kernel
theorem dX7_feed_24 : decode cX7_feed 24 = .ok (.bipush 60, 2) := by decide +kernel
theorem dX7_feed_26 : decode cX7_feed 26 = .ok (.if_icmp .le 9, 3) := by decide +kernel
theorem dX7_feed_29 : decode cX7_feed 29 = .ok (.aload_n 0, 1) := by decide +kernel
theorem dX7_feed_30 : decode cX7_feed 30 = .ok (.iconst 4, 1) := by decide +kernel
theorem dX7_feed_31 : decode cX7_feed 31 = .ok (.invokevirtual 58, 3) := by decide +kernel
theorem dX7_feed_34 : decode cX7_feed 34 = .ok (.ireturn, 1) := by decide +kernel
theorem dX7_feed_35 : decode cX7_feed 35 = .ok (.iconst 0, 1) := by decide +kernel
theorem dX7_feed_36 : decode cX7_feed 36 = .ok (.istore 4, 2) := by decide +kernel
theorem dX7_feed_38 : decode cX7_feed 38 = .ok (.iload 4, 2) := by decide +kernel
theorem dX7_feed_40 : decode cX7_feed 40 = .ok (.iload_n 3, 1) := by decide +kernel
theorem dX7_feed_41 : decode cX7_feed 41 = .ok (.if_icmp .ge 46, 3) := by decide +kernel
theorem dX7_feed_44 : decode cX7_feed 44 = .ok (.aload_n 0, 1) := by decide +kernel
theorem dX7_feed_45 : decode cX7_feed 45 = .ok (.getfield 7, 3) := by decide +kernel
theorem dX7_feed_48 : decode cX7_feed 48 = .ok (.sipush 298, 3) := by decide +kernel
theorem dX7_feed_51 : decode cX7_feed 51 = .ok (.aload_n 0, 1) := by decide +kernel
theorem dX7_feed_52 : decode cX7_feed 52 = .ok (.getfield 7, 3) := by decide +kernel
theorem dX7_feed_55 : decode cX7_feed 55 = .ok (.iconst 3, 1) := by decide +kernel
theorem dX7_feed_56 : decode cX7_feed 56 = .ok (.iaload, 1) := by decide +kernel
theorem dX7_feed_57 : decode cX7_feed 57 = .ok (.iadd, 1) := by decide +kernel
theorem dX7_feed_58 : decode cX7_feed 58 = .ok (.lload_n 1, 1) := by decide +kernel
theorem dX7_feed_59 : decode cX7_feed 59 = .ok (.bipush 8, 2) := by decide +kernel
theorem dX7_feed_61 : decode cX7_feed 61 = .ok (.iload 4, 2) := by decide +kernel
theorem dX7_feed_63 : decode cX7_feed 63 = .ok (.imul, 1) := by decide +kernel
theorem dX7_feed_64 : decode cX7_feed 64 = .ok (.lshr, 1) := by decide +kernel
theorem dX7_feed_65 : decode cX7_feed 65 = .ok (.ldc2_w 62, 3) := by decide +kernel
theorem dX7_feed_68 : decode cX7_feed 68 = .ok (.land, 1) := by decide +kernel
theorem dX7_feed_69 : decode cX7_feed 69 = .ok (.l2i, 1) := by decide +kernel
theorem dX7_feed_70 : decode cX7_feed 70 = .ok (.iastore, 1) := by decide +kernel
theorem dX7_feed_71 : decode cX7_feed 71 = .ok (.aload_n 0, 1) := by decide +kernel
theorem dX7_feed_72 : decode cX7_feed 72 = .ok (.getfield 7, 3) := by decide +kernel
theorem dX7_feed_75 : decode cX7_feed 75 = .ok (.iconst 3, 1) := by decide +kernel
theorem dX7_feed_76 : decode cX7_feed 76 = .ok (.dup2, 1) := by decide +kernel
theorem dX7_feed_77 : decode cX7_feed 77 = .ok (.iaload, 1) := by decide +kernel
theorem dX7_feed_78 : decode cX7_feed 78 = .ok (.iconst 1, 1) := by decide +kernel
theorem dX7_feed_79 : decode cX7_feed 79 = .ok (.iadd, 1) := by decide +kernel
theorem dX7_feed_80 : decode cX7_feed 80 = .ok (.iastore, 1) := by decide +kernel
theorem dX7_feed_81 : decode cX7_feed 81 = .ok (.iinc 4 1, 3) := by decide +kernel
theorem dX7_feed_84 : decode cX7_feed 84 = .ok (.goto (-46), 3) := by decide +kernel
theorem dX7_feed_87 : decode cX7_feed 87 = .ok (.aload_n 0, 1) := by decide +kernel
theorem dX7_feed_88 : decode cX7_feed 88 = .ok (.getfield 7, 3) := by decide +kernel
theorem dX7_feed_91 : decode cX7_feed 91 = .ok (.iconst 3, 1) := by decide +kernel
theorem dX7_feed_92 : decode cX7_feed 92 = .ok (.iaload, 1) := by decide +kernel
theorem dX7_feed_93 : decode cX7_feed 93 = .ok (.ireturn, 1) := by decide +kernel
theorem dX7_look_0 : decode cX7_look 0 = .ok (.aload_n 0, 1) := by decide +kernel
theorem dX7_look_1 : decode cX7_look 1 = .ok (.getfield 64, 3) := by decide +kernel
theorem dX7_look_4 : decode cX7_look 4 = .ok (.aload_n 0, 1) := by decide +kernel
theorem dX7_look_5 : decode cX7_look 5 = .ok (.getfield 7, 3) := by decide +kernel
theorem dX7_look_8 : decode cX7_look 8 = .ok (.iconst 3, 1) := by decide +kernel
theorem dX7_look_9 : decode cX7_look 9 = .ok (.iaload, 1) := by decide +kernel
theorem dX7_look_10 : decode cX7_look 10 = .ok (.if_icmp .ge 19, 3) := by decide +kernel
theorem dX7_look_13 : decode cX7_look 13 = .ok (.aload_n 0, 1) := by decide +kernel
theorem dX7_look_14 : decode cX7_look 14 = .ok (.getfield 7, 3) := by decide +kernel
theorem dX7_look_17 : decode cX7_look 17 = .ok (.sipush 298, 3) := by decide +kernel
theorem dX7_look_20 : decode cX7_look 20 = .ok (.aload_n 0, 1) := by decide +kernel
theorem dX7_look_21 : decode cX7_look 21 = .ok (.getfield 64, 3) := by decide +kernel
theorem dX7_look_24 : decode cX7_look 24 = .ok (.iadd, 1) := by decide +kernel
theorem dX7_look_25 : decode cX7_look 25 = .ok (.iaload, 1) := by decide +kernel
theorem dX7_look_26 : decode cX7_look 26 = .ok (.goto 4, 3) := by decide +kernel
theorem dX7_look_29 : decode cX7_look 29 = .ok (.iconst (-1), 1) := by decide +kernel
theorem dX7_look_30 : decode cX7_look 30 = .ok (.ireturn, 1) := by decide +kernel
theorem dX7_isName_0 : decode cX7_isName 0 = .ok (.iload_n 1, 1) := by decide +kernel
theorem dX7_isName_1 : decode cX7_isName 1 = .ok (.bipush 121, 2) := by decide +kernel
theorem dX7_isName_3 : decode cX7_isName 3 = .ok (.if_icmp .ne 5, 3) := by decide +kernel
theorem dX7_isName_6 : decode cX7_isName 6 = .ok (.iconst 1, 1) := by decide +kernel
theorem dX7_isName_7 : decode cX7_isName 7 = .ok (.ireturn, 1) := by decide +kernel
theorem dX7_isName_8 : decode cX7_isName 8 = .ok (.aload_n 0, 1) := by decide +kernel
theorem dX7_isName_9 : decode cX7_isName 9 = .ok (.getfield 68, 3) := by decide +kernel
theorem dX7_isName_12 : decode cX7_isName 12 = .ok (.ifCond .ne 23, 3) := by decide +kernel
theorem dX7_isName_15 : decode cX7_isName 15 = .ok (.iload_n 1, 1) := by decide +kernel
theorem dX7_isName_16 : decode cX7_isName 16 = .ok (.bipush 104, 2) := by decide +kernel
theorem dX7_isName_18 : decode cX7_isName 18 = .ok (.if_icmp .eq 9, 3) := by decide +kernel
theorem dX7_isName_21 : decode cX7_isName 21 = .ok (.iload_n 1, 1) := by decide +kernel
theorem dX7_isName_22 : decode cX7_isName 22 = .ok (.bipush 111, 2) := by decide +kernel
theorem dX7_isName_24 : decode cX7_isName 24 = .ok (.if_icmp .ne 7, 3) := by decide +kernel
theorem dX7_isName_27 : decode cX7_isName 27 = .ok (.iconst 1, 1) := by decide +kernel
theorem dX7_isName_28 : decode cX7_isName 28 = .ok (.goto 24, 3) := by decide +kernel
theorem dX7_isName_31 : decode cX7_isName 31 = .ok (.iconst 0, 1) := by decide +kernel
theorem dX7_isName_32 : decode cX7_isName 32 = .ok (.goto 20, 3) := by decide +kernel
theorem dX7_isName_35 : decode cX7_isName 35 = .ok (.iload_n 1, 1) := by decide +kernel
theorem dX7_isName_36 : decode cX7_isName 36 = .ok (.bipush 98, 2) := by decide +kernel
theorem dX7_isName_38 : decode cX7_isName 38 = .ok (.if_icmp .eq 9, 3) := by decide +kernel
theorem dX7_isName_41 : decode cX7_isName 41 = .ok (.iload_n 1, 1) := by decide +kernel
theorem dX7_isName_42 : decode cX7_isName 42 = .ok (.bipush 115, 2) := by decide +kernel
theorem dX7_isName_44 : decode cX7_isName 44 = .ok (.if_icmp .ne 7, 3) := by decide +kernel
theorem dX7_isName_47 : decode cX7_isName 47 = .ok (.iconst 1, 1) := by decide +kernel
theorem dX7_isName_48 : decode cX7_isName 48 = .ok (.goto 4, 3) := by decide +kernel
theorem dX7_isName_51 : decode cX7_isName 51 = .ok (.iconst 0, 1) := by decide +kernel
theorem dX7_isName_52 : decode cX7_isName 52 = .ok (.ireturn, 1) := by decide +kernel
theorem dX7_step1_0 : decode cX7_step1 0 = .ok (.aload_n 0, 1) := by decide +kernel
theorem dX7_step1_1 : decode cX7_step1 1 = .ok (.getfield 19, 3) := by decide +kernel
theorem dX7_step1_4 : decode cX7_step1 4 = .ok (.iconst 2, 1) := by decide +kernel
theorem dX7_step1_5 : decode cX7_step1 5 = .ok (.aload_n 0, 1) := by decide +kernel
theorem dX7_step1_6 : decode cX7_step1 6 = .ok (.getfield 71, 3) := by decide +kernel
theorem dX7_step1_9 : decode cX7_step1 9 = .ok (.imul, 1) := by decide +kernel
theorem dX7_step1_10 : decode cX7_step1 10 = .ok (.iload_n 1, 1) := by decide +kernel
theorem dX7_step1_11 : decode cX7_step1 11 = .ok (.iastore, 1) := by decide +kernel
theorem dX7_step1_12 : decode cX7_step1 12 = .ok (.aload_n 0, 1) := by decide +kernel
theorem dX7_step1_13 : decode cX7_step1 13 = .ok (.getfield 19, 3) := by decide +kernel
theorem dX7_step1_16 : decode cX7_step1 16 = .ok (.iconst 2, 1) := by decide +kernel
theorem dX7_step1_17 : decode cX7_step1 17 = .ok (.aload_n 0, 1) := by decide +kernel
theorem dX7_step1_18 : decode cX7_step1 18 = .ok (.getfield 71, 3) := by decide +kernel
theorem dX7_step1_21 : decode cX7_step1 21 = .ok (.imul, 1) := by decide +kernel
theorem dX7_step1_22 : decode cX7_step1 22 = .ok (.iconst 1, 1) := by decide +kernel
theorem dX7_step1_23 : decode cX7_step1 23 = .ok (.iadd, 1) := by decide +kernel
theorem dX7_step1_24 : decode cX7_step1 24 = .ok (.iload_n 2, 1) := by decide +kernel
theorem dX7_step1_25 : decode cX7_step1 25 = .ok (.iastore, 1) := by decide +kernel
theorem dX7_step1_26 : decode cX7_step1 26 = .ok (.aload_n 0, 1) := by decide +kernel
theorem dX7_step1_27 : decode cX7_step1 27 = .ok (.dup, 1) := by decide +kernel
theorem dX7_step1_28 : decode cX7_step1 28 = .ok (.getfield 71, 3) := by decide +kernel
theorem dX7_step1_31 : decode cX7_step1 31 = .ok (.iconst 1, 1) := by decide +kernel
theorem dX7_step1_32 : decode cX7_step1 32 = .ok (.iadd, 1) := by decide +kernel
theorem dX7_step1_33 : decode cX7_step1 33 = .ok (.putfield 71, 3) := by decide +kernel
theorem dX7_step1_36 : decode cX7_step1 36 = .ok (.return_, 1) := by decide +kernel
theorem dX7_whole_0 : decode cX7_whole 0 = .ok (.aload_n 0, 1) := by decide +kernel
theorem dX7_whole_1 : decode cX7_whole 1 = .ok (.invokevirtual 74, 3) := by decide +kernel
theorem dX7_whole_4 : decode cX7_whole 4 = .ok (.ifCond .ne 5, 3) := by decide +kernel
theorem dX7_whole_7 : decode cX7_whole 7 = .ok (.iconst 0, 1) := by decide +kernel
theorem dX7_whole_8 : decode cX7_whole 8 = .ok (.ireturn, 1) := by decide +kernel
theorem dX7_whole_9 : decode cX7_whole 9 = .ok (.aload_n 0, 1) := by decide +kernel
theorem dX7_whole_10 : decode cX7_whole 10 = .ok (.invokevirtual 78, 3) := by decide +kernel
theorem dX7_whole_13 : decode cX7_whole 13 = .ok (.bipush 124, 2) := by decide +kernel
theorem dX7_whole_15 : decode cX7_whole 15 = .ok (.if_icmp .ne 32, 3) := by decide +kernel
theorem dX7_whole_18 : decode cX7_whole 18 = .ok (.aload_n 0, 1) := by decide +kernel
theorem dX7_whole_19 : decode cX7_whole 19 = .ok (.dup, 1) := by decide +kernel
theorem dX7_whole_20 : decode cX7_whole 20 = .ok (.getfield 64, 3) := by decide +kernel
theorem dX7_whole_23 : decode cX7_whole 23 = .ok (.iconst 1, 1) := by decide +kernel
theorem dX7_whole_24 : decode cX7_whole 24 = .ok (.iadd, 1) := by decide +kernel
theorem dX7_whole_25 : decode cX7_whole 25 = .ok (.putfield 64, 3) := by decide +kernel
theorem dX7_whole_28 : decode cX7_whole 28 = .ok (.aload_n 0, 1) := by decide +kernel
theorem dX7_whole_29 : decode cX7_whole 29 = .ok (.invokevirtual 74, 3) := by decide +kernel
theorem dX7_whole_32 : decode cX7_whole 32 = .ok (.ifCond .ne 5, 3) := by decide +kernel
theorem dX7_whole_35 : decode cX7_whole 35 = .ok (.iconst 0, 1) := by decide +kernel
theorem dX7_whole_36 : decode cX7_whole 36 = .ok (.ireturn, 1) := by decide +kernel
theorem dX7_whole_37 : decode cX7_whole 37 = .ok (.aload_n 0, 1) := by decide +kernel
theorem dX7_whole_38 : decode cX7_whole 38 = .ok (.iconst 3, 1) := by decide +kernel
theorem dX7_whole_39 : decode cX7_whole 39 = .ok (.bipush 124, 2) := by decide +kernel
theorem dX7_whole_41 : decode cX7_whole 41 = .ok (.invokevirtual 82, 3) := by decide +kernel
theorem dX7_whole_44 : decode cX7_whole 44 = .ok (.goto (-35), 3) := by decide +kernel
theorem dX7_whole_47 : decode cX7_whole 47 = .ok (.iconst 1, 1) := by decide +kernel
theorem dX7_whole_48 : decode cX7_whole 48 = .ok (.ireturn, 1) := by decide +kernel
theorem dX7_both_0 : decode cX7_both 0 = .ok (.aload_n 0, 1) := by decide +kernel
theorem dX7_both_1 : decode cX7_both 1 = .ok (.invokevirtual 86, 3) := by decide +kernel
theorem dX7_both_4 : decode cX7_both 4 = .ok (.ifCond .ne 5, 3) := by decide +kernel
theorem dX7_both_7 : decode cX7_both 7 = .ok (.iconst 0, 1) := by decide +kernel
theorem dX7_both_8 : decode cX7_both 8 = .ok (.ireturn, 1) := by decide +kernel
theorem dX7_both_9 : decode cX7_both 9 = .ok (.aload_n 0, 1) := by decide +kernel
theorem dX7_both_10 : decode cX7_both 10 = .ok (.invokevirtual 78, 3) := by decide +kernel
theorem dX7_both_13 : decode cX7_both 13 = .ok (.bipush 38, 2) := by decide +kernel
theorem dX7_both_15 : decode cX7_both 15 = .ok (.if_icmp .ne 32, 3) := by decide +kernel
theorem dX7_both_18 : decode cX7_both 18 = .ok (.aload_n 0, 1) := by decide +kernel
theorem dX7_both_19 : decode cX7_both 19 = .ok (.dup, 1) := by decide +kernel
theorem dX7_both_20 : decode cX7_both 20 = .ok (.getfield 64, 3) := by decide +kernel
theorem dX7_both_23 : decode cX7_both 23 = .ok (.iconst 1, 1) := by decide +kernel
theorem dX7_both_24 : decode cX7_both 24 = .ok (.iadd, 1) := by decide +kernel
theorem dX7_both_25 : decode cX7_both 25 = .ok (.putfield 64, 3) := by decide +kernel
theorem dX7_both_28 : decode cX7_both 28 = .ok (.aload_n 0, 1) := by decide +kernel
theorem dX7_both_29 : decode cX7_both 29 = .ok (.invokevirtual 86, 3) := by decide +kernel
theorem dX7_both_32 : decode cX7_both 32 = .ok (.ifCond .ne 5, 3) := by decide +kernel
theorem dX7_both_35 : decode cX7_both 35 = .ok (.iconst 0, 1) := by decide +kernel
theorem dX7_both_36 : decode cX7_both 36 = .ok (.ireturn, 1) := by decide +kernel
theorem dX7_both_37 : decode cX7_both 37 = .ok (.aload_n 0, 1) := by decide +kernel
theorem dX7_both_38 : decode cX7_both 38 = .ok (.iconst 3, 1) := by decide +kernel
theorem dX7_both_39 : decode cX7_both 39 = .ok (.bipush 38, 2) := by decide +kernel
theorem dX7_both_41 : decode cX7_both 41 = .ok (.invokevirtual 82, 3) := by decide +kernel
theorem dX7_both_44 : decode cX7_both 44 = .ok (.goto (-35), 3) := by decide +kernel
theorem dX7_both_47 : decode cX7_both 47 = .ok (.iconst 1, 1) := by decide +kernel
theorem dX7_both_48 : decode cX7_both 48 = .ok (.ireturn, 1) := by decide +kernel
theorem dX7_compared_0 : decode cX7_compared 0 = .ok (.aload_n 0, 1) := by decide +kernel
theorem dX7_compared_1 : decode cX7_compared 1 = .ok (.invokevirtual 89, 3) := by decide +kernel
theorem dX7_compared_4 : decode cX7_compared 4 = .ok (.ifCond .ne 5, 3) := by decide +kernel
theorem dX7_compared_7 : decode cX7_compared 7 = .ok (.iconst 0, 1) := by decide +kernel
theorem dX7_compared_8 : decode cX7_compared 8 = .ok (.ireturn, 1) := by decide +kernel
theorem dX7_compared_9 : decode cX7_compared 9 = .ok (.aload_n 0, 1) := by decide +kernel
theorem dX7_compared_10 : decode cX7_compared 10 = .ok (.invokevirtual 78, 3) := by decide +kernel
theorem dX7_compared_13 : decode cX7_compared 13 = .ok (.istore_n 1, 1) := by decide +kernel
theorem dX7_compared_14 : decode cX7_compared 14 = .ok (.iload_n 1, 1) := by decide +kernel
theorem dX7_compared_15 : decode cX7_compared 15 = .ok (.bipush 60, 2) := by decide +kernel
theorem dX7_compared_17 : decode cX7_compared 17 = .ok (.if_icmp .eq 17, 3) := by decide +kernel
theorem dX7_compared_20 : decode cX7_compared 20 = .ok (.iload_n 1, 1) := by decide +kernel
theorem dX7_compared_21 : decode cX7_compared 21 = .ok (.bipush 61, 2) := by decide +kernel
theorem dX7_compared_23 : decode cX7_compared 23 = .ok (.if_icmp .eq 11, 3) := by decide +kernel
theorem dX7_compared_26 : decode cX7_compared 26 = .ok (.iload_n 1, 1) := by decide +kernel
theorem dX7_compared_27 : decode cX7_compared 27 = .ok (.bipush 62, 2) := by decide +kernel
theorem dX7_compared_29 : decode cX7_compared 29 = .ok (.if_icmp .eq 5, 3) := by decide +kernel
theorem dX7_compared_32 : decode cX7_compared 32 = .ok (.iconst 1, 1) := by decide +kernel
theorem dX7_compared_33 : decode cX7_compared 33 = .ok (.ireturn, 1) := by decide +kernel
theorem dX7_compared_34 : decode cX7_compared 34 = .ok (.aload_n 0, 1) := by decide +kernel
theorem dX7_compared_35 : decode cX7_compared 35 = .ok (.dup, 1) := by decide +kernel
theorem dX7_compared_36 : decode cX7_compared 36 = .ok (.getfield 64, 3) := by decide +kernel
theorem dX7_compared_39 : decode cX7_compared 39 = .ok (.iconst 1, 1) := by decide +kernel
theorem dX7_compared_40 : decode cX7_compared 40 = .ok (.iadd, 1) := by decide +kernel
theorem dX7_compared_41 : decode cX7_compared 41 = .ok (.putfield 64, 3) := by decide +kernel
theorem dX7_compared_44 : decode cX7_compared 44 = .ok (.aload_n 0, 1) := by decide +kernel
theorem dX7_compared_45 : decode cX7_compared 45 = .ok (.invokevirtual 89, 3) := by decide +kernel
theorem dX7_compared_48 : decode cX7_compared 48 = .ok (.ifCond .ne 5, 3) := by decide +kernel
theorem dX7_compared_51 : decode cX7_compared 51 = .ok (.iconst 0, 1) := by decide +kernel
theorem dX7_compared_52 : decode cX7_compared 52 = .ok (.ireturn, 1) := by decide +kernel
theorem dX7_compared_53 : decode cX7_compared 53 = .ok (.aload_n 0, 1) := by decide +kernel
theorem dX7_compared_54 : decode cX7_compared 54 = .ok (.iconst 3, 1) := by decide +kernel
theorem dX7_compared_55 : decode cX7_compared 55 = .ok (.iload_n 1, 1) := by decide +kernel
theorem dX7_compared_56 : decode cX7_compared 56 = .ok (.invokevirtual 82, 3) := by decide +kernel
theorem dX7_compared_59 : decode cX7_compared 59 = .ok (.iconst 1, 1) := by decide +kernel
theorem dX7_compared_60 : decode cX7_compared 60 = .ok (.ireturn, 1) := by decide +kernel
theorem dX7_sum_0 : decode cX7_sum 0 = .ok (.aload_n 0, 1) := by decide +kernel
theorem dX7_sum_1 : decode cX7_sum 1 = .ok (.invokevirtual 92, 3) := by decide +kernel
theorem dX7_sum_4 : decode cX7_sum 4 = .ok (.ifCond .ne 5, 3) := by decide +kernel
theorem dX7_sum_7 : decode cX7_sum 7 = .ok (.iconst 0, 1) := by decide +kernel
theorem dX7_sum_8 : decode cX7_sum 8 = .ok (.ireturn, 1) := by decide +kernel
theorem dX7_sum_9 : decode cX7_sum 9 = .ok (.aload_n 0, 1) := by decide +kernel
theorem dX7_sum_10 : decode cX7_sum 10 = .ok (.invokevirtual 78, 3) := by decide +kernel
theorem dX7_sum_13 : decode cX7_sum 13 = .ok (.bipush 43, 2) := by decide +kernel
theorem dX7_sum_15 : decode cX7_sum 15 = .ok (.if_icmp .eq 12, 3) := by decide +kernel
theorem dX7_sum_18 : decode cX7_sum 18 = .ok (.aload_n 0, 1) := by decide +kernel
theorem dX7_sum_19 : decode cX7_sum 19 = .ok (.invokevirtual 78, 3) := by decide +kernel
theorem dX7_sum_22 : decode cX7_sum 22 = .ok (.bipush 45, 2) := by decide +kernel
theorem dX7_sum_24 : decode cX7_sum 24 = .ok (.if_icmp .ne 36, 3) := by decide +kernel
theorem dX7_sum_27 : decode cX7_sum 27 = .ok (.aload_n 0, 1) := by decide +kernel
theorem dX7_sum_28 : decode cX7_sum 28 = .ok (.invokevirtual 78, 3) := by decide +kernel
theorem dX7_sum_31 : decode cX7_sum 31 = .ok (.istore_n 1, 1) := by decide +kernel
theorem dX7_sum_32 : decode cX7_sum 32 = .ok (.aload_n 0, 1) := by decide +kernel
theorem dX7_sum_33 : decode cX7_sum 33 = .ok (.dup, 1) := by decide +kernel
theorem dX7_sum_34 : decode cX7_sum 34 = .ok (.getfield 64, 3) := by decide +kernel
theorem dX7_sum_37 : decode cX7_sum 37 = .ok (.iconst 1, 1) := by decide +kernel
theorem dX7_sum_38 : decode cX7_sum 38 = .ok (.iadd, 1) := by decide +kernel
theorem dX7_sum_39 : decode cX7_sum 39 = .ok (.putfield 64, 3) := by decide +kernel
theorem dX7_sum_42 : decode cX7_sum 42 = .ok (.aload_n 0, 1) := by decide +kernel
theorem dX7_sum_43 : decode cX7_sum 43 = .ok (.invokevirtual 92, 3) := by decide +kernel
theorem dX7_sum_46 : decode cX7_sum 46 = .ok (.ifCond .ne 5, 3) := by decide +kernel
theorem dX7_sum_49 : decode cX7_sum 49 = .ok (.iconst 0, 1) := by decide +kernel
theorem dX7_sum_50 : decode cX7_sum 50 = .ok (.ireturn, 1) := by decide +kernel
theorem dX7_sum_51 : decode cX7_sum 51 = .ok (.aload_n 0, 1) := by decide +kernel
theorem dX7_sum_52 : decode cX7_sum 52 = .ok (.iconst 3, 1) := by decide +kernel
theorem dX7_sum_53 : decode cX7_sum 53 = .ok (.iload_n 1, 1) := by decide +kernel
theorem dX7_sum_54 : decode cX7_sum 54 = .ok (.invokevirtual 82, 3) := by decide +kernel
theorem dX7_sum_57 : decode cX7_sum 57 = .ok (.goto (-48), 3) := by decide +kernel
theorem dX7_sum_60 : decode cX7_sum 60 = .ok (.iconst 1, 1) := by decide +kernel
theorem dX7_sum_61 : decode cX7_sum 61 = .ok (.ireturn, 1) := by decide +kernel
theorem dX7_product_0 : decode cX7_product 0 = .ok (.aload_n 0, 1) := by decide +kernel
theorem dX7_product_1 : decode cX7_product 1 = .ok (.invokevirtual 95, 3) := by decide +kernel
theorem dX7_product_4 : decode cX7_product 4 = .ok (.ifCond .ne 5, 3) := by decide +kernel
theorem dX7_product_7 : decode cX7_product 7 = .ok (.iconst 0, 1) := by decide +kernel
theorem dX7_product_8 : decode cX7_product 8 = .ok (.ireturn, 1) := by decide +kernel
theorem dX7_product_9 : decode cX7_product 9 = .ok (.aload_n 0, 1) := by decide +kernel
theorem dX7_product_10 : decode cX7_product 10 = .ok (.invokevirtual 78, 3) := by decide +kernel
theorem dX7_product_13 : decode cX7_product 13 = .ok (.bipush 42, 2) := by decide +kernel
theorem dX7_product_15 : decode cX7_product 15 = .ok (.if_icmp .eq 21, 3) := by decide +kernel
theorem dX7_product_18 : decode cX7_product 18 = .ok (.aload_n 0, 1) := by decide +kernel
theorem dX7_product_19 : decode cX7_product 19 = .ok (.invokevirtual 78, 3) := by decide +kernel
theorem dX7_product_22 : decode cX7_product 22 = .ok (.bipush 47, 2) := by decide +kernel
theorem dX7_product_24 : decode cX7_product 24 = .ok (.if_icmp .eq 12, 3) := by decide +kernel
theorem dX7_product_27 : decode cX7_product 27 = .ok (.aload_n 0, 1) := by decide +kernel
theorem dX7_product_28 : decode cX7_product 28 = .ok (.invokevirtual 78, 3) := by decide +kernel
theorem dX7_product_31 : decode cX7_product 31 = .ok (.bipush 37, 2) := by decide +kernel
theorem dX7_product_33 : decode cX7_product 33 = .ok (.if_icmp .ne 36, 3) := by decide +kernel
theorem dX7_product_36 : decode cX7_product 36 = .ok (.aload_n 0, 1) := by decide +kernel
theorem dX7_product_37 : decode cX7_product 37 = .ok (.invokevirtual 78, 3) := by decide +kernel
theorem dX7_product_40 : decode cX7_product 40 = .ok (.istore_n 1, 1) := by decide +kernel
theorem dX7_product_41 : decode cX7_product 41 = .ok (.aload_n 0, 1) := by decide +kernel
theorem dX7_product_42 : decode cX7_product 42 = .ok (.dup, 1) := by decide +kernel
theorem dX7_product_43 : decode cX7_product 43 = .ok (.getfield 64, 3) := by decide +kernel
theorem dX7_product_46 : decode cX7_product 46 = .ok (.iconst 1, 1) := by decide +kernel
theorem dX7_product_47 : decode cX7_product 47 = .ok (.iadd, 1) := by decide +kernel
theorem dX7_product_48 : decode cX7_product 48 = .ok (.putfield 64, 3) := by decide +kernel
theorem dX7_product_51 : decode cX7_product 51 = .ok (.aload_n 0, 1) := by decide +kernel
theorem dX7_product_52 : decode cX7_product 52 = .ok (.invokevirtual 95, 3) := by decide +kernel
theorem dX7_product_55 : decode cX7_product 55 = .ok (.ifCond .ne 5, 3) := by decide +kernel
theorem dX7_product_58 : decode cX7_product 58 = .ok (.iconst 0, 1) := by decide +kernel
theorem dX7_product_59 : decode cX7_product 59 = .ok (.ireturn, 1) := by decide +kernel
theorem dX7_product_60 : decode cX7_product 60 = .ok (.aload_n 0, 1) := by decide +kernel
theorem dX7_product_61 : decode cX7_product 61 = .ok (.iconst 3, 1) := by decide +kernel
theorem dX7_product_62 : decode cX7_product 62 = .ok (.iload_n 1, 1) := by decide +kernel
theorem dX7_product_63 : decode cX7_product 63 = .ok (.invokevirtual 82, 3) := by decide +kernel
theorem dX7_product_66 : decode cX7_product 66 = .ok (.goto (-57), 3) := by decide +kernel
theorem dX7_product_69 : decode cX7_product 69 = .ok (.iconst 1, 1) := by decide +kernel
theorem dX7_product_70 : decode cX7_product 70 = .ok (.ireturn, 1) := by decide +kernel
theorem dX7_opens_0 : decode cX7_opens 0 = .ok (.aload_n 0, 1) := by decide +kernel
theorem dX7_opens_1 : decode cX7_opens 1 = .ok (.getfield 98, 3) := by decide +kernel
theorem dX7_opens_4 : decode cX7_opens 4 = .ok (.iconst 5, 1) := by decide +kernel
theorem dX7_opens_5 : decode cX7_opens 5 = .ok (.if_icmp .ne 5, 3) := by decide +kernel
theorem dX7_opens_8 : decode cX7_opens 8 = .ok (.iconst 0, 1) := by decide +kernel
theorem dX7_opens_9 : decode cX7_opens 9 = .ok (.ireturn, 1) := by decide +kernel
theorem dX7_opens_10 : decode cX7_opens 10 = .ok (.aload_n 0, 1) := by decide +kernel
theorem dX7_opens_11 : decode cX7_opens 11 = .ok (.dup, 1) := by decide +kernel
theorem dX7_opens_12 : decode cX7_opens 12 = .ok (.getfield 98, 3) := by decide +kernel
theorem dX7_opens_15 : decode cX7_opens 15 = .ok (.iconst 1, 1) := by decide +kernel
theorem dX7_opens_16 : decode cX7_opens 16 = .ok (.iadd, 1) := by decide +kernel
theorem dX7_opens_17 : decode cX7_opens 17 = .ok (.putfield 98, 3) := by decide +kernel
theorem dX7_opens_20 : decode cX7_opens 20 = .ok (.aload_n 0, 1) := by decide +kernel
theorem dX7_opens_21 : decode cX7_opens 21 = .ok (.dup, 1) := by decide +kernel
theorem dX7_opens_22 : decode cX7_opens 22 = .ok (.getfield 64, 3) := by decide +kernel
theorem dX7_opens_25 : decode cX7_opens 25 = .ok (.iconst 1, 1) := by decide +kernel
theorem dX7_opens_26 : decode cX7_opens 26 = .ok (.iadd, 1) := by decide +kernel
theorem dX7_opens_27 : decode cX7_opens 27 = .ok (.putfield 64, 3) := by decide +kernel
theorem dX7_opens_30 : decode cX7_opens 30 = .ok (.iconst 1, 1) := by decide +kernel
theorem dX7_opens_31 : decode cX7_opens 31 = .ok (.ireturn, 1) := by decide +kernel
theorem dX7_one_0 : decode cX7_one 0 = .ok (.aload_n 0, 1) := by decide +kernel
theorem dX7_one_1 : decode cX7_one 1 = .ok (.invokevirtual 78, 3) := by decide +kernel
theorem dX7_one_4 : decode cX7_one 4 = .ok (.istore_n 1, 1) := by decide +kernel
theorem dX7_one_5 : decode cX7_one 5 = .ok (.aload_n 0, 1) := by decide +kernel
theorem dX7_one_6 : decode cX7_one 6 = .ok (.iload_n 1, 1) := by decide +kernel
theorem dX7_one_7 : decode cX7_one 7 = .ok (.invokevirtual 101, 3) := by decide +kernel
theorem dX7_one_10 : decode cX7_one 10 = .ok (.ifCond .eq 21, 3) := by decide +kernel
theorem dX7_one_13 : decode cX7_one 13 = .ok (.aload_n 0, 1) := by decide +kernel
theorem dX7_one_14 : decode cX7_one 14 = .ok (.dup, 1) := by decide +kernel
theorem dX7_one_15 : decode cX7_one 15 = .ok (.getfield 64, 3) := by decide +kernel
theorem dX7_one_18 : decode cX7_one 18 = .ok (.iconst 1, 1) := by decide +kernel
theorem dX7_one_19 : decode cX7_one 19 = .ok (.iadd, 1) := by decide +kernel
theorem dX7_one_20 : decode cX7_one 20 = .ok (.putfield 64, 3) := by decide +kernel
theorem dX7_one_23 : decode cX7_one 23 = .ok (.aload_n 0, 1) := by decide +kernel
theorem dX7_one_24 : decode cX7_one 24 = .ok (.iconst 1, 1) := by decide +kernel
theorem dX7_one_25 : decode cX7_one 25 = .ok (.iload_n 1, 1) := by decide +kernel
theorem dX7_one_26 : decode cX7_one 26 = .ok (.invokevirtual 82, 3) := by decide +kernel
theorem dX7_one_29 : decode cX7_one 29 = .ok (.iconst 1, 1) := by decide +kernel
theorem dX7_one_30 : decode cX7_one 30 = .ok (.ireturn, 1) := by decide +kernel
theorem dX7_one_31 : decode cX7_one 31 = .ok (.iload_n 1, 1) := by decide +kernel
theorem dX7_one_32 : decode cX7_one 32 = .ok (.bipush 48, 2) := by decide +kernel
theorem dX7_one_34 : decode cX7_one 34 = .ok (.bipush 57, 2) := by decide +kernel
theorem dX7_one_36 : decode cX7_one 36 = .ok (.invokestatic 50, 3) := by decide +kernel
theorem dX7_one_39 : decode cX7_one 39 = .ok (.ifCond .eq 63, 3) := by decide +kernel
theorem dX7_one_42 : decode cX7_one 42 = .ok (.iconst 0, 1) := by decide +kernel
theorem dX7_one_43 : decode cX7_one 43 = .ok (.istore_n 2, 1) := by decide +kernel
theorem dX7_one_44 : decode cX7_one 44 = .ok (.iconst 0, 1) := by decide +kernel
theorem dX7_one_45 : decode cX7_one 45 = .ok (.istore_n 3, 1) := by decide +kernel
theorem dX7_one_46 : decode cX7_one 46 = .ok (.iload_n 3, 1) := by decide +kernel
theorem dX7_one_47 : decode cX7_one 47 = .ok (.iconst 4, 1) := by decide +kernel
theorem dX7_one_48 : decode cX7_one 48 = .ok (.if_icmp .ge 46, 3) := by decide +kernel
theorem dX7_one_51 : decode cX7_one 51 = .ok (.aload_n 0, 1) := by decide +kernel
theorem dX7_one_52 : decode cX7_one 52 = .ok (.invokevirtual 78, 3) := by decide +kernel
theorem dX7_one_55 : decode cX7_one 55 = .ok (.bipush 48, 2) := by decide +kernel
theorem dX7_one_57 : decode cX7_one 57 = .ok (.bipush 57, 2) := by decide +kernel
theorem dX7_one_59 : decode cX7_one 59 = .ok (.invokestatic 50, 3) := by decide +kernel
theorem dX7_one_62 : decode cX7_one 62 = .ok (.ifCond .eq 32, 3) := by decide +kernel
theorem dX7_one_65 : decode cX7_one 65 = .ok (.bipush 10, 2) := by decide +kernel
theorem dX7_one_67 : decode cX7_one 67 = .ok (.iload_n 2, 1) := by decide +kernel
theorem dX7_one_68 : decode cX7_one 68 = .ok (.imul, 1) := by decide +kernel
theorem dX7_one_69 : decode cX7_one 69 = .ok (.aload_n 0, 1) := by decide +kernel
theorem dX7_one_70 : decode cX7_one 70 = .ok (.invokevirtual 78, 3) := by decide +kernel
theorem dX7_one_73 : decode cX7_one 73 = .ok (.iadd, 1) := by decide +kernel
theorem dX7_one_74 : decode cX7_one 74 = .ok (.bipush 48, 2) := by decide +kernel
theorem dX7_one_76 : decode cX7_one 76 = .ok (.isub, 1) := by decide +kernel
theorem dX7_one_77 : decode cX7_one 77 = .ok (.istore_n 2, 1) := by decide +kernel
theorem dX7_one_78 : decode cX7_one 78 = .ok (.aload_n 0, 1) := by decide +kernel
theorem dX7_one_79 : decode cX7_one 79 = .ok (.dup, 1) := by decide +kernel
theorem dX7_one_80 : decode cX7_one 80 = .ok (.getfield 64, 3) := by decide +kernel
theorem dX7_one_83 : decode cX7_one 83 = .ok (.iconst 1, 1) := by decide +kernel
theorem dX7_one_84 : decode cX7_one 84 = .ok (.iadd, 1) := by decide +kernel
theorem dX7_one_85 : decode cX7_one 85 = .ok (.putfield 64, 3) := by decide +kernel
theorem dX7_one_88 : decode cX7_one 88 = .ok (.iinc 3 1, 3) := by decide +kernel
theorem dX7_one_91 : decode cX7_one 91 = .ok (.goto (-45), 3) := by decide +kernel
theorem dX7_one_94 : decode cX7_one 94 = .ok (.aload_n 0, 1) := by decide +kernel
theorem dX7_one_95 : decode cX7_one 95 = .ok (.iconst 0, 1) := by decide +kernel
theorem dX7_one_96 : decode cX7_one 96 = .ok (.iload_n 2, 1) := by decide +kernel
theorem dX7_one_97 : decode cX7_one 97 = .ok (.invokevirtual 82, 3) := by decide +kernel
theorem dX7_one_100 : decode cX7_one 100 = .ok (.iconst 1, 1) := by decide +kernel
theorem dX7_one_101 : decode cX7_one 101 = .ok (.ireturn, 1) := by decide +kernel
theorem dX7_one_102 : decode cX7_one 102 = .ok (.iload_n 1, 1) := by decide +kernel
theorem dX7_one_103 : decode cX7_one 103 = .ok (.bipush 33, 2) := by decide +kernel
theorem dX7_one_105 : decode cX7_one 105 = .ok (.if_icmp .ne 37, 3) := by decide +kernel
theorem dX7_one_108 : decode cX7_one 108 = .ok (.aload_n 0, 1) := by decide +kernel
theorem dX7_one_109 : decode cX7_one 109 = .ok (.invokevirtual 105, 3) := by decide +kernel
theorem dX7_one_112 : decode cX7_one 112 = .ok (.ifCond .eq 10, 3) := by decide +kernel
theorem dX7_one_115 : decode cX7_one 115 = .ok (.aload_n 0, 1) := by decide +kernel
theorem dX7_one_116 : decode cX7_one 116 = .ok (.invokevirtual 95, 3) := by decide +kernel
theorem dX7_one_119 : decode cX7_one 119 = .ok (.ifCond .ne 5, 3) := by decide +kernel
theorem dX7_one_122 : decode cX7_one 122 = .ok (.iconst 0, 1) := by decide +kernel
theorem dX7_one_123 : decode cX7_one 123 = .ok (.ireturn, 1) := by decide +kernel
theorem dX7_one_124 : decode cX7_one 124 = .ok (.aload_n 0, 1) := by decide +kernel
theorem dX7_one_125 : decode cX7_one 125 = .ok (.dup, 1) := by decide +kernel
theorem dX7_one_126 : decode cX7_one 126 = .ok (.getfield 98, 3) := by decide +kernel
theorem dX7_one_129 : decode cX7_one 129 = .ok (.iconst 1, 1) := by decide +kernel
theorem dX7_one_130 : decode cX7_one 130 = .ok (.isub, 1) := by decide +kernel
theorem dX7_one_131 : decode cX7_one 131 = .ok (.putfield 98, 3) := by decide +kernel
theorem dX7_one_134 : decode cX7_one 134 = .ok (.aload_n 0, 1) := by decide +kernel
theorem dX7_one_135 : decode cX7_one 135 = .ok (.iconst 2, 1) := by decide +kernel
theorem dX7_one_136 : decode cX7_one 136 = .ok (.iconst 0, 1) := by decide +kernel
theorem dX7_one_137 : decode cX7_one 137 = .ok (.invokevirtual 82, 3) := by decide +kernel
theorem dX7_one_140 : decode cX7_one 140 = .ok (.iconst 1, 1) := by decide +kernel
theorem dX7_one_141 : decode cX7_one 141 = .ok (.ireturn, 1) := by decide +kernel
theorem dX7_one_142 : decode cX7_one 142 = .ok (.iload_n 1, 1) := by decide +kernel
theorem dX7_one_143 : decode cX7_one 143 = .ok (.bipush 40, 2) := by decide +kernel
theorem dX7_one_145 : decode cX7_one 145 = .ok (.if_icmp .ne 26, 3) := by decide +kernel
theorem dX7_one_148 : decode cX7_one 148 = .ok (.aload_n 0, 1) := by decide +kernel
theorem dX7_one_149 : decode cX7_one 149 = .ok (.invokevirtual 105, 3) := by decide +kernel
theorem dX7_one_152 : decode cX7_one 152 = .ok (.ifCond .eq 19, 3) := by decide +kernel
theorem dX7_one_155 : decode cX7_one 155 = .ok (.aload_n 0, 1) := by decide +kernel
theorem dX7_one_156 : decode cX7_one 156 = .ok (.invokevirtual 108, 3) := by decide +kernel
theorem dX7_one_159 : decode cX7_one 159 = .ok (.ifCond .eq 12, 3) := by decide +kernel
theorem dX7_one_162 : decode cX7_one 162 = .ok (.aload_n 0, 1) := by decide +kernel
theorem dX7_one_163 : decode cX7_one 163 = .ok (.invokevirtual 78, 3) := by decide +kernel
theorem dX7_one_166 : decode cX7_one 166 = .ok (.bipush 41, 2) := by decide +kernel
theorem dX7_one_168 : decode cX7_one 168 = .ok (.if_icmp .eq 5, 3) := by decide +kernel
theorem dX7_one_171 : decode cX7_one 171 = .ok (.iconst 0, 1) := by decide +kernel
theorem dX7_one_172 : decode cX7_one 172 = .ok (.ireturn, 1) := by decide +kernel
theorem dX7_one_173 : decode cX7_one 173 = .ok (.aload_n 0, 1) := by decide +kernel
theorem dX7_one_174 : decode cX7_one 174 = .ok (.dup, 1) := by decide +kernel
theorem dX7_one_175 : decode cX7_one 175 = .ok (.getfield 64, 3) := by decide +kernel
theorem dX7_one_178 : decode cX7_one 178 = .ok (.iconst 1, 1) := by decide +kernel
theorem dX7_one_179 : decode cX7_one 179 = .ok (.iadd, 1) := by decide +kernel
theorem dX7_one_180 : decode cX7_one 180 = .ok (.putfield 64, 3) := by decide +kernel
theorem dX7_one_183 : decode cX7_one 183 = .ok (.aload_n 0, 1) := by decide +kernel
theorem dX7_one_184 : decode cX7_one 184 = .ok (.dup, 1) := by decide +kernel
theorem dX7_one_185 : decode cX7_one 185 = .ok (.getfield 98, 3) := by decide +kernel
theorem dX7_one_188 : decode cX7_one 188 = .ok (.iconst 1, 1) := by decide +kernel
theorem dX7_one_189 : decode cX7_one 189 = .ok (.isub, 1) := by decide +kernel
theorem dX7_one_190 : decode cX7_one 190 = .ok (.putfield 98, 3) := by decide +kernel
theorem dX7_one_193 : decode cX7_one 193 = .ok (.iconst 1, 1) := by decide +kernel
theorem dX7_one_194 : decode cX7_one 194 = .ok (.ireturn, 1) := by decide +kernel
theorem dX7_hasText_0 : decode cX7_hasText 0 = .ok (.aload_n 0, 1) := by decide +kernel
theorem dX7_hasText_1 : decode cX7_hasText 1 = .ok (.getfield 7, 3) := by decide +kernel
theorem dX7_hasText_4 : decode cX7_hasText 4 = .ok (.bipush 48, 2) := by decide +kernel
theorem dX7_hasText_6 : decode cX7_hasText 6 = .ok (.bipush 125, 2) := by decide +kernel
theorem dX7_hasText_8 : decode cX7_hasText 8 = .ok (.iload_n 1, 1) := by decide +kernel
theorem dX7_hasText_9 : decode cX7_hasText 9 = .ok (.imul, 1) := by decide +kernel
theorem dX7_hasText_10 : decode cX7_hasText 10 = .ok (.iadd, 1) := by decide +kernel
theorem dX7_hasText_11 : decode cX7_hasText 11 = .ok (.iaload, 1) := by decide +kernel
theorem dX7_hasText_12 : decode cX7_hasText 12 = .ok (.ifCond .le 7, 3) := by decide +kernel
theorem dX7_hasText_15 : decode cX7_hasText 15 = .ok (.iconst 1, 1) := by decide +kernel
theorem dX7_hasText_16 : decode cX7_hasText 16 = .ok (.goto 4, 3) := by decide +kernel
theorem dX7_hasText_19 : decode cX7_hasText 19 = .ok (.iconst 0, 1) := by decide +kernel
theorem dX7_hasText_20 : decode cX7_hasText 20 = .ok (.ireturn, 1) := by decide +kernel
theorem dX7_text_0 : decode cX7_text 0 = .ok (.iload_n 1, 1) := by decide +kernel
theorem dX7_text_1 : decode cX7_text 1 = .ok (.iconst 0, 1) := by decide +kernel
theorem dX7_text_2 : decode cX7_text 2 = .ok (.iconst 1, 1) := by decide +kernel
theorem dX7_text_3 : decode cX7_text 3 = .ok (.invokestatic 50, 3) := by decide +kernel
theorem dX7_text_6 : decode cX7_text 6 = .ok (.ifCond .ne 9, 3) := by decide +kernel
theorem dX7_text_9 : decode cX7_text 9 = .ok (.aload_n 0, 1) := by decide +kernel
theorem dX7_text_10 : decode cX7_text 10 = .ok (.iconst 1, 1) := by decide +kernel
theorem dX7_text_11 : decode cX7_text 11 = .ok (.invokevirtual 58, 3) := by decide +kernel
theorem dX7_text_14 : decode cX7_text 14 = .ok (.ireturn, 1) := by decide +kernel
theorem dX7_text_15 : decode cX7_text 15 = .ok (.aload_n 0, 1) := by decide +kernel
theorem dX7_text_16 : decode cX7_text 16 = .ok (.iload_n 1, 1) := by decide +kernel
theorem dX7_text_17 : decode cX7_text 17 = .ok (.putfield 68, 3) := by decide +kernel
theorem dX7_text_20 : decode cX7_text 20 = .ok (.aload_n 0, 1) := by decide +kernel
theorem dX7_text_21 : decode cX7_text 21 = .ok (.iconst 0, 1) := by decide +kernel
theorem dX7_text_22 : decode cX7_text 22 = .ok (.putfield 64, 3) := by decide +kernel
theorem dX7_text_25 : decode cX7_text 25 = .ok (.aload_n 0, 1) := by decide +kernel
theorem dX7_text_26 : decode cX7_text 26 = .ok (.iconst 0, 1) := by decide +kernel
theorem dX7_text_27 : decode cX7_text 27 = .ok (.putfield 98, 3) := by decide +kernel
theorem dX7_text_30 : decode cX7_text 30 = .ok (.aload_n 0, 1) := by decide +kernel
theorem dX7_text_31 : decode cX7_text 31 = .ok (.iconst 0, 1) := by decide +kernel
theorem dX7_text_32 : decode cX7_text 32 = .ok (.putfield 71, 3) := by decide +kernel
theorem dX7_text_35 : decode cX7_text 35 = .ok (.aload_n 0, 1) := by decide +kernel
theorem dX7_text_36 : decode cX7_text 36 = .ok (.invokevirtual 108, 3) := by decide +kernel
theorem dX7_text_39 : decode cX7_text 39 = .ok (.ifCond .eq 20, 3) := by decide +kernel
theorem dX7_text_42 : decode cX7_text 42 = .ok (.aload_n 0, 1) := by decide +kernel
theorem dX7_text_43 : decode cX7_text 43 = .ok (.getfield 64, 3) := by decide +kernel
theorem dX7_text_46 : decode cX7_text 46 = .ok (.aload_n 0, 1) := by decide +kernel
theorem dX7_text_47 : decode cX7_text 47 = .ok (.getfield 7, 3) := by decide +kernel
theorem dX7_text_50 : decode cX7_text 50 = .ok (.iconst 3, 1) := by decide +kernel
theorem dX7_text_51 : decode cX7_text 51 = .ok (.iaload, 1) := by decide +kernel
theorem dX7_text_52 : decode cX7_text 52 = .ok (.if_icmp .ne 7, 3) := by decide +kernel
theorem dX7_text_55 : decode cX7_text 55 = .ok (.iconst 1, 1) := by decide +kernel
theorem dX7_text_56 : decode cX7_text 56 = .ok (.goto 4, 3) := by decide +kernel
theorem dX7_text_59 : decode cX7_text 59 = .ok (.iconst 0, 1) := by decide +kernel
theorem dX7_text_60 : decode cX7_text 60 = .ok (.istore_n 2, 1) := by decide +kernel
theorem dX7_text_61 : decode cX7_text 61 = .ok (.aload_n 0, 1) := by decide +kernel
theorem dX7_text_62 : decode cX7_text 62 = .ok (.getfield 7, 3) := by decide +kernel
theorem dX7_text_65 : decode cX7_text 65 = .ok (.iconst 3, 1) := by decide +kernel
theorem dX7_text_66 : decode cX7_text 66 = .ok (.iconst 0, 1) := by decide +kernel
theorem dX7_text_67 : decode cX7_text 67 = .ok (.iastore, 1) := by decide +kernel
theorem dX7_text_68 : decode cX7_text 68 = .ok (.iload_n 2, 1) := by decide +kernel
theorem dX7_text_69 : decode cX7_text 69 = .ok (.ifCond .ne 11, 3) := by decide +kernel
theorem dX7_text_72 : decode cX7_text 72 = .ok (.bipush (-10), 2) := by decide +kernel
theorem dX7_text_74 : decode cX7_text 74 = .ok (.aload_n 0, 1) := by decide +kernel
theorem dX7_text_75 : decode cX7_text 75 = .ok (.getfield 64, 3) := by decide +kernel
theorem dX7_text_78 : decode cX7_text 78 = .ok (.isub, 1) := by decide +kernel
theorem dX7_text_79 : decode cX7_text 79 = .ok (.ireturn, 1) := by decide +kernel
theorem dX7_text_80 : decode cX7_text 80 = .ok (.bipush 48, 2) := by decide +kernel
theorem dX7_text_82 : decode cX7_text 82 = .ok (.bipush 125, 2) := by decide +kernel
theorem dX7_text_84 : decode cX7_text 84 = .ok (.iload_n 1, 1) := by decide +kernel
theorem dX7_text_85 : decode cX7_text 85 = .ok (.imul, 1) := by decide +kernel
theorem dX7_text_86 : decode cX7_text 86 = .ok (.iadd, 1) := by decide +kernel
theorem dX7_text_87 : decode cX7_text 87 = .ok (.istore_n 3, 1) := by decide +kernel
theorem dX7_text_88 : decode cX7_text 88 = .ok (.aload_n 0, 1) := by decide +kernel
theorem dX7_text_89 : decode cX7_text 89 = .ok (.getfield 7, 3) := by decide +kernel
theorem dX7_text_92 : decode cX7_text 92 = .ok (.iload_n 3, 1) := by decide +kernel
theorem dX7_text_93 : decode cX7_text 93 = .ok (.aload_n 0, 1) := by decide +kernel
theorem dX7_text_94 : decode cX7_text 94 = .ok (.getfield 71, 3) := by decide +kernel
theorem dX7_text_97 : decode cX7_text 97 = .ok (.iastore, 1) := by decide +kernel
theorem dX7_text_98 : decode cX7_text 98 = .ok (.iconst 0, 1) := by decide +kernel
theorem dX7_text_99 : decode cX7_text 99 = .ok (.istore 4, 2) := by decide +kernel
theorem dX7_text_101 : decode cX7_text 101 = .ok (.iload 4, 2) := by decide +kernel
theorem dX7_text_103 : decode cX7_text 103 = .ok (.iconst 2, 1) := by decide +kernel
theorem dX7_text_104 : decode cX7_text 104 = .ok (.aload_n 0, 1) := by decide +kernel
theorem dX7_text_105 : decode cX7_text 105 = .ok (.getfield 71, 3) := by decide +kernel
theorem dX7_text_108 : decode cX7_text 108 = .ok (.imul, 1) := by decide +kernel
theorem dX7_text_109 : decode cX7_text 109 = .ok (.if_icmp .ge 27, 3) := by decide +kernel
theorem dX7_text_112 : decode cX7_text 112 = .ok (.aload_n 0, 1) := by decide +kernel
theorem dX7_text_113 : decode cX7_text 113 = .ok (.getfield 7, 3) := by decide +kernel
theorem dX7_text_116 : decode cX7_text 116 = .ok (.iload_n 3, 1) := by decide +kernel
theorem dX7_text_117 : decode cX7_text 117 = .ok (.iconst 1, 1) := by decide +kernel
theorem dX7_text_118 : decode cX7_text 118 = .ok (.iadd, 1) := by decide +kernel
theorem dX7_text_119 : decode cX7_text 119 = .ok (.iload 4, 2) := by decide +kernel
theorem dX7_text_121 : decode cX7_text 121 = .ok (.iadd, 1) := by decide +kernel
theorem dX7_text_122 : decode cX7_text 122 = .ok (.aload_n 0, 1) := by decide +kernel
theorem dX7_text_123 : decode cX7_text 123 = .ok (.getfield 19, 3) := by decide +kernel
theorem dX7_text_126 : decode cX7_text 126 = .ok (.iload 4, 2) := by decide +kernel
theorem dX7_text_128 : decode cX7_text 128 = .ok (.iaload, 1) := by decide +kernel
theorem dX7_text_129 : decode cX7_text 129 = .ok (.iastore, 1) := by decide +kernel
theorem dX7_text_130 : decode cX7_text 130 = .ok (.iinc 4 1, 3) := by decide +kernel
theorem dX7_text_133 : decode cX7_text 133 = .ok (.goto (-32), 3) := by decide +kernel
theorem dX7_text_136 : decode cX7_text 136 = .ok (.iconst 1, 1) := by decide +kernel
theorem dX7_text_137 : decode cX7_text 137 = .ok (.ireturn, 1) := by decide +kernel
theorem dX7_untell_0 : decode cX7_untell 0 = .ok (.iload_n 1, 1) := by decide +kernel
theorem dX7_untell_1 : decode cX7_untell 1 = .ok (.iconst 0, 1) := by decide +kernel
theorem dX7_untell_2 : decode cX7_untell 2 = .ok (.iconst 1, 1) := by decide +kernel
theorem dX7_untell_3 : decode cX7_untell 3 = .ok (.invokestatic 50, 3) := by decide +kernel
theorem dX7_untell_6 : decode cX7_untell 6 = .ok (.ifCond .ne 9, 3) := by decide +kernel
theorem dX7_untell_9 : decode cX7_untell 9 = .ok (.aload_n 0, 1) := by decide +kernel
theorem dX7_untell_10 : decode cX7_untell 10 = .ok (.iconst 1, 1) := by decide +kernel
theorem dX7_untell_11 : decode cX7_untell 11 = .ok (.invokevirtual 58, 3) := by decide +kernel
theorem dX7_untell_14 : decode cX7_untell 14 = .ok (.ireturn, 1) := by decide +kernel
theorem dX7_untell_15 : decode cX7_untell 15 = .ok (.aload_n 0, 1) := by decide +kernel
theorem dX7_untell_16 : decode cX7_untell 16 = .ok (.iload_n 1, 1) := by decide +kernel
theorem dX7_untell_17 : decode cX7_untell 17 = .ok (.invokevirtual 111, 3) := by decide +kernel
theorem dX7_untell_20 : decode cX7_untell 20 = .ok (.ifCond .eq 7, 3) := by decide +kernel
theorem dX7_untell_23 : decode cX7_untell 23 = .ok (.iconst 1, 1) := by decide +kernel
theorem dX7_untell_24 : decode cX7_untell 24 = .ok (.goto 4, 3) := by decide +kernel
theorem dX7_untell_27 : decode cX7_untell 27 = .ok (.iconst 0, 1) := by decide +kernel
theorem dX7_untell_28 : decode cX7_untell 28 = .ok (.istore_n 2, 1) := by decide +kernel
theorem dX7_untell_29 : decode cX7_untell 29 = .ok (.aload_n 0, 1) := by decide +kernel
theorem dX7_untell_30 : decode cX7_untell 30 = .ok (.getfield 7, 3) := by decide +kernel
theorem dX7_untell_33 : decode cX7_untell 33 = .ok (.bipush 48, 2) := by decide +kernel
theorem dX7_untell_35 : decode cX7_untell 35 = .ok (.bipush 125, 2) := by decide +kernel
theorem dX7_untell_37 : decode cX7_untell 37 = .ok (.iload_n 1, 1) := by decide +kernel
theorem dX7_untell_38 : decode cX7_untell 38 = .ok (.imul, 1) := by decide +kernel
theorem dX7_untell_39 : decode cX7_untell 39 = .ok (.iadd, 1) := by decide +kernel
theorem dX7_untell_40 : decode cX7_untell 40 = .ok (.iconst 0, 1) := by decide +kernel
theorem dX7_untell_41 : decode cX7_untell 41 = .ok (.iastore, 1) := by decide +kernel
theorem dX7_untell_42 : decode cX7_untell 42 = .ok (.iload_n 2, 1) := by decide +kernel
theorem dX7_untell_43 : decode cX7_untell 43 = .ok (.ireturn, 1) := by decide +kernel
theorem dX7_joined_0 : decode cX7_joined 0 = .ok (.iload_n 0, 1) := by decide +kernel
theorem dX7_joined_1 : decode cX7_joined 1 = .ok (.tableswitch 217 37 62 #[153, 203, 217, 217, 217, 127, 119, 217, 123, 217, 131, 217, 217, 217, 217, 217, 217, 217, 217, 217, 217, 217, 217, 170, 192, 181], 119) := by decide +kernel
theorem dX7_joined_120 : decode cX7_joined 120 = .ok (.iload_n 1, 1) := by decide +kernel
theorem dX7_joined_121 : decode cX7_joined 121 = .ok (.iload_n 2, 1) := by decide +kernel
theorem dX7_joined_122 : decode cX7_joined 122 = .ok (.iadd, 1) := by decide +kernel
theorem dX7_joined_123 : decode cX7_joined 123 = .ok (.ireturn, 1) := by decide +kernel
theorem dX7_joined_124 : decode cX7_joined 124 = .ok (.iload_n 1, 1) := by decide +kernel
theorem dX7_joined_125 : decode cX7_joined 125 = .ok (.iload_n 2, 1) := by decide +kernel
theorem dX7_joined_126 : decode cX7_joined 126 = .ok (.isub, 1) := by decide +kernel
theorem dX7_joined_127 : decode cX7_joined 127 = .ok (.ireturn, 1) := by decide +kernel
theorem dX7_joined_128 : decode cX7_joined 128 = .ok (.iload_n 1, 1) := by decide +kernel
theorem dX7_joined_129 : decode cX7_joined 129 = .ok (.iload_n 2, 1) := by decide +kernel
theorem dX7_joined_130 : decode cX7_joined 130 = .ok (.imul, 1) := by decide +kernel
theorem dX7_joined_131 : decode cX7_joined 131 = .ok (.ireturn, 1) := by decide +kernel
theorem dX7_joined_132 : decode cX7_joined 132 = .ok (.iload_n 2, 1) := by decide +kernel
theorem dX7_joined_133 : decode cX7_joined 133 = .ok (.ifCond .ne 7, 3) := by decide +kernel
theorem dX7_joined_136 : decode cX7_joined 136 = .ok (.iconst 0, 1) := by decide +kernel
theorem dX7_joined_137 : decode cX7_joined 137 = .ok (.goto 16, 3) := by decide +kernel
theorem dX7_joined_140 : decode cX7_joined 140 = .ok (.iload_n 2, 1) := by decide +kernel
theorem dX7_joined_141 : decode cX7_joined 141 = .ok (.iconst (-1), 1) := by decide +kernel
theorem dX7_joined_142 : decode cX7_joined 142 = .ok (.if_icmp .ne 8, 3) := by decide +kernel
theorem dX7_joined_145 : decode cX7_joined 145 = .ok (.iload_n 1, 1) := by decide +kernel
theorem dX7_joined_146 : decode cX7_joined 146 = .ok (.ineg, 1) := by decide +kernel
theorem dX7_joined_147 : decode cX7_joined 147 = .ok (.goto 6, 3) := by decide +kernel
theorem dX7_joined_150 : decode cX7_joined 150 = .ok (.iload_n 1, 1) := by decide +kernel
theorem dX7_joined_151 : decode cX7_joined 151 = .ok (.iload_n 2, 1) := by decide +kernel
theorem dX7_joined_152 : decode cX7_joined 152 = .ok (.idiv, 1) := by decide +kernel
theorem dX7_joined_153 : decode cX7_joined 153 = .ok (.ireturn, 1) := by decide +kernel
theorem dX7_joined_154 : decode cX7_joined 154 = .ok (.iload_n 2, 1) := by decide +kernel
theorem dX7_joined_155 : decode cX7_joined 155 = .ok (.ifCond .eq 8, 3) := by decide +kernel
theorem dX7_joined_158 : decode cX7_joined 158 = .ok (.iload_n 2, 1) := by decide +kernel
theorem dX7_joined_159 : decode cX7_joined 159 = .ok (.iconst (-1), 1) := by decide +kernel
theorem dX7_joined_160 : decode cX7_joined 160 = .ok (.if_icmp .ne 7, 3) := by decide +kernel
theorem dX7_joined_163 : decode cX7_joined 163 = .ok (.iconst 0, 1) := by decide +kernel
theorem dX7_joined_164 : decode cX7_joined 164 = .ok (.goto 6, 3) := by decide +kernel
theorem dX7_joined_167 : decode cX7_joined 167 = .ok (.iload_n 1, 1) := by decide +kernel
theorem dX7_joined_168 : decode cX7_joined 168 = .ok (.iload_n 2, 1) := by decide +kernel
theorem dX7_joined_169 : decode cX7_joined 169 = .ok (.irem, 1) := by decide +kernel
theorem dX7_joined_170 : decode cX7_joined 170 = .ok (.ireturn, 1) := by decide +kernel
theorem dX7_joined_171 : decode cX7_joined 171 = .ok (.iload_n 1, 1) := by decide +kernel
theorem dX7_joined_172 : decode cX7_joined 172 = .ok (.iload_n 2, 1) := by decide +kernel
theorem dX7_joined_173 : decode cX7_joined 173 = .ok (.if_icmp .ge 7, 3) := by decide +kernel
theorem dX7_joined_176 : decode cX7_joined 176 = .ok (.iconst 1, 1) := by decide +kernel
theorem dX7_joined_177 : decode cX7_joined 177 = .ok (.goto 4, 3) := by decide +kernel
theorem dX7_joined_180 : decode cX7_joined 180 = .ok (.iconst 0, 1) := by decide +kernel
theorem dX7_joined_181 : decode cX7_joined 181 = .ok (.ireturn, 1) := by decide +kernel
theorem dX7_joined_182 : decode cX7_joined 182 = .ok (.iload_n 1, 1) := by decide +kernel
theorem dX7_joined_183 : decode cX7_joined 183 = .ok (.iload_n 2, 1) := by decide +kernel
theorem dX7_joined_184 : decode cX7_joined 184 = .ok (.if_icmp .le 7, 3) := by decide +kernel
theorem dX7_joined_187 : decode cX7_joined 187 = .ok (.iconst 1, 1) := by decide +kernel
theorem dX7_joined_188 : decode cX7_joined 188 = .ok (.goto 4, 3) := by decide +kernel
theorem dX7_joined_191 : decode cX7_joined 191 = .ok (.iconst 0, 1) := by decide +kernel
theorem dX7_joined_192 : decode cX7_joined 192 = .ok (.ireturn, 1) := by decide +kernel
theorem dX7_joined_193 : decode cX7_joined 193 = .ok (.iload_n 1, 1) := by decide +kernel
theorem dX7_joined_194 : decode cX7_joined 194 = .ok (.iload_n 2, 1) := by decide +kernel
theorem dX7_joined_195 : decode cX7_joined 195 = .ok (.if_icmp .ne 7, 3) := by decide +kernel
theorem dX7_joined_198 : decode cX7_joined 198 = .ok (.iconst 1, 1) := by decide +kernel
theorem dX7_joined_199 : decode cX7_joined 199 = .ok (.goto 4, 3) := by decide +kernel
theorem dX7_joined_202 : decode cX7_joined 202 = .ok (.iconst 0, 1) := by decide +kernel
theorem dX7_joined_203 : decode cX7_joined 203 = .ok (.ireturn, 1) := by decide +kernel
theorem dX7_joined_204 : decode cX7_joined 204 = .ok (.iload_n 1, 1) := by decide +kernel
theorem dX7_joined_205 : decode cX7_joined 205 = .ok (.ifCond .eq 11, 3) := by decide +kernel
theorem dX7_joined_208 : decode cX7_joined 208 = .ok (.iload_n 2, 1) := by decide +kernel
theorem dX7_joined_209 : decode cX7_joined 209 = .ok (.ifCond .eq 7, 3) := by decide +kernel
theorem dX7_joined_212 : decode cX7_joined 212 = .ok (.iconst 1, 1) := by decide +kernel
theorem dX7_joined_213 : decode cX7_joined 213 = .ok (.goto 4, 3) := by decide +kernel
theorem dX7_joined_216 : decode cX7_joined 216 = .ok (.iconst 0, 1) := by decide +kernel
theorem dX7_joined_217 : decode cX7_joined 217 = .ok (.ireturn, 1) := by decide +kernel
theorem dX7_joined_218 : decode cX7_joined 218 = .ok (.iload_n 1, 1) := by decide +kernel
theorem dX7_joined_219 : decode cX7_joined 219 = .ok (.ifCond .ne 7, 3) := by decide +kernel
theorem dX7_joined_222 : decode cX7_joined 222 = .ok (.iload_n 2, 1) := by decide +kernel
theorem dX7_joined_223 : decode cX7_joined 223 = .ok (.ifCond .eq 7, 3) := by decide +kernel
theorem dX7_joined_226 : decode cX7_joined 226 = .ok (.iconst 1, 1) := by decide +kernel
theorem dX7_joined_227 : decode cX7_joined 227 = .ok (.goto 4, 3) := by decide +kernel
theorem dX7_joined_230 : decode cX7_joined 230 = .ok (.iconst 0, 1) := by decide +kernel
theorem dX7_joined_231 : decode cX7_joined 231 = .ok (.ireturn, 1) := by decide +kernel
theorem dX7_worked_0 : decode cX7_worked 0 = .ok (.bipush 48, 2) := by decide +kernel
theorem dX7_worked_2 : decode cX7_worked 2 = .ok (.bipush 125, 2) := by decide +kernel
theorem dX7_worked_4 : decode cX7_worked 4 = .ok (.iload_n 1, 1) := by decide +kernel
theorem dX7_worked_5 : decode cX7_worked 5 = .ok (.imul, 1) := by decide +kernel
theorem dX7_worked_6 : decode cX7_worked 6 = .ok (.iadd, 1) := by decide +kernel
theorem dX7_worked_7 : decode cX7_worked 7 = .ok (.istore_n 2, 1) := by decide +kernel
theorem dX7_worked_8 : decode cX7_worked 8 = .ok (.iconst 0, 1) := by decide +kernel
theorem dX7_worked_9 : decode cX7_worked 9 = .ok (.istore_n 3, 1) := by decide +kernel
theorem dX7_worked_10 : decode cX7_worked 10 = .ok (.iconst 0, 1) := by decide +kernel
theorem dX7_worked_11 : decode cX7_worked 11 = .ok (.istore 4, 2) := by decide +kernel
theorem dX7_worked_13 : decode cX7_worked 13 = .ok (.iload 4, 2) := by decide +kernel
theorem dX7_worked_15 : decode cX7_worked 15 = .ok (.aload_n 0, 1) := by decide +kernel
theorem dX7_worked_16 : decode cX7_worked 16 = .ok (.getfield 7, 3) := by decide +kernel
theorem dX7_worked_19 : decode cX7_worked 19 = .ok (.iload_n 2, 1) := by decide +kernel
theorem dX7_worked_20 : decode cX7_worked 20 = .ok (.iaload, 1) := by decide +kernel
theorem dX7_worked_21 : decode cX7_worked 21 = .ok (.if_icmp .ge 142, 3) := by decide +kernel
theorem dX7_worked_24 : decode cX7_worked 24 = .ok (.aload_n 0, 1) := by decide +kernel
theorem dX7_worked_25 : decode cX7_worked 25 = .ok (.getfield 7, 3) := by decide +kernel
theorem dX7_worked_28 : decode cX7_worked 28 = .ok (.iload_n 2, 1) := by decide +kernel
theorem dX7_worked_29 : decode cX7_worked 29 = .ok (.iconst 1, 1) := by decide +kernel
theorem dX7_worked_30 : decode cX7_worked 30 = .ok (.iadd, 1) := by decide +kernel
theorem dX7_worked_31 : decode cX7_worked 31 = .ok (.iconst 2, 1) := by decide +kernel
theorem dX7_worked_32 : decode cX7_worked 32 = .ok (.iload 4, 2) := by decide +kernel
theorem dX7_worked_34 : decode cX7_worked 34 = .ok (.imul, 1) := by decide +kernel
theorem dX7_worked_35 : decode cX7_worked 35 = .ok (.iadd, 1) := by decide +kernel
theorem dX7_worked_36 : decode cX7_worked 36 = .ok (.iaload, 1) := by decide +kernel
theorem dX7_worked_37 : decode cX7_worked 37 = .ok (.istore 5, 2) := by decide +kernel
theorem dX7_worked_39 : decode cX7_worked 39 = .ok (.aload_n 0, 1) := by decide +kernel
theorem dX7_worked_40 : decode cX7_worked 40 = .ok (.getfield 7, 3) := by decide +kernel
theorem dX7_worked_43 : decode cX7_worked 43 = .ok (.iload_n 2, 1) := by decide +kernel
theorem dX7_worked_44 : decode cX7_worked 44 = .ok (.iconst 2, 1) := by decide +kernel
theorem dX7_worked_45 : decode cX7_worked 45 = .ok (.iadd, 1) := by decide +kernel
theorem dX7_worked_46 : decode cX7_worked 46 = .ok (.iconst 2, 1) := by decide +kernel
theorem dX7_worked_47 : decode cX7_worked 47 = .ok (.iload 4, 2) := by decide +kernel
theorem dX7_worked_49 : decode cX7_worked 49 = .ok (.imul, 1) := by decide +kernel
theorem dX7_worked_50 : decode cX7_worked 50 = .ok (.iadd, 1) := by decide +kernel
theorem dX7_worked_51 : decode cX7_worked 51 = .ok (.iaload, 1) := by decide +kernel
theorem dX7_worked_52 : decode cX7_worked 52 = .ok (.istore 6, 2) := by decide +kernel
theorem dX7_worked_54 : decode cX7_worked 54 = .ok (.iload 5, 2) := by decide +kernel
theorem dX7_worked_56 : decode cX7_worked 56 = .ok (.ifCond .eq 9, 3) := by decide +kernel
theorem dX7_worked_59 : decode cX7_worked 59 = .ok (.iload 5, 2) := by decide +kernel
theorem dX7_worked_61 : decode cX7_worked 61 = .ok (.iconst 1, 1) := by decide +kernel
theorem dX7_worked_62 : decode cX7_worked 62 = .ok (.if_icmp .ne 32, 3) := by decide +kernel
theorem dX7_worked_65 : decode cX7_worked 65 = .ok (.aload_n 0, 1) := by decide +kernel
theorem dX7_worked_66 : decode cX7_worked 66 = .ok (.getfield 25, 3) := by decide +kernel
theorem dX7_worked_69 : decode cX7_worked 69 = .ok (.iload_n 3, 1) := by decide +kernel
theorem dX7_worked_70 : decode cX7_worked 70 = .ok (.iload 5, 2) := by decide +kernel
theorem dX7_worked_72 : decode cX7_worked 72 = .ok (.ifCond .ne 8, 3) := by decide +kernel
theorem dX7_worked_75 : decode cX7_worked 75 = .ok (.iload 6, 2) := by decide +kernel
theorem dX7_worked_77 : decode cX7_worked 77 = .ok (.goto 10, 3) := by decide +kernel
theorem dX7_worked_80 : decode cX7_worked 80 = .ok (.aload_n 0, 1) := by decide +kernel
theorem dX7_worked_81 : decode cX7_worked 81 = .ok (.getfield 22, 3) := by decide +kernel
theorem dX7_worked_84 : decode cX7_worked 84 = .ok (.iload 6, 2) := by decide +kernel
theorem dX7_worked_86 : decode cX7_worked 86 = .ok (.iaload, 1) := by decide +kernel
theorem dX7_worked_87 : decode cX7_worked 87 = .ok (.iastore, 1) := by decide +kernel
theorem dX7_worked_88 : decode cX7_worked 88 = .ok (.iinc 3 1, 3) := by decide +kernel
theorem dX7_worked_91 : decode cX7_worked 91 = .ok (.goto 66, 3) := by decide +kernel
theorem dX7_worked_94 : decode cX7_worked 94 = .ok (.iload 5, 2) := by decide +kernel
theorem dX7_worked_96 : decode cX7_worked 96 = .ok (.iconst 2, 1) := by decide +kernel
theorem dX7_worked_97 : decode cX7_worked 97 = .ok (.if_icmp .ne 30, 3) := by decide +kernel
theorem dX7_worked_100 : decode cX7_worked 100 = .ok (.aload_n 0, 1) := by decide +kernel
theorem dX7_worked_101 : decode cX7_worked 101 = .ok (.getfield 25, 3) := by decide +kernel
theorem dX7_worked_104 : decode cX7_worked 104 = .ok (.iload_n 3, 1) := by decide +kernel
theorem dX7_worked_105 : decode cX7_worked 105 = .ok (.iconst 1, 1) := by decide +kernel
theorem dX7_worked_106 : decode cX7_worked 106 = .ok (.isub, 1) := by decide +kernel
theorem dX7_worked_107 : decode cX7_worked 107 = .ok (.aload_n 0, 1) := by decide +kernel
theorem dX7_worked_108 : decode cX7_worked 108 = .ok (.getfield 25, 3) := by decide +kernel
theorem dX7_worked_111 : decode cX7_worked 111 = .ok (.iload_n 3, 1) := by decide +kernel
theorem dX7_worked_112 : decode cX7_worked 112 = .ok (.iconst 1, 1) := by decide +kernel
theorem dX7_worked_113 : decode cX7_worked 113 = .ok (.isub, 1) := by decide +kernel
theorem dX7_worked_114 : decode cX7_worked 114 = .ok (.iaload, 1) := by decide +kernel
theorem dX7_worked_115 : decode cX7_worked 115 = .ok (.ifCond .ne 7, 3) := by decide +kernel
theorem dX7_worked_118 : decode cX7_worked 118 = .ok (.iconst 1, 1) := by decide +kernel
theorem dX7_worked_119 : decode cX7_worked 119 = .ok (.goto 4, 3) := by decide +kernel
theorem dX7_worked_122 : decode cX7_worked 122 = .ok (.iconst 0, 1) := by decide +kernel
theorem dX7_worked_123 : decode cX7_worked 123 = .ok (.iastore, 1) := by decide +kernel
theorem dX7_worked_124 : decode cX7_worked 124 = .ok (.goto 33, 3) := by decide +kernel
theorem dX7_worked_127 : decode cX7_worked 127 = .ok (.iinc 3 (-1), 3) := by decide +kernel
theorem dX7_worked_130 : decode cX7_worked 130 = .ok (.aload_n 0, 1) := by decide +kernel
theorem dX7_worked_131 : decode cX7_worked 131 = .ok (.getfield 25, 3) := by decide +kernel
theorem dX7_worked_134 : decode cX7_worked 134 = .ok (.iload_n 3, 1) := by decide +kernel
theorem dX7_worked_135 : decode cX7_worked 135 = .ok (.iconst 1, 1) := by decide +kernel
theorem dX7_worked_136 : decode cX7_worked 136 = .ok (.isub, 1) := by decide +kernel
theorem dX7_worked_137 : decode cX7_worked 137 = .ok (.iload 6, 2) := by decide +kernel
theorem dX7_worked_139 : decode cX7_worked 139 = .ok (.aload_n 0, 1) := by decide +kernel
theorem dX7_worked_140 : decode cX7_worked 140 = .ok (.getfield 25, 3) := by decide +kernel
theorem dX7_worked_143 : decode cX7_worked 143 = .ok (.iload_n 3, 1) := by decide +kernel
theorem dX7_worked_144 : decode cX7_worked 144 = .ok (.iconst 1, 1) := by decide +kernel
theorem dX7_worked_145 : decode cX7_worked 145 = .ok (.isub, 1) := by decide +kernel
theorem dX7_worked_146 : decode cX7_worked 146 = .ok (.iaload, 1) := by decide +kernel
theorem dX7_worked_147 : decode cX7_worked 147 = .ok (.aload_n 0, 1) := by decide +kernel
theorem dX7_worked_148 : decode cX7_worked 148 = .ok (.getfield 25, 3) := by decide +kernel
theorem dX7_worked_151 : decode cX7_worked 151 = .ok (.iload_n 3, 1) := by decide +kernel
theorem dX7_worked_152 : decode cX7_worked 152 = .ok (.iaload, 1) := by decide +kernel
theorem dX7_worked_153 : decode cX7_worked 153 = .ok (.invokestatic 114, 3) := by decide +kernel
theorem dX7_worked_156 : decode cX7_worked 156 = .ok (.iastore, 1) := by decide +kernel
theorem dX7_worked_157 : decode cX7_worked 157 = .ok (.iinc 4 1, 3) := by decide +kernel
theorem dX7_worked_160 : decode cX7_worked 160 = .ok (.goto (-147), 3) := by decide +kernel
theorem dX7_worked_163 : decode cX7_worked 163 = .ok (.aload_n 0, 1) := by decide +kernel
theorem dX7_worked_164 : decode cX7_worked 164 = .ok (.getfield 25, 3) := by decide +kernel
theorem dX7_worked_167 : decode cX7_worked 167 = .ok (.iconst 0, 1) := by decide +kernel
theorem dX7_worked_168 : decode cX7_worked 168 = .ok (.iaload, 1) := by decide +kernel
theorem dX7_worked_169 : decode cX7_worked 169 = .ok (.ireturn, 1) := by decide +kernel
theorem dX7_mindsOf_0 : decode cX7_mindsOf 0 = .ok (.aload_n 0, 1) := by decide +kernel
theorem dX7_mindsOf_1 : decode cX7_mindsOf 1 = .ok (.iload_n 1, 1) := by decide +kernel
theorem dX7_mindsOf_2 : decode cX7_mindsOf 2 = .ok (.iconst 2, 1) := by decide +kernel
theorem dX7_mindsOf_3 : decode cX7_mindsOf 3 = .ok (.invokevirtual 54, 3) := by decide +kernel
theorem dX7_mindsOf_6 : decode cX7_mindsOf 6 = .ok (.istore_n 3, 1) := by decide +kernel
theorem dX7_mindsOf_7 : decode cX7_mindsOf 7 = .ok (.iload_n 2, 1) := by decide +kernel
theorem dX7_mindsOf_8 : decode cX7_mindsOf 8 = .ok (.iload_n 3, 1) := by decide +kernel
theorem dX7_mindsOf_9 : decode cX7_mindsOf 9 = .ok (.if_icmp .ge 9, 3) := by decide +kernel
theorem dX7_mindsOf_12 : decode cX7_mindsOf 12 = .ok (.iload_n 3, 1) := by decide +kernel
theorem dX7_mindsOf_13 : decode cX7_mindsOf 13 = .ok (.iload_n 2, 1) := by decide +kernel
theorem dX7_mindsOf_14 : decode cX7_mindsOf 14 = .ok (.isub, 1) := by decide +kernel
theorem dX7_mindsOf_15 : decode cX7_mindsOf 15 = .ok (.goto 6, 3) := by decide +kernel
theorem dX7_mindsOf_18 : decode cX7_mindsOf 18 = .ok (.iload_n 2, 1) := by decide +kernel
theorem dX7_mindsOf_19 : decode cX7_mindsOf 19 = .ok (.iload_n 3, 1) := by decide +kernel
theorem dX7_mindsOf_20 : decode cX7_mindsOf 20 = .ok (.isub, 1) := by decide +kernel
theorem dX7_mindsOf_21 : decode cX7_mindsOf 21 = .ok (.istore 4, 2) := by decide +kernel
theorem dX7_mindsOf_23 : decode cX7_mindsOf 23 = .ok (.iload 4, 2) := by decide +kernel
theorem dX7_mindsOf_25 : decode cX7_mindsOf 25 = .ok (.iload_n 2, 1) := by decide +kernel
theorem dX7_mindsOf_26 : decode cX7_mindsOf 26 = .ok (.bipush 100, 2) := by decide +kernel
theorem dX7_mindsOf_28 : decode cX7_mindsOf 28 = .ok (.irem, 1) := by decide +kernel
theorem dX7_mindsOf_29 : decode cX7_mindsOf 29 = .ok (.bipush 13, 2) := by decide +kernel
theorem dX7_mindsOf_31 : decode cX7_mindsOf 31 = .ok (.if_icmp .ne 8, 3) := by decide +kernel
theorem dX7_mindsOf_34 : decode cX7_mindsOf 34 = .ok (.bipush 50, 2) := by decide +kernel
theorem dX7_mindsOf_36 : decode cX7_mindsOf 36 = .ok (.goto 4, 3) := by decide +kernel
theorem dX7_mindsOf_39 : decode cX7_mindsOf 39 = .ok (.iconst 0, 1) := by decide +kernel
theorem dX7_mindsOf_40 : decode cX7_mindsOf 40 = .ok (.iadd, 1) := by decide +kernel
theorem dX7_mindsOf_41 : decode cX7_mindsOf 41 = .ok (.istore 5, 2) := by decide +kernel
theorem dX7_mindsOf_43 : decode cX7_mindsOf 43 = .ok (.iload_n 2, 1) := by decide +kernel
theorem dX7_mindsOf_44 : decode cX7_mindsOf 44 = .ok (.bipush 10, 2) := by decide +kernel
theorem dX7_mindsOf_46 : decode cX7_mindsOf 46 = .ok (.irem, 1) := by decide +kernel
theorem dX7_mindsOf_47 : decode cX7_mindsOf 47 = .ok (.bipush 8, 2) := by decide +kernel
theorem dX7_mindsOf_49 : decode cX7_mindsOf 49 = .ok (.if_icmp .ne 7, 3) := by decide +kernel
theorem dX7_mindsOf_52 : decode cX7_mindsOf 52 = .ok (.iconst 0, 1) := by decide +kernel
theorem dX7_mindsOf_53 : decode cX7_mindsOf 53 = .ok (.goto 7, 3) := by decide +kernel
theorem dX7_mindsOf_56 : decode cX7_mindsOf 56 = .ok (.iload 4, 2) := by decide +kernel
theorem dX7_mindsOf_58 : decode cX7_mindsOf 58 = .ok (.iconst 2, 1) := by decide +kernel
theorem dX7_mindsOf_59 : decode cX7_mindsOf 59 = .ok (.idiv, 1) := by decide +kernel
theorem dX7_mindsOf_60 : decode cX7_mindsOf 60 = .ok (.istore 6, 2) := by decide +kernel
theorem dX7_mindsOf_62 : decode cX7_mindsOf 62 = .ok (.aload_n 0, 1) := by decide +kernel
theorem dX7_mindsOf_63 : decode cX7_mindsOf 63 = .ok (.iload_n 1, 1) := by decide +kernel
theorem dX7_mindsOf_64 : decode cX7_mindsOf 64 = .ok (.iconst 0, 1) := by decide +kernel
theorem dX7_mindsOf_65 : decode cX7_mindsOf 65 = .ok (.invokevirtual 54, 3) := by decide +kernel
theorem dX7_mindsOf_68 : decode cX7_mindsOf 68 = .ok (.tableswitch 92 1 6 #[40, 43, 46, 67, 72, 90], 40) := by decide +kernel
theorem dX7_mindsOf_108 : decode cX7_mindsOf 108 = .ok (.iload 5, 2) := by decide +kernel
theorem dX7_mindsOf_110 : decode cX7_mindsOf 110 = .ok (.ireturn, 1) := by decide +kernel
theorem dX7_mindsOf_111 : decode cX7_mindsOf 111 = .ok (.iload 6, 2) := by decide +kernel
theorem dX7_mindsOf_113 : decode cX7_mindsOf 113 = .ok (.ireturn, 1) := by decide +kernel
theorem dX7_mindsOf_114 : decode cX7_mindsOf 114 = .ok (.iload 4, 2) := by decide +kernel
theorem dX7_mindsOf_116 : decode cX7_mindsOf 116 = .ok (.iload_n 2, 1) := by decide +kernel
theorem dX7_mindsOf_117 : decode cX7_mindsOf 117 = .ok (.iconst 2, 1) := by decide +kernel
theorem dX7_mindsOf_118 : decode cX7_mindsOf 118 = .ok (.irem, 1) := by decide +kernel
theorem dX7_mindsOf_119 : decode cX7_mindsOf 119 = .ok (.iconst 1, 1) := by decide +kernel
theorem dX7_mindsOf_120 : decode cX7_mindsOf 120 = .ok (.if_icmp .ne 12, 3) := by decide +kernel
theorem dX7_mindsOf_123 : decode cX7_mindsOf 123 = .ok (.aload_n 0, 1) := by decide +kernel
theorem dX7_mindsOf_124 : decode cX7_mindsOf 124 = .ok (.iload_n 1, 1) := by decide +kernel
theorem dX7_mindsOf_125 : decode cX7_mindsOf 125 = .ok (.iconst 1, 1) := by decide +kernel
theorem dX7_mindsOf_126 : decode cX7_mindsOf 126 = .ok (.invokevirtual 54, 3) := by decide +kernel
theorem dX7_mindsOf_129 : decode cX7_mindsOf 129 = .ok (.goto 4, 3) := by decide +kernel
theorem dX7_mindsOf_132 : decode cX7_mindsOf 132 = .ok (.iconst 0, 1) := by decide +kernel
theorem dX7_mindsOf_133 : decode cX7_mindsOf 133 = .ok (.iadd, 1) := by decide +kernel
theorem dX7_mindsOf_134 : decode cX7_mindsOf 134 = .ok (.ireturn, 1) := by decide +kernel
theorem dX7_mindsOf_135 : decode cX7_mindsOf 135 = .ok (.iconst 3, 1) := by decide +kernel
theorem dX7_mindsOf_136 : decode cX7_mindsOf 136 = .ok (.iload 5, 2) := by decide +kernel
theorem dX7_mindsOf_138 : decode cX7_mindsOf 138 = .ok (.imul, 1) := by decide +kernel
theorem dX7_mindsOf_139 : decode cX7_mindsOf 139 = .ok (.ireturn, 1) := by decide +kernel
theorem dX7_mindsOf_140 : decode cX7_mindsOf 140 = .ok (.iload 6, 2) := by decide +kernel
theorem dX7_mindsOf_142 : decode cX7_mindsOf 142 = .ok (.iload_n 2, 1) := by decide +kernel
theorem dX7_mindsOf_143 : decode cX7_mindsOf 143 = .ok (.bipush 10, 2) := by decide +kernel
theorem dX7_mindsOf_145 : decode cX7_mindsOf 145 = .ok (.irem, 1) := by decide +kernel
theorem dX7_mindsOf_146 : decode cX7_mindsOf 146 = .ok (.iconst 4, 1) := by decide +kernel
theorem dX7_mindsOf_147 : decode cX7_mindsOf 147 = .ok (.if_icmp .ne 8, 3) := by decide +kernel
theorem dX7_mindsOf_150 : decode cX7_mindsOf 150 = .ok (.bipush 20, 2) := by decide +kernel
theorem dX7_mindsOf_152 : decode cX7_mindsOf 152 = .ok (.goto 4, 3) := by decide +kernel
theorem dX7_mindsOf_155 : decode cX7_mindsOf 155 = .ok (.iconst 0, 1) := by decide +kernel
theorem dX7_mindsOf_156 : decode cX7_mindsOf 156 = .ok (.iadd, 1) := by decide +kernel
theorem dX7_mindsOf_157 : decode cX7_mindsOf 157 = .ok (.ireturn, 1) := by decide +kernel
theorem dX7_mindsOf_158 : decode cX7_mindsOf 158 = .ok (.iconst 0, 1) := by decide +kernel
theorem dX7_mindsOf_159 : decode cX7_mindsOf 159 = .ok (.ireturn, 1) := by decide +kernel
theorem dX7_mindsOf_160 : decode cX7_mindsOf 160 = .ok (.iload 4, 2) := by decide +kernel
theorem dX7_mindsOf_162 : decode cX7_mindsOf 162 = .ok (.ireturn, 1) := by decide +kernel
theorem dX7_frontOf_0 : decode cX7_frontOf 0 = .ok (.bipush 6, 2) := by decide +kernel
theorem dX7_frontOf_2 : decode cX7_frontOf 2 = .ok (.aload_n 0, 1) := by decide +kernel
theorem dX7_frontOf_3 : decode cX7_frontOf 3 = .ok (.iload_n 1, 1) := by decide +kernel
theorem dX7_frontOf_4 : decode cX7_frontOf 4 = .ok (.iconst 1, 1) := by decide +kernel
theorem dX7_frontOf_5 : decode cX7_frontOf 5 = .ok (.invokevirtual 54, 3) := by decide +kernel
theorem dX7_frontOf_8 : decode cX7_frontOf 8 = .ok (.iadd, 1) := by decide +kernel
theorem dX7_frontOf_9 : decode cX7_frontOf 9 = .ok (.istore_n 2, 1) := by decide +kernel
theorem dX7_frontOf_10 : decode cX7_frontOf 10 = .ok (.aload_n 0, 1) := by decide +kernel
theorem dX7_frontOf_11 : decode cX7_frontOf 11 = .ok (.iload_n 1, 1) := by decide +kernel
theorem dX7_frontOf_12 : decode cX7_frontOf 12 = .ok (.iconst 0, 1) := by decide +kernel
theorem dX7_frontOf_13 : decode cX7_frontOf 13 = .ok (.invokevirtual 54, 3) := by decide +kernel
theorem dX7_frontOf_16 : decode cX7_frontOf 16 = .ok (.tableswitch 73 1 6 #[40, 44, 73, 48, 55, 61], 40) := by decide +kernel
theorem dX7_frontOf_56 : decode cX7_frontOf 56 = .ok (.iconst 2, 1) := by decide +kernel
theorem dX7_frontOf_57 : decode cX7_frontOf 57 = .ok (.iload_n 2, 1) := by decide +kernel
theorem dX7_frontOf_58 : decode cX7_frontOf 58 = .ok (.imul, 1) := by decide +kernel
theorem dX7_frontOf_59 : decode cX7_frontOf 59 = .ok (.ireturn, 1) := by decide +kernel
theorem dX7_frontOf_60 : decode cX7_frontOf 60 = .ok (.iload_n 2, 1) := by decide +kernel
theorem dX7_frontOf_61 : decode cX7_frontOf 61 = .ok (.iconst 2, 1) := by decide +kernel
theorem dX7_frontOf_62 : decode cX7_frontOf 62 = .ok (.isub, 1) := by decide +kernel
theorem dX7_frontOf_63 : decode cX7_frontOf 63 = .ok (.ireturn, 1) := by decide +kernel
theorem dX7_frontOf_64 : decode cX7_frontOf 64 = .ok (.iconst 2, 1) := by decide +kernel
theorem dX7_frontOf_65 : decode cX7_frontOf 65 = .ok (.iload_n 2, 1) := by decide +kernel
theorem dX7_frontOf_66 : decode cX7_frontOf 66 = .ok (.imul, 1) := by decide +kernel
theorem dX7_frontOf_67 : decode cX7_frontOf 67 = .ok (.bipush 10, 2) := by decide +kernel
theorem dX7_frontOf_69 : decode cX7_frontOf 69 = .ok (.iadd, 1) := by decide +kernel
theorem dX7_frontOf_70 : decode cX7_frontOf 70 = .ok (.ireturn, 1) := by decide +kernel
theorem dX7_frontOf_71 : decode cX7_frontOf 71 = .ok (.iload_n 2, 1) := by decide +kernel
theorem dX7_frontOf_72 : decode cX7_frontOf 72 = .ok (.iconst 2, 1) := by decide +kernel
theorem dX7_frontOf_73 : decode cX7_frontOf 73 = .ok (.isub, 1) := by decide +kernel
theorem dX7_frontOf_74 : decode cX7_frontOf 74 = .ok (.iconst 2, 1) := by decide +kernel
theorem dX7_frontOf_75 : decode cX7_frontOf 75 = .ok (.idiv, 1) := by decide +kernel
theorem dX7_frontOf_76 : decode cX7_frontOf 76 = .ok (.ireturn, 1) := by decide +kernel
theorem dX7_frontOf_77 : decode cX7_frontOf 77 = .ok (.bipush 20, 2) := by decide +kernel
theorem dX7_frontOf_79 : decode cX7_frontOf 79 = .ok (.aload_n 0, 1) := by decide +kernel
theorem dX7_frontOf_80 : decode cX7_frontOf 80 = .ok (.getfield 7, 3) := by decide +kernel
theorem dX7_frontOf_83 : decode cX7_frontOf 83 = .ok (.iconst 0, 1) := by decide +kernel
theorem dX7_frontOf_84 : decode cX7_frontOf 84 = .ok (.iaload, 1) := by decide +kernel
theorem dX7_frontOf_85 : decode cX7_frontOf 85 = .ok (.iconst 5, 1) := by decide +kernel
theorem dX7_frontOf_86 : decode cX7_frontOf 86 = .ok (.irem, 1) := by decide +kernel
theorem dX7_frontOf_87 : decode cX7_frontOf 87 = .ok (.iadd, 1) := by decide +kernel
theorem dX7_frontOf_88 : decode cX7_frontOf 88 = .ok (.ireturn, 1) := by decide +kernel
theorem dX7_frontOf_89 : decode cX7_frontOf 89 = .ok (.iload_n 2, 1) := by decide +kernel
theorem dX7_frontOf_90 : decode cX7_frontOf 90 = .ok (.ireturn, 1) := by decide +kernel
theorem dX7_harmTold_0 : decode cX7_harmTold 0 = .ok (.aload_n 0, 1) := by decide +kernel
theorem dX7_harmTold_1 : decode cX7_harmTold 1 = .ok (.getfield 22, 3) := by decide +kernel
theorem dX7_harmTold_4 : decode cX7_harmTold 4 = .ok (.bipush 104, 2) := by decide +kernel
theorem dX7_harmTold_6 : decode cX7_harmTold 6 = .ok (.iload_n 1, 1) := by decide +kernel
theorem dX7_harmTold_7 : decode cX7_harmTold 7 = .ok (.iastore, 1) := by decide +kernel
theorem dX7_harmTold_8 : decode cX7_harmTold 8 = .ok (.aload_n 0, 1) := by decide +kernel
theorem dX7_harmTold_9 : decode cX7_harmTold 9 = .ok (.getfield 22, 3) := by decide +kernel
theorem dX7_harmTold_12 : decode cX7_harmTold 12 = .ok (.bipush 121, 2) := by decide +kernel
theorem dX7_harmTold_14 : decode cX7_harmTold 14 = .ok (.iload_n 2, 1) := by decide +kernel
theorem dX7_harmTold_15 : decode cX7_harmTold 15 = .ok (.iastore, 1) := by decide +kernel
theorem dX7_harmTold_16 : decode cX7_harmTold 16 = .ok (.aload_n 0, 1) := by decide +kernel
theorem dX7_harmTold_17 : decode cX7_harmTold 17 = .ok (.getfield 22, 3) := by decide +kernel
theorem dX7_harmTold_20 : decode cX7_harmTold 20 = .ok (.bipush 111, 2) := by decide +kernel
theorem dX7_harmTold_22 : decode cX7_harmTold 22 = .ok (.iload_n 3, 1) := by decide +kernel
theorem dX7_harmTold_23 : decode cX7_harmTold 23 = .ok (.iastore, 1) := by decide +kernel
theorem dX7_harmTold_24 : decode cX7_harmTold 24 = .ok (.aload_n 0, 1) := by decide +kernel
theorem dX7_harmTold_25 : decode cX7_harmTold 25 = .ok (.iconst 0, 1) := by decide +kernel
theorem dX7_harmTold_26 : decode cX7_harmTold 26 = .ok (.invokevirtual 111, 3) := by decide +kernel
theorem dX7_harmTold_29 : decode cX7_harmTold 29 = .ok (.ifCond .eq 11, 3) := by decide +kernel
theorem dX7_harmTold_32 : decode cX7_harmTold 32 = .ok (.aload_n 0, 1) := by decide +kernel
theorem dX7_harmTold_33 : decode cX7_harmTold 33 = .ok (.iconst 0, 1) := by decide +kernel
theorem dX7_harmTold_34 : decode cX7_harmTold 34 = .ok (.invokevirtual 118, 3) := by decide +kernel
theorem dX7_harmTold_37 : decode cX7_harmTold 37 = .ok (.goto 4, 3) := by decide +kernel
theorem dX7_harmTold_40 : decode cX7_harmTold 40 = .ok (.iload_n 1, 1) := by decide +kernel
theorem dX7_harmTold_41 : decode cX7_harmTold 41 = .ok (.iconst 0, 1) := by decide +kernel
theorem dX7_harmTold_42 : decode cX7_harmTold 42 = .ok (.sipush 999, 3) := by decide +kernel
theorem dX7_harmTold_45 : decode cX7_harmTold 45 = .ok (.invokestatic 121, 3) := by decide +kernel
theorem dX7_harmTold_48 : decode cX7_harmTold 48 = .ok (.ireturn, 1) := by decide +kernel
theorem dX7_yardsTold_0 : decode cX7_yardsTold 0 = .ok (.aload_n 0, 1) := by decide +kernel
theorem dX7_yardsTold_1 : decode cX7_yardsTold 1 = .ok (.getfield 22, 3) := by decide +kernel
theorem dX7_yardsTold_4 : decode cX7_yardsTold 4 = .ok (.bipush 121, 2) := by decide +kernel
theorem dX7_yardsTold_6 : decode cX7_yardsTold 6 = .ok (.iload_n 1, 1) := by decide +kernel
theorem dX7_yardsTold_7 : decode cX7_yardsTold 7 = .ok (.iastore, 1) := by decide +kernel
theorem dX7_yardsTold_8 : decode cX7_yardsTold 8 = .ok (.aload_n 0, 1) := by decide +kernel
theorem dX7_yardsTold_9 : decode cX7_yardsTold 9 = .ok (.getfield 22, 3) := by decide +kernel
theorem dX7_yardsTold_12 : decode cX7_yardsTold 12 = .ok (.bipush 98, 2) := by decide +kernel
theorem dX7_yardsTold_14 : decode cX7_yardsTold 14 = .ok (.iload_n 2, 1) := by decide +kernel
theorem dX7_yardsTold_15 : decode cX7_yardsTold 15 = .ok (.iastore, 1) := by decide +kernel
theorem dX7_yardsTold_16 : decode cX7_yardsTold 16 = .ok (.aload_n 0, 1) := by decide +kernel
theorem dX7_yardsTold_17 : decode cX7_yardsTold 17 = .ok (.getfield 22, 3) := by decide +kernel
theorem dX7_yardsTold_20 : decode cX7_yardsTold 20 = .ok (.bipush 115, 2) := by decide +kernel
theorem dX7_yardsTold_22 : decode cX7_yardsTold 22 = .ok (.iload_n 3, 1) := by decide +kernel
theorem dX7_yardsTold_23 : decode cX7_yardsTold 23 = .ok (.iastore, 1) := by decide +kernel
theorem dX7_yardsTold_24 : decode cX7_yardsTold 24 = .ok (.aload_n 0, 1) := by decide +kernel
theorem dX7_yardsTold_25 : decode cX7_yardsTold 25 = .ok (.iconst 1, 1) := by decide +kernel
theorem dX7_yardsTold_26 : decode cX7_yardsTold 26 = .ok (.invokevirtual 111, 3) := by decide +kernel
theorem dX7_yardsTold_29 : decode cX7_yardsTold 29 = .ok (.ifCond .eq 11, 3) := by decide +kernel
theorem dX7_yardsTold_32 : decode cX7_yardsTold 32 = .ok (.aload_n 0, 1) := by decide +kernel
theorem dX7_yardsTold_33 : decode cX7_yardsTold 33 = .ok (.iconst 1, 1) := by decide +kernel
theorem dX7_yardsTold_34 : decode cX7_yardsTold 34 = .ok (.invokevirtual 118, 3) := by decide +kernel
theorem dX7_yardsTold_37 : decode cX7_yardsTold 37 = .ok (.goto 4, 3) := by decide +kernel
theorem dX7_yardsTold_40 : decode cX7_yardsTold 40 = .ok (.iload_n 1, 1) := by decide +kernel
theorem dX7_yardsTold_41 : decode cX7_yardsTold 41 = .ok (.iconst 1, 1) := by decide +kernel
theorem dX7_yardsTold_42 : decode cX7_yardsTold 42 = .ok (.bipush 99, 2) := by decide +kernel
theorem dX7_yardsTold_44 : decode cX7_yardsTold 44 = .ok (.invokestatic 121, 3) := by decide +kernel
theorem dX7_yardsTold_47 : decode cX7_yardsTold 47 = .ok (.ireturn, 1) := by decide +kernel
theorem dX7_harmOf_0 : decode cX7_harmOf 0 = .ok (.iload_n 2, 1) := by decide +kernel
theorem dX7_harmOf_1 : decode cX7_harmOf 1 = .ok (.aload_n 0, 1) := by decide +kernel
theorem dX7_harmOf_2 : decode cX7_harmOf 2 = .ok (.iload_n 1, 1) := by decide +kernel
theorem dX7_harmOf_3 : decode cX7_harmOf 3 = .ok (.iconst 2, 1) := by decide +kernel
theorem dX7_harmOf_4 : decode cX7_harmOf 4 = .ok (.invokevirtual 54, 3) := by decide +kernel
theorem dX7_harmOf_7 : decode cX7_harmOf 7 = .ok (.if_icmp .ne 7, 3) := by decide +kernel
theorem dX7_harmOf_10 : decode cX7_harmOf 10 = .ok (.iconst 0, 1) := by decide +kernel
theorem dX7_harmOf_11 : decode cX7_harmOf 11 = .ok (.goto 28, 3) := by decide +kernel
theorem dX7_harmOf_14 : decode cX7_harmOf 14 = .ok (.aload_n 0, 1) := by decide +kernel
theorem dX7_harmOf_15 : decode cX7_harmOf 15 = .ok (.aload_n 0, 1) := by decide +kernel
theorem dX7_harmOf_16 : decode cX7_harmOf 16 = .ok (.iload_n 1, 1) := by decide +kernel
theorem dX7_harmOf_17 : decode cX7_harmOf 17 = .ok (.iload_n 2, 1) := by decide +kernel
theorem dX7_harmOf_18 : decode cX7_harmOf 18 = .ok (.invokevirtual 124, 3) := by decide +kernel
theorem dX7_harmOf_21 : decode cX7_harmOf 21 = .ok (.aload_n 0, 1) := by decide +kernel
theorem dX7_harmOf_22 : decode cX7_harmOf 22 = .ok (.getfield 7, 3) := by decide +kernel
theorem dX7_harmOf_25 : decode cX7_harmOf 25 = .ok (.iconst 0, 1) := by decide +kernel
theorem dX7_harmOf_26 : decode cX7_harmOf 26 = .ok (.iaload, 1) := by decide +kernel
theorem dX7_harmOf_27 : decode cX7_harmOf 27 = .ok (.bipush 7, 2) := by decide +kernel
theorem dX7_harmOf_29 : decode cX7_harmOf 29 = .ok (.irem, 1) := by decide +kernel
theorem dX7_harmOf_30 : decode cX7_harmOf 30 = .ok (.aload_n 0, 1) := by decide +kernel
theorem dX7_harmOf_31 : decode cX7_harmOf 31 = .ok (.iload_n 1, 1) := by decide +kernel
theorem dX7_harmOf_32 : decode cX7_harmOf 32 = .ok (.iconst 2, 1) := by decide +kernel
theorem dX7_harmOf_33 : decode cX7_harmOf 33 = .ok (.invokevirtual 54, 3) := by decide +kernel
theorem dX7_harmOf_36 : decode cX7_harmOf 36 = .ok (.invokevirtual 127, 3) := by decide +kernel
theorem dX7_harmOf_39 : decode cX7_harmOf 39 = .ok (.ireturn, 1) := by decide +kernel
theorem dX7_yardsOf_0 : decode cX7_yardsOf 0 = .ok (.aload_n 0, 1) := by decide +kernel
theorem dX7_yardsOf_1 : decode cX7_yardsOf 1 = .ok (.aload_n 0, 1) := by decide +kernel
theorem dX7_yardsOf_2 : decode cX7_yardsOf 2 = .ok (.iload_n 1, 1) := by decide +kernel
theorem dX7_yardsOf_3 : decode cX7_yardsOf 3 = .ok (.invokevirtual 130, 3) := by decide +kernel
theorem dX7_yardsOf_6 : decode cX7_yardsOf 6 = .ok (.aload_n 0, 1) := by decide +kernel
theorem dX7_yardsOf_7 : decode cX7_yardsOf 7 = .ok (.iload_n 1, 1) := by decide +kernel
theorem dX7_yardsOf_8 : decode cX7_yardsOf 8 = .ok (.iconst 3, 1) := by decide +kernel
theorem dX7_yardsOf_9 : decode cX7_yardsOf 9 = .ok (.invokevirtual 54, 3) := by decide +kernel
theorem dX7_yardsOf_12 : decode cX7_yardsOf 12 = .ok (.aload_n 0, 1) := by decide +kernel
theorem dX7_yardsOf_13 : decode cX7_yardsOf 13 = .ok (.getfield 7, 3) := by decide +kernel
theorem dX7_yardsOf_16 : decode cX7_yardsOf 16 = .ok (.iconst 0, 1) := by decide +kernel
theorem dX7_yardsOf_17 : decode cX7_yardsOf 17 = .ok (.iaload, 1) := by decide +kernel
theorem dX7_yardsOf_18 : decode cX7_yardsOf 18 = .ok (.bipush 7, 2) := by decide +kernel
theorem dX7_yardsOf_20 : decode cX7_yardsOf 20 = .ok (.irem, 1) := by decide +kernel
theorem dX7_yardsOf_21 : decode cX7_yardsOf 21 = .ok (.invokevirtual 133, 3) := by decide +kernel
theorem dX7_yardsOf_24 : decode cX7_yardsOf 24 = .ok (.ireturn, 1) := by decide +kernel
theorem dX7_yardsAhead_0 : decode cX7_yardsAhead 0 = .ok (.iconst 0, 1) := by decide +kernel
theorem dX7_yardsAhead_1 : decode cX7_yardsAhead 1 = .ok (.istore_n 2, 1) := by decide +kernel
theorem dX7_yardsAhead_2 : decode cX7_yardsAhead 2 = .ok (.iconst 0, 1) := by decide +kernel
theorem dX7_yardsAhead_3 : decode cX7_yardsAhead 3 = .ok (.istore_n 3, 1) := by decide +kernel
theorem dX7_yardsAhead_4 : decode cX7_yardsAhead 4 = .ok (.iload_n 3, 1) := by decide +kernel
theorem dX7_yardsAhead_5 : decode cX7_yardsAhead 5 = .ok (.aload_n 0, 1) := by decide +kernel
theorem dX7_yardsAhead_6 : decode cX7_yardsAhead 6 = .ok (.getfield 7, 3) := by decide +kernel
theorem dX7_yardsAhead_9 : decode cX7_yardsAhead 9 = .ok (.iconst 5, 1) := by decide +kernel
theorem dX7_yardsAhead_10 : decode cX7_yardsAhead 10 = .ok (.iaload, 1) := by decide +kernel
theorem dX7_yardsAhead_11 : decode cX7_yardsAhead 11 = .ok (.if_icmp .ge 31, 3) := by decide +kernel
theorem dX7_yardsAhead_14 : decode cX7_yardsAhead 14 = .ok (.iload_n 2, 1) := by decide +kernel
theorem dX7_yardsAhead_15 : decode cX7_yardsAhead 15 = .ok (.aload_n 0, 1) := by decide +kernel
theorem dX7_yardsAhead_16 : decode cX7_yardsAhead 16 = .ok (.iload_n 3, 1) := by decide +kernel
theorem dX7_yardsAhead_17 : decode cX7_yardsAhead 17 = .ok (.iconst 3, 1) := by decide +kernel
theorem dX7_yardsAhead_18 : decode cX7_yardsAhead 18 = .ok (.invokevirtual 54, 3) := by decide +kernel
theorem dX7_yardsAhead_21 : decode cX7_yardsAhead 21 = .ok (.iload_n 1, 1) := by decide +kernel
theorem dX7_yardsAhead_22 : decode cX7_yardsAhead 22 = .ok (.if_icmp .ge 11, 3) := by decide +kernel
theorem dX7_yardsAhead_25 : decode cX7_yardsAhead 25 = .ok (.aload_n 0, 1) := by decide +kernel
theorem dX7_yardsAhead_26 : decode cX7_yardsAhead 26 = .ok (.iload_n 3, 1) := by decide +kernel
theorem dX7_yardsAhead_27 : decode cX7_yardsAhead 27 = .ok (.invokevirtual 136, 3) := by decide +kernel
theorem dX7_yardsAhead_30 : decode cX7_yardsAhead 30 = .ok (.goto 4, 3) := by decide +kernel
theorem dX7_yardsAhead_33 : decode cX7_yardsAhead 33 = .ok (.iconst 0, 1) := by decide +kernel
theorem dX7_yardsAhead_34 : decode cX7_yardsAhead 34 = .ok (.iadd, 1) := by decide +kernel
theorem dX7_yardsAhead_35 : decode cX7_yardsAhead 35 = .ok (.istore_n 2, 1) := by decide +kernel
theorem dX7_yardsAhead_36 : decode cX7_yardsAhead 36 = .ok (.iinc 3 1, 3) := by decide +kernel
theorem dX7_yardsAhead_39 : decode cX7_yardsAhead 39 = .ok (.goto (-35), 3) := by decide +kernel
theorem dX7_yardsAhead_42 : decode cX7_yardsAhead 42 = .ok (.iload_n 2, 1) := by decide +kernel
theorem dX7_yardsAhead_43 : decode cX7_yardsAhead 43 = .ok (.ireturn, 1) := by decide +kernel
theorem dX7_isKind_0 : decode cX7_isKind 0 = .ok (.iload_n 0, 1) := by decide +kernel
theorem dX7_isKind_1 : decode cX7_isKind 1 = .ok (.iconst 0, 1) := by decide +kernel
theorem dX7_isKind_2 : decode cX7_isKind 2 = .ok (.bipush 69, 2) := by decide +kernel
theorem dX7_isKind_4 : decode cX7_isKind 4 = .ok (.invokestatic 50, 3) := by decide +kernel
theorem dX7_isKind_7 : decode cX7_isKind 7 = .ok (.ireturn, 1) := by decide +kernel
theorem dX7_comes_0 : decode cX7_comes 0 = .ok (.iconst 0, 1) := by decide +kernel
theorem dX7_comes_1 : decode cX7_comes 1 = .ok (.istore 4, 2) := by decide +kernel
theorem dX7_comes_3 : decode cX7_comes 3 = .ok (.iload 4, 2) := by decide +kernel
theorem dX7_comes_5 : decode cX7_comes 5 = .ok (.aload_n 0, 1) := by decide +kernel
theorem dX7_comes_6 : decode cX7_comes 6 = .ok (.getfield 7, 3) := by decide +kernel
theorem dX7_comes_9 : decode cX7_comes 9 = .ok (.iconst 5, 1) := by decide +kernel
theorem dX7_comes_10 : decode cX7_comes 10 = .ok (.iaload, 1) := by decide +kernel
theorem dX7_comes_11 : decode cX7_comes 11 = .ok (.if_icmp .ge 40, 3) := by decide +kernel
theorem dX7_comes_14 : decode cX7_comes 14 = .ok (.aload_n 0, 1) := by decide +kernel
theorem dX7_comes_15 : decode cX7_comes 15 = .ok (.iload 4, 2) := by decide +kernel
theorem dX7_comes_17 : decode cX7_comes 17 = .ok (.iconst 3, 1) := by decide +kernel
theorem dX7_comes_18 : decode cX7_comes 18 = .ok (.aload_n 0, 1) := by decide +kernel
theorem dX7_comes_19 : decode cX7_comes 19 = .ok (.iload 4, 2) := by decide +kernel
theorem dX7_comes_21 : decode cX7_comes 21 = .ok (.iconst 3, 1) := by decide +kernel
theorem dX7_comes_22 : decode cX7_comes 22 = .ok (.invokevirtual 54, 3) := by decide +kernel
theorem dX7_comes_25 : decode cX7_comes 25 = .ok (.aload_n 0, 1) := by decide +kernel
theorem dX7_comes_26 : decode cX7_comes 26 = .ok (.iload 4, 2) := by decide +kernel
theorem dX7_comes_28 : decode cX7_comes 28 = .ok (.iconst 3, 1) := by decide +kernel
theorem dX7_comes_29 : decode cX7_comes 29 = .ok (.invokevirtual 54, 3) := by decide +kernel
theorem dX7_comes_32 : decode cX7_comes 32 = .ok (.iload_n 2, 1) := by decide +kernel
theorem dX7_comes_33 : decode cX7_comes 33 = .ok (.if_icmp .ge 7, 3) := by decide +kernel
theorem dX7_comes_36 : decode cX7_comes 36 = .ok (.iconst 0, 1) := by decide +kernel
theorem dX7_comes_37 : decode cX7_comes 37 = .ok (.goto 4, 3) := by decide +kernel
theorem dX7_comes_40 : decode cX7_comes 40 = .ok (.iconst 1, 1) := by decide +kernel
theorem dX7_comes_41 : decode cX7_comes 41 = .ok (.iadd, 1) := by decide +kernel
theorem dX7_comes_42 : decode cX7_comes 42 = .ok (.invokevirtual 139, 3) := by decide +kernel
theorem dX7_comes_45 : decode cX7_comes 45 = .ok (.iinc 4 1, 3) := by decide +kernel
theorem dX7_comes_48 : decode cX7_comes 48 = .ok (.goto (-45), 3) := by decide +kernel
theorem dX7_comes_51 : decode cX7_comes 51 = .ok (.aload_n 0, 1) := by decide +kernel
theorem dX7_comes_52 : decode cX7_comes 52 = .ok (.getfield 7, 3) := by decide +kernel
theorem dX7_comes_55 : decode cX7_comes 55 = .ok (.iconst 5, 1) := by decide +kernel
theorem dX7_comes_56 : decode cX7_comes 56 = .ok (.iaload, 1) := by decide +kernel
theorem dX7_comes_57 : decode cX7_comes 57 = .ok (.istore 4, 2) := by decide +kernel
theorem dX7_comes_59 : decode cX7_comes 59 = .ok (.aload_n 0, 1) := by decide +kernel
theorem dX7_comes_60 : decode cX7_comes 60 = .ok (.iload 4, 2) := by decide +kernel
theorem dX7_comes_62 : decode cX7_comes 62 = .ok (.iconst 0, 1) := by decide +kernel
theorem dX7_comes_63 : decode cX7_comes 63 = .ok (.iload_n 1, 1) := by decide +kernel
theorem dX7_comes_64 : decode cX7_comes 64 = .ok (.bipush 10, 2) := by decide +kernel
theorem dX7_comes_66 : decode cX7_comes 66 = .ok (.idiv, 1) := by decide +kernel
theorem dX7_comes_67 : decode cX7_comes 67 = .ok (.invokevirtual 139, 3) := by decide +kernel
theorem dX7_comes_70 : decode cX7_comes 70 = .ok (.aload_n 0, 1) := by decide +kernel
theorem dX7_comes_71 : decode cX7_comes 71 = .ok (.iload 4, 2) := by decide +kernel
theorem dX7_comes_73 : decode cX7_comes 73 = .ok (.iconst 1, 1) := by decide +kernel
theorem dX7_comes_74 : decode cX7_comes 74 = .ok (.iload_n 1, 1) := by decide +kernel
theorem dX7_comes_75 : decode cX7_comes 75 = .ok (.bipush 10, 2) := by decide +kernel
theorem dX7_comes_77 : decode cX7_comes 77 = .ok (.irem, 1) := by decide +kernel
theorem dX7_comes_78 : decode cX7_comes 78 = .ok (.invokevirtual 139, 3) := by decide +kernel
theorem dX7_comes_81 : decode cX7_comes 81 = .ok (.aload_n 0, 1) := by decide +kernel
theorem dX7_comes_82 : decode cX7_comes 82 = .ok (.iload 4, 2) := by decide +kernel
theorem dX7_comes_84 : decode cX7_comes 84 = .ok (.iconst 2, 1) := by decide +kernel
theorem dX7_comes_85 : decode cX7_comes 85 = .ok (.iload_n 3, 1) := by decide +kernel
theorem dX7_comes_86 : decode cX7_comes 86 = .ok (.invokevirtual 139, 3) := by decide +kernel
theorem dX7_comes_89 : decode cX7_comes 89 = .ok (.aload_n 0, 1) := by decide +kernel
theorem dX7_comes_90 : decode cX7_comes 90 = .ok (.iload 4, 2) := by decide +kernel
theorem dX7_comes_92 : decode cX7_comes 92 = .ok (.iconst 3, 1) := by decide +kernel
theorem dX7_comes_93 : decode cX7_comes 93 = .ok (.iload_n 2, 1) := by decide +kernel
theorem dX7_comes_94 : decode cX7_comes 94 = .ok (.invokevirtual 139, 3) := by decide +kernel
theorem dX7_comes_97 : decode cX7_comes 97 = .ok (.aload_n 0, 1) := by decide +kernel
theorem dX7_comes_98 : decode cX7_comes 98 = .ok (.getfield 7, 3) := by decide +kernel
theorem dX7_comes_101 : decode cX7_comes 101 = .ok (.iconst 5, 1) := by decide +kernel
theorem dX7_comes_102 : decode cX7_comes 102 = .ok (.dup2, 1) := by decide +kernel
theorem dX7_comes_103 : decode cX7_comes 103 = .ok (.iaload, 1) := by decide +kernel
theorem dX7_comes_104 : decode cX7_comes 104 = .ok (.iconst 1, 1) := by decide +kernel
theorem dX7_comes_105 : decode cX7_comes 105 = .ok (.iadd, 1) := by decide +kernel
theorem dX7_comes_106 : decode cX7_comes 106 = .ok (.iastore, 1) := by decide +kernel
theorem dX7_comes_107 : decode cX7_comes 107 = .ok (.return_, 1) := by decide +kernel
theorem dX7_build_0 : decode cX7_build 0 = .ok (.iload_n 1, 1) := by decide +kernel
theorem dX7_build_1 : decode cX7_build 1 = .ok (.invokestatic 143, 3) := by decide +kernel
theorem dX7_build_4 : decode cX7_build 4 = .ok (.ifCond .eq 24, 3) := by decide +kernel
theorem dX7_build_7 : decode cX7_build 7 = .ok (.iload_n 2, 1) := by decide +kernel
theorem dX7_build_8 : decode cX7_build 8 = .ok (.iconst 0, 1) := by decide +kernel
theorem dX7_build_9 : decode cX7_build 9 = .ok (.aload_n 0, 1) := by decide +kernel
theorem dX7_build_10 : decode cX7_build 10 = .ok (.getfield 7, 3) := by decide +kernel
theorem dX7_build_13 : decode cX7_build 13 = .ok (.iconst 5, 1) := by decide +kernel
theorem dX7_build_14 : decode cX7_build 14 = .ok (.iaload, 1) := by decide +kernel
theorem dX7_build_15 : decode cX7_build 15 = .ok (.invokestatic 50, 3) := by decide +kernel
theorem dX7_build_18 : decode cX7_build 18 = .ok (.ifCond .eq 10, 3) := by decide +kernel
theorem dX7_build_21 : decode cX7_build 21 = .ok (.iload_n 3, 1) := by decide +kernel
theorem dX7_build_22 : decode cX7_build 22 = .ok (.invokestatic 146, 3) := by decide +kernel
theorem dX7_build_25 : decode cX7_build 25 = .ok (.ifCond .ne 9, 3) := by decide +kernel
theorem dX7_build_28 : decode cX7_build 28 = .ok (.aload_n 0, 1) := by decide +kernel
theorem dX7_build_29 : decode cX7_build 29 = .ok (.iconst 1, 1) := by decide +kernel
theorem dX7_build_30 : decode cX7_build 30 = .ok (.invokevirtual 58, 3) := by decide +kernel
theorem dX7_build_33 : decode cX7_build 33 = .ok (.ireturn, 1) := by decide +kernel
theorem dX7_build_34 : decode cX7_build 34 = .ok (.aload_n 0, 1) := by decide +kernel
theorem dX7_build_35 : decode cX7_build 35 = .ok (.getfield 7, 3) := by decide +kernel
theorem dX7_build_38 : decode cX7_build 38 = .ok (.iconst 5, 1) := by decide +kernel
theorem dX7_build_39 : decode cX7_build 39 = .ok (.iaload, 1) := by decide +kernel
theorem dX7_build_40 : decode cX7_build 40 = .ok (.bipush 10, 2) := by decide +kernel
theorem dX7_build_42 : decode cX7_build 42 = .ok (.if_icmp .ne 9, 3) := by decide +kernel
theorem dX7_build_45 : decode cX7_build 45 = .ok (.aload_n 0, 1) := by decide +kernel
theorem dX7_build_46 : decode cX7_build 46 = .ok (.iconst 4, 1) := by decide +kernel
theorem dX7_build_47 : decode cX7_build 47 = .ok (.invokevirtual 58, 3) := by decide +kernel
theorem dX7_build_50 : decode cX7_build 50 = .ok (.ireturn, 1) := by decide +kernel
theorem dX7_build_51 : decode cX7_build 51 = .ok (.aload_n 0, 1) := by decide +kernel
theorem dX7_build_52 : decode cX7_build 52 = .ok (.iload_n 1, 1) := by decide +kernel
theorem dX7_build_53 : decode cX7_build 53 = .ok (.iload_n 2, 1) := by decide +kernel
theorem dX7_build_54 : decode cX7_build 54 = .ok (.iload_n 3, 1) := by decide +kernel
theorem dX7_build_55 : decode cX7_build 55 = .ok (.invokevirtual 149, 3) := by decide +kernel
theorem dX7_build_58 : decode cX7_build 58 = .ok (.aload_n 0, 1) := by decide +kernel
theorem dX7_build_59 : decode cX7_build 59 = .ok (.getfield 7, 3) := by decide +kernel
theorem dX7_build_62 : decode cX7_build 62 = .ok (.iconst 5, 1) := by decide +kernel
theorem dX7_build_63 : decode cX7_build 63 = .ok (.iaload, 1) := by decide +kernel
theorem dX7_build_64 : decode cX7_build 64 = .ok (.iconst 1, 1) := by decide +kernel
theorem dX7_build_65 : decode cX7_build 65 = .ok (.isub, 1) := by decide +kernel
theorem dX7_build_66 : decode cX7_build 66 = .ok (.ireturn, 1) := by decide +kernel
theorem dX7_houseIs_0 : decode cX7_houseIs 0 = .ok (.aload_n 0, 1) := by decide +kernel
theorem dX7_houseIs_1 : decode cX7_houseIs 1 = .ok (.iload_n 1, 1) := by decide +kernel
theorem dX7_houseIs_2 : decode cX7_houseIs 2 = .ok (.invokevirtual 152, 3) := by decide +kernel
theorem dX7_houseIs_5 : decode cX7_houseIs 5 = .ok (.ifCond .eq 12, 3) := by decide +kernel
theorem dX7_houseIs_8 : decode cX7_houseIs 8 = .ok (.iload_n 2, 1) := by decide +kernel
theorem dX7_houseIs_9 : decode cX7_houseIs 9 = .ok (.iconst 0, 1) := by decide +kernel
theorem dX7_houseIs_10 : decode cX7_houseIs 10 = .ok (.iconst 5, 1) := by decide +kernel
theorem dX7_houseIs_11 : decode cX7_houseIs 11 = .ok (.invokestatic 50, 3) := by decide +kernel
theorem dX7_houseIs_14 : decode cX7_houseIs 14 = .ok (.ifCond .ne 9, 3) := by decide +kernel
theorem dX7_houseIs_17 : decode cX7_houseIs 17 = .ok (.aload_n 0, 1) := by decide +kernel
theorem dX7_houseIs_18 : decode cX7_houseIs 18 = .ok (.iconst 1, 1) := by decide +kernel
theorem dX7_houseIs_19 : decode cX7_houseIs 19 = .ok (.invokevirtual 58, 3) := by decide +kernel
theorem dX7_houseIs_22 : decode cX7_houseIs 22 = .ok (.ireturn, 1) := by decide +kernel
theorem dX7_houseIs_23 : decode cX7_houseIs 23 = .ok (.iload_n 2, 1) := by decide +kernel
theorem dX7_houseIs_24 : decode cX7_houseIs 24 = .ok (.iconst 4, 1) := by decide +kernel
theorem dX7_houseIs_25 : decode cX7_houseIs 25 = .ok (.if_icmp .ge 12, 3) := by decide +kernel
theorem dX7_houseIs_28 : decode cX7_houseIs 28 = .ok (.aload_n 0, 1) := by decide +kernel
theorem dX7_houseIs_29 : decode cX7_houseIs 29 = .ok (.iload_n 1, 1) := by decide +kernel
theorem dX7_houseIs_30 : decode cX7_houseIs 30 = .ok (.iload_n 2, 1) := by decide +kernel
theorem dX7_houseIs_31 : decode cX7_houseIs 31 = .ok (.invokevirtual 54, 3) := by decide +kernel
theorem dX7_houseIs_34 : decode cX7_houseIs 34 = .ok (.goto 26, 3) := by decide +kernel
theorem dX7_houseIs_37 : decode cX7_houseIs 37 = .ok (.iload_n 2, 1) := by decide +kernel
theorem dX7_houseIs_38 : decode cX7_houseIs 38 = .ok (.iconst 4, 1) := by decide +kernel
theorem dX7_houseIs_39 : decode cX7_houseIs 39 = .ok (.if_icmp .ne 11, 3) := by decide +kernel
theorem dX7_houseIs_42 : decode cX7_houseIs 42 = .ok (.aload_n 0, 1) := by decide +kernel
theorem dX7_houseIs_43 : decode cX7_houseIs 43 = .ok (.iload_n 1, 1) := by decide +kernel
theorem dX7_houseIs_44 : decode cX7_houseIs 44 = .ok (.invokevirtual 136, 3) := by decide +kernel
theorem dX7_houseIs_47 : decode cX7_houseIs 47 = .ok (.goto 13, 3) := by decide +kernel
theorem dX7_houseIs_50 : decode cX7_houseIs 50 = .ok (.aload_n 0, 1) := by decide +kernel
theorem dX7_houseIs_51 : decode cX7_houseIs 51 = .ok (.aload_n 0, 1) := by decide +kernel
theorem dX7_houseIs_52 : decode cX7_houseIs 52 = .ok (.iload_n 1, 1) := by decide +kernel
theorem dX7_houseIs_53 : decode cX7_houseIs 53 = .ok (.iconst 3, 1) := by decide +kernel
theorem dX7_houseIs_54 : decode cX7_houseIs 54 = .ok (.invokevirtual 54, 3) := by decide +kernel
theorem dX7_houseIs_57 : decode cX7_houseIs 57 = .ok (.invokevirtual 155, 3) := by decide +kernel
theorem dX7_houseIs_60 : decode cX7_houseIs 60 = .ok (.ireturn, 1) := by decide +kernel
theorem dX7_standing_0 : decode cX7_standing 0 = .ok (.aload_n 0, 1) := by decide +kernel
theorem dX7_standing_1 : decode cX7_standing 1 = .ok (.iload_n 1, 1) := by decide +kernel
theorem dX7_standing_2 : decode cX7_standing 2 = .ok (.invokevirtual 152, 3) := by decide +kernel
theorem dX7_standing_5 : decode cX7_standing 5 = .ok (.ifCond .eq 11, 3) := by decide +kernel
theorem dX7_standing_8 : decode cX7_standing 8 = .ok (.aload_n 0, 1) := by decide +kernel
theorem dX7_standing_9 : decode cX7_standing 9 = .ok (.iload_n 1, 1) := by decide +kernel
theorem dX7_standing_10 : decode cX7_standing 10 = .ok (.invokevirtual 158, 3) := by decide +kernel
theorem dX7_standing_13 : decode cX7_standing 13 = .ok (.goto 8, 3) := by decide +kernel
theorem dX7_standing_16 : decode cX7_standing 16 = .ok (.aload_n 0, 1) := by decide +kernel
theorem dX7_standing_17 : decode cX7_standing 17 = .ok (.iconst 1, 1) := by decide +kernel
theorem dX7_standing_18 : decode cX7_standing 18 = .ok (.invokevirtual 58, 3) := by decide +kernel
theorem dX7_standing_21 : decode cX7_standing 21 = .ok (.ireturn, 1) := by decide +kernel
theorem dX7_become_0 : decode cX7_become 0 = .ok (.aload_n 0, 1) := by decide +kernel
theorem dX7_become_1 : decode cX7_become 1 = .ok (.iload_n 1, 1) := by decide +kernel
theorem dX7_become_2 : decode cX7_become 2 = .ok (.invokevirtual 152, 3) := by decide +kernel
theorem dX7_become_5 : decode cX7_become 5 = .ok (.ifCond .eq 10, 3) := by decide +kernel
theorem dX7_become_8 : decode cX7_become 8 = .ok (.iload_n 2, 1) := by decide +kernel
theorem dX7_become_9 : decode cX7_become 9 = .ok (.invokestatic 143, 3) := by decide +kernel
theorem dX7_become_12 : decode cX7_become 12 = .ok (.ifCond .ne 9, 3) := by decide +kernel
theorem dX7_become_15 : decode cX7_become 15 = .ok (.aload_n 0, 1) := by decide +kernel
theorem dX7_become_16 : decode cX7_become 16 = .ok (.iconst 1, 1) := by decide +kernel
theorem dX7_become_17 : decode cX7_become 17 = .ok (.invokevirtual 58, 3) := by decide +kernel
theorem dX7_become_20 : decode cX7_become 20 = .ok (.ireturn, 1) := by decide +kernel
theorem dX7_become_21 : decode cX7_become 21 = .ok (.aload_n 0, 1) := by decide +kernel
theorem dX7_become_22 : decode cX7_become 22 = .ok (.iload_n 1, 1) := by decide +kernel
theorem dX7_become_23 : decode cX7_become 23 = .ok (.iconst 1, 1) := by decide +kernel
theorem dX7_become_24 : decode cX7_become 24 = .ok (.iload_n 2, 1) := by decide +kernel
theorem dX7_become_25 : decode cX7_become 25 = .ok (.bipush 10, 2) := by decide +kernel
theorem dX7_become_27 : decode cX7_become 27 = .ok (.irem, 1) := by decide +kernel
theorem dX7_become_28 : decode cX7_become 28 = .ok (.invokevirtual 139, 3) := by decide +kernel
theorem dX7_become_31 : decode cX7_become 31 = .ok (.aload_n 0, 1) := by decide +kernel
theorem dX7_become_32 : decode cX7_become 32 = .ok (.bipush 8, 2) := by decide +kernel
theorem dX7_become_34 : decode cX7_become 34 = .ok (.iconst 4, 1) := by decide +kernel
theorem dX7_become_35 : decode cX7_become 35 = .ok (.iload_n 1, 1) := by decide +kernel
theorem dX7_become_36 : decode cX7_become 36 = .ok (.imul, 1) := by decide +kernel
theorem dX7_become_37 : decode cX7_become 37 = .ok (.iadd, 1) := by decide +kernel
theorem dX7_become_38 : decode cX7_become 38 = .ok (.iconst 0, 1) := by decide +kernel
theorem dX7_become_39 : decode cX7_become 39 = .ok (.iadd, 1) := by decide +kernel
theorem dX7_become_40 : decode cX7_become 40 = .ok (.iload_n 2, 1) := by decide +kernel
theorem dX7_become_41 : decode cX7_become 41 = .ok (.bipush 10, 2) := by decide +kernel
theorem dX7_become_43 : decode cX7_become 43 = .ok (.idiv, 1) := by decide +kernel
theorem dX7_become_44 : decode cX7_become 44 = .ok (.invokevirtual 161, 3) := by decide +kernel
theorem dX7_become_47 : decode cX7_become 47 = .ok (.ireturn, 1) := by decide +kernel
theorem dX7_as_0 : decode cX7_as 0 = .ok (.aload_n 0, 1) := by decide +kernel
theorem dX7_as_1 : decode cX7_as 1 = .ok (.iload_n 1, 1) := by decide +kernel
theorem dX7_as_2 : decode cX7_as 2 = .ok (.invokevirtual 152, 3) := by decide +kernel
theorem dX7_as_5 : decode cX7_as 5 = .ok (.ifCond .eq 13, 3) := by decide +kernel
theorem dX7_as_8 : decode cX7_as 8 = .ok (.iload_n 2, 1) := by decide +kernel
theorem dX7_as_9 : decode cX7_as 9 = .ok (.iconst 0, 1) := by decide +kernel
theorem dX7_as_10 : decode cX7_as 10 = .ok (.bipush 6, 2) := by decide +kernel
theorem dX7_as_12 : decode cX7_as 12 = .ok (.invokestatic 50, 3) := by decide +kernel
theorem dX7_as_15 : decode cX7_as 15 = .ok (.ifCond .ne 9, 3) := by decide +kernel
theorem dX7_as_18 : decode cX7_as 18 = .ok (.aload_n 0, 1) := by decide +kernel
theorem dX7_as_19 : decode cX7_as 19 = .ok (.iconst 1, 1) := by decide +kernel
theorem dX7_as_20 : decode cX7_as 20 = .ok (.invokevirtual 58, 3) := by decide +kernel
theorem dX7_as_23 : decode cX7_as 23 = .ok (.ireturn, 1) := by decide +kernel
theorem dX7_as_24 : decode cX7_as 24 = .ok (.aload_n 0, 1) := by decide +kernel
theorem dX7_as_25 : decode cX7_as 25 = .ok (.iload_n 1, 1) := by decide +kernel
theorem dX7_as_26 : decode cX7_as 26 = .ok (.iconst 0, 1) := by decide +kernel
theorem dX7_as_27 : decode cX7_as 27 = .ok (.invokevirtual 54, 3) := by decide +kernel
theorem dX7_as_30 : decode cX7_as 30 = .ok (.istore_n 3, 1) := by decide +kernel
theorem dX7_as_31 : decode cX7_as 31 = .ok (.iload_n 3, 1) := by decide +kernel
theorem dX7_as_32 : decode cX7_as 32 = .ok (.iload_n 2, 1) := by decide +kernel
theorem dX7_as_33 : decode cX7_as 33 = .ok (.if_icmp .eq 15, 3) := by decide +kernel
theorem dX7_as_36 : decode cX7_as 36 = .ok (.iload_n 3, 1) := by decide +kernel
theorem dX7_as_37 : decode cX7_as 37 = .ok (.ifCond .eq 11, 3) := by decide +kernel
theorem dX7_as_40 : decode cX7_as 40 = .ok (.iload_n 3, 1) := by decide +kernel
theorem dX7_as_41 : decode cX7_as 41 = .ok (.invokestatic 164, 3) := by decide +kernel
theorem dX7_as_44 : decode cX7_as 44 = .ok (.istore_n 3, 1) := by decide +kernel
theorem dX7_as_45 : decode cX7_as 45 = .ok (.goto (-14), 3) := by decide +kernel
theorem dX7_as_48 : decode cX7_as 48 = .ok (.iload_n 3, 1) := by decide +kernel
theorem dX7_as_49 : decode cX7_as 49 = .ok (.iload_n 2, 1) := by decide +kernel
theorem dX7_as_50 : decode cX7_as 50 = .ok (.if_icmp .ne 12, 3) := by decide +kernel
theorem dX7_as_53 : decode cX7_as 53 = .ok (.aload_n 0, 1) := by decide +kernel
theorem dX7_as_54 : decode cX7_as 54 = .ok (.iload_n 1, 1) := by decide +kernel
theorem dX7_as_55 : decode cX7_as 55 = .ok (.iconst 1, 1) := by decide +kernel
theorem dX7_as_56 : decode cX7_as 56 = .ok (.invokevirtual 54, 3) := by decide +kernel
theorem dX7_as_59 : decode cX7_as 59 = .ok (.goto 8, 3) := by decide +kernel
theorem dX7_as_62 : decode cX7_as 62 = .ok (.aload_n 0, 1) := by decide +kernel
theorem dX7_as_63 : decode cX7_as 63 = .ok (.iconst 5, 1) := by decide +kernel
theorem dX7_as_64 : decode cX7_as 64 = .ok (.invokevirtual 58, 3) := by decide +kernel
theorem dX7_as_67 : decode cX7_as 67 = .ok (.ireturn, 1) := by decide +kernel
theorem dX7_harm_0 : decode cX7_harm 0 = .ok (.aload_n 0, 1) := by decide +kernel
theorem dX7_harm_1 : decode cX7_harm 1 = .ok (.iload_n 1, 1) := by decide +kernel
theorem dX7_harm_2 : decode cX7_harm 2 = .ok (.invokevirtual 152, 3) := by decide +kernel
theorem dX7_harm_5 : decode cX7_harm 5 = .ok (.ifCond .eq 19, 3) := by decide +kernel
theorem dX7_harm_8 : decode cX7_harm 8 = .ok (.iload_n 2, 1) := by decide +kernel
theorem dX7_harm_9 : decode cX7_harm 9 = .ok (.invokestatic 146, 3) := by decide +kernel
theorem dX7_harm_12 : decode cX7_harm 12 = .ok (.ifCond .eq 12, 3) := by decide +kernel
theorem dX7_harm_15 : decode cX7_harm 15 = .ok (.aload_n 0, 1) := by decide +kernel
theorem dX7_harm_16 : decode cX7_harm 16 = .ok (.iload_n 1, 1) := by decide +kernel
theorem dX7_harm_17 : decode cX7_harm 17 = .ok (.iload_n 2, 1) := by decide +kernel
theorem dX7_harm_18 : decode cX7_harm 18 = .ok (.invokevirtual 167, 3) := by decide +kernel
theorem dX7_harm_21 : decode cX7_harm 21 = .ok (.goto 8, 3) := by decide +kernel
theorem dX7_harm_24 : decode cX7_harm 24 = .ok (.aload_n 0, 1) := by decide +kernel
theorem dX7_harm_25 : decode cX7_harm 25 = .ok (.iconst 1, 1) := by decide +kernel
theorem dX7_harm_26 : decode cX7_harm 26 = .ok (.invokevirtual 58, 3) := by decide +kernel
theorem dX7_harm_29 : decode cX7_harm 29 = .ok (.ireturn, 1) := by decide +kernel
theorem dX7_gets_0 : decode cX7_gets 0 = .ok (.aload_n 0, 1) := by decide +kernel
theorem dX7_gets_1 : decode cX7_gets 1 = .ok (.iload_n 1, 1) := by decide +kernel
theorem dX7_gets_2 : decode cX7_gets 2 = .ok (.iload_n 2, 1) := by decide +kernel
theorem dX7_gets_3 : decode cX7_gets 3 = .ok (.invokevirtual 167, 3) := by decide +kernel
theorem dX7_gets_6 : decode cX7_gets 6 = .ok (.istore_n 3, 1) := by decide +kernel
theorem dX7_gets_7 : decode cX7_gets 7 = .ok (.aload_n 0, 1) := by decide +kernel
theorem dX7_gets_8 : decode cX7_gets 8 = .ok (.getfield 7, 3) := by decide +kernel
theorem dX7_gets_11 : decode cX7_gets 11 = .ok (.iconst 1, 1) := by decide +kernel
theorem dX7_gets_12 : decode cX7_gets 12 = .ok (.aload_n 0, 1) := by decide +kernel
theorem dX7_gets_13 : decode cX7_gets 13 = .ok (.getfield 7, 3) := by decide +kernel
theorem dX7_gets_16 : decode cX7_gets 16 = .ok (.iconst 1, 1) := by decide +kernel
theorem dX7_gets_17 : decode cX7_gets 17 = .ok (.iaload, 1) := by decide +kernel
theorem dX7_gets_18 : decode cX7_gets 18 = .ok (.iload_n 3, 1) := by decide +kernel
theorem dX7_gets_19 : decode cX7_gets 19 = .ok (.iadd, 1) := by decide +kernel
theorem dX7_gets_20 : decode cX7_gets 20 = .ok (.iconst 0, 1) := by decide +kernel
theorem dX7_gets_21 : decode cX7_gets 21 = .ok (.ldc 170, 2) := by decide +kernel
theorem dX7_gets_23 : decode cX7_gets 23 = .ok (.invokestatic 121, 3) := by decide +kernel
theorem dX7_gets_26 : decode cX7_gets 26 = .ok (.iastore, 1) := by decide +kernel
theorem dX7_gets_27 : decode cX7_gets 27 = .ok (.aload_n 0, 1) := by decide +kernel
theorem dX7_gets_28 : decode cX7_gets 28 = .ok (.iload_n 1, 1) := by decide +kernel
theorem dX7_gets_29 : decode cX7_gets 29 = .ok (.iconst 2, 1) := by decide +kernel
theorem dX7_gets_30 : decode cX7_gets 30 = .ok (.iload_n 2, 1) := by decide +kernel
theorem dX7_gets_31 : decode cX7_gets 31 = .ok (.invokevirtual 139, 3) := by decide +kernel
theorem dX7_gets_34 : decode cX7_gets 34 = .ok (.iload_n 3, 1) := by decide +kernel
theorem dX7_gets_35 : decode cX7_gets 35 = .ok (.ireturn, 1) := by decide +kernel
theorem dX7_renames_0 : decode cX7_renames 0 = .ok (.aload_n 0, 1) := by decide +kernel
theorem dX7_renames_1 : decode cX7_renames 1 = .ok (.iload_n 1, 1) := by decide +kernel
theorem dX7_renames_2 : decode cX7_renames 2 = .ok (.invokevirtual 152, 3) := by decide +kernel
theorem dX7_renames_5 : decode cX7_renames 5 = .ok (.ifCond .eq 19, 3) := by decide +kernel
theorem dX7_renames_8 : decode cX7_renames 8 = .ok (.iload_n 2, 1) := by decide +kernel
theorem dX7_renames_9 : decode cX7_renames 9 = .ok (.invokestatic 146, 3) := by decide +kernel
theorem dX7_renames_12 : decode cX7_renames 12 = .ok (.ifCond .eq 12, 3) := by decide +kernel
theorem dX7_renames_15 : decode cX7_renames 15 = .ok (.aload_n 0, 1) := by decide +kernel
theorem dX7_renames_16 : decode cX7_renames 16 = .ok (.iload_n 1, 1) := by decide +kernel
theorem dX7_renames_17 : decode cX7_renames 17 = .ok (.iload_n 2, 1) := by decide +kernel
theorem dX7_renames_18 : decode cX7_renames 18 = .ok (.invokevirtual 171, 3) := by decide +kernel
theorem dX7_renames_21 : decode cX7_renames 21 = .ok (.goto 8, 3) := by decide +kernel
theorem dX7_renames_24 : decode cX7_renames 24 = .ok (.aload_n 0, 1) := by decide +kernel
theorem dX7_renames_25 : decode cX7_renames 25 = .ok (.iconst 1, 1) := by decide +kernel
theorem dX7_renames_26 : decode cX7_renames 26 = .ok (.invokevirtual 58, 3) := by decide +kernel
theorem dX7_renames_29 : decode cX7_renames 29 = .ok (.ireturn, 1) := by decide +kernel
theorem dX7_year_0 : decode cX7_year 0 = .ok (.iload_n 1, 1) := by decide +kernel
theorem dX7_year_1 : decode cX7_year 1 = .ok (.iconst 0, 1) := by decide +kernel
theorem dX7_year_2 : decode cX7_year 2 = .ok (.sipush 9999, 3) := by decide +kernel
theorem dX7_year_5 : decode cX7_year 5 = .ok (.invokestatic 50, 3) := by decide +kernel
theorem dX7_year_8 : decode cX7_year 8 = .ok (.ifCond .eq 12, 3) := by decide +kernel
theorem dX7_year_11 : decode cX7_year 11 = .ok (.aload_n 0, 1) := by decide +kernel
theorem dX7_year_12 : decode cX7_year 12 = .ok (.iconst 0, 1) := by decide +kernel
theorem dX7_year_13 : decode cX7_year 13 = .ok (.iload_n 1, 1) := by decide +kernel
theorem dX7_year_14 : decode cX7_year 14 = .ok (.invokevirtual 161, 3) := by decide +kernel
theorem dX7_year_17 : decode cX7_year 17 = .ok (.goto 8, 3) := by decide +kernel
theorem dX7_year_20 : decode cX7_year 20 = .ok (.aload_n 0, 1) := by decide +kernel
theorem dX7_year_21 : decode cX7_year 21 = .ok (.iconst 1, 1) := by decide +kernel
theorem dX7_year_22 : decode cX7_year 22 = .ok (.invokevirtual 58, 3) := by decide +kernel
theorem dX7_year_25 : decode cX7_year 25 = .ok (.ireturn, 1) := by decide +kernel
theorem dX7_law_0 : decode cX7_law 0 = .ok (.iload_n 1, 1) := by decide +kernel
theorem dX7_law_1 : decode cX7_law 1 = .ok (.iconst 0, 1) := by decide +kernel
theorem dX7_law_2 : decode cX7_law 2 = .ok (.iconst 1, 1) := by decide +kernel
theorem dX7_law_3 : decode cX7_law 3 = .ok (.invokestatic 50, 3) := by decide +kernel
theorem dX7_law_6 : decode cX7_law 6 = .ok (.ifCond .ne 9, 3) := by decide +kernel
theorem dX7_law_9 : decode cX7_law 9 = .ok (.aload_n 0, 1) := by decide +kernel
theorem dX7_law_10 : decode cX7_law 10 = .ok (.iconst 1, 1) := by decide +kernel
theorem dX7_law_11 : decode cX7_law 11 = .ok (.invokevirtual 58, 3) := by decide +kernel
theorem dX7_law_14 : decode cX7_law 14 = .ok (.ireturn, 1) := by decide +kernel
theorem dX7_law_15 : decode cX7_law 15 = .ok (.iload_n 1, 1) := by decide +kernel
theorem dX7_law_16 : decode cX7_law 16 = .ok (.ifCond .ne 14, 3) := by decide +kernel
theorem dX7_law_19 : decode cX7_law 19 = .ok (.aload_n 0, 1) := by decide +kernel
theorem dX7_law_20 : decode cX7_law 20 = .ok (.iload_n 2, 1) := by decide +kernel
theorem dX7_law_21 : decode cX7_law 21 = .ok (.iload_n 3, 1) := by decide +kernel
theorem dX7_law_22 : decode cX7_law 22 = .ok (.iload 4, 2) := by decide +kernel
theorem dX7_law_24 : decode cX7_law 24 = .ok (.invokevirtual 127, 3) := by decide +kernel
theorem dX7_law_27 : decode cX7_law 27 = .ok (.goto 11, 3) := by decide +kernel
theorem dX7_law_30 : decode cX7_law 30 = .ok (.aload_n 0, 1) := by decide +kernel
theorem dX7_law_31 : decode cX7_law 31 = .ok (.iload_n 2, 1) := by decide +kernel
theorem dX7_law_32 : decode cX7_law 32 = .ok (.iload_n 3, 1) := by decide +kernel
theorem dX7_law_33 : decode cX7_law 33 = .ok (.iload 4, 2) := by decide +kernel
theorem dX7_law_35 : decode cX7_law 35 = .ok (.invokevirtual 133, 3) := by decide +kernel
theorem dX7_law_38 : decode cX7_law 38 = .ok (.ireturn, 1) := by decide +kernel
theorem dX7_isGap_0 : decode cX7_isGap 0 = .ok (.iload_n 0, 1) := by decide +kernel
theorem dX7_isGap_1 : decode cX7_isGap 1 = .ok (.iconst 1, 1) := by decide +kernel
theorem dX7_isGap_2 : decode cX7_isGap 2 = .ok (.bipush 50, 2) := by decide +kernel
theorem dX7_isGap_4 : decode cX7_isGap 4 = .ok (.invokestatic 50, 3) := by decide +kernel
theorem dX7_isGap_7 : decode cX7_isGap 7 = .ok (.ireturn, 1) := by decide +kernel
theorem dX7_renumbers_0 : decode cX7_renumbers 0 = .ok (.iconst 0, 1) := by decide +kernel
theorem dX7_renumbers_1 : decode cX7_renumbers 1 = .ok (.istore_n 2, 1) := by decide +kernel
theorem dX7_renumbers_2 : decode cX7_renumbers 2 = .ok (.iconst 0, 1) := by decide +kernel
theorem dX7_renumbers_3 : decode cX7_renumbers 3 = .ok (.istore_n 3, 1) := by decide +kernel
theorem dX7_renumbers_4 : decode cX7_renumbers 4 = .ok (.iload_n 3, 1) := by decide +kernel
theorem dX7_renumbers_5 : decode cX7_renumbers 5 = .ok (.aload_n 0, 1) := by decide +kernel
theorem dX7_renumbers_6 : decode cX7_renumbers 6 = .ok (.getfield 7, 3) := by decide +kernel
theorem dX7_renumbers_9 : decode cX7_renumbers 9 = .ok (.iconst 5, 1) := by decide +kernel
theorem dX7_renumbers_10 : decode cX7_renumbers 10 = .ok (.iaload, 1) := by decide +kernel
theorem dX7_renumbers_11 : decode cX7_renumbers 11 = .ok (.if_icmp .ge 27, 3) := by decide +kernel
theorem dX7_renumbers_14 : decode cX7_renumbers 14 = .ok (.iload_n 2, 1) := by decide +kernel
theorem dX7_renumbers_15 : decode cX7_renumbers 15 = .ok (.aload_n 0, 1) := by decide +kernel
theorem dX7_renumbers_16 : decode cX7_renumbers 16 = .ok (.iload_n 3, 1) := by decide +kernel
theorem dX7_renumbers_17 : decode cX7_renumbers 17 = .ok (.iload_n 1, 1) := by decide +kernel
theorem dX7_renumbers_18 : decode cX7_renumbers 18 = .ok (.aload_n 0, 1) := by decide +kernel
theorem dX7_renumbers_19 : decode cX7_renumbers 19 = .ok (.iload_n 3, 1) := by decide +kernel
theorem dX7_renumbers_20 : decode cX7_renumbers 20 = .ok (.iconst 3, 1) := by decide +kernel
theorem dX7_renumbers_21 : decode cX7_renumbers 21 = .ok (.invokevirtual 54, 3) := by decide +kernel
theorem dX7_renumbers_24 : decode cX7_renumbers 24 = .ok (.iconst 1, 1) := by decide +kernel
theorem dX7_renumbers_25 : decode cX7_renumbers 25 = .ok (.iadd, 1) := by decide +kernel
theorem dX7_renumbers_26 : decode cX7_renumbers 26 = .ok (.imul, 1) := by decide +kernel
theorem dX7_renumbers_27 : decode cX7_renumbers 27 = .ok (.invokevirtual 171, 3) := by decide +kernel
theorem dX7_renumbers_30 : decode cX7_renumbers 30 = .ok (.iadd, 1) := by decide +kernel
theorem dX7_renumbers_31 : decode cX7_renumbers 31 = .ok (.istore_n 2, 1) := by decide +kernel
theorem dX7_renumbers_32 : decode cX7_renumbers 32 = .ok (.iinc 3 1, 3) := by decide +kernel
theorem dX7_renumbers_35 : decode cX7_renumbers 35 = .ok (.goto (-31), 3) := by decide +kernel
theorem dX7_renumbers_38 : decode cX7_renumbers 38 = .ok (.iload_n 2, 1) := by decide +kernel
theorem dX7_renumbers_39 : decode cX7_renumbers 39 = .ok (.ireturn, 1) := by decide +kernel
theorem dX7_wouldBe_0 : decode cX7_wouldBe 0 = .ok (.iconst 0, 1) := by decide +kernel
theorem dX7_wouldBe_1 : decode cX7_wouldBe 1 = .ok (.istore_n 2, 1) := by decide +kernel
theorem dX7_wouldBe_2 : decode cX7_wouldBe 2 = .ok (.iconst 0, 1) := by decide +kernel
theorem dX7_wouldBe_3 : decode cX7_wouldBe 3 = .ok (.istore_n 3, 1) := by decide +kernel
theorem dX7_wouldBe_4 : decode cX7_wouldBe 4 = .ok (.iload_n 3, 1) := by decide +kernel
theorem dX7_wouldBe_5 : decode cX7_wouldBe 5 = .ok (.aload_n 0, 1) := by decide +kernel
theorem dX7_wouldBe_6 : decode cX7_wouldBe 6 = .ok (.getfield 7, 3) := by decide +kernel
theorem dX7_wouldBe_9 : decode cX7_wouldBe 9 = .ok (.iconst 5, 1) := by decide +kernel
theorem dX7_wouldBe_10 : decode cX7_wouldBe 10 = .ok (.iaload, 1) := by decide +kernel
theorem dX7_wouldBe_11 : decode cX7_wouldBe 11 = .ok (.if_icmp .ge 27, 3) := by decide +kernel
theorem dX7_wouldBe_14 : decode cX7_wouldBe 14 = .ok (.iload_n 2, 1) := by decide +kernel
theorem dX7_wouldBe_15 : decode cX7_wouldBe 15 = .ok (.aload_n 0, 1) := by decide +kernel
theorem dX7_wouldBe_16 : decode cX7_wouldBe 16 = .ok (.iload_n 3, 1) := by decide +kernel
theorem dX7_wouldBe_17 : decode cX7_wouldBe 17 = .ok (.iload_n 1, 1) := by decide +kernel
theorem dX7_wouldBe_18 : decode cX7_wouldBe 18 = .ok (.aload_n 0, 1) := by decide +kernel
theorem dX7_wouldBe_19 : decode cX7_wouldBe 19 = .ok (.iload_n 3, 1) := by decide +kernel
theorem dX7_wouldBe_20 : decode cX7_wouldBe 20 = .ok (.iconst 3, 1) := by decide +kernel
theorem dX7_wouldBe_21 : decode cX7_wouldBe 21 = .ok (.invokevirtual 54, 3) := by decide +kernel
theorem dX7_wouldBe_24 : decode cX7_wouldBe 24 = .ok (.iconst 1, 1) := by decide +kernel
theorem dX7_wouldBe_25 : decode cX7_wouldBe 25 = .ok (.iadd, 1) := by decide +kernel
theorem dX7_wouldBe_26 : decode cX7_wouldBe 26 = .ok (.imul, 1) := by decide +kernel
theorem dX7_wouldBe_27 : decode cX7_wouldBe 27 = .ok (.invokevirtual 167, 3) := by decide +kernel
theorem dX7_wouldBe_30 : decode cX7_wouldBe 30 = .ok (.iadd, 1) := by decide +kernel
theorem dX7_wouldBe_31 : decode cX7_wouldBe 31 = .ok (.istore_n 2, 1) := by decide +kernel
theorem dX7_wouldBe_32 : decode cX7_wouldBe 32 = .ok (.iinc 3 1, 3) := by decide +kernel
theorem dX7_wouldBe_35 : decode cX7_wouldBe 35 = .ok (.goto (-31), 3) := by decide +kernel
theorem dX7_wouldBe_38 : decode cX7_wouldBe 38 = .ok (.iload_n 2, 1) := by decide +kernel
theorem dX7_wouldBe_39 : decode cX7_wouldBe 39 = .ok (.ireturn, 1) := by decide +kernel
theorem dX7_renumber_0 : decode cX7_renumber 0 = .ok (.iload_n 1, 1) := by decide +kernel
theorem dX7_renumber_1 : decode cX7_renumber 1 = .ok (.invokestatic 174, 3) := by decide +kernel
theorem dX7_renumber_4 : decode cX7_renumber 4 = .ok (.ifCond .eq 11, 3) := by decide +kernel
theorem dX7_renumber_7 : decode cX7_renumber 7 = .ok (.aload_n 0, 1) := by decide +kernel
theorem dX7_renumber_8 : decode cX7_renumber 8 = .ok (.iload_n 1, 1) := by decide +kernel
theorem dX7_renumber_9 : decode cX7_renumber 9 = .ok (.invokevirtual 177, 3) := by decide +kernel
theorem dX7_renumber_12 : decode cX7_renumber 12 = .ok (.goto 8, 3) := by decide +kernel
theorem dX7_renumber_15 : decode cX7_renumber 15 = .ok (.aload_n 0, 1) := by decide +kernel
theorem dX7_renumber_16 : decode cX7_renumber 16 = .ok (.iconst 1, 1) := by decide +kernel
theorem dX7_renumber_17 : decode cX7_renumber 17 = .ok (.invokevirtual 58, 3) := by decide +kernel
theorem dX7_renumber_20 : decode cX7_renumber 20 = .ok (.ireturn, 1) := by decide +kernel
theorem dX7_would_0 : decode cX7_would 0 = .ok (.iload_n 1, 1) := by decide +kernel
theorem dX7_would_1 : decode cX7_would 1 = .ok (.invokestatic 174, 3) := by decide +kernel
theorem dX7_would_4 : decode cX7_would 4 = .ok (.ifCond .eq 11, 3) := by decide +kernel
theorem dX7_would_7 : decode cX7_would 7 = .ok (.aload_n 0, 1) := by decide +kernel
theorem dX7_would_8 : decode cX7_would 8 = .ok (.iload_n 1, 1) := by decide +kernel
theorem dX7_would_9 : decode cX7_would 9 = .ok (.invokevirtual 180, 3) := by decide +kernel
theorem dX7_would_12 : decode cX7_would 12 = .ok (.goto 8, 3) := by decide +kernel
theorem dX7_would_15 : decode cX7_would 15 = .ok (.aload_n 0, 1) := by decide +kernel
theorem dX7_would_16 : decode cX7_would 16 = .ok (.iconst 1, 1) := by decide +kernel
theorem dX7_would_17 : decode cX7_would 17 = .ok (.invokevirtual 58, 3) := by decide +kernel
theorem dX7_would_20 : decode cX7_would 20 = .ok (.ireturn, 1) := by decide +kernel
theorem dX7_gap_0 : decode cX7_gap 0 = .ok (.iload_n 1, 1) := by decide +kernel
theorem dX7_gap_1 : decode cX7_gap 1 = .ok (.iconst 0, 1) := by decide +kernel
theorem dX7_gap_2 : decode cX7_gap 2 = .ok (.iconst 1, 1) := by decide +kernel
theorem dX7_gap_3 : decode cX7_gap 3 = .ok (.invokestatic 50, 3) := by decide +kernel
theorem dX7_gap_6 : decode cX7_gap 6 = .ok (.ifCond .ne 9, 3) := by decide +kernel
theorem dX7_gap_9 : decode cX7_gap 9 = .ok (.aload_n 0, 1) := by decide +kernel
theorem dX7_gap_10 : decode cX7_gap 10 = .ok (.iconst 1, 1) := by decide +kernel
theorem dX7_gap_11 : decode cX7_gap 11 = .ok (.invokevirtual 58, 3) := by decide +kernel
theorem dX7_gap_14 : decode cX7_gap 14 = .ok (.ireturn, 1) := by decide +kernel
theorem dX7_gap_15 : decode cX7_gap 15 = .ok (.iconst 1, 1) := by decide +kernel
theorem dX7_gap_16 : decode cX7_gap 16 = .ok (.istore_n 2, 1) := by decide +kernel
theorem dX7_gap_17 : decode cX7_gap 17 = .ok (.aload_n 0, 1) := by decide +kernel
theorem dX7_gap_18 : decode cX7_gap 18 = .ok (.iconst 1, 1) := by decide +kernel
theorem dX7_gap_19 : decode cX7_gap 19 = .ok (.invokevirtual 180, 3) := by decide +kernel
theorem dX7_gap_22 : decode cX7_gap 22 = .ok (.istore_n 3, 1) := by decide +kernel
theorem dX7_gap_23 : decode cX7_gap 23 = .ok (.iconst 2, 1) := by decide +kernel
theorem dX7_gap_24 : decode cX7_gap 24 = .ok (.istore 4, 2) := by decide +kernel
theorem dX7_gap_26 : decode cX7_gap 26 = .ok (.iload 4, 2) := by decide +kernel
theorem dX7_gap_28 : decode cX7_gap 28 = .ok (.bipush 50, 2) := by decide +kernel
theorem dX7_gap_30 : decode cX7_gap 30 = .ok (.if_icmp .gt 43, 3) := by decide +kernel
theorem dX7_gap_33 : decode cX7_gap 33 = .ok (.aload_n 0, 1) := by decide +kernel
theorem dX7_gap_34 : decode cX7_gap 34 = .ok (.iload 4, 2) := by decide +kernel
theorem dX7_gap_36 : decode cX7_gap 36 = .ok (.invokevirtual 180, 3) := by decide +kernel
theorem dX7_gap_39 : decode cX7_gap 39 = .ok (.istore 5, 2) := by decide +kernel
theorem dX7_gap_41 : decode cX7_gap 41 = .ok (.iload 5, 2) := by decide +kernel
theorem dX7_gap_43 : decode cX7_gap 43 = .ok (.iload_n 3, 1) := by decide +kernel
theorem dX7_gap_44 : decode cX7_gap 44 = .ok (.if_icmp .ge 8, 3) := by decide +kernel
theorem dX7_gap_47 : decode cX7_gap 47 = .ok (.iload 4, 2) := by decide +kernel
theorem dX7_gap_49 : decode cX7_gap 49 = .ok (.goto 4, 3) := by decide +kernel
theorem dX7_gap_52 : decode cX7_gap 52 = .ok (.iload_n 2, 1) := by decide +kernel
theorem dX7_gap_53 : decode cX7_gap 53 = .ok (.istore_n 2, 1) := by decide +kernel
theorem dX7_gap_54 : decode cX7_gap 54 = .ok (.iload 5, 2) := by decide +kernel
theorem dX7_gap_56 : decode cX7_gap 56 = .ok (.iload_n 3, 1) := by decide +kernel
theorem dX7_gap_57 : decode cX7_gap 57 = .ok (.if_icmp .ge 8, 3) := by decide +kernel
theorem dX7_gap_60 : decode cX7_gap 60 = .ok (.iload 5, 2) := by decide +kernel
theorem dX7_gap_62 : decode cX7_gap 62 = .ok (.goto 4, 3) := by decide +kernel
theorem dX7_gap_65 : decode cX7_gap 65 = .ok (.iload_n 3, 1) := by decide +kernel
theorem dX7_gap_66 : decode cX7_gap 66 = .ok (.istore_n 3, 1) := by decide +kernel
theorem dX7_gap_67 : decode cX7_gap 67 = .ok (.iinc 4 1, 3) := by decide +kernel
theorem dX7_gap_70 : decode cX7_gap 70 = .ok (.goto (-44), 3) := by decide +kernel
theorem dX7_gap_73 : decode cX7_gap 73 = .ok (.iload_n 1, 1) := by decide +kernel
theorem dX7_gap_74 : decode cX7_gap 74 = .ok (.ifCond .ne 7, 3) := by decide +kernel
theorem dX7_gap_77 : decode cX7_gap 77 = .ok (.iload_n 2, 1) := by decide +kernel
theorem dX7_gap_78 : decode cX7_gap 78 = .ok (.goto 4, 3) := by decide +kernel
theorem dX7_gap_81 : decode cX7_gap 81 = .ok (.iload_n 3, 1) := by decide +kernel
theorem dX7_gap_82 : decode cX7_gap 82 = .ok (.ireturn, 1) := by decide +kernel
theorem dX7_findLeast_0 : decode cX7_findLeast 0 = .ok (.iconst 0, 1) := by decide +kernel
theorem dX7_findLeast_1 : decode cX7_findLeast 1 = .ok (.istore_n 1, 1) := by decide +kernel
theorem dX7_findLeast_2 : decode cX7_findLeast 2 = .ok (.iload_n 1, 1) := by decide +kernel
theorem dX7_findLeast_3 : decode cX7_findLeast 3 = .ok (.aload_n 0, 1) := by decide +kernel
theorem dX7_findLeast_4 : decode cX7_findLeast 4 = .ok (.getfield 7, 3) := by decide +kernel
theorem dX7_findLeast_7 : decode cX7_findLeast 7 = .ok (.iconst 5, 1) := by decide +kernel
theorem dX7_findLeast_8 : decode cX7_findLeast 8 = .ok (.iaload, 1) := by decide +kernel
theorem dX7_findLeast_9 : decode cX7_findLeast 9 = .ok (.if_icmp .ge 111, 3) := by decide +kernel
theorem dX7_findLeast_12 : decode cX7_findLeast 12 = .ok (.aload_n 0, 1) := by decide +kernel
theorem dX7_findLeast_13 : decode cX7_findLeast 13 = .ok (.iload_n 1, 1) := by decide +kernel
theorem dX7_findLeast_14 : decode cX7_findLeast 14 = .ok (.invokevirtual 158, 3) := by decide +kernel
theorem dX7_findLeast_17 : decode cX7_findLeast 17 = .ok (.istore_n 2, 1) := by decide +kernel
theorem dX7_findLeast_18 : decode cX7_findLeast 18 = .ok (.iload_n 1, 1) := by decide +kernel
theorem dX7_findLeast_19 : decode cX7_findLeast 19 = .ok (.ifCond .ne 7, 3) := by decide +kernel
theorem dX7_findLeast_22 : decode cX7_findLeast 22 = .ok (.iconst 0, 1) := by decide +kernel
theorem dX7_findLeast_23 : decode cX7_findLeast 23 = .ok (.goto 5, 3) := by decide +kernel
theorem dX7_findLeast_26 : decode cX7_findLeast 26 = .ok (.ldc 183, 2) := by decide +kernel
theorem dX7_findLeast_28 : decode cX7_findLeast 28 = .ok (.istore_n 3, 1) := by decide +kernel
theorem dX7_findLeast_29 : decode cX7_findLeast 29 = .ok (.iconst 1, 1) := by decide +kernel
theorem dX7_findLeast_30 : decode cX7_findLeast 30 = .ok (.istore 4, 2) := by decide +kernel
theorem dX7_findLeast_32 : decode cX7_findLeast 32 = .ok (.iload 4, 2) := by decide +kernel
theorem dX7_findLeast_34 : decode cX7_findLeast 34 = .ok (.bipush 120, 2) := by decide +kernel
theorem dX7_findLeast_36 : decode cX7_findLeast 36 = .ok (.if_icmp .gt 78, 3) := by decide +kernel
theorem dX7_findLeast_39 : decode cX7_findLeast 39 = .ok (.aload_n 0, 1) := by decide +kernel
theorem dX7_findLeast_40 : decode cX7_findLeast 40 = .ok (.getfield 28, 3) := by decide +kernel
theorem dX7_findLeast_43 : decode cX7_findLeast 43 = .ok (.bipush 121, 2) := by decide +kernel
theorem dX7_findLeast_45 : decode cX7_findLeast 45 = .ok (.iload_n 1, 1) := by decide +kernel
theorem dX7_findLeast_46 : decode cX7_findLeast 46 = .ok (.imul, 1) := by decide +kernel
theorem dX7_findLeast_47 : decode cX7_findLeast 47 = .ok (.iload 4, 2) := by decide +kernel
theorem dX7_findLeast_49 : decode cX7_findLeast 49 = .ok (.iadd, 1) := by decide +kernel
theorem dX7_findLeast_50 : decode cX7_findLeast 50 = .ok (.iload_n 3, 1) := by decide +kernel
theorem dX7_findLeast_51 : decode cX7_findLeast 51 = .ok (.ldc 183, 2) := by decide +kernel
theorem dX7_findLeast_53 : decode cX7_findLeast 53 = .ok (.if_icmp .lt 8, 3) := by decide +kernel
theorem dX7_findLeast_56 : decode cX7_findLeast 56 = .ok (.ldc 183, 2) := by decide +kernel
theorem dX7_findLeast_58 : decode cX7_findLeast 58 = .ok (.goto 12, 3) := by decide +kernel
theorem dX7_findLeast_61 : decode cX7_findLeast 61 = .ok (.iload_n 3, 1) := by decide +kernel
theorem dX7_findLeast_62 : decode cX7_findLeast 62 = .ok (.aload_n 0, 1) := by decide +kernel
theorem dX7_findLeast_63 : decode cX7_findLeast 63 = .ok (.iload_n 2, 1) := by decide +kernel
theorem dX7_findLeast_64 : decode cX7_findLeast 64 = .ok (.iload 4, 2) := by decide +kernel
theorem dX7_findLeast_66 : decode cX7_findLeast 66 = .ok (.invokevirtual 167, 3) := by decide +kernel
theorem dX7_findLeast_69 : decode cX7_findLeast 69 = .ok (.iadd, 1) := by decide +kernel
theorem dX7_findLeast_70 : decode cX7_findLeast 70 = .ok (.iastore, 1) := by decide +kernel
theorem dX7_findLeast_71 : decode cX7_findLeast 71 = .ok (.iload_n 1, 1) := by decide +kernel
theorem dX7_findLeast_72 : decode cX7_findLeast 72 = .ok (.ifCond .ne 7, 3) := by decide +kernel
theorem dX7_findLeast_75 : decode cX7_findLeast 75 = .ok (.iconst 0, 1) := by decide +kernel
theorem dX7_findLeast_76 : decode cX7_findLeast 76 = .ok (.goto 17, 3) := by decide +kernel
theorem dX7_findLeast_79 : decode cX7_findLeast 79 = .ok (.aload_n 0, 1) := by decide +kernel
theorem dX7_findLeast_80 : decode cX7_findLeast 80 = .ok (.getfield 28, 3) := by decide +kernel
theorem dX7_findLeast_83 : decode cX7_findLeast 83 = .ok (.bipush 121, 2) := by decide +kernel
theorem dX7_findLeast_85 : decode cX7_findLeast 85 = .ok (.iload_n 1, 1) := by decide +kernel
theorem dX7_findLeast_86 : decode cX7_findLeast 86 = .ok (.iconst 1, 1) := by decide +kernel
theorem dX7_findLeast_87 : decode cX7_findLeast 87 = .ok (.isub, 1) := by decide +kernel
theorem dX7_findLeast_88 : decode cX7_findLeast 88 = .ok (.imul, 1) := by decide +kernel
theorem dX7_findLeast_89 : decode cX7_findLeast 89 = .ok (.iload 4, 2) := by decide +kernel
theorem dX7_findLeast_91 : decode cX7_findLeast 91 = .ok (.iadd, 1) := by decide +kernel
theorem dX7_findLeast_92 : decode cX7_findLeast 92 = .ok (.iaload, 1) := by decide +kernel
theorem dX7_findLeast_93 : decode cX7_findLeast 93 = .ok (.istore 5, 2) := by decide +kernel
theorem dX7_findLeast_95 : decode cX7_findLeast 95 = .ok (.iload 5, 2) := by decide +kernel
theorem dX7_findLeast_97 : decode cX7_findLeast 97 = .ok (.iload_n 3, 1) := by decide +kernel
theorem dX7_findLeast_98 : decode cX7_findLeast 98 = .ok (.if_icmp .ge 8, 3) := by decide +kernel
theorem dX7_findLeast_101 : decode cX7_findLeast 101 = .ok (.iload 5, 2) := by decide +kernel
theorem dX7_findLeast_103 : decode cX7_findLeast 103 = .ok (.goto 4, 3) := by decide +kernel
theorem dX7_findLeast_106 : decode cX7_findLeast 106 = .ok (.iload_n 3, 1) := by decide +kernel
theorem dX7_findLeast_107 : decode cX7_findLeast 107 = .ok (.istore_n 3, 1) := by decide +kernel
theorem dX7_findLeast_108 : decode cX7_findLeast 108 = .ok (.iinc 4 1, 3) := by decide +kernel
theorem dX7_findLeast_111 : decode cX7_findLeast 111 = .ok (.goto (-79), 3) := by decide +kernel
theorem dX7_findLeast_114 : decode cX7_findLeast 114 = .ok (.iinc 1 1, 3) := by decide +kernel
theorem dX7_findLeast_117 : decode cX7_findLeast 117 = .ok (.goto (-115), 3) := by decide +kernel
theorem dX7_findLeast_120 : decode cX7_findLeast 120 = .ok (.return_, 1) := by decide +kernel
theorem dX7_leastAt_0 : decode cX7_leastAt 0 = .ok (.iconst 1, 1) := by decide +kernel
theorem dX7_leastAt_1 : decode cX7_leastAt 1 = .ok (.istore_n 3, 1) := by decide +kernel
theorem dX7_leastAt_2 : decode cX7_leastAt 2 = .ok (.iconst 2, 1) := by decide +kernel
theorem dX7_leastAt_3 : decode cX7_leastAt 3 = .ok (.istore 4, 2) := by decide +kernel
theorem dX7_leastAt_5 : decode cX7_leastAt 5 = .ok (.iload 4, 2) := by decide +kernel
theorem dX7_leastAt_7 : decode cX7_leastAt 7 = .ok (.iload_n 2, 1) := by decide +kernel
theorem dX7_leastAt_8 : decode cX7_leastAt 8 = .ok (.if_icmp .ge 42, 3) := by decide +kernel
theorem dX7_leastAt_11 : decode cX7_leastAt 11 = .ok (.aload_n 0, 1) := by decide +kernel
theorem dX7_leastAt_12 : decode cX7_leastAt 12 = .ok (.getfield 28, 3) := by decide +kernel
theorem dX7_leastAt_15 : decode cX7_leastAt 15 = .ok (.bipush 121, 2) := by decide +kernel
theorem dX7_leastAt_17 : decode cX7_leastAt 17 = .ok (.iload_n 1, 1) := by decide +kernel
theorem dX7_leastAt_18 : decode cX7_leastAt 18 = .ok (.imul, 1) := by decide +kernel
theorem dX7_leastAt_19 : decode cX7_leastAt 19 = .ok (.iload 4, 2) := by decide +kernel
theorem dX7_leastAt_21 : decode cX7_leastAt 21 = .ok (.iadd, 1) := by decide +kernel
theorem dX7_leastAt_22 : decode cX7_leastAt 22 = .ok (.iaload, 1) := by decide +kernel
theorem dX7_leastAt_23 : decode cX7_leastAt 23 = .ok (.aload_n 0, 1) := by decide +kernel
theorem dX7_leastAt_24 : decode cX7_leastAt 24 = .ok (.getfield 28, 3) := by decide +kernel
theorem dX7_leastAt_27 : decode cX7_leastAt 27 = .ok (.bipush 121, 2) := by decide +kernel
theorem dX7_leastAt_29 : decode cX7_leastAt 29 = .ok (.iload_n 1, 1) := by decide +kernel
theorem dX7_leastAt_30 : decode cX7_leastAt 30 = .ok (.imul, 1) := by decide +kernel
theorem dX7_leastAt_31 : decode cX7_leastAt 31 = .ok (.iload_n 3, 1) := by decide +kernel
theorem dX7_leastAt_32 : decode cX7_leastAt 32 = .ok (.iadd, 1) := by decide +kernel
theorem dX7_leastAt_33 : decode cX7_leastAt 33 = .ok (.iaload, 1) := by decide +kernel
theorem dX7_leastAt_34 : decode cX7_leastAt 34 = .ok (.if_icmp .ge 8, 3) := by decide +kernel
theorem dX7_leastAt_37 : decode cX7_leastAt 37 = .ok (.iload 4, 2) := by decide +kernel
theorem dX7_leastAt_39 : decode cX7_leastAt 39 = .ok (.goto 4, 3) := by decide +kernel
theorem dX7_leastAt_42 : decode cX7_leastAt 42 = .ok (.iload_n 3, 1) := by decide +kernel
theorem dX7_leastAt_43 : decode cX7_leastAt 43 = .ok (.istore_n 3, 1) := by decide +kernel
theorem dX7_leastAt_44 : decode cX7_leastAt 44 = .ok (.iinc 4 1, 3) := by decide +kernel
theorem dX7_leastAt_47 : decode cX7_leastAt 47 = .ok (.goto (-42), 3) := by decide +kernel
theorem dX7_leastAt_50 : decode cX7_leastAt 50 = .ok (.iload_n 3, 1) := by decide +kernel
theorem dX7_leastAt_51 : decode cX7_leastAt 51 = .ok (.ireturn, 1) := by decide +kernel
theorem dX7_least_0 : decode cX7_least 0 = .ok (.iload_n 1, 1) := by decide +kernel
theorem dX7_least_1 : decode cX7_least 1 = .ok (.iconst (-1), 1) := by decide +kernel
theorem dX7_least_2 : decode cX7_least 2 = .ok (.bipush 9, 2) := by decide +kernel
theorem dX7_least_4 : decode cX7_least 4 = .ok (.invokestatic 50, 3) := by decide +kernel
theorem dX7_least_7 : decode cX7_least 7 = .ok (.ifCond .ne 9, 3) := by decide +kernel
theorem dX7_least_10 : decode cX7_least 10 = .ok (.aload_n 0, 1) := by decide +kernel
theorem dX7_least_11 : decode cX7_least 11 = .ok (.iconst 1, 1) := by decide +kernel
theorem dX7_least_12 : decode cX7_least 12 = .ok (.invokevirtual 58, 3) := by decide +kernel
theorem dX7_least_15 : decode cX7_least 15 = .ok (.ireturn, 1) := by decide +kernel
theorem dX7_least_16 : decode cX7_least 16 = .ok (.iload_n 1, 1) := by decide +kernel
theorem dX7_least_17 : decode cX7_least 17 = .ok (.aload_n 0, 1) := by decide +kernel
theorem dX7_least_18 : decode cX7_least 18 = .ok (.getfield 7, 3) := by decide +kernel
theorem dX7_least_21 : decode cX7_least 21 = .ok (.iconst 5, 1) := by decide +kernel
theorem dX7_least_22 : decode cX7_least 22 = .ok (.iaload, 1) := by decide +kernel
theorem dX7_least_23 : decode cX7_least 23 = .ok (.if_icmp .lt 9, 3) := by decide +kernel
theorem dX7_least_26 : decode cX7_least 26 = .ok (.aload_n 0, 1) := by decide +kernel
theorem dX7_least_27 : decode cX7_least 27 = .ok (.iconst 2, 1) := by decide +kernel
theorem dX7_least_28 : decode cX7_least 28 = .ok (.invokevirtual 58, 3) := by decide +kernel
theorem dX7_least_31 : decode cX7_least 31 = .ok (.ireturn, 1) := by decide +kernel
theorem dX7_least_32 : decode cX7_least 32 = .ok (.aload_n 0, 1) := by decide +kernel
theorem dX7_least_33 : decode cX7_least 33 = .ok (.invokevirtual 184, 3) := by decide +kernel
theorem dX7_least_36 : decode cX7_least 36 = .ok (.iload_n 1, 1) := by decide +kernel
theorem dX7_least_37 : decode cX7_least 37 = .ok (.ifCond .ge 14, 3) := by decide +kernel
theorem dX7_least_40 : decode cX7_least 40 = .ok (.aload_n 0, 1) := by decide +kernel
theorem dX7_least_41 : decode cX7_least 41 = .ok (.getfield 7, 3) := by decide +kernel
theorem dX7_least_44 : decode cX7_least 44 = .ok (.iconst 5, 1) := by decide +kernel
theorem dX7_least_45 : decode cX7_least 45 = .ok (.iaload, 1) := by decide +kernel
theorem dX7_least_46 : decode cX7_least 46 = .ok (.iconst 1, 1) := by decide +kernel
theorem dX7_least_47 : decode cX7_least 47 = .ok (.isub, 1) := by decide +kernel
theorem dX7_least_48 : decode cX7_least 48 = .ok (.goto 9, 3) := by decide +kernel
theorem dX7_least_51 : decode cX7_least 51 = .ok (.aload_n 0, 1) := by decide +kernel
theorem dX7_least_52 : decode cX7_least 52 = .ok (.iload_n 1, 1) := by decide +kernel
theorem dX7_least_53 : decode cX7_least 53 = .ok (.iconst 3, 1) := by decide +kernel
theorem dX7_least_54 : decode cX7_least 54 = .ok (.invokevirtual 54, 3) := by decide +kernel
theorem dX7_least_57 : decode cX7_least 57 = .ok (.istore_n 2, 1) := by decide +kernel
theorem dX7_least_58 : decode cX7_least 58 = .ok (.bipush 121, 2) := by decide +kernel
theorem dX7_least_60 : decode cX7_least 60 = .ok (.istore_n 3, 1) := by decide +kernel
theorem dX7_least_61 : decode cX7_least 61 = .ok (.aload_n 0, 1) := by decide +kernel
theorem dX7_least_62 : decode cX7_least 62 = .ok (.getfield 7, 3) := by decide +kernel
theorem dX7_least_65 : decode cX7_least 65 = .ok (.iconst 5, 1) := by decide +kernel
theorem dX7_least_66 : decode cX7_least 66 = .ok (.iaload, 1) := by decide +kernel
theorem dX7_least_67 : decode cX7_least 67 = .ok (.iconst 1, 1) := by decide +kernel
theorem dX7_least_68 : decode cX7_least 68 = .ok (.isub, 1) := by decide +kernel
theorem dX7_least_69 : decode cX7_least 69 = .ok (.istore 4, 2) := by decide +kernel
theorem dX7_least_71 : decode cX7_least 71 = .ok (.iload 4, 2) := by decide +kernel
theorem dX7_least_73 : decode cX7_least 73 = .ok (.iload_n 2, 1) := by decide +kernel
theorem dX7_least_74 : decode cX7_least 74 = .ok (.if_icmp .lt 22, 3) := by decide +kernel
theorem dX7_least_77 : decode cX7_least 77 = .ok (.iload 4, 2) := by decide +kernel
theorem dX7_least_79 : decode cX7_least 79 = .ok (.ifCond .lt 17, 3) := by decide +kernel
theorem dX7_least_82 : decode cX7_least 82 = .ok (.aload_n 0, 1) := by decide +kernel
theorem dX7_least_83 : decode cX7_least 83 = .ok (.iload 4, 2) := by decide +kernel
theorem dX7_least_85 : decode cX7_least 85 = .ok (.iload_n 3, 1) := by decide +kernel
theorem dX7_least_86 : decode cX7_least 86 = .ok (.invokevirtual 187, 3) := by decide +kernel
theorem dX7_least_89 : decode cX7_least 89 = .ok (.istore_n 3, 1) := by decide +kernel
theorem dX7_least_90 : decode cX7_least 90 = .ok (.iinc 4 (-1), 3) := by decide +kernel
theorem dX7_least_93 : decode cX7_least 93 = .ok (.goto (-22), 3) := by decide +kernel
theorem dX7_least_96 : decode cX7_least 96 = .ok (.iload_n 1, 1) := by decide +kernel
theorem dX7_least_97 : decode cX7_least 97 = .ok (.ifCond .lt 7, 3) := by decide +kernel
theorem dX7_least_100 : decode cX7_least 100 = .ok (.iload_n 3, 1) := by decide +kernel
theorem dX7_least_101 : decode cX7_least 101 = .ok (.goto 34, 3) := by decide +kernel
theorem dX7_least_104 : decode cX7_least 104 = .ok (.aload_n 0, 1) := by decide +kernel
theorem dX7_least_105 : decode cX7_least 105 = .ok (.getfield 7, 3) := by decide +kernel
theorem dX7_least_108 : decode cX7_least 108 = .ok (.iconst 5, 1) := by decide +kernel
theorem dX7_least_109 : decode cX7_least 109 = .ok (.iaload, 1) := by decide +kernel
theorem dX7_least_110 : decode cX7_least 110 = .ok (.ifCond .ne 7, 3) := by decide +kernel
theorem dX7_least_113 : decode cX7_least 113 = .ok (.iconst 0, 1) := by decide +kernel
theorem dX7_least_114 : decode cX7_least 114 = .ok (.goto 21, 3) := by decide +kernel
theorem dX7_least_117 : decode cX7_least 117 = .ok (.aload_n 0, 1) := by decide +kernel
theorem dX7_least_118 : decode cX7_least 118 = .ok (.getfield 28, 3) := by decide +kernel
theorem dX7_least_121 : decode cX7_least 121 = .ok (.bipush 121, 2) := by decide +kernel
theorem dX7_least_123 : decode cX7_least 123 = .ok (.aload_n 0, 1) := by decide +kernel
theorem dX7_least_124 : decode cX7_least 124 = .ok (.getfield 7, 3) := by decide +kernel
theorem dX7_least_127 : decode cX7_least 127 = .ok (.iconst 5, 1) := by decide +kernel
theorem dX7_least_128 : decode cX7_least 128 = .ok (.iaload, 1) := by decide +kernel
theorem dX7_least_129 : decode cX7_least 129 = .ok (.iconst 1, 1) := by decide +kernel
theorem dX7_least_130 : decode cX7_least 130 = .ok (.isub, 1) := by decide +kernel
theorem dX7_least_131 : decode cX7_least 131 = .ok (.imul, 1) := by decide +kernel
theorem dX7_least_132 : decode cX7_least 132 = .ok (.iload_n 3, 1) := by decide +kernel
theorem dX7_least_133 : decode cX7_least 133 = .ok (.iadd, 1) := by decide +kernel
theorem dX7_least_134 : decode cX7_least 134 = .ok (.iaload, 1) := by decide +kernel
theorem dX7_least_135 : decode cX7_least 135 = .ok (.ireturn, 1) := by decide +kernel
theorem dX7_goesBetween_0 : decode cX7_goesBetween 0 = .ok (.iload_n 1, 1) := by decide +kernel
theorem dX7_goesBetween_1 : decode cX7_goesBetween 1 = .ok (.ifCond .ne 7, 3) := by decide +kernel
theorem dX7_goesBetween_4 : decode cX7_goesBetween 4 = .ok (.iconst 0, 1) := by decide +kernel
theorem dX7_goesBetween_5 : decode cX7_goesBetween 5 = .ok (.goto 15, 3) := by decide +kernel
theorem dX7_goesBetween_8 : decode cX7_goesBetween 8 = .ok (.aload_n 0, 1) := by decide +kernel
theorem dX7_goesBetween_9 : decode cX7_goesBetween 9 = .ok (.aload_n 0, 1) := by decide +kernel
theorem dX7_goesBetween_10 : decode cX7_goesBetween 10 = .ok (.iload_n 1, 1) := by decide +kernel
theorem dX7_goesBetween_11 : decode cX7_goesBetween 11 = .ok (.iconst 1, 1) := by decide +kernel
theorem dX7_goesBetween_12 : decode cX7_goesBetween 12 = .ok (.isub, 1) := by decide +kernel
theorem dX7_goesBetween_13 : decode cX7_goesBetween 13 = .ok (.invokevirtual 158, 3) := by decide +kernel
theorem dX7_goesBetween_16 : decode cX7_goesBetween 16 = .ok (.iconst 2, 1) := by decide +kernel
theorem dX7_goesBetween_17 : decode cX7_goesBetween 17 = .ok (.invokevirtual 54, 3) := by decide +kernel
theorem dX7_goesBetween_20 : decode cX7_goesBetween 20 = .ok (.istore_n 2, 1) := by decide +kernel
theorem dX7_goesBetween_21 : decode cX7_goesBetween 21 = .ok (.iload_n 1, 1) := by decide +kernel
theorem dX7_goesBetween_22 : decode cX7_goesBetween 22 = .ok (.aload_n 0, 1) := by decide +kernel
theorem dX7_goesBetween_23 : decode cX7_goesBetween 23 = .ok (.getfield 7, 3) := by decide +kernel
theorem dX7_goesBetween_26 : decode cX7_goesBetween 26 = .ok (.iconst 5, 1) := by decide +kernel
theorem dX7_goesBetween_27 : decode cX7_goesBetween 27 = .ok (.iaload, 1) := by decide +kernel
theorem dX7_goesBetween_28 : decode cX7_goesBetween 28 = .ok (.if_icmp .ne 9, 3) := by decide +kernel
theorem dX7_goesBetween_31 : decode cX7_goesBetween 31 = .ok (.sipush 1000, 3) := by decide +kernel
theorem dX7_goesBetween_34 : decode cX7_goesBetween 34 = .ok (.goto 13, 3) := by decide +kernel
theorem dX7_goesBetween_37 : decode cX7_goesBetween 37 = .ok (.aload_n 0, 1) := by decide +kernel
theorem dX7_goesBetween_38 : decode cX7_goesBetween 38 = .ok (.aload_n 0, 1) := by decide +kernel
theorem dX7_goesBetween_39 : decode cX7_goesBetween 39 = .ok (.iload_n 1, 1) := by decide +kernel
theorem dX7_goesBetween_40 : decode cX7_goesBetween 40 = .ok (.invokevirtual 158, 3) := by decide +kernel
theorem dX7_goesBetween_43 : decode cX7_goesBetween 43 = .ok (.iconst 2, 1) := by decide +kernel
theorem dX7_goesBetween_44 : decode cX7_goesBetween 44 = .ok (.invokevirtual 54, 3) := by decide +kernel
theorem dX7_goesBetween_47 : decode cX7_goesBetween 47 = .ok (.istore_n 3, 1) := by decide +kernel
theorem dX7_goesBetween_48 : decode cX7_goesBetween 48 = .ok (.iload_n 3, 1) := by decide +kernel
theorem dX7_goesBetween_49 : decode cX7_goesBetween 49 = .ok (.iload_n 2, 1) := by decide +kernel
theorem dX7_goesBetween_50 : decode cX7_goesBetween 50 = .ok (.isub, 1) := by decide +kernel
theorem dX7_goesBetween_51 : decode cX7_goesBetween 51 = .ok (.iconst 2, 1) := by decide +kernel
theorem dX7_goesBetween_52 : decode cX7_goesBetween 52 = .ok (.if_icmp .ge 5, 3) := by decide +kernel
theorem dX7_goesBetween_55 : decode cX7_goesBetween 55 = .ok (.iconst (-1), 1) := by decide +kernel
theorem dX7_goesBetween_56 : decode cX7_goesBetween 56 = .ok (.ireturn, 1) := by decide +kernel
theorem dX7_goesBetween_57 : decode cX7_goesBetween 57 = .ok (.iload_n 1, 1) := by decide +kernel
theorem dX7_goesBetween_58 : decode cX7_goesBetween 58 = .ok (.aload_n 0, 1) := by decide +kernel
theorem dX7_goesBetween_59 : decode cX7_goesBetween 59 = .ok (.getfield 7, 3) := by decide +kernel
theorem dX7_goesBetween_62 : decode cX7_goesBetween 62 = .ok (.iconst 5, 1) := by decide +kernel
theorem dX7_goesBetween_63 : decode cX7_goesBetween 63 = .ok (.iaload, 1) := by decide +kernel
theorem dX7_goesBetween_64 : decode cX7_goesBetween 64 = .ok (.if_icmp .ne 9, 3) := by decide +kernel
theorem dX7_goesBetween_67 : decode cX7_goesBetween 67 = .ok (.iload_n 2, 1) := by decide +kernel
theorem dX7_goesBetween_68 : decode cX7_goesBetween 68 = .ok (.iconst 1, 1) := by decide +kernel
theorem dX7_goesBetween_69 : decode cX7_goesBetween 69 = .ok (.iadd, 1) := by decide +kernel
theorem dX7_goesBetween_70 : decode cX7_goesBetween 70 = .ok (.goto 10, 3) := by decide +kernel
theorem dX7_goesBetween_73 : decode cX7_goesBetween 73 = .ok (.iload_n 2, 1) := by decide +kernel
theorem dX7_goesBetween_74 : decode cX7_goesBetween 74 = .ok (.iload_n 3, 1) := by decide +kernel
theorem dX7_goesBetween_75 : decode cX7_goesBetween 75 = .ok (.iload_n 2, 1) := by decide +kernel
theorem dX7_goesBetween_76 : decode cX7_goesBetween 76 = .ok (.isub, 1) := by decide +kernel
theorem dX7_goesBetween_77 : decode cX7_goesBetween 77 = .ok (.iconst 2, 1) := by decide +kernel
theorem dX7_goesBetween_78 : decode cX7_goesBetween 78 = .ok (.idiv, 1) := by decide +kernel
theorem dX7_goesBetween_79 : decode cX7_goesBetween 79 = .ok (.iadd, 1) := by decide +kernel
theorem dX7_goesBetween_80 : decode cX7_goesBetween 80 = .ok (.ireturn, 1) := by decide +kernel
theorem dX7_between_0 : decode cX7_between 0 = .ok (.iload_n 1, 1) := by decide +kernel
theorem dX7_between_1 : decode cX7_between 1 = .ok (.iconst 0, 1) := by decide +kernel
theorem dX7_between_2 : decode cX7_between 2 = .ok (.aload_n 0, 1) := by decide +kernel
theorem dX7_between_3 : decode cX7_between 3 = .ok (.getfield 7, 3) := by decide +kernel
theorem dX7_between_6 : decode cX7_between 6 = .ok (.iconst 5, 1) := by decide +kernel
theorem dX7_between_7 : decode cX7_between 7 = .ok (.iaload, 1) := by decide +kernel
theorem dX7_between_8 : decode cX7_between 8 = .ok (.invokestatic 50, 3) := by decide +kernel
theorem dX7_between_11 : decode cX7_between 11 = .ok (.ifCond .ne 9, 3) := by decide +kernel
theorem dX7_between_14 : decode cX7_between 14 = .ok (.aload_n 0, 1) := by decide +kernel
theorem dX7_between_15 : decode cX7_between 15 = .ok (.iconst 1, 1) := by decide +kernel
theorem dX7_between_16 : decode cX7_between 16 = .ok (.invokevirtual 58, 3) := by decide +kernel
theorem dX7_between_19 : decode cX7_between 19 = .ok (.ireturn, 1) := by decide +kernel
theorem dX7_between_20 : decode cX7_between 20 = .ok (.aload_n 0, 1) := by decide +kernel
theorem dX7_between_21 : decode cX7_between 21 = .ok (.iload_n 1, 1) := by decide +kernel
theorem dX7_between_22 : decode cX7_between 22 = .ok (.invokevirtual 190, 3) := by decide +kernel
theorem dX7_between_25 : decode cX7_between 25 = .ok (.istore_n 2, 1) := by decide +kernel
theorem dX7_between_26 : decode cX7_between 26 = .ok (.iload_n 2, 1) := by decide +kernel
theorem dX7_between_27 : decode cX7_between 27 = .ok (.iconst (-1), 1) := by decide +kernel
theorem dX7_between_28 : decode cX7_between 28 = .ok (.if_icmp .ne 11, 3) := by decide +kernel
theorem dX7_between_31 : decode cX7_between 31 = .ok (.aload_n 0, 1) := by decide +kernel
theorem dX7_between_32 : decode cX7_between 32 = .ok (.iconst 2, 1) := by decide +kernel
theorem dX7_between_33 : decode cX7_between 33 = .ok (.invokevirtual 58, 3) := by decide +kernel
theorem dX7_between_36 : decode cX7_between 36 = .ok (.goto 4, 3) := by decide +kernel
theorem dX7_between_39 : decode cX7_between 39 = .ok (.iload_n 2, 1) := by decide +kernel
theorem dX7_between_40 : decode cX7_between 40 = .ok (.ireturn, 1) := by decide +kernel
theorem dX7_longest_0 : decode cX7_longest 0 = .ok (.iconst 0, 1) := by decide +kernel
theorem dX7_longest_1 : decode cX7_longest 1 = .ok (.istore_n 1, 1) := by decide +kernel
theorem dX7_longest_2 : decode cX7_longest 2 = .ok (.iconst 0, 1) := by decide +kernel
theorem dX7_longest_3 : decode cX7_longest 3 = .ok (.istore_n 2, 1) := by decide +kernel
theorem dX7_longest_4 : decode cX7_longest 4 = .ok (.iload_n 2, 1) := by decide +kernel
theorem dX7_longest_5 : decode cX7_longest 5 = .ok (.aload_n 0, 1) := by decide +kernel
theorem dX7_longest_6 : decode cX7_longest 6 = .ok (.getfield 7, 3) := by decide +kernel
theorem dX7_longest_9 : decode cX7_longest 9 = .ok (.iconst 5, 1) := by decide +kernel
theorem dX7_longest_10 : decode cX7_longest 10 = .ok (.iaload, 1) := by decide +kernel
theorem dX7_longest_11 : decode cX7_longest 11 = .ok (.if_icmp .ge 123, 3) := by decide +kernel
theorem dX7_longest_14 : decode cX7_longest 14 = .ok (.aload_n 0, 1) := by decide +kernel
theorem dX7_longest_15 : decode cX7_longest 15 = .ok (.getfield 31, 3) := by decide +kernel
theorem dX7_longest_18 : decode cX7_longest 18 = .ok (.iload_n 2, 1) := by decide +kernel
theorem dX7_longest_19 : decode cX7_longest 19 = .ok (.iconst 1, 1) := by decide +kernel
theorem dX7_longest_20 : decode cX7_longest 20 = .ok (.iastore, 1) := by decide +kernel
theorem dX7_longest_21 : decode cX7_longest 21 = .ok (.iconst 0, 1) := by decide +kernel
theorem dX7_longest_22 : decode cX7_longest 22 = .ok (.istore_n 3, 1) := by decide +kernel
theorem dX7_longest_23 : decode cX7_longest 23 = .ok (.iload_n 3, 1) := by decide +kernel
theorem dX7_longest_24 : decode cX7_longest 24 = .ok (.iload_n 2, 1) := by decide +kernel
theorem dX7_longest_25 : decode cX7_longest 25 = .ok (.if_icmp .ge 82, 3) := by decide +kernel
theorem dX7_longest_28 : decode cX7_longest 28 = .ok (.aload_n 0, 1) := by decide +kernel
theorem dX7_longest_29 : decode cX7_longest 29 = .ok (.aload_n 0, 1) := by decide +kernel
theorem dX7_longest_30 : decode cX7_longest 30 = .ok (.iload_n 3, 1) := by decide +kernel
theorem dX7_longest_31 : decode cX7_longest 31 = .ok (.invokevirtual 158, 3) := by decide +kernel
theorem dX7_longest_34 : decode cX7_longest 34 = .ok (.iconst 2, 1) := by decide +kernel
theorem dX7_longest_35 : decode cX7_longest 35 = .ok (.invokevirtual 54, 3) := by decide +kernel
theorem dX7_longest_38 : decode cX7_longest 38 = .ok (.aload_n 0, 1) := by decide +kernel
theorem dX7_longest_39 : decode cX7_longest 39 = .ok (.aload_n 0, 1) := by decide +kernel
theorem dX7_longest_40 : decode cX7_longest 40 = .ok (.iload_n 2, 1) := by decide +kernel
theorem dX7_longest_41 : decode cX7_longest 41 = .ok (.invokevirtual 158, 3) := by decide +kernel
theorem dX7_longest_44 : decode cX7_longest 44 = .ok (.iconst 2, 1) := by decide +kernel
theorem dX7_longest_45 : decode cX7_longest 45 = .ok (.invokevirtual 54, 3) := by decide +kernel
theorem dX7_longest_48 : decode cX7_longest 48 = .ok (.if_icmp .ge 22, 3) := by decide +kernel
theorem dX7_longest_51 : decode cX7_longest 51 = .ok (.aload_n 0, 1) := by decide +kernel
theorem dX7_longest_52 : decode cX7_longest 52 = .ok (.getfield 31, 3) := by decide +kernel
theorem dX7_longest_55 : decode cX7_longest 55 = .ok (.iload_n 3, 1) := by decide +kernel
theorem dX7_longest_56 : decode cX7_longest 56 = .ok (.iaload, 1) := by decide +kernel
theorem dX7_longest_57 : decode cX7_longest 57 = .ok (.aload_n 0, 1) := by decide +kernel
theorem dX7_longest_58 : decode cX7_longest 58 = .ok (.getfield 31, 3) := by decide +kernel
theorem dX7_longest_61 : decode cX7_longest 61 = .ok (.iload_n 2, 1) := by decide +kernel
theorem dX7_longest_62 : decode cX7_longest 62 = .ok (.iaload, 1) := by decide +kernel
theorem dX7_longest_63 : decode cX7_longest 63 = .ok (.if_icmp .lt 7, 3) := by decide +kernel
theorem dX7_longest_66 : decode cX7_longest 66 = .ok (.iconst 1, 1) := by decide +kernel
theorem dX7_longest_67 : decode cX7_longest 67 = .ok (.goto 4, 3) := by decide +kernel
theorem dX7_longest_70 : decode cX7_longest 70 = .ok (.iconst 0, 1) := by decide +kernel
theorem dX7_longest_71 : decode cX7_longest 71 = .ok (.istore 4, 2) := by decide +kernel
theorem dX7_longest_73 : decode cX7_longest 73 = .ok (.aload_n 0, 1) := by decide +kernel
theorem dX7_longest_74 : decode cX7_longest 74 = .ok (.getfield 31, 3) := by decide +kernel
theorem dX7_longest_77 : decode cX7_longest 77 = .ok (.iload_n 2, 1) := by decide +kernel
theorem dX7_longest_78 : decode cX7_longest 78 = .ok (.iload 4, 2) := by decide +kernel
theorem dX7_longest_80 : decode cX7_longest 80 = .ok (.ifCond .eq 14, 3) := by decide +kernel
theorem dX7_longest_83 : decode cX7_longest 83 = .ok (.aload_n 0, 1) := by decide +kernel
theorem dX7_longest_84 : decode cX7_longest 84 = .ok (.getfield 31, 3) := by decide +kernel
theorem dX7_longest_87 : decode cX7_longest 87 = .ok (.iload_n 3, 1) := by decide +kernel
theorem dX7_longest_88 : decode cX7_longest 88 = .ok (.iaload, 1) := by decide +kernel
theorem dX7_longest_89 : decode cX7_longest 89 = .ok (.iconst 1, 1) := by decide +kernel
theorem dX7_longest_90 : decode cX7_longest 90 = .ok (.iadd, 1) := by decide +kernel
theorem dX7_longest_91 : decode cX7_longest 91 = .ok (.goto 9, 3) := by decide +kernel
theorem dX7_longest_94 : decode cX7_longest 94 = .ok (.aload_n 0, 1) := by decide +kernel
theorem dX7_longest_95 : decode cX7_longest 95 = .ok (.getfield 31, 3) := by decide +kernel
theorem dX7_longest_98 : decode cX7_longest 98 = .ok (.iload_n 2, 1) := by decide +kernel
theorem dX7_longest_99 : decode cX7_longest 99 = .ok (.iaload, 1) := by decide +kernel
theorem dX7_longest_100 : decode cX7_longest 100 = .ok (.iastore, 1) := by decide +kernel
theorem dX7_longest_101 : decode cX7_longest 101 = .ok (.iinc 3 1, 3) := by decide +kernel
theorem dX7_longest_104 : decode cX7_longest 104 = .ok (.goto (-81), 3) := by decide +kernel
theorem dX7_longest_107 : decode cX7_longest 107 = .ok (.aload_n 0, 1) := by decide +kernel
theorem dX7_longest_108 : decode cX7_longest 108 = .ok (.getfield 31, 3) := by decide +kernel
theorem dX7_longest_111 : decode cX7_longest 111 = .ok (.iload_n 2, 1) := by decide +kernel
theorem dX7_longest_112 : decode cX7_longest 112 = .ok (.iaload, 1) := by decide +kernel
theorem dX7_longest_113 : decode cX7_longest 113 = .ok (.iload_n 1, 1) := by decide +kernel
theorem dX7_longest_114 : decode cX7_longest 114 = .ok (.if_icmp .le 12, 3) := by decide +kernel
theorem dX7_longest_117 : decode cX7_longest 117 = .ok (.aload_n 0, 1) := by decide +kernel
theorem dX7_longest_118 : decode cX7_longest 118 = .ok (.getfield 31, 3) := by decide +kernel
theorem dX7_longest_121 : decode cX7_longest 121 = .ok (.iload_n 2, 1) := by decide +kernel
theorem dX7_longest_122 : decode cX7_longest 122 = .ok (.iaload, 1) := by decide +kernel
theorem dX7_longest_123 : decode cX7_longest 123 = .ok (.goto 4, 3) := by decide +kernel
theorem dX7_longest_126 : decode cX7_longest 126 = .ok (.iload_n 1, 1) := by decide +kernel
theorem dX7_longest_127 : decode cX7_longest 127 = .ok (.istore_n 1, 1) := by decide +kernel
theorem dX7_longest_128 : decode cX7_longest 128 = .ok (.iinc 2 1, 3) := by decide +kernel
theorem dX7_longest_131 : decode cX7_longest 131 = .ok (.goto (-127), 3) := by decide +kernel
theorem dX7_longest_134 : decode cX7_longest 134 = .ok (.iload_n 1, 1) := by decide +kernel
theorem dX7_longest_135 : decode cX7_longest 135 = .ok (.ireturn, 1) := by decide +kernel
theorem dX7_fewest_0 : decode cX7_fewest 0 = .ok (.aload_n 0, 1) := by decide +kernel
theorem dX7_fewest_1 : decode cX7_fewest 1 = .ok (.getfield 7, 3) := by decide +kernel
theorem dX7_fewest_4 : decode cX7_fewest 4 = .ok (.iconst 5, 1) := by decide +kernel
theorem dX7_fewest_5 : decode cX7_fewest 5 = .ok (.iaload, 1) := by decide +kernel
theorem dX7_fewest_6 : decode cX7_fewest 6 = .ok (.aload_n 0, 1) := by decide +kernel
theorem dX7_fewest_7 : decode cX7_fewest 7 = .ok (.invokevirtual 193, 3) := by decide +kernel
theorem dX7_fewest_10 : decode cX7_fewest 10 = .ok (.isub, 1) := by decide +kernel
theorem dX7_fewest_11 : decode cX7_fewest 11 = .ok (.ireturn, 1) := by decide +kernel
theorem dX7_order_0 : decode cX7_order 0 = .ok (.aload_n 0, 1) := by decide +kernel
theorem dX7_order_1 : decode cX7_order 1 = .ok (.invokevirtual 193, 3) := by decide +kernel
theorem dX7_order_4 : decode cX7_order 4 = .ok (.aload_n 0, 1) := by decide +kernel
theorem dX7_order_5 : decode cX7_order 5 = .ok (.getfield 7, 3) := by decide +kernel
theorem dX7_order_8 : decode cX7_order 8 = .ok (.iconst 5, 1) := by decide +kernel
theorem dX7_order_9 : decode cX7_order 9 = .ok (.iaload, 1) := by decide +kernel
theorem dX7_order_10 : decode cX7_order 10 = .ok (.if_icmp .ne 7, 3) := by decide +kernel
theorem dX7_order_13 : decode cX7_order 13 = .ok (.iconst 1, 1) := by decide +kernel
theorem dX7_order_14 : decode cX7_order 14 = .ok (.goto 4, 3) := by decide +kernel
theorem dX7_order_17 : decode cX7_order 17 = .ok (.iconst 0, 1) := by decide +kernel
theorem dX7_order_18 : decode cX7_order 18 = .ok (.ireturn, 1) := by decide +kernel
theorem dX7_finds1_0 : decode cX7_finds1 0 = .ok (.iconst 0, 1) := by decide +kernel
theorem dX7_finds1_1 : decode cX7_finds1 1 = .ok (.istore_n 2, 1) := by decide +kernel
theorem dX7_finds1_2 : decode cX7_finds1 2 = .ok (.aload_n 0, 1) := by decide +kernel
theorem dX7_finds1_3 : decode cX7_finds1 3 = .ok (.getfield 7, 3) := by decide +kernel
theorem dX7_finds1_6 : decode cX7_finds1 6 = .ok (.iconst 5, 1) := by decide +kernel
theorem dX7_finds1_7 : decode cX7_finds1 7 = .ok (.iaload, 1) := by decide +kernel
theorem dX7_finds1_8 : decode cX7_finds1 8 = .ok (.iconst 1, 1) := by decide +kernel
theorem dX7_finds1_9 : decode cX7_finds1 9 = .ok (.isub, 1) := by decide +kernel
theorem dX7_finds1_10 : decode cX7_finds1 10 = .ok (.istore_n 3, 1) := by decide +kernel
theorem dX7_finds1_11 : decode cX7_finds1 11 = .ok (.aload_n 0, 1) := by decide +kernel
theorem dX7_finds1_12 : decode cX7_finds1 12 = .ok (.iconst 0, 1) := by decide +kernel
theorem dX7_finds1_13 : decode cX7_finds1 13 = .ok (.putfield 196, 3) := by decide +kernel
theorem dX7_finds1_16 : decode cX7_finds1 16 = .ok (.iload_n 2, 1) := by decide +kernel
theorem dX7_finds1_17 : decode cX7_finds1 17 = .ok (.iload_n 3, 1) := by decide +kernel
theorem dX7_finds1_18 : decode cX7_finds1 18 = .ok (.if_icmp .gt 85, 3) := by decide +kernel
theorem dX7_finds1_21 : decode cX7_finds1 21 = .ok (.iload_n 2, 1) := by decide +kernel
theorem dX7_finds1_22 : decode cX7_finds1 22 = .ok (.iload_n 3, 1) := by decide +kernel
theorem dX7_finds1_23 : decode cX7_finds1 23 = .ok (.iadd, 1) := by decide +kernel
theorem dX7_finds1_24 : decode cX7_finds1 24 = .ok (.iconst 2, 1) := by decide +kernel
theorem dX7_finds1_25 : decode cX7_finds1 25 = .ok (.idiv, 1) := by decide +kernel
theorem dX7_finds1_26 : decode cX7_finds1 26 = .ok (.istore 4, 2) := by decide +kernel
theorem dX7_finds1_28 : decode cX7_finds1 28 = .ok (.aload_n 0, 1) := by decide +kernel
theorem dX7_finds1_29 : decode cX7_finds1 29 = .ok (.iload 4, 2) := by decide +kernel
theorem dX7_finds1_31 : decode cX7_finds1 31 = .ok (.invokevirtual 158, 3) := by decide +kernel
theorem dX7_finds1_34 : decode cX7_finds1 34 = .ok (.istore 5, 2) := by decide +kernel
theorem dX7_finds1_36 : decode cX7_finds1 36 = .ok (.aload_n 0, 1) := by decide +kernel
theorem dX7_finds1_37 : decode cX7_finds1 37 = .ok (.dup, 1) := by decide +kernel
theorem dX7_finds1_38 : decode cX7_finds1 38 = .ok (.getfield 196, 3) := by decide +kernel
theorem dX7_finds1_41 : decode cX7_finds1 41 = .ok (.iconst 1, 1) := by decide +kernel
theorem dX7_finds1_42 : decode cX7_finds1 42 = .ok (.iadd, 1) := by decide +kernel
theorem dX7_finds1_43 : decode cX7_finds1 43 = .ok (.putfield 196, 3) := by decide +kernel
theorem dX7_finds1_46 : decode cX7_finds1 46 = .ok (.aload_n 0, 1) := by decide +kernel
theorem dX7_finds1_47 : decode cX7_finds1 47 = .ok (.iload 5, 2) := by decide +kernel
theorem dX7_finds1_49 : decode cX7_finds1 49 = .ok (.iconst 2, 1) := by decide +kernel
theorem dX7_finds1_50 : decode cX7_finds1 50 = .ok (.invokevirtual 54, 3) := by decide +kernel
theorem dX7_finds1_53 : decode cX7_finds1 53 = .ok (.iload_n 1, 1) := by decide +kernel
theorem dX7_finds1_54 : decode cX7_finds1 54 = .ok (.if_icmp .ne 6, 3) := by decide +kernel
theorem dX7_finds1_57 : decode cX7_finds1 57 = .ok (.iload 5, 2) := by decide +kernel
theorem dX7_finds1_59 : decode cX7_finds1 59 = .ok (.ireturn, 1) := by decide +kernel
theorem dX7_finds1_60 : decode cX7_finds1 60 = .ok (.aload_n 0, 1) := by decide +kernel
theorem dX7_finds1_61 : decode cX7_finds1 61 = .ok (.iload 5, 2) := by decide +kernel
theorem dX7_finds1_63 : decode cX7_finds1 63 = .ok (.iconst 2, 1) := by decide +kernel
theorem dX7_finds1_64 : decode cX7_finds1 64 = .ok (.invokevirtual 54, 3) := by decide +kernel
theorem dX7_finds1_67 : decode cX7_finds1 67 = .ok (.iload_n 1, 1) := by decide +kernel
theorem dX7_finds1_68 : decode cX7_finds1 68 = .ok (.if_icmp .ge 10, 3) := by decide +kernel
theorem dX7_finds1_71 : decode cX7_finds1 71 = .ok (.iload 4, 2) := by decide +kernel
theorem dX7_finds1_73 : decode cX7_finds1 73 = .ok (.iconst 1, 1) := by decide +kernel
theorem dX7_finds1_74 : decode cX7_finds1 74 = .ok (.iadd, 1) := by decide +kernel
theorem dX7_finds1_75 : decode cX7_finds1 75 = .ok (.goto 4, 3) := by decide +kernel
theorem dX7_finds1_78 : decode cX7_finds1 78 = .ok (.iload_n 2, 1) := by decide +kernel
theorem dX7_finds1_79 : decode cX7_finds1 79 = .ok (.istore_n 2, 1) := by decide +kernel
theorem dX7_finds1_80 : decode cX7_finds1 80 = .ok (.aload_n 0, 1) := by decide +kernel
theorem dX7_finds1_81 : decode cX7_finds1 81 = .ok (.iload 5, 2) := by decide +kernel
theorem dX7_finds1_83 : decode cX7_finds1 83 = .ok (.iconst 2, 1) := by decide +kernel
theorem dX7_finds1_84 : decode cX7_finds1 84 = .ok (.invokevirtual 54, 3) := by decide +kernel
theorem dX7_finds1_87 : decode cX7_finds1 87 = .ok (.iload_n 1, 1) := by decide +kernel
theorem dX7_finds1_88 : decode cX7_finds1 88 = .ok (.if_icmp .ge 7, 3) := by decide +kernel
theorem dX7_finds1_91 : decode cX7_finds1 91 = .ok (.iload_n 3, 1) := by decide +kernel
theorem dX7_finds1_92 : decode cX7_finds1 92 = .ok (.goto 7, 3) := by decide +kernel
theorem dX7_finds1_95 : decode cX7_finds1 95 = .ok (.iload 4, 2) := by decide +kernel
theorem dX7_finds1_97 : decode cX7_finds1 97 = .ok (.iconst 1, 1) := by decide +kernel
theorem dX7_finds1_98 : decode cX7_finds1 98 = .ok (.isub, 1) := by decide +kernel
theorem dX7_finds1_99 : decode cX7_finds1 99 = .ok (.istore_n 3, 1) := by decide +kernel
theorem dX7_finds1_100 : decode cX7_finds1 100 = .ok (.goto (-84), 3) := by decide +kernel
theorem dX7_finds1_103 : decode cX7_finds1 103 = .ok (.iconst (-1), 1) := by decide +kernel
theorem dX7_finds1_104 : decode cX7_finds1 104 = .ok (.ireturn, 1) := by decide +kernel
theorem dX7_search_0 : decode cX7_search 0 = .ok (.iload_n 1, 1) := by decide +kernel
theorem dX7_search_1 : decode cX7_search 1 = .ok (.invokestatic 146, 3) := by decide +kernel
theorem dX7_search_4 : decode cX7_search 4 = .ok (.ifCond .eq 12, 3) := by decide +kernel
theorem dX7_search_7 : decode cX7_search 7 = .ok (.iload_n 2, 1) := by decide +kernel
theorem dX7_search_8 : decode cX7_search 8 = .ok (.iconst 0, 1) := by decide +kernel
theorem dX7_search_9 : decode cX7_search 9 = .ok (.iconst 1, 1) := by decide +kernel
theorem dX7_search_10 : decode cX7_search 10 = .ok (.invokestatic 50, 3) := by decide +kernel
theorem dX7_search_13 : decode cX7_search 13 = .ok (.ifCond .ne 9, 3) := by decide +kernel
theorem dX7_search_16 : decode cX7_search 16 = .ok (.aload_n 0, 1) := by decide +kernel
theorem dX7_search_17 : decode cX7_search 17 = .ok (.iconst 1, 1) := by decide +kernel
theorem dX7_search_18 : decode cX7_search 18 = .ok (.invokevirtual 58, 3) := by decide +kernel
theorem dX7_search_21 : decode cX7_search 21 = .ok (.ireturn, 1) := by decide +kernel
theorem dX7_search_22 : decode cX7_search 22 = .ok (.aload_n 0, 1) := by decide +kernel
theorem dX7_search_23 : decode cX7_search 23 = .ok (.iload_n 1, 1) := by decide +kernel
theorem dX7_search_24 : decode cX7_search 24 = .ok (.invokevirtual 199, 3) := by decide +kernel
theorem dX7_search_27 : decode cX7_search 27 = .ok (.istore_n 3, 1) := by decide +kernel
theorem dX7_search_28 : decode cX7_search 28 = .ok (.iload_n 2, 1) := by decide +kernel
theorem dX7_search_29 : decode cX7_search 29 = .ok (.iconst 1, 1) := by decide +kernel
theorem dX7_search_30 : decode cX7_search 30 = .ok (.if_icmp .ne 10, 3) := by decide +kernel
theorem dX7_search_33 : decode cX7_search 33 = .ok (.aload_n 0, 1) := by decide +kernel
theorem dX7_search_34 : decode cX7_search 34 = .ok (.getfield 196, 3) := by decide +kernel
theorem dX7_search_37 : decode cX7_search 37 = .ok (.goto 17, 3) := by decide +kernel
theorem dX7_search_40 : decode cX7_search 40 = .ok (.iload_n 3, 1) := by decide +kernel
theorem dX7_search_41 : decode cX7_search 41 = .ok (.iconst (-1), 1) := by decide +kernel
theorem dX7_search_42 : decode cX7_search 42 = .ok (.if_icmp .ne 11, 3) := by decide +kernel
theorem dX7_search_45 : decode cX7_search 45 = .ok (.aload_n 0, 1) := by decide +kernel
theorem dX7_search_46 : decode cX7_search 46 = .ok (.iconst 2, 1) := by decide +kernel
theorem dX7_search_47 : decode cX7_search 47 = .ok (.invokevirtual 58, 3) := by decide +kernel
theorem dX7_search_50 : decode cX7_search 50 = .ok (.goto 4, 3) := by decide +kernel
theorem dX7_search_53 : decode cX7_search 53 = .ok (.iload_n 3, 1) := by decide +kernel
theorem dX7_search_54 : decode cX7_search 54 = .ok (.ireturn, 1) := by decide +kernel
theorem dX7_divisor_0 : decode cX7_divisor 0 = .ok (.iload_n 0, 1) := by decide +kernel
theorem dX7_divisor_1 : decode cX7_divisor 1 = .ok (.istore_n 2, 1) := by decide +kernel
theorem dX7_divisor_2 : decode cX7_divisor 2 = .ok (.iload_n 1, 1) := by decide +kernel
theorem dX7_divisor_3 : decode cX7_divisor 3 = .ok (.istore_n 3, 1) := by decide +kernel
theorem dX7_divisor_4 : decode cX7_divisor 4 = .ok (.iload_n 3, 1) := by decide +kernel
theorem dX7_divisor_5 : decode cX7_divisor 5 = .ok (.ifCond .eq 16, 3) := by decide +kernel
theorem dX7_divisor_8 : decode cX7_divisor 8 = .ok (.iload_n 2, 1) := by decide +kernel
theorem dX7_divisor_9 : decode cX7_divisor 9 = .ok (.iload_n 3, 1) := by decide +kernel
theorem dX7_divisor_10 : decode cX7_divisor 10 = .ok (.irem, 1) := by decide +kernel
theorem dX7_divisor_11 : decode cX7_divisor 11 = .ok (.istore 4, 2) := by decide +kernel
theorem dX7_divisor_13 : decode cX7_divisor 13 = .ok (.iload_n 3, 1) := by decide +kernel
theorem dX7_divisor_14 : decode cX7_divisor 14 = .ok (.istore_n 2, 1) := by decide +kernel
theorem dX7_divisor_15 : decode cX7_divisor 15 = .ok (.iload 4, 2) := by decide +kernel
theorem dX7_divisor_17 : decode cX7_divisor 17 = .ok (.istore_n 3, 1) := by decide +kernel
theorem dX7_divisor_18 : decode cX7_divisor 18 = .ok (.goto (-14), 3) := by decide +kernel
theorem dX7_divisor_21 : decode cX7_divisor 21 = .ok (.iload_n 2, 1) := by decide +kernel
theorem dX7_divisor_22 : decode cX7_divisor 22 = .ok (.ireturn, 1) := by decide +kernel
theorem dX7_odds_0 : decode cX7_odds 0 = .ok (.iload_n 1, 1) := by decide +kernel
theorem dX7_odds_1 : decode cX7_odds 1 = .ok (.iconst 0, 1) := by decide +kernel
theorem dX7_odds_2 : decode cX7_odds 2 = .ok (.iconst 1, 1) := by decide +kernel
theorem dX7_odds_3 : decode cX7_odds 3 = .ok (.invokestatic 50, 3) := by decide +kernel
theorem dX7_odds_6 : decode cX7_odds 6 = .ok (.ifCond .ne 9, 3) := by decide +kernel
theorem dX7_odds_9 : decode cX7_odds 9 = .ok (.aload_n 0, 1) := by decide +kernel
theorem dX7_odds_10 : decode cX7_odds 10 = .ok (.iconst 1, 1) := by decide +kernel
theorem dX7_odds_11 : decode cX7_odds 11 = .ok (.invokevirtual 58, 3) := by decide +kernel
theorem dX7_odds_14 : decode cX7_odds 14 = .ok (.ireturn, 1) := by decide +kernel
theorem dX7_odds_15 : decode cX7_odds 15 = .ok (.aload_n 0, 1) := by decide +kernel
theorem dX7_odds_16 : decode cX7_odds 16 = .ok (.getfield 7, 3) := by decide +kernel
theorem dX7_odds_19 : decode cX7_odds 19 = .ok (.iconst 5, 1) := by decide +kernel
theorem dX7_odds_20 : decode cX7_odds 20 = .ok (.iaload, 1) := by decide +kernel
theorem dX7_odds_21 : decode cX7_odds 21 = .ok (.ifCond .ne 9, 3) := by decide +kernel
theorem dX7_odds_24 : decode cX7_odds 24 = .ok (.aload_n 0, 1) := by decide +kernel
theorem dX7_odds_25 : decode cX7_odds 25 = .ok (.iconst 3, 1) := by decide +kernel
theorem dX7_odds_26 : decode cX7_odds 26 = .ok (.invokevirtual 58, 3) := by decide +kernel
theorem dX7_odds_29 : decode cX7_odds 29 = .ok (.ireturn, 1) := by decide +kernel
theorem dX7_odds_30 : decode cX7_odds 30 = .ok (.iconst 0, 1) := by decide +kernel
theorem dX7_odds_31 : decode cX7_odds 31 = .ok (.istore_n 2, 1) := by decide +kernel
theorem dX7_odds_32 : decode cX7_odds 32 = .ok (.iconst 0, 1) := by decide +kernel
theorem dX7_odds_33 : decode cX7_odds 33 = .ok (.istore_n 3, 1) := by decide +kernel
theorem dX7_odds_34 : decode cX7_odds 34 = .ok (.iload_n 3, 1) := by decide +kernel
theorem dX7_odds_35 : decode cX7_odds 35 = .ok (.aload_n 0, 1) := by decide +kernel
theorem dX7_odds_36 : decode cX7_odds 36 = .ok (.getfield 7, 3) := by decide +kernel
theorem dX7_odds_39 : decode cX7_odds 39 = .ok (.iconst 5, 1) := by decide +kernel
theorem dX7_odds_40 : decode cX7_odds 40 = .ok (.iaload, 1) := by decide +kernel
theorem dX7_odds_41 : decode cX7_odds 41 = .ok (.if_icmp .ge 31, 3) := by decide +kernel
theorem dX7_odds_44 : decode cX7_odds 44 = .ok (.iload_n 2, 1) := by decide +kernel
theorem dX7_odds_45 : decode cX7_odds 45 = .ok (.aload_n 0, 1) := by decide +kernel
theorem dX7_odds_46 : decode cX7_odds 46 = .ok (.aload_n 0, 1) := by decide +kernel
theorem dX7_odds_47 : decode cX7_odds 47 = .ok (.iload_n 3, 1) := by decide +kernel
theorem dX7_odds_48 : decode cX7_odds 48 = .ok (.iconst 2, 1) := by decide +kernel
theorem dX7_odds_49 : decode cX7_odds 49 = .ok (.invokevirtual 54, 3) := by decide +kernel
theorem dX7_odds_52 : decode cX7_odds 52 = .ok (.invokevirtual 199, 3) := by decide +kernel
theorem dX7_odds_55 : decode cX7_odds 55 = .ok (.iload_n 3, 1) := by decide +kernel
theorem dX7_odds_56 : decode cX7_odds 56 = .ok (.if_icmp .ne 7, 3) := by decide +kernel
theorem dX7_odds_59 : decode cX7_odds 59 = .ok (.iconst 1, 1) := by decide +kernel
theorem dX7_odds_60 : decode cX7_odds 60 = .ok (.goto 4, 3) := by decide +kernel
theorem dX7_odds_63 : decode cX7_odds 63 = .ok (.iconst 0, 1) := by decide +kernel
theorem dX7_odds_64 : decode cX7_odds 64 = .ok (.iadd, 1) := by decide +kernel
theorem dX7_odds_65 : decode cX7_odds 65 = .ok (.istore_n 2, 1) := by decide +kernel
theorem dX7_odds_66 : decode cX7_odds 66 = .ok (.iinc 3 1, 3) := by decide +kernel
theorem dX7_odds_69 : decode cX7_odds 69 = .ok (.goto (-35), 3) := by decide +kernel
theorem dX7_odds_72 : decode cX7_odds 72 = .ok (.iload_n 2, 1) := by decide +kernel
theorem dX7_odds_73 : decode cX7_odds 73 = .ok (.aload_n 0, 1) := by decide +kernel
theorem dX7_odds_74 : decode cX7_odds 74 = .ok (.getfield 7, 3) := by decide +kernel
theorem dX7_odds_77 : decode cX7_odds 77 = .ok (.iconst 5, 1) := by decide +kernel
theorem dX7_odds_78 : decode cX7_odds 78 = .ok (.iaload, 1) := by decide +kernel
theorem dX7_odds_79 : decode cX7_odds 79 = .ok (.invokestatic 202, 3) := by decide +kernel
theorem dX7_odds_82 : decode cX7_odds 82 = .ok (.istore_n 3, 1) := by decide +kernel
theorem dX7_odds_83 : decode cX7_odds 83 = .ok (.iload_n 1, 1) := by decide +kernel
theorem dX7_odds_84 : decode cX7_odds 84 = .ok (.ifCond .ne 9, 3) := by decide +kernel
theorem dX7_odds_87 : decode cX7_odds 87 = .ok (.iload_n 2, 1) := by decide +kernel
theorem dX7_odds_88 : decode cX7_odds 88 = .ok (.iload_n 3, 1) := by decide +kernel
theorem dX7_odds_89 : decode cX7_odds 89 = .ok (.idiv, 1) := by decide +kernel
theorem dX7_odds_90 : decode cX7_odds 90 = .ok (.goto 11, 3) := by decide +kernel
theorem dX7_odds_93 : decode cX7_odds 93 = .ok (.aload_n 0, 1) := by decide +kernel
theorem dX7_odds_94 : decode cX7_odds 94 = .ok (.getfield 7, 3) := by decide +kernel
theorem dX7_odds_97 : decode cX7_odds 97 = .ok (.iconst 5, 1) := by decide +kernel
theorem dX7_odds_98 : decode cX7_odds 98 = .ok (.iaload, 1) := by decide +kernel
theorem dX7_odds_99 : decode cX7_odds 99 = .ok (.iload_n 3, 1) := by decide +kernel
theorem dX7_odds_100 : decode cX7_odds 100 = .ok (.idiv, 1) := by decide +kernel
theorem dX7_odds_101 : decode cX7_odds 101 = .ok (.ireturn, 1) := by decide +kernel
theorem dX7_harmsSo_0 : decode cX7_harmsSo 0 = .ok (.aload_n 0, 1) := by decide +kernel
theorem dX7_harmsSo_1 : decode cX7_harmsSo 1 = .ok (.getfield 40, 3) := by decide +kernel
theorem dX7_harmsSo_4 : decode cX7_harmsSo 4 = .ok (.iload_n 1, 1) := by decide +kernel
theorem dX7_harmsSo_5 : decode cX7_harmsSo 5 = .ok (.iaload, 1) := by decide +kernel
theorem dX7_harmsSo_6 : decode cX7_harmsSo 6 = .ok (.aload_n 0, 1) := by decide +kernel
theorem dX7_harmsSo_7 : decode cX7_harmsSo 7 = .ok (.getfield 7, 3) := by decide +kernel
theorem dX7_harmsSo_10 : decode cX7_harmsSo 10 = .ok (.iconst 5, 1) := by decide +kernel
theorem dX7_harmsSo_11 : decode cX7_harmsSo 11 = .ok (.iaload, 1) := by decide +kernel
theorem dX7_harmsSo_12 : decode cX7_harmsSo 12 = .ok (.if_icmp .gt 7, 3) := by decide +kernel
theorem dX7_harmsSo_15 : decode cX7_harmsSo 15 = .ok (.iconst 1, 1) := by decide +kernel
theorem dX7_harmsSo_16 : decode cX7_harmsSo 16 = .ok (.goto 4, 3) := by decide +kernel
theorem dX7_harmsSo_19 : decode cX7_harmsSo 19 = .ok (.iconst 0, 1) := by decide +kernel
theorem dX7_harmsSo_20 : decode cX7_harmsSo 20 = .ok (.istore_n 3, 1) := by decide +kernel
theorem dX7_harmsSo_21 : decode cX7_harmsSo 21 = .ok (.iconst 0, 1) := by decide +kernel
theorem dX7_harmsSo_22 : decode cX7_harmsSo 22 = .ok (.istore 4, 2) := by decide +kernel
theorem dX7_harmsSo_24 : decode cX7_harmsSo 24 = .ok (.iload 4, 2) := by decide +kernel
theorem dX7_harmsSo_26 : decode cX7_harmsSo 26 = .ok (.aload_n 0, 1) := by decide +kernel
theorem dX7_harmsSo_27 : decode cX7_harmsSo 27 = .ok (.getfield 40, 3) := by decide +kernel
theorem dX7_harmsSo_30 : decode cX7_harmsSo 30 = .ok (.iload_n 1, 1) := by decide +kernel
theorem dX7_harmsSo_31 : decode cX7_harmsSo 31 = .ok (.iaload, 1) := by decide +kernel
theorem dX7_harmsSo_32 : decode cX7_harmsSo 32 = .ok (.if_icmp .ge 50, 3) := by decide +kernel
theorem dX7_harmsSo_35 : decode cX7_harmsSo 35 = .ok (.iload_n 3, 1) := by decide +kernel
theorem dX7_harmsSo_36 : decode cX7_harmsSo 36 = .ok (.ifCond .eq 46, 3) := by decide +kernel
theorem dX7_harmsSo_39 : decode cX7_harmsSo 39 = .ok (.aload_n 0, 1) := by decide +kernel
theorem dX7_harmsSo_40 : decode cX7_harmsSo 40 = .ok (.aload_n 0, 1) := by decide +kernel
theorem dX7_harmsSo_41 : decode cX7_harmsSo 41 = .ok (.iload 4, 2) := by decide +kernel
theorem dX7_harmsSo_43 : decode cX7_harmsSo 43 = .ok (.invokevirtual 158, 3) := by decide +kernel
theorem dX7_harmsSo_46 : decode cX7_harmsSo 46 = .ok (.iload_n 2, 1) := by decide +kernel
theorem dX7_harmsSo_47 : decode cX7_harmsSo 47 = .ok (.iload 4, 2) := by decide +kernel
theorem dX7_harmsSo_49 : decode cX7_harmsSo 49 = .ok (.iconst 1, 1) := by decide +kernel
theorem dX7_harmsSo_50 : decode cX7_harmsSo 50 = .ok (.iadd, 1) := by decide +kernel
theorem dX7_harmsSo_51 : decode cX7_harmsSo 51 = .ok (.imul, 1) := by decide +kernel
theorem dX7_harmsSo_52 : decode cX7_harmsSo 52 = .ok (.invokevirtual 167, 3) := by decide +kernel
theorem dX7_harmsSo_55 : decode cX7_harmsSo 55 = .ok (.aload_n 0, 1) := by decide +kernel
theorem dX7_harmsSo_56 : decode cX7_harmsSo 56 = .ok (.getfield 43, 3) := by decide +kernel
theorem dX7_harmsSo_59 : decode cX7_harmsSo 59 = .ok (.bipush 24, 2) := by decide +kernel
theorem dX7_harmsSo_61 : decode cX7_harmsSo 61 = .ok (.iload_n 1, 1) := by decide +kernel
theorem dX7_harmsSo_62 : decode cX7_harmsSo 62 = .ok (.imul, 1) := by decide +kernel
theorem dX7_harmsSo_63 : decode cX7_harmsSo 63 = .ok (.iload 4, 2) := by decide +kernel
theorem dX7_harmsSo_65 : decode cX7_harmsSo 65 = .ok (.iadd, 1) := by decide +kernel
theorem dX7_harmsSo_66 : decode cX7_harmsSo 66 = .ok (.iaload, 1) := by decide +kernel
theorem dX7_harmsSo_67 : decode cX7_harmsSo 67 = .ok (.if_icmp .ne 7, 3) := by decide +kernel
theorem dX7_harmsSo_70 : decode cX7_harmsSo 70 = .ok (.iconst 1, 1) := by decide +kernel
theorem dX7_harmsSo_71 : decode cX7_harmsSo 71 = .ok (.goto 4, 3) := by decide +kernel
theorem dX7_harmsSo_74 : decode cX7_harmsSo 74 = .ok (.iconst 0, 1) := by decide +kernel
theorem dX7_harmsSo_75 : decode cX7_harmsSo 75 = .ok (.istore_n 3, 1) := by decide +kernel
theorem dX7_harmsSo_76 : decode cX7_harmsSo 76 = .ok (.iinc 4 1, 3) := by decide +kernel
theorem dX7_harmsSo_79 : decode cX7_harmsSo 79 = .ok (.goto (-55), 3) := by decide +kernel
theorem dX7_harmsSo_82 : decode cX7_harmsSo 82 = .ok (.iload_n 3, 1) := by decide +kernel
theorem dX7_harmsSo_83 : decode cX7_harmsSo 83 = .ok (.ireturn, 1) := by decide +kernel
theorem dX7_fits_0 : decode cX7_fits 0 = .ok (.iload_n 2, 1) := by decide +kernel
theorem dX7_fits_1 : decode cX7_fits 1 = .ok (.iconst 0, 1) := by decide +kernel
theorem dX7_fits_2 : decode cX7_fits 2 = .ok (.iconst 1, 1) := by decide +kernel
theorem dX7_fits_3 : decode cX7_fits 3 = .ok (.invokestatic 50, 3) := by decide +kernel
theorem dX7_fits_6 : decode cX7_fits 6 = .ok (.ifCond .eq 11, 3) := by decide +kernel
theorem dX7_fits_9 : decode cX7_fits 9 = .ok (.aload_n 0, 1) := by decide +kernel
theorem dX7_fits_10 : decode cX7_fits 10 = .ok (.iload_n 1, 1) := by decide +kernel
theorem dX7_fits_11 : decode cX7_fits 11 = .ok (.invokevirtual 205, 3) := by decide +kernel
theorem dX7_fits_14 : decode cX7_fits 14 = .ok (.goto 4, 3) := by decide +kernel
theorem dX7_fits_17 : decode cX7_fits 17 = .ok (.iconst 1, 1) := by decide +kernel
theorem dX7_fits_18 : decode cX7_fits 18 = .ok (.istore_n 3, 1) := by decide +kernel
theorem dX7_fits_19 : decode cX7_fits 19 = .ok (.iload_n 3, 1) := by decide +kernel
theorem dX7_fits_20 : decode cX7_fits 20 = .ok (.ifCond .eq 9, 3) := by decide +kernel
theorem dX7_fits_23 : decode cX7_fits 23 = .ok (.aload_n 0, 1) := by decide +kernel
theorem dX7_fits_24 : decode cX7_fits 24 = .ok (.iload_n 3, 1) := by decide +kernel
theorem dX7_fits_25 : decode cX7_fits 25 = .ok (.invokevirtual 58, 3) := by decide +kernel
theorem dX7_fits_28 : decode cX7_fits 28 = .ok (.ireturn, 1) := by decide +kernel
theorem dX7_fits_29 : decode cX7_fits 29 = .ok (.iconst 0, 1) := by decide +kernel
theorem dX7_fits_30 : decode cX7_fits 30 = .ok (.istore 4, 2) := by decide +kernel
theorem dX7_fits_32 : decode cX7_fits 32 = .ok (.iconst (-1), 1) := by decide +kernel
theorem dX7_fits_33 : decode cX7_fits 33 = .ok (.istore 5, 2) := by decide +kernel
theorem dX7_fits_35 : decode cX7_fits 35 = .ok (.bipush 50, 2) := by decide +kernel
theorem dX7_fits_37 : decode cX7_fits 37 = .ok (.istore 6, 2) := by decide +kernel
theorem dX7_fits_39 : decode cX7_fits 39 = .ok (.iload 6, 2) := by decide +kernel
theorem dX7_fits_41 : decode cX7_fits 41 = .ok (.ifCond .le 47, 3) := by decide +kernel
theorem dX7_fits_44 : decode cX7_fits 44 = .ok (.aload_n 0, 1) := by decide +kernel
theorem dX7_fits_45 : decode cX7_fits 45 = .ok (.iload_n 1, 1) := by decide +kernel
theorem dX7_fits_46 : decode cX7_fits 46 = .ok (.iload 6, 2) := by decide +kernel
theorem dX7_fits_48 : decode cX7_fits 48 = .ok (.invokevirtual 208, 3) := by decide +kernel
theorem dX7_fits_51 : decode cX7_fits 51 = .ok (.istore 7, 2) := by decide +kernel
theorem dX7_fits_53 : decode cX7_fits 53 = .ok (.iload 4, 2) := by decide +kernel
theorem dX7_fits_55 : decode cX7_fits 55 = .ok (.iload 7, 2) := by decide +kernel
theorem dX7_fits_57 : decode cX7_fits 57 = .ok (.ifCond .eq 7, 3) := by decide +kernel
theorem dX7_fits_60 : decode cX7_fits 60 = .ok (.iconst 1, 1) := by decide +kernel
theorem dX7_fits_61 : decode cX7_fits 61 = .ok (.goto 4, 3) := by decide +kernel
theorem dX7_fits_64 : decode cX7_fits 64 = .ok (.iconst 0, 1) := by decide +kernel
theorem dX7_fits_65 : decode cX7_fits 65 = .ok (.iadd, 1) := by decide +kernel
theorem dX7_fits_66 : decode cX7_fits 66 = .ok (.istore 4, 2) := by decide +kernel
theorem dX7_fits_68 : decode cX7_fits 68 = .ok (.iload 7, 2) := by decide +kernel
theorem dX7_fits_70 : decode cX7_fits 70 = .ok (.ifCond .eq 8, 3) := by decide +kernel
theorem dX7_fits_73 : decode cX7_fits 73 = .ok (.iload 6, 2) := by decide +kernel
theorem dX7_fits_75 : decode cX7_fits 75 = .ok (.goto 5, 3) := by decide +kernel
theorem dX7_fits_78 : decode cX7_fits 78 = .ok (.iload 5, 2) := by decide +kernel
theorem dX7_fits_80 : decode cX7_fits 80 = .ok (.istore 5, 2) := by decide +kernel
theorem dX7_fits_82 : decode cX7_fits 82 = .ok (.iinc 6 (-1), 3) := by decide +kernel
theorem dX7_fits_85 : decode cX7_fits 85 = .ok (.goto (-46), 3) := by decide +kernel
theorem dX7_fits_88 : decode cX7_fits 88 = .ok (.iload_n 2, 1) := by decide +kernel
theorem dX7_fits_89 : decode cX7_fits 89 = .ok (.ifCond .ne 8, 3) := by decide +kernel
theorem dX7_fits_92 : decode cX7_fits 92 = .ok (.iload 4, 2) := by decide +kernel
theorem dX7_fits_94 : decode cX7_fits 94 = .ok (.goto 19, 3) := by decide +kernel
theorem dX7_fits_97 : decode cX7_fits 97 = .ok (.iload 5, 2) := by decide +kernel
theorem dX7_fits_99 : decode cX7_fits 99 = .ok (.iconst (-1), 1) := by decide +kernel
theorem dX7_fits_100 : decode cX7_fits 100 = .ok (.if_icmp .ne 11, 3) := by decide +kernel
theorem dX7_fits_103 : decode cX7_fits 103 = .ok (.aload_n 0, 1) := by decide +kernel
theorem dX7_fits_104 : decode cX7_fits 104 = .ok (.iconst 2, 1) := by decide +kernel
theorem dX7_fits_105 : decode cX7_fits 105 = .ok (.invokevirtual 58, 3) := by decide +kernel
theorem dX7_fits_108 : decode cX7_fits 108 = .ok (.goto 5, 3) := by decide +kernel
theorem dX7_fits_111 : decode cX7_fits 111 = .ok (.iload 5, 2) := by decide +kernel
theorem dX7_fits_113 : decode cX7_fits 113 = .ok (.ireturn, 1) := by decide +kernel
theorem dX7_draw_0 : decode cX7_draw 0 = .ok (.aload_n 0, 1) := by decide +kernel
theorem dX7_draw_1 : decode cX7_draw 1 = .ok (.getfield 7, 3) := by decide +kernel
theorem dX7_draw_4 : decode cX7_draw 4 = .ok (.iconst 2, 1) := by decide +kernel
theorem dX7_draw_5 : decode cX7_draw 5 = .ok (.aload_n 0, 1) := by decide +kernel
theorem dX7_draw_6 : decode cX7_draw 6 = .ok (.getfield 7, 3) := by decide +kernel
theorem dX7_draw_9 : decode cX7_draw 9 = .ok (.iconst 2, 1) := by decide +kernel
theorem dX7_draw_10 : decode cX7_draw 10 = .ok (.iaload, 1) := by decide +kernel
theorem dX7_draw_11 : decode cX7_draw 11 = .ok (.ldc 212, 2) := by decide +kernel
theorem dX7_draw_13 : decode cX7_draw 13 = .ok (.imul, 1) := by decide +kernel
theorem dX7_draw_14 : decode cX7_draw 14 = .ok (.sipush 12345, 3) := by decide +kernel
theorem dX7_draw_17 : decode cX7_draw 17 = .ok (.iadd, 1) := by decide +kernel
theorem dX7_draw_18 : decode cX7_draw 18 = .ok (.iastore, 1) := by decide +kernel
theorem dX7_draw_19 : decode cX7_draw 19 = .ok (.aload_n 0, 1) := by decide +kernel
theorem dX7_draw_20 : decode cX7_draw 20 = .ok (.getfield 7, 3) := by decide +kernel
theorem dX7_draw_23 : decode cX7_draw 23 = .ok (.iconst 2, 1) := by decide +kernel
theorem dX7_draw_24 : decode cX7_draw 24 = .ok (.iaload, 1) := by decide +kernel
theorem dX7_draw_25 : decode cX7_draw 25 = .ok (.bipush 8, 2) := by decide +kernel
theorem dX7_draw_27 : decode cX7_draw 27 = .ok (.iushr, 1) := by decide +kernel
theorem dX7_draw_28 : decode cX7_draw 28 = .ok (.ireturn, 1) := by decide +kernel
theorem dX7_buildsOne_0 : decode cX7_buildsOne 0 = .ok (.aload_n 0, 1) := by decide +kernel
theorem dX7_buildsOne_1 : decode cX7_buildsOne 1 = .ok (.invokevirtual 213, 3) := by decide +kernel
theorem dX7_buildsOne_4 : decode cX7_buildsOne 4 = .ok (.iconst 1, 1) := by decide +kernel
theorem dX7_buildsOne_5 : decode cX7_buildsOne 5 = .ok (.aload_n 0, 1) := by decide +kernel
theorem dX7_buildsOne_6 : decode cX7_buildsOne 6 = .ok (.getfield 7, 3) := by decide +kernel
theorem dX7_buildsOne_9 : decode cX7_buildsOne 9 = .ok (.iconst 5, 1) := by decide +kernel
theorem dX7_buildsOne_10 : decode cX7_buildsOne 10 = .ok (.iaload, 1) := by decide +kernel
theorem dX7_buildsOne_11 : decode cX7_buildsOne 11 = .ok (.iadd, 1) := by decide +kernel
theorem dX7_buildsOne_12 : decode cX7_buildsOne 12 = .ok (.irem, 1) := by decide +kernel
theorem dX7_buildsOne_13 : decode cX7_buildsOne 13 = .ok (.istore_n 1, 1) := by decide +kernel
theorem dX7_buildsOne_14 : decode cX7_buildsOne 14 = .ok (.aload_n 0, 1) := by decide +kernel
theorem dX7_buildsOne_15 : decode cX7_buildsOne 15 = .ok (.invokevirtual 213, 3) := by decide +kernel
theorem dX7_buildsOne_18 : decode cX7_buildsOne 18 = .ok (.bipush 7, 2) := by decide +kernel
theorem dX7_buildsOne_20 : decode cX7_buildsOne 20 = .ok (.irem, 1) := by decide +kernel
theorem dX7_buildsOne_21 : decode cX7_buildsOne 21 = .ok (.istore_n 2, 1) := by decide +kernel
theorem dX7_buildsOne_22 : decode cX7_buildsOne 22 = .ok (.aload_n 0, 1) := by decide +kernel
theorem dX7_buildsOne_23 : decode cX7_buildsOne 23 = .ok (.getfield 7, 3) := by decide +kernel
theorem dX7_buildsOne_26 : decode cX7_buildsOne 26 = .ok (.iconst 5, 1) := by decide +kernel
theorem dX7_buildsOne_27 : decode cX7_buildsOne 27 = .ok (.iaload, 1) := by decide +kernel
theorem dX7_buildsOne_28 : decode cX7_buildsOne 28 = .ok (.bipush 10, 2) := by decide +kernel
theorem dX7_buildsOne_30 : decode cX7_buildsOne 30 = .ok (.if_icmp .ge 7, 3) := by decide +kernel
theorem dX7_buildsOne_33 : decode cX7_buildsOne 33 = .ok (.iconst 1, 1) := by decide +kernel
theorem dX7_buildsOne_34 : decode cX7_buildsOne 34 = .ok (.goto 4, 3) := by decide +kernel
theorem dX7_buildsOne_37 : decode cX7_buildsOne 37 = .ok (.iconst 0, 1) := by decide +kernel
theorem dX7_buildsOne_38 : decode cX7_buildsOne 38 = .ok (.istore_n 3, 1) := by decide +kernel
theorem dX7_buildsOne_39 : decode cX7_buildsOne 39 = .ok (.iload_n 3, 1) := by decide +kernel
theorem dX7_buildsOne_40 : decode cX7_buildsOne 40 = .ok (.ifCond .eq 20, 3) := by decide +kernel
theorem dX7_buildsOne_43 : decode cX7_buildsOne 43 = .ok (.aload_n 0, 1) := by decide +kernel
theorem dX7_buildsOne_44 : decode cX7_buildsOne 44 = .ok (.iload_n 1, 1) := by decide +kernel
theorem dX7_buildsOne_45 : decode cX7_buildsOne 45 = .ok (.invokevirtual 190, 3) := by decide +kernel
theorem dX7_buildsOne_48 : decode cX7_buildsOne 48 = .ok (.iconst (-1), 1) := by decide +kernel
theorem dX7_buildsOne_49 : decode cX7_buildsOne 49 = .ok (.if_icmp .ne 11, 3) := by decide +kernel
theorem dX7_buildsOne_52 : decode cX7_buildsOne 52 = .ok (.aload_n 0, 1) := by decide +kernel
theorem dX7_buildsOne_53 : decode cX7_buildsOne 53 = .ok (.bipush 10, 2) := by decide +kernel
theorem dX7_buildsOne_55 : decode cX7_buildsOne 55 = .ok (.invokevirtual 177, 3) := by decide +kernel
theorem dX7_buildsOne_58 : decode cX7_buildsOne 58 = .ok (.istore 4, 2) := by decide +kernel
theorem dX7_buildsOne_60 : decode cX7_buildsOne 60 = .ok (.iload_n 3, 1) := by decide +kernel
theorem dX7_buildsOne_61 : decode cX7_buildsOne 61 = .ok (.ifCond .eq 17, 3) := by decide +kernel
theorem dX7_buildsOne_64 : decode cX7_buildsOne 64 = .ok (.aload_n 0, 1) := by decide +kernel
theorem dX7_buildsOne_65 : decode cX7_buildsOne 65 = .ok (.bipush 10, 2) := by decide +kernel
theorem dX7_buildsOne_67 : decode cX7_buildsOne 67 = .ok (.iload_n 2, 1) := by decide +kernel
theorem dX7_buildsOne_68 : decode cX7_buildsOne 68 = .ok (.imul, 1) := by decide +kernel
theorem dX7_buildsOne_69 : decode cX7_buildsOne 69 = .ok (.iload_n 1, 1) := by decide +kernel
theorem dX7_buildsOne_70 : decode cX7_buildsOne 70 = .ok (.aload_n 0, 1) := by decide +kernel
theorem dX7_buildsOne_71 : decode cX7_buildsOne 71 = .ok (.iload_n 1, 1) := by decide +kernel
theorem dX7_buildsOne_72 : decode cX7_buildsOne 72 = .ok (.invokevirtual 190, 3) := by decide +kernel
theorem dX7_buildsOne_75 : decode cX7_buildsOne 75 = .ok (.invokevirtual 149, 3) := by decide +kernel
theorem dX7_buildsOne_78 : decode cX7_buildsOne 78 = .ok (.aload_n 0, 1) := by decide +kernel
theorem dX7_buildsOne_79 : decode cX7_buildsOne 79 = .ok (.getfield 7, 3) := by decide +kernel
theorem dX7_buildsOne_82 : decode cX7_buildsOne 82 = .ok (.iconst 0, 1) := by decide +kernel
theorem dX7_buildsOne_83 : decode cX7_buildsOne 83 = .ok (.dup2, 1) := by decide +kernel
theorem dX7_buildsOne_84 : decode cX7_buildsOne 84 = .ok (.iaload, 1) := by decide +kernel
theorem dX7_buildsOne_85 : decode cX7_buildsOne 85 = .ok (.iconst 1, 1) := by decide +kernel
theorem dX7_buildsOne_86 : decode cX7_buildsOne 86 = .ok (.iadd, 1) := by decide +kernel
theorem dX7_buildsOne_87 : decode cX7_buildsOne 87 = .ok (.iastore, 1) := by decide +kernel
theorem dX7_buildsOne_88 : decode cX7_buildsOne 88 = .ok (.iload_n 3, 1) := by decide +kernel
theorem dX7_buildsOne_89 : decode cX7_buildsOne 89 = .ok (.ireturn, 1) := by decide +kernel
theorem dX7_loose_0 : decode cX7_loose 0 = .ok (.iload_n 1, 1) := by decide +kernel
theorem dX7_loose_1 : decode cX7_loose 1 = .ok (.iconst 1, 1) := by decide +kernel
theorem dX7_loose_2 : decode cX7_loose 2 = .ok (.bipush 30, 2) := by decide +kernel
theorem dX7_loose_4 : decode cX7_loose 4 = .ok (.invokestatic 50, 3) := by decide +kernel
theorem dX7_loose_7 : decode cX7_loose 7 = .ok (.ifCond .ne 9, 3) := by decide +kernel
theorem dX7_loose_10 : decode cX7_loose 10 = .ok (.aload_n 0, 1) := by decide +kernel
theorem dX7_loose_11 : decode cX7_loose 11 = .ok (.iconst 1, 1) := by decide +kernel
theorem dX7_loose_12 : decode cX7_loose 12 = .ok (.invokevirtual 58, 3) := by decide +kernel
theorem dX7_loose_15 : decode cX7_loose 15 = .ok (.ireturn, 1) := by decide +kernel
theorem dX7_loose_16 : decode cX7_loose 16 = .ok (.aload_n 0, 1) := by decide +kernel
theorem dX7_loose_17 : decode cX7_loose 17 = .ok (.getfield 7, 3) := by decide +kernel
theorem dX7_loose_20 : decode cX7_loose 20 = .ok (.iconst 0, 1) := by decide +kernel
theorem dX7_loose_21 : decode cX7_loose 21 = .ok (.iaload, 1) := by decide +kernel
theorem dX7_loose_22 : decode cX7_loose 22 = .ok (.iload_n 1, 1) := by decide +kernel
theorem dX7_loose_23 : decode cX7_loose 23 = .ok (.iadd, 1) := by decide +kernel
theorem dX7_loose_24 : decode cX7_loose 24 = .ok (.sipush 9999, 3) := by decide +kernel
theorem dX7_loose_27 : decode cX7_loose 27 = .ok (.if_icmp .le 9, 3) := by decide +kernel
theorem dX7_loose_30 : decode cX7_loose 30 = .ok (.aload_n 0, 1) := by decide +kernel
theorem dX7_loose_31 : decode cX7_loose 31 = .ok (.iconst 3, 1) := by decide +kernel
theorem dX7_loose_32 : decode cX7_loose 32 = .ok (.invokevirtual 58, 3) := by decide +kernel
theorem dX7_loose_35 : decode cX7_loose 35 = .ok (.ireturn, 1) := by decide +kernel
theorem dX7_loose_36 : decode cX7_loose 36 = .ok (.iconst 0, 1) := by decide +kernel
theorem dX7_loose_37 : decode cX7_loose 37 = .ok (.istore_n 2, 1) := by decide +kernel
theorem dX7_loose_38 : decode cX7_loose 38 = .ok (.iconst 0, 1) := by decide +kernel
theorem dX7_loose_39 : decode cX7_loose 39 = .ok (.istore_n 3, 1) := by decide +kernel
theorem dX7_loose_40 : decode cX7_loose 40 = .ok (.iload_n 3, 1) := by decide +kernel
theorem dX7_loose_41 : decode cX7_loose 41 = .ok (.iload_n 1, 1) := by decide +kernel
theorem dX7_loose_42 : decode cX7_loose 42 = .ok (.if_icmp .ge 24, 3) := by decide +kernel
theorem dX7_loose_45 : decode cX7_loose 45 = .ok (.iload_n 2, 1) := by decide +kernel
theorem dX7_loose_46 : decode cX7_loose 46 = .ok (.aload_n 0, 1) := by decide +kernel
theorem dX7_loose_47 : decode cX7_loose 47 = .ok (.invokevirtual 216, 3) := by decide +kernel
theorem dX7_loose_50 : decode cX7_loose 50 = .ok (.ifCond .eq 7, 3) := by decide +kernel
theorem dX7_loose_53 : decode cX7_loose 53 = .ok (.iconst 1, 1) := by decide +kernel
theorem dX7_loose_54 : decode cX7_loose 54 = .ok (.goto 4, 3) := by decide +kernel
theorem dX7_loose_57 : decode cX7_loose 57 = .ok (.iconst 0, 1) := by decide +kernel
theorem dX7_loose_58 : decode cX7_loose 58 = .ok (.iadd, 1) := by decide +kernel
theorem dX7_loose_59 : decode cX7_loose 59 = .ok (.istore_n 2, 1) := by decide +kernel
theorem dX7_loose_60 : decode cX7_loose 60 = .ok (.iinc 3 1, 3) := by decide +kernel
theorem dX7_loose_63 : decode cX7_loose 63 = .ok (.goto (-23), 3) := by decide +kernel
theorem dX7_loose_66 : decode cX7_loose 66 = .ok (.iload_n 2, 1) := by decide +kernel
theorem dX7_loose_67 : decode cX7_loose 67 = .ok (.ireturn, 1) := by decide +kernel
theorem dX7_seed_0 : decode cX7_seed 0 = .ok (.aload_n 0, 1) := by decide +kernel
theorem dX7_seed_1 : decode cX7_seed 1 = .ok (.iconst 2, 1) := by decide +kernel
theorem dX7_seed_2 : decode cX7_seed 2 = .ok (.iload_n 1, 1) := by decide +kernel
theorem dX7_seed_3 : decode cX7_seed 3 = .ok (.invokevirtual 161, 3) := by decide +kernel
theorem dX7_seed_6 : decode cX7_seed 6 = .ok (.ireturn, 1) := by decide +kernel
theorem dX7_starts_0 : decode cX7_starts 0 = .ok (.aload_n 0, 1) := by decide +kernel
theorem dX7_starts_1 : decode cX7_starts 1 = .ok (.getfield 219, 3) := by decide +kernel
theorem dX7_starts_4 : decode cX7_starts 4 = .ok (.bipush 30, 2) := by decide +kernel
theorem dX7_starts_6 : decode cX7_starts 6 = .ok (.if_icmp .ge 23, 3) := by decide +kernel
theorem dX7_starts_9 : decode cX7_starts 9 = .ok (.aload_n 0, 1) := by decide +kernel
theorem dX7_starts_10 : decode cX7_starts 10 = .ok (.getfield 34, 3) := by decide +kernel
theorem dX7_starts_13 : decode cX7_starts 13 = .ok (.aload_n 0, 1) := by decide +kernel
theorem dX7_starts_14 : decode cX7_starts 14 = .ok (.getfield 219, 3) := by decide +kernel
theorem dX7_starts_17 : decode cX7_starts 17 = .ok (.iload_n 1, 1) := by decide +kernel
theorem dX7_starts_18 : decode cX7_starts 18 = .ok (.iastore, 1) := by decide +kernel
theorem dX7_starts_19 : decode cX7_starts 19 = .ok (.aload_n 0, 1) := by decide +kernel
theorem dX7_starts_20 : decode cX7_starts 20 = .ok (.dup, 1) := by decide +kernel
theorem dX7_starts_21 : decode cX7_starts 21 = .ok (.getfield 219, 3) := by decide +kernel
theorem dX7_starts_24 : decode cX7_starts 24 = .ok (.iconst 1, 1) := by decide +kernel
theorem dX7_starts_25 : decode cX7_starts 25 = .ok (.iadd, 1) := by decide +kernel
theorem dX7_starts_26 : decode cX7_starts 26 = .ok (.putfield 219, 3) := by decide +kernel
theorem dX7_starts_29 : decode cX7_starts 29 = .ok (.return_, 1) := by decide +kernel
theorem dX7_above_0 : decode cX7_above 0 = .ok (.iload_n 0, 1) := by decide +kernel
theorem dX7_above_1 : decode cX7_above 1 = .ok (.iconst 4, 1) := by decide +kernel
theorem dX7_above_2 : decode cX7_above 2 = .ok (.if_icmp .ne 7, 3) := by decide +kernel
theorem dX7_above_5 : decode cX7_above 5 = .ok (.iconst 1, 1) := by decide +kernel
theorem dX7_above_6 : decode cX7_above 6 = .ok (.goto 13, 3) := by decide +kernel
theorem dX7_above_9 : decode cX7_above 9 = .ok (.iload_n 0, 1) := by decide +kernel
theorem dX7_above_10 : decode cX7_above 10 = .ok (.iconst 5, 1) := by decide +kernel
theorem dX7_above_11 : decode cX7_above 11 = .ok (.if_icmp .ne 7, 3) := by decide +kernel
theorem dX7_above_14 : decode cX7_above 14 = .ok (.iconst 2, 1) := by decide +kernel
theorem dX7_above_15 : decode cX7_above 15 = .ok (.goto 4, 3) := by decide +kernel
theorem dX7_above_18 : decode cX7_above 18 = .ok (.iconst 0, 1) := by decide +kernel
theorem dX7_above_19 : decode cX7_above 19 = .ok (.ireturn, 1) := by decide +kernel
theorem dX7_kindNow_0 : decode cX7_kindNow 0 = .ok (.aload_n 0, 1) := by decide +kernel
theorem dX7_kindNow_1 : decode cX7_kindNow 1 = .ok (.aload_n 0, 1) := by decide +kernel
theorem dX7_kindNow_2 : decode cX7_kindNow 2 = .ok (.getfield 222, 3) := by decide +kernel
theorem dX7_kindNow_5 : decode cX7_kindNow 5 = .ok (.iconst 0, 1) := by decide +kernel
theorem dX7_kindNow_6 : decode cX7_kindNow 6 = .ok (.invokevirtual 54, 3) := by decide +kernel
theorem dX7_kindNow_9 : decode cX7_kindNow 9 = .ok (.ireturn, 1) := by decide +kernel
theorem dX7_mNow_0 : decode cX7_mNow 0 = .ok (.aload_n 0, 1) := by decide +kernel
theorem dX7_mNow_1 : decode cX7_mNow 1 = .ok (.aload_n 0, 1) := by decide +kernel
theorem dX7_mNow_2 : decode cX7_mNow 2 = .ok (.getfield 222, 3) := by decide +kernel
theorem dX7_mNow_5 : decode cX7_mNow 5 = .ok (.iconst 1, 1) := by decide +kernel
theorem dX7_mNow_6 : decode cX7_mNow 6 = .ok (.invokevirtual 54, 3) := by decide +kernel
theorem dX7_mNow_9 : decode cX7_mNow 9 = .ok (.ireturn, 1) := by decide +kernel
theorem dX7_ringsAs_0 : decode cX7_ringsAs 0 = .ok (.iload_n 1, 1) := by decide +kernel
theorem dX7_ringsAs_1 : decode cX7_ringsAs 1 = .ok (.tableswitch 101 0 6 #[43, 56, 101, 101, 74, 101, 92], 43) := by decide +kernel
theorem dX7_ringsAs_44 : decode cX7_ringsAs 44 = .ok (.aload_n 0, 1) := by decide +kernel
theorem dX7_ringsAs_45 : decode cX7_ringsAs 45 = .ok (.bipush 10, 2) := by decide +kernel
theorem dX7_ringsAs_47 : decode cX7_ringsAs 47 = .ok (.invokevirtual 225, 3) := by decide +kernel
theorem dX7_ringsAs_50 : decode cX7_ringsAs 50 = .ok (.iload_n 2, 1) := by decide +kernel
theorem dX7_ringsAs_51 : decode cX7_ringsAs 51 = .ok (.aload_n 0, 1) := by decide +kernel
theorem dX7_ringsAs_52 : decode cX7_ringsAs 52 = .ok (.getfield 222, 3) := by decide +kernel
theorem dX7_ringsAs_55 : decode cX7_ringsAs 55 = .ok (.iadd, 1) := by decide +kernel
theorem dX7_ringsAs_56 : decode cX7_ringsAs 56 = .ok (.ireturn, 1) := by decide +kernel
theorem dX7_ringsAs_57 : decode cX7_ringsAs 57 = .ok (.aload_n 0, 1) := by decide +kernel
theorem dX7_ringsAs_58 : decode cX7_ringsAs 58 = .ok (.bipush 20, 2) := by decide +kernel
theorem dX7_ringsAs_60 : decode cX7_ringsAs 60 = .ok (.invokevirtual 225, 3) := by decide +kernel
theorem dX7_ringsAs_63 : decode cX7_ringsAs 63 = .ok (.aload_n 0, 1) := by decide +kernel
theorem dX7_ringsAs_64 : decode cX7_ringsAs 64 = .ok (.iconst 1, 1) := by decide +kernel
theorem dX7_ringsAs_65 : decode cX7_ringsAs 65 = .ok (.invokestatic 164, 3) := by decide +kernel
theorem dX7_ringsAs_68 : decode cX7_ringsAs 68 = .ok (.iload_n 2, 1) := by decide +kernel
theorem dX7_ringsAs_69 : decode cX7_ringsAs 69 = .ok (.invokevirtual 229, 3) := by decide +kernel
theorem dX7_ringsAs_72 : decode cX7_ringsAs 72 = .ok (.iconst 4, 1) := by decide +kernel
theorem dX7_ringsAs_73 : decode cX7_ringsAs 73 = .ok (.isub, 1) := by decide +kernel
theorem dX7_ringsAs_74 : decode cX7_ringsAs 74 = .ok (.ireturn, 1) := by decide +kernel
theorem dX7_ringsAs_75 : decode cX7_ringsAs 75 = .ok (.aload_n 0, 1) := by decide +kernel
theorem dX7_ringsAs_76 : decode cX7_ringsAs 76 = .ok (.bipush 50, 2) := by decide +kernel
theorem dX7_ringsAs_78 : decode cX7_ringsAs 78 = .ok (.invokevirtual 225, 3) := by decide +kernel
theorem dX7_ringsAs_81 : decode cX7_ringsAs 81 = .ok (.aload_n 0, 1) := by decide +kernel
theorem dX7_ringsAs_82 : decode cX7_ringsAs 82 = .ok (.iconst 4, 1) := by decide +kernel
theorem dX7_ringsAs_83 : decode cX7_ringsAs 83 = .ok (.invokestatic 164, 3) := by decide +kernel
theorem dX7_ringsAs_86 : decode cX7_ringsAs 86 = .ok (.iload_n 2, 1) := by decide +kernel
theorem dX7_ringsAs_87 : decode cX7_ringsAs 87 = .ok (.invokevirtual 229, 3) := by decide +kernel
theorem dX7_ringsAs_90 : decode cX7_ringsAs 90 = .ok (.iconst 3, 1) := by decide +kernel
theorem dX7_ringsAs_91 : decode cX7_ringsAs 91 = .ok (.imul, 1) := by decide +kernel
theorem dX7_ringsAs_92 : decode cX7_ringsAs 92 = .ok (.ireturn, 1) := by decide +kernel
theorem dX7_ringsAs_93 : decode cX7_ringsAs 93 = .ok (.aload_n 0, 1) := by decide +kernel
theorem dX7_ringsAs_94 : decode cX7_ringsAs 94 = .ok (.bipush 70, 2) := by decide +kernel
theorem dX7_ringsAs_96 : decode cX7_ringsAs 96 = .ok (.invokevirtual 225, 3) := by decide +kernel
theorem dX7_ringsAs_99 : decode cX7_ringsAs 99 = .ok (.bipush 9, 2) := by decide +kernel
theorem dX7_ringsAs_101 : decode cX7_ringsAs 101 = .ok (.ireturn, 1) := by decide +kernel
theorem dX7_ringsAs_102 : decode cX7_ringsAs 102 = .ok (.aload_n 0, 1) := by decide +kernel
theorem dX7_ringsAs_103 : decode cX7_ringsAs 103 = .ok (.iload_n 1, 1) := by decide +kernel
theorem dX7_ringsAs_104 : decode cX7_ringsAs 104 = .ok (.invokestatic 164, 3) := by decide +kernel
theorem dX7_ringsAs_107 : decode cX7_ringsAs 107 = .ok (.iload_n 2, 1) := by decide +kernel
theorem dX7_ringsAs_108 : decode cX7_ringsAs 108 = .ok (.invokevirtual 229, 3) := by decide +kernel
theorem dX7_ringsAs_111 : decode cX7_ringsAs 111 = .ok (.ireturn, 1) := by decide +kernel
theorem dX7_answersAs_0 : decode cX7_answersAs 0 = .ok (.iload_n 1, 1) := by decide +kernel
theorem dX7_answersAs_1 : decode cX7_answersAs 1 = .ok (.tableswitch 119 0 6 #[43, 119, 61, 119, 119, 79, 97], 43) := by decide +kernel
theorem dX7_answersAs_44 : decode cX7_answersAs 44 = .ok (.aload_n 0, 1) := by decide +kernel
theorem dX7_answersAs_45 : decode cX7_answersAs 45 = .ok (.bipush 11, 2) := by decide +kernel
theorem dX7_answersAs_47 : decode cX7_answersAs 47 = .ok (.invokevirtual 225, 3) := by decide +kernel
theorem dX7_answersAs_50 : decode cX7_answersAs 50 = .ok (.aload_n 0, 1) := by decide +kernel
theorem dX7_answersAs_51 : decode cX7_answersAs 51 = .ok (.aload_n 0, 1) := by decide +kernel
theorem dX7_answersAs_52 : decode cX7_answersAs 52 = .ok (.invokevirtual 232, 3) := by decide +kernel
theorem dX7_answersAs_55 : decode cX7_answersAs 55 = .ok (.iload_n 2, 1) := by decide +kernel
theorem dX7_answersAs_56 : decode cX7_answersAs 56 = .ok (.invokevirtual 229, 3) := by decide +kernel
theorem dX7_answersAs_59 : decode cX7_answersAs 59 = .ok (.iconst 2, 1) := by decide +kernel
theorem dX7_answersAs_60 : decode cX7_answersAs 60 = .ok (.imul, 1) := by decide +kernel
theorem dX7_answersAs_61 : decode cX7_answersAs 61 = .ok (.ireturn, 1) := by decide +kernel
theorem dX7_answersAs_62 : decode cX7_answersAs 62 = .ok (.aload_n 0, 1) := by decide +kernel
theorem dX7_answersAs_63 : decode cX7_answersAs 63 = .ok (.bipush 30, 2) := by decide +kernel
theorem dX7_answersAs_65 : decode cX7_answersAs 65 = .ok (.invokevirtual 225, 3) := by decide +kernel
theorem dX7_answersAs_68 : decode cX7_answersAs 68 = .ok (.iconst 0, 1) := by decide +kernel
theorem dX7_answersAs_69 : decode cX7_answersAs 69 = .ok (.aload_n 0, 1) := by decide +kernel
theorem dX7_answersAs_70 : decode cX7_answersAs 70 = .ok (.iconst 2, 1) := by decide +kernel
theorem dX7_answersAs_71 : decode cX7_answersAs 71 = .ok (.invokestatic 164, 3) := by decide +kernel
theorem dX7_answersAs_74 : decode cX7_answersAs 74 = .ok (.iload_n 2, 1) := by decide +kernel
theorem dX7_answersAs_75 : decode cX7_answersAs 75 = .ok (.invokevirtual 235, 3) := by decide +kernel
theorem dX7_answersAs_78 : decode cX7_answersAs 78 = .ok (.isub, 1) := by decide +kernel
theorem dX7_answersAs_79 : decode cX7_answersAs 79 = .ok (.ireturn, 1) := by decide +kernel
theorem dX7_answersAs_80 : decode cX7_answersAs 80 = .ok (.aload_n 0, 1) := by decide +kernel
theorem dX7_answersAs_81 : decode cX7_answersAs 81 = .ok (.bipush 60, 2) := by decide +kernel
theorem dX7_answersAs_83 : decode cX7_answersAs 83 = .ok (.invokevirtual 225, 3) := by decide +kernel
theorem dX7_answersAs_86 : decode cX7_answersAs 86 = .ok (.aload_n 0, 1) := by decide +kernel
theorem dX7_answersAs_87 : decode cX7_answersAs 87 = .ok (.iconst 5, 1) := by decide +kernel
theorem dX7_answersAs_88 : decode cX7_answersAs 88 = .ok (.invokestatic 164, 3) := by decide +kernel
theorem dX7_answersAs_91 : decode cX7_answersAs 91 = .ok (.iload_n 2, 1) := by decide +kernel
theorem dX7_answersAs_92 : decode cX7_answersAs 92 = .ok (.iconst 1, 1) := by decide +kernel
theorem dX7_answersAs_93 : decode cX7_answersAs 93 = .ok (.iadd, 1) := by decide +kernel
theorem dX7_answersAs_94 : decode cX7_answersAs 94 = .ok (.invokevirtual 235, 3) := by decide +kernel
theorem dX7_answersAs_97 : decode cX7_answersAs 97 = .ok (.ireturn, 1) := by decide +kernel
theorem dX7_answersAs_98 : decode cX7_answersAs 98 = .ok (.aload_n 0, 1) := by decide +kernel
theorem dX7_answersAs_99 : decode cX7_answersAs 99 = .ok (.bipush 71, 2) := by decide +kernel
theorem dX7_answersAs_101 : decode cX7_answersAs 101 = .ok (.invokevirtual 225, 3) := by decide +kernel
theorem dX7_answersAs_104 : decode cX7_answersAs 104 = .ok (.aload_n 0, 1) := by decide +kernel
theorem dX7_answersAs_105 : decode cX7_answersAs 105 = .ok (.bipush 6, 2) := by decide +kernel
theorem dX7_answersAs_107 : decode cX7_answersAs 107 = .ok (.invokestatic 164, 3) := by decide +kernel
theorem dX7_answersAs_110 : decode cX7_answersAs 110 = .ok (.iload_n 2, 1) := by decide +kernel
theorem dX7_answersAs_111 : decode cX7_answersAs 111 = .ok (.invokevirtual 235, 3) := by decide +kernel
theorem dX7_answersAs_114 : decode cX7_answersAs 114 = .ok (.aload_n 0, 1) := by decide +kernel
theorem dX7_answersAs_115 : decode cX7_answersAs 115 = .ok (.invokevirtual 238, 3) := by decide +kernel
theorem dX7_answersAs_118 : decode cX7_answersAs 118 = .ok (.iadd, 1) := by decide +kernel
theorem dX7_answersAs_119 : decode cX7_answersAs 119 = .ok (.ireturn, 1) := by decide +kernel
theorem dX7_answersAs_120 : decode cX7_answersAs 120 = .ok (.aload_n 0, 1) := by decide +kernel
theorem dX7_answersAs_121 : decode cX7_answersAs 121 = .ok (.iload_n 1, 1) := by decide +kernel
theorem dX7_answersAs_122 : decode cX7_answersAs 122 = .ok (.invokestatic 164, 3) := by decide +kernel
theorem dX7_answersAs_125 : decode cX7_answersAs 125 = .ok (.iload_n 2, 1) := by decide +kernel
theorem dX7_answersAs_126 : decode cX7_answersAs 126 = .ok (.invokevirtual 235, 3) := by decide +kernel
theorem dX7_answersAs_129 : decode cX7_answersAs 129 = .ok (.ireturn, 1) := by decide +kernel
theorem dX7_waitsAs_0 : decode cX7_waitsAs 0 = .ok (.iload_n 1, 1) := by decide +kernel
theorem dX7_waitsAs_1 : decode cX7_waitsAs 1 = .ok (.tableswitch 95 0 4 #[35, 95, 95, 56, 74], 35) := by decide +kernel
theorem dX7_waitsAs_36 : decode cX7_waitsAs 36 = .ok (.aload_n 0, 1) := by decide +kernel
theorem dX7_waitsAs_37 : decode cX7_waitsAs 37 = .ok (.bipush 12, 2) := by decide +kernel
theorem dX7_waitsAs_39 : decode cX7_waitsAs 39 = .ok (.invokevirtual 225, 3) := by decide +kernel
theorem dX7_waitsAs_42 : decode cX7_waitsAs 42 = .ok (.aload_n 0, 1) := by decide +kernel
theorem dX7_waitsAs_43 : decode cX7_waitsAs 43 = .ok (.aload_n 0, 1) := by decide +kernel
theorem dX7_waitsAs_44 : decode cX7_waitsAs 44 = .ok (.invokevirtual 232, 3) := by decide +kernel
theorem dX7_waitsAs_47 : decode cX7_waitsAs 47 = .ok (.iload_n 2, 1) := by decide +kernel
theorem dX7_waitsAs_48 : decode cX7_waitsAs 48 = .ok (.invokevirtual 235, 3) := by decide +kernel
theorem dX7_waitsAs_51 : decode cX7_waitsAs 51 = .ok (.aload_n 0, 1) := by decide +kernel
theorem dX7_waitsAs_52 : decode cX7_waitsAs 52 = .ok (.invokevirtual 238, 3) := by decide +kernel
theorem dX7_waitsAs_55 : decode cX7_waitsAs 55 = .ok (.isub, 1) := by decide +kernel
theorem dX7_waitsAs_56 : decode cX7_waitsAs 56 = .ok (.ireturn, 1) := by decide +kernel
theorem dX7_waitsAs_57 : decode cX7_waitsAs 57 = .ok (.aload_n 0, 1) := by decide +kernel
theorem dX7_waitsAs_58 : decode cX7_waitsAs 58 = .ok (.bipush 40, 2) := by decide +kernel
theorem dX7_waitsAs_60 : decode cX7_waitsAs 60 = .ok (.invokevirtual 225, 3) := by decide +kernel
theorem dX7_waitsAs_63 : decode cX7_waitsAs 63 = .ok (.aload_n 0, 1) := by decide +kernel
theorem dX7_waitsAs_64 : decode cX7_waitsAs 64 = .ok (.iconst 3, 1) := by decide +kernel
theorem dX7_waitsAs_65 : decode cX7_waitsAs 65 = .ok (.invokestatic 164, 3) := by decide +kernel
theorem dX7_waitsAs_68 : decode cX7_waitsAs 68 = .ok (.iload_n 2, 1) := by decide +kernel
theorem dX7_waitsAs_69 : decode cX7_waitsAs 69 = .ok (.iconst 2, 1) := by decide +kernel
theorem dX7_waitsAs_70 : decode cX7_waitsAs 70 = .ok (.idiv, 1) := by decide +kernel
theorem dX7_waitsAs_71 : decode cX7_waitsAs 71 = .ok (.invokevirtual 241, 3) := by decide +kernel
theorem dX7_waitsAs_74 : decode cX7_waitsAs 74 = .ok (.ireturn, 1) := by decide +kernel
theorem dX7_waitsAs_75 : decode cX7_waitsAs 75 = .ok (.aload_n 0, 1) := by decide +kernel
theorem dX7_waitsAs_76 : decode cX7_waitsAs 76 = .ok (.bipush 51, 2) := by decide +kernel
theorem dX7_waitsAs_78 : decode cX7_waitsAs 78 = .ok (.invokevirtual 225, 3) := by decide +kernel
theorem dX7_waitsAs_81 : decode cX7_waitsAs 81 = .ok (.aload_n 0, 1) := by decide +kernel
theorem dX7_waitsAs_82 : decode cX7_waitsAs 82 = .ok (.iconst 4, 1) := by decide +kernel
theorem dX7_waitsAs_83 : decode cX7_waitsAs 83 = .ok (.invokestatic 164, 3) := by decide +kernel
theorem dX7_waitsAs_86 : decode cX7_waitsAs 86 = .ok (.iload_n 2, 1) := by decide +kernel
theorem dX7_waitsAs_87 : decode cX7_waitsAs 87 = .ok (.invokevirtual 241, 3) := by decide +kernel
theorem dX7_waitsAs_90 : decode cX7_waitsAs 90 = .ok (.aload_n 0, 1) := by decide +kernel
theorem dX7_waitsAs_91 : decode cX7_waitsAs 91 = .ok (.getfield 222, 3) := by decide +kernel
theorem dX7_waitsAs_94 : decode cX7_waitsAs 94 = .ok (.ixor, 1) := by decide +kernel
theorem dX7_waitsAs_95 : decode cX7_waitsAs 95 = .ok (.ireturn, 1) := by decide +kernel
theorem dX7_waitsAs_96 : decode cX7_waitsAs 96 = .ok (.aload_n 0, 1) := by decide +kernel
theorem dX7_waitsAs_97 : decode cX7_waitsAs 97 = .ok (.iload_n 1, 1) := by decide +kernel
theorem dX7_waitsAs_98 : decode cX7_waitsAs 98 = .ok (.invokestatic 164, 3) := by decide +kernel
theorem dX7_waitsAs_101 : decode cX7_waitsAs 101 = .ok (.iload_n 2, 1) := by decide +kernel
theorem dX7_waitsAs_102 : decode cX7_waitsAs 102 = .ok (.invokevirtual 241, 3) := by decide +kernel
theorem dX7_waitsAs_105 : decode cX7_waitsAs 105 = .ok (.ireturn, 1) := by decide +kernel
theorem dX7_partsAs_0 : decode cX7_partsAs 0 = .ok (.iload_n 1, 1) := by decide +kernel
theorem dX7_partsAs_1 : decode cX7_partsAs 1 = .ok (.lookupswitch 119 #[(0, 27), (1, 78)], 27) := by decide +kernel
theorem dX7_partsAs_28 : decode cX7_partsAs 28 = .ok (.aload_n 0, 1) := by decide +kernel
theorem dX7_partsAs_29 : decode cX7_partsAs 29 = .ok (.bipush 13, 2) := by decide +kernel
theorem dX7_partsAs_31 : decode cX7_partsAs 31 = .ok (.invokevirtual 225, 3) := by decide +kernel
theorem dX7_partsAs_34 : decode cX7_partsAs 34 = .ok (.aload_n 0, 1) := by decide +kernel
theorem dX7_partsAs_35 : decode cX7_partsAs 35 = .ok (.invokevirtual 238, 3) := by decide +kernel
theorem dX7_partsAs_38 : decode cX7_partsAs 38 = .ok (.aload_n 0, 1) := by decide +kernel
theorem dX7_partsAs_39 : decode cX7_partsAs 39 = .ok (.getfield 222, 3) := by decide +kernel
theorem dX7_partsAs_42 : decode cX7_partsAs 42 = .ok (.isub, 1) := by decide +kernel
theorem dX7_partsAs_43 : decode cX7_partsAs 43 = .ok (.istore_n 3, 1) := by decide +kernel
theorem dX7_partsAs_44 : decode cX7_partsAs 44 = .ok (.aload_n 0, 1) := by decide +kernel
theorem dX7_partsAs_45 : decode cX7_partsAs 45 = .ok (.iload_n 3, 1) := by decide +kernel
theorem dX7_partsAs_46 : decode cX7_partsAs 46 = .ok (.ifCond .ne 7, 3) := by decide +kernel
theorem dX7_partsAs_49 : decode cX7_partsAs 49 = .ok (.iconst 1, 1) := by decide +kernel
theorem dX7_partsAs_50 : decode cX7_partsAs 50 = .ok (.goto 4, 3) := by decide +kernel
theorem dX7_partsAs_53 : decode cX7_partsAs 53 = .ok (.iconst 0, 1) := by decide +kernel
theorem dX7_partsAs_54 : decode cX7_partsAs 54 = .ok (.putfield 244, 3) := by decide +kernel
theorem dX7_partsAs_57 : decode cX7_partsAs 57 = .ok (.iload_n 3, 1) := by decide +kernel
theorem dX7_partsAs_58 : decode cX7_partsAs 58 = .ok (.ifCond .ne 7, 3) := by decide +kernel
theorem dX7_partsAs_61 : decode cX7_partsAs 61 = .ok (.iconst 0, 1) := by decide +kernel
theorem dX7_partsAs_62 : decode cX7_partsAs 62 = .ok (.goto 16, 3) := by decide +kernel
theorem dX7_partsAs_65 : decode cX7_partsAs 65 = .ok (.iload_n 3, 1) := by decide +kernel
theorem dX7_partsAs_66 : decode cX7_partsAs 66 = .ok (.iconst (-1), 1) := by decide +kernel
theorem dX7_partsAs_67 : decode cX7_partsAs 67 = .ok (.if_icmp .ne 8, 3) := by decide +kernel
theorem dX7_partsAs_70 : decode cX7_partsAs 70 = .ok (.iload_n 2, 1) := by decide +kernel
theorem dX7_partsAs_71 : decode cX7_partsAs 71 = .ok (.ineg, 1) := by decide +kernel
theorem dX7_partsAs_72 : decode cX7_partsAs 72 = .ok (.goto 6, 3) := by decide +kernel
theorem dX7_partsAs_75 : decode cX7_partsAs 75 = .ok (.iload_n 2, 1) := by decide +kernel
theorem dX7_partsAs_76 : decode cX7_partsAs 76 = .ok (.iload_n 3, 1) := by decide +kernel
theorem dX7_partsAs_77 : decode cX7_partsAs 77 = .ok (.idiv, 1) := by decide +kernel
theorem dX7_partsAs_78 : decode cX7_partsAs 78 = .ok (.ireturn, 1) := by decide +kernel
theorem dX7_partsAs_79 : decode cX7_partsAs 79 = .ok (.aload_n 0, 1) := by decide +kernel
theorem dX7_partsAs_80 : decode cX7_partsAs 80 = .ok (.bipush 21, 2) := by decide +kernel
theorem dX7_partsAs_82 : decode cX7_partsAs 82 = .ok (.invokevirtual 225, 3) := by decide +kernel
theorem dX7_partsAs_85 : decode cX7_partsAs 85 = .ok (.aload_n 0, 1) := by decide +kernel
theorem dX7_partsAs_86 : decode cX7_partsAs 86 = .ok (.iconst 1, 1) := by decide +kernel
theorem dX7_partsAs_87 : decode cX7_partsAs 87 = .ok (.invokestatic 164, 3) := by decide +kernel
theorem dX7_partsAs_90 : decode cX7_partsAs 90 = .ok (.iload_n 2, 1) := by decide +kernel
theorem dX7_partsAs_91 : decode cX7_partsAs 91 = .ok (.invokevirtual 248, 3) := by decide +kernel
theorem dX7_partsAs_94 : decode cX7_partsAs 94 = .ok (.istore 4, 2) := by decide +kernel
theorem dX7_partsAs_96 : decode cX7_partsAs 96 = .ok (.aload_n 0, 1) := by decide +kernel
theorem dX7_partsAs_97 : decode cX7_partsAs 97 = .ok (.getfield 244, 3) := by decide +kernel
theorem dX7_partsAs_100 : decode cX7_partsAs 100 = .ok (.ifCond .eq 7, 3) := by decide +kernel
theorem dX7_partsAs_103 : decode cX7_partsAs 103 = .ok (.iconst 0, 1) := by decide +kernel
theorem dX7_partsAs_104 : decode cX7_partsAs 104 = .ok (.goto 15, 3) := by decide +kernel
theorem dX7_partsAs_107 : decode cX7_partsAs 107 = .ok (.iload 4, 2) := by decide +kernel
theorem dX7_partsAs_109 : decode cX7_partsAs 109 = .ok (.aload_n 0, 1) := by decide +kernel
theorem dX7_partsAs_110 : decode cX7_partsAs 110 = .ok (.aload_n 0, 1) := by decide +kernel
theorem dX7_partsAs_111 : decode cX7_partsAs 111 = .ok (.invokevirtual 232, 3) := by decide +kernel
theorem dX7_partsAs_114 : decode cX7_partsAs 114 = .ok (.iconst 1, 1) := by decide +kernel
theorem dX7_partsAs_115 : decode cX7_partsAs 115 = .ok (.invokevirtual 235, 3) := by decide +kernel
theorem dX7_partsAs_118 : decode cX7_partsAs 118 = .ok (.iadd, 1) := by decide +kernel
theorem dX7_partsAs_119 : decode cX7_partsAs 119 = .ok (.ireturn, 1) := by decide +kernel
theorem dX7_partsAs_120 : decode cX7_partsAs 120 = .ok (.aload_n 0, 1) := by decide +kernel
theorem dX7_partsAs_121 : decode cX7_partsAs 121 = .ok (.iload_n 1, 1) := by decide +kernel
theorem dX7_partsAs_122 : decode cX7_partsAs 122 = .ok (.invokestatic 164, 3) := by decide +kernel
theorem dX7_partsAs_125 : decode cX7_partsAs 125 = .ok (.iload_n 2, 1) := by decide +kernel
theorem dX7_partsAs_126 : decode cX7_partsAs 126 = .ok (.invokevirtual 248, 3) := by decide +kernel
theorem dX7_partsAs_129 : decode cX7_partsAs 129 = .ok (.ireturn, 1) := by decide +kernel
theorem dX7_voice_0 : decode cX7_voice 0 = .ok (.aload_n 0, 1) := by decide +kernel
theorem dX7_voice_1 : decode cX7_voice 1 = .ok (.iload_n 1, 1) := by decide +kernel
theorem dX7_voice_2 : decode cX7_voice 2 = .ok (.invokevirtual 152, 3) := by decide +kernel
theorem dX7_voice_5 : decode cX7_voice 5 = .ok (.ifCond .eq 12, 3) := by decide +kernel
theorem dX7_voice_8 : decode cX7_voice 8 = .ok (.iload_n 2, 1) := by decide +kernel
theorem dX7_voice_9 : decode cX7_voice 9 = .ok (.iconst 0, 1) := by decide +kernel
theorem dX7_voice_10 : decode cX7_voice 10 = .ok (.iconst 3, 1) := by decide +kernel
theorem dX7_voice_11 : decode cX7_voice 11 = .ok (.invokestatic 50, 3) := by decide +kernel
theorem dX7_voice_14 : decode cX7_voice 14 = .ok (.ifCond .ne 9, 3) := by decide +kernel
theorem dX7_voice_17 : decode cX7_voice 17 = .ok (.aload_n 0, 1) := by decide +kernel
theorem dX7_voice_18 : decode cX7_voice 18 = .ok (.iconst 1, 1) := by decide +kernel
theorem dX7_voice_19 : decode cX7_voice 19 = .ok (.invokevirtual 58, 3) := by decide +kernel
theorem dX7_voice_22 : decode cX7_voice 22 = .ok (.ireturn, 1) := by decide +kernel
theorem dX7_voice_23 : decode cX7_voice 23 = .ok (.aload_n 0, 1) := by decide +kernel
theorem dX7_voice_24 : decode cX7_voice 24 = .ok (.iconst 0, 1) := by decide +kernel
theorem dX7_voice_25 : decode cX7_voice 25 = .ok (.putfield 219, 3) := by decide +kernel
theorem dX7_voice_28 : decode cX7_voice 28 = .ok (.aload_n 0, 1) := by decide +kernel
theorem dX7_voice_29 : decode cX7_voice 29 = .ok (.iload_n 1, 1) := by decide +kernel
theorem dX7_voice_30 : decode cX7_voice 30 = .ok (.putfield 222, 3) := by decide +kernel
theorem dX7_voice_33 : decode cX7_voice 33 = .ok (.aload_n 0, 1) := by decide +kernel
theorem dX7_voice_34 : decode cX7_voice 34 = .ok (.iconst 0, 1) := by decide +kernel
theorem dX7_voice_35 : decode cX7_voice 35 = .ok (.putfield 244, 3) := by decide +kernel
theorem dX7_voice_38 : decode cX7_voice 38 = .ok (.aload_n 0, 1) := by decide +kernel
theorem dX7_voice_39 : decode cX7_voice 39 = .ok (.invokevirtual 232, 3) := by decide +kernel
theorem dX7_voice_42 : decode cX7_voice 42 = .ok (.istore 4, 2) := by decide +kernel
theorem dX7_voice_44 : decode cX7_voice 44 = .ok (.iload_n 2, 1) := by decide +kernel
theorem dX7_voice_45 : decode cX7_voice 45 = .ok (.ifCond .ne 13, 3) := by decide +kernel
theorem dX7_voice_48 : decode cX7_voice 48 = .ok (.aload_n 0, 1) := by decide +kernel
theorem dX7_voice_49 : decode cX7_voice 49 = .ok (.iload 4, 2) := by decide +kernel
theorem dX7_voice_51 : decode cX7_voice 51 = .ok (.iload_n 3, 1) := by decide +kernel
theorem dX7_voice_52 : decode cX7_voice 52 = .ok (.invokevirtual 229, 3) := by decide +kernel
theorem dX7_voice_55 : decode cX7_voice 55 = .ok (.goto 40, 3) := by decide +kernel
theorem dX7_voice_58 : decode cX7_voice 58 = .ok (.iload_n 2, 1) := by decide +kernel
theorem dX7_voice_59 : decode cX7_voice 59 = .ok (.iconst 1, 1) := by decide +kernel
theorem dX7_voice_60 : decode cX7_voice 60 = .ok (.if_icmp .ne 13, 3) := by decide +kernel
theorem dX7_voice_63 : decode cX7_voice 63 = .ok (.aload_n 0, 1) := by decide +kernel
theorem dX7_voice_64 : decode cX7_voice 64 = .ok (.iload 4, 2) := by decide +kernel
theorem dX7_voice_66 : decode cX7_voice 66 = .ok (.iload_n 3, 1) := by decide +kernel
theorem dX7_voice_67 : decode cX7_voice 67 = .ok (.invokevirtual 235, 3) := by decide +kernel
theorem dX7_voice_70 : decode cX7_voice 70 = .ok (.goto 25, 3) := by decide +kernel
theorem dX7_voice_73 : decode cX7_voice 73 = .ok (.iload_n 2, 1) := by decide +kernel
theorem dX7_voice_74 : decode cX7_voice 74 = .ok (.iconst 2, 1) := by decide +kernel
theorem dX7_voice_75 : decode cX7_voice 75 = .ok (.if_icmp .ne 13, 3) := by decide +kernel
theorem dX7_voice_78 : decode cX7_voice 78 = .ok (.aload_n 0, 1) := by decide +kernel
theorem dX7_voice_79 : decode cX7_voice 79 = .ok (.iload 4, 2) := by decide +kernel
theorem dX7_voice_81 : decode cX7_voice 81 = .ok (.iload_n 3, 1) := by decide +kernel
theorem dX7_voice_82 : decode cX7_voice 82 = .ok (.invokevirtual 241, 3) := by decide +kernel
theorem dX7_voice_85 : decode cX7_voice 85 = .ok (.goto 10, 3) := by decide +kernel
theorem dX7_voice_88 : decode cX7_voice 88 = .ok (.aload_n 0, 1) := by decide +kernel
theorem dX7_voice_89 : decode cX7_voice 89 = .ok (.iload 4, 2) := by decide +kernel
theorem dX7_voice_91 : decode cX7_voice 91 = .ok (.iload_n 3, 1) := by decide +kernel
theorem dX7_voice_92 : decode cX7_voice 92 = .ok (.invokevirtual 248, 3) := by decide +kernel
theorem dX7_voice_95 : decode cX7_voice 95 = .ok (.istore 5, 2) := by decide +kernel
theorem dX7_voice_97 : decode cX7_voice 97 = .ok (.aload_n 0, 1) := by decide +kernel
theorem dX7_voice_98 : decode cX7_voice 98 = .ok (.getfield 244, 3) := by decide +kernel
theorem dX7_voice_101 : decode cX7_voice 101 = .ok (.ifCond .eq 12, 3) := by decide +kernel
theorem dX7_voice_104 : decode cX7_voice 104 = .ok (.aload_n 0, 1) := by decide +kernel
theorem dX7_voice_105 : decode cX7_voice 105 = .ok (.bipush 6, 2) := by decide +kernel
theorem dX7_voice_107 : decode cX7_voice 107 = .ok (.invokevirtual 58, 3) := by decide +kernel
theorem dX7_voice_110 : decode cX7_voice 110 = .ok (.goto 5, 3) := by decide +kernel
theorem dX7_voice_113 : decode cX7_voice 113 = .ok (.iload 5, 2) := by decide +kernel
theorem dX7_voice_115 : decode cX7_voice 115 = .ok (.ireturn, 1) := by decide +kernel
theorem dX7_body_0 : decode cX7_body 0 = .ok (.iload_n 1, 1) := by decide +kernel
theorem dX7_body_1 : decode cX7_body 1 = .ok (.iconst 0, 1) := by decide +kernel
theorem dX7_body_2 : decode cX7_body 2 = .ok (.aload_n 0, 1) := by decide +kernel
theorem dX7_body_3 : decode cX7_body 3 = .ok (.getfield 219, 3) := by decide +kernel
theorem dX7_body_6 : decode cX7_body 6 = .ok (.iconst 1, 1) := by decide +kernel
theorem dX7_body_7 : decode cX7_body 7 = .ok (.isub, 1) := by decide +kernel
theorem dX7_body_8 : decode cX7_body 8 = .ok (.invokestatic 50, 3) := by decide +kernel
theorem dX7_body_11 : decode cX7_body 11 = .ok (.ifCond .eq 12, 3) := by decide +kernel
theorem dX7_body_14 : decode cX7_body 14 = .ok (.aload_n 0, 1) := by decide +kernel
theorem dX7_body_15 : decode cX7_body 15 = .ok (.getfield 34, 3) := by decide +kernel
theorem dX7_body_18 : decode cX7_body 18 = .ok (.iload_n 1, 1) := by decide +kernel
theorem dX7_body_19 : decode cX7_body 19 = .ok (.iaload, 1) := by decide +kernel
theorem dX7_body_20 : decode cX7_body 20 = .ok (.goto 8, 3) := by decide +kernel
theorem dX7_body_23 : decode cX7_body 23 = .ok (.aload_n 0, 1) := by decide +kernel
theorem dX7_body_24 : decode cX7_body 24 = .ok (.iconst 2, 1) := by decide +kernel
theorem dX7_body_25 : decode cX7_body 25 = .ok (.invokevirtual 58, 3) := by decide +kernel
theorem dX7_body_28 : decode cX7_body 28 = .ok (.ireturn, 1) := by decide +kernel
theorem dX7_isSheet_0 : decode cX7_isSheet 0 = .ok (.iload_n 0, 1) := by decide +kernel
theorem dX7_isSheet_1 : decode cX7_isSheet 1 = .ok (.iconst 0, 1) := by decide +kernel
theorem dX7_isSheet_2 : decode cX7_isSheet 2 = .ok (.iconst 3, 1) := by decide +kernel
theorem dX7_isSheet_3 : decode cX7_isSheet 3 = .ok (.invokestatic 50, 3) := by decide +kernel
theorem dX7_isSheet_6 : decode cX7_isSheet 6 = .ok (.ireturn, 1) := by decide +kernel
theorem dX7_sheet_0 : decode cX7_sheet 0 = .ok (.iload_n 1, 1) := by decide +kernel
theorem dX7_sheet_1 : decode cX7_sheet 1 = .ok (.invokestatic 251, 3) := by decide +kernel
theorem dX7_sheet_4 : decode cX7_sheet 4 = .ok (.ifCond .eq 25, 3) := by decide +kernel
theorem dX7_sheet_7 : decode cX7_sheet 7 = .ok (.iload_n 2, 1) := by decide +kernel
theorem dX7_sheet_8 : decode cX7_sheet 8 = .ok (.ifCond .eq 27, 3) := by decide +kernel
theorem dX7_sheet_11 : decode cX7_sheet 11 = .ok (.iload_n 2, 1) := by decide +kernel
theorem dX7_sheet_12 : decode cX7_sheet 12 = .ok (.bipush 8, 2) := by decide +kernel
theorem dX7_sheet_14 : decode cX7_sheet 14 = .ok (.if_icmp .eq 21, 3) := by decide +kernel
theorem dX7_sheet_17 : decode cX7_sheet 17 = .ok (.iload_n 2, 1) := by decide +kernel
theorem dX7_sheet_18 : decode cX7_sheet 18 = .ok (.bipush 16, 2) := by decide +kernel
theorem dX7_sheet_20 : decode cX7_sheet 20 = .ok (.if_icmp .eq 15, 3) := by decide +kernel
theorem dX7_sheet_23 : decode cX7_sheet 23 = .ok (.iload_n 2, 1) := by decide +kernel
theorem dX7_sheet_24 : decode cX7_sheet 24 = .ok (.bipush 32, 2) := by decide +kernel
theorem dX7_sheet_26 : decode cX7_sheet 26 = .ok (.if_icmp .eq 9, 3) := by decide +kernel
theorem dX7_sheet_29 : decode cX7_sheet 29 = .ok (.aload_n 0, 1) := by decide +kernel
theorem dX7_sheet_30 : decode cX7_sheet 30 = .ok (.iconst 1, 1) := by decide +kernel
theorem dX7_sheet_31 : decode cX7_sheet 31 = .ok (.invokevirtual 58, 3) := by decide +kernel
theorem dX7_sheet_34 : decode cX7_sheet 34 = .ok (.ireturn, 1) := by decide +kernel
theorem dX7_sheet_35 : decode cX7_sheet 35 = .ok (.iload_n 2, 1) := by decide +kernel
theorem dX7_sheet_36 : decode cX7_sheet 36 = .ok (.ifCond .eq 13, 3) := by decide +kernel
theorem dX7_sheet_39 : decode cX7_sheet 39 = .ok (.iload_n 3, 1) := by decide +kernel
theorem dX7_sheet_40 : decode cX7_sheet 40 = .ok (.ifCond .ge 9, 3) := by decide +kernel
theorem dX7_sheet_43 : decode cX7_sheet 43 = .ok (.aload_n 0, 1) := by decide +kernel
theorem dX7_sheet_44 : decode cX7_sheet 44 = .ok (.iconst 3, 1) := by decide +kernel
theorem dX7_sheet_45 : decode cX7_sheet 45 = .ok (.invokevirtual 58, 3) := by decide +kernel
theorem dX7_sheet_48 : decode cX7_sheet 48 = .ok (.ireturn, 1) := by decide +kernel
theorem dX7_sheet_49 : decode cX7_sheet 49 = .ok (.iload_n 2, 1) := by decide +kernel
theorem dX7_sheet_50 : decode cX7_sheet 50 = .ok (.ifCond .eq 15, 3) := by decide +kernel
theorem dX7_sheet_53 : decode cX7_sheet 53 = .ok (.iload_n 3, 1) := by decide +kernel
theorem dX7_sheet_54 : decode cX7_sheet 54 = .ok (.bipush 24, 2) := by decide +kernel
theorem dX7_sheet_56 : decode cX7_sheet 56 = .ok (.if_icmp .le 9, 3) := by decide +kernel
theorem dX7_sheet_59 : decode cX7_sheet 59 = .ok (.aload_n 0, 1) := by decide +kernel
theorem dX7_sheet_60 : decode cX7_sheet 60 = .ok (.iconst 1, 1) := by decide +kernel
theorem dX7_sheet_61 : decode cX7_sheet 61 = .ok (.invokevirtual 58, 3) := by decide +kernel
theorem dX7_sheet_64 : decode cX7_sheet 64 = .ok (.ireturn, 1) := by decide +kernel
theorem dX7_sheet_65 : decode cX7_sheet 65 = .ok (.aload_n 0, 1) := by decide +kernel
theorem dX7_sheet_66 : decode cX7_sheet 66 = .ok (.getfield 37, 3) := by decide +kernel
theorem dX7_sheet_69 : decode cX7_sheet 69 = .ok (.iload_n 1, 1) := by decide +kernel
theorem dX7_sheet_70 : decode cX7_sheet 70 = .ok (.iload_n 2, 1) := by decide +kernel
theorem dX7_sheet_71 : decode cX7_sheet 71 = .ok (.iastore, 1) := by decide +kernel
theorem dX7_sheet_72 : decode cX7_sheet 72 = .ok (.aload_n 0, 1) := by decide +kernel
theorem dX7_sheet_73 : decode cX7_sheet 73 = .ok (.getfield 40, 3) := by decide +kernel
theorem dX7_sheet_76 : decode cX7_sheet 76 = .ok (.iload_n 1, 1) := by decide +kernel
theorem dX7_sheet_77 : decode cX7_sheet 77 = .ok (.iload_n 2, 1) := by decide +kernel
theorem dX7_sheet_78 : decode cX7_sheet 78 = .ok (.ifCond .ne 7, 3) := by decide +kernel
theorem dX7_sheet_81 : decode cX7_sheet 81 = .ok (.iconst 0, 1) := by decide +kernel
theorem dX7_sheet_82 : decode cX7_sheet 82 = .ok (.goto 4, 3) := by decide +kernel
theorem dX7_sheet_85 : decode cX7_sheet 85 = .ok (.iload_n 3, 1) := by decide +kernel
theorem dX7_sheet_86 : decode cX7_sheet 86 = .ok (.iastore, 1) := by decide +kernel
theorem dX7_sheet_87 : decode cX7_sheet 87 = .ok (.iconst 0, 1) := by decide +kernel
theorem dX7_sheet_88 : decode cX7_sheet 88 = .ok (.istore 4, 2) := by decide +kernel
theorem dX7_sheet_90 : decode cX7_sheet 90 = .ok (.iload 4, 2) := by decide +kernel
theorem dX7_sheet_92 : decode cX7_sheet 92 = .ok (.bipush 24, 2) := by decide +kernel
theorem dX7_sheet_94 : decode cX7_sheet 94 = .ok (.if_icmp .ge 22, 3) := by decide +kernel
theorem dX7_sheet_97 : decode cX7_sheet 97 = .ok (.aload_n 0, 1) := by decide +kernel
theorem dX7_sheet_98 : decode cX7_sheet 98 = .ok (.getfield 43, 3) := by decide +kernel
theorem dX7_sheet_101 : decode cX7_sheet 101 = .ok (.bipush 24, 2) := by decide +kernel
theorem dX7_sheet_103 : decode cX7_sheet 103 = .ok (.iload_n 1, 1) := by decide +kernel
theorem dX7_sheet_104 : decode cX7_sheet 104 = .ok (.imul, 1) := by decide +kernel
theorem dX7_sheet_105 : decode cX7_sheet 105 = .ok (.iload 4, 2) := by decide +kernel
theorem dX7_sheet_107 : decode cX7_sheet 107 = .ok (.iadd, 1) := by decide +kernel
theorem dX7_sheet_108 : decode cX7_sheet 108 = .ok (.iconst 0, 1) := by decide +kernel
theorem dX7_sheet_109 : decode cX7_sheet 109 = .ok (.iastore, 1) := by decide +kernel
theorem dX7_sheet_110 : decode cX7_sheet 110 = .ok (.iinc 4 1, 3) := by decide +kernel
theorem dX7_sheet_113 : decode cX7_sheet 113 = .ok (.goto (-23), 3) := by decide +kernel
theorem dX7_sheet_116 : decode cX7_sheet 116 = .ok (.iconst 1, 1) := by decide +kernel
theorem dX7_sheet_117 : decode cX7_sheet 117 = .ok (.ireturn, 1) := by decide +kernel
theorem dX7_put_0 : decode cX7_put 0 = .ok (.iload_n 1, 1) := by decide +kernel
theorem dX7_put_1 : decode cX7_put 1 = .ok (.invokestatic 251, 3) := by decide +kernel
theorem dX7_put_4 : decode cX7_put 4 = .ok (.ifCond .ne 9, 3) := by decide +kernel
theorem dX7_put_7 : decode cX7_put 7 = .ok (.aload_n 0, 1) := by decide +kernel
theorem dX7_put_8 : decode cX7_put 8 = .ok (.iconst 1, 1) := by decide +kernel
theorem dX7_put_9 : decode cX7_put 9 = .ok (.invokevirtual 58, 3) := by decide +kernel
theorem dX7_put_12 : decode cX7_put 12 = .ok (.ireturn, 1) := by decide +kernel
theorem dX7_put_13 : decode cX7_put 13 = .ok (.aload_n 0, 1) := by decide +kernel
theorem dX7_put_14 : decode cX7_put 14 = .ok (.getfield 37, 3) := by decide +kernel
theorem dX7_put_17 : decode cX7_put 17 = .ok (.iload_n 1, 1) := by decide +kernel
theorem dX7_put_18 : decode cX7_put 18 = .ok (.iaload, 1) := by decide +kernel
theorem dX7_put_19 : decode cX7_put 19 = .ok (.ifCond .ne 9, 3) := by decide +kernel
theorem dX7_put_22 : decode cX7_put 22 = .ok (.aload_n 0, 1) := by decide +kernel
theorem dX7_put_23 : decode cX7_put 23 = .ok (.iconst 2, 1) := by decide +kernel
theorem dX7_put_24 : decode cX7_put 24 = .ok (.invokevirtual 58, 3) := by decide +kernel
theorem dX7_put_27 : decode cX7_put 27 = .ok (.ireturn, 1) := by decide +kernel
theorem dX7_put_28 : decode cX7_put 28 = .ok (.iload_n 2, 1) := by decide +kernel
theorem dX7_put_29 : decode cX7_put 29 = .ok (.iconst 0, 1) := by decide +kernel
theorem dX7_put_30 : decode cX7_put 30 = .ok (.aload_n 0, 1) := by decide +kernel
theorem dX7_put_31 : decode cX7_put 31 = .ok (.getfield 40, 3) := by decide +kernel
theorem dX7_put_34 : decode cX7_put 34 = .ok (.iload_n 1, 1) := by decide +kernel
theorem dX7_put_35 : decode cX7_put 35 = .ok (.iaload, 1) := by decide +kernel
theorem dX7_put_36 : decode cX7_put 36 = .ok (.iconst 1, 1) := by decide +kernel
theorem dX7_put_37 : decode cX7_put 37 = .ok (.isub, 1) := by decide +kernel
theorem dX7_put_38 : decode cX7_put 38 = .ok (.invokestatic 50, 3) := by decide +kernel
theorem dX7_put_41 : decode cX7_put 41 = .ok (.ifCond .ne 9, 3) := by decide +kernel
theorem dX7_put_44 : decode cX7_put 44 = .ok (.aload_n 0, 1) := by decide +kernel
theorem dX7_put_45 : decode cX7_put 45 = .ok (.iconst 1, 1) := by decide +kernel
theorem dX7_put_46 : decode cX7_put 46 = .ok (.invokevirtual 58, 3) := by decide +kernel
theorem dX7_put_49 : decode cX7_put 49 = .ok (.ireturn, 1) := by decide +kernel
theorem dX7_put_50 : decode cX7_put 50 = .ok (.bipush 32, 2) := by decide +kernel
theorem dX7_put_52 : decode cX7_put 52 = .ok (.aload_n 0, 1) := by decide +kernel
theorem dX7_put_53 : decode cX7_put 53 = .ok (.getfield 37, 3) := by decide +kernel
theorem dX7_put_56 : decode cX7_put 56 = .ok (.iload_n 1, 1) := by decide +kernel
theorem dX7_put_57 : decode cX7_put 57 = .ok (.iaload, 1) := by decide +kernel
theorem dX7_put_58 : decode cX7_put 58 = .ok (.isub, 1) := by decide +kernel
theorem dX7_put_59 : decode cX7_put 59 = .ok (.istore 4, 2) := by decide +kernel
theorem dX7_put_61 : decode cX7_put 61 = .ok (.aload_n 0, 1) := by decide +kernel
theorem dX7_put_62 : decode cX7_put 62 = .ok (.getfield 43, 3) := by decide +kernel
theorem dX7_put_65 : decode cX7_put 65 = .ok (.bipush 24, 2) := by decide +kernel
theorem dX7_put_67 : decode cX7_put 67 = .ok (.iload_n 1, 1) := by decide +kernel
theorem dX7_put_68 : decode cX7_put 68 = .ok (.imul, 1) := by decide +kernel
theorem dX7_put_69 : decode cX7_put 69 = .ok (.iload_n 2, 1) := by decide +kernel
theorem dX7_put_70 : decode cX7_put 70 = .ok (.iadd, 1) := by decide +kernel
theorem dX7_put_71 : decode cX7_put 71 = .ok (.iload_n 3, 1) := by decide +kernel
theorem dX7_put_72 : decode cX7_put 72 = .ok (.iload 4, 2) := by decide +kernel
theorem dX7_put_74 : decode cX7_put 74 = .ok (.ishl, 1) := by decide +kernel
theorem dX7_put_75 : decode cX7_put 75 = .ok (.iload 4, 2) := by decide +kernel
theorem dX7_put_77 : decode cX7_put 77 = .ok (.ishr, 1) := by decide +kernel
theorem dX7_put_78 : decode cX7_put 78 = .ok (.iastore, 1) := by decide +kernel
theorem dX7_put_79 : decode cX7_put 79 = .ok (.iconst 1, 1) := by decide +kernel
theorem dX7_put_80 : decode cX7_put 80 = .ok (.ireturn, 1) := by decide +kernel
theorem dX7_move_0 : decode cX7_move 0 = .ok (.iload_n 1, 1) := by decide +kernel
theorem dX7_move_1 : decode cX7_move 1 = .ok (.invokestatic 251, 3) := by decide +kernel
theorem dX7_move_4 : decode cX7_move 4 = .ok (.ifCond .eq 10, 3) := by decide +kernel
theorem dX7_move_7 : decode cX7_move 7 = .ok (.iload_n 3, 1) := by decide +kernel
theorem dX7_move_8 : decode cX7_move 8 = .ok (.invokestatic 251, 3) := by decide +kernel
theorem dX7_move_11 : decode cX7_move 11 = .ok (.ifCond .ne 9, 3) := by decide +kernel
theorem dX7_move_14 : decode cX7_move 14 = .ok (.aload_n 0, 1) := by decide +kernel
theorem dX7_move_15 : decode cX7_move 15 = .ok (.iconst 1, 1) := by decide +kernel
theorem dX7_move_16 : decode cX7_move 16 = .ok (.invokevirtual 58, 3) := by decide +kernel
theorem dX7_move_19 : decode cX7_move 19 = .ok (.ireturn, 1) := by decide +kernel
theorem dX7_move_20 : decode cX7_move 20 = .ok (.aload_n 0, 1) := by decide +kernel
theorem dX7_move_21 : decode cX7_move 21 = .ok (.getfield 37, 3) := by decide +kernel
theorem dX7_move_24 : decode cX7_move 24 = .ok (.iload_n 1, 1) := by decide +kernel
theorem dX7_move_25 : decode cX7_move 25 = .ok (.iaload, 1) := by decide +kernel
theorem dX7_move_26 : decode cX7_move 26 = .ok (.ifCond .eq 12, 3) := by decide +kernel
theorem dX7_move_29 : decode cX7_move 29 = .ok (.aload_n 0, 1) := by decide +kernel
theorem dX7_move_30 : decode cX7_move 30 = .ok (.getfield 37, 3) := by decide +kernel
theorem dX7_move_33 : decode cX7_move 33 = .ok (.iload_n 3, 1) := by decide +kernel
theorem dX7_move_34 : decode cX7_move 34 = .ok (.iaload, 1) := by decide +kernel
theorem dX7_move_35 : decode cX7_move 35 = .ok (.ifCond .ne 9, 3) := by decide +kernel
theorem dX7_move_38 : decode cX7_move 38 = .ok (.aload_n 0, 1) := by decide +kernel
theorem dX7_move_39 : decode cX7_move 39 = .ok (.iconst 2, 1) := by decide +kernel
theorem dX7_move_40 : decode cX7_move 40 = .ok (.invokevirtual 58, 3) := by decide +kernel
theorem dX7_move_43 : decode cX7_move 43 = .ok (.ireturn, 1) := by decide +kernel
theorem dX7_move_44 : decode cX7_move 44 = .ok (.aload_n 0, 1) := by decide +kernel
theorem dX7_move_45 : decode cX7_move 45 = .ok (.getfield 37, 3) := by decide +kernel
theorem dX7_move_48 : decode cX7_move 48 = .ok (.iload_n 1, 1) := by decide +kernel
theorem dX7_move_49 : decode cX7_move 49 = .ok (.iaload, 1) := by decide +kernel
theorem dX7_move_50 : decode cX7_move 50 = .ok (.aload_n 0, 1) := by decide +kernel
theorem dX7_move_51 : decode cX7_move 51 = .ok (.getfield 37, 3) := by decide +kernel
theorem dX7_move_54 : decode cX7_move 54 = .ok (.iload_n 3, 1) := by decide +kernel
theorem dX7_move_55 : decode cX7_move 55 = .ok (.iaload, 1) := by decide +kernel
theorem dX7_move_56 : decode cX7_move 56 = .ok (.if_icmp .eq 9, 3) := by decide +kernel
theorem dX7_move_59 : decode cX7_move 59 = .ok (.aload_n 0, 1) := by decide +kernel
theorem dX7_move_60 : decode cX7_move 60 = .ok (.iconst 5, 1) := by decide +kernel
theorem dX7_move_61 : decode cX7_move 61 = .ok (.invokevirtual 58, 3) := by decide +kernel
theorem dX7_move_64 : decode cX7_move 64 = .ok (.ireturn, 1) := by decide +kernel
theorem dX7_move_65 : decode cX7_move 65 = .ok (.iload 5, 2) := by decide +kernel
theorem dX7_move_67 : decode cX7_move 67 = .ok (.ifCond .lt 39, 3) := by decide +kernel
theorem dX7_move_70 : decode cX7_move 70 = .ok (.iload_n 2, 1) := by decide +kernel
theorem dX7_move_71 : decode cX7_move 71 = .ok (.ifCond .lt 35, 3) := by decide +kernel
theorem dX7_move_74 : decode cX7_move 74 = .ok (.iload 4, 2) := by decide +kernel
theorem dX7_move_76 : decode cX7_move 76 = .ok (.ifCond .lt 30, 3) := by decide +kernel
theorem dX7_move_79 : decode cX7_move 79 = .ok (.iload_n 2, 1) := by decide +kernel
theorem dX7_move_80 : decode cX7_move 80 = .ok (.aload_n 0, 1) := by decide +kernel
theorem dX7_move_81 : decode cX7_move 81 = .ok (.getfield 40, 3) := by decide +kernel
theorem dX7_move_84 : decode cX7_move 84 = .ok (.iload_n 1, 1) := by decide +kernel
theorem dX7_move_85 : decode cX7_move 85 = .ok (.iaload, 1) := by decide +kernel
theorem dX7_move_86 : decode cX7_move 86 = .ok (.iload 5, 2) := by decide +kernel
theorem dX7_move_88 : decode cX7_move 88 = .ok (.isub, 1) := by decide +kernel
theorem dX7_move_89 : decode cX7_move 89 = .ok (.if_icmp .gt 17, 3) := by decide +kernel
theorem dX7_move_92 : decode cX7_move 92 = .ok (.iload 4, 2) := by decide +kernel
theorem dX7_move_94 : decode cX7_move 94 = .ok (.aload_n 0, 1) := by decide +kernel
theorem dX7_move_95 : decode cX7_move 95 = .ok (.getfield 40, 3) := by decide +kernel
theorem dX7_move_98 : decode cX7_move 98 = .ok (.iload_n 3, 1) := by decide +kernel
theorem dX7_move_99 : decode cX7_move 99 = .ok (.iaload, 1) := by decide +kernel
theorem dX7_move_100 : decode cX7_move 100 = .ok (.iload 5, 2) := by decide +kernel
theorem dX7_move_102 : decode cX7_move 102 = .ok (.isub, 1) := by decide +kernel
theorem dX7_move_103 : decode cX7_move 103 = .ok (.if_icmp .le 9, 3) := by decide +kernel
theorem dX7_move_106 : decode cX7_move 106 = .ok (.aload_n 0, 1) := by decide +kernel
theorem dX7_move_107 : decode cX7_move 107 = .ok (.iconst 1, 1) := by decide +kernel
theorem dX7_move_108 : decode cX7_move 108 = .ok (.invokevirtual 58, 3) := by decide +kernel
theorem dX7_move_111 : decode cX7_move 111 = .ok (.ireturn, 1) := by decide +kernel
theorem dX7_move_112 : decode cX7_move 112 = .ok (.iconst 0, 1) := by decide +kernel
theorem dX7_move_113 : decode cX7_move 113 = .ok (.istore 6, 2) := by decide +kernel
theorem dX7_move_115 : decode cX7_move 115 = .ok (.iload 6, 2) := by decide +kernel
theorem dX7_move_117 : decode cX7_move 117 = .ok (.iload 5, 2) := by decide +kernel
theorem dX7_move_119 : decode cX7_move 119 = .ok (.if_icmp .ge 30, 3) := by decide +kernel
theorem dX7_move_122 : decode cX7_move 122 = .ok (.aload_n 0, 1) := by decide +kernel
theorem dX7_move_123 : decode cX7_move 123 = .ok (.getfield 46, 3) := by decide +kernel
theorem dX7_move_126 : decode cX7_move 126 = .ok (.iload 6, 2) := by decide +kernel
theorem dX7_move_128 : decode cX7_move 128 = .ok (.aload_n 0, 1) := by decide +kernel
theorem dX7_move_129 : decode cX7_move 129 = .ok (.getfield 43, 3) := by decide +kernel
theorem dX7_move_132 : decode cX7_move 132 = .ok (.bipush 24, 2) := by decide +kernel
theorem dX7_move_134 : decode cX7_move 134 = .ok (.iload_n 1, 1) := by decide +kernel
theorem dX7_move_135 : decode cX7_move 135 = .ok (.imul, 1) := by decide +kernel
theorem dX7_move_136 : decode cX7_move 136 = .ok (.iload_n 2, 1) := by decide +kernel
theorem dX7_move_137 : decode cX7_move 137 = .ok (.iadd, 1) := by decide +kernel
theorem dX7_move_138 : decode cX7_move 138 = .ok (.iload 6, 2) := by decide +kernel
theorem dX7_move_140 : decode cX7_move 140 = .ok (.iadd, 1) := by decide +kernel
theorem dX7_move_141 : decode cX7_move 141 = .ok (.iaload, 1) := by decide +kernel
theorem dX7_move_142 : decode cX7_move 142 = .ok (.iastore, 1) := by decide +kernel
theorem dX7_move_143 : decode cX7_move 143 = .ok (.iinc 6 1, 3) := by decide +kernel
theorem dX7_move_146 : decode cX7_move 146 = .ok (.goto (-31), 3) := by decide +kernel
theorem dX7_move_149 : decode cX7_move 149 = .ok (.iconst 0, 1) := by decide +kernel
theorem dX7_move_150 : decode cX7_move 150 = .ok (.istore 6, 2) := by decide +kernel
theorem dX7_move_152 : decode cX7_move 152 = .ok (.iload 6, 2) := by decide +kernel
theorem dX7_move_154 : decode cX7_move 154 = .ok (.iload 5, 2) := by decide +kernel
theorem dX7_move_156 : decode cX7_move 156 = .ok (.if_icmp .ge 31, 3) := by decide +kernel
theorem dX7_move_159 : decode cX7_move 159 = .ok (.aload_n 0, 1) := by decide +kernel
theorem dX7_move_160 : decode cX7_move 160 = .ok (.getfield 43, 3) := by decide +kernel
theorem dX7_move_163 : decode cX7_move 163 = .ok (.bipush 24, 2) := by decide +kernel
theorem dX7_move_165 : decode cX7_move 165 = .ok (.iload_n 3, 1) := by decide +kernel
theorem dX7_move_166 : decode cX7_move 166 = .ok (.imul, 1) := by decide +kernel
theorem dX7_move_167 : decode cX7_move 167 = .ok (.iload 4, 2) := by decide +kernel
theorem dX7_move_169 : decode cX7_move 169 = .ok (.iadd, 1) := by decide +kernel
theorem dX7_move_170 : decode cX7_move 170 = .ok (.iload 6, 2) := by decide +kernel
theorem dX7_move_172 : decode cX7_move 172 = .ok (.iadd, 1) := by decide +kernel
theorem dX7_move_173 : decode cX7_move 173 = .ok (.aload_n 0, 1) := by decide +kernel
theorem dX7_move_174 : decode cX7_move 174 = .ok (.getfield 46, 3) := by decide +kernel
theorem dX7_move_177 : decode cX7_move 177 = .ok (.iload 6, 2) := by decide +kernel
theorem dX7_move_179 : decode cX7_move 179 = .ok (.iaload, 1) := by decide +kernel
theorem dX7_move_180 : decode cX7_move 180 = .ok (.iastore, 1) := by decide +kernel
theorem dX7_move_181 : decode cX7_move 181 = .ok (.iinc 6 1, 3) := by decide +kernel
theorem dX7_move_184 : decode cX7_move 184 = .ok (.goto (-32), 3) := by decide +kernel
theorem dX7_move_187 : decode cX7_move 187 = .ok (.iload 5, 2) := by decide +kernel
theorem dX7_move_189 : decode cX7_move 189 = .ok (.ireturn, 1) := by decide +kernel
theorem dX7_lacks_0 : decode cX7_lacks 0 = .ok (.iload_n 1, 1) := by decide +kernel
theorem dX7_lacks_1 : decode cX7_lacks 1 = .ok (.invokestatic 251, 3) := by decide +kernel
theorem dX7_lacks_4 : decode cX7_lacks 4 = .ok (.ifCond .ne 7, 3) := by decide +kernel
theorem dX7_lacks_7 : decode cX7_lacks 7 = .ok (.iconst 1, 1) := by decide +kernel
theorem dX7_lacks_8 : decode cX7_lacks 8 = .ok (.goto 17, 3) := by decide +kernel
theorem dX7_lacks_11 : decode cX7_lacks 11 = .ok (.aload_n 0, 1) := by decide +kernel
theorem dX7_lacks_12 : decode cX7_lacks 12 = .ok (.getfield 37, 3) := by decide +kernel
theorem dX7_lacks_15 : decode cX7_lacks 15 = .ok (.iload_n 1, 1) := by decide +kernel
theorem dX7_lacks_16 : decode cX7_lacks 16 = .ok (.iaload, 1) := by decide +kernel
theorem dX7_lacks_17 : decode cX7_lacks 17 = .ok (.ifCond .ne 7, 3) := by decide +kernel
theorem dX7_lacks_20 : decode cX7_lacks 20 = .ok (.iconst 2, 1) := by decide +kernel
theorem dX7_lacks_21 : decode cX7_lacks 21 = .ok (.goto 4, 3) := by decide +kernel
theorem dX7_lacks_24 : decode cX7_lacks 24 = .ok (.iconst 0, 1) := by decide +kernel
theorem dX7_lacks_25 : decode cX7_lacks 25 = .ok (.ireturn, 1) := by decide +kernel
theorem dX7_plates_0 : decode cX7_plates 0 = .ok (.aload_n 0, 1) := by decide +kernel
theorem dX7_plates_1 : decode cX7_plates 1 = .ok (.iload_n 1, 1) := by decide +kernel
theorem dX7_plates_2 : decode cX7_plates 2 = .ok (.invokevirtual 205, 3) := by decide +kernel
theorem dX7_plates_5 : decode cX7_plates 5 = .ok (.istore_n 2, 1) := by decide +kernel
theorem dX7_plates_6 : decode cX7_plates 6 = .ok (.iload_n 2, 1) := by decide +kernel
theorem dX7_plates_7 : decode cX7_plates 7 = .ok (.ifCond .eq 9, 3) := by decide +kernel
theorem dX7_plates_10 : decode cX7_plates 10 = .ok (.aload_n 0, 1) := by decide +kernel
theorem dX7_plates_11 : decode cX7_plates 11 = .ok (.iload_n 2, 1) := by decide +kernel
theorem dX7_plates_12 : decode cX7_plates 12 = .ok (.invokevirtual 58, 3) := by decide +kernel
theorem dX7_plates_15 : decode cX7_plates 15 = .ok (.ireturn, 1) := by decide +kernel
theorem dX7_plates_16 : decode cX7_plates 16 = .ok (.iconst 0, 1) := by decide +kernel
theorem dX7_plates_17 : decode cX7_plates 17 = .ok (.istore_n 3, 1) := by decide +kernel
theorem dX7_plates_18 : decode cX7_plates 18 = .ok (.iload_n 3, 1) := by decide +kernel
theorem dX7_plates_19 : decode cX7_plates 19 = .ok (.aload_n 0, 1) := by decide +kernel
theorem dX7_plates_20 : decode cX7_plates 20 = .ok (.getfield 40, 3) := by decide +kernel
theorem dX7_plates_23 : decode cX7_plates 23 = .ok (.iload_n 1, 1) := by decide +kernel
theorem dX7_plates_24 : decode cX7_plates 24 = .ok (.iaload, 1) := by decide +kernel
theorem dX7_plates_25 : decode cX7_plates 25 = .ok (.if_icmp .ge 51, 3) := by decide +kernel
theorem dX7_plates_28 : decode cX7_plates 28 = .ok (.aload_n 0, 1) := by decide +kernel
theorem dX7_plates_29 : decode cX7_plates 29 = .ok (.iload_n 3, 1) := by decide +kernel
theorem dX7_plates_30 : decode cX7_plates 30 = .ok (.invokevirtual 152, 3) := by decide +kernel
theorem dX7_plates_33 : decode cX7_plates 33 = .ok (.ifCond .eq 43, 3) := by decide +kernel
theorem dX7_plates_36 : decode cX7_plates 36 = .ok (.aload_n 0, 1) := by decide +kernel
theorem dX7_plates_37 : decode cX7_plates 37 = .ok (.getfield 43, 3) := by decide +kernel
theorem dX7_plates_40 : decode cX7_plates 40 = .ok (.bipush 24, 2) := by decide +kernel
theorem dX7_plates_42 : decode cX7_plates 42 = .ok (.iload_n 1, 1) := by decide +kernel
theorem dX7_plates_43 : decode cX7_plates 43 = .ok (.imul, 1) := by decide +kernel
theorem dX7_plates_44 : decode cX7_plates 44 = .ok (.iload_n 3, 1) := by decide +kernel
theorem dX7_plates_45 : decode cX7_plates 45 = .ok (.iadd, 1) := by decide +kernel
theorem dX7_plates_46 : decode cX7_plates 46 = .ok (.iaload, 1) := by decide +kernel
theorem dX7_plates_47 : decode cX7_plates 47 = .ok (.invokestatic 146, 3) := by decide +kernel
theorem dX7_plates_50 : decode cX7_plates 50 = .ok (.ifCond .eq 26, 3) := by decide +kernel
theorem dX7_plates_53 : decode cX7_plates 53 = .ok (.aload_n 0, 1) := by decide +kernel
theorem dX7_plates_54 : decode cX7_plates 54 = .ok (.iload_n 3, 1) := by decide +kernel
theorem dX7_plates_55 : decode cX7_plates 55 = .ok (.iconst 2, 1) := by decide +kernel
theorem dX7_plates_56 : decode cX7_plates 56 = .ok (.aload_n 0, 1) := by decide +kernel
theorem dX7_plates_57 : decode cX7_plates 57 = .ok (.getfield 43, 3) := by decide +kernel
theorem dX7_plates_60 : decode cX7_plates 60 = .ok (.bipush 24, 2) := by decide +kernel
theorem dX7_plates_62 : decode cX7_plates 62 = .ok (.iload_n 1, 1) := by decide +kernel
theorem dX7_plates_63 : decode cX7_plates 63 = .ok (.imul, 1) := by decide +kernel
theorem dX7_plates_64 : decode cX7_plates 64 = .ok (.iload_n 3, 1) := by decide +kernel
theorem dX7_plates_65 : decode cX7_plates 65 = .ok (.iadd, 1) := by decide +kernel
theorem dX7_plates_66 : decode cX7_plates 66 = .ok (.iaload, 1) := by decide +kernel
theorem dX7_plates_67 : decode cX7_plates 67 = .ok (.invokevirtual 139, 3) := by decide +kernel
theorem dX7_plates_70 : decode cX7_plates 70 = .ok (.iinc 3 1, 3) := by decide +kernel
theorem dX7_plates_73 : decode cX7_plates 73 = .ok (.goto (-55), 3) := by decide +kernel
theorem dX7_plates_76 : decode cX7_plates 76 = .ok (.iload_n 3, 1) := by decide +kernel
theorem dX7_plates_77 : decode cX7_plates 77 = .ok (.ireturn, 1) := by decide +kernel
theorem dX7_judge_0 : decode cX7_judge 0 = .ok (.aload_n 0, 1) := by decide +kernel
theorem dX7_judge_1 : decode cX7_judge 1 = .ok (.iload_n 1, 1) := by decide +kernel
theorem dX7_judge_2 : decode cX7_judge 2 = .ok (.invokevirtual 205, 3) := by decide +kernel
theorem dX7_judge_5 : decode cX7_judge 5 = .ok (.istore_n 2, 1) := by decide +kernel
theorem dX7_judge_6 : decode cX7_judge 6 = .ok (.iload_n 2, 1) := by decide +kernel
theorem dX7_judge_7 : decode cX7_judge 7 = .ok (.ifCond .eq 9, 3) := by decide +kernel
theorem dX7_judge_10 : decode cX7_judge 10 = .ok (.aload_n 0, 1) := by decide +kernel
theorem dX7_judge_11 : decode cX7_judge 11 = .ok (.iload_n 2, 1) := by decide +kernel
theorem dX7_judge_12 : decode cX7_judge 12 = .ok (.invokevirtual 58, 3) := by decide +kernel
theorem dX7_judge_15 : decode cX7_judge 15 = .ok (.ireturn, 1) := by decide +kernel
theorem dX7_judge_16 : decode cX7_judge 16 = .ok (.iconst 0, 1) := by decide +kernel
theorem dX7_judge_17 : decode cX7_judge 17 = .ok (.istore_n 3, 1) := by decide +kernel
theorem dX7_judge_18 : decode cX7_judge 18 = .ok (.iload_n 3, 1) := by decide +kernel
theorem dX7_judge_19 : decode cX7_judge 19 = .ok (.aload_n 0, 1) := by decide +kernel
theorem dX7_judge_20 : decode cX7_judge 20 = .ok (.getfield 40, 3) := by decide +kernel
theorem dX7_judge_23 : decode cX7_judge 23 = .ok (.iload_n 1, 1) := by decide +kernel
theorem dX7_judge_24 : decode cX7_judge 24 = .ok (.iaload, 1) := by decide +kernel
theorem dX7_judge_25 : decode cX7_judge 25 = .ok (.if_icmp .ge 36, 3) := by decide +kernel
theorem dX7_judge_28 : decode cX7_judge 28 = .ok (.aload_n 0, 1) := by decide +kernel
theorem dX7_judge_29 : decode cX7_judge 29 = .ok (.iload_n 3, 1) := by decide +kernel
theorem dX7_judge_30 : decode cX7_judge 30 = .ok (.invokevirtual 152, 3) := by decide +kernel
theorem dX7_judge_33 : decode cX7_judge 33 = .ok (.ifCond .eq 28, 3) := by decide +kernel
theorem dX7_judge_36 : decode cX7_judge 36 = .ok (.aload_n 0, 1) := by decide +kernel
theorem dX7_judge_37 : decode cX7_judge 37 = .ok (.iload_n 3, 1) := by decide +kernel
theorem dX7_judge_38 : decode cX7_judge 38 = .ok (.invokevirtual 155, 3) := by decide +kernel
theorem dX7_judge_41 : decode cX7_judge 41 = .ok (.aload_n 0, 1) := by decide +kernel
theorem dX7_judge_42 : decode cX7_judge 42 = .ok (.getfield 43, 3) := by decide +kernel
theorem dX7_judge_45 : decode cX7_judge 45 = .ok (.bipush 24, 2) := by decide +kernel
theorem dX7_judge_47 : decode cX7_judge 47 = .ok (.iload_n 1, 1) := by decide +kernel
theorem dX7_judge_48 : decode cX7_judge 48 = .ok (.imul, 1) := by decide +kernel
theorem dX7_judge_49 : decode cX7_judge 49 = .ok (.iload_n 3, 1) := by decide +kernel
theorem dX7_judge_50 : decode cX7_judge 50 = .ok (.iadd, 1) := by decide +kernel
theorem dX7_judge_51 : decode cX7_judge 51 = .ok (.iaload, 1) := by decide +kernel
theorem dX7_judge_52 : decode cX7_judge 52 = .ok (.if_icmp .ne 9, 3) := by decide +kernel
theorem dX7_judge_55 : decode cX7_judge 55 = .ok (.iinc 3 1, 3) := by decide +kernel
theorem dX7_judge_58 : decode cX7_judge 58 = .ok (.goto (-40), 3) := by decide +kernel
theorem dX7_judge_61 : decode cX7_judge 61 = .ok (.iload_n 3, 1) := by decide +kernel
theorem dX7_judge_62 : decode cX7_judge 62 = .ok (.ireturn, 1) := by decide +kernel
theorem dX7_image_0 : decode cX7_image 0 = .ok (.aload_n 0, 1) := by decide +kernel
theorem dX7_image_1 : decode cX7_image 1 = .ok (.getfield 7, 3) := by decide +kernel
theorem dX7_image_4 : decode cX7_image 4 = .ok (.aload_n 0, 1) := by decide +kernel
theorem dX7_image_5 : decode cX7_image 5 = .ok (.getfield 13, 3) := by decide +kernel
theorem dX7_image_8 : decode cX7_image 8 = .ok (.invokestatic 254, 3) := by decide +kernel
theorem dX7_image_11 : decode cX7_image 11 = .ok (.aload_n 0, 1) := by decide +kernel
theorem dX7_image_12 : decode cX7_image 12 = .ok (.dup, 1) := by decide +kernel
theorem dX7_image_13 : decode cX7_image 13 = .ok (.getfield 258, 3) := by decide +kernel
theorem dX7_image_16 : decode cX7_image 16 = .ok (.iconst 1, 1) := by decide +kernel
theorem dX7_image_17 : decode cX7_image 17 = .ok (.iadd, 1) := by decide +kernel
theorem dX7_image_18 : decode cX7_image 18 = .ok (.putfield 258, 3) := by decide +kernel
theorem dX7_image_21 : decode cX7_image 21 = .ok (.aload_n 0, 1) := by decide +kernel
theorem dX7_image_22 : decode cX7_image 22 = .ok (.getfield 258, 3) := by decide +kernel
theorem dX7_image_25 : decode cX7_image 25 = .ok (.ireturn, 1) := by decide +kernel
theorem dX7_restore_0 : decode cX7_restore 0 = .ok (.aload_n 0, 1) := by decide +kernel
theorem dX7_restore_1 : decode cX7_restore 1 = .ok (.getfield 258, 3) := by decide +kernel
theorem dX7_restore_4 : decode cX7_restore 4 = .ok (.ifCond .ne 9, 3) := by decide +kernel
theorem dX7_restore_7 : decode cX7_restore 7 = .ok (.aload_n 0, 1) := by decide +kernel
theorem dX7_restore_8 : decode cX7_restore 8 = .ok (.iconst 2, 1) := by decide +kernel
theorem dX7_restore_9 : decode cX7_restore 9 = .ok (.invokevirtual 58, 3) := by decide +kernel
theorem dX7_restore_12 : decode cX7_restore 12 = .ok (.ireturn, 1) := by decide +kernel
theorem dX7_restore_13 : decode cX7_restore 13 = .ok (.aload_n 0, 1) := by decide +kernel
theorem dX7_restore_14 : decode cX7_restore 14 = .ok (.getfield 13, 3) := by decide +kernel
theorem dX7_restore_17 : decode cX7_restore 17 = .ok (.aload_n 0, 1) := by decide +kernel
theorem dX7_restore_18 : decode cX7_restore 18 = .ok (.getfield 7, 3) := by decide +kernel
theorem dX7_restore_21 : decode cX7_restore 21 = .ok (.invokestatic 254, 3) := by decide +kernel
theorem dX7_restore_24 : decode cX7_restore 24 = .ok (.aload_n 0, 1) := by decide +kernel
theorem dX7_restore_25 : decode cX7_restore 25 = .ok (.getfield 7, 3) := by decide +kernel
theorem dX7_restore_28 : decode cX7_restore 28 = .ok (.iconst 0, 1) := by decide +kernel
theorem dX7_restore_29 : decode cX7_restore 29 = .ok (.iaload, 1) := by decide +kernel
theorem dX7_restore_30 : decode cX7_restore 30 = .ok (.ireturn, 1) := by decide +kernel
theorem dX7_tell_0 : decode cX7_tell 0 = .ok (.aload_n 0, 1) := by decide +kernel
theorem dX7_tell_1 : decode cX7_tell 1 = .ok (.getfield 7, 3) := by decide +kernel
theorem dX7_tell_4 : decode cX7_tell 4 = .ok (.iconst 4, 1) := by decide +kernel
theorem dX7_tell_5 : decode cX7_tell 5 = .ok (.iaload, 1) := by decide +kernel
theorem dX7_tell_6 : decode cX7_tell 6 = .ok (.bipush 24, 2) := by decide +kernel
theorem dX7_tell_8 : decode cX7_tell 8 = .ok (.if_icmp .ne 9, 3) := by decide +kernel
theorem dX7_tell_11 : decode cX7_tell 11 = .ok (.aload_n 0, 1) := by decide +kernel
theorem dX7_tell_12 : decode cX7_tell 12 = .ok (.iconst 4, 1) := by decide +kernel
theorem dX7_tell_13 : decode cX7_tell 13 = .ok (.invokevirtual 58, 3) := by decide +kernel
theorem dX7_tell_16 : decode cX7_tell 16 = .ok (.ireturn, 1) := by decide +kernel
theorem dX7_tell_17 : decode cX7_tell 17 = .ok (.aload_n 0, 1) := by decide +kernel
theorem dX7_tell_18 : decode cX7_tell 18 = .ok (.getfield 7, 3) := by decide +kernel
theorem dX7_tell_21 : decode cX7_tell 21 = .ok (.sipush 358, 3) := by decide +kernel
theorem dX7_tell_24 : decode cX7_tell 24 = .ok (.aload_n 0, 1) := by decide +kernel
theorem dX7_tell_25 : decode cX7_tell 25 = .ok (.getfield 7, 3) := by decide +kernel
theorem dX7_tell_28 : decode cX7_tell 28 = .ok (.iconst 4, 1) := by decide +kernel
theorem dX7_tell_29 : decode cX7_tell 29 = .ok (.iaload, 1) := by decide +kernel
theorem dX7_tell_30 : decode cX7_tell 30 = .ok (.iadd, 1) := by decide +kernel
theorem dX7_tell_31 : decode cX7_tell 31 = .ok (.iload_n 1, 1) := by decide +kernel
theorem dX7_tell_32 : decode cX7_tell 32 = .ok (.iastore, 1) := by decide +kernel
theorem dX7_tell_33 : decode cX7_tell 33 = .ok (.aload_n 0, 1) := by decide +kernel
theorem dX7_tell_34 : decode cX7_tell 34 = .ok (.getfield 7, 3) := by decide +kernel
theorem dX7_tell_37 : decode cX7_tell 37 = .ok (.iconst 4, 1) := by decide +kernel
theorem dX7_tell_38 : decode cX7_tell 38 = .ok (.dup2, 1) := by decide +kernel
theorem dX7_tell_39 : decode cX7_tell 39 = .ok (.iaload, 1) := by decide +kernel
theorem dX7_tell_40 : decode cX7_tell 40 = .ok (.iconst 1, 1) := by decide +kernel
theorem dX7_tell_41 : decode cX7_tell 41 = .ok (.iadd, 1) := by decide +kernel
theorem dX7_tell_42 : decode cX7_tell 42 = .ok (.iastore, 1) := by decide +kernel
theorem dX7_tell_43 : decode cX7_tell 43 = .ok (.aload_n 0, 1) := by decide +kernel
theorem dX7_tell_44 : decode cX7_tell 44 = .ok (.getfield 7, 3) := by decide +kernel
theorem dX7_tell_47 : decode cX7_tell 47 = .ok (.iconst 4, 1) := by decide +kernel
theorem dX7_tell_48 : decode cX7_tell 48 = .ok (.iaload, 1) := by decide +kernel
theorem dX7_tell_49 : decode cX7_tell 49 = .ok (.ireturn, 1) := by decide +kernel
theorem dX7_check_0 : decode cX7_check 0 = .ok (.aload_n 0, 1) := by decide +kernel
theorem dX7_check_1 : decode cX7_check 1 = .ok (.getfield 7, 3) := by decide +kernel
theorem dX7_check_4 : decode cX7_check 4 = .ok (.iconst 4, 1) := by decide +kernel
theorem dX7_check_5 : decode cX7_check 5 = .ok (.iaload, 1) := by decide +kernel
theorem dX7_check_6 : decode cX7_check 6 = .ok (.istore_n 1, 1) := by decide +kernel
theorem dX7_check_7 : decode cX7_check 7 = .ok (.aload_n 0, 1) := by decide +kernel
theorem dX7_check_8 : decode cX7_check 8 = .ok (.getfield 7, 3) := by decide +kernel
theorem dX7_check_11 : decode cX7_check 11 = .ok (.iconst 4, 1) := by decide +kernel
theorem dX7_check_12 : decode cX7_check 12 = .ok (.iconst 0, 1) := by decide +kernel
theorem dX7_check_13 : decode cX7_check 13 = .ok (.iastore, 1) := by decide +kernel
theorem dX7_check_14 : decode cX7_check 14 = .ok (.iconst 0, 1) := by decide +kernel
theorem dX7_check_15 : decode cX7_check 15 = .ok (.istore_n 2, 1) := by decide +kernel
theorem dX7_check_16 : decode cX7_check 16 = .ok (.iload_n 2, 1) := by decide +kernel
theorem dX7_check_17 : decode cX7_check 17 = .ok (.iload_n 1, 1) := by decide +kernel
theorem dX7_check_18 : decode cX7_check 18 = .ok (.if_icmp .ge 40, 3) := by decide +kernel
theorem dX7_check_21 : decode cX7_check 21 = .ok (.aload_n 0, 1) := by decide +kernel
theorem dX7_check_22 : decode cX7_check 22 = .ok (.iload_n 2, 1) := by decide +kernel
theorem dX7_check_23 : decode cX7_check 23 = .ok (.invokevirtual 152, 3) := by decide +kernel
theorem dX7_check_26 : decode cX7_check 26 = .ok (.ifCond .eq 22, 3) := by decide +kernel
theorem dX7_check_29 : decode cX7_check 29 = .ok (.aload_n 0, 1) := by decide +kernel
theorem dX7_check_30 : decode cX7_check 30 = .ok (.getfield 7, 3) := by decide +kernel
theorem dX7_check_33 : decode cX7_check 33 = .ok (.sipush 358, 3) := by decide +kernel
theorem dX7_check_36 : decode cX7_check 36 = .ok (.iload_n 2, 1) := by decide +kernel
theorem dX7_check_37 : decode cX7_check 37 = .ok (.iadd, 1) := by decide +kernel
theorem dX7_check_38 : decode cX7_check 38 = .ok (.iaload, 1) := by decide +kernel
theorem dX7_check_39 : decode cX7_check 39 = .ok (.aload_n 0, 1) := by decide +kernel
theorem dX7_check_40 : decode cX7_check 40 = .ok (.iload_n 2, 1) := by decide +kernel
theorem dX7_check_41 : decode cX7_check 41 = .ok (.iconst 2, 1) := by decide +kernel
theorem dX7_check_42 : decode cX7_check 42 = .ok (.invokevirtual 54, 3) := by decide +kernel
theorem dX7_check_45 : decode cX7_check 45 = .ok (.if_icmp .eq 7, 3) := by decide +kernel
theorem dX7_check_48 : decode cX7_check 48 = .ok (.iconst 1, 1) := by decide +kernel
theorem dX7_check_49 : decode cX7_check 49 = .ok (.iload_n 2, 1) := by decide +kernel
theorem dX7_check_50 : decode cX7_check 50 = .ok (.iadd, 1) := by decide +kernel
theorem dX7_check_51 : decode cX7_check 51 = .ok (.ireturn, 1) := by decide +kernel
theorem dX7_check_52 : decode cX7_check 52 = .ok (.iinc 2 1, 3) := by decide +kernel
theorem dX7_check_55 : decode cX7_check 55 = .ok (.goto (-39), 3) := by decide +kernel
theorem dX7_check_58 : decode cX7_check 58 = .ok (.iconst 0, 1) := by decide +kernel
theorem dX7_check_59 : decode cX7_check 59 = .ok (.ireturn, 1) := by decide +kernel
theorem dX7_count_0 : decode cX7_count 0 = .ok (.iload_n 1, 1) := by decide +kernel
theorem dX7_count_1 : decode cX7_count 1 = .ok (.tableswitch 90 0 6 #[43, 50, 57, 64, 71, 78, 83], 43) := by decide +kernel
theorem dX7_count_44 : decode cX7_count 44 = .ok (.aload_n 0, 1) := by decide +kernel
theorem dX7_count_45 : decode cX7_count 45 = .ok (.getfield 7, 3) := by decide +kernel
theorem dX7_count_48 : decode cX7_count 48 = .ok (.iconst 5, 1) := by decide +kernel
theorem dX7_count_49 : decode cX7_count 49 = .ok (.iaload, 1) := by decide +kernel
theorem dX7_count_50 : decode cX7_count 50 = .ok (.ireturn, 1) := by decide +kernel
theorem dX7_count_51 : decode cX7_count 51 = .ok (.aload_n 0, 1) := by decide +kernel
theorem dX7_count_52 : decode cX7_count 52 = .ok (.getfield 7, 3) := by decide +kernel
theorem dX7_count_55 : decode cX7_count 55 = .ok (.iconst 0, 1) := by decide +kernel
theorem dX7_count_56 : decode cX7_count 56 = .ok (.iaload, 1) := by decide +kernel
theorem dX7_count_57 : decode cX7_count 57 = .ok (.ireturn, 1) := by decide +kernel
theorem dX7_count_58 : decode cX7_count 58 = .ok (.aload_n 0, 1) := by decide +kernel
theorem dX7_count_59 : decode cX7_count 59 = .ok (.getfield 7, 3) := by decide +kernel
theorem dX7_count_62 : decode cX7_count 62 = .ok (.iconst 1, 1) := by decide +kernel
theorem dX7_count_63 : decode cX7_count 63 = .ok (.iaload, 1) := by decide +kernel
theorem dX7_count_64 : decode cX7_count 64 = .ok (.ireturn, 1) := by decide +kernel
theorem dX7_count_65 : decode cX7_count 65 = .ok (.aload_n 0, 1) := by decide +kernel
theorem dX7_count_66 : decode cX7_count 66 = .ok (.getfield 7, 3) := by decide +kernel
theorem dX7_count_69 : decode cX7_count 69 = .ok (.iconst 3, 1) := by decide +kernel
theorem dX7_count_70 : decode cX7_count 70 = .ok (.iaload, 1) := by decide +kernel
theorem dX7_count_71 : decode cX7_count 71 = .ok (.ireturn, 1) := by decide +kernel
theorem dX7_count_72 : decode cX7_count 72 = .ok (.aload_n 0, 1) := by decide +kernel
theorem dX7_count_73 : decode cX7_count 73 = .ok (.getfield 7, 3) := by decide +kernel
theorem dX7_count_76 : decode cX7_count 76 = .ok (.iconst 4, 1) := by decide +kernel
theorem dX7_count_77 : decode cX7_count 77 = .ok (.iaload, 1) := by decide +kernel
theorem dX7_count_78 : decode cX7_count 78 = .ok (.ireturn, 1) := by decide +kernel
theorem dX7_count_79 : decode cX7_count 79 = .ok (.aload_n 0, 1) := by decide +kernel
theorem dX7_count_80 : decode cX7_count 80 = .ok (.getfield 219, 3) := by decide +kernel
theorem dX7_count_83 : decode cX7_count 83 = .ok (.ireturn, 1) := by decide +kernel
theorem dX7_count_84 : decode cX7_count 84 = .ok (.aload_n 0, 1) := by decide +kernel
theorem dX7_count_85 : decode cX7_count 85 = .ok (.getfield 7, 3) := by decide +kernel
theorem dX7_count_88 : decode cX7_count 88 = .ok (.iconst 2, 1) := by decide +kernel
theorem dX7_count_89 : decode cX7_count 89 = .ok (.iaload, 1) := by decide +kernel
theorem dX7_count_90 : decode cX7_count 90 = .ok (.ireturn, 1) := by decide +kernel
theorem dX7_count_91 : decode cX7_count 91 = .ok (.aload_n 0, 1) := by decide +kernel
theorem dX7_count_92 : decode cX7_count 92 = .ok (.iconst 1, 1) := by decide +kernel
theorem dX7_count_93 : decode cX7_count 93 = .ok (.invokevirtual 58, 3) := by decide +kernel
theorem dX7_count_96 : decode cX7_count 96 = .ok (.ireturn, 1) := by decide +kernel
theorem dX7_told_0 : decode cX7_told 0 = .ok (.iload_n 1, 1) := by decide +kernel
theorem dX7_told_1 : decode cX7_told 1 = .ok (.iconst 1, 1) := by decide +kernel
theorem dX7_told_2 : decode cX7_told 2 = .ok (.bipush 6, 2) := by decide +kernel
theorem dX7_told_4 : decode cX7_told 4 = .ok (.invokestatic 50, 3) := by decide +kernel
theorem dX7_told_7 : decode cX7_told 7 = .ok (.ifCond .eq 12, 3) := by decide +kernel
theorem dX7_told_10 : decode cX7_told 10 = .ok (.aload_n 0, 1) := by decide +kernel
theorem dX7_told_11 : decode cX7_told 11 = .ok (.getfield 16, 3) := by decide +kernel
theorem dX7_told_14 : decode cX7_told 14 = .ok (.iload_n 1, 1) := by decide +kernel
theorem dX7_told_15 : decode cX7_told 15 = .ok (.iaload, 1) := by decide +kernel
theorem dX7_told_16 : decode cX7_told 16 = .ok (.goto 8, 3) := by decide +kernel
theorem dX7_told_19 : decode cX7_told 19 = .ok (.aload_n 0, 1) := by decide +kernel
theorem dX7_told_20 : decode cX7_told 20 = .ok (.iconst 1, 1) := by decide +kernel
theorem dX7_told_21 : decode cX7_told 21 = .ok (.invokevirtual 58, 3) := by decide +kernel
theorem dX7_told_24 : decode cX7_told 24 = .ok (.ireturn, 1) := by decide +kernel
end
section
theorem dL_law_0 : decode cL_law 0 = .ok (.new 7, 3) := by decide +kernel
theorem dL_law_3 : decode cL_law 3 = .ok (.dup, 1) := by decide +kernel
theorem dL_law_4 : decode cL_law 4 = .ok (.invokespecial 9, 3) := by decide +kernel
theorem dL_law_7 : decode cL_law 7 = .ok (.astore_n 1, 1) := by decide +kernel
theorem dL_law_8 : decode cL_law 8 = .ok (.new 10, 3) := by decide +kernel
theorem dL_law_11 : decode cL_law 11 = .ok (.dup, 1) := by decide +kernel
theorem dL_law_12 : decode cL_law 12 = .ok (.invokespecial 12, 3) := by decide +kernel
theorem dL_law_15 : decode cL_law 15 = .ok (.astore_n 2, 1) := by decide +kernel
theorem dL_law_16 : decode cL_law 16 = .ok (.iconst 0, 1) := by decide +kernel
theorem dL_law_17 : decode cL_law 17 = .ok (.istore_n 3, 1) := by decide +kernel
theorem dL_law_18 : decode cL_law 18 = .ok (.iload_n 3, 1) := by decide +kernel
theorem dL_law_19 : decode cL_law 19 = .ok (.aload_n 0, 1) := by decide +kernel
theorem dL_law_20 : decode cL_law 20 = .ok (.arraylength, 1) := by decide +kernel
theorem dL_law_21 : decode cL_law 21 = .ok (.bipush 6, 2) := by decide +kernel
theorem dL_law_23 : decode cL_law 23 = .ok (.isub, 1) := by decide +kernel
theorem dL_law_24 : decode cL_law 24 = .ok (.if_icmp .gt 1239, 3) := by decide +kernel
theorem dL_law_27 : decode cL_law 27 = .ok (.aload_n 0, 1) := by decide +kernel
theorem dL_law_28 : decode cL_law 28 = .ok (.iload_n 3, 1) := by decide +kernel
theorem dL_law_29 : decode cL_law 29 = .ok (.iaload, 1) := by decide +kernel
theorem dL_law_30 : decode cL_law 30 = .ok (.bipush 63, 2) := by decide +kernel
theorem dL_law_32 : decode cL_law 32 = .ok (.iand, 1) := by decide +kernel
theorem dL_law_33 : decode cL_law 33 = .ok (.tableswitch 1224 0 36 #[163, 206, 239, 262, 295, 328, 361, 394, 417, 480, 503, 526, 579, 602, 625, 648, 671, 694, 707, 740, 763, 776, 809, 832, 855, 898, 921, 964, 1007, 1070, 1093, 1116, 1129, 1142, 1165, 1178, 1201], 163) := by decide +kernel
theorem dL_law_196 : decode cL_law 196 = .ok (.aload_n 1, 1) := by decide +kernel
theorem dL_law_197 : decode cL_law 197 = .ok (.aload_n 0, 1) := by decide +kernel
theorem dL_law_198 : decode cL_law 198 = .ok (.iload_n 3, 1) := by decide +kernel
theorem dL_law_199 : decode cL_law 199 = .ok (.iconst 1, 1) := by decide +kernel
theorem dL_law_200 : decode cL_law 200 = .ok (.iadd, 1) := by decide +kernel
theorem dL_law_201 : decode cL_law 201 = .ok (.iaload, 1) := by decide +kernel
theorem dL_law_202 : decode cL_law 202 = .ok (.aload_n 0, 1) := by decide +kernel
theorem dL_law_203 : decode cL_law 203 = .ok (.iload_n 3, 1) := by decide +kernel
theorem dL_law_204 : decode cL_law 204 = .ok (.iconst 2, 1) := by decide +kernel
theorem dL_law_205 : decode cL_law 205 = .ok (.iadd, 1) := by decide +kernel
theorem dL_law_206 : decode cL_law 206 = .ok (.iaload, 1) := by decide +kernel
theorem dL_law_207 : decode cL_law 207 = .ok (.aload_n 0, 1) := by decide +kernel
theorem dL_law_208 : decode cL_law 208 = .ok (.iload_n 3, 1) := by decide +kernel
theorem dL_law_209 : decode cL_law 209 = .ok (.iconst 3, 1) := by decide +kernel
theorem dL_law_210 : decode cL_law 210 = .ok (.iadd, 1) := by decide +kernel
theorem dL_law_211 : decode cL_law 211 = .ok (.iaload, 1) := by decide +kernel
theorem dL_law_212 : decode cL_law 212 = .ok (.invokevirtual 13, 3) := by decide +kernel
theorem dL_law_215 : decode cL_law 215 = .ok (.aload_n 2, 1) := by decide +kernel
theorem dL_law_216 : decode cL_law 216 = .ok (.aload_n 0, 1) := by decide +kernel
theorem dL_law_217 : decode cL_law 217 = .ok (.iload_n 3, 1) := by decide +kernel
theorem dL_law_218 : decode cL_law 218 = .ok (.iconst 1, 1) := by decide +kernel
theorem dL_law_219 : decode cL_law 219 = .ok (.iadd, 1) := by decide +kernel
theorem dL_law_220 : decode cL_law 220 = .ok (.iaload, 1) := by decide +kernel
theorem dL_law_221 : decode cL_law 221 = .ok (.aload_n 0, 1) := by decide +kernel
theorem dL_law_222 : decode cL_law 222 = .ok (.iload_n 3, 1) := by decide +kernel
theorem dL_law_223 : decode cL_law 223 = .ok (.iconst 2, 1) := by decide +kernel
theorem dL_law_224 : decode cL_law 224 = .ok (.iadd, 1) := by decide +kernel
theorem dL_law_225 : decode cL_law 225 = .ok (.iaload, 1) := by decide +kernel
theorem dL_law_226 : decode cL_law 226 = .ok (.aload_n 0, 1) := by decide +kernel
theorem dL_law_227 : decode cL_law 227 = .ok (.iload_n 3, 1) := by decide +kernel
theorem dL_law_228 : decode cL_law 228 = .ok (.iconst 3, 1) := by decide +kernel
theorem dL_law_229 : decode cL_law 229 = .ok (.iadd, 1) := by decide +kernel
theorem dL_law_230 : decode cL_law 230 = .ok (.iaload, 1) := by decide +kernel
theorem dL_law_231 : decode cL_law 231 = .ok (.invokevirtual 17, 3) := by decide +kernel
theorem dL_law_234 : decode cL_law 234 = .ok (.if_icmp .eq 1023, 3) := by decide +kernel
theorem dL_law_237 : decode cL_law 237 = .ok (.iconst 0, 1) := by decide +kernel
theorem dL_law_238 : decode cL_law 238 = .ok (.ireturn, 1) := by decide +kernel
theorem dL_law_239 : decode cL_law 239 = .ok (.aload_n 1, 1) := by decide +kernel
theorem dL_law_240 : decode cL_law 240 = .ok (.aload_n 0, 1) := by decide +kernel
theorem dL_law_241 : decode cL_law 241 = .ok (.iload_n 3, 1) := by decide +kernel
theorem dL_law_242 : decode cL_law 242 = .ok (.iconst 1, 1) := by decide +kernel
theorem dL_law_243 : decode cL_law 243 = .ok (.iadd, 1) := by decide +kernel
theorem dL_law_244 : decode cL_law 244 = .ok (.iaload, 1) := by decide +kernel
theorem dL_law_245 : decode cL_law 245 = .ok (.aload_n 0, 1) := by decide +kernel
theorem dL_law_246 : decode cL_law 246 = .ok (.iload_n 3, 1) := by decide +kernel
theorem dL_law_247 : decode cL_law 247 = .ok (.iconst 2, 1) := by decide +kernel
theorem dL_law_248 : decode cL_law 248 = .ok (.iadd, 1) := by decide +kernel
theorem dL_law_249 : decode cL_law 249 = .ok (.iaload, 1) := by decide +kernel
theorem dL_law_250 : decode cL_law 250 = .ok (.invokevirtual 18, 3) := by decide +kernel
theorem dL_law_253 : decode cL_law 253 = .ok (.aload_n 2, 1) := by decide +kernel
theorem dL_law_254 : decode cL_law 254 = .ok (.aload_n 0, 1) := by decide +kernel
theorem dL_law_255 : decode cL_law 255 = .ok (.iload_n 3, 1) := by decide +kernel
theorem dL_law_256 : decode cL_law 256 = .ok (.iconst 1, 1) := by decide +kernel
theorem dL_law_257 : decode cL_law 257 = .ok (.iadd, 1) := by decide +kernel
theorem dL_law_258 : decode cL_law 258 = .ok (.iaload, 1) := by decide +kernel
theorem dL_law_259 : decode cL_law 259 = .ok (.aload_n 0, 1) := by decide +kernel
theorem dL_law_260 : decode cL_law 260 = .ok (.iload_n 3, 1) := by decide +kernel
theorem dL_law_261 : decode cL_law 261 = .ok (.iconst 2, 1) := by decide +kernel
theorem dL_law_262 : decode cL_law 262 = .ok (.iadd, 1) := by decide +kernel
theorem dL_law_263 : decode cL_law 263 = .ok (.iaload, 1) := by decide +kernel
theorem dL_law_264 : decode cL_law 264 = .ok (.invokevirtual 22, 3) := by decide +kernel
theorem dL_law_267 : decode cL_law 267 = .ok (.if_icmp .eq 990, 3) := by decide +kernel
theorem dL_law_270 : decode cL_law 270 = .ok (.iconst 0, 1) := by decide +kernel
theorem dL_law_271 : decode cL_law 271 = .ok (.ireturn, 1) := by decide +kernel
theorem dL_law_272 : decode cL_law 272 = .ok (.aload_n 1, 1) := by decide +kernel
theorem dL_law_273 : decode cL_law 273 = .ok (.aload_n 0, 1) := by decide +kernel
theorem dL_law_274 : decode cL_law 274 = .ok (.iload_n 3, 1) := by decide +kernel
theorem dL_law_275 : decode cL_law 275 = .ok (.iconst 1, 1) := by decide +kernel
theorem dL_law_276 : decode cL_law 276 = .ok (.iadd, 1) := by decide +kernel
theorem dL_law_277 : decode cL_law 277 = .ok (.iaload, 1) := by decide +kernel
theorem dL_law_278 : decode cL_law 278 = .ok (.invokevirtual 23, 3) := by decide +kernel
theorem dL_law_281 : decode cL_law 281 = .ok (.aload_n 2, 1) := by decide +kernel
theorem dL_law_282 : decode cL_law 282 = .ok (.aload_n 0, 1) := by decide +kernel
theorem dL_law_283 : decode cL_law 283 = .ok (.iload_n 3, 1) := by decide +kernel
theorem dL_law_284 : decode cL_law 284 = .ok (.iconst 1, 1) := by decide +kernel
theorem dL_law_285 : decode cL_law 285 = .ok (.iadd, 1) := by decide +kernel
theorem dL_law_286 : decode cL_law 286 = .ok (.iaload, 1) := by decide +kernel
theorem dL_law_287 : decode cL_law 287 = .ok (.invokevirtual 27, 3) := by decide +kernel
theorem dL_law_290 : decode cL_law 290 = .ok (.if_icmp .eq 967, 3) := by decide +kernel
theorem dL_law_293 : decode cL_law 293 = .ok (.iconst 0, 1) := by decide +kernel
theorem dL_law_294 : decode cL_law 294 = .ok (.ireturn, 1) := by decide +kernel
theorem dL_law_295 : decode cL_law 295 = .ok (.aload_n 1, 1) := by decide +kernel
theorem dL_law_296 : decode cL_law 296 = .ok (.aload_n 0, 1) := by decide +kernel
theorem dL_law_297 : decode cL_law 297 = .ok (.iload_n 3, 1) := by decide +kernel
theorem dL_law_298 : decode cL_law 298 = .ok (.iconst 1, 1) := by decide +kernel
theorem dL_law_299 : decode cL_law 299 = .ok (.iadd, 1) := by decide +kernel
theorem dL_law_300 : decode cL_law 300 = .ok (.iaload, 1) := by decide +kernel
theorem dL_law_301 : decode cL_law 301 = .ok (.aload_n 0, 1) := by decide +kernel
theorem dL_law_302 : decode cL_law 302 = .ok (.iload_n 3, 1) := by decide +kernel
theorem dL_law_303 : decode cL_law 303 = .ok (.iconst 2, 1) := by decide +kernel
theorem dL_law_304 : decode cL_law 304 = .ok (.iadd, 1) := by decide +kernel
theorem dL_law_305 : decode cL_law 305 = .ok (.iaload, 1) := by decide +kernel
theorem dL_law_306 : decode cL_law 306 = .ok (.invokevirtual 28, 3) := by decide +kernel
theorem dL_law_309 : decode cL_law 309 = .ok (.aload_n 2, 1) := by decide +kernel
theorem dL_law_310 : decode cL_law 310 = .ok (.aload_n 0, 1) := by decide +kernel
theorem dL_law_311 : decode cL_law 311 = .ok (.iload_n 3, 1) := by decide +kernel
theorem dL_law_312 : decode cL_law 312 = .ok (.iconst 1, 1) := by decide +kernel
theorem dL_law_313 : decode cL_law 313 = .ok (.iadd, 1) := by decide +kernel
theorem dL_law_314 : decode cL_law 314 = .ok (.iaload, 1) := by decide +kernel
theorem dL_law_315 : decode cL_law 315 = .ok (.aload_n 0, 1) := by decide +kernel
theorem dL_law_316 : decode cL_law 316 = .ok (.iload_n 3, 1) := by decide +kernel
theorem dL_law_317 : decode cL_law 317 = .ok (.iconst 2, 1) := by decide +kernel
theorem dL_law_318 : decode cL_law 318 = .ok (.iadd, 1) := by decide +kernel
theorem dL_law_319 : decode cL_law 319 = .ok (.iaload, 1) := by decide +kernel
theorem dL_law_320 : decode cL_law 320 = .ok (.invokevirtual 31, 3) := by decide +kernel
theorem dL_law_323 : decode cL_law 323 = .ok (.if_icmp .eq 934, 3) := by decide +kernel
theorem dL_law_326 : decode cL_law 326 = .ok (.iconst 0, 1) := by decide +kernel
theorem dL_law_327 : decode cL_law 327 = .ok (.ireturn, 1) := by decide +kernel
theorem dL_law_328 : decode cL_law 328 = .ok (.aload_n 1, 1) := by decide +kernel
theorem dL_law_329 : decode cL_law 329 = .ok (.aload_n 0, 1) := by decide +kernel
theorem dL_law_330 : decode cL_law 330 = .ok (.iload_n 3, 1) := by decide +kernel
theorem dL_law_331 : decode cL_law 331 = .ok (.iconst 1, 1) := by decide +kernel
theorem dL_law_332 : decode cL_law 332 = .ok (.iadd, 1) := by decide +kernel
theorem dL_law_333 : decode cL_law 333 = .ok (.iaload, 1) := by decide +kernel
theorem dL_law_334 : decode cL_law 334 = .ok (.aload_n 0, 1) := by decide +kernel
theorem dL_law_335 : decode cL_law 335 = .ok (.iload_n 3, 1) := by decide +kernel
theorem dL_law_336 : decode cL_law 336 = .ok (.iconst 2, 1) := by decide +kernel
theorem dL_law_337 : decode cL_law 337 = .ok (.iadd, 1) := by decide +kernel
theorem dL_law_338 : decode cL_law 338 = .ok (.iaload, 1) := by decide +kernel
theorem dL_law_339 : decode cL_law 339 = .ok (.invokevirtual 32, 3) := by decide +kernel
theorem dL_law_342 : decode cL_law 342 = .ok (.aload_n 2, 1) := by decide +kernel
theorem dL_law_343 : decode cL_law 343 = .ok (.aload_n 0, 1) := by decide +kernel
theorem dL_law_344 : decode cL_law 344 = .ok (.iload_n 3, 1) := by decide +kernel
theorem dL_law_345 : decode cL_law 345 = .ok (.iconst 1, 1) := by decide +kernel
theorem dL_law_346 : decode cL_law 346 = .ok (.iadd, 1) := by decide +kernel
theorem dL_law_347 : decode cL_law 347 = .ok (.iaload, 1) := by decide +kernel
theorem dL_law_348 : decode cL_law 348 = .ok (.aload_n 0, 1) := by decide +kernel
theorem dL_law_349 : decode cL_law 349 = .ok (.iload_n 3, 1) := by decide +kernel
theorem dL_law_350 : decode cL_law 350 = .ok (.iconst 2, 1) := by decide +kernel
theorem dL_law_351 : decode cL_law 351 = .ok (.iadd, 1) := by decide +kernel
theorem dL_law_352 : decode cL_law 352 = .ok (.iaload, 1) := by decide +kernel
theorem dL_law_353 : decode cL_law 353 = .ok (.invokevirtual 35, 3) := by decide +kernel
theorem dL_law_356 : decode cL_law 356 = .ok (.if_icmp .eq 901, 3) := by decide +kernel
theorem dL_law_359 : decode cL_law 359 = .ok (.iconst 0, 1) := by decide +kernel
theorem dL_law_360 : decode cL_law 360 = .ok (.ireturn, 1) := by decide +kernel
theorem dL_law_361 : decode cL_law 361 = .ok (.aload_n 1, 1) := by decide +kernel
theorem dL_law_362 : decode cL_law 362 = .ok (.aload_n 0, 1) := by decide +kernel
theorem dL_law_363 : decode cL_law 363 = .ok (.iload_n 3, 1) := by decide +kernel
theorem dL_law_364 : decode cL_law 364 = .ok (.iconst 1, 1) := by decide +kernel
theorem dL_law_365 : decode cL_law 365 = .ok (.iadd, 1) := by decide +kernel
theorem dL_law_366 : decode cL_law 366 = .ok (.iaload, 1) := by decide +kernel
theorem dL_law_367 : decode cL_law 367 = .ok (.aload_n 0, 1) := by decide +kernel
theorem dL_law_368 : decode cL_law 368 = .ok (.iload_n 3, 1) := by decide +kernel
theorem dL_law_369 : decode cL_law 369 = .ok (.iconst 2, 1) := by decide +kernel
theorem dL_law_370 : decode cL_law 370 = .ok (.iadd, 1) := by decide +kernel
theorem dL_law_371 : decode cL_law 371 = .ok (.iaload, 1) := by decide +kernel
theorem dL_law_372 : decode cL_law 372 = .ok (.invokevirtual 36, 3) := by decide +kernel
theorem dL_law_375 : decode cL_law 375 = .ok (.aload_n 2, 1) := by decide +kernel
theorem dL_law_376 : decode cL_law 376 = .ok (.aload_n 0, 1) := by decide +kernel
theorem dL_law_377 : decode cL_law 377 = .ok (.iload_n 3, 1) := by decide +kernel
theorem dL_law_378 : decode cL_law 378 = .ok (.iconst 1, 1) := by decide +kernel
theorem dL_law_379 : decode cL_law 379 = .ok (.iadd, 1) := by decide +kernel
theorem dL_law_380 : decode cL_law 380 = .ok (.iaload, 1) := by decide +kernel
theorem dL_law_381 : decode cL_law 381 = .ok (.aload_n 0, 1) := by decide +kernel
theorem dL_law_382 : decode cL_law 382 = .ok (.iload_n 3, 1) := by decide +kernel
theorem dL_law_383 : decode cL_law 383 = .ok (.iconst 2, 1) := by decide +kernel
theorem dL_law_384 : decode cL_law 384 = .ok (.iadd, 1) := by decide +kernel
theorem dL_law_385 : decode cL_law 385 = .ok (.iaload, 1) := by decide +kernel
theorem dL_law_386 : decode cL_law 386 = .ok (.invokevirtual 39, 3) := by decide +kernel
theorem dL_law_389 : decode cL_law 389 = .ok (.if_icmp .eq 868, 3) := by decide +kernel
theorem dL_law_392 : decode cL_law 392 = .ok (.iconst 0, 1) := by decide +kernel
theorem dL_law_393 : decode cL_law 393 = .ok (.ireturn, 1) := by decide +kernel
theorem dL_law_394 : decode cL_law 394 = .ok (.aload_n 1, 1) := by decide +kernel
theorem dL_law_395 : decode cL_law 395 = .ok (.aload_n 0, 1) := by decide +kernel
theorem dL_law_396 : decode cL_law 396 = .ok (.iload_n 3, 1) := by decide +kernel
theorem dL_law_397 : decode cL_law 397 = .ok (.iconst 1, 1) := by decide +kernel
theorem dL_law_398 : decode cL_law 398 = .ok (.iadd, 1) := by decide +kernel
theorem dL_law_399 : decode cL_law 399 = .ok (.iaload, 1) := by decide +kernel
theorem dL_law_400 : decode cL_law 400 = .ok (.aload_n 0, 1) := by decide +kernel
theorem dL_law_401 : decode cL_law 401 = .ok (.iload_n 3, 1) := by decide +kernel
theorem dL_law_402 : decode cL_law 402 = .ok (.iconst 2, 1) := by decide +kernel
theorem dL_law_403 : decode cL_law 403 = .ok (.iadd, 1) := by decide +kernel
theorem dL_law_404 : decode cL_law 404 = .ok (.iaload, 1) := by decide +kernel
theorem dL_law_405 : decode cL_law 405 = .ok (.invokevirtual 40, 3) := by decide +kernel
theorem dL_law_408 : decode cL_law 408 = .ok (.aload_n 2, 1) := by decide +kernel
theorem dL_law_409 : decode cL_law 409 = .ok (.aload_n 0, 1) := by decide +kernel
theorem dL_law_410 : decode cL_law 410 = .ok (.iload_n 3, 1) := by decide +kernel
theorem dL_law_411 : decode cL_law 411 = .ok (.iconst 1, 1) := by decide +kernel
theorem dL_law_412 : decode cL_law 412 = .ok (.iadd, 1) := by decide +kernel
theorem dL_law_413 : decode cL_law 413 = .ok (.iaload, 1) := by decide +kernel
theorem dL_law_414 : decode cL_law 414 = .ok (.aload_n 0, 1) := by decide +kernel
theorem dL_law_415 : decode cL_law 415 = .ok (.iload_n 3, 1) := by decide +kernel
theorem dL_law_416 : decode cL_law 416 = .ok (.iconst 2, 1) := by decide +kernel
theorem dL_law_417 : decode cL_law 417 = .ok (.iadd, 1) := by decide +kernel
theorem dL_law_418 : decode cL_law 418 = .ok (.iaload, 1) := by decide +kernel
theorem dL_law_419 : decode cL_law 419 = .ok (.invokevirtual 43, 3) := by decide +kernel
theorem dL_law_422 : decode cL_law 422 = .ok (.if_icmp .eq 835, 3) := by decide +kernel
theorem dL_law_425 : decode cL_law 425 = .ok (.iconst 0, 1) := by decide +kernel
theorem dL_law_426 : decode cL_law 426 = .ok (.ireturn, 1) := by decide +kernel
theorem dL_law_427 : decode cL_law 427 = .ok (.aload_n 1, 1) := by decide +kernel
theorem dL_law_428 : decode cL_law 428 = .ok (.aload_n 0, 1) := by decide +kernel
theorem dL_law_429 : decode cL_law 429 = .ok (.iload_n 3, 1) := by decide +kernel
theorem dL_law_430 : decode cL_law 430 = .ok (.iconst 1, 1) := by decide +kernel
theorem dL_law_431 : decode cL_law 431 = .ok (.iadd, 1) := by decide +kernel
theorem dL_law_432 : decode cL_law 432 = .ok (.iaload, 1) := by decide +kernel
theorem dL_law_433 : decode cL_law 433 = .ok (.invokevirtual 44, 3) := by decide +kernel
theorem dL_law_436 : decode cL_law 436 = .ok (.aload_n 2, 1) := by decide +kernel
theorem dL_law_437 : decode cL_law 437 = .ok (.aload_n 0, 1) := by decide +kernel
theorem dL_law_438 : decode cL_law 438 = .ok (.iload_n 3, 1) := by decide +kernel
theorem dL_law_439 : decode cL_law 439 = .ok (.iconst 1, 1) := by decide +kernel
theorem dL_law_440 : decode cL_law 440 = .ok (.iadd, 1) := by decide +kernel
theorem dL_law_441 : decode cL_law 441 = .ok (.iaload, 1) := by decide +kernel
theorem dL_law_442 : decode cL_law 442 = .ok (.invokevirtual 47, 3) := by decide +kernel
theorem dL_law_445 : decode cL_law 445 = .ok (.if_icmp .eq 812, 3) := by decide +kernel
theorem dL_law_448 : decode cL_law 448 = .ok (.iconst 0, 1) := by decide +kernel
theorem dL_law_449 : decode cL_law 449 = .ok (.ireturn, 1) := by decide +kernel
theorem dL_law_450 : decode cL_law 450 = .ok (.aload_n 1, 1) := by decide +kernel
theorem dL_law_451 : decode cL_law 451 = .ok (.aload_n 0, 1) := by decide +kernel
theorem dL_law_452 : decode cL_law 452 = .ok (.iload_n 3, 1) := by decide +kernel
theorem dL_law_453 : decode cL_law 453 = .ok (.iconst 1, 1) := by decide +kernel
theorem dL_law_454 : decode cL_law 454 = .ok (.iadd, 1) := by decide +kernel
theorem dL_law_455 : decode cL_law 455 = .ok (.iaload, 1) := by decide +kernel
theorem dL_law_456 : decode cL_law 456 = .ok (.i2l, 1) := by decide +kernel
theorem dL_law_457 : decode cL_law 457 = .ok (.bipush 32, 2) := by decide +kernel
theorem dL_law_459 : decode cL_law 459 = .ok (.lshl, 1) := by decide +kernel
theorem dL_law_460 : decode cL_law 460 = .ok (.aload_n 0, 1) := by decide +kernel
theorem dL_law_461 : decode cL_law 461 = .ok (.iload_n 3, 1) := by decide +kernel
theorem dL_law_462 : decode cL_law 462 = .ok (.iconst 2, 1) := by decide +kernel
theorem dL_law_463 : decode cL_law 463 = .ok (.iadd, 1) := by decide +kernel
theorem dL_law_464 : decode cL_law 464 = .ok (.iaload, 1) := by decide +kernel
theorem dL_law_465 : decode cL_law 465 = .ok (.i2l, 1) := by decide +kernel
theorem dL_law_466 : decode cL_law 466 = .ok (.ldc2_w 48, 3) := by decide +kernel
theorem dL_law_469 : decode cL_law 469 = .ok (.land, 1) := by decide +kernel
theorem dL_law_470 : decode cL_law 470 = .ok (.lor, 1) := by decide +kernel
theorem dL_law_471 : decode cL_law 471 = .ok (.aload_n 0, 1) := by decide +kernel
theorem dL_law_472 : decode cL_law 472 = .ok (.iload_n 3, 1) := by decide +kernel
theorem dL_law_473 : decode cL_law 473 = .ok (.iconst 3, 1) := by decide +kernel
theorem dL_law_474 : decode cL_law 474 = .ok (.iadd, 1) := by decide +kernel
theorem dL_law_475 : decode cL_law 475 = .ok (.iaload, 1) := by decide +kernel
theorem dL_law_476 : decode cL_law 476 = .ok (.invokevirtual 50, 3) := by decide +kernel
theorem dL_law_479 : decode cL_law 479 = .ok (.aload_n 2, 1) := by decide +kernel
theorem dL_law_480 : decode cL_law 480 = .ok (.aload_n 0, 1) := by decide +kernel
theorem dL_law_481 : decode cL_law 481 = .ok (.iload_n 3, 1) := by decide +kernel
theorem dL_law_482 : decode cL_law 482 = .ok (.iconst 1, 1) := by decide +kernel
theorem dL_law_483 : decode cL_law 483 = .ok (.iadd, 1) := by decide +kernel
theorem dL_law_484 : decode cL_law 484 = .ok (.iaload, 1) := by decide +kernel
theorem dL_law_485 : decode cL_law 485 = .ok (.i2l, 1) := by decide +kernel
theorem dL_law_486 : decode cL_law 486 = .ok (.bipush 32, 2) := by decide +kernel
theorem dL_law_488 : decode cL_law 488 = .ok (.lshl, 1) := by decide +kernel
theorem dL_law_489 : decode cL_law 489 = .ok (.aload_n 0, 1) := by decide +kernel
theorem dL_law_490 : decode cL_law 490 = .ok (.iload_n 3, 1) := by decide +kernel
theorem dL_law_491 : decode cL_law 491 = .ok (.iconst 2, 1) := by decide +kernel
theorem dL_law_492 : decode cL_law 492 = .ok (.iadd, 1) := by decide +kernel
theorem dL_law_493 : decode cL_law 493 = .ok (.iaload, 1) := by decide +kernel
theorem dL_law_494 : decode cL_law 494 = .ok (.i2l, 1) := by decide +kernel
theorem dL_law_495 : decode cL_law 495 = .ok (.ldc2_w 48, 3) := by decide +kernel
theorem dL_law_498 : decode cL_law 498 = .ok (.land, 1) := by decide +kernel
theorem dL_law_499 : decode cL_law 499 = .ok (.lor, 1) := by decide +kernel
theorem dL_law_500 : decode cL_law 500 = .ok (.aload_n 0, 1) := by decide +kernel
theorem dL_law_501 : decode cL_law 501 = .ok (.iload_n 3, 1) := by decide +kernel
theorem dL_law_502 : decode cL_law 502 = .ok (.iconst 3, 1) := by decide +kernel
theorem dL_law_503 : decode cL_law 503 = .ok (.iadd, 1) := by decide +kernel
theorem dL_law_504 : decode cL_law 504 = .ok (.iaload, 1) := by decide +kernel
theorem dL_law_505 : decode cL_law 505 = .ok (.invokevirtual 54, 3) := by decide +kernel
theorem dL_law_508 : decode cL_law 508 = .ok (.if_icmp .eq 749, 3) := by decide +kernel
theorem dL_law_511 : decode cL_law 511 = .ok (.iconst 0, 1) := by decide +kernel
theorem dL_law_512 : decode cL_law 512 = .ok (.ireturn, 1) := by decide +kernel
theorem dL_law_513 : decode cL_law 513 = .ok (.aload_n 1, 1) := by decide +kernel
theorem dL_law_514 : decode cL_law 514 = .ok (.aload_n 0, 1) := by decide +kernel
theorem dL_law_515 : decode cL_law 515 = .ok (.iload_n 3, 1) := by decide +kernel
theorem dL_law_516 : decode cL_law 516 = .ok (.iconst 1, 1) := by decide +kernel
theorem dL_law_517 : decode cL_law 517 = .ok (.iadd, 1) := by decide +kernel
theorem dL_law_518 : decode cL_law 518 = .ok (.iaload, 1) := by decide +kernel
theorem dL_law_519 : decode cL_law 519 = .ok (.invokevirtual 55, 3) := by decide +kernel
theorem dL_law_522 : decode cL_law 522 = .ok (.aload_n 2, 1) := by decide +kernel
theorem dL_law_523 : decode cL_law 523 = .ok (.aload_n 0, 1) := by decide +kernel
theorem dL_law_524 : decode cL_law 524 = .ok (.iload_n 3, 1) := by decide +kernel
theorem dL_law_525 : decode cL_law 525 = .ok (.iconst 1, 1) := by decide +kernel
theorem dL_law_526 : decode cL_law 526 = .ok (.iadd, 1) := by decide +kernel
theorem dL_law_527 : decode cL_law 527 = .ok (.iaload, 1) := by decide +kernel
theorem dL_law_528 : decode cL_law 528 = .ok (.invokevirtual 58, 3) := by decide +kernel
theorem dL_law_531 : decode cL_law 531 = .ok (.if_icmp .eq 726, 3) := by decide +kernel
theorem dL_law_534 : decode cL_law 534 = .ok (.iconst 0, 1) := by decide +kernel
theorem dL_law_535 : decode cL_law 535 = .ok (.ireturn, 1) := by decide +kernel
theorem dL_law_536 : decode cL_law 536 = .ok (.aload_n 1, 1) := by decide +kernel
theorem dL_law_537 : decode cL_law 537 = .ok (.aload_n 0, 1) := by decide +kernel
theorem dL_law_538 : decode cL_law 538 = .ok (.iload_n 3, 1) := by decide +kernel
theorem dL_law_539 : decode cL_law 539 = .ok (.iconst 1, 1) := by decide +kernel
theorem dL_law_540 : decode cL_law 540 = .ok (.iadd, 1) := by decide +kernel
theorem dL_law_541 : decode cL_law 541 = .ok (.iaload, 1) := by decide +kernel
theorem dL_law_542 : decode cL_law 542 = .ok (.invokevirtual 59, 3) := by decide +kernel
theorem dL_law_545 : decode cL_law 545 = .ok (.aload_n 2, 1) := by decide +kernel
theorem dL_law_546 : decode cL_law 546 = .ok (.aload_n 0, 1) := by decide +kernel
theorem dL_law_547 : decode cL_law 547 = .ok (.iload_n 3, 1) := by decide +kernel
theorem dL_law_548 : decode cL_law 548 = .ok (.iconst 1, 1) := by decide +kernel
theorem dL_law_549 : decode cL_law 549 = .ok (.iadd, 1) := by decide +kernel
theorem dL_law_550 : decode cL_law 550 = .ok (.iaload, 1) := by decide +kernel
theorem dL_law_551 : decode cL_law 551 = .ok (.invokevirtual 62, 3) := by decide +kernel
theorem dL_law_554 : decode cL_law 554 = .ok (.if_icmp .eq 703, 3) := by decide +kernel
theorem dL_law_557 : decode cL_law 557 = .ok (.iconst 0, 1) := by decide +kernel
theorem dL_law_558 : decode cL_law 558 = .ok (.ireturn, 1) := by decide +kernel
theorem dL_law_559 : decode cL_law 559 = .ok (.aload_n 1, 1) := by decide +kernel
theorem dL_law_560 : decode cL_law 560 = .ok (.aload_n 0, 1) := by decide +kernel
theorem dL_law_561 : decode cL_law 561 = .ok (.iload_n 3, 1) := by decide +kernel
theorem dL_law_562 : decode cL_law 562 = .ok (.iconst 1, 1) := by decide +kernel
theorem dL_law_563 : decode cL_law 563 = .ok (.iadd, 1) := by decide +kernel
theorem dL_law_564 : decode cL_law 564 = .ok (.iaload, 1) := by decide +kernel
theorem dL_law_565 : decode cL_law 565 = .ok (.aload_n 0, 1) := by decide +kernel
theorem dL_law_566 : decode cL_law 566 = .ok (.iload_n 3, 1) := by decide +kernel
theorem dL_law_567 : decode cL_law 567 = .ok (.iconst 2, 1) := by decide +kernel
theorem dL_law_568 : decode cL_law 568 = .ok (.iadd, 1) := by decide +kernel
theorem dL_law_569 : decode cL_law 569 = .ok (.iaload, 1) := by decide +kernel
theorem dL_law_570 : decode cL_law 570 = .ok (.aload_n 0, 1) := by decide +kernel
theorem dL_law_571 : decode cL_law 571 = .ok (.iload_n 3, 1) := by decide +kernel
theorem dL_law_572 : decode cL_law 572 = .ok (.iconst 3, 1) := by decide +kernel
theorem dL_law_573 : decode cL_law 573 = .ok (.iadd, 1) := by decide +kernel
theorem dL_law_574 : decode cL_law 574 = .ok (.iaload, 1) := by decide +kernel
theorem dL_law_575 : decode cL_law 575 = .ok (.aload_n 0, 1) := by decide +kernel
theorem dL_law_576 : decode cL_law 576 = .ok (.iload_n 3, 1) := by decide +kernel
theorem dL_law_577 : decode cL_law 577 = .ok (.iconst 4, 1) := by decide +kernel
theorem dL_law_578 : decode cL_law 578 = .ok (.iadd, 1) := by decide +kernel
theorem dL_law_579 : decode cL_law 579 = .ok (.iaload, 1) := by decide +kernel
theorem dL_law_580 : decode cL_law 580 = .ok (.invokevirtual 63, 3) := by decide +kernel
theorem dL_law_583 : decode cL_law 583 = .ok (.aload_n 2, 1) := by decide +kernel
theorem dL_law_584 : decode cL_law 584 = .ok (.aload_n 0, 1) := by decide +kernel
theorem dL_law_585 : decode cL_law 585 = .ok (.iload_n 3, 1) := by decide +kernel
theorem dL_law_586 : decode cL_law 586 = .ok (.iconst 1, 1) := by decide +kernel
theorem dL_law_587 : decode cL_law 587 = .ok (.iadd, 1) := by decide +kernel
theorem dL_law_588 : decode cL_law 588 = .ok (.iaload, 1) := by decide +kernel
theorem dL_law_589 : decode cL_law 589 = .ok (.aload_n 0, 1) := by decide +kernel
theorem dL_law_590 : decode cL_law 590 = .ok (.iload_n 3, 1) := by decide +kernel
theorem dL_law_591 : decode cL_law 591 = .ok (.iconst 2, 1) := by decide +kernel
theorem dL_law_592 : decode cL_law 592 = .ok (.iadd, 1) := by decide +kernel
theorem dL_law_593 : decode cL_law 593 = .ok (.iaload, 1) := by decide +kernel
theorem dL_law_594 : decode cL_law 594 = .ok (.aload_n 0, 1) := by decide +kernel
theorem dL_law_595 : decode cL_law 595 = .ok (.iload_n 3, 1) := by decide +kernel
theorem dL_law_596 : decode cL_law 596 = .ok (.iconst 3, 1) := by decide +kernel
theorem dL_law_597 : decode cL_law 597 = .ok (.iadd, 1) := by decide +kernel
theorem dL_law_598 : decode cL_law 598 = .ok (.iaload, 1) := by decide +kernel
theorem dL_law_599 : decode cL_law 599 = .ok (.aload_n 0, 1) := by decide +kernel
theorem dL_law_600 : decode cL_law 600 = .ok (.iload_n 3, 1) := by decide +kernel
theorem dL_law_601 : decode cL_law 601 = .ok (.iconst 4, 1) := by decide +kernel
theorem dL_law_602 : decode cL_law 602 = .ok (.iadd, 1) := by decide +kernel
theorem dL_law_603 : decode cL_law 603 = .ok (.iaload, 1) := by decide +kernel
theorem dL_law_604 : decode cL_law 604 = .ok (.invokevirtual 67, 3) := by decide +kernel
theorem dL_law_607 : decode cL_law 607 = .ok (.if_icmp .eq 650, 3) := by decide +kernel
theorem dL_law_610 : decode cL_law 610 = .ok (.iconst 0, 1) := by decide +kernel
theorem dL_law_611 : decode cL_law 611 = .ok (.ireturn, 1) := by decide +kernel
theorem dL_law_612 : decode cL_law 612 = .ok (.aload_n 1, 1) := by decide +kernel
theorem dL_law_613 : decode cL_law 613 = .ok (.aload_n 0, 1) := by decide +kernel
theorem dL_law_614 : decode cL_law 614 = .ok (.iload_n 3, 1) := by decide +kernel
theorem dL_law_615 : decode cL_law 615 = .ok (.iconst 1, 1) := by decide +kernel
theorem dL_law_616 : decode cL_law 616 = .ok (.iadd, 1) := by decide +kernel
theorem dL_law_617 : decode cL_law 617 = .ok (.iaload, 1) := by decide +kernel
theorem dL_law_618 : decode cL_law 618 = .ok (.invokevirtual 68, 3) := by decide +kernel
theorem dL_law_621 : decode cL_law 621 = .ok (.aload_n 2, 1) := by decide +kernel
theorem dL_law_622 : decode cL_law 622 = .ok (.aload_n 0, 1) := by decide +kernel
theorem dL_law_623 : decode cL_law 623 = .ok (.iload_n 3, 1) := by decide +kernel
theorem dL_law_624 : decode cL_law 624 = .ok (.iconst 1, 1) := by decide +kernel
theorem dL_law_625 : decode cL_law 625 = .ok (.iadd, 1) := by decide +kernel
theorem dL_law_626 : decode cL_law 626 = .ok (.iaload, 1) := by decide +kernel
theorem dL_law_627 : decode cL_law 627 = .ok (.invokevirtual 71, 3) := by decide +kernel
theorem dL_law_630 : decode cL_law 630 = .ok (.if_icmp .eq 627, 3) := by decide +kernel
theorem dL_law_633 : decode cL_law 633 = .ok (.iconst 0, 1) := by decide +kernel
theorem dL_law_634 : decode cL_law 634 = .ok (.ireturn, 1) := by decide +kernel
theorem dL_law_635 : decode cL_law 635 = .ok (.aload_n 1, 1) := by decide +kernel
theorem dL_law_636 : decode cL_law 636 = .ok (.aload_n 0, 1) := by decide +kernel
theorem dL_law_637 : decode cL_law 637 = .ok (.iload_n 3, 1) := by decide +kernel
theorem dL_law_638 : decode cL_law 638 = .ok (.iconst 1, 1) := by decide +kernel
theorem dL_law_639 : decode cL_law 639 = .ok (.iadd, 1) := by decide +kernel
theorem dL_law_640 : decode cL_law 640 = .ok (.iaload, 1) := by decide +kernel
theorem dL_law_641 : decode cL_law 641 = .ok (.invokevirtual 72, 3) := by decide +kernel
theorem dL_law_644 : decode cL_law 644 = .ok (.aload_n 2, 1) := by decide +kernel
theorem dL_law_645 : decode cL_law 645 = .ok (.aload_n 0, 1) := by decide +kernel
theorem dL_law_646 : decode cL_law 646 = .ok (.iload_n 3, 1) := by decide +kernel
theorem dL_law_647 : decode cL_law 647 = .ok (.iconst 1, 1) := by decide +kernel
theorem dL_law_648 : decode cL_law 648 = .ok (.iadd, 1) := by decide +kernel
theorem dL_law_649 : decode cL_law 649 = .ok (.iaload, 1) := by decide +kernel
theorem dL_law_650 : decode cL_law 650 = .ok (.invokevirtual 75, 3) := by decide +kernel
theorem dL_law_653 : decode cL_law 653 = .ok (.if_icmp .eq 604, 3) := by decide +kernel
theorem dL_law_656 : decode cL_law 656 = .ok (.iconst 0, 1) := by decide +kernel
theorem dL_law_657 : decode cL_law 657 = .ok (.ireturn, 1) := by decide +kernel
theorem dL_law_658 : decode cL_law 658 = .ok (.aload_n 1, 1) := by decide +kernel
theorem dL_law_659 : decode cL_law 659 = .ok (.aload_n 0, 1) := by decide +kernel
theorem dL_law_660 : decode cL_law 660 = .ok (.iload_n 3, 1) := by decide +kernel
theorem dL_law_661 : decode cL_law 661 = .ok (.iconst 1, 1) := by decide +kernel
theorem dL_law_662 : decode cL_law 662 = .ok (.iadd, 1) := by decide +kernel
theorem dL_law_663 : decode cL_law 663 = .ok (.iaload, 1) := by decide +kernel
theorem dL_law_664 : decode cL_law 664 = .ok (.invokevirtual 76, 3) := by decide +kernel
theorem dL_law_667 : decode cL_law 667 = .ok (.aload_n 2, 1) := by decide +kernel
theorem dL_law_668 : decode cL_law 668 = .ok (.aload_n 0, 1) := by decide +kernel
theorem dL_law_669 : decode cL_law 669 = .ok (.iload_n 3, 1) := by decide +kernel
theorem dL_law_670 : decode cL_law 670 = .ok (.iconst 1, 1) := by decide +kernel
theorem dL_law_671 : decode cL_law 671 = .ok (.iadd, 1) := by decide +kernel
theorem dL_law_672 : decode cL_law 672 = .ok (.iaload, 1) := by decide +kernel
theorem dL_law_673 : decode cL_law 673 = .ok (.invokevirtual 79, 3) := by decide +kernel
theorem dL_law_676 : decode cL_law 676 = .ok (.if_icmp .eq 581, 3) := by decide +kernel
theorem dL_law_679 : decode cL_law 679 = .ok (.iconst 0, 1) := by decide +kernel
theorem dL_law_680 : decode cL_law 680 = .ok (.ireturn, 1) := by decide +kernel
theorem dL_law_681 : decode cL_law 681 = .ok (.aload_n 1, 1) := by decide +kernel
theorem dL_law_682 : decode cL_law 682 = .ok (.aload_n 0, 1) := by decide +kernel
theorem dL_law_683 : decode cL_law 683 = .ok (.iload_n 3, 1) := by decide +kernel
theorem dL_law_684 : decode cL_law 684 = .ok (.iconst 1, 1) := by decide +kernel
theorem dL_law_685 : decode cL_law 685 = .ok (.iadd, 1) := by decide +kernel
theorem dL_law_686 : decode cL_law 686 = .ok (.iaload, 1) := by decide +kernel
theorem dL_law_687 : decode cL_law 687 = .ok (.invokevirtual 80, 3) := by decide +kernel
theorem dL_law_690 : decode cL_law 690 = .ok (.aload_n 2, 1) := by decide +kernel
theorem dL_law_691 : decode cL_law 691 = .ok (.aload_n 0, 1) := by decide +kernel
theorem dL_law_692 : decode cL_law 692 = .ok (.iload_n 3, 1) := by decide +kernel
theorem dL_law_693 : decode cL_law 693 = .ok (.iconst 1, 1) := by decide +kernel
theorem dL_law_694 : decode cL_law 694 = .ok (.iadd, 1) := by decide +kernel
theorem dL_law_695 : decode cL_law 695 = .ok (.iaload, 1) := by decide +kernel
theorem dL_law_696 : decode cL_law 696 = .ok (.invokevirtual 83, 3) := by decide +kernel
theorem dL_law_699 : decode cL_law 699 = .ok (.if_icmp .eq 558, 3) := by decide +kernel
theorem dL_law_702 : decode cL_law 702 = .ok (.iconst 0, 1) := by decide +kernel
theorem dL_law_703 : decode cL_law 703 = .ok (.ireturn, 1) := by decide +kernel
theorem dL_law_704 : decode cL_law 704 = .ok (.aload_n 1, 1) := by decide +kernel
theorem dL_law_705 : decode cL_law 705 = .ok (.aload_n 0, 1) := by decide +kernel
theorem dL_law_706 : decode cL_law 706 = .ok (.iload_n 3, 1) := by decide +kernel
theorem dL_law_707 : decode cL_law 707 = .ok (.iconst 1, 1) := by decide +kernel
theorem dL_law_708 : decode cL_law 708 = .ok (.iadd, 1) := by decide +kernel
theorem dL_law_709 : decode cL_law 709 = .ok (.iaload, 1) := by decide +kernel
theorem dL_law_710 : decode cL_law 710 = .ok (.invokevirtual 84, 3) := by decide +kernel
theorem dL_law_713 : decode cL_law 713 = .ok (.aload_n 2, 1) := by decide +kernel
theorem dL_law_714 : decode cL_law 714 = .ok (.aload_n 0, 1) := by decide +kernel
theorem dL_law_715 : decode cL_law 715 = .ok (.iload_n 3, 1) := by decide +kernel
theorem dL_law_716 : decode cL_law 716 = .ok (.iconst 1, 1) := by decide +kernel
theorem dL_law_717 : decode cL_law 717 = .ok (.iadd, 1) := by decide +kernel
theorem dL_law_718 : decode cL_law 718 = .ok (.iaload, 1) := by decide +kernel
theorem dL_law_719 : decode cL_law 719 = .ok (.invokevirtual 87, 3) := by decide +kernel
theorem dL_law_722 : decode cL_law 722 = .ok (.if_icmp .eq 535, 3) := by decide +kernel
theorem dL_law_725 : decode cL_law 725 = .ok (.iconst 0, 1) := by decide +kernel
theorem dL_law_726 : decode cL_law 726 = .ok (.ireturn, 1) := by decide +kernel
theorem dL_law_727 : decode cL_law 727 = .ok (.aload_n 1, 1) := by decide +kernel
theorem dL_law_728 : decode cL_law 728 = .ok (.invokevirtual 88, 3) := by decide +kernel
theorem dL_law_731 : decode cL_law 731 = .ok (.aload_n 2, 1) := by decide +kernel
theorem dL_law_732 : decode cL_law 732 = .ok (.invokevirtual 92, 3) := by decide +kernel
theorem dL_law_735 : decode cL_law 735 = .ok (.if_icmp .eq 522, 3) := by decide +kernel
theorem dL_law_738 : decode cL_law 738 = .ok (.iconst 0, 1) := by decide +kernel
theorem dL_law_739 : decode cL_law 739 = .ok (.ireturn, 1) := by decide +kernel
theorem dL_law_740 : decode cL_law 740 = .ok (.aload_n 1, 1) := by decide +kernel
theorem dL_law_741 : decode cL_law 741 = .ok (.aload_n 0, 1) := by decide +kernel
theorem dL_law_742 : decode cL_law 742 = .ok (.iload_n 3, 1) := by decide +kernel
theorem dL_law_743 : decode cL_law 743 = .ok (.iconst 1, 1) := by decide +kernel
theorem dL_law_744 : decode cL_law 744 = .ok (.iadd, 1) := by decide +kernel
theorem dL_law_745 : decode cL_law 745 = .ok (.iaload, 1) := by decide +kernel
theorem dL_law_746 : decode cL_law 746 = .ok (.aload_n 0, 1) := by decide +kernel
theorem dL_law_747 : decode cL_law 747 = .ok (.iload_n 3, 1) := by decide +kernel
theorem dL_law_748 : decode cL_law 748 = .ok (.iconst 2, 1) := by decide +kernel
theorem dL_law_749 : decode cL_law 749 = .ok (.iadd, 1) := by decide +kernel
theorem dL_law_750 : decode cL_law 750 = .ok (.iaload, 1) := by decide +kernel
theorem dL_law_751 : decode cL_law 751 = .ok (.invokevirtual 93, 3) := by decide +kernel
theorem dL_law_754 : decode cL_law 754 = .ok (.aload_n 2, 1) := by decide +kernel
theorem dL_law_755 : decode cL_law 755 = .ok (.aload_n 0, 1) := by decide +kernel
theorem dL_law_756 : decode cL_law 756 = .ok (.iload_n 3, 1) := by decide +kernel
theorem dL_law_757 : decode cL_law 757 = .ok (.iconst 1, 1) := by decide +kernel
theorem dL_law_758 : decode cL_law 758 = .ok (.iadd, 1) := by decide +kernel
theorem dL_law_759 : decode cL_law 759 = .ok (.iaload, 1) := by decide +kernel
theorem dL_law_760 : decode cL_law 760 = .ok (.aload_n 0, 1) := by decide +kernel
theorem dL_law_761 : decode cL_law 761 = .ok (.iload_n 3, 1) := by decide +kernel
theorem dL_law_762 : decode cL_law 762 = .ok (.iconst 2, 1) := by decide +kernel
theorem dL_law_763 : decode cL_law 763 = .ok (.iadd, 1) := by decide +kernel
theorem dL_law_764 : decode cL_law 764 = .ok (.iaload, 1) := by decide +kernel
theorem dL_law_765 : decode cL_law 765 = .ok (.invokevirtual 96, 3) := by decide +kernel
theorem dL_law_768 : decode cL_law 768 = .ok (.if_icmp .eq 489, 3) := by decide +kernel
theorem dL_law_771 : decode cL_law 771 = .ok (.iconst 0, 1) := by decide +kernel
theorem dL_law_772 : decode cL_law 772 = .ok (.ireturn, 1) := by decide +kernel
theorem dL_law_773 : decode cL_law 773 = .ok (.aload_n 1, 1) := by decide +kernel
theorem dL_law_774 : decode cL_law 774 = .ok (.aload_n 0, 1) := by decide +kernel
theorem dL_law_775 : decode cL_law 775 = .ok (.iload_n 3, 1) := by decide +kernel
theorem dL_law_776 : decode cL_law 776 = .ok (.iconst 1, 1) := by decide +kernel
theorem dL_law_777 : decode cL_law 777 = .ok (.iadd, 1) := by decide +kernel
theorem dL_law_778 : decode cL_law 778 = .ok (.iaload, 1) := by decide +kernel
theorem dL_law_779 : decode cL_law 779 = .ok (.invokevirtual 97, 3) := by decide +kernel
theorem dL_law_782 : decode cL_law 782 = .ok (.aload_n 2, 1) := by decide +kernel
theorem dL_law_783 : decode cL_law 783 = .ok (.aload_n 0, 1) := by decide +kernel
theorem dL_law_784 : decode cL_law 784 = .ok (.iload_n 3, 1) := by decide +kernel
theorem dL_law_785 : decode cL_law 785 = .ok (.iconst 1, 1) := by decide +kernel
theorem dL_law_786 : decode cL_law 786 = .ok (.iadd, 1) := by decide +kernel
theorem dL_law_787 : decode cL_law 787 = .ok (.iaload, 1) := by decide +kernel
theorem dL_law_788 : decode cL_law 788 = .ok (.invokevirtual 100, 3) := by decide +kernel
theorem dL_law_791 : decode cL_law 791 = .ok (.if_icmp .eq 466, 3) := by decide +kernel
theorem dL_law_794 : decode cL_law 794 = .ok (.iconst 0, 1) := by decide +kernel
theorem dL_law_795 : decode cL_law 795 = .ok (.ireturn, 1) := by decide +kernel
theorem dL_law_796 : decode cL_law 796 = .ok (.aload_n 1, 1) := by decide +kernel
theorem dL_law_797 : decode cL_law 797 = .ok (.invokevirtual 101, 3) := by decide +kernel
theorem dL_law_800 : decode cL_law 800 = .ok (.aload_n 2, 1) := by decide +kernel
theorem dL_law_801 : decode cL_law 801 = .ok (.invokevirtual 104, 3) := by decide +kernel
theorem dL_law_804 : decode cL_law 804 = .ok (.if_icmp .eq 453, 3) := by decide +kernel
theorem dL_law_807 : decode cL_law 807 = .ok (.iconst 0, 1) := by decide +kernel
theorem dL_law_808 : decode cL_law 808 = .ok (.ireturn, 1) := by decide +kernel
theorem dL_law_809 : decode cL_law 809 = .ok (.aload_n 1, 1) := by decide +kernel
theorem dL_law_810 : decode cL_law 810 = .ok (.aload_n 0, 1) := by decide +kernel
theorem dL_law_811 : decode cL_law 811 = .ok (.iload_n 3, 1) := by decide +kernel
theorem dL_law_812 : decode cL_law 812 = .ok (.iconst 1, 1) := by decide +kernel
theorem dL_law_813 : decode cL_law 813 = .ok (.iadd, 1) := by decide +kernel
theorem dL_law_814 : decode cL_law 814 = .ok (.iaload, 1) := by decide +kernel
theorem dL_law_815 : decode cL_law 815 = .ok (.aload_n 0, 1) := by decide +kernel
theorem dL_law_816 : decode cL_law 816 = .ok (.iload_n 3, 1) := by decide +kernel
theorem dL_law_817 : decode cL_law 817 = .ok (.iconst 2, 1) := by decide +kernel
theorem dL_law_818 : decode cL_law 818 = .ok (.iadd, 1) := by decide +kernel
theorem dL_law_819 : decode cL_law 819 = .ok (.iaload, 1) := by decide +kernel
theorem dL_law_820 : decode cL_law 820 = .ok (.invokevirtual 105, 3) := by decide +kernel
theorem dL_law_823 : decode cL_law 823 = .ok (.aload_n 2, 1) := by decide +kernel
theorem dL_law_824 : decode cL_law 824 = .ok (.aload_n 0, 1) := by decide +kernel
theorem dL_law_825 : decode cL_law 825 = .ok (.iload_n 3, 1) := by decide +kernel
theorem dL_law_826 : decode cL_law 826 = .ok (.iconst 1, 1) := by decide +kernel
theorem dL_law_827 : decode cL_law 827 = .ok (.iadd, 1) := by decide +kernel
theorem dL_law_828 : decode cL_law 828 = .ok (.iaload, 1) := by decide +kernel
theorem dL_law_829 : decode cL_law 829 = .ok (.aload_n 0, 1) := by decide +kernel
theorem dL_law_830 : decode cL_law 830 = .ok (.iload_n 3, 1) := by decide +kernel
theorem dL_law_831 : decode cL_law 831 = .ok (.iconst 2, 1) := by decide +kernel
theorem dL_law_832 : decode cL_law 832 = .ok (.iadd, 1) := by decide +kernel
theorem dL_law_833 : decode cL_law 833 = .ok (.iaload, 1) := by decide +kernel
theorem dL_law_834 : decode cL_law 834 = .ok (.invokevirtual 108, 3) := by decide +kernel
theorem dL_law_837 : decode cL_law 837 = .ok (.if_icmp .eq 420, 3) := by decide +kernel
theorem dL_law_840 : decode cL_law 840 = .ok (.iconst 0, 1) := by decide +kernel
theorem dL_law_841 : decode cL_law 841 = .ok (.ireturn, 1) := by decide +kernel
theorem dL_law_842 : decode cL_law 842 = .ok (.aload_n 1, 1) := by decide +kernel
theorem dL_law_843 : decode cL_law 843 = .ok (.aload_n 0, 1) := by decide +kernel
theorem dL_law_844 : decode cL_law 844 = .ok (.iload_n 3, 1) := by decide +kernel
theorem dL_law_845 : decode cL_law 845 = .ok (.iconst 1, 1) := by decide +kernel
theorem dL_law_846 : decode cL_law 846 = .ok (.iadd, 1) := by decide +kernel
theorem dL_law_847 : decode cL_law 847 = .ok (.iaload, 1) := by decide +kernel
theorem dL_law_848 : decode cL_law 848 = .ok (.invokevirtual 109, 3) := by decide +kernel
theorem dL_law_851 : decode cL_law 851 = .ok (.aload_n 2, 1) := by decide +kernel
theorem dL_law_852 : decode cL_law 852 = .ok (.aload_n 0, 1) := by decide +kernel
theorem dL_law_853 : decode cL_law 853 = .ok (.iload_n 3, 1) := by decide +kernel
theorem dL_law_854 : decode cL_law 854 = .ok (.iconst 1, 1) := by decide +kernel
theorem dL_law_855 : decode cL_law 855 = .ok (.iadd, 1) := by decide +kernel
theorem dL_law_856 : decode cL_law 856 = .ok (.iaload, 1) := by decide +kernel
theorem dL_law_857 : decode cL_law 857 = .ok (.invokevirtual 112, 3) := by decide +kernel
theorem dL_law_860 : decode cL_law 860 = .ok (.if_icmp .eq 397, 3) := by decide +kernel
theorem dL_law_863 : decode cL_law 863 = .ok (.iconst 0, 1) := by decide +kernel
theorem dL_law_864 : decode cL_law 864 = .ok (.ireturn, 1) := by decide +kernel
theorem dL_law_865 : decode cL_law 865 = .ok (.aload_n 1, 1) := by decide +kernel
theorem dL_law_866 : decode cL_law 866 = .ok (.aload_n 0, 1) := by decide +kernel
theorem dL_law_867 : decode cL_law 867 = .ok (.iload_n 3, 1) := by decide +kernel
theorem dL_law_868 : decode cL_law 868 = .ok (.iconst 1, 1) := by decide +kernel
theorem dL_law_869 : decode cL_law 869 = .ok (.iadd, 1) := by decide +kernel
theorem dL_law_870 : decode cL_law 870 = .ok (.iaload, 1) := by decide +kernel
theorem dL_law_871 : decode cL_law 871 = .ok (.invokevirtual 113, 3) := by decide +kernel
theorem dL_law_874 : decode cL_law 874 = .ok (.aload_n 2, 1) := by decide +kernel
theorem dL_law_875 : decode cL_law 875 = .ok (.aload_n 0, 1) := by decide +kernel
theorem dL_law_876 : decode cL_law 876 = .ok (.iload_n 3, 1) := by decide +kernel
theorem dL_law_877 : decode cL_law 877 = .ok (.iconst 1, 1) := by decide +kernel
theorem dL_law_878 : decode cL_law 878 = .ok (.iadd, 1) := by decide +kernel
theorem dL_law_879 : decode cL_law 879 = .ok (.iaload, 1) := by decide +kernel
theorem dL_law_880 : decode cL_law 880 = .ok (.invokevirtual 116, 3) := by decide +kernel
theorem dL_law_883 : decode cL_law 883 = .ok (.if_icmp .eq 374, 3) := by decide +kernel
theorem dL_law_886 : decode cL_law 886 = .ok (.iconst 0, 1) := by decide +kernel
theorem dL_law_887 : decode cL_law 887 = .ok (.ireturn, 1) := by decide +kernel
theorem dL_law_888 : decode cL_law 888 = .ok (.aload_n 1, 1) := by decide +kernel
theorem dL_law_889 : decode cL_law 889 = .ok (.aload_n 0, 1) := by decide +kernel
theorem dL_law_890 : decode cL_law 890 = .ok (.iload_n 3, 1) := by decide +kernel
theorem dL_law_891 : decode cL_law 891 = .ok (.iconst 1, 1) := by decide +kernel
theorem dL_law_892 : decode cL_law 892 = .ok (.iadd, 1) := by decide +kernel
theorem dL_law_893 : decode cL_law 893 = .ok (.iaload, 1) := by decide +kernel
theorem dL_law_894 : decode cL_law 894 = .ok (.aload_n 0, 1) := by decide +kernel
theorem dL_law_895 : decode cL_law 895 = .ok (.iload_n 3, 1) := by decide +kernel
theorem dL_law_896 : decode cL_law 896 = .ok (.iconst 2, 1) := by decide +kernel
theorem dL_law_897 : decode cL_law 897 = .ok (.iadd, 1) := by decide +kernel
theorem dL_law_898 : decode cL_law 898 = .ok (.iaload, 1) := by decide +kernel
theorem dL_law_899 : decode cL_law 899 = .ok (.aload_n 0, 1) := by decide +kernel
theorem dL_law_900 : decode cL_law 900 = .ok (.iload_n 3, 1) := by decide +kernel
theorem dL_law_901 : decode cL_law 901 = .ok (.iconst 3, 1) := by decide +kernel
theorem dL_law_902 : decode cL_law 902 = .ok (.iadd, 1) := by decide +kernel
theorem dL_law_903 : decode cL_law 903 = .ok (.iaload, 1) := by decide +kernel
theorem dL_law_904 : decode cL_law 904 = .ok (.invokevirtual 117, 3) := by decide +kernel
theorem dL_law_907 : decode cL_law 907 = .ok (.aload_n 2, 1) := by decide +kernel
theorem dL_law_908 : decode cL_law 908 = .ok (.aload_n 0, 1) := by decide +kernel
theorem dL_law_909 : decode cL_law 909 = .ok (.iload_n 3, 1) := by decide +kernel
theorem dL_law_910 : decode cL_law 910 = .ok (.iconst 1, 1) := by decide +kernel
theorem dL_law_911 : decode cL_law 911 = .ok (.iadd, 1) := by decide +kernel
theorem dL_law_912 : decode cL_law 912 = .ok (.iaload, 1) := by decide +kernel
theorem dL_law_913 : decode cL_law 913 = .ok (.aload_n 0, 1) := by decide +kernel
theorem dL_law_914 : decode cL_law 914 = .ok (.iload_n 3, 1) := by decide +kernel
theorem dL_law_915 : decode cL_law 915 = .ok (.iconst 2, 1) := by decide +kernel
theorem dL_law_916 : decode cL_law 916 = .ok (.iadd, 1) := by decide +kernel
theorem dL_law_917 : decode cL_law 917 = .ok (.iaload, 1) := by decide +kernel
theorem dL_law_918 : decode cL_law 918 = .ok (.aload_n 0, 1) := by decide +kernel
theorem dL_law_919 : decode cL_law 919 = .ok (.iload_n 3, 1) := by decide +kernel
theorem dL_law_920 : decode cL_law 920 = .ok (.iconst 3, 1) := by decide +kernel
theorem dL_law_921 : decode cL_law 921 = .ok (.iadd, 1) := by decide +kernel
theorem dL_law_922 : decode cL_law 922 = .ok (.iaload, 1) := by decide +kernel
theorem dL_law_923 : decode cL_law 923 = .ok (.invokevirtual 120, 3) := by decide +kernel
theorem dL_law_926 : decode cL_law 926 = .ok (.if_icmp .eq 331, 3) := by decide +kernel
theorem dL_law_929 : decode cL_law 929 = .ok (.iconst 0, 1) := by decide +kernel
theorem dL_law_930 : decode cL_law 930 = .ok (.ireturn, 1) := by decide +kernel
theorem dL_law_931 : decode cL_law 931 = .ok (.aload_n 1, 1) := by decide +kernel
theorem dL_law_932 : decode cL_law 932 = .ok (.aload_n 0, 1) := by decide +kernel
theorem dL_law_933 : decode cL_law 933 = .ok (.iload_n 3, 1) := by decide +kernel
theorem dL_law_934 : decode cL_law 934 = .ok (.iconst 1, 1) := by decide +kernel
theorem dL_law_935 : decode cL_law 935 = .ok (.iadd, 1) := by decide +kernel
theorem dL_law_936 : decode cL_law 936 = .ok (.iaload, 1) := by decide +kernel
theorem dL_law_937 : decode cL_law 937 = .ok (.invokevirtual 121, 3) := by decide +kernel
theorem dL_law_940 : decode cL_law 940 = .ok (.aload_n 2, 1) := by decide +kernel
theorem dL_law_941 : decode cL_law 941 = .ok (.aload_n 0, 1) := by decide +kernel
theorem dL_law_942 : decode cL_law 942 = .ok (.iload_n 3, 1) := by decide +kernel
theorem dL_law_943 : decode cL_law 943 = .ok (.iconst 1, 1) := by decide +kernel
theorem dL_law_944 : decode cL_law 944 = .ok (.iadd, 1) := by decide +kernel
theorem dL_law_945 : decode cL_law 945 = .ok (.iaload, 1) := by decide +kernel
theorem dL_law_946 : decode cL_law 946 = .ok (.invokevirtual 124, 3) := by decide +kernel
theorem dL_law_949 : decode cL_law 949 = .ok (.if_icmp .eq 308, 3) := by decide +kernel
theorem dL_law_952 : decode cL_law 952 = .ok (.iconst 0, 1) := by decide +kernel
theorem dL_law_953 : decode cL_law 953 = .ok (.ireturn, 1) := by decide +kernel
theorem dL_law_954 : decode cL_law 954 = .ok (.aload_n 1, 1) := by decide +kernel
theorem dL_law_955 : decode cL_law 955 = .ok (.aload_n 0, 1) := by decide +kernel
theorem dL_law_956 : decode cL_law 956 = .ok (.iload_n 3, 1) := by decide +kernel
theorem dL_law_957 : decode cL_law 957 = .ok (.iconst 1, 1) := by decide +kernel
theorem dL_law_958 : decode cL_law 958 = .ok (.iadd, 1) := by decide +kernel
theorem dL_law_959 : decode cL_law 959 = .ok (.iaload, 1) := by decide +kernel
theorem dL_law_960 : decode cL_law 960 = .ok (.aload_n 0, 1) := by decide +kernel
theorem dL_law_961 : decode cL_law 961 = .ok (.iload_n 3, 1) := by decide +kernel
theorem dL_law_962 : decode cL_law 962 = .ok (.iconst 2, 1) := by decide +kernel
theorem dL_law_963 : decode cL_law 963 = .ok (.iadd, 1) := by decide +kernel
theorem dL_law_964 : decode cL_law 964 = .ok (.iaload, 1) := by decide +kernel
theorem dL_law_965 : decode cL_law 965 = .ok (.aload_n 0, 1) := by decide +kernel
theorem dL_law_966 : decode cL_law 966 = .ok (.iload_n 3, 1) := by decide +kernel
theorem dL_law_967 : decode cL_law 967 = .ok (.iconst 3, 1) := by decide +kernel
theorem dL_law_968 : decode cL_law 968 = .ok (.iadd, 1) := by decide +kernel
theorem dL_law_969 : decode cL_law 969 = .ok (.iaload, 1) := by decide +kernel
theorem dL_law_970 : decode cL_law 970 = .ok (.invokevirtual 125, 3) := by decide +kernel
theorem dL_law_973 : decode cL_law 973 = .ok (.aload_n 2, 1) := by decide +kernel
theorem dL_law_974 : decode cL_law 974 = .ok (.aload_n 0, 1) := by decide +kernel
theorem dL_law_975 : decode cL_law 975 = .ok (.iload_n 3, 1) := by decide +kernel
theorem dL_law_976 : decode cL_law 976 = .ok (.iconst 1, 1) := by decide +kernel
theorem dL_law_977 : decode cL_law 977 = .ok (.iadd, 1) := by decide +kernel
theorem dL_law_978 : decode cL_law 978 = .ok (.iaload, 1) := by decide +kernel
theorem dL_law_979 : decode cL_law 979 = .ok (.aload_n 0, 1) := by decide +kernel
theorem dL_law_980 : decode cL_law 980 = .ok (.iload_n 3, 1) := by decide +kernel
theorem dL_law_981 : decode cL_law 981 = .ok (.iconst 2, 1) := by decide +kernel
theorem dL_law_982 : decode cL_law 982 = .ok (.iadd, 1) := by decide +kernel
theorem dL_law_983 : decode cL_law 983 = .ok (.iaload, 1) := by decide +kernel
theorem dL_law_984 : decode cL_law 984 = .ok (.aload_n 0, 1) := by decide +kernel
theorem dL_law_985 : decode cL_law 985 = .ok (.iload_n 3, 1) := by decide +kernel
theorem dL_law_986 : decode cL_law 986 = .ok (.iconst 3, 1) := by decide +kernel
theorem dL_law_987 : decode cL_law 987 = .ok (.iadd, 1) := by decide +kernel
theorem dL_law_988 : decode cL_law 988 = .ok (.iaload, 1) := by decide +kernel
theorem dL_law_989 : decode cL_law 989 = .ok (.invokevirtual 128, 3) := by decide +kernel
theorem dL_law_992 : decode cL_law 992 = .ok (.if_icmp .eq 265, 3) := by decide +kernel
theorem dL_law_995 : decode cL_law 995 = .ok (.iconst 0, 1) := by decide +kernel
theorem dL_law_996 : decode cL_law 996 = .ok (.ireturn, 1) := by decide +kernel
theorem dL_law_997 : decode cL_law 997 = .ok (.aload_n 1, 1) := by decide +kernel
theorem dL_law_998 : decode cL_law 998 = .ok (.aload_n 0, 1) := by decide +kernel
theorem dL_law_999 : decode cL_law 999 = .ok (.iload_n 3, 1) := by decide +kernel
theorem dL_law_1000 : decode cL_law 1000 = .ok (.iconst 1, 1) := by decide +kernel
theorem dL_law_1001 : decode cL_law 1001 = .ok (.iadd, 1) := by decide +kernel
theorem dL_law_1002 : decode cL_law 1002 = .ok (.iaload, 1) := by decide +kernel
theorem dL_law_1003 : decode cL_law 1003 = .ok (.aload_n 0, 1) := by decide +kernel
theorem dL_law_1004 : decode cL_law 1004 = .ok (.iload_n 3, 1) := by decide +kernel
theorem dL_law_1005 : decode cL_law 1005 = .ok (.iconst 2, 1) := by decide +kernel
theorem dL_law_1006 : decode cL_law 1006 = .ok (.iadd, 1) := by decide +kernel
theorem dL_law_1007 : decode cL_law 1007 = .ok (.iaload, 1) := by decide +kernel
theorem dL_law_1008 : decode cL_law 1008 = .ok (.aload_n 0, 1) := by decide +kernel
theorem dL_law_1009 : decode cL_law 1009 = .ok (.iload_n 3, 1) := by decide +kernel
theorem dL_law_1010 : decode cL_law 1010 = .ok (.iconst 3, 1) := by decide +kernel
theorem dL_law_1011 : decode cL_law 1011 = .ok (.iadd, 1) := by decide +kernel
theorem dL_law_1012 : decode cL_law 1012 = .ok (.iaload, 1) := by decide +kernel
theorem dL_law_1013 : decode cL_law 1013 = .ok (.invokevirtual 129, 3) := by decide +kernel
theorem dL_law_1016 : decode cL_law 1016 = .ok (.aload_n 2, 1) := by decide +kernel
theorem dL_law_1017 : decode cL_law 1017 = .ok (.aload_n 0, 1) := by decide +kernel
theorem dL_law_1018 : decode cL_law 1018 = .ok (.iload_n 3, 1) := by decide +kernel
theorem dL_law_1019 : decode cL_law 1019 = .ok (.iconst 1, 1) := by decide +kernel
theorem dL_law_1020 : decode cL_law 1020 = .ok (.iadd, 1) := by decide +kernel
theorem dL_law_1021 : decode cL_law 1021 = .ok (.iaload, 1) := by decide +kernel
theorem dL_law_1022 : decode cL_law 1022 = .ok (.aload_n 0, 1) := by decide +kernel
theorem dL_law_1023 : decode cL_law 1023 = .ok (.iload_n 3, 1) := by decide +kernel
theorem dL_law_1024 : decode cL_law 1024 = .ok (.iconst 2, 1) := by decide +kernel
theorem dL_law_1025 : decode cL_law 1025 = .ok (.iadd, 1) := by decide +kernel
theorem dL_law_1026 : decode cL_law 1026 = .ok (.iaload, 1) := by decide +kernel
theorem dL_law_1027 : decode cL_law 1027 = .ok (.aload_n 0, 1) := by decide +kernel
theorem dL_law_1028 : decode cL_law 1028 = .ok (.iload_n 3, 1) := by decide +kernel
theorem dL_law_1029 : decode cL_law 1029 = .ok (.iconst 3, 1) := by decide +kernel
theorem dL_law_1030 : decode cL_law 1030 = .ok (.iadd, 1) := by decide +kernel
theorem dL_law_1031 : decode cL_law 1031 = .ok (.iaload, 1) := by decide +kernel
theorem dL_law_1032 : decode cL_law 1032 = .ok (.invokevirtual 132, 3) := by decide +kernel
theorem dL_law_1035 : decode cL_law 1035 = .ok (.if_icmp .eq 222, 3) := by decide +kernel
theorem dL_law_1038 : decode cL_law 1038 = .ok (.iconst 0, 1) := by decide +kernel
theorem dL_law_1039 : decode cL_law 1039 = .ok (.ireturn, 1) := by decide +kernel
theorem dL_law_1040 : decode cL_law 1040 = .ok (.aload_n 1, 1) := by decide +kernel
theorem dL_law_1041 : decode cL_law 1041 = .ok (.aload_n 0, 1) := by decide +kernel
theorem dL_law_1042 : decode cL_law 1042 = .ok (.iload_n 3, 1) := by decide +kernel
theorem dL_law_1043 : decode cL_law 1043 = .ok (.iconst 1, 1) := by decide +kernel
theorem dL_law_1044 : decode cL_law 1044 = .ok (.iadd, 1) := by decide +kernel
theorem dL_law_1045 : decode cL_law 1045 = .ok (.iaload, 1) := by decide +kernel
theorem dL_law_1046 : decode cL_law 1046 = .ok (.aload_n 0, 1) := by decide +kernel
theorem dL_law_1047 : decode cL_law 1047 = .ok (.iload_n 3, 1) := by decide +kernel
theorem dL_law_1048 : decode cL_law 1048 = .ok (.iconst 2, 1) := by decide +kernel
theorem dL_law_1049 : decode cL_law 1049 = .ok (.iadd, 1) := by decide +kernel
theorem dL_law_1050 : decode cL_law 1050 = .ok (.iaload, 1) := by decide +kernel
theorem dL_law_1051 : decode cL_law 1051 = .ok (.aload_n 0, 1) := by decide +kernel
theorem dL_law_1052 : decode cL_law 1052 = .ok (.iload_n 3, 1) := by decide +kernel
theorem dL_law_1053 : decode cL_law 1053 = .ok (.iconst 3, 1) := by decide +kernel
theorem dL_law_1054 : decode cL_law 1054 = .ok (.iadd, 1) := by decide +kernel
theorem dL_law_1055 : decode cL_law 1055 = .ok (.iaload, 1) := by decide +kernel
theorem dL_law_1056 : decode cL_law 1056 = .ok (.aload_n 0, 1) := by decide +kernel
theorem dL_law_1057 : decode cL_law 1057 = .ok (.iload_n 3, 1) := by decide +kernel
theorem dL_law_1058 : decode cL_law 1058 = .ok (.iconst 4, 1) := by decide +kernel
theorem dL_law_1059 : decode cL_law 1059 = .ok (.iadd, 1) := by decide +kernel
theorem dL_law_1060 : decode cL_law 1060 = .ok (.iaload, 1) := by decide +kernel
theorem dL_law_1061 : decode cL_law 1061 = .ok (.aload_n 0, 1) := by decide +kernel
theorem dL_law_1062 : decode cL_law 1062 = .ok (.iload_n 3, 1) := by decide +kernel
theorem dL_law_1063 : decode cL_law 1063 = .ok (.iconst 5, 1) := by decide +kernel
theorem dL_law_1064 : decode cL_law 1064 = .ok (.iadd, 1) := by decide +kernel
theorem dL_law_1065 : decode cL_law 1065 = .ok (.iaload, 1) := by decide +kernel
theorem dL_law_1066 : decode cL_law 1066 = .ok (.invokevirtual 133, 3) := by decide +kernel
theorem dL_law_1069 : decode cL_law 1069 = .ok (.aload_n 2, 1) := by decide +kernel
theorem dL_law_1070 : decode cL_law 1070 = .ok (.aload_n 0, 1) := by decide +kernel
theorem dL_law_1071 : decode cL_law 1071 = .ok (.iload_n 3, 1) := by decide +kernel
theorem dL_law_1072 : decode cL_law 1072 = .ok (.iconst 1, 1) := by decide +kernel
theorem dL_law_1073 : decode cL_law 1073 = .ok (.iadd, 1) := by decide +kernel
theorem dL_law_1074 : decode cL_law 1074 = .ok (.iaload, 1) := by decide +kernel
theorem dL_law_1075 : decode cL_law 1075 = .ok (.aload_n 0, 1) := by decide +kernel
theorem dL_law_1076 : decode cL_law 1076 = .ok (.iload_n 3, 1) := by decide +kernel
theorem dL_law_1077 : decode cL_law 1077 = .ok (.iconst 2, 1) := by decide +kernel
theorem dL_law_1078 : decode cL_law 1078 = .ok (.iadd, 1) := by decide +kernel
theorem dL_law_1079 : decode cL_law 1079 = .ok (.iaload, 1) := by decide +kernel
theorem dL_law_1080 : decode cL_law 1080 = .ok (.aload_n 0, 1) := by decide +kernel
theorem dL_law_1081 : decode cL_law 1081 = .ok (.iload_n 3, 1) := by decide +kernel
theorem dL_law_1082 : decode cL_law 1082 = .ok (.iconst 3, 1) := by decide +kernel
theorem dL_law_1083 : decode cL_law 1083 = .ok (.iadd, 1) := by decide +kernel
theorem dL_law_1084 : decode cL_law 1084 = .ok (.iaload, 1) := by decide +kernel
theorem dL_law_1085 : decode cL_law 1085 = .ok (.aload_n 0, 1) := by decide +kernel
theorem dL_law_1086 : decode cL_law 1086 = .ok (.iload_n 3, 1) := by decide +kernel
theorem dL_law_1087 : decode cL_law 1087 = .ok (.iconst 4, 1) := by decide +kernel
theorem dL_law_1088 : decode cL_law 1088 = .ok (.iadd, 1) := by decide +kernel
theorem dL_law_1089 : decode cL_law 1089 = .ok (.iaload, 1) := by decide +kernel
theorem dL_law_1090 : decode cL_law 1090 = .ok (.aload_n 0, 1) := by decide +kernel
theorem dL_law_1091 : decode cL_law 1091 = .ok (.iload_n 3, 1) := by decide +kernel
theorem dL_law_1092 : decode cL_law 1092 = .ok (.iconst 5, 1) := by decide +kernel
theorem dL_law_1093 : decode cL_law 1093 = .ok (.iadd, 1) := by decide +kernel
theorem dL_law_1094 : decode cL_law 1094 = .ok (.iaload, 1) := by decide +kernel
theorem dL_law_1095 : decode cL_law 1095 = .ok (.invokevirtual 137, 3) := by decide +kernel
theorem dL_law_1098 : decode cL_law 1098 = .ok (.if_icmp .eq 159, 3) := by decide +kernel
theorem dL_law_1101 : decode cL_law 1101 = .ok (.iconst 0, 1) := by decide +kernel
theorem dL_law_1102 : decode cL_law 1102 = .ok (.ireturn, 1) := by decide +kernel
theorem dL_law_1103 : decode cL_law 1103 = .ok (.aload_n 1, 1) := by decide +kernel
theorem dL_law_1104 : decode cL_law 1104 = .ok (.aload_n 0, 1) := by decide +kernel
theorem dL_law_1105 : decode cL_law 1105 = .ok (.iload_n 3, 1) := by decide +kernel
theorem dL_law_1106 : decode cL_law 1106 = .ok (.iconst 1, 1) := by decide +kernel
theorem dL_law_1107 : decode cL_law 1107 = .ok (.iadd, 1) := by decide +kernel
theorem dL_law_1108 : decode cL_law 1108 = .ok (.iaload, 1) := by decide +kernel
theorem dL_law_1109 : decode cL_law 1109 = .ok (.invokevirtual 138, 3) := by decide +kernel
theorem dL_law_1112 : decode cL_law 1112 = .ok (.aload_n 2, 1) := by decide +kernel
theorem dL_law_1113 : decode cL_law 1113 = .ok (.aload_n 0, 1) := by decide +kernel
theorem dL_law_1114 : decode cL_law 1114 = .ok (.iload_n 3, 1) := by decide +kernel
theorem dL_law_1115 : decode cL_law 1115 = .ok (.iconst 1, 1) := by decide +kernel
theorem dL_law_1116 : decode cL_law 1116 = .ok (.iadd, 1) := by decide +kernel
theorem dL_law_1117 : decode cL_law 1117 = .ok (.iaload, 1) := by decide +kernel
theorem dL_law_1118 : decode cL_law 1118 = .ok (.invokevirtual 141, 3) := by decide +kernel
theorem dL_law_1121 : decode cL_law 1121 = .ok (.if_icmp .eq 136, 3) := by decide +kernel
theorem dL_law_1124 : decode cL_law 1124 = .ok (.iconst 0, 1) := by decide +kernel
theorem dL_law_1125 : decode cL_law 1125 = .ok (.ireturn, 1) := by decide +kernel
theorem dL_law_1126 : decode cL_law 1126 = .ok (.aload_n 1, 1) := by decide +kernel
theorem dL_law_1127 : decode cL_law 1127 = .ok (.aload_n 0, 1) := by decide +kernel
theorem dL_law_1128 : decode cL_law 1128 = .ok (.iload_n 3, 1) := by decide +kernel
theorem dL_law_1129 : decode cL_law 1129 = .ok (.iconst 1, 1) := by decide +kernel
theorem dL_law_1130 : decode cL_law 1130 = .ok (.iadd, 1) := by decide +kernel
theorem dL_law_1131 : decode cL_law 1131 = .ok (.iaload, 1) := by decide +kernel
theorem dL_law_1132 : decode cL_law 1132 = .ok (.invokevirtual 142, 3) := by decide +kernel
theorem dL_law_1135 : decode cL_law 1135 = .ok (.aload_n 2, 1) := by decide +kernel
theorem dL_law_1136 : decode cL_law 1136 = .ok (.aload_n 0, 1) := by decide +kernel
theorem dL_law_1137 : decode cL_law 1137 = .ok (.iload_n 3, 1) := by decide +kernel
theorem dL_law_1138 : decode cL_law 1138 = .ok (.iconst 1, 1) := by decide +kernel
theorem dL_law_1139 : decode cL_law 1139 = .ok (.iadd, 1) := by decide +kernel
theorem dL_law_1140 : decode cL_law 1140 = .ok (.iaload, 1) := by decide +kernel
theorem dL_law_1141 : decode cL_law 1141 = .ok (.invokevirtual 145, 3) := by decide +kernel
theorem dL_law_1144 : decode cL_law 1144 = .ok (.if_icmp .eq 113, 3) := by decide +kernel
theorem dL_law_1147 : decode cL_law 1147 = .ok (.iconst 0, 1) := by decide +kernel
theorem dL_law_1148 : decode cL_law 1148 = .ok (.ireturn, 1) := by decide +kernel
theorem dL_law_1149 : decode cL_law 1149 = .ok (.aload_n 1, 1) := by decide +kernel
theorem dL_law_1150 : decode cL_law 1150 = .ok (.invokevirtual 146, 3) := by decide +kernel
theorem dL_law_1153 : decode cL_law 1153 = .ok (.aload_n 2, 1) := by decide +kernel
theorem dL_law_1154 : decode cL_law 1154 = .ok (.invokevirtual 149, 3) := by decide +kernel
theorem dL_law_1157 : decode cL_law 1157 = .ok (.if_icmp .eq 100, 3) := by decide +kernel
theorem dL_law_1160 : decode cL_law 1160 = .ok (.iconst 0, 1) := by decide +kernel
theorem dL_law_1161 : decode cL_law 1161 = .ok (.ireturn, 1) := by decide +kernel
theorem dL_law_1162 : decode cL_law 1162 = .ok (.aload_n 1, 1) := by decide +kernel
theorem dL_law_1163 : decode cL_law 1163 = .ok (.invokevirtual 150, 3) := by decide +kernel
theorem dL_law_1166 : decode cL_law 1166 = .ok (.aload_n 2, 1) := by decide +kernel
theorem dL_law_1167 : decode cL_law 1167 = .ok (.invokevirtual 153, 3) := by decide +kernel
theorem dL_law_1170 : decode cL_law 1170 = .ok (.if_icmp .eq 87, 3) := by decide +kernel
theorem dL_law_1173 : decode cL_law 1173 = .ok (.iconst 0, 1) := by decide +kernel
theorem dL_law_1174 : decode cL_law 1174 = .ok (.ireturn, 1) := by decide +kernel
theorem dL_law_1175 : decode cL_law 1175 = .ok (.aload_n 1, 1) := by decide +kernel
theorem dL_law_1176 : decode cL_law 1176 = .ok (.aload_n 0, 1) := by decide +kernel
theorem dL_law_1177 : decode cL_law 1177 = .ok (.iload_n 3, 1) := by decide +kernel
theorem dL_law_1178 : decode cL_law 1178 = .ok (.iconst 1, 1) := by decide +kernel
theorem dL_law_1179 : decode cL_law 1179 = .ok (.iadd, 1) := by decide +kernel
theorem dL_law_1180 : decode cL_law 1180 = .ok (.iaload, 1) := by decide +kernel
theorem dL_law_1181 : decode cL_law 1181 = .ok (.invokevirtual 154, 3) := by decide +kernel
theorem dL_law_1184 : decode cL_law 1184 = .ok (.aload_n 2, 1) := by decide +kernel
theorem dL_law_1185 : decode cL_law 1185 = .ok (.aload_n 0, 1) := by decide +kernel
theorem dL_law_1186 : decode cL_law 1186 = .ok (.iload_n 3, 1) := by decide +kernel
theorem dL_law_1187 : decode cL_law 1187 = .ok (.iconst 1, 1) := by decide +kernel
theorem dL_law_1188 : decode cL_law 1188 = .ok (.iadd, 1) := by decide +kernel
theorem dL_law_1189 : decode cL_law 1189 = .ok (.iaload, 1) := by decide +kernel
theorem dL_law_1190 : decode cL_law 1190 = .ok (.invokevirtual 157, 3) := by decide +kernel
theorem dL_law_1193 : decode cL_law 1193 = .ok (.if_icmp .eq 64, 3) := by decide +kernel
theorem dL_law_1196 : decode cL_law 1196 = .ok (.iconst 0, 1) := by decide +kernel
theorem dL_law_1197 : decode cL_law 1197 = .ok (.ireturn, 1) := by decide +kernel
theorem dL_law_1198 : decode cL_law 1198 = .ok (.aload_n 1, 1) := by decide +kernel
theorem dL_law_1199 : decode cL_law 1199 = .ok (.invokevirtual 158, 3) := by decide +kernel
theorem dL_law_1202 : decode cL_law 1202 = .ok (.aload_n 2, 1) := by decide +kernel
theorem dL_law_1203 : decode cL_law 1203 = .ok (.invokevirtual 161, 3) := by decide +kernel
theorem dL_law_1206 : decode cL_law 1206 = .ok (.if_icmp .eq 51, 3) := by decide +kernel
theorem dL_law_1209 : decode cL_law 1209 = .ok (.iconst 0, 1) := by decide +kernel
theorem dL_law_1210 : decode cL_law 1210 = .ok (.ireturn, 1) := by decide +kernel
theorem dL_law_1211 : decode cL_law 1211 = .ok (.aload_n 1, 1) := by decide +kernel
theorem dL_law_1212 : decode cL_law 1212 = .ok (.aload_n 0, 1) := by decide +kernel
theorem dL_law_1213 : decode cL_law 1213 = .ok (.iload_n 3, 1) := by decide +kernel
theorem dL_law_1214 : decode cL_law 1214 = .ok (.iconst 1, 1) := by decide +kernel
theorem dL_law_1215 : decode cL_law 1215 = .ok (.iadd, 1) := by decide +kernel
theorem dL_law_1216 : decode cL_law 1216 = .ok (.iaload, 1) := by decide +kernel
theorem dL_law_1217 : decode cL_law 1217 = .ok (.invokevirtual 162, 3) := by decide +kernel
theorem dL_law_1220 : decode cL_law 1220 = .ok (.aload_n 2, 1) := by decide +kernel
theorem dL_law_1221 : decode cL_law 1221 = .ok (.aload_n 0, 1) := by decide +kernel
theorem dL_law_1222 : decode cL_law 1222 = .ok (.iload_n 3, 1) := by decide +kernel
theorem dL_law_1223 : decode cL_law 1223 = .ok (.iconst 1, 1) := by decide +kernel
theorem dL_law_1224 : decode cL_law 1224 = .ok (.iadd, 1) := by decide +kernel
theorem dL_law_1225 : decode cL_law 1225 = .ok (.iaload, 1) := by decide +kernel
theorem dL_law_1226 : decode cL_law 1226 = .ok (.invokevirtual 165, 3) := by decide +kernel
theorem dL_law_1229 : decode cL_law 1229 = .ok (.if_icmp .eq 28, 3) := by decide +kernel
theorem dL_law_1232 : decode cL_law 1232 = .ok (.iconst 0, 1) := by decide +kernel
theorem dL_law_1233 : decode cL_law 1233 = .ok (.ireturn, 1) := by decide +kernel
theorem dL_law_1234 : decode cL_law 1234 = .ok (.aload_n 1, 1) := by decide +kernel
theorem dL_law_1235 : decode cL_law 1235 = .ok (.aload_n 0, 1) := by decide +kernel
theorem dL_law_1236 : decode cL_law 1236 = .ok (.iload_n 3, 1) := by decide +kernel
theorem dL_law_1237 : decode cL_law 1237 = .ok (.iconst 1, 1) := by decide +kernel
theorem dL_law_1238 : decode cL_law 1238 = .ok (.iadd, 1) := by decide +kernel
theorem dL_law_1239 : decode cL_law 1239 = .ok (.iaload, 1) := by decide +kernel
theorem dL_law_1240 : decode cL_law 1240 = .ok (.invokevirtual 166, 3) := by decide +kernel
theorem dL_law_1243 : decode cL_law 1243 = .ok (.aload_n 2, 1) := by decide +kernel
theorem dL_law_1244 : decode cL_law 1244 = .ok (.aload_n 0, 1) := by decide +kernel
theorem dL_law_1245 : decode cL_law 1245 = .ok (.iload_n 3, 1) := by decide +kernel
theorem dL_law_1246 : decode cL_law 1246 = .ok (.iconst 1, 1) := by decide +kernel
theorem dL_law_1247 : decode cL_law 1247 = .ok (.iadd, 1) := by decide +kernel
theorem dL_law_1248 : decode cL_law 1248 = .ok (.iaload, 1) := by decide +kernel
theorem dL_law_1249 : decode cL_law 1249 = .ok (.invokevirtual 169, 3) := by decide +kernel
theorem dL_law_1252 : decode cL_law 1252 = .ok (.if_icmp .eq 5, 3) := by decide +kernel
theorem dL_law_1255 : decode cL_law 1255 = .ok (.iconst 0, 1) := by decide +kernel
theorem dL_law_1256 : decode cL_law 1256 = .ok (.ireturn, 1) := by decide +kernel
theorem dL_law_1257 : decode cL_law 1257 = .ok (.iinc 3 6, 3) := by decide +kernel
theorem dL_law_1260 : decode cL_law 1260 = .ok (.goto (-1242), 3) := by decide +kernel
theorem dL_law_1263 : decode cL_law 1263 = .ok (.iconst 1, 1) := by decide +kernel
theorem dL_law_1264 : decode cL_law 1264 = .ok (.ireturn, 1) := by decide +kernel
end
section
/-! The world behind the two constructors: 80 cells. Laid by wip/whole/shape.py -/
abbrev St : Type := Nat → Nat → Int32
abbrev Gm : Type := (Nat → Nat) × va_G × (ClassId × ClassId) × (Nat → Nat)
def nW : Nat := 80
def alen (q : Nat) : Nat := [0, 0, 0, 60, 0, 60, 60, 2, 60, 10, 10, 10, 10, 24, 0, 0, 60, 0, 60, 60, 2, 60, 10, 10, 10, 10, 24, 0, 60, 60, 0, 0, 121, 121, 121, 121, 121, 121, 121, 121, 121, 121, 0, 121, 121, 121, 121, 121, 121, 121, 121, 121, 121, 10, 10, 0, 30, 0, 0, 24, 24, 24, 24, 4, 4, 7, 0, 382, 382, 7, 124, 128, 64, 1210, 10, 30, 4, 4, 96, 24].getD q 0
abbrev clsL : List vw_C := [(RX0, TX0, 5), (RX1, TX1, 6), (RX2, TX2, 3), (RX3, TX3, 11), (RX4, TX4, 5), (RX5, TX5, 6), (RX6, TX6, 8), (RX7, TX7, 22)]
def fs_0 (Γ : Gm) (r : Nat → Int32) : List Value := [.ref (Γ.1 1), .ref (Γ.1 14), .ref (Γ.1 27), .ref (Γ.1 30), .ref (Γ.1 55), .ref (Γ.1 57), .ref (Γ.1 65), .int (r 7)]
def fs_1 (Γ : Gm) (r : Nat → Int32) : List Value := [.ref (Γ.1 2), .int (r 1), .int (r 2), .int (r 3), .int (r 4), .int (r 5), .ref (Γ.1 9), .ref (Γ.1 10), .ref (Γ.1 11), .ref (Γ.1 12), .ref (Γ.1 13)]
def fs_2 (Γ : Gm) (r : Nat → Int32) : List Value := [.ref (Γ.1 3), .int (r 1), .ref (Γ.1 4), .ref (Γ.1 7), .ref (Γ.1 8)]
def fs_14 (Γ : Gm) (r : Nat → Int32) : List Value := [.ref (Γ.1 15), .int (r 1), .int (r 2), .int (r 3), .int (r 4), .int (r 5), .ref (Γ.1 22), .ref (Γ.1 23), .ref (Γ.1 24), .ref (Γ.1 25), .ref (Γ.1 26)]
def fs_15 (Γ : Gm) (r : Nat → Int32) : List Value := [.ref (Γ.1 16), .int (r 1), .ref (Γ.1 17), .ref (Γ.1 20), .ref (Γ.1 21)]
def fs_27 (Γ : Gm) (r : Nat → Int32) : List Value := [.ref (Γ.1 28), .int (r 1), .ref (Γ.1 29), .int (r 3), .int (r 4), .int (r 5)]
def fs_30 (Γ : Gm) (r : Nat → Int32) : List Value := [.int (r 0), .ref (Γ.1 31), .ref (Γ.1 42), .ref (Γ.1 53), .ref (Γ.1 54)]
def fs_55 (Γ : Gm) (r : Nat → Int32) : List Value := [.int (r 0), .int (r 1), .ref (Γ.1 56), .int (r 3), .int (r 4), .int (r 5)]
def fs_57 (Γ : Gm) (r : Nat → Int32) : List Value := [.ref (Γ.1 58), .ref (Γ.1 63), .ref (Γ.1 64)]
def fs_66 (Γ : Gm) (r : Nat → Int32) : List Value := [.ref (Γ.1 67), .ref (Γ.1 68), .int (r 2), .ref (Γ.1 69), .int (r 4), .int (r 5), .int (r 6), .int (r 7), .ref (Γ.1 70), .ref (Γ.1 71), .ref (Γ.1 72), .ref (Γ.1 73), .ref (Γ.1 74), .int (r 13), .int (r 14), .ref (Γ.1 75), .int (r 16), .int (r 17), .ref (Γ.1 76), .ref (Γ.1 77), .ref (Γ.1 78), .ref (Γ.1 79)]
def oel (Γ : Gm) (q : Nat) (r : Nat → Int32) : va_E := if q = 0 then .inr (6, fs_0 Γ r) else if q = 1 then .inr (3, fs_1 Γ r) else if q = 2 then .inr (0, fs_2 Γ r) else if q = 4 then .inl (Γ.2.2.1.2, 2, .inr (.inr (.inr (.inr (fun i => if i < 2 then some (Γ.1 (5 + i)) else none))))) else if q = 14 then .inr (3, fs_14 Γ r) else if q = 15 then .inr (0, fs_15 Γ r) else if q = 17 then .inl (Γ.2.2.1.2, 2, .inr (.inr (.inr (.inr (fun i => if i < 2 then some (Γ.1 (18 + i)) else none))))) else if q = 27 then .inr (1, fs_27 Γ r) else if q = 30 then .inr (4, fs_30 Γ r) else if q = 31 then .inl (Γ.2.2.1.2, 10, .inr (.inr (.inr (.inr (fun i => if i < 10 then some (Γ.1 (32 + i)) else none))))) else if q = 42 then .inl (Γ.2.2.1.2, 10, .inr (.inr (.inr (.inr (fun i => if i < 10 then some (Γ.1 (43 + i)) else none))))) else if q = 55 then .inr (5, fs_55 Γ r) else if q = 57 then .inr (2, fs_57 Γ r) else if q = 58 then .inl (Γ.2.2.1.2, 4, .inr (.inr (.inr (.inr (fun i => if i < 4 then some (Γ.1 (59 + i)) else none))))) else if q = 66 then .inr (7, fs_66 Γ r) else .inl (Γ.2.2.1.1, 0, .inl r)
def el (Γ : Gm) (q : Nat) (r : Nat → Int32) : va_E := if alen q = 0 then oel Γ q r else .inl (Γ.2.2.1.1, alen q, .inl r)
theorem el_0 (Γ : Gm) (r : Nat → Int32) : el Γ 0 r = .inr (6, fs_0 Γ r) := rfl
theorem el_1 (Γ : Gm) (r : Nat → Int32) : el Γ 1 r = .inr (3, fs_1 Γ r) := rfl
theorem el_2 (Γ : Gm) (r : Nat → Int32) : el Γ 2 r = .inr (0, fs_2 Γ r) := rfl
theorem el_4 (Γ : Gm) (r : Nat → Int32) : el Γ 4 r = .inl (Γ.2.2.1.2, 2, .inr (.inr (.inr (.inr (fun i => if i < 2 then some (Γ.1 (5 + i)) else none))))) := rfl
theorem el_14 (Γ : Gm) (r : Nat → Int32) : el Γ 14 r = .inr (3, fs_14 Γ r) := rfl
theorem el_15 (Γ : Gm) (r : Nat → Int32) : el Γ 15 r = .inr (0, fs_15 Γ r) := rfl
theorem el_17 (Γ : Gm) (r : Nat → Int32) : el Γ 17 r = .inl (Γ.2.2.1.2, 2, .inr (.inr (.inr (.inr (fun i => if i < 2 then some (Γ.1 (18 + i)) else none))))) := rfl
theorem el_27 (Γ : Gm) (r : Nat → Int32) : el Γ 27 r = .inr (1, fs_27 Γ r) := rfl
theorem el_30 (Γ : Gm) (r : Nat → Int32) : el Γ 30 r = .inr (4, fs_30 Γ r) := rfl
theorem el_31 (Γ : Gm) (r : Nat → Int32) : el Γ 31 r = .inl (Γ.2.2.1.2, 10, .inr (.inr (.inr (.inr (fun i => if i < 10 then some (Γ.1 (32 + i)) else none))))) := rfl
theorem el_42 (Γ : Gm) (r : Nat → Int32) : el Γ 42 r = .inl (Γ.2.2.1.2, 10, .inr (.inr (.inr (.inr (fun i => if i < 10 then some (Γ.1 (43 + i)) else none))))) := rfl
theorem el_55 (Γ : Gm) (r : Nat → Int32) : el Γ 55 r = .inr (5, fs_55 Γ r) := rfl
theorem el_57 (Γ : Gm) (r : Nat → Int32) : el Γ 57 r = .inr (2, fs_57 Γ r) := rfl
theorem el_58 (Γ : Gm) (r : Nat → Int32) : el Γ 58 r = .inl (Γ.2.2.1.2, 4, .inr (.inr (.inr (.inr (fun i => if i < 4 then some (Γ.1 (59 + i)) else none))))) := rfl
theorem el_66 (Γ : Gm) (r : Nat → Int32) : el Γ 66 r = .inr (7, fs_66 Γ r) := rfl
def tysL (Γ : Gm) : List (ClassId × FieldType) := [(Γ.2.2.1.1, .int), (Γ.2.2.1.2, .array .int)]
theorem alen_lt {q : Nat} (h : alen q ≠ 0) : q < nW := by
  rcases Nat.lt_or_ge q nW with g | g
  · exact g
  · exact absurd (by unfold alen; rw [List.getD_eq_getElem?_getD, List.getElem?_eq_none (by exact g)]; rfl) h
theorem al_4 : ∀ i : Nat, i < 2 → alen (5 + i) = 60 := by decide
theorem al_17 : ∀ i : Nat, i < 2 → alen (18 + i) = 60 := by decide
theorem al_31 : ∀ i : Nat, i < 10 → alen (32 + i) = 121 := by decide
theorem al_42 : ∀ i : Nat, i < 10 → alen (43 + i) = 121 := by decide
theorem al_58 : ∀ i : Nat, i < 4 → alen (59 + i) = 24 := by decide
def tKA (i : Nat) : Int32 := ([-1, 0, 0, 0, 1, 2, 0] : List Int32).getD i 0
def tNA (i : Nat) : Int32 := ([104, 121, 111, 121, 98, 115] : List Int32).getD i 0
def tBO (i : Nat) : Int32 := ([10, 11, 12, 13, 20, 0, 0, 21, 0, 30, 0, 0, 0, 0, 40, 0, 50, 0, 51, 0, 0, 60, 0, 0, 70, 71, 0, 0] : List Int32).getD i 0
end
section
/-! The frame: one world for both objects, at addresses Γ.1; every method is a function on its numbers (St) -/
def sR (σ : St) (q : Nat) (r : Nat → Int32) : St := fun j => if j = q then r else σ j
def st (σ : St) (q k : Nat) (v : Int32) : St := sR σ q (upd (σ q) k v)
def wl (Γ : Gm) (σ : St) : va_W := (List.range nW).map (fun q => (Γ.1 q, el Γ q (σ q)))
theorem wl_at {Γ : Gm} {σ : St} {q : Nat} (h : q < nW) : (wl Γ σ)[q]? = some (Γ.1 q, el Γ q (σ q)) := by
  unfold wl
  rw [List.getElem?_map, List.getElem?_range h]
  rfl
theorem wl_of {Γ : Gm} {σ : St} {k : Nat} {x : Nat × va_E} (h : (wl Γ σ)[k]? = some x) : k < nW ∧ x = (Γ.1 k, el Γ k (σ k)) := by
  have hk : k < nW := by
    have h1 := (List.getElem?_eq_some_iff.mp h).1
    unfold wl at h1
    rw [List.length_map, List.length_range] at h1
    exact h1
  exact ⟨hk, Option.some.inj (h.symm.trans (wl_at hk))⟩
theorem wl_set {Γ : Gm} {σ : St} {q : Nat} (r : Nat → Int32) (h : q < nW) : (wl Γ σ).set q (Γ.1 q, el Γ q r) = wl Γ (sR σ q r) := by
  apply List.ext_getElem?
  intro k
  have hl : (wl Γ σ).length = nW := by unfold wl; rw [List.length_map, List.length_range]
  by_cases hk : k = q
  · subst hk
    rw [List.getElem?_set_self (by rw [hl]; exact h), wl_at h]
    simp [sR]
  · rw [List.getElem?_set_ne (Ne.symm hk)]
    by_cases hn : k < nW
    · rw [wl_at hn, wl_at hn]
      simp [sR, hk]
    · rw [List.getElem?_eq_none (by rw [hl]; omega), List.getElem?_eq_none (by unfold wl; rw [List.length_map, List.length_range]; omega)]
def Gi (Γ : Gm) : Prop := ∀ i j : Nat, i < nW → j < nW → Γ.1 i = Γ.1 j → i = j
def Rg (Γ : Gm) (sz : Nat) : Nat → Prop := fun x => (∃ i : Nat, i < nW ∧ Γ.1 i = x) ∨ sz ≤ x
theorem Rg.at {Γ : Gm} {sz q : Nat} (h : q < nW) : Rg Γ sz (Γ.1 q) := Or.inl ⟨q, h, rfl⟩
theorem Rg.up {Γ : Gm} {a b x : Nat} (h : a ≤ b) (hx : Rg Γ b x) : Rg Γ a x := by
  rcases hx with hx | hx
  · exact Or.inl hx
  · exact Or.inr (Nat.le_trans h hx)
theorem wl_D {Γ : Gm} (hG : Gi Γ) (σ : St) (sz : Nat) : va_D (Rg Γ sz) (wl Γ σ) := by
  refine ⟨fun i j p q hi hj hpq => ?_, fun k q hk => ?_⟩
  · obtain ⟨h1, rfl⟩ := wl_of hi
    obtain ⟨h2, rfl⟩ := wl_of hj
    exact hG i j h1 h2 hpq
  · obtain ⟨h1, rfl⟩ := wl_of hk
    exact Rg.at h1
def gT : List Cond := lw_tbl.filter goodWord
theorem mem_gT {w : Cond} (h : w ∈ lw_tbl) (hg : goodWord w = true) : w ∈ gT := List.mem_filter.mpr ⟨h, hg⟩
theorem gT_in {w : Cond} (h : w ∈ gT) : w ∈ lw_tbl := (List.mem_filter.mp h).1
theorem gT_t {w : Cond} (i : Nat) (h : tables_1[i]? = some w) (hg : goodWord w = true) : w ∈ gT := mem_gT (List.mem_append_right _ (List.mem_of_getElem? h)) hg
theorem gT_p {w : Cond} (i : Nat) (h : (k2_sels lw_privs)[i]? = some w) (hg : goodWord w = true) : w ∈ gT := mem_gT (List.mem_append_left _ (List.mem_of_getElem? h)) hg
theorem gT_good {ws : List Cond} (h : ∀ w ∈ ws, w ∈ gT) : GoodIn gT ws := fun w hw => ⟨h w hw, good_of_word (List.mem_filter.mp (h w hw)).2⟩
theorem gT_code {w : Cond} (h : w ∈ gT) : GoodIn gT (w :: gT) := gT_good (List.forall_mem_cons.mpr ⟨h, fun _ h => h⟩)
/-- the private members of nest mates that are linked -/
def nestW : List Cond := [.methodLinkNest "StreetNumbers$Laws" 42 ⟨"StreetNumbers", "isUse", "(I)Z"⟩ "StreetNumbers", .methodLinkNest "StreetNumbers$Laws" 50 ⟨"StreetNumbers", "held", "(III)I"⟩ "StreetNumbers", .methodLinkNest "StreetNumbers$Reader" 24 ⟨"StreetNumbers", "held", "(III)I"⟩ "StreetNumbers", .fieldLinkNest "StreetNumbers$Reader" 72 "StreetNumbers" "NAMES" "[C" "StreetNumbers", .methodLinkNest "StreetNumbers$Sheets" 21 ⟨"StreetNumbers", "isSheet", "(I)Z"⟩ "StreetNumbers", .methodLinkNest "StreetNumbers$Street" 128 ⟨"StreetNumbers", "rest", "(II)I"⟩ "StreetNumbers", .methodLinkNest "StreetNumbers$Voices" 43 ⟨"StreetNumbers", "kindAbove", "(I)I"⟩ "StreetNumbers", .methodLinkNest "StreetNumbers$Voices" 64 ⟨"StreetNumbers", "quotient", "(II)I"⟩ "StreetNumbers", .methodLinkNest "StreetNumbers$Sheets" 38 ⟨"StreetNumbers", "held", "(III)I"⟩ "StreetNumbers"]
def Nst (U : State) : Prop := ∀ w ∈ nestW, va_Nw w U
theorem Nst.warm {s U : State} (hW : s.WarmedH U.vm) (h : Nst s) : Nst U := by
  unfold Nst nestW at h ⊢
  obtain ⟨h1, h⟩ := List.forall_mem_cons.mp h
  obtain ⟨h2, h⟩ := List.forall_mem_cons.mp h
  obtain ⟨h3, h⟩ := List.forall_mem_cons.mp h
  obtain ⟨h4, h⟩ := List.forall_mem_cons.mp h
  obtain ⟨h5, h⟩ := List.forall_mem_cons.mp h
  obtain ⟨h6, h⟩ := List.forall_mem_cons.mp h
  obtain ⟨h7, h⟩ := List.forall_mem_cons.mp h
  obtain ⟨h8, h⟩ := List.forall_mem_cons.mp h
  obtain ⟨h9, h⟩ := List.forall_mem_cons.mp h
  exact List.forall_mem_cons.mpr ⟨h1.warmM hW, List.forall_mem_cons.mpr ⟨h2.warmM hW, List.forall_mem_cons.mpr ⟨h3.warmM hW, List.forall_mem_cons.mpr ⟨h4.warmF hW, List.forall_mem_cons.mpr ⟨h5.warmM hW, List.forall_mem_cons.mpr ⟨h6.warmM hW, List.forall_mem_cons.mpr ⟨h7.warmM hW, List.forall_mem_cons.mpr ⟨h8.warmM hW, List.forall_mem_cons.mpr ⟨h9.warmM hW, fun _ h => absurd h List.not_mem_nil⟩⟩⟩⟩⟩⟩⟩⟩⟩
theorem Nst.same {s U : State} (h : s.vm = U.vm) (hN : Nst s) : Nst U := fun w hw => va_Nw.same (by
  unfold nestW at hw
  simp only [List.mem_cons, List.not_mem_nil, or_false] at hw
  rcases hw with rfl | rfl | rfl | rfl | rfl | rfl | rfl | rfl | rfl <;> rfl) h (hN w hw)
/-- a static table that nobody writes -/
def Stt (C n d : String) (ty : FieldType) (t N : Nat) (f : Nat → Int32) (A : Nat → Prop) (U : State) (H : Heap) : Prop := va_Z C n d (.ref t) A U H ∧ va_T ty t N (fun j => .int (f j)) A U H
theorem Stt.goes {C n d : String} {ty : FieldType} {t N : Nat} {f : Nat → Int32} {A B : Nat → Prop} {s U : State} {H H1 : Heap} (h : Stt C n d ty t N f A s H) (hq : ∀ a : Nat, a < H.size → ¬ A a → H1[a]? = H[a]?) (hAB : ∀ q, B q → A q) (hvm : s.vm.Alike U.vm) : Stt C n d ty t N f B U H1 := ⟨((h.1.kept hq).narrow hAB).moved hvm, ((h.2.kept hq).narrow hAB).moved hvm⟩
/-- what holds of a method's start and stays -/
def Fx (Γ : Gm) (A : Nat → Prop) (U : State) (H : Heap) : Prop := Gi Γ ∧ va_K Γ.2.1 clsL (tysL Γ) U ∧ Nst U ∧ Stt "StreetNumbers" "KIND_ABOVE" "[I" .int (Γ.2.2.2 0) 7 tKA A U H ∧ Stt "StreetNumbers" "NAMES" "[C" .char (Γ.2.2.2 1) 6 tNA A U H ∧ Stt "StreetNumbers$Voices" "BODIES" "[I" .int (Γ.2.2.2 2) 28 tBO A U H
/-- what moves: the world's numbers, and that nothing else changed -/
def Mv (Γ : Gm) (σ : St) (s : State) (H : Heap) (locs : List Loc) : Prop := va_P Γ.2.1 clsL (wl Γ σ) H ∧ va_S (Rg Γ s.heap.size) s.heap H locs
theorem Fx.callee {Γ : Gm} {σ : St} {s U : State} {H : Heap} {locs : List Loc} (F : Fx Γ (Rg Γ s.heap.size) s s.heap) (M : Mv Γ σ s H locs) (hU : U.heap = H) (hW : s.WarmedH U.vm) : Fx Γ (Rg Γ H.size) U U.heap := by
  obtain ⟨h1, h2, h3, h4, h5, h6⟩ := F
  subst hU
  have hq : ∀ a : Nat, a < s.heap.size → ¬ Rg Γ s.heap.size a → U.heap[a]? = s.heap[a]? := fun a ha hn => M.2.2.1 a ha hn
  have hAB : ∀ q, Rg Γ U.heap.size q → Rg Γ s.heap.size q := fun q h => Rg.up M.2.1 h
  exact ⟨h1, va_K.moved hW.alike h2, h3.warm hW, h4.goes hq hAB hW.alike, h5.goes hq hAB hW.alike, h6.goes hq hAB hW.alike⟩
theorem Fx.same {Γ : Gm} {A : Nat → Prop} {s U : State} {H : Heap} (F : Fx Γ A s H) (h : s.vm = U.vm) : Fx Γ A U H := by
  obtain ⟨h1, h2, h3, h4, h5, h6⟩ := F
  have hv : s.vm.Alike U.vm := by rw [h]; exact Vm.Alike.refl _
  exact ⟨h1, va_K.moved hv h2, h3.same h, h4.goes (fun _ _ _ => rfl) (fun _ h => h) hv, h5.goes (fun _ _ _ => rfl) (fun _ h => h) hv, h6.goes (fun _ _ _ => rfl) (fun _ h => h) hv⟩
def Pc (Γ : Gm) (σ : St) (sz : Nat) (av : List Value) : Array Value → State → Prop := va_Pc av (fun U => U.heap.size = sz ∧ va_P Γ.2.1 clsL (wl Γ σ) U.heap ∧ Fx Γ (Rg Γ sz) U U.heap)
def Qi (Γ : Gm) (r : Int32) (σ : St) (sz : Nat) : Array Value → State → Outcome → State → Prop := va_Qi (fun (z : Int32) (_ : Unit) => z = r) (fun _ t => va_P Γ.2.1 clsL (wl Γ σ) t.heap) (Rg Γ sz)
def Qv (Γ : Gm) (σ : St) (sz : Nat) : Array Value → State → Outcome → State → Prop := va_Qv (fun (_ : Unit) => True) (fun _ t => va_P Γ.2.1 clsL (wl Γ σ) t.heap) (Rg Γ sz)
def rmd (d : Nat) : Room := { frames := d, cells := 0, slots := 0, locals := 48 * d }
/-- a method's contract: its answer and the world's numbers behind it -/
abbrev MetI (l : Launch) (y : MethodName) (cc : ByteArray) (nL : Nat) (ty : FieldType) (d : Nat) (Γ : Gm) (σ : St) (av : List Value) (r : Int32) (σ' : St) : Prop := ∀ sz : Nat, Met l y (Cond.code y cc nL (some ty) :: gT) (rmd d) (Pc Γ σ sz av) (Qi Γ r σ' sz) 0 0 (Rg Γ sz)
abbrev MetV (l : Launch) (y : MethodName) (cc : ByteArray) (nL : Nat) (d : Nat) (Γ : Gm) (σ : St) (av : List Value) (σ' : St) : Prop := ∀ sz : Nat, Met l y (Cond.code y cc nL none :: gT) (rmd d) (Pc Γ σ sz av) (Qv Γ σ' sz) 0 0 (Rg Γ sz)
/-- what a method's body may use -/
def Cx (p : Program) (s : State) (m : MethodId) (args : Array Value) (meth : Method) (c : Code) (cc : ByteArray) (own : String) (nL : Nat) (ret : Option FieldType) (Γ : Gm) : Prop := p.tables.exec = Jvm.exec ∧ c.code = cc ∧ c.maxLocals = nL ∧ s.vm.findClass own = some m.cls ∧ (∀ w ∈ gT, w.before args s = true) ∧ meth.sig.returnType = ret ∧ meth.locks = false ∧ Fx Γ (Rg Γ s.heap.size) s s.heap
theorem Pc_blind {Γ : Gm} {σ : St} {sz : Nat} {av : List Value} : FrameBlind (Pc Γ σ sz av) := by
  intro a U g mk q
  obtain ⟨q0, q1, qP, qF⟩ := q
  exact ⟨q0, q1, qP, qF.same rfl⟩
theorem met_in {l : Launch} {y : MethodName} {cc : ByteArray} {nL d sz : Nat} {ret : Option FieldType} {Γ : Gm} {σ : St} {av : List Value} {Qc : Array Value → State → Outcome → State → Prop} (hy : plainName y.cls = true) (hn : (lg_sl av).length ≤ nL)
    (body : ∀ (p : Program) (e : Env) (s : State) (m : MethodId) (args : Array Value) (below : List Frame) (meth : Method) (c : Code) (ls : Array Slot), Cx p s m args meth c cc y.cls nL ret Γ → s.heap.size = sz → Mv Γ σ s s.heap [] → lv_has ls nL (lv_args 0 av) → W p l e (rmd d) s m args below meth c s.heap [] 0 0 (MQ below Qc args s 0 0 (Rg Γ sz)) (F0 m 0 ls [])) :
    Met l y (Cond.code y cc nL ret :: gT) (rmd d) (Pc Γ σ sz av) Qc 0 0 (Rg Γ sz) := by
  refine Met.ofW (cc := cc) (maxL := nL) (ret := ret) hy rfl ?_
  intro p e s m args below meth c s₁ B hml hv
  obtain ⟨rfl, hsz, hP, hF⟩ := hv
  have hts := atoms_spec (ws := Cond.code y cc nL ret :: gT) B.pre
  rw [lg_entry_eq]
  exact body p e s m _ below meth c _ ⟨B.exec, B.bytes, hml, findClass_of_methodNamed B.named, fun w hw => hts w (List.mem_cons_of_mem _ hw), B.returns, B.notSynchronized, by rw [hsz]; exact hF⟩ hsz ⟨hP, va_S.rf⟩ (lv_entry av hn)
section FR
variable {p : Program} {l : Launch} {e : Env} {R : Room} {s : State} {m : MethodId} {args : Array Value} {below : List Frame} {meth : Method} {c : Code} {H : Heap} {locs : List Loc} {cells slots : Nat} {Q : State → Prop}
variable {cc : ByteArray} {pc nL : Nat} {ls : Array Slot} {rest : List Value} {Γ : Gm} {σ : St} {own : String} {ret : Option FieldType}
theorem Cx.x (X : Cx p s m args meth c cc own nL ret Γ) : p.tables.exec = Jvm.exec := X.1
theorem Cx.b (X : Cx p s m args meth c cc own nL ret Γ) : c.code = cc := X.2.1
theorem Cx.ml (X : Cx p s m args meth c cc own nL ret Γ) : c.maxLocals = nL := X.2.2.1
theorem Cx.ow (X : Cx p s m args meth c cc own nL ret Γ) : s.vm.findClass own = some m.cls := X.2.2.2.1
theorem Cx.ts (X : Cx p s m args meth c cc own nL ret Γ) : ∀ w ∈ gT, w.before args s = true := X.2.2.2.2.1
theorem Cx.rt (X : Cx p s m args meth c cc own nL ret Γ) : meth.sig.returnType = ret := X.2.2.2.2.2.1
theorem Cx.lk (X : Cx p s m args meth c cc own nL ret Γ) : meth.locks = false := X.2.2.2.2.2.2.1
theorem Cx.F (X : Cx p s m args meth c cc own nL ret Γ) : Fx Γ (Rg Γ s.heap.size) s s.heap := X.2.2.2.2.2.2.2
theorem Mv.D (M : Mv Γ σ s H locs) (F : Fx Γ (Rg Γ s.heap.size) s s.heap) : va_D (Rg Γ s.heap.size) (wl Γ σ) := wl_D F.1 σ _
theorem r_get (X : Cx p s m args meth c cc own nL ret Γ) (M : Mv Γ σ s H locs) {q ci N idx : Nat} {cl ref : String} {T : u_T} {fs : List Value} {v : Value} (hq : q < nW) (he : el Γ q (σ q) = .inr (ci, fs)) (hc : clsL[ci]? = some (cl, T, N)) (hin : ∀ w ∈ u_ws cl T N, w ∈ gT) (k : Nat) (hk : k < N) (hlink : Cond.fieldLink own idx ref (T k).2.1 (T k).2.2.1 ∈ gT) (hsame : (T k).1 = ref) (hv : fs[k]? = some v) (hdg : decode cc pc = .ok (.getfield idx, 3))
    (kk : W p l e R s m args below meth c H locs cells slots Q (F0 m (pc + 3) ls (v :: rest))) : W p l e R s m args below meth c H locs cells slots Q (F0 m pc ls (.ref (Γ.1 q) :: rest)) :=
  va_get X.x X.b X.ts hin X.ow X.F.2.1 M.1 q (by rw [wl_at hq, he]) hc k hk (X.ts _ hlink) (fun x h => by rw [← hsame]; exact h) hv hdg kk
theorem r_put (X : Cx p s m args meth c cc own nL ret Γ) (M : Mv Γ σ s H locs) {q ci N idx : Nat} {cl ref : String} {T : u_T} {fs : List Value} {x : Int32} {ty0 : Nat → FieldType} {ty : FieldType} (hq : q < nW) (he : el Γ q (σ q) = .inr (ci, fs)) (hc : clsL[ci]? = some (cl, T, N)) (hin : ∀ w ∈ u_ws cl T N, w ∈ gT) (hty : ∀ k, k < N → parseFieldDescriptor (T k).2.2.1 = some (ty0 k)) (hnm : ∀ a, a < N → ∀ b, b < N → a ≠ b → (T a).2.1 ≠ (T b).2.1) (k : Nat) (hk : k < N) (hlink : Cond.fieldLink own idx ref (T k).2.1 (T k).2.2.1 ∈ gT) (hsame : (T k).1 = ref) (hfin : (T k).2.2.2 = false) (hd : ty0 k = ty) (hn : narrow ty (.int x) = .int x) (hfit : fits ty (.int x) = true) (hl : k < fs.length) (hset : el Γ q (upd (σ q) k x) = .inr (ci, fs.set k (.int x))) (hdg : decode cc pc = .ok (.putfield idx, 3))
    (kk : ∀ (H1 : Heap) (locs1 : List Loc), Mv Γ (st σ q k x) s H1 locs1 → W p l e R s m args below meth c H1 locs1 cells slots Q (F0 m (pc + 3) ls rest)) : W p l e R s m args below meth c H locs cells slots Q (F0 m pc ls (.int x :: .ref (Γ.1 q) :: rest)) := by
  subst hd
  refine va_put X.x X.b X.ts hin ty0 hty hnm X.ow X.F.2.1 M.1 (M.D X.F) M.2 q (by rw [wl_at hq, he]) hc k hk (X.ts _ hlink) (fun x h => by rw [← hsame]; exact h) hfin (hty k hk) hn hfit hl hdg (fun H1 locs1 hP hD hS => kk H1 locs1 ⟨?_, hS⟩)
  rw [← hset, wl_set _ hq] at hP
  exact hP
theorem r_iald (X : Cx p s m args meth c cc own nL ret Γ) (M : Mv Γ σ s H locs) {q n : Nat} (hn : alen q = n) {i : Int32} (hin : vp_in i n) (hdg : decode cc pc = .ok (.iaload, 1))
    (kk : W p l e R s m args below meth c H locs cells slots Q (F0 m (pc + 1) ls (.int (σ q i.toNatClampNeg) :: rest))) : W p l e R s m args below meth c H locs cells slots Q (F0 m pc ls (.int i :: .ref (Γ.1 q) :: rest)) := by
  have h0 : alen q ≠ 0 := fun h => hin (Or.inr (by omega))
  exact va_iald X.x X.b X.F.2.1 M.1 q 0 (by rw [wl_at (alen_lt h0)]; unfold el; rw [if_neg h0, hn]) rfl hin hdg kk
theorem r_iast (X : Cx p s m args meth c cc own nL ret Γ) (M : Mv Γ σ s H locs) {q n : Nat} (hn : alen q = n) {i x : Int32} (hin : vp_in i n) (hdg : decode cc pc = .ok (.iastore, 1))
    (kk : ∀ (H1 : Heap) (locs1 : List Loc), Mv Γ (st σ q i.toNatClampNeg x) s H1 locs1 → W p l e R s m args below meth c H1 locs1 cells slots Q (F0 m (pc + 1) ls rest)) : W p l e R s m args below meth c H locs cells slots Q (F0 m pc ls (.int x :: .int i :: .ref (Γ.1 q) :: rest)) := by
  have h0 : alen q ≠ 0 := fun h => hin (Or.inr (by omega))
  refine va_iast X.x X.b X.F.2.1 M.1 (M.D X.F) M.2 q 0 (by rw [wl_at (alen_lt h0)]; unfold el; rw [if_neg h0, hn]) rfl hin hdg (fun H1 locs1 hP hD hS => kk H1 locs1 ⟨?_, hS⟩)
  have e : (.inl (Γ.2.2.1.1, n, .inl (upd (σ q) i.toNatClampNeg x)) : va_E) = el Γ q (upd (σ q) i.toNatClampNeg x) := by unfold el; rw [if_neg h0, hn]
  rw [e, wl_set _ (alen_lt h0)] at hP
  exact hP
theorem r_aald (X : Cx p s m args meth c cc own nL ret Γ) (M : Mv Γ σ s H locs) {q n b : Nat} (hq : q < nW) (he : el Γ q (σ q) = .inl (Γ.2.2.1.2, n, .inr (.inr (.inr (.inr (fun i => if i < n then some (Γ.1 (b + i)) else none)))))) {i : Int32} (hin : vp_in i n) (hdg : decode cc pc = .ok (.aaload, 1))
    (kk : W p l e R s m args below meth c H locs cells slots Q (F0 m (pc + 1) ls (.ref (Γ.1 (b + i.toNatClampNeg)) :: rest))) : W p l e R s m args below meth c H locs cells slots Q (F0 m pc ls (.int i :: .ref (Γ.1 q) :: rest)) := by
  have hlt : i.toNatClampNeg < n := Nat.not_le.mp fun q => hin (Or.inr q)
  have hc : H[Γ.1 q]? = some (vp_cell Γ.2.2.1.2 (n, .inr (.inr (.inr (.inr (fun i => if i < n then some (Γ.1 (b + i)) else none)))))) := by
    have := M.1 q _ (wl_at hq)
    rw [he] at this
    exact this
  exact W.aald (v := .ref (Γ.1 (b + i.toNatClampNeg))) (ty := .array .int) X.x X.b hc ((X.F.2.1.2 1 (Γ.2.2.1.2, .array .int) rfl).1 n (fun j => va_rf (if j < n then some (Γ.1 (b + j)) else none))) rfl (fun q => by cases q) (by show ¬ (i < 0 ∨ (arrV _ _ _).slots.size ≤ _); rw [arrV_size]; exact hin) (by show (arrV _ _ _).slots[_]? = _; rw [arrV_read _ _ hlt]; simp only [if_pos hlt]; rfl) rfl rfl hdg kk
theorem r_alen (X : Cx p s m args meth c cc own nL ret Γ) (M : Mv Γ σ s H locs) {q n : Nat} (hn : alen q = n) (h0 : n ≠ 0) {v : Int32} (hv : Int32.ofNat n = v) (hdg : decode cc pc = .ok (.arraylength, 1))
    (kk : W p l e R s m args below meth c H locs cells slots Q (F0 m (pc + 1) ls (.int v :: rest))) : W p l e R s m args below meth c H locs cells slots Q (F0 m pc ls (.ref (Γ.1 q) :: rest)) :=
  va_alen (x := (n, .inl (σ q))) X.x X.b X.F.2.1 M.1 q 0 (by rw [wl_at (alen_lt (by rw [hn]; exact h0))]; unfold el; rw [if_neg (by rw [hn]; exact h0), hn]) rfl hv hdg kk
theorem r_copy (X : Cx p s m args meth c cc own nL ret Γ) (M : Mv Γ σ s H locs) {q1 q2 n1 n2 : Nat} (hn1 : alen q1 = n1) (hn2 : alen q2 = n2) (hl : lv_has ls nL []) {idx : Nat} {sp dp n : Int32} (h0 : n1 ≠ 0 ∧ n2 ≠ 0) (hok : ¬ sp < 0 ∧ ¬ dp < 0 ∧ ¬ n < 0 ∧ sp.toNatClampNeg + n.toNatClampNeg ≤ n1 ∧ dp.toNatClampNeg + n.toNatClampNeg ≤ n2)
    (hlink : Cond.methodLink own idx arraycopyName ∈ gT) (hnat : Cond.native arraycopyName ∈ gT) (hstat : Cond.static arraycopyName ∈ gT) (hini : Cond.initialized "java/lang/System" ∈ gT) (hframes : 1 ≤ R.frames) (hlocals : (rest.map fun v => v.category).sum + (nativeFrameWords "java/lang/System" "arraycopy" 5 + 11) ≤ R.locals) (hdg : decode cc pc = .ok (.invokestatic idx, 3))
    (kk : ∀ (H1 : Heap) (locs1 : List Loc), Mv Γ (sR σ q2 (va_cpy (σ q1) (σ q2) sp.toNatClampNeg dp.toNatClampNeg n.toNatClampNeg)) s H1 locs1 → W p l e R s m args below meth c H1 locs1 cells slots Q (F0 m (pc + 3) ls rest)) : W p l e R s m args below meth c H locs cells slots Q (F0 m pc ls (.int n :: .int dp :: .ref (Γ.1 q2) :: .int sp :: .ref (Γ.1 q1) :: rest)) := by
  subst hn1
  subst hn2
  refine va_copyi X.x X.b (by rw [X.ml]; exact hl.1.symm) X.ow (X.ts _ hlink) (X.ts _ hnat) (X.ts _ hstat) (X.ts _ hini) X.F.2.1 M.1 (M.D X.F) M.2 q1 q2 0 0 (by rw [wl_at (alen_lt h0.1)]; unfold el; rw [if_neg h0.1]) (by rw [wl_at (alen_lt h0.2)]; unfold el; rw [if_neg h0.2]) rfl rfl rfl hok.1 hok.2.1 hok.2.2.1 hok.2.2.2.1 hok.2.2.2.2 (fun i _ => rfl) hframes hlocals hdg (fun H1 locs1 hP hD hS => kk H1 locs1 ⟨?_, hS⟩)
  have e : ∀ r : Nat → Int32, (.inl (Γ.2.2.1.1, alen q2, .inl r) : va_E) = el Γ q2 r := fun r => by unfold el; rw [if_neg h0.2]
  rw [e, wl_set _ (alen_lt h0.2)] at hP
  exact hP
theorem r_gets (X : Cx p s m args meth c cc own nL ret Γ) (M : Mv Γ σ s H locs) {C n d : String} {ty : FieldType} {t N idx : Nat} {f : Nat → Int32} (hZ : Stt C n d ty t N f (Rg Γ s.heap.size) s s.heap) (hlink : Cond.fieldLink own idx C n d ∈ gT) (hdg : decode cc pc = .ok (.getstatic idx, 3))
    (kk : W p l e R s m args below meth c H locs cells slots Q (F0 m (pc + 3) ls (.ref t :: rest))) : W p l e R s m args below meth c H locs cells slots Q (F0 m pc ls rest) :=
  va_gets X.x X.b hZ.1 M.2 X.ow (X.ts _ hlink) (fun _ h => h) hdg kk
theorem r_getsN (X : Cx p s m args meth c cc own nL ret Γ) (M : Mv Γ σ s H locs) {C n d host : String} {ty : FieldType} {t N idx : Nat} {f : Nat → Int32} (hZ : Stt C n d ty t N f (Rg Γ s.heap.size) s s.heap) (hlink : Cond.fieldLinkNest own idx C n d host ∈ nestW) (hdg : decode cc pc = .ok (.getstatic idx, 3))
    (kk : W p l e R s m args below meth c H locs cells slots Q (F0 m (pc + 3) ls (.ref t :: rest))) : W p l e R s m args below meth c H locs cells slots Q (F0 m pc ls rest) :=
  va_getsN X.x X.b hZ.1 M.2 X.ow (va_Nw.use rfl (X.F.2.2.1 _ hlink)) (fun _ h => h) hdg kk
theorem r_ti (X : Cx p s m args meth c cc own nL ret Γ) (M : Mv Γ σ s H locs) {C n d : String} {t N : Nat} {f : Nat → Int32} (hZ : Stt C n d .int t N f (Rg Γ s.heap.size) s s.heap) {i : Int32} (hin : vp_in i N) (hdg : decode cc pc = .ok (.iaload, 1))
    (kk : W p l e R s m args below meth c H locs cells slots Q (F0 m (pc + 1) ls (.int (f i.toNatClampNeg) :: rest))) : W p l e R s m args below meth c H locs cells slots Q (F0 m pc ls (.int i :: .ref t :: rest)) :=
  va_ti X.x X.b hZ.2 M.2 hin rfl hdg kk
theorem r_tc (X : Cx p s m args meth c cc own nL ret Γ) (M : Mv Γ σ s H locs) {C n d : String} {t N : Nat} {f : Nat → Int32} (hZ : Stt C n d .char t N f (Rg Γ s.heap.size) s s.heap) {i : Int32} (hin : vp_in i N) (hdg : decode cc pc = .ok (.caload, 1))
    (kk : W p l e R s m args below meth c H locs cells slots Q (F0 m (pc + 1) ls (.int (f i.toNatClampNeg) :: rest))) : W p l e R s m args below meth c H locs cells slots Q (F0 m pc ls (.int i :: .ref t :: rest)) :=
  va_tc X.x X.b hZ.2 M.2 hin rfl hdg kk
theorem r_tlen (X : Cx p s m args meth c cc own nL ret Γ) (M : Mv Γ σ s H locs) {C n d : String} {ty : FieldType} {t N : Nat} {f : Nat → Int32} (hZ : Stt C n d ty t N f (Rg Γ s.heap.size) s s.heap) {v : Int32} (hv : Int32.ofNat N = v) (hdg : decode cc pc = .ok (.arraylength, 1))
    (kk : W p l e R s m args below meth c H locs cells slots Q (F0 m (pc + 1) ls (.int v :: rest))) : W p l e R s m args below meth c H locs cells slots Q (F0 m pc ls (.ref t :: rest)) :=
  va_tlen X.x X.b hZ.2 M.2 hv hdg kk
theorem r_recv (X : Cx p s m args meth c cc own nL ret Γ) (M : Mv Γ σ s H locs) {q ci N : Nat} {C : String} {T : u_T} {fs : List Value} (hq : q < nW) (he : el Γ q (σ q) = .inr (ci, fs)) (hc : clsL[ci]? = some (C, T, N)) : ∃ cellB : Cell, H[Γ.1 q]? = some cellB ∧ cellB.vm.isStatics = false ∧ s.vm.findClass C = some cellB.cls :=
  va_recv (q0 := q) X.F.2.1 M.1 hc (by rw [wl_at hq, he])
theorem r_pre {d : Nat} {av : List Value} (X : Cx p s m args meth c cc own nL ret Γ) (M : Mv Γ σ s H locs) : ∀ U : State, U.heap = H → s.WarmedH U.vm → Pc Γ σ H.size av av.toArray U := fun U hU hW => ⟨rfl, by rw [hU], by rw [hU]; exact M.1, X.F.callee M hU hW⟩
theorem r_free (M : Mv Γ σ s H locs) : ∀ q, Rg Γ H.size q → Rg Γ s.heap.size q := fun _ h => Rg.up M.2.1 h
theorem r_cw {y : MethodName} {bytes : ByteArray} {maxL n d idx : Nat} {rt : Option FieldType} (X : Cx p s m args meth c cc own nL ret Γ) (hlink : Cond.methodLink own idx y ∈ gT) (hini : Cond.initialized y.cls ∈ gT) (hcode : Cond.code y bytes maxL rt ∈ gT) (hd : y.cls ≠ "java/lang/invoke/MethodHandle" ∧ y.cls ≠ "java/lang/invoke/VarHandle" ∧ (parseMethodDescriptor y.desc).map (fun d => d.parameters.length) = some n) (hR : d + 1 ≤ R.frames ∧ 8 + (maxL + 11) + 48 * d ≤ R.locals) :
    CallB R s args own idx y bytes maxL rt (Cond.code y bytes maxL rt :: gT) (rmd d) 0 0 n :=
  callB_of n X.ts (gT_code hcode) rfl rfl rfl (X.ts _ hini) (X.ts _ hlink) hd hR
theorem r_cn {y : MethodName} {bytes : ByteArray} {maxL n d idx : Nat} {rt : Option FieldType} {host : String} (X : Cx p s m args meth c cc own nL ret Γ) (hlink : Cond.methodLinkNest own idx y host ∈ nestW) (hini : Cond.initialized y.cls ∈ gT) (hcode : Cond.code y bytes maxL rt ∈ gT) (hd : y.cls ≠ "java/lang/invoke/MethodHandle" ∧ y.cls ≠ "java/lang/invoke/VarHandle" ∧ (parseMethodDescriptor y.desc).map (fun d => d.parameters.length) = some n) (hR : d + 1 ≤ R.frames ∧ 8 + (maxL + 11) + 48 * d ≤ R.locals) :
    va_CN R s args own idx y host bytes maxL rt (Cond.code y bytes maxL rt :: gT) (rmd d) 0 0 n :=
  va_cnB n X.ts (gT_code hcode) rfl rfl rfl (X.F.2.2.1 _ hlink) (X.ts _ hini) hd hR
theorem r_runI {a : Array Value} {r : Int32} {σ1 : St} {st0 : List Value} (M : Mv Γ σ s H locs) (hr : va_Run p l e R s m args below meth c H locs cells slots 0 0 (F0 m pc ls st0) rest (Qi Γ r σ1 H.size a) (Rg Γ H.size))
    (kk : ∀ (H1 : Heap) (locs1 : List Loc), Mv Γ σ1 s H1 locs1 → W p l e R s m args below meth c H1 locs1 cells slots Q (F0 m (pc + 3) ls (.int r :: rest))) : W p l e R s m args below meth c H locs cells slots Q (F0 m pc ls st0) := by
  refine va_calli hr M.2 (fun q _ h => r_free M q h) (r_free M) (fun z u t H1 locs1 ht hvm hw hB hz hk hS => ?_)
  subst hw
  rw [ht] at hB
  exact kk H1 locs1 ⟨hB, hS⟩
theorem r_runV {a : Array Value} {σ1 : St} {st0 : List Value} (M : Mv Γ σ s H locs) (hr : va_Run p l e R s m args below meth c H locs cells slots 0 0 (F0 m pc ls st0) rest (Qv Γ σ1 H.size a) (Rg Γ H.size))
    (kk : ∀ (H1 : Heap) (locs1 : List Loc), Mv Γ σ1 s H1 locs1 → W p l e R s m args below meth c H1 locs1 cells slots Q (F0 m (pc + 3) ls rest)) : W p l e R s m args below meth c H locs cells slots Q (F0 m pc ls st0) := by
  refine va_callv hr M.2 (fun q _ h => r_free M q h) (r_free M) (fun u t H1 locs1 ht hvm hw hB hz hk hS => ?_)
  rw [ht] at hB
  exact kk H1 locs1 ⟨hB, hS⟩
/-- the words of a callee: its instance method's -/
def Cal (y : MethodName) (bytes : ByteArray) (maxL : Nat) (rt : Option FieldType) (n : Nat) : Prop := Cond.instanceMethod y ∈ gT ∧ Cond.selects y.cls y y ∈ gT ∧ Cond.initialized y.cls ∈ gT ∧ Cond.code y bytes maxL rt ∈ gT ∧ y.cls ≠ "java/lang/invoke/MethodHandle" ∧ y.cls ≠ "java/lang/invoke/VarHandle" ∧ (parseMethodDescriptor y.desc).map (fun d => d.parameters.length) = some n
def CalS (y : MethodName) (bytes : ByteArray) (maxL : Nat) (rt : Option FieldType) (n : Nat) : Prop := Cond.static y ∈ gT ∧ Cond.initialized y.cls ∈ gT ∧ Cond.code y bytes maxL rt ∈ gT ∧ y.cls ≠ "java/lang/invoke/MethodHandle" ∧ y.cls ≠ "java/lang/invoke/VarHandle" ∧ (parseMethodDescriptor y.desc).map (fun d => d.parameters.length) = some n
theorem r_callV {y : MethodName} {bytes : ByteArray} {maxL n d idx q ci N : Nat} {T : u_T} {fs As : List Value} {rt : Option FieldType} {Qc : Array Value → State → Outcome → State → Prop} (X : Cx p s m args meth c cc own nL ret Γ) (M : Mv Γ σ s H locs) (hl : lv_has ls nL []) (hM : Met l y (Cond.code y bytes maxL rt :: gT) (rmd d) (Pc Γ σ H.size (.ref (Γ.1 q) :: As)) Qc 0 0 (Rg Γ H.size)) (hC : Cal y bytes maxL rt n) (hlink : Cond.methodLink own idx y ∈ gT) (hR : d + 1 ≤ R.frames ∧ 8 + (maxL + 11) + 48 * d ≤ R.locals) (hq : q < nW) (he : el Γ q (σ q) = .inr (ci, fs)) (hc : clsL[ci]? = some (y.cls, T, N)) (hn : As.length = n) {st0 : List Value} (hst : st0 = As.reverse ++ .ref (Γ.1 q) :: rest) (hW : (rest.map fun v => v.category).sum ≤ 8) (hf : cells ≤ R.cells ∧ slots ≤ R.slots) (hdg : decode cc pc = .ok (.invokevirtual idx, 3)) :
    va_Run p l e R s m args below meth c H locs cells slots 0 0 (F0 m pc ls st0) rest (Qc (Value.ref (Γ.1 q) :: As).toArray) (Rg Γ H.size) :=
  va_runV (C := y.cls) (b := Γ.1 q) (As := As) ⟨X.x, X.b, X.ml, X.ow, X.ts⟩ hM ⟨r_cw X hlink hC.2.2.1 hC.2.2.2.1 hC.2.2.2.2 hR, X.ts _ hC.1, X.ts _ hC.2.1⟩ ⟨Pc_blind, r_recv X M hq he hc, r_pre (d := d) X M⟩ rfl hn hl.1 hst (lv_room hW) hdg hf
theorem r_callS {y : MethodName} {bytes : ByteArray} {maxL n d idx : Nat} {As : List Value} {rt : Option FieldType} {Qc : Array Value → State → Outcome → State → Prop} (X : Cx p s m args meth c cc own nL ret Γ) (M : Mv Γ σ s H locs) (hl : lv_has ls nL []) (hM : Met l y (Cond.code y bytes maxL rt :: gT) (rmd d) (Pc Γ σ H.size As) Qc 0 0 (Rg Γ H.size)) (hC : CalS y bytes maxL rt n) (hlink : Cond.methodLink own idx y ∈ gT) (hR : d + 1 ≤ R.frames ∧ 8 + (maxL + 11) + 48 * d ≤ R.locals) (hn : As.length = n) {st0 : List Value} (hst : st0 = As.reverse ++ rest) (hW : (rest.map fun v => v.category).sum ≤ 8) (hf : cells ≤ R.cells ∧ slots ≤ R.slots) (hdg : decode cc pc = .ok (.invokestatic idx, 3)) :
    va_Run p l e R s m args below meth c H locs cells slots 0 0 (F0 m pc ls st0) rest (Qc As.toArray) (Rg Γ H.size) :=
  va_runS (As := As) ⟨X.x, X.b, X.ml, X.ow, X.ts⟩ hM ⟨r_cw X hlink hC.2.1 hC.2.2.1 hC.2.2.2 hR, X.ts _ hC.1⟩ ⟨Pc_blind, r_pre (d := d) X M⟩ rfl hn hl.1 hst (lv_room hW) hdg hf
theorem r_callSN {y : MethodName} {bytes : ByteArray} {maxL n d idx : Nat} {As : List Value} {rt : Option FieldType} {host : String} {Qc : Array Value → State → Outcome → State → Prop} (X : Cx p s m args meth c cc own nL ret Γ) (M : Mv Γ σ s H locs) (hl : lv_has ls nL []) (hM : Met l y (Cond.code y bytes maxL rt :: gT) (rmd d) (Pc Γ σ H.size As) Qc 0 0 (Rg Γ H.size)) (hC : CalS y bytes maxL rt n) (hlink : Cond.methodLinkNest own idx y host ∈ nestW) (hR : d + 1 ≤ R.frames ∧ 8 + (maxL + 11) + 48 * d ≤ R.locals) (hn : As.length = n) {st0 : List Value} (hst : st0 = As.reverse ++ rest) (hW : (rest.map fun v => v.category).sum ≤ 8) (hf : cells ≤ R.cells ∧ slots ≤ R.slots) (hdg : decode cc pc = .ok (.invokestatic idx, 3)) :
    va_Run p l e R s m args below meth c H locs cells slots 0 0 (F0 m pc ls st0) rest (Qc As.toArray) (Rg Γ H.size) :=
  va_runSN (As := As) ⟨X.x, X.b, X.ml, X.ow, X.ts⟩ hM ⟨r_cn X hlink hC.2.1 hC.2.2.1 hC.2.2.2 hR, X.ts _ hC.1, trivial⟩ ⟨Pc_blind, r_pre (d := d) X M⟩ rfl hn hl.1 hst (lv_room hW) hdg hf
theorem r_iret {ty : FieldType} {v r : Int32} {σ' : St} (X : Cx p s m args meth c cc own nL (some ty) Γ) (M : Mv Γ σ s H locs) (hn : narrow ty (.int v) = .int v) (h : (some (v, σ) : Option (Int32 × St)) = some (r, σ')) (hdg : decode cc pc = .ok (.ireturn, 1)) : W p l e R s m args below meth c H locs cells slots (MQ below (Qi Γ r σ' s.heap.size) args s cells slots (Rg Γ s.heap.size)) (F0 m pc ls [.int v]) := by
  cases h
  exact W.zret (hlocks := X.lk) X.x X.b X.rt hn (fun t ht _ => ⟨⟨v, (), rfl, rfl, by show va_P _ _ _ t.heap; rw [ht]; exact M.1⟩, M.2.F ht⟩) M.2.2.2 hdg
theorem r_vret {r : Int32} {σ' : St} (X : Cx p s m args meth c cc own nL none Γ) (M : Mv Γ σ s H locs) (h : (some (0, σ) : Option (Int32 × St)) = some (r, σ')) (hdg : decode cc pc = .ok (.return_, 1)) : W p l e R s m args below meth c H locs cells slots (MQ below (Qv Γ σ' s.heap.size) args s cells slots (Rg Γ s.heap.size)) (F0 m pc ls []) := by
  cases h
  exact W.vret (hlocks := X.lk) X.x X.b X.rt (fun t ht _ => ⟨⟨(), rfl, trivial, by show va_P _ _ _ t.heap; rw [ht]; exact M.1⟩, M.2.F ht⟩) M.2.2.2 hdg
end FR
/-! the functions' own little words -/
abbrev Rs : Type := Option (Int32 × St)
def ob {α : Type} (x : Option (Int32 × St)) (k : Int32 → St → Option α) : Option α := match x with
  | some (r, σ) => k r σ
  | none => none
theorem ob_e {α : Type} {x : Option (Int32 × St)} {k : Int32 → St → Option α} {z : α} (h : ob x k = some z) : ∃ (r : Int32) (σ : St), x = some (r, σ) ∧ k r σ = some z := by
  cases x with
  | none => cases h
  | some q => exact ⟨q.1, q.2, rfl, h⟩
def ol {α β : Type} (a : α) (k : α → β) : β := k a
theorem ol_e {α β : Type} {a : α} {k : α → Option β} {z : β} (h : ol a k = some z) : ∃ b : α, b = a ∧ k b = some z := ⟨a, rfl, h⟩
theorem it_t {α : Type} {c : Prop} [Decidable c] {a b z : α} (hc : c) (h : (if c then a else b) = z) : a = z := by rwa [if_pos hc] at h
theorem it_f {α : Type} {c : Prop} [Decidable c] {a b z : α} (hc : ¬ c) (h : (if c then a else b) = z) : b = z := by rwa [if_neg hc] at h
theorem it_n {α : Type} {c : Prop} [Decidable c] {a : Option α} {z : α} (h : (if c then a else none) = some z) : c ∧ a = some z := by
  by_cases hc : c
  · rw [if_pos hc] at h; exact ⟨hc, h⟩
  · rw [if_neg hc] at h; cases h
theorem nar_b {x : Int32} (h : x = 0 ∨ x = 1) : narrow .boolean (.int x) = .int x := by rcases h with rfl | rfl <;> rfl
theorem nar_i {x : Int32} : narrow .int (.int x) = .int x := rfl
theorem in_lt {i : Int32} {n : Nat} (h : vp_in i n) : i.toNatClampNeg < n := Nat.not_le.mp fun q => h (Or.inr q)
def LF : Nat := 1000
def irm (x y : Int32) : Int32 := x - x / y * y
def imin (x y : Int32) : Int32 := if y < x then y else x
def imax (x y : Int32) : Int32 := if x < y then y else x
def iabs (x : Int32) : Int32 := if 0 ≤ x then x else 0 - x
def iushr (x y : Int32) : Int32 := (x.toUInt32 >>> (y.toUInt32 &&& Int32.toUInt32 31)).toInt32
def lushr (x : Int64) (y : Int32) : Int64 := (x.toUInt64 >>> (y.toInt64.toUInt64 &&& Int64.toUInt64 63)).toInt64
def lshl (x : Int64) (y : Int32) : Int64 := x <<< (y.toInt64 &&& 63)
def lshr (x : Int64) (y : Int32) : Int64 := x >>> (y.toInt64 &&& 63)
section FM
variable {p : Program} {l : Launch} {e : Env} {R : Room} {s : State} {m : MethodId} {args : Array Value} {below : List Frame} {meth : Method} {c : Code} {H : Heap} {locs : List Loc} {cells slots : Nat} {Q : State → Prop}
variable {cc : ByteArray} {pc nL : Nat} {ls : Array Slot} {rest : List Value} {Γ : Gm} {own : String} {ret : Option FieldType}
theorem r_irem (X : Cx p s m args meth c cc own nL ret Γ) {x y : Int32} (hdg : decode cc pc = .ok (.irem, 1)) (hne : ¬ y = 0)
    (k : W p l e R s m args below meth c H locs cells slots Q (F0 m (pc + 1) ls (.int (irm x y) :: rest))) : W p l e R s m args below meth c H locs cells slots Q (F0 m pc ls (.int y :: .int x :: rest)) := lv_irem X.x X.b hdg hne k
theorem r_mmin (X : Cx p s m args meth c cc own nL ret Γ) (hl : lv_has ls nL []) {idx : Nat} (hlink : Cond.methodLink own idx Lib.Math.min.name ∈ gT) (hstat : Cond.static Lib.Math.min.name ∈ gT) (hini : Cond.initialized "java/lang/Math" ∈ gT) (hcode : Cond.code Lib.Math.min.name Lib.Math.min.code 2 (some .int) ∈ gT) (hframes : 1 ≤ R.frames) (hlocals : (rest.map fun v => v.category).sum + 13 ≤ 40) (hloc : 40 ≤ R.locals) (hc : cells ≤ R.cells ∧ slots ≤ R.slots) {x y : Int32} (hdg : decode cc pc = .ok (.invokestatic idx, 3))
    (kk : W p l e R s m args below meth c H locs cells slots Q (F0 m (pc + 3) ls (.int (imin x y) :: rest))) : W p l e R s m args below meth c H locs cells slots Q (F0 m pc ls (.int y :: .int x :: rest)) :=
  va_mmin X.x X.b (by rw [X.ml]; exact hl.1.symm) X.ow (X.ts _ hlink) (X.ts _ hstat) (X.ts _ hini) (X.ts _ hcode) hframes (Nat.le_trans hlocals hloc) hc.1 hc.2 hdg kk
theorem r_mmax (X : Cx p s m args meth c cc own nL ret Γ) (hl : lv_has ls nL []) {idx : Nat} (hlink : Cond.methodLink own idx Lib.Math.max.name ∈ gT) (hstat : Cond.static Lib.Math.max.name ∈ gT) (hini : Cond.initialized "java/lang/Math" ∈ gT) (hcode : Cond.code Lib.Math.max.name Lib.Math.max.code 2 (some .int) ∈ gT) (hframes : 1 ≤ R.frames) (hlocals : (rest.map fun v => v.category).sum + 13 ≤ 40) (hloc : 40 ≤ R.locals) (hc : cells ≤ R.cells ∧ slots ≤ R.slots) {x y : Int32} (hdg : decode cc pc = .ok (.invokestatic idx, 3))
    (kk : W p l e R s m args below meth c H locs cells slots Q (F0 m (pc + 3) ls (.int (imax x y) :: rest))) : W p l e R s m args below meth c H locs cells slots Q (F0 m pc ls (.int y :: .int x :: rest)) :=
  va_mmax X.x X.b (by rw [X.ml]; exact hl.1.symm) X.ow (X.ts _ hlink) (X.ts _ hstat) (X.ts _ hini) (X.ts _ hcode) hframes (Nat.le_trans hlocals hloc) hc.1 hc.2 hdg kk
theorem r_mabs (X : Cx p s m args meth c cc own nL ret Γ) (hl : lv_has ls nL []) {idx : Nat} (hlink : Cond.methodLink own idx Lib.Math.abs.name ∈ gT) (hstat : Cond.static Lib.Math.abs.name ∈ gT) (hini : Cond.initialized "java/lang/Math" ∈ gT) (hcode : Cond.code Lib.Math.abs.name Lib.Math.abs.code 1 (some .int) ∈ gT) (hframes : 1 ≤ R.frames) (hlocals : (rest.map fun v => v.category).sum + 13 ≤ 40) (hloc : 40 ≤ R.locals) (hc : cells ≤ R.cells ∧ slots ≤ R.slots) {x : Int32} (hdg : decode cc pc = .ok (.invokestatic idx, 3))
    (kk : W p l e R s m args below meth c H locs cells slots Q (F0 m (pc + 3) ls (.int (iabs x) :: rest))) : W p l e R s m args below meth c H locs cells slots Q (F0 m pc ls (.int x :: rest)) :=
  va_mabs X.x X.b (by rw [X.ml]; exact hl.1.symm) X.ow (X.ts _ hlink) (X.ts _ hstat) (X.ts _ hini) (X.ts _ hcode) hframes (Nat.le_trans hlocals hloc) hc.1 hc.2 hdg kk
end FM
end
section
theorem q1 : Cond.initialized "StreetNumbers" ∈ gT := gT_t 1 (by decide +kernel) rfl
theorem q2 : Cond.initialized "StreetNumbers$Street" ∈ gT := gT_t 2 (by decide +kernel) rfl
theorem q3 : Cond.initialized "StreetNumbers$Laws" ∈ gT := gT_t 3 (by decide +kernel) rfl
theorem q4 : Cond.initialized "StreetNumbers$Reader" ∈ gT := gT_t 4 (by decide +kernel) rfl
theorem q5 : Cond.initialized "StreetNumbers$Thoughts" ∈ gT := gT_t 5 (by decide +kernel) rfl
theorem q6 : Cond.initialized "StreetNumbers$Voices" ∈ gT := gT_t 6 (by decide +kernel) rfl
theorem q7 : Cond.initialized "StreetNumbers$Sheets" ∈ gT := gT_t 7 (by decide +kernel) rfl
theorem q8 : Cond.initialized "StreetNumbersModel" ∈ gT := gT_t 8 (by decide +kernel) rfl
theorem q9 : Cond.initialized "java/lang/System" ∈ gT := gT_t 9 (by decide +kernel) rfl
theorem q10 : Cond.initialized "java/lang/Math" ∈ gT := gT_t 10 (by decide +kernel) rfl
theorem q33 : Cond.fieldLink "StreetNumbers$Laws" 9 "StreetNumbers$Laws" "tape" "[I" ∈ gT := gT_t 33 (by decide +kernel) rfl
theorem q34 : Cond.fieldLink "StreetNumbers" 131 "StreetNumbers$Laws" "tape" "[I" ∈ gT := gT_t 34 (by decide +kernel) rfl
theorem q35 : Cond.fieldLink "StreetNumbers$Laws" 26 "StreetNumbers$Laws" "taped" "I" ∈ gT := gT_t 35 (by decide +kernel) rfl
theorem q36 : Cond.fieldLink "StreetNumbers" 119 "StreetNumbers$Laws" "taped" "I" ∈ gT := gT_t 36 (by decide +kernel) rfl
theorem q37 : Cond.fieldLink "StreetNumbers$Laws" 17 "StreetNumbers$Laws" "steps" "[[I" ∈ gT := gT_t 37 (by decide +kernel) rfl
theorem q38 : Cond.fieldLink "StreetNumbers$Laws" 20 "StreetNumbers$Laws" "stepped" "[I" ∈ gT := gT_t 38 (by decide +kernel) rfl
theorem q39 : Cond.fieldLink "StreetNumbers$Laws" 23 "StreetNumbers$Laws" "stack" "[I" ∈ gT := gT_t 39 (by decide +kernel) rfl
theorem q52 : Cond.fieldLink "StreetNumbers$Street" 12 "StreetNumbers$Street" "laws" "LStreetNumbers$Laws;" ∈ gT := gT_t 52 (by decide +kernel) rfl
theorem q53 : Cond.fieldLink "StreetNumbers" 115 "StreetNumbers$Street" "laws" "LStreetNumbers$Laws;" ∈ gT := gT_t 53 (by decide +kernel) rfl
theorem q54 : Cond.fieldLink "StreetNumbers$Thoughts" 26 "StreetNumbers$Street" "houses" "I" ∈ gT := gT_t 54 (by decide +kernel) rfl
theorem q55 : Cond.fieldLink "StreetNumbers$Street" 38 "StreetNumbers$Street" "houses" "I" ∈ gT := gT_t 55 (by decide +kernel) rfl
theorem q56 : Cond.fieldLink "StreetNumbers" 59 "StreetNumbers$Street" "houses" "I" ∈ gT := gT_t 56 (by decide +kernel) rfl
theorem q57 : Cond.fieldLink "StreetNumbers$Street" 41 "StreetNumbers$Street" "year" "I" ∈ gT := gT_t 57 (by decide +kernel) rfl
theorem q58 : Cond.fieldLink "StreetNumbers" 112 "StreetNumbers$Street" "year" "I" ∈ gT := gT_t 58 (by decide +kernel) rfl
theorem q59 : Cond.fieldLink "StreetNumbers$Street" 44 "StreetNumbers$Street" "done" "I" ∈ gT := gT_t 59 (by decide +kernel) rfl
theorem q60 : Cond.fieldLink "StreetNumbers" 267 "StreetNumbers$Street" "done" "I" ∈ gT := gT_t 60 (by decide +kernel) rfl
theorem q61 : Cond.fieldLink "StreetNumbers$Street" 34 "StreetNumbers$Street" "z" "I" ∈ gT := gT_t 61 (by decide +kernel) rfl
theorem q62 : Cond.fieldLink "StreetNumbers" 205 "StreetNumbers$Street" "z" "I" ∈ gT := gT_t 62 (by decide +kernel) rfl
theorem q63 : Cond.fieldLink "StreetNumbers$Street" 47 "StreetNumbers$Street" "waits" "I" ∈ gT := gT_t 63 (by decide +kernel) rfl
theorem q64 : Cond.fieldLink "StreetNumbers" 258 "StreetNumbers$Street" "waits" "I" ∈ gT := gT_t 64 (by decide +kernel) rfl
theorem q65 : Cond.fieldLink "StreetNumbers$Street" 18 "StreetNumbers$Street" "kinds" "[I" ∈ gT := gT_t 65 (by decide +kernel) rfl
theorem q66 : Cond.fieldLink "StreetNumbers$Street" 22 "StreetNumbers$Street" "extras" "[I" ∈ gT := gT_t 66 (by decide +kernel) rfl
theorem q67 : Cond.fieldLink "StreetNumbers$Street" 25 "StreetNumbers$Street" "signs" "[I" ∈ gT := gT_t 67 (by decide +kernel) rfl
theorem q68 : Cond.fieldLink "StreetNumbers$Street" 28 "StreetNumbers$Street" "row" "[I" ∈ gT := gT_t 68 (by decide +kernel) rfl
theorem q69 : Cond.fieldLink "StreetNumbers$Street" 31 "StreetNumbers$Street" "waiting" "[I" ∈ gT := gT_t 69 (by decide +kernel) rfl
theorem q99 : Cond.fieldLink "StreetNumbers$Reader" 9 "StreetNumbers$Reader" "steps" "[I" ∈ gT := gT_t 99 (by decide +kernel) rfl
theorem q100 : Cond.fieldLink "StreetNumbers" 138 "StreetNumbers$Reader" "steps" "[I" ∈ gT := gT_t 100 (by decide +kernel) rfl
theorem q101 : Cond.fieldLink "StreetNumbers$Reader" 35 "StreetNumbers$Reader" "stepped" "I" ∈ gT := gT_t 101 (by decide +kernel) rfl
theorem q102 : Cond.fieldLink "StreetNumbers" 141 "StreetNumbers$Reader" "stepped" "I" ∈ gT := gT_t 102 (by decide +kernel) rfl
theorem q103 : Cond.fieldLink "StreetNumbers$Reader" 15 "StreetNumbers$Reader" "bytes" "[I" ∈ gT := gT_t 103 (by decide +kernel) rfl
theorem q104 : Cond.fieldLink "StreetNumbers$Reader" 28 "StreetNumbers$Reader" "size" "I" ∈ gT := gT_t 104 (by decide +kernel) rfl
theorem q105 : Cond.fieldLink "StreetNumbers$Reader" 32 "StreetNumbers$Reader" "at" "I" ∈ gT := gT_t 105 (by decide +kernel) rfl
theorem q106 : Cond.fieldLink "StreetNumbers$Reader" 38 "StreetNumbers$Reader" "names" "I" ∈ gT := gT_t 106 (by decide +kernel) rfl
theorem q127 : Cond.fieldLink "StreetNumbers$Thoughts" 56 "StreetNumbers$Thoughts" "looked" "I" ∈ gT := gT_t 127 (by decide +kernel) rfl
theorem q128 : Cond.fieldLink "StreetNumbers" 177 "StreetNumbers$Thoughts" "looked" "I" ∈ gT := gT_t 128 (by decide +kernel) rfl
theorem q129 : Cond.fieldLink "StreetNumbers$Thoughts" 13 "StreetNumbers$Thoughts" "sums" "[[I" ∈ gT := gT_t 129 (by decide +kernel) rfl
theorem q130 : Cond.fieldLink "StreetNumbers$Thoughts" 16 "StreetNumbers$Thoughts" "lasts" "[[I" ∈ gT := gT_t 130 (by decide +kernel) rfl
theorem q131 : Cond.fieldLink "StreetNumbers$Thoughts" 19 "StreetNumbers$Thoughts" "rising" "[I" ∈ gT := gT_t 131 (by decide +kernel) rfl
theorem q132 : Cond.fieldLink "StreetNumbers$Thoughts" 23 "StreetNumbers$Thoughts" "lengths" "[I" ∈ gT := gT_t 132 (by decide +kernel) rfl
theorem q150 : Cond.fieldLink "StreetNumbers$Voices" 25 "StreetNumbers$Voices" "parted" "Z" ∈ gT := gT_t 150 (by decide +kernel) rfl
theorem q151 : Cond.fieldLink "StreetNumbers" 212 "StreetNumbers$Voices" "parted" "Z" ∈ gT := gT_t 151 (by decide +kernel) rfl
theorem q152 : Cond.fieldLink "StreetNumbers$Voices" 29 "StreetNumbers$Voices" "traced" "I" ∈ gT := gT_t 152 (by decide +kernel) rfl
theorem q153 : Cond.fieldLink "StreetNumbers" 216 "StreetNumbers$Voices" "traced" "I" ∈ gT := gT_t 153 (by decide +kernel) rfl
theorem q154 : Cond.fieldLink "StreetNumbers$Voices" 11 "StreetNumbers$Voices" "trace" "[I" ∈ gT := gT_t 154 (by decide +kernel) rfl
theorem q155 : Cond.fieldLink "StreetNumbers$Voices" 15 "StreetNumbers$Voices" "kind" "I" ∈ gT := gT_t 155 (by decide +kernel) rfl
theorem q156 : Cond.fieldLink "StreetNumbers$Voices" 19 "StreetNumbers$Voices" "k" "I" ∈ gT := gT_t 156 (by decide +kernel) rfl
theorem q157 : Cond.fieldLink "StreetNumbers$Voices" 22 "StreetNumbers$Voices" "m" "I" ∈ gT := gT_t 157 (by decide +kernel) rfl
theorem q178 : Cond.fieldLink "StreetNumbers$Sheets" 11 "StreetNumbers$Sheets" "rows" "[[I" ∈ gT := gT_t 178 (by decide +kernel) rfl
theorem q179 : Cond.fieldLink "StreetNumbers$Sheets" 14 "StreetNumbers$Sheets" "widths" "[I" ∈ gT := gT_t 179 (by decide +kernel) rfl
theorem q180 : Cond.fieldLink "StreetNumbers$Sheets" 18 "StreetNumbers$Sheets" "sizes" "[I" ∈ gT := gT_t 180 (by decide +kernel) rfl
theorem q188 : Cond.fieldLink "StreetNumbers" 10 "StreetNumbers" "street" "LStreetNumbers$Street;" ∈ gT := gT_t 188 (by decide +kernel) rfl
theorem q189 : Cond.fieldLink "StreetNumbers" 16 "StreetNumbers" "kept" "LStreetNumbers$Street;" ∈ gT := gT_t 189 (by decide +kernel) rfl
theorem q190 : Cond.fieldLink "StreetNumbers" 22 "StreetNumbers" "reader" "LStreetNumbers$Reader;" ∈ gT := gT_t 190 (by decide +kernel) rfl
theorem q191 : Cond.fieldLink "StreetNumbers" 29 "StreetNumbers" "thoughts" "LStreetNumbers$Thoughts;" ∈ gT := gT_t 191 (by decide +kernel) rfl
theorem q192 : Cond.fieldLink "StreetNumbers" 36 "StreetNumbers" "voices" "LStreetNumbers$Voices;" ∈ gT := gT_t 192 (by decide +kernel) rfl
theorem q193 : Cond.fieldLink "StreetNumbers" 43 "StreetNumbers" "sheets" "LStreetNumbers$Sheets;" ∈ gT := gT_t 193 (by decide +kernel) rfl
theorem q194 : Cond.fieldLink "StreetNumbers" 47 "StreetNumbers" "errors" "[I" ∈ gT := gT_t 194 (by decide +kernel) rfl
theorem q195 : Cond.fieldLink "StreetNumbers" 51 "StreetNumbers" "images" "I" ∈ gT := gT_t 195 (by decide +kernel) rfl
theorem q217 : Cond.methodLink "StreetNumbers" 55 ⟨"StreetNumbers", "isKindWithM", "(I)Z"⟩ ∈ gT := gT_t 217 (by decide +kernel) rfl
theorem q218 : Cond.static ⟨"StreetNumbers", "isKindWithM", "(I)Z"⟩ ∈ gT := gT_t 218 (by decide +kernel) rfl
theorem q219 : Cond.code ⟨"StreetNumbers", "isKindWithM", "(I)Z"⟩ prog_1_method_41_code 1 (Option.some FieldType.boolean) ∈ gT := gT_t 219 (by decide +kernel) rfl
theorem q220 : Cond.methodLink "StreetNumbers" 62 ⟨"StreetNumbers", "isPlate", "(I)Z"⟩ ∈ gT := gT_t 220 (by decide +kernel) rfl
theorem q221 : Cond.static ⟨"StreetNumbers", "isPlate", "(I)Z"⟩ ∈ gT := gT_t 221 (by decide +kernel) rfl
theorem q222 : Cond.code ⟨"StreetNumbers", "isPlate", "(I)Z"⟩ prog_1_method_42_code 1 (Option.some FieldType.boolean) ∈ gT := gT_t 222 (by decide +kernel) rfl
theorem q223 : Cond.methodLink "StreetNumbers" 65 ⟨"StreetNumbers", "failing", "(I)I"⟩ ∈ gT := gT_t 223 (by decide +kernel) rfl
theorem q225 : Cond.instanceMethod ⟨"StreetNumbers", "failing", "(I)I"⟩ ∈ gT := gT_t 225 (by decide +kernel) rfl
theorem q226 : Cond.code ⟨"StreetNumbers", "failing", "(I)I"⟩ prog_1_method_39_code 2 (Option.some FieldType.int) ∈ gT := gT_t 226 (by decide +kernel) rfl
theorem q227 : Cond.constant "StreetNumbers" 270 (-1000000000 : Int32) ∈ gT := gT_t 227 (by decide +kernel) rfl
theorem q228 : Cond.methodLink "StreetNumbers" 69 ⟨"StreetNumbers$Street", "addHouse", "(IIII)I"⟩ ∈ gT := gT_t 228 (by decide +kernel) rfl
theorem q229 : Cond.instanceMethod ⟨"StreetNumbers$Street", "addHouse", "(IIII)I"⟩ ∈ gT := gT_t 229 (by decide +kernel) rfl
theorem q230 : Cond.selects "StreetNumbers$Street" ⟨"StreetNumbers$Street", "addHouse", "(IIII)I"⟩ ⟨"StreetNumbers$Street", "addHouse", "(IIII)I"⟩ ∈ gT := gT_t 230 (by decide +kernel) rfl
theorem q231 : Cond.code ⟨"StreetNumbers$Street", "addHouse", "(IIII)I"⟩ prog_5_method_12_code 6 (Option.some FieldType.int) ∈ gT := gT_t 231 (by decide +kernel) rfl
theorem q232 : Cond.methodLink "StreetNumbers$Street" 50 ⟨"java/lang/System", "arraycopy", "(Ljava/lang/Object;ILjava/lang/Object;II)V"⟩ ∈ gT := gT_t 232 (by decide +kernel) rfl
theorem q233 : Cond.static ⟨"java/lang/System", "arraycopy", "(Ljava/lang/Object;ILjava/lang/Object;II)V"⟩ ∈ gT := gT_t 233 (by decide +kernel) rfl
theorem q234 : Cond.native ⟨"java/lang/System", "arraycopy", "(Ljava/lang/Object;ILjava/lang/Object;II)V"⟩ ∈ gT := gT_t 234 (by decide +kernel) rfl
theorem q235 : Cond.methodLink "StreetNumbers$Street" 71 ⟨"StreetNumbers$Street", "setKind", "(III)V"⟩ ∈ gT := gT_t 235 (by decide +kernel) rfl
theorem q236 : Cond.instanceMethod ⟨"StreetNumbers$Street", "setKind", "(III)V"⟩ ∈ gT := gT_t 236 (by decide +kernel) rfl
theorem q237 : Cond.selects "StreetNumbers$Street" ⟨"StreetNumbers$Street", "setKind", "(III)V"⟩ ⟨"StreetNumbers$Street", "setKind", "(III)V"⟩ ∈ gT := gT_t 237 (by decide +kernel) rfl
theorem q238 : Cond.code ⟨"StreetNumbers$Street", "setKind", "(III)V"⟩ prog_5_method_10_code 4 (Option.none : Option FieldType) ∈ gT := gT_t 238 (by decide +kernel) rfl
theorem q239 : Cond.methodLink "StreetNumbers$Street" 60 ⟨"StreetNumbers$Street", "hasHouse", "(I)Z"⟩ ∈ gT := gT_t 239 (by decide +kernel) rfl
theorem q240 : Cond.instanceMethod ⟨"StreetNumbers$Street", "hasHouse", "(I)Z"⟩ ∈ gT := gT_t 240 (by decide +kernel) rfl
theorem q241 : Cond.selects "StreetNumbers$Street" ⟨"StreetNumbers$Street", "hasHouse", "(I)Z"⟩ ⟨"StreetNumbers$Street", "hasHouse", "(I)Z"⟩ ∈ gT := gT_t 241 (by decide +kernel) rfl
theorem q242 : Cond.code ⟨"StreetNumbers$Street", "hasHouse", "(I)Z"⟩ prog_5_method_3_code 2 (Option.some FieldType.boolean) ∈ gT := gT_t 242 (by decide +kernel) rfl
theorem q243 : Cond.methodLink "StreetNumbers$Street" 75 ⟨"StreetNumbers$Street", "setPlate", "(II)V"⟩ ∈ gT := gT_t 243 (by decide +kernel) rfl
theorem q244 : Cond.instanceMethod ⟨"StreetNumbers$Street", "setPlate", "(II)V"⟩ ∈ gT := gT_t 244 (by decide +kernel) rfl
theorem q245 : Cond.selects "StreetNumbers$Street" ⟨"StreetNumbers$Street", "setPlate", "(II)V"⟩ ⟨"StreetNumbers$Street", "setPlate", "(II)V"⟩ ∈ gT := gT_t 245 (by decide +kernel) rfl
theorem q246 : Cond.code ⟨"StreetNumbers$Street", "setPlate", "(II)V"⟩ prog_5_method_11_code 3 (Option.none : Option FieldType) ∈ gT := gT_t 246 (by decide +kernel) rfl
theorem q251 : Cond.methodLink "StreetNumbers" 73 ⟨"StreetNumbers$Street", "hasHouse", "(I)Z"⟩ ∈ gT := gT_t 251 (by decide +kernel) rfl
theorem q252 : Cond.methodLink "StreetNumbers" 76 ⟨"StreetNumbers$Street", "kind", "(I)I"⟩ ∈ gT := gT_t 252 (by decide +kernel) rfl
theorem q253 : Cond.instanceMethod ⟨"StreetNumbers$Street", "kind", "(I)I"⟩ ∈ gT := gT_t 253 (by decide +kernel) rfl
theorem q254 : Cond.selects "StreetNumbers$Street" ⟨"StreetNumbers$Street", "kind", "(I)I"⟩ ⟨"StreetNumbers$Street", "kind", "(I)I"⟩ ∈ gT := gT_t 254 (by decide +kernel) rfl
theorem q255 : Cond.code ⟨"StreetNumbers$Street", "kind", "(I)I"⟩ prog_5_method_4_code 2 (Option.some FieldType.int) ∈ gT := gT_t 255 (by decide +kernel) rfl
theorem q256 : Cond.methodLink "StreetNumbers" 79 ⟨"StreetNumbers$Street", "m", "(I)I"⟩ ∈ gT := gT_t 256 (by decide +kernel) rfl
theorem q257 : Cond.instanceMethod ⟨"StreetNumbers$Street", "m", "(I)I"⟩ ∈ gT := gT_t 257 (by decide +kernel) rfl
theorem q258 : Cond.selects "StreetNumbers$Street" ⟨"StreetNumbers$Street", "m", "(I)I"⟩ ⟨"StreetNumbers$Street", "m", "(I)I"⟩ ∈ gT := gT_t 258 (by decide +kernel) rfl
theorem q259 : Cond.code ⟨"StreetNumbers$Street", "m", "(I)I"⟩ prog_5_method_5_code 2 (Option.some FieldType.int) ∈ gT := gT_t 259 (by decide +kernel) rfl
theorem q260 : Cond.methodLink "StreetNumbers" 82 ⟨"StreetNumbers$Street", "plate", "(I)I"⟩ ∈ gT := gT_t 260 (by decide +kernel) rfl
theorem q261 : Cond.instanceMethod ⟨"StreetNumbers$Street", "plate", "(I)I"⟩ ∈ gT := gT_t 261 (by decide +kernel) rfl
theorem q262 : Cond.selects "StreetNumbers$Street" ⟨"StreetNumbers$Street", "plate", "(I)I"⟩ ⟨"StreetNumbers$Street", "plate", "(I)I"⟩ ∈ gT := gT_t 262 (by decide +kernel) rfl
theorem q263 : Cond.code ⟨"StreetNumbers$Street", "plate", "(I)I"⟩ prog_5_method_6_code 2 (Option.some FieldType.int) ∈ gT := gT_t 263 (by decide +kernel) rfl
theorem q264 : Cond.methodLink "StreetNumbers" 85 ⟨"StreetNumbers$Street", "placeOf", "(I)I"⟩ ∈ gT := gT_t 264 (by decide +kernel) rfl
theorem q265 : Cond.instanceMethod ⟨"StreetNumbers$Street", "placeOf", "(I)I"⟩ ∈ gT := gT_t 265 (by decide +kernel) rfl
theorem q266 : Cond.selects "StreetNumbers$Street" ⟨"StreetNumbers$Street", "placeOf", "(I)I"⟩ ⟨"StreetNumbers$Street", "placeOf", "(I)I"⟩ ∈ gT := gT_t 266 (by decide +kernel) rfl
theorem q267 : Cond.code ⟨"StreetNumbers$Street", "placeOf", "(I)I"⟩ prog_5_method_9_code 3 (Option.some FieldType.int) ∈ gT := gT_t 267 (by decide +kernel) rfl
theorem q268 : Cond.methodLink "StreetNumbers" 88 ⟨"StreetNumbers$Street", "yardsAt", "(I)I"⟩ ∈ gT := gT_t 268 (by decide +kernel) rfl
theorem q269 : Cond.instanceMethod ⟨"StreetNumbers$Street", "yardsAt", "(I)I"⟩ ∈ gT := gT_t 269 (by decide +kernel) rfl
theorem q270 : Cond.selects "StreetNumbers$Street" ⟨"StreetNumbers$Street", "yardsAt", "(I)I"⟩ ⟨"StreetNumbers$Street", "yardsAt", "(I)I"⟩ ∈ gT := gT_t 270 (by decide +kernel) rfl
theorem q271 : Cond.code ⟨"StreetNumbers$Street", "yardsAt", "(I)I"⟩ prog_5_method_20_code 2 (Option.some FieldType.int) ∈ gT := gT_t 271 (by decide +kernel) rfl
theorem q272 : Cond.methodLink "StreetNumbers$Street" 64 ⟨"StreetNumbers$Street", "houseAt", "(I)I"⟩ ∈ gT := gT_t 272 (by decide +kernel) rfl
theorem q273 : Cond.instanceMethod ⟨"StreetNumbers$Street", "houseAt", "(I)I"⟩ ∈ gT := gT_t 273 (by decide +kernel) rfl
theorem q274 : Cond.selects "StreetNumbers$Street" ⟨"StreetNumbers$Street", "houseAt", "(I)I"⟩ ⟨"StreetNumbers$Street", "houseAt", "(I)I"⟩ ∈ gT := gT_t 274 (by decide +kernel) rfl
theorem q275 : Cond.code ⟨"StreetNumbers$Street", "houseAt", "(I)I"⟩ prog_5_method_7_code 2 (Option.some FieldType.int) ∈ gT := gT_t 275 (by decide +kernel) rfl
theorem q276 : Cond.methodLink "StreetNumbers$Street" 104 ⟨"StreetNumbers$Street", "front", "(I)I"⟩ ∈ gT := gT_t 276 (by decide +kernel) rfl
theorem q278 : Cond.instanceMethod ⟨"StreetNumbers$Street", "front", "(I)I"⟩ ∈ gT := gT_t 278 (by decide +kernel) rfl
theorem q279 : Cond.code ⟨"StreetNumbers$Street", "front", "(I)I"⟩ prog_5_method_18_code 3 (Option.some FieldType.int) ∈ gT := gT_t 279 (by decide +kernel) rfl
theorem q280 : Cond.methodLink "StreetNumbers$Street" 94 ⟨"StreetNumbers$Street", "m", "(I)I"⟩ ∈ gT := gT_t 280 (by decide +kernel) rfl
theorem q281 : Cond.methodLink "StreetNumbers$Street" 84 ⟨"StreetNumbers$Street", "kind", "(I)I"⟩ ∈ gT := gT_t 281 (by decide +kernel) rfl
theorem q282 : Cond.methodLink "StreetNumbers$Street" 100 ⟨"StreetNumbers$Laws", "give", "(IIII)I"⟩ ∈ gT := gT_t 282 (by decide +kernel) rfl
theorem q283 : Cond.instanceMethod ⟨"StreetNumbers$Laws", "give", "(IIII)I"⟩ ∈ gT := gT_t 283 (by decide +kernel) rfl
theorem q284 : Cond.selects "StreetNumbers$Laws" ⟨"StreetNumbers$Laws", "give", "(IIII)I"⟩ ⟨"StreetNumbers$Laws", "give", "(IIII)I"⟩ ∈ gT := gT_t 284 (by decide +kernel) rfl
theorem q285 : Cond.code ⟨"StreetNumbers$Laws", "give", "(IIII)I"⟩ prog_2_method_6_code 6 (Option.some FieldType.int) ∈ gT := gT_t 285 (by decide +kernel) rfl
theorem q287 : Cond.static ⟨"StreetNumbers", "isUse", "(I)Z"⟩ ∈ gT := gT_t 287 (by decide +kernel) rfl
theorem q288 : Cond.code ⟨"StreetNumbers", "isUse", "(I)Z"⟩ prog_1_method_43_code 1 (Option.some FieldType.boolean) ∈ gT := gT_t 288 (by decide +kernel) rfl
theorem q289 : Cond.methodLink "StreetNumbers$Laws" 46 ⟨"StreetNumbers$Laws", "workOut", "([IIIII)I"⟩ ∈ gT := gT_t 289 (by decide +kernel) rfl
theorem q291 : Cond.instanceMethod ⟨"StreetNumbers$Laws", "workOut", "([IIIII)I"⟩ ∈ gT := gT_t 291 (by decide +kernel) rfl
theorem q292 : Cond.code ⟨"StreetNumbers$Laws", "workOut", "([IIIII)I"⟩ prog_2_method_7_code 9 (Option.some FieldType.int) ∈ gT := gT_t 292 (by decide +kernel) rfl
theorem q293 : Cond.methodLink "StreetNumbers$Laws" 54 ⟨"java/lang/Math", "min", "(II)I"⟩ ∈ gT := gT_t 293 (by decide +kernel) rfl
theorem q294 : Cond.static ⟨"java/lang/Math", "min", "(II)I"⟩ ∈ gT := gT_t 294 (by decide +kernel) rfl
theorem q295 : Cond.code ⟨"java/lang/Math", "min", "(II)I"⟩ prog_10_method_69_code 2 (Option.some FieldType.int) ∈ gT := gT_t 295 (by decide +kernel) rfl
theorem q296 : Cond.methodLink "StreetNumbers$Laws" 60 ⟨"StreetNumbers$Laws", "named", "(IIII)I"⟩ ∈ gT := gT_t 296 (by decide +kernel) rfl
theorem q297 : Cond.static ⟨"StreetNumbers$Laws", "named", "(IIII)I"⟩ ∈ gT := gT_t 297 (by decide +kernel) rfl
theorem q298 : Cond.code ⟨"StreetNumbers$Laws", "named", "(IIII)I"⟩ prog_2_method_8_code 4 (Option.some FieldType.int) ∈ gT := gT_t 298 (by decide +kernel) rfl
theorem q299 : Cond.methodLink "StreetNumbers$Laws" 64 ⟨"StreetNumbers$Laws", "joined", "(III)I"⟩ ∈ gT := gT_t 299 (by decide +kernel) rfl
theorem q300 : Cond.static ⟨"StreetNumbers$Laws", "joined", "(III)I"⟩ ∈ gT := gT_t 300 (by decide +kernel) rfl
theorem q301 : Cond.code ⟨"StreetNumbers$Laws", "joined", "(III)I"⟩ prog_2_method_9_code 3 (Option.some FieldType.int) ∈ gT := gT_t 301 (by decide +kernel) rfl
theorem q303 : Cond.static ⟨"StreetNumbers", "held", "(III)I"⟩ ∈ gT := gT_t 303 (by decide +kernel) rfl
theorem q304 : Cond.code ⟨"StreetNumbers", "held", "(III)I"⟩ prog_1_method_49_code 3 (Option.some FieldType.int) ∈ gT := gT_t 304 (by decide +kernel) rfl
theorem q305 : Cond.methodLink "StreetNumbers" 242 ⟨"java/lang/Math", "min", "(II)I"⟩ ∈ gT := gT_t 305 (by decide +kernel) rfl
theorem q306 : Cond.methodLink "StreetNumbers" 277 ⟨"java/lang/Math", "max", "(II)I"⟩ ∈ gT := gT_t 306 (by decide +kernel) rfl
theorem q307 : Cond.static ⟨"java/lang/Math", "max", "(II)I"⟩ ∈ gT := gT_t 307 (by decide +kernel) rfl
theorem q308 : Cond.code ⟨"java/lang/Math", "max", "(II)I"⟩ prog_10_method_65_code 2 (Option.some FieldType.int) ∈ gT := gT_t 308 (by decide +kernel) rfl
theorem q309 : Cond.methodLink "StreetNumbers" 91 ⟨"StreetNumbers$Street", "yardsAhead", "(I)I"⟩ ∈ gT := gT_t 309 (by decide +kernel) rfl
theorem q310 : Cond.instanceMethod ⟨"StreetNumbers$Street", "yardsAhead", "(I)I"⟩ ∈ gT := gT_t 310 (by decide +kernel) rfl
theorem q311 : Cond.selects "StreetNumbers$Street" ⟨"StreetNumbers$Street", "yardsAhead", "(I)I"⟩ ⟨"StreetNumbers$Street", "yardsAhead", "(I)I"⟩ ∈ gT := gT_t 311 (by decide +kernel) rfl
theorem q312 : Cond.code ⟨"StreetNumbers$Street", "yardsAhead", "(I)I"⟩ prog_5_method_21_code 4 (Option.some FieldType.int) ∈ gT := gT_t 312 (by decide +kernel) rfl
theorem q313 : Cond.methodLink "StreetNumbers$Street" 107 ⟨"StreetNumbers$Street", "yardsAt", "(I)I"⟩ ∈ gT := gT_t 313 (by decide +kernel) rfl
theorem q318 : Cond.methodLink "StreetNumbers" 94 ⟨"StreetNumbers$Street", "houseAt", "(I)I"⟩ ∈ gT := gT_t 318 (by decide +kernel) rfl
theorem q323 : Cond.methodLink "StreetNumbers" 97 ⟨"StreetNumbers$Street", "setKind", "(III)V"⟩ ∈ gT := gT_t 323 (by decide +kernel) rfl
theorem q328 : Cond.methodLink "StreetNumbers" 101 ⟨"StreetNumbers", "isOrIsUnder", "(II)Z"⟩ ∈ gT := gT_t 328 (by decide +kernel) rfl
theorem q329 : Cond.static ⟨"StreetNumbers", "isOrIsUnder", "(II)Z"⟩ ∈ gT := gT_t 329 (by decide +kernel) rfl
theorem q330 : Cond.code ⟨"StreetNumbers", "isOrIsUnder", "(II)Z"⟩ prog_1_method_45_code 4 (Option.some FieldType.boolean) ∈ gT := gT_t 330 (by decide +kernel) rfl
theorem q331 : Cond.methodLink "StreetNumbers" 271 ⟨"StreetNumbers", "kindAbove", "(I)I"⟩ ∈ gT := gT_t 331 (by decide +kernel) rfl
theorem q332 : Cond.static ⟨"StreetNumbers", "kindAbove", "(I)I"⟩ ∈ gT := gT_t 332 (by decide +kernel) rfl
theorem q333 : Cond.code ⟨"StreetNumbers", "kindAbove", "(I)I"⟩ prog_1_method_46_code 1 (Option.some FieldType.int) ∈ gT := gT_t 333 (by decide +kernel) rfl
theorem q334 : Cond.fieldLink "StreetNumbers" 274 "StreetNumbers" "KIND_ABOVE" "[I" ∈ gT := gT_t 334 (by decide +kernel) rfl
theorem q340 : Cond.methodLink "StreetNumbers" 105 ⟨"StreetNumbers$Street", "harmTo", "(II)I"⟩ ∈ gT := gT_t 340 (by decide +kernel) rfl
theorem q341 : Cond.instanceMethod ⟨"StreetNumbers$Street", "harmTo", "(II)I"⟩ ∈ gT := gT_t 341 (by decide +kernel) rfl
theorem q342 : Cond.selects "StreetNumbers$Street" ⟨"StreetNumbers$Street", "harmTo", "(II)I"⟩ ⟨"StreetNumbers$Street", "harmTo", "(II)I"⟩ ∈ gT := gT_t 342 (by decide +kernel) rfl
theorem q343 : Cond.code ⟨"StreetNumbers$Street", "harmTo", "(II)I"⟩ prog_5_method_19_code 4 (Option.some FieldType.int) ∈ gT := gT_t 343 (by decide +kernel) rfl
theorem q344 : Cond.methodLink "StreetNumbers$Street" 68 ⟨"StreetNumbers$Street", "plate", "(I)I"⟩ ∈ gT := gT_t 344 (by decide +kernel) rfl
theorem q345 : Cond.methodLink "StreetNumbers$Street" 97 ⟨"StreetNumbers$Street", "minds", "(II)I"⟩ ∈ gT := gT_t 345 (by decide +kernel) rfl
theorem q347 : Cond.instanceMethod ⟨"StreetNumbers$Street", "minds", "(II)I"⟩ ∈ gT := gT_t 347 (by decide +kernel) rfl
theorem q348 : Cond.code ⟨"StreetNumbers$Street", "minds", "(II)I"⟩ prog_5_method_15_code 4 (Option.some FieldType.int) ∈ gT := gT_t 348 (by decide +kernel) rfl
theorem q349 : Cond.methodLink "StreetNumbers$Street" 79 ⟨"java/lang/Math", "abs", "(I)I"⟩ ∈ gT := gT_t 349 (by decide +kernel) rfl
theorem q350 : Cond.static ⟨"java/lang/Math", "abs", "(I)I"⟩ ∈ gT := gT_t 350 (by decide +kernel) rfl
theorem q351 : Cond.code ⟨"java/lang/Math", "abs", "(I)I"⟩ prog_10_method_59_code 1 (Option.some FieldType.int) ∈ gT := gT_t 351 (by decide +kernel) rfl
theorem q352 : Cond.methodLink "StreetNumbers$Street" 87 ⟨"StreetNumbers$Street", "villaMinds", "(II)I"⟩ ∈ gT := gT_t 352 (by decide +kernel) rfl
theorem q353 : Cond.static ⟨"StreetNumbers$Street", "villaMinds", "(II)I"⟩ ∈ gT := gT_t 353 (by decide +kernel) rfl
theorem q354 : Cond.code ⟨"StreetNumbers$Street", "villaMinds", "(II)I"⟩ prog_5_method_16_code 2 (Option.some FieldType.int) ∈ gT := gT_t 354 (by decide +kernel) rfl
theorem q355 : Cond.methodLink "StreetNumbers$Street" 91 ⟨"StreetNumbers$Street", "shopMinds", "(II)I"⟩ ∈ gT := gT_t 355 (by decide +kernel) rfl
theorem q356 : Cond.static ⟨"StreetNumbers$Street", "shopMinds", "(II)I"⟩ ∈ gT := gT_t 356 (by decide +kernel) rfl
theorem q357 : Cond.code ⟨"StreetNumbers$Street", "shopMinds", "(II)I"⟩ prog_5_method_17_code 2 (Option.some FieldType.int) ∈ gT := gT_t 357 (by decide +kernel) rfl
theorem q362 : Cond.methodLink "StreetNumbers" 109 ⟨"StreetNumbers$Street", "getsNumber", "(II)I"⟩ ∈ gT := gT_t 362 (by decide +kernel) rfl
theorem q363 : Cond.instanceMethod ⟨"StreetNumbers$Street", "getsNumber", "(II)I"⟩ ∈ gT := gT_t 363 (by decide +kernel) rfl
theorem q364 : Cond.selects "StreetNumbers$Street" ⟨"StreetNumbers$Street", "getsNumber", "(II)I"⟩ ⟨"StreetNumbers$Street", "getsNumber", "(II)I"⟩ ∈ gT := gT_t 364 (by decide +kernel) rfl
theorem q365 : Cond.code ⟨"StreetNumbers$Street", "getsNumber", "(II)I"⟩ prog_5_method_22_code 4 (Option.some FieldType.int) ∈ gT := gT_t 365 (by decide +kernel) rfl
theorem q366 : Cond.methodLink "StreetNumbers$Street" 110 ⟨"StreetNumbers$Street", "harmTo", "(II)I"⟩ ∈ gT := gT_t 366 (by decide +kernel) rfl
theorem q367 : Cond.constant "StreetNumbers$Street" 113 (99999 : Int32) ∈ gT := gT_t 367 (by decide +kernel) rfl
theorem q368 : Cond.methodLink "StreetNumbers$Street" 114 ⟨"java/lang/Math", "min", "(II)I"⟩ ∈ gT := gT_t 368 (by decide +kernel) rfl
theorem q377 : Cond.methodLink "StreetNumbers" 124 ⟨"StreetNumbers$Laws", "addBytes", "(JI)I"⟩ ∈ gT := gT_t 377 (by decide +kernel) rfl
theorem q378 : Cond.instanceMethod ⟨"StreetNumbers$Laws", "addBytes", "(JI)I"⟩ ∈ gT := gT_t 378 (by decide +kernel) rfl
theorem q379 : Cond.selects "StreetNumbers$Laws" ⟨"StreetNumbers$Laws", "addBytes", "(JI)I"⟩ ⟨"StreetNumbers$Laws", "addBytes", "(JI)I"⟩ ∈ gT := gT_t 379 (by decide +kernel) rfl
theorem q380 : Cond.code ⟨"StreetNumbers$Laws", "addBytes", "(JI)I"⟩ prog_2_method_3_code 7 (Option.some FieldType.int) ∈ gT := gT_t 380 (by decide +kernel) rfl
theorem q381 : Cond.constantLong "StreetNumbers$Laws" 40 (255 : Int64) ∈ gT := gT_t 381 (by decide +kernel) rfl
theorem q386 : Cond.methodLink "StreetNumbers" 128 ⟨"StreetNumbers", "isUse", "(I)Z"⟩ ∈ gT := gT_t 386 (by decide +kernel) rfl
theorem q387 : Cond.methodLink "StreetNumbers" 134 ⟨"StreetNumbers$Reader", "faultOf", "([III)I"⟩ ∈ gT := gT_t 387 (by decide +kernel) rfl
theorem q388 : Cond.instanceMethod ⟨"StreetNumbers$Reader", "faultOf", "([III)I"⟩ ∈ gT := gT_t 388 (by decide +kernel) rfl
theorem q389 : Cond.selects "StreetNumbers$Reader" ⟨"StreetNumbers$Reader", "faultOf", "([III)I"⟩ ⟨"StreetNumbers$Reader", "faultOf", "([III)I"⟩ ∈ gT := gT_t 389 (by decide +kernel) rfl
theorem q390 : Cond.code ⟨"StreetNumbers$Reader", "faultOf", "([III)I"⟩ prog_3_method_2_code 4 (Option.some FieldType.int) ∈ gT := gT_t 390 (by decide +kernel) rfl
theorem q391 : Cond.methodLink "StreetNumbers$Reader" 18 ⟨"java/lang/System", "arraycopy", "(Ljava/lang/Object;ILjava/lang/Object;II)V"⟩ ∈ gT := gT_t 391 (by decide +kernel) rfl
theorem q393 : Cond.methodLink "StreetNumbers$Reader" 41 ⟨"StreetNumbers$Reader", "reads", "(II)Z"⟩ ∈ gT := gT_t 393 (by decide +kernel) rfl
theorem q395 : Cond.instanceMethod ⟨"StreetNumbers$Reader", "reads", "(II)Z"⟩ ∈ gT := gT_t 395 (by decide +kernel) rfl
theorem q396 : Cond.code ⟨"StreetNumbers$Reader", "reads", "(II)Z"⟩ prog_3_method_5_code 6 (Option.some FieldType.boolean) ∈ gT := gT_t 396 (by decide +kernel) rfl
theorem q397 : Cond.methodLink "StreetNumbers$Reader" 45 ⟨"StreetNumbers$Reader", "readsSmallest", "(I)Z"⟩ ∈ gT := gT_t 397 (by decide +kernel) rfl
theorem q399 : Cond.instanceMethod ⟨"StreetNumbers$Reader", "readsSmallest", "(I)Z"⟩ ∈ gT := gT_t 399 (by decide +kernel) rfl
theorem q400 : Cond.code ⟨"StreetNumbers$Reader", "readsSmallest", "(I)Z"⟩ prog_3_method_7_code 3 (Option.some FieldType.boolean) ∈ gT := gT_t 400 (by decide +kernel) rfl
theorem q401 : Cond.methodLink "StreetNumbers$Reader" 49 ⟨"StreetNumbers$Reader", "sign", "()I"⟩ ∈ gT := gT_t 401 (by decide +kernel) rfl
theorem q403 : Cond.instanceMethod ⟨"StreetNumbers$Reader", "sign", "()I"⟩ ∈ gT := gT_t 403 (by decide +kernel) rfl
theorem q404 : Cond.code ⟨"StreetNumbers$Reader", "sign", "()I"⟩ prog_3_method_3_code 1 (Option.some FieldType.int) ∈ gT := gT_t 404 (by decide +kernel) rfl
theorem q405 : Cond.methodLink "StreetNumbers$Reader" 60 ⟨"StreetNumbers$Reader", "isDigit", "(I)Z"⟩ ∈ gT := gT_t 405 (by decide +kernel) rfl
theorem q406 : Cond.static ⟨"StreetNumbers$Reader", "isDigit", "(I)Z"⟩ ∈ gT := gT_t 406 (by decide +kernel) rfl
theorem q407 : Cond.code ⟨"StreetNumbers$Reader", "isDigit", "(I)Z"⟩ prog_3_method_11_code 1 (Option.some FieldType.boolean) ∈ gT := gT_t 407 (by decide +kernel) rfl
theorem q408 : Cond.methodLink "StreetNumbers$Reader" 63 ⟨"StreetNumbers$Reader", "readNumber", "()V"⟩ ∈ gT := gT_t 408 (by decide +kernel) rfl
theorem q410 : Cond.instanceMethod ⟨"StreetNumbers$Reader", "readNumber", "()V"⟩ ∈ gT := gT_t 410 (by decide +kernel) rfl
theorem q411 : Cond.code ⟨"StreetNumbers$Reader", "readNumber", "()V"⟩ prog_3_method_10_code 3 (Option.none : Option FieldType) ∈ gT := gT_t 411 (by decide +kernel) rfl
theorem q412 : Cond.methodLink "StreetNumbers$Reader" 56 ⟨"StreetNumbers$Reader", "write", "(I)V"⟩ ∈ gT := gT_t 412 (by decide +kernel) rfl
theorem q414 : Cond.instanceMethod ⟨"StreetNumbers$Reader", "write", "(I)V"⟩ ∈ gT := gT_t 414 (by decide +kernel) rfl
theorem q415 : Cond.code ⟨"StreetNumbers$Reader", "write", "(I)V"⟩ prog_3_method_4_code 2 (Option.none : Option FieldType) ∈ gT := gT_t 415 (by decide +kernel) rfl
theorem q416 : Cond.methodLink "StreetNumbers$Reader" 66 ⟨"StreetNumbers$Reader", "readsOpened", "(II)Z"⟩ ∈ gT := gT_t 416 (by decide +kernel) rfl
theorem q418 : Cond.instanceMethod ⟨"StreetNumbers$Reader", "readsOpened", "(II)Z"⟩ ∈ gT := gT_t 418 (by decide +kernel) rfl
theorem q419 : Cond.code ⟨"StreetNumbers$Reader", "readsOpened", "(II)Z"⟩ prog_3_method_8_code 3 (Option.some FieldType.boolean) ∈ gT := gT_t 419 (by decide +kernel) rfl
theorem q420 : Cond.methodLink "StreetNumbers$Reader" 69 ⟨"StreetNumbers$Reader", "readsName", "(I)Z"⟩ ∈ gT := gT_t 420 (by decide +kernel) rfl
theorem q422 : Cond.instanceMethod ⟨"StreetNumbers$Reader", "readsName", "(I)Z"⟩ ∈ gT := gT_t 422 (by decide +kernel) rfl
theorem q423 : Cond.code ⟨"StreetNumbers$Reader", "readsName", "(I)Z"⟩ prog_3_method_9_code 4 (Option.some FieldType.boolean) ∈ gT := gT_t 423 (by decide +kernel) rfl
theorem q426 : Cond.methodLink "StreetNumbers$Reader" 53 ⟨"StreetNumbers$Reader", "joins", "(II)Z"⟩ ∈ gT := gT_t 426 (by decide +kernel) rfl
theorem q427 : Cond.static ⟨"StreetNumbers$Reader", "joins", "(II)Z"⟩ ∈ gT := gT_t 427 (by decide +kernel) rfl
theorem q428 : Cond.code ⟨"StreetNumbers$Reader", "joins", "(II)Z"⟩ prog_3_method_6_code 2 (Option.some FieldType.boolean) ∈ gT := gT_t 428 (by decide +kernel) rfl
theorem q429 : Cond.methodLink "StreetNumbers" 144 ⟨"StreetNumbers$Laws", "takeSteps", "(I[II)V"⟩ ∈ gT := gT_t 429 (by decide +kernel) rfl
theorem q430 : Cond.instanceMethod ⟨"StreetNumbers$Laws", "takeSteps", "(I[II)V"⟩ ∈ gT := gT_t 430 (by decide +kernel) rfl
theorem q431 : Cond.selects "StreetNumbers$Laws" ⟨"StreetNumbers$Laws", "takeSteps", "(I[II)V"⟩ ⟨"StreetNumbers$Laws", "takeSteps", "(I[II)V"⟩ ∈ gT := gT_t 431 (by decide +kernel) rfl
theorem q432 : Cond.code ⟨"StreetNumbers$Laws", "takeSteps", "(I[II)V"⟩ prog_2_method_4_code 4 (Option.none : Option FieldType) ∈ gT := gT_t 432 (by decide +kernel) rfl
theorem q433 : Cond.methodLink "StreetNumbers$Laws" 30 ⟨"java/lang/System", "arraycopy", "(Ljava/lang/Object;ILjava/lang/Object;II)V"⟩ ∈ gT := gT_t 433 (by decide +kernel) rfl
theorem q438 : Cond.methodLink "StreetNumbers" 148 ⟨"StreetNumbers$Laws", "forget", "(I)Z"⟩ ∈ gT := gT_t 438 (by decide +kernel) rfl
theorem q439 : Cond.instanceMethod ⟨"StreetNumbers$Laws", "forget", "(I)Z"⟩ ∈ gT := gT_t 439 (by decide +kernel) rfl
theorem q440 : Cond.selects "StreetNumbers$Laws" ⟨"StreetNumbers$Laws", "forget", "(I)Z"⟩ ⟨"StreetNumbers$Laws", "forget", "(I)Z"⟩ ∈ gT := gT_t 440 (by decide +kernel) rfl
theorem q441 : Cond.code ⟨"StreetNumbers$Laws", "forget", "(I)Z"⟩ prog_2_method_5_code 3 (Option.some FieldType.boolean) ∈ gT := gT_t 441 (by decide +kernel) rfl
theorem q446 : Cond.methodLink "StreetNumbers" 151 ⟨"StreetNumbers$Laws", "give", "(IIII)I"⟩ ∈ gT := gT_t 446 (by decide +kernel) rfl
theorem q451 : Cond.methodLink "StreetNumbers" 154 ⟨"StreetNumbers$Street", "renumberBy", "(I)I"⟩ ∈ gT := gT_t 451 (by decide +kernel) rfl
theorem q452 : Cond.instanceMethod ⟨"StreetNumbers$Street", "renumberBy", "(I)I"⟩ ∈ gT := gT_t 452 (by decide +kernel) rfl
theorem q453 : Cond.selects "StreetNumbers$Street" ⟨"StreetNumbers$Street", "renumberBy", "(I)I"⟩ ⟨"StreetNumbers$Street", "renumberBy", "(I)I"⟩ ∈ gT := gT_t 453 (by decide +kernel) rfl
theorem q454 : Cond.code ⟨"StreetNumbers$Street", "renumberBy", "(I)I"⟩ prog_5_method_23_code 4 (Option.some FieldType.int) ∈ gT := gT_t 454 (by decide +kernel) rfl
theorem q455 : Cond.methodLink "StreetNumbers$Street" 117 ⟨"StreetNumbers$Street", "getsNumber", "(II)I"⟩ ∈ gT := gT_t 455 (by decide +kernel) rfl
theorem q460 : Cond.methodLink "StreetNumbers" 157 ⟨"StreetNumbers$Street", "harmOfGap", "(I)I"⟩ ∈ gT := gT_t 460 (by decide +kernel) rfl
theorem q461 : Cond.instanceMethod ⟨"StreetNumbers$Street", "harmOfGap", "(I)I"⟩ ∈ gT := gT_t 461 (by decide +kernel) rfl
theorem q462 : Cond.selects "StreetNumbers$Street" ⟨"StreetNumbers$Street", "harmOfGap", "(I)I"⟩ ⟨"StreetNumbers$Street", "harmOfGap", "(I)I"⟩ ∈ gT := gT_t 462 (by decide +kernel) rfl
theorem q463 : Cond.code ⟨"StreetNumbers$Street", "harmOfGap", "(I)I"⟩ prog_5_method_24_code 4 (Option.some FieldType.int) ∈ gT := gT_t 463 (by decide +kernel) rfl
theorem q472 : Cond.methodLink "StreetNumbers" 160 ⟨"StreetNumbers$Thoughts", "leastRising", "(LStreetNumbers$Street;)I"⟩ ∈ gT := gT_t 472 (by decide +kernel) rfl
theorem q473 : Cond.instanceMethod ⟨"StreetNumbers$Thoughts", "leastRising", "(LStreetNumbers$Street;)I"⟩ ∈ gT := gT_t 473 (by decide +kernel) rfl
theorem q474 : Cond.selects "StreetNumbers$Thoughts" ⟨"StreetNumbers$Thoughts", "leastRising", "(LStreetNumbers$Street;)I"⟩ ⟨"StreetNumbers$Thoughts", "leastRising", "(LStreetNumbers$Street;)I"⟩ ∈ gT := gT_t 474 (by decide +kernel) rfl
theorem q475 : Cond.code ⟨"StreetNumbers$Thoughts", "leastRising", "(LStreetNumbers$Street;)I"⟩ prog_6_method_2_code 5 (Option.some FieldType.int) ∈ gT := gT_t 475 (by decide +kernel) rfl
theorem q476 : Cond.methodLink "StreetNumbers$Thoughts" 32 ⟨"java/lang/Math", "min", "(II)I"⟩ ∈ gT := gT_t 476 (by decide +kernel) rfl
theorem q477 : Cond.methodLink "StreetNumbers$Thoughts" 38 ⟨"StreetNumbers$Thoughts", "sumUpTo", "(LStreetNumbers$Street;I)V"⟩ ∈ gT := gT_t 477 (by decide +kernel) rfl
theorem q479 : Cond.instanceMethod ⟨"StreetNumbers$Thoughts", "sumUpTo", "(LStreetNumbers$Street;I)V"⟩ ∈ gT := gT_t 479 (by decide +kernel) rfl
theorem q480 : Cond.code ⟨"StreetNumbers$Thoughts", "sumUpTo", "(LStreetNumbers$Street;I)V"⟩ prog_6_method_4_code 9 (Option.none : Option FieldType) ∈ gT := gT_t 480 (by decide +kernel) rfl
theorem q481 : Cond.methodLink "StreetNumbers$Thoughts" 42 ⟨"StreetNumbers$Street", "houseAt", "(I)I"⟩ ∈ gT := gT_t 481 (by decide +kernel) rfl
theorem q482 : Cond.constant "StreetNumbers$Thoughts" 46 (1000000 : Int32) ∈ gT := gT_t 482 (by decide +kernel) rfl
theorem q483 : Cond.methodLink "StreetNumbers$Thoughts" 47 ⟨"StreetNumbers$Street", "harmTo", "(II)I"⟩ ∈ gT := gT_t 483 (by decide +kernel) rfl
theorem q484 : Cond.methodLink "StreetNumbers" 164 ⟨"StreetNumbers$Thoughts", "risingOf", "(I)I"⟩ ∈ gT := gT_t 484 (by decide +kernel) rfl
theorem q485 : Cond.instanceMethod ⟨"StreetNumbers$Thoughts", "risingOf", "(I)I"⟩ ∈ gT := gT_t 485 (by decide +kernel) rfl
theorem q486 : Cond.selects "StreetNumbers$Thoughts" ⟨"StreetNumbers$Thoughts", "risingOf", "(I)I"⟩ ⟨"StreetNumbers$Thoughts", "risingOf", "(I)I"⟩ ∈ gT := gT_t 486 (by decide +kernel) rfl
theorem q487 : Cond.code ⟨"StreetNumbers$Thoughts", "risingOf", "(I)I"⟩ prog_6_method_3_code 2 (Option.some FieldType.int) ∈ gT := gT_t 487 (by decide +kernel) rfl
theorem q492 : Cond.methodLink "StreetNumbers" 167 ⟨"StreetNumbers$Street", "numberBetween", "(I)I"⟩ ∈ gT := gT_t 492 (by decide +kernel) rfl
theorem q493 : Cond.instanceMethod ⟨"StreetNumbers$Street", "numberBetween", "(I)I"⟩ ∈ gT := gT_t 493 (by decide +kernel) rfl
theorem q494 : Cond.selects "StreetNumbers$Street" ⟨"StreetNumbers$Street", "numberBetween", "(I)I"⟩ ⟨"StreetNumbers$Street", "numberBetween", "(I)I"⟩ ∈ gT := gT_t 494 (by decide +kernel) rfl
theorem q495 : Cond.code ⟨"StreetNumbers$Street", "numberBetween", "(I)I"⟩ prog_5_method_25_code 4 (Option.some FieldType.int) ∈ gT := gT_t 495 (by decide +kernel) rfl
theorem q496 : Cond.methodLink "StreetNumbers$Street" 120 ⟨"StreetNumbers$Street", "plateAt", "(I)I"⟩ ∈ gT := gT_t 496 (by decide +kernel) rfl
theorem q497 : Cond.instanceMethod ⟨"StreetNumbers$Street", "plateAt", "(I)I"⟩ ∈ gT := gT_t 497 (by decide +kernel) rfl
theorem q498 : Cond.selects "StreetNumbers$Street" ⟨"StreetNumbers$Street", "plateAt", "(I)I"⟩ ⟨"StreetNumbers$Street", "plateAt", "(I)I"⟩ ∈ gT := gT_t 498 (by decide +kernel) rfl
theorem q499 : Cond.code ⟨"StreetNumbers$Street", "plateAt", "(I)I"⟩ prog_5_method_8_code 2 (Option.some FieldType.int) ∈ gT := gT_t 499 (by decide +kernel) rfl
theorem q504 : Cond.methodLink "StreetNumbers" 170 ⟨"StreetNumbers$Thoughts", "longestRising", "(LStreetNumbers$Street;)I"⟩ ∈ gT := gT_t 504 (by decide +kernel) rfl
theorem q505 : Cond.instanceMethod ⟨"StreetNumbers$Thoughts", "longestRising", "(LStreetNumbers$Street;)I"⟩ ∈ gT := gT_t 505 (by decide +kernel) rfl
theorem q506 : Cond.selects "StreetNumbers$Thoughts" ⟨"StreetNumbers$Thoughts", "longestRising", "(LStreetNumbers$Street;)I"⟩ ⟨"StreetNumbers$Thoughts", "longestRising", "(LStreetNumbers$Street;)I"⟩ ∈ gT := gT_t 506 (by decide +kernel) rfl
theorem q507 : Cond.code ⟨"StreetNumbers$Thoughts", "longestRising", "(LStreetNumbers$Street;)I"⟩ prog_6_method_5_code 6 (Option.some FieldType.int) ∈ gT := gT_t 507 (by decide +kernel) rfl
theorem q508 : Cond.methodLink "StreetNumbers$Thoughts" 50 ⟨"StreetNumbers$Street", "plateAt", "(I)I"⟩ ∈ gT := gT_t 508 (by decide +kernel) rfl
theorem q509 : Cond.methodLink "StreetNumbers$Thoughts" 53 ⟨"java/lang/Math", "max", "(II)I"⟩ ∈ gT := gT_t 509 (by decide +kernel) rfl
theorem q514 : Cond.methodLink "StreetNumbers" 173 ⟨"StreetNumbers$Thoughts", "placeFound", "(LStreetNumbers$Street;I)I"⟩ ∈ gT := gT_t 514 (by decide +kernel) rfl
theorem q515 : Cond.instanceMethod ⟨"StreetNumbers$Thoughts", "placeFound", "(LStreetNumbers$Street;I)I"⟩ ∈ gT := gT_t 515 (by decide +kernel) rfl
theorem q516 : Cond.selects "StreetNumbers$Thoughts" ⟨"StreetNumbers$Thoughts", "placeFound", "(LStreetNumbers$Street;I)I"⟩ ⟨"StreetNumbers$Thoughts", "placeFound", "(LStreetNumbers$Street;I)I"⟩ ∈ gT := gT_t 516 (by decide +kernel) rfl
theorem q517 : Cond.code ⟨"StreetNumbers$Thoughts", "placeFound", "(LStreetNumbers$Street;I)I"⟩ prog_6_method_6_code 8 (Option.some FieldType.int) ∈ gT := gT_t 517 (by decide +kernel) rfl
theorem q522 : Cond.methodLink "StreetNumbers" 180 ⟨"StreetNumbers$Thoughts", "housesFound", "(LStreetNumbers$Street;)I"⟩ ∈ gT := gT_t 522 (by decide +kernel) rfl
theorem q523 : Cond.instanceMethod ⟨"StreetNumbers$Thoughts", "housesFound", "(LStreetNumbers$Street;)I"⟩ ∈ gT := gT_t 523 (by decide +kernel) rfl
theorem q524 : Cond.selects "StreetNumbers$Thoughts" ⟨"StreetNumbers$Thoughts", "housesFound", "(LStreetNumbers$Street;)I"⟩ ⟨"StreetNumbers$Thoughts", "housesFound", "(LStreetNumbers$Street;)I"⟩ ∈ gT := gT_t 524 (by decide +kernel) rfl
theorem q525 : Cond.code ⟨"StreetNumbers$Thoughts", "housesFound", "(LStreetNumbers$Street;)I"⟩ prog_6_method_7_code 4 (Option.some FieldType.int) ∈ gT := gT_t 525 (by decide +kernel) rfl
theorem q526 : Cond.methodLink "StreetNumbers$Thoughts" 59 ⟨"StreetNumbers$Thoughts", "placeFound", "(LStreetNumbers$Street;I)I"⟩ ∈ gT := gT_t 526 (by decide +kernel) rfl
theorem q527 : Cond.methodLink "StreetNumbers" 183 ⟨"StreetNumbers$Thoughts", "commonDivisor", "(II)I"⟩ ∈ gT := gT_t 527 (by decide +kernel) rfl
theorem q528 : Cond.static ⟨"StreetNumbers$Thoughts", "commonDivisor", "(II)I"⟩ ∈ gT := gT_t 528 (by decide +kernel) rfl
theorem q529 : Cond.code ⟨"StreetNumbers$Thoughts", "commonDivisor", "(II)I"⟩ prog_6_method_8_code 3 (Option.some FieldType.int) ∈ gT := gT_t 529 (by decide +kernel) rfl
theorem q530 : Cond.methodLink "StreetNumbers" 186 ⟨"StreetNumbers", "quotient", "(II)I"⟩ ∈ gT := gT_t 530 (by decide +kernel) rfl
theorem q531 : Cond.static ⟨"StreetNumbers", "quotient", "(II)I"⟩ ∈ gT := gT_t 531 (by decide +kernel) rfl
theorem q532 : Cond.code ⟨"StreetNumbers", "quotient", "(II)I"⟩ prog_1_method_47_code 2 (Option.some FieldType.int) ∈ gT := gT_t 532 (by decide +kernel) rfl
theorem q537 : Cond.methodLink "StreetNumbers" 189 ⟨"StreetNumbers$Street", "plateAt", "(I)I"⟩ ∈ gT := gT_t 537 (by decide +kernel) rfl
theorem q542 : Cond.methodLink "StreetNumbers" 192 ⟨"StreetNumbers", "isSheet", "(I)Z"⟩ ∈ gT := gT_t 542 (by decide +kernel) rfl
theorem q543 : Cond.static ⟨"StreetNumbers", "isSheet", "(I)Z"⟩ ∈ gT := gT_t 543 (by decide +kernel) rfl
theorem q544 : Cond.code ⟨"StreetNumbers", "isSheet", "(I)Z"⟩ prog_1_method_44_code 1 (Option.some FieldType.boolean) ∈ gT := gT_t 544 (by decide +kernel) rfl
theorem q545 : Cond.methodLink "StreetNumbers" 195 ⟨"StreetNumbers$Sheets", "isMissing", "(I)Z"⟩ ∈ gT := gT_t 545 (by decide +kernel) rfl
theorem q546 : Cond.instanceMethod ⟨"StreetNumbers$Sheets", "isMissing", "(I)Z"⟩ ∈ gT := gT_t 546 (by decide +kernel) rfl
theorem q547 : Cond.selects "StreetNumbers$Sheets" ⟨"StreetNumbers$Sheets", "isMissing", "(I)Z"⟩ ⟨"StreetNumbers$Sheets", "isMissing", "(I)Z"⟩ ∈ gT := gT_t 547 (by decide +kernel) rfl
theorem q548 : Cond.code ⟨"StreetNumbers$Sheets", "isMissing", "(I)Z"⟩ prog_4_method_3_code 2 (Option.some FieldType.boolean) ∈ gT := gT_t 548 (by decide +kernel) rfl
theorem q549 : Cond.methodLink "StreetNumbers$Sheets" 27 ⟨"StreetNumbers$Sheets", "bits", "(I)I"⟩ ∈ gT := gT_t 549 (by decide +kernel) rfl
theorem q550 : Cond.instanceMethod ⟨"StreetNumbers$Sheets", "bits", "(I)I"⟩ ∈ gT := gT_t 550 (by decide +kernel) rfl
theorem q551 : Cond.selects "StreetNumbers$Sheets" ⟨"StreetNumbers$Sheets", "bits", "(I)I"⟩ ⟨"StreetNumbers$Sheets", "bits", "(I)I"⟩ ∈ gT := gT_t 551 (by decide +kernel) rfl
theorem q552 : Cond.code ⟨"StreetNumbers$Sheets", "bits", "(I)I"⟩ prog_4_method_2_code 2 (Option.some FieldType.int) ∈ gT := gT_t 552 (by decide +kernel) rfl
theorem q554 : Cond.methodLink "StreetNumbers" 198 ⟨"StreetNumbers", "tellsHarmOfGap", "(II)Z"⟩ ∈ gT := gT_t 554 (by decide +kernel) rfl
theorem q556 : Cond.instanceMethod ⟨"StreetNumbers", "tellsHarmOfGap", "(II)Z"⟩ ∈ gT := gT_t 556 (by decide +kernel) rfl
theorem q557 : Cond.code ⟨"StreetNumbers", "tellsHarmOfGap", "(II)Z"⟩ prog_1_method_40_code 6 (Option.some FieldType.boolean) ∈ gT := gT_t 557 (by decide +kernel) rfl
theorem q558 : Cond.methodLink "StreetNumbers" 225 ⟨"StreetNumbers$Sheets", "size", "(I)I"⟩ ∈ gT := gT_t 558 (by decide +kernel) rfl
theorem q559 : Cond.instanceMethod ⟨"StreetNumbers$Sheets", "size", "(I)I"⟩ ∈ gT := gT_t 559 (by decide +kernel) rfl
theorem q560 : Cond.selects "StreetNumbers$Sheets" ⟨"StreetNumbers$Sheets", "size", "(I)I"⟩ ⟨"StreetNumbers$Sheets", "size", "(I)I"⟩ ∈ gT := gT_t 560 (by decide +kernel) rfl
theorem q561 : Cond.code ⟨"StreetNumbers$Sheets", "size", "(I)I"⟩ prog_4_method_4_code 2 (Option.some FieldType.int) ∈ gT := gT_t 561 (by decide +kernel) rfl
theorem q562 : Cond.methodLink "StreetNumbers" 247 ⟨"StreetNumbers$Sheets", "number", "(II)I"⟩ ∈ gT := gT_t 562 (by decide +kernel) rfl
theorem q563 : Cond.instanceMethod ⟨"StreetNumbers$Sheets", "number", "(II)I"⟩ ∈ gT := gT_t 563 (by decide +kernel) rfl
theorem q564 : Cond.selects "StreetNumbers$Sheets" ⟨"StreetNumbers$Sheets", "number", "(II)I"⟩ ⟨"StreetNumbers$Sheets", "number", "(II)I"⟩ ∈ gT := gT_t 564 (by decide +kernel) rfl
theorem q565 : Cond.code ⟨"StreetNumbers$Sheets", "number", "(II)I"⟩ prog_4_method_6_code 3 (Option.some FieldType.int) ∈ gT := gT_t 565 (by decide +kernel) rfl
theorem q566 : Cond.methodLink "StreetNumbers$Sheets" 34 ⟨"StreetNumbers$Sheets", "holds", "(III)Z"⟩ ∈ gT := gT_t 566 (by decide +kernel) rfl
theorem q567 : Cond.instanceMethod ⟨"StreetNumbers$Sheets", "holds", "(III)Z"⟩ ∈ gT := gT_t 567 (by decide +kernel) rfl
theorem q568 : Cond.selects "StreetNumbers$Sheets" ⟨"StreetNumbers$Sheets", "holds", "(III)Z"⟩ ⟨"StreetNumbers$Sheets", "holds", "(III)Z"⟩ ∈ gT := gT_t 568 (by decide +kernel) rfl
theorem q569 : Cond.code ⟨"StreetNumbers$Sheets", "holds", "(III)Z"⟩ prog_4_method_5_code 4 (Option.some FieldType.boolean) ∈ gT := gT_t 569 (by decide +kernel) rfl
theorem q570 : Cond.methodLink "StreetNumbers$Sheets" 31 ⟨"StreetNumbers$Sheets", "size", "(I)I"⟩ ∈ gT := gT_t 570 (by decide +kernel) rfl
theorem q575 : Cond.methodLink "StreetNumbers" 201 ⟨"StreetNumbers$Street", "passYearByDraws", "()I"⟩ ∈ gT := gT_t 575 (by decide +kernel) rfl
theorem q576 : Cond.instanceMethod ⟨"StreetNumbers$Street", "passYearByDraws", "()I"⟩ ∈ gT := gT_t 576 (by decide +kernel) rfl
theorem q577 : Cond.selects "StreetNumbers$Street" ⟨"StreetNumbers$Street", "passYearByDraws", "()I"⟩ ⟨"StreetNumbers$Street", "passYearByDraws", "()I"⟩ ∈ gT := gT_t 577 (by decide +kernel) rfl
theorem q578 : Cond.code ⟨"StreetNumbers$Street", "passYearByDraws", "()I"⟩ prog_5_method_27_code 4 (Option.some FieldType.int) ∈ gT := gT_t 578 (by decide +kernel) rfl
theorem q579 : Cond.methodLink "StreetNumbers$Street" 124 ⟨"StreetNumbers$Street", "draw", "()I"⟩ ∈ gT := gT_t 579 (by decide +kernel) rfl
theorem q581 : Cond.instanceMethod ⟨"StreetNumbers$Street", "draw", "()I"⟩ ∈ gT := gT_t 581 (by decide +kernel) rfl
theorem q582 : Cond.code ⟨"StreetNumbers$Street", "draw", "()I"⟩ prog_5_method_26_code 1 (Option.some FieldType.int) ∈ gT := gT_t 582 (by decide +kernel) rfl
theorem q583 : Cond.constant "StreetNumbers$Street" 123 (1103515245 : Int32) ∈ gT := gT_t 583 (by decide +kernel) rfl
theorem q585 : Cond.static ⟨"StreetNumbers", "rest", "(II)I"⟩ ∈ gT := gT_t 585 (by decide +kernel) rfl
theorem q586 : Cond.code ⟨"StreetNumbers", "rest", "(II)I"⟩ prog_1_method_48_code 2 (Option.some FieldType.int) ∈ gT := gT_t 586 (by decide +kernel) rfl
theorem q587 : Cond.methodLink "StreetNumbers$Street" 131 ⟨"StreetNumbers$Street", "numberBetween", "(I)I"⟩ ∈ gT := gT_t 587 (by decide +kernel) rfl
theorem q588 : Cond.methodLink "StreetNumbers$Street" 134 ⟨"StreetNumbers$Street", "renumberBy", "(I)I"⟩ ∈ gT := gT_t 588 (by decide +kernel) rfl
theorem q589 : Cond.methodLink "StreetNumbers$Street" 137 ⟨"StreetNumbers$Street", "addHouse", "(IIII)I"⟩ ∈ gT := gT_t 589 (by decide +kernel) rfl
theorem q598 : Cond.methodLink "StreetNumbers" 208 ⟨"StreetNumbers$Voices", "answerOf", "(IIIII)I"⟩ ∈ gT := gT_t 598 (by decide +kernel) rfl
theorem q599 : Cond.instanceMethod ⟨"StreetNumbers$Voices", "answerOf", "(IIIII)I"⟩ ∈ gT := gT_t 599 (by decide +kernel) rfl
theorem q600 : Cond.selects "StreetNumbers$Voices" ⟨"StreetNumbers$Voices", "answerOf", "(IIIII)I"⟩ ⟨"StreetNumbers$Voices", "answerOf", "(IIIII)I"⟩ ∈ gT := gT_t 600 (by decide +kernel) rfl
theorem q601 : Cond.code ⟨"StreetNumbers$Voices", "answerOf", "(IIIII)I"⟩ prog_7_method_2_code 6 (Option.some FieldType.int) ∈ gT := gT_t 601 (by decide +kernel) rfl
theorem q602 : Cond.methodLink "StreetNumbers$Voices" 32 ⟨"StreetNumbers$Voices", "speak", "(IIII)I"⟩ ∈ gT := gT_t 602 (by decide +kernel) rfl
theorem q604 : Cond.instanceMethod ⟨"StreetNumbers$Voices", "speak", "(IIII)I"⟩ ∈ gT := gT_t 604 (by decide +kernel) rfl
theorem q605 : Cond.code ⟨"StreetNumbers$Voices", "speak", "(IIII)I"⟩ prog_7_method_5_code 7 (Option.some FieldType.int) ∈ gT := gT_t 605 (by decide +kernel) rfl
theorem q606 : Cond.methodLink "StreetNumbers$Voices" 39 ⟨"StreetNumbers$Voices", "ownBody", "(II)I"⟩ ∈ gT := gT_t 606 (by decide +kernel) rfl
theorem q607 : Cond.static ⟨"StreetNumbers$Voices", "ownBody", "(II)I"⟩ ∈ gT := gT_t 607 (by decide +kernel) rfl
theorem q608 : Cond.code ⟨"StreetNumbers$Voices", "ownBody", "(II)I"⟩ prog_7_method_4_code 3 (Option.some FieldType.int) ∈ gT := gT_t 608 (by decide +kernel) rfl
theorem q609 : Cond.fieldLink "StreetNumbers$Voices" 36 "StreetNumbers$Voices" "BODIES" "[I" ∈ gT := gT_t 609 (by decide +kernel) rfl
theorem q612 : Cond.methodLink "StreetNumbers$Voices" 47 ⟨"StreetNumbers$Voices", "begin", "(I)V"⟩ ∈ gT := gT_t 612 (by decide +kernel) rfl
theorem q614 : Cond.instanceMethod ⟨"StreetNumbers$Voices", "begin", "(I)V"⟩ ∈ gT := gT_t 614 (by decide +kernel) rfl
theorem q615 : Cond.code ⟨"StreetNumbers$Voices", "begin", "(I)V"⟩ prog_7_method_6_code 2 (Option.none : Option FieldType) ∈ gT := gT_t 615 (by decide +kernel) rfl
theorem q616 : Cond.methodLink "StreetNumbers$Voices" 51 ⟨"StreetNumbers$Voices", "work", "(III)I"⟩ ∈ gT := gT_t 616 (by decide +kernel) rfl
theorem q618 : Cond.instanceMethod ⟨"StreetNumbers$Voices", "work", "(III)I"⟩ ∈ gT := gT_t 618 (by decide +kernel) rfl
theorem q619 : Cond.code ⟨"StreetNumbers$Voices", "work", "(III)I"⟩ prog_7_method_9_code 4 (Option.some FieldType.int) ∈ gT := gT_t 619 (by decide +kernel) rfl
theorem q620 : Cond.methodLink "StreetNumbers$Voices" 55 ⟨"StreetNumbers$Voices", "own", "(III)I"⟩ ∈ gT := gT_t 620 (by decide +kernel) rfl
theorem q622 : Cond.instanceMethod ⟨"StreetNumbers$Voices", "own", "(III)I"⟩ ∈ gT := gT_t 622 (by decide +kernel) rfl
theorem q623 : Cond.code ⟨"StreetNumbers$Voices", "own", "(III)I"⟩ prog_7_method_7_code 4 (Option.some FieldType.int) ∈ gT := gT_t 623 (by decide +kernel) rfl
theorem q624 : Cond.methodLink "StreetNumbers$Voices" 58 ⟨"StreetNumbers$Voices", "partedBy", "(II)I"⟩ ∈ gT := gT_t 624 (by decide +kernel) rfl
theorem q626 : Cond.instanceMethod ⟨"StreetNumbers$Voices", "partedBy", "(II)I"⟩ ∈ gT := gT_t 626 (by decide +kernel) rfl
theorem q627 : Cond.code ⟨"StreetNumbers$Voices", "partedBy", "(II)I"⟩ prog_7_method_10_code 3 (Option.some FieldType.int) ∈ gT := gT_t 627 (by decide +kernel) rfl
theorem q629 : Cond.methodLink "StreetNumbers$Voices" 61 ⟨"StreetNumbers$Voices", "above", "(IIII)I"⟩ ∈ gT := gT_t 629 (by decide +kernel) rfl
theorem q631 : Cond.instanceMethod ⟨"StreetNumbers$Voices", "above", "(IIII)I"⟩ ∈ gT := gT_t 631 (by decide +kernel) rfl
theorem q632 : Cond.code ⟨"StreetNumbers$Voices", "above", "(IIII)I"⟩ prog_7_method_8_code 5 (Option.some FieldType.int) ∈ gT := gT_t 632 (by decide +kernel) rfl
theorem q637 : Cond.methodLink "StreetNumbers" 219 ⟨"StreetNumbers$Voices", "bodyAt", "(I)I"⟩ ∈ gT := gT_t 637 (by decide +kernel) rfl
theorem q638 : Cond.instanceMethod ⟨"StreetNumbers$Voices", "bodyAt", "(I)I"⟩ ∈ gT := gT_t 638 (by decide +kernel) rfl
theorem q639 : Cond.selects "StreetNumbers$Voices" ⟨"StreetNumbers$Voices", "bodyAt", "(I)I"⟩ ⟨"StreetNumbers$Voices", "bodyAt", "(I)I"⟩ ∈ gT := gT_t 639 (by decide +kernel) rfl
theorem q640 : Cond.code ⟨"StreetNumbers$Voices", "bodyAt", "(I)I"⟩ prog_7_method_3_code 2 (Option.some FieldType.int) ∈ gT := gT_t 640 (by decide +kernel) rfl
theorem q645 : Cond.methodLink "StreetNumbers" 222 ⟨"StreetNumbers$Sheets", "renew", "(III)V"⟩ ∈ gT := gT_t 645 (by decide +kernel) rfl
theorem q646 : Cond.instanceMethod ⟨"StreetNumbers$Sheets", "renew", "(III)V"⟩ ∈ gT := gT_t 646 (by decide +kernel) rfl
theorem q647 : Cond.selects "StreetNumbers$Sheets" ⟨"StreetNumbers$Sheets", "renew", "(III)V"⟩ ⟨"StreetNumbers$Sheets", "renew", "(III)V"⟩ ∈ gT := gT_t 647 (by decide +kernel) rfl
theorem q648 : Cond.code ⟨"StreetNumbers$Sheets", "renew", "(III)V"⟩ prog_4_method_7_code 5 (Option.none : Option FieldType) ∈ gT := gT_t 648 (by decide +kernel) rfl
theorem q654 : Cond.methodLink "StreetNumbers" 228 ⟨"StreetNumbers$Sheets", "write", "(III)V"⟩ ∈ gT := gT_t 654 (by decide +kernel) rfl
theorem q655 : Cond.instanceMethod ⟨"StreetNumbers$Sheets", "write", "(III)V"⟩ ∈ gT := gT_t 655 (by decide +kernel) rfl
theorem q656 : Cond.selects "StreetNumbers$Sheets" ⟨"StreetNumbers$Sheets", "write", "(III)V"⟩ ⟨"StreetNumbers$Sheets", "write", "(III)V"⟩ ∈ gT := gT_t 656 (by decide +kernel) rfl
theorem q657 : Cond.code ⟨"StreetNumbers$Sheets", "write", "(III)V"⟩ prog_4_method_8_code 4 (Option.none : Option FieldType) ∈ gT := gT_t 657 (by decide +kernel) rfl
theorem q658 : Cond.methodLink "StreetNumbers$Sheets" 42 ⟨"StreetNumbers$Sheets", "lowest", "(II)I"⟩ ∈ gT := gT_t 658 (by decide +kernel) rfl
theorem q659 : Cond.static ⟨"StreetNumbers$Sheets", "lowest", "(II)I"⟩ ∈ gT := gT_t 659 (by decide +kernel) rfl
theorem q660 : Cond.code ⟨"StreetNumbers$Sheets", "lowest", "(II)I"⟩ prog_4_method_10_code 2 (Option.some FieldType.int) ∈ gT := gT_t 660 (by decide +kernel) rfl
theorem q665 : Cond.methodLink "StreetNumbers" 231 ⟨"StreetNumbers$Sheets", "bits", "(I)I"⟩ ∈ gT := gT_t 665 (by decide +kernel) rfl
theorem q666 : Cond.methodLink "StreetNumbers" 234 ⟨"StreetNumbers$Sheets", "holds", "(III)Z"⟩ ∈ gT := gT_t 666 (by decide +kernel) rfl
theorem q667 : Cond.methodLink "StreetNumbers" 238 ⟨"StreetNumbers$Sheets", "copy", "(IIIII)V"⟩ ∈ gT := gT_t 667 (by decide +kernel) rfl
theorem q668 : Cond.instanceMethod ⟨"StreetNumbers$Sheets", "copy", "(IIIII)V"⟩ ∈ gT := gT_t 668 (by decide +kernel) rfl
theorem q669 : Cond.selects "StreetNumbers$Sheets" ⟨"StreetNumbers$Sheets", "copy", "(IIIII)V"⟩ ⟨"StreetNumbers$Sheets", "copy", "(IIIII)V"⟩ ∈ gT := gT_t 669 (by decide +kernel) rfl
theorem q670 : Cond.code ⟨"StreetNumbers$Sheets", "copy", "(IIIII)V"⟩ prog_4_method_9_code 6 (Option.none : Option FieldType) ∈ gT := gT_t 670 (by decide +kernel) rfl
theorem q671 : Cond.methodLink "StreetNumbers$Sheets" 46 ⟨"java/lang/System", "arraycopy", "(Ljava/lang/Object;ILjava/lang/Object;II)V"⟩ ∈ gT := gT_t 671 (by decide +kernel) rfl
theorem q676 : Cond.methodLink "StreetNumbers" 250 ⟨"StreetNumbers$Street", "setPlate", "(II)V"⟩ ∈ gT := gT_t 676 (by decide +kernel) rfl
theorem q685 : Cond.methodLink "StreetNumbers" 254 ⟨"StreetNumbers$Street", "becomeLike", "(LStreetNumbers$Street;)V"⟩ ∈ gT := gT_t 685 (by decide +kernel) rfl
theorem q686 : Cond.instanceMethod ⟨"StreetNumbers$Street", "becomeLike", "(LStreetNumbers$Street;)V"⟩ ∈ gT := gT_t 686 (by decide +kernel) rfl
theorem q687 : Cond.selects "StreetNumbers$Street" ⟨"StreetNumbers$Street", "becomeLike", "(LStreetNumbers$Street;)V"⟩ ⟨"StreetNumbers$Street", "becomeLike", "(LStreetNumbers$Street;)V"⟩ ∈ gT := gT_t 687 (by decide +kernel) rfl
theorem q688 : Cond.code ⟨"StreetNumbers$Street", "becomeLike", "(LStreetNumbers$Street;)V"⟩ prog_5_method_2_code 2 (Option.none : Option FieldType) ∈ gT := gT_t 688 (by decide +kernel) rfl
theorem q689 : Cond.methodLink "StreetNumbers$Street" 56 ⟨"StreetNumbers$Laws", "becomeLike", "(LStreetNumbers$Laws;)V"⟩ ∈ gT := gT_t 689 (by decide +kernel) rfl
theorem q690 : Cond.instanceMethod ⟨"StreetNumbers$Laws", "becomeLike", "(LStreetNumbers$Laws;)V"⟩ ∈ gT := gT_t 690 (by decide +kernel) rfl
theorem q691 : Cond.selects "StreetNumbers$Laws" ⟨"StreetNumbers$Laws", "becomeLike", "(LStreetNumbers$Laws;)V"⟩ ⟨"StreetNumbers$Laws", "becomeLike", "(LStreetNumbers$Laws;)V"⟩ ∈ gT := gT_t 691 (by decide +kernel) rfl
theorem q692 : Cond.code ⟨"StreetNumbers$Laws", "becomeLike", "(LStreetNumbers$Laws;)V"⟩ prog_2_method_2_code 3 (Option.none : Option FieldType) ∈ gT := gT_t 692 (by decide +kernel) rfl
theorem q693 : Cond.methodLink "StreetNumbers$Laws" 36 ⟨"StreetNumbers$Laws", "takeSteps", "(I[II)V"⟩ ∈ gT := gT_t 693 (by decide +kernel) rfl
theorem q702 : Cond.methodLink "StreetNumbers" 261 ⟨"StreetNumbers$Street", "addWaiting", "(I)I"⟩ ∈ gT := gT_t 702 (by decide +kernel) rfl
theorem q703 : Cond.instanceMethod ⟨"StreetNumbers$Street", "addWaiting", "(I)I"⟩ ∈ gT := gT_t 703 (by decide +kernel) rfl
theorem q704 : Cond.selects "StreetNumbers$Street" ⟨"StreetNumbers$Street", "addWaiting", "(I)I"⟩ ⟨"StreetNumbers$Street", "addWaiting", "(I)I"⟩ ∈ gT := gT_t 704 (by decide +kernel) rfl
theorem q705 : Cond.code ⟨"StreetNumbers$Street", "addWaiting", "(I)I"⟩ prog_5_method_13_code 2 (Option.some FieldType.int) ∈ gT := gT_t 705 (by decide +kernel) rfl
theorem q710 : Cond.methodLink "StreetNumbers" 264 ⟨"StreetNumbers$Street", "waitingAt", "(I)I"⟩ ∈ gT := gT_t 710 (by decide +kernel) rfl
theorem q711 : Cond.instanceMethod ⟨"StreetNumbers$Street", "waitingAt", "(I)I"⟩ ∈ gT := gT_t 711 (by decide +kernel) rfl
theorem q712 : Cond.selects "StreetNumbers$Street" ⟨"StreetNumbers$Street", "waitingAt", "(I)I"⟩ ⟨"StreetNumbers$Street", "waitingAt", "(I)I"⟩ ∈ gT := gT_t 712 (by decide +kernel) rfl
theorem q713 : Cond.code ⟨"StreetNumbers$Street", "waitingAt", "(I)I"⟩ prog_5_method_14_code 2 (Option.some FieldType.int) ∈ gT := gT_t 713 (by decide +kernel) rfl
theorem q728 : Cond.fieldLink "StreetNumbersModel" 7 "StreetNumbersModel" "s" "[I" ∈ gT := gT_t 728 (by decide +kernel) rfl
theorem q729 : Cond.fieldLink "StreetNumbersModel" 13 "StreetNumbersModel" "kept" "[I" ∈ gT := gT_t 729 (by decide +kernel) rfl
theorem q730 : Cond.fieldLink "StreetNumbersModel" 258 "StreetNumbersModel" "images" "I" ∈ gT := gT_t 730 (by decide +kernel) rfl
theorem q731 : Cond.fieldLink "StreetNumbersModel" 16 "StreetNumbersModel" "errors" "[I" ∈ gT := gT_t 731 (by decide +kernel) rfl
theorem q732 : Cond.fieldLink "StreetNumbersModel" 64 "StreetNumbersModel" "at" "I" ∈ gT := gT_t 732 (by decide +kernel) rfl
theorem q733 : Cond.fieldLink "StreetNumbersModel" 98 "StreetNumbersModel" "open" "I" ∈ gT := gT_t 733 (by decide +kernel) rfl
theorem q734 : Cond.fieldLink "StreetNumbersModel" 71 "StreetNumbersModel" "steps" "I" ∈ gT := gT_t 734 (by decide +kernel) rfl
theorem q735 : Cond.fieldLink "StreetNumbersModel" 68 "StreetNumbersModel" "use" "I" ∈ gT := gT_t 735 (by decide +kernel) rfl
theorem q736 : Cond.fieldLink "StreetNumbersModel" 19 "StreetNumbersModel" "step" "[I" ∈ gT := gT_t 736 (by decide +kernel) rfl
theorem q737 : Cond.fieldLink "StreetNumbersModel" 22 "StreetNumbersModel" "named" "[I" ∈ gT := gT_t 737 (by decide +kernel) rfl
theorem q738 : Cond.fieldLink "StreetNumbersModel" 25 "StreetNumbersModel" "pile" "[I" ∈ gT := gT_t 738 (by decide +kernel) rfl
theorem q739 : Cond.fieldLink "StreetNumbersModel" 28 "StreetNumbersModel" "leastBy" "[I" ∈ gT := gT_t 739 (by decide +kernel) rfl
theorem q740 : Cond.fieldLink "StreetNumbersModel" 31 "StreetNumbersModel" "rising" "[I" ∈ gT := gT_t 740 (by decide +kernel) rfl
theorem q741 : Cond.fieldLink "StreetNumbersModel" 196 "StreetNumbersModel" "looked" "I" ∈ gT := gT_t 741 (by decide +kernel) rfl
theorem q742 : Cond.fieldLink "StreetNumbersModel" 219 "StreetNumbersModel" "traced" "I" ∈ gT := gT_t 742 (by decide +kernel) rfl
theorem q743 : Cond.fieldLink "StreetNumbersModel" 34 "StreetNumbersModel" "trace" "[I" ∈ gT := gT_t 743 (by decide +kernel) rfl
theorem q744 : Cond.fieldLink "StreetNumbersModel" 222 "StreetNumbersModel" "speaks" "I" ∈ gT := gT_t 744 (by decide +kernel) rfl
theorem q745 : Cond.fieldLink "StreetNumbersModel" 244 "StreetNumbersModel" "isParted" "Z" ∈ gT := gT_t 745 (by decide +kernel) rfl
theorem q746 : Cond.fieldLink "StreetNumbersModel" 37 "StreetNumbersModel" "bits" "[I" ∈ gT := gT_t 746 (by decide +kernel) rfl
theorem q747 : Cond.fieldLink "StreetNumbersModel" 40 "StreetNumbersModel" "sizes" "[I" ∈ gT := gT_t 747 (by decide +kernel) rfl
theorem q748 : Cond.fieldLink "StreetNumbersModel" 43 "StreetNumbersModel" "number" "[I" ∈ gT := gT_t 748 (by decide +kernel) rfl
theorem q749 : Cond.fieldLink "StreetNumbersModel" 46 "StreetNumbersModel" "aside" "[I" ∈ gT := gT_t 749 (by decide +kernel) rfl
theorem q799 : Cond.methodLink "StreetNumbersModel" 50 ⟨"StreetNumbersModel", "in", "(III)Z"⟩ ∈ gT := gT_t 799 (by decide +kernel) rfl
theorem q800 : Cond.static ⟨"StreetNumbersModel", "in", "(III)Z"⟩ ∈ gT := gT_t 800 (by decide +kernel) rfl
theorem q801 : Cond.code ⟨"StreetNumbersModel", "in", "(III)Z"⟩ prog_9_method_3_code 3 (Option.some FieldType.boolean) ∈ gT := gT_t 801 (by decide +kernel) rfl
theorem q802 : Cond.methodLink "StreetNumbersModel" 58 ⟨"StreetNumbersModel", "error", "(I)I"⟩ ∈ gT := gT_t 802 (by decide +kernel) rfl
theorem q804 : Cond.instanceMethod ⟨"StreetNumbersModel", "error", "(I)I"⟩ ∈ gT := gT_t 804 (by decide +kernel) rfl
theorem q805 : Cond.code ⟨"StreetNumbersModel", "error", "(I)I"⟩ prog_9_method_2_code 2 (Option.some FieldType.int) ∈ gT := gT_t 805 (by decide +kernel) rfl
theorem q806 : Cond.constant "StreetNumbersModel" 49 (-1000000000 : Int32) ∈ gT := gT_t 806 (by decide +kernel) rfl
theorem q807 : Cond.constantLong "StreetNumbersModel" 62 (255 : Int64) ∈ gT := gT_t 807 (by decide +kernel) rfl
theorem q812 : Cond.methodLink "StreetNumbersModel" 108 ⟨"StreetNumbersModel", "whole", "()Z"⟩ ∈ gT := gT_t 812 (by decide +kernel) rfl
theorem q814 : Cond.instanceMethod ⟨"StreetNumbersModel", "whole", "()Z"⟩ ∈ gT := gT_t 814 (by decide +kernel) rfl
theorem q815 : Cond.code ⟨"StreetNumbersModel", "whole", "()Z"⟩ prog_9_method_16_code 1 (Option.some FieldType.boolean) ∈ gT := gT_t 815 (by decide +kernel) rfl
theorem q816 : Cond.methodLink "StreetNumbersModel" 74 ⟨"StreetNumbersModel", "both", "()Z"⟩ ∈ gT := gT_t 816 (by decide +kernel) rfl
theorem q818 : Cond.instanceMethod ⟨"StreetNumbersModel", "both", "()Z"⟩ ∈ gT := gT_t 818 (by decide +kernel) rfl
theorem q819 : Cond.code ⟨"StreetNumbersModel", "both", "()Z"⟩ prog_9_method_17_code 1 (Option.some FieldType.boolean) ∈ gT := gT_t 819 (by decide +kernel) rfl
theorem q820 : Cond.methodLink "StreetNumbersModel" 86 ⟨"StreetNumbersModel", "compared", "()Z"⟩ ∈ gT := gT_t 820 (by decide +kernel) rfl
theorem q822 : Cond.instanceMethod ⟨"StreetNumbersModel", "compared", "()Z"⟩ ∈ gT := gT_t 822 (by decide +kernel) rfl
theorem q823 : Cond.code ⟨"StreetNumbersModel", "compared", "()Z"⟩ prog_9_method_18_code 2 (Option.some FieldType.boolean) ∈ gT := gT_t 823 (by decide +kernel) rfl
theorem q824 : Cond.methodLink "StreetNumbersModel" 89 ⟨"StreetNumbersModel", "sum", "()Z"⟩ ∈ gT := gT_t 824 (by decide +kernel) rfl
theorem q826 : Cond.instanceMethod ⟨"StreetNumbersModel", "sum", "()Z"⟩ ∈ gT := gT_t 826 (by decide +kernel) rfl
theorem q827 : Cond.code ⟨"StreetNumbersModel", "sum", "()Z"⟩ prog_9_method_19_code 2 (Option.some FieldType.boolean) ∈ gT := gT_t 827 (by decide +kernel) rfl
theorem q828 : Cond.methodLink "StreetNumbersModel" 92 ⟨"StreetNumbersModel", "product", "()Z"⟩ ∈ gT := gT_t 828 (by decide +kernel) rfl
theorem q830 : Cond.instanceMethod ⟨"StreetNumbersModel", "product", "()Z"⟩ ∈ gT := gT_t 830 (by decide +kernel) rfl
theorem q831 : Cond.code ⟨"StreetNumbersModel", "product", "()Z"⟩ prog_9_method_20_code 2 (Option.some FieldType.boolean) ∈ gT := gT_t 831 (by decide +kernel) rfl
theorem q832 : Cond.methodLink "StreetNumbersModel" 95 ⟨"StreetNumbersModel", "one", "()Z"⟩ ∈ gT := gT_t 832 (by decide +kernel) rfl
theorem q834 : Cond.instanceMethod ⟨"StreetNumbersModel", "one", "()Z"⟩ ∈ gT := gT_t 834 (by decide +kernel) rfl
theorem q835 : Cond.code ⟨"StreetNumbersModel", "one", "()Z"⟩ prog_9_method_22_code 4 (Option.some FieldType.boolean) ∈ gT := gT_t 835 (by decide +kernel) rfl
theorem q836 : Cond.methodLink "StreetNumbersModel" 78 ⟨"StreetNumbersModel", "look", "()I"⟩ ∈ gT := gT_t 836 (by decide +kernel) rfl
theorem q838 : Cond.instanceMethod ⟨"StreetNumbersModel", "look", "()I"⟩ ∈ gT := gT_t 838 (by decide +kernel) rfl
theorem q839 : Cond.code ⟨"StreetNumbersModel", "look", "()I"⟩ prog_9_method_13_code 1 (Option.some FieldType.int) ∈ gT := gT_t 839 (by decide +kernel) rfl
theorem q840 : Cond.methodLink "StreetNumbersModel" 101 ⟨"StreetNumbersModel", "isName", "(I)Z"⟩ ∈ gT := gT_t 840 (by decide +kernel) rfl
theorem q842 : Cond.instanceMethod ⟨"StreetNumbersModel", "isName", "(I)Z"⟩ ∈ gT := gT_t 842 (by decide +kernel) rfl
theorem q843 : Cond.code ⟨"StreetNumbersModel", "isName", "(I)Z"⟩ prog_9_method_14_code 2 (Option.some FieldType.boolean) ∈ gT := gT_t 843 (by decide +kernel) rfl
theorem q844 : Cond.methodLink "StreetNumbersModel" 82 ⟨"StreetNumbersModel", "step1", "(II)V"⟩ ∈ gT := gT_t 844 (by decide +kernel) rfl
theorem q846 : Cond.instanceMethod ⟨"StreetNumbersModel", "step1", "(II)V"⟩ ∈ gT := gT_t 846 (by decide +kernel) rfl
theorem q847 : Cond.code ⟨"StreetNumbersModel", "step1", "(II)V"⟩ prog_9_method_15_code 3 (Option.none : Option FieldType) ∈ gT := gT_t 847 (by decide +kernel) rfl
theorem q848 : Cond.methodLink "StreetNumbersModel" 105 ⟨"StreetNumbersModel", "opens", "()Z"⟩ ∈ gT := gT_t 848 (by decide +kernel) rfl
theorem q850 : Cond.instanceMethod ⟨"StreetNumbersModel", "opens", "()Z"⟩ ∈ gT := gT_t 850 (by decide +kernel) rfl
theorem q851 : Cond.code ⟨"StreetNumbersModel", "opens", "()Z"⟩ prog_9_method_21_code 1 (Option.some FieldType.boolean) ∈ gT := gT_t 851 (by decide +kernel) rfl
theorem q856 : Cond.methodLink "StreetNumbersModel" 111 ⟨"StreetNumbersModel", "hasText", "(I)Z"⟩ ∈ gT := gT_t 856 (by decide +kernel) rfl
theorem q858 : Cond.instanceMethod ⟨"StreetNumbersModel", "hasText", "(I)Z"⟩ ∈ gT := gT_t 858 (by decide +kernel) rfl
theorem q859 : Cond.code ⟨"StreetNumbersModel", "hasText", "(I)Z"⟩ prog_9_method_23_code 2 (Option.some FieldType.boolean) ∈ gT := gT_t 859 (by decide +kernel) rfl
theorem q864 : Cond.methodLink "StreetNumbersModel" 143 ⟨"StreetNumbersModel", "isKind", "(I)Z"⟩ ∈ gT := gT_t 864 (by decide +kernel) rfl
theorem q865 : Cond.static ⟨"StreetNumbersModel", "isKind", "(I)Z"⟩ ∈ gT := gT_t 865 (by decide +kernel) rfl
theorem q866 : Cond.code ⟨"StreetNumbersModel", "isKind", "(I)Z"⟩ prog_9_method_35_code 1 (Option.some FieldType.boolean) ∈ gT := gT_t 866 (by decide +kernel) rfl
theorem q867 : Cond.methodLink "StreetNumbersModel" 146 ⟨"StreetNumbersModel", "isNumber", "(I)Z"⟩ ∈ gT := gT_t 867 (by decide +kernel) rfl
theorem q868 : Cond.static ⟨"StreetNumbersModel", "isNumber", "(I)Z"⟩ ∈ gT := gT_t 868 (by decide +kernel) rfl
theorem q869 : Cond.code ⟨"StreetNumbersModel", "isNumber", "(I)Z"⟩ prog_9_method_7_code 1 (Option.some FieldType.boolean) ∈ gT := gT_t 869 (by decide +kernel) rfl
theorem q870 : Cond.methodLink "StreetNumbersModel" 149 ⟨"StreetNumbersModel", "comes", "(III)V"⟩ ∈ gT := gT_t 870 (by decide +kernel) rfl
theorem q872 : Cond.instanceMethod ⟨"StreetNumbersModel", "comes", "(III)V"⟩ ∈ gT := gT_t 872 (by decide +kernel) rfl
theorem q873 : Cond.code ⟨"StreetNumbersModel", "comes", "(III)V"⟩ prog_9_method_36_code 5 (Option.none : Option FieldType) ∈ gT := gT_t 873 (by decide +kernel) rfl
theorem q874 : Cond.methodLink "StreetNumbersModel" 54 ⟨"StreetNumbersModel", "its", "(II)I"⟩ ∈ gT := gT_t 874 (by decide +kernel) rfl
theorem q876 : Cond.instanceMethod ⟨"StreetNumbersModel", "its", "(II)I"⟩ ∈ gT := gT_t 876 (by decide +kernel) rfl
theorem q877 : Cond.code ⟨"StreetNumbersModel", "its", "(II)I"⟩ prog_9_method_8_code 3 (Option.some FieldType.int) ∈ gT := gT_t 877 (by decide +kernel) rfl
theorem q878 : Cond.methodLink "StreetNumbersModel" 139 ⟨"StreetNumbersModel", "lays1", "(III)V"⟩ ∈ gT := gT_t 878 (by decide +kernel) rfl
theorem q880 : Cond.instanceMethod ⟨"StreetNumbersModel", "lays1", "(III)V"⟩ ∈ gT := gT_t 880 (by decide +kernel) rfl
theorem q881 : Cond.code ⟨"StreetNumbersModel", "lays1", "(III)V"⟩ prog_9_method_9_code 4 (Option.none : Option FieldType) ∈ gT := gT_t 881 (by decide +kernel) rfl
theorem q886 : Cond.methodLink "StreetNumbersModel" 152 ⟨"StreetNumbersModel", "isHouse", "(I)Z"⟩ ∈ gT := gT_t 886 (by decide +kernel) rfl
theorem q888 : Cond.instanceMethod ⟨"StreetNumbersModel", "isHouse", "(I)Z"⟩ ∈ gT := gT_t 888 (by decide +kernel) rfl
theorem q889 : Cond.code ⟨"StreetNumbersModel", "isHouse", "(I)Z"⟩ prog_9_method_6_code 2 (Option.some FieldType.boolean) ∈ gT := gT_t 889 (by decide +kernel) rfl
theorem q890 : Cond.methodLink "StreetNumbersModel" 136 ⟨"StreetNumbersModel", "yardsOf", "(I)I"⟩ ∈ gT := gT_t 890 (by decide +kernel) rfl
theorem q892 : Cond.instanceMethod ⟨"StreetNumbersModel", "yardsOf", "(I)I"⟩ ∈ gT := gT_t 892 (by decide +kernel) rfl
theorem q893 : Cond.code ⟨"StreetNumbersModel", "yardsOf", "(I)I"⟩ prog_9_method_33_code 2 (Option.some FieldType.int) ∈ gT := gT_t 893 (by decide +kernel) rfl
theorem q894 : Cond.methodLink "StreetNumbersModel" 130 ⟨"StreetNumbersModel", "frontOf", "(I)I"⟩ ∈ gT := gT_t 894 (by decide +kernel) rfl
theorem q896 : Cond.instanceMethod ⟨"StreetNumbersModel", "frontOf", "(I)I"⟩ ∈ gT := gT_t 896 (by decide +kernel) rfl
theorem q897 : Cond.code ⟨"StreetNumbersModel", "frontOf", "(I)I"⟩ prog_9_method_29_code 3 (Option.some FieldType.int) ∈ gT := gT_t 897 (by decide +kernel) rfl
theorem q898 : Cond.methodLink "StreetNumbersModel" 133 ⟨"StreetNumbersModel", "yardsTold", "(III)I"⟩ ∈ gT := gT_t 898 (by decide +kernel) rfl
theorem q900 : Cond.instanceMethod ⟨"StreetNumbersModel", "yardsTold", "(III)I"⟩ ∈ gT := gT_t 900 (by decide +kernel) rfl
theorem q901 : Cond.code ⟨"StreetNumbersModel", "yardsTold", "(III)I"⟩ prog_9_method_31_code 4 (Option.some FieldType.int) ∈ gT := gT_t 901 (by decide +kernel) rfl
theorem q902 : Cond.methodLink "StreetNumbersModel" 118 ⟨"StreetNumbersModel", "worked", "(I)I"⟩ ∈ gT := gT_t 902 (by decide +kernel) rfl
theorem q904 : Cond.instanceMethod ⟨"StreetNumbersModel", "worked", "(I)I"⟩ ∈ gT := gT_t 904 (by decide +kernel) rfl
theorem q905 : Cond.code ⟨"StreetNumbersModel", "worked", "(I)I"⟩ prog_9_method_27_code 7 (Option.some FieldType.int) ∈ gT := gT_t 905 (by decide +kernel) rfl
theorem q906 : Cond.methodLink "StreetNumbersModel" 114 ⟨"StreetNumbersModel", "joined", "(III)I"⟩ ∈ gT := gT_t 906 (by decide +kernel) rfl
theorem q907 : Cond.static ⟨"StreetNumbersModel", "joined", "(III)I"⟩ ∈ gT := gT_t 907 (by decide +kernel) rfl
theorem q908 : Cond.code ⟨"StreetNumbersModel", "joined", "(III)I"⟩ prog_9_method_26_code 3 (Option.some FieldType.int) ∈ gT := gT_t 908 (by decide +kernel) rfl
theorem q909 : Cond.methodLink "StreetNumbersModel" 121 ⟨"StreetNumbersModel", "held", "(III)I"⟩ ∈ gT := gT_t 909 (by decide +kernel) rfl
theorem q910 : Cond.static ⟨"StreetNumbersModel", "held", "(III)I"⟩ ∈ gT := gT_t 910 (by decide +kernel) rfl
theorem q911 : Cond.code ⟨"StreetNumbersModel", "held", "(III)I"⟩ prog_9_method_4_code 3 (Option.some FieldType.int) ∈ gT := gT_t 911 (by decide +kernel) rfl
theorem q912 : Cond.methodLink "StreetNumbersModel" 155 ⟨"StreetNumbersModel", "yardsAhead", "(I)I"⟩ ∈ gT := gT_t 912 (by decide +kernel) rfl
theorem q914 : Cond.instanceMethod ⟨"StreetNumbersModel", "yardsAhead", "(I)I"⟩ ∈ gT := gT_t 914 (by decide +kernel) rfl
theorem q915 : Cond.code ⟨"StreetNumbersModel", "yardsAhead", "(I)I"⟩ prog_9_method_34_code 4 (Option.some FieldType.int) ∈ gT := gT_t 915 (by decide +kernel) rfl
theorem q920 : Cond.methodLink "StreetNumbersModel" 158 ⟨"StreetNumbersModel", "at1", "(I)I"⟩ ∈ gT := gT_t 920 (by decide +kernel) rfl
theorem q922 : Cond.instanceMethod ⟨"StreetNumbersModel", "at1", "(I)I"⟩ ∈ gT := gT_t 922 (by decide +kernel) rfl
theorem q923 : Cond.code ⟨"StreetNumbersModel", "at1", "(I)I"⟩ prog_9_method_11_code 3 (Option.some FieldType.int) ∈ gT := gT_t 923 (by decide +kernel) rfl
theorem q928 : Cond.methodLink "StreetNumbersModel" 161 ⟨"StreetNumbersModel", "change1", "(II)I"⟩ ∈ gT := gT_t 928 (by decide +kernel) rfl
theorem q930 : Cond.instanceMethod ⟨"StreetNumbersModel", "change1", "(II)I"⟩ ∈ gT := gT_t 930 (by decide +kernel) rfl
theorem q931 : Cond.code ⟨"StreetNumbersModel", "change1", "(II)I"⟩ prog_9_method_10_code 4 (Option.some FieldType.int) ∈ gT := gT_t 931 (by decide +kernel) rfl
theorem q936 : Cond.methodLink "StreetNumbersModel" 164 ⟨"StreetNumbersModel", "above", "(I)I"⟩ ∈ gT := gT_t 936 (by decide +kernel) rfl
theorem q937 : Cond.static ⟨"StreetNumbersModel", "above", "(I)I"⟩ ∈ gT := gT_t 937 (by decide +kernel) rfl
theorem q938 : Cond.code ⟨"StreetNumbersModel", "above", "(I)I"⟩ prog_9_method_72_code 1 (Option.some FieldType.int) ∈ gT := gT_t 938 (by decide +kernel) rfl
theorem q943 : Cond.methodLink "StreetNumbersModel" 167 ⟨"StreetNumbersModel", "harmOf", "(II)I"⟩ ∈ gT := gT_t 943 (by decide +kernel) rfl
theorem q945 : Cond.instanceMethod ⟨"StreetNumbersModel", "harmOf", "(II)I"⟩ ∈ gT := gT_t 945 (by decide +kernel) rfl
theorem q946 : Cond.code ⟨"StreetNumbersModel", "harmOf", "(II)I"⟩ prog_9_method_32_code 3 (Option.some FieldType.int) ∈ gT := gT_t 946 (by decide +kernel) rfl
theorem q947 : Cond.methodLink "StreetNumbersModel" 124 ⟨"StreetNumbersModel", "mindsOf", "(II)I"⟩ ∈ gT := gT_t 947 (by decide +kernel) rfl
theorem q949 : Cond.instanceMethod ⟨"StreetNumbersModel", "mindsOf", "(II)I"⟩ ∈ gT := gT_t 949 (by decide +kernel) rfl
theorem q950 : Cond.code ⟨"StreetNumbersModel", "mindsOf", "(II)I"⟩ prog_9_method_28_code 7 (Option.some FieldType.int) ∈ gT := gT_t 950 (by decide +kernel) rfl
theorem q951 : Cond.methodLink "StreetNumbersModel" 127 ⟨"StreetNumbersModel", "harmTold", "(III)I"⟩ ∈ gT := gT_t 951 (by decide +kernel) rfl
theorem q953 : Cond.instanceMethod ⟨"StreetNumbersModel", "harmTold", "(III)I"⟩ ∈ gT := gT_t 953 (by decide +kernel) rfl
theorem q954 : Cond.code ⟨"StreetNumbersModel", "harmTold", "(III)I"⟩ prog_9_method_30_code 4 (Option.some FieldType.int) ∈ gT := gT_t 954 (by decide +kernel) rfl
theorem q959 : Cond.methodLink "StreetNumbersModel" 171 ⟨"StreetNumbersModel", "gets", "(II)I"⟩ ∈ gT := gT_t 959 (by decide +kernel) rfl
theorem q961 : Cond.instanceMethod ⟨"StreetNumbersModel", "gets", "(II)I"⟩ ∈ gT := gT_t 961 (by decide +kernel) rfl
theorem q962 : Cond.code ⟨"StreetNumbersModel", "gets", "(II)I"⟩ prog_9_method_43_code 4 (Option.some FieldType.int) ∈ gT := gT_t 962 (by decide +kernel) rfl
theorem q963 : Cond.constant "StreetNumbersModel" 170 (99999 : Int32) ∈ gT := gT_t 963 (by decide +kernel) rfl
theorem q976 : Cond.methodLink "StreetNumbersModel" 174 ⟨"StreetNumbersModel", "isGap", "(I)Z"⟩ ∈ gT := gT_t 976 (by decide +kernel) rfl
theorem q977 : Cond.static ⟨"StreetNumbersModel", "isGap", "(I)Z"⟩ ∈ gT := gT_t 977 (by decide +kernel) rfl
theorem q978 : Cond.code ⟨"StreetNumbersModel", "isGap", "(I)Z"⟩ prog_9_method_47_code 1 (Option.some FieldType.boolean) ∈ gT := gT_t 978 (by decide +kernel) rfl
theorem q979 : Cond.methodLink "StreetNumbersModel" 177 ⟨"StreetNumbersModel", "renumbers", "(I)I"⟩ ∈ gT := gT_t 979 (by decide +kernel) rfl
theorem q981 : Cond.instanceMethod ⟨"StreetNumbersModel", "renumbers", "(I)I"⟩ ∈ gT := gT_t 981 (by decide +kernel) rfl
theorem q982 : Cond.code ⟨"StreetNumbersModel", "renumbers", "(I)I"⟩ prog_9_method_48_code 4 (Option.some FieldType.int) ∈ gT := gT_t 982 (by decide +kernel) rfl
theorem q987 : Cond.methodLink "StreetNumbersModel" 180 ⟨"StreetNumbersModel", "wouldBe", "(I)I"⟩ ∈ gT := gT_t 987 (by decide +kernel) rfl
theorem q989 : Cond.instanceMethod ⟨"StreetNumbersModel", "wouldBe", "(I)I"⟩ ∈ gT := gT_t 989 (by decide +kernel) rfl
theorem q990 : Cond.code ⟨"StreetNumbersModel", "wouldBe", "(I)I"⟩ prog_9_method_49_code 4 (Option.some FieldType.int) ∈ gT := gT_t 990 (by decide +kernel) rfl
theorem q999 : Cond.methodLink "StreetNumbersModel" 184 ⟨"StreetNumbersModel", "findLeast", "()V"⟩ ∈ gT := gT_t 999 (by decide +kernel) rfl
theorem q1001 : Cond.instanceMethod ⟨"StreetNumbersModel", "findLeast", "()V"⟩ ∈ gT := gT_t 1001 (by decide +kernel) rfl
theorem q1002 : Cond.code ⟨"StreetNumbersModel", "findLeast", "()V"⟩ prog_9_method_53_code 6 (Option.none : Option FieldType) ∈ gT := gT_t 1002 (by decide +kernel) rfl
theorem q1003 : Cond.constant "StreetNumbersModel" 183 (1000000 : Int32) ∈ gT := gT_t 1003 (by decide +kernel) rfl
theorem q1004 : Cond.methodLink "StreetNumbersModel" 187 ⟨"StreetNumbersModel", "leastAt", "(II)I"⟩ ∈ gT := gT_t 1004 (by decide +kernel) rfl
theorem q1006 : Cond.instanceMethod ⟨"StreetNumbersModel", "leastAt", "(II)I"⟩ ∈ gT := gT_t 1006 (by decide +kernel) rfl
theorem q1007 : Cond.code ⟨"StreetNumbersModel", "leastAt", "(II)I"⟩ prog_9_method_54_code 5 (Option.some FieldType.int) ∈ gT := gT_t 1007 (by decide +kernel) rfl
theorem q1012 : Cond.methodLink "StreetNumbersModel" 190 ⟨"StreetNumbersModel", "goesBetween", "(I)I"⟩ ∈ gT := gT_t 1012 (by decide +kernel) rfl
theorem q1014 : Cond.instanceMethod ⟨"StreetNumbersModel", "goesBetween", "(I)I"⟩ ∈ gT := gT_t 1014 (by decide +kernel) rfl
theorem q1015 : Cond.code ⟨"StreetNumbersModel", "goesBetween", "(I)I"⟩ prog_9_method_56_code 4 (Option.some FieldType.int) ∈ gT := gT_t 1015 (by decide +kernel) rfl
theorem q1020 : Cond.methodLink "StreetNumbersModel" 193 ⟨"StreetNumbersModel", "longest", "()I"⟩ ∈ gT := gT_t 1020 (by decide +kernel) rfl
theorem q1022 : Cond.instanceMethod ⟨"StreetNumbersModel", "longest", "()I"⟩ ∈ gT := gT_t 1022 (by decide +kernel) rfl
theorem q1023 : Cond.code ⟨"StreetNumbersModel", "longest", "()I"⟩ prog_9_method_58_code 5 (Option.some FieldType.int) ∈ gT := gT_t 1023 (by decide +kernel) rfl
theorem q1032 : Cond.methodLink "StreetNumbersModel" 199 ⟨"StreetNumbersModel", "finds1", "(I)I"⟩ ∈ gT := gT_t 1032 (by decide +kernel) rfl
theorem q1034 : Cond.instanceMethod ⟨"StreetNumbersModel", "finds1", "(I)I"⟩ ∈ gT := gT_t 1034 (by decide +kernel) rfl
theorem q1035 : Cond.code ⟨"StreetNumbersModel", "finds1", "(I)I"⟩ prog_9_method_61_code 6 (Option.some FieldType.int) ∈ gT := gT_t 1035 (by decide +kernel) rfl
theorem q1040 : Cond.methodLink "StreetNumbersModel" 202 ⟨"StreetNumbersModel", "divisor", "(II)I"⟩ ∈ gT := gT_t 1040 (by decide +kernel) rfl
theorem q1041 : Cond.static ⟨"StreetNumbersModel", "divisor", "(II)I"⟩ ∈ gT := gT_t 1041 (by decide +kernel) rfl
theorem q1042 : Cond.code ⟨"StreetNumbersModel", "divisor", "(II)I"⟩ prog_9_method_63_code 5 (Option.some FieldType.int) ∈ gT := gT_t 1042 (by decide +kernel) rfl
theorem q1047 : Cond.methodLink "StreetNumbersModel" 205 ⟨"StreetNumbersModel", "lacks", "(I)I"⟩ ∈ gT := gT_t 1047 (by decide +kernel) rfl
theorem q1049 : Cond.instanceMethod ⟨"StreetNumbersModel", "lacks", "(I)I"⟩ ∈ gT := gT_t 1049 (by decide +kernel) rfl
theorem q1050 : Cond.code ⟨"StreetNumbersModel", "lacks", "(I)I"⟩ prog_9_method_85_code 2 (Option.some FieldType.int) ∈ gT := gT_t 1050 (by decide +kernel) rfl
theorem q1051 : Cond.methodLink "StreetNumbersModel" 251 ⟨"StreetNumbersModel", "isSheet", "(I)Z"⟩ ∈ gT := gT_t 1051 (by decide +kernel) rfl
theorem q1052 : Cond.static ⟨"StreetNumbersModel", "isSheet", "(I)Z"⟩ ∈ gT := gT_t 1052 (by decide +kernel) rfl
theorem q1053 : Cond.code ⟨"StreetNumbersModel", "isSheet", "(I)Z"⟩ prog_9_method_81_code 1 (Option.some FieldType.boolean) ∈ gT := gT_t 1053 (by decide +kernel) rfl
theorem q1054 : Cond.methodLink "StreetNumbersModel" 208 ⟨"StreetNumbersModel", "harmsSo", "(II)Z"⟩ ∈ gT := gT_t 1054 (by decide +kernel) rfl
theorem q1056 : Cond.instanceMethod ⟨"StreetNumbersModel", "harmsSo", "(II)Z"⟩ ∈ gT := gT_t 1056 (by decide +kernel) rfl
theorem q1057 : Cond.code ⟨"StreetNumbersModel", "harmsSo", "(II)Z"⟩ prog_9_method_65_code 5 (Option.some FieldType.boolean) ∈ gT := gT_t 1057 (by decide +kernel) rfl
theorem q1062 : Cond.methodLink "StreetNumbersModel" 216 ⟨"StreetNumbersModel", "buildsOne", "()Z"⟩ ∈ gT := gT_t 1062 (by decide +kernel) rfl
theorem q1064 : Cond.instanceMethod ⟨"StreetNumbersModel", "buildsOne", "()Z"⟩ ∈ gT := gT_t 1064 (by decide +kernel) rfl
theorem q1065 : Cond.code ⟨"StreetNumbersModel", "buildsOne", "()Z"⟩ prog_9_method_68_code 5 (Option.some FieldType.boolean) ∈ gT := gT_t 1065 (by decide +kernel) rfl
theorem q1066 : Cond.methodLink "StreetNumbersModel" 213 ⟨"StreetNumbersModel", "draw", "()I"⟩ ∈ gT := gT_t 1066 (by decide +kernel) rfl
theorem q1068 : Cond.instanceMethod ⟨"StreetNumbersModel", "draw", "()I"⟩ ∈ gT := gT_t 1068 (by decide +kernel) rfl
theorem q1069 : Cond.code ⟨"StreetNumbersModel", "draw", "()I"⟩ prog_9_method_67_code 1 (Option.some FieldType.int) ∈ gT := gT_t 1069 (by decide +kernel) rfl
theorem q1070 : Cond.constant "StreetNumbersModel" 212 (1103515245 : Int32) ∈ gT := gT_t 1070 (by decide +kernel) rfl
theorem q1079 : Cond.methodLink "StreetNumbersModel" 232 ⟨"StreetNumbersModel", "kindNow", "()I"⟩ ∈ gT := gT_t 1079 (by decide +kernel) rfl
theorem q1081 : Cond.instanceMethod ⟨"StreetNumbersModel", "kindNow", "()I"⟩ ∈ gT := gT_t 1081 (by decide +kernel) rfl
theorem q1082 : Cond.code ⟨"StreetNumbersModel", "kindNow", "()I"⟩ prog_9_method_73_code 1 (Option.some FieldType.int) ∈ gT := gT_t 1082 (by decide +kernel) rfl
theorem q1083 : Cond.methodLink "StreetNumbersModel" 229 ⟨"StreetNumbersModel", "ringsAs", "(II)I"⟩ ∈ gT := gT_t 1083 (by decide +kernel) rfl
theorem q1085 : Cond.instanceMethod ⟨"StreetNumbersModel", "ringsAs", "(II)I"⟩ ∈ gT := gT_t 1085 (by decide +kernel) rfl
theorem q1086 : Cond.code ⟨"StreetNumbersModel", "ringsAs", "(II)I"⟩ prog_9_method_75_code 3 (Option.some FieldType.int) ∈ gT := gT_t 1086 (by decide +kernel) rfl
theorem q1087 : Cond.methodLink "StreetNumbersModel" 225 ⟨"StreetNumbersModel", "starts", "(I)V"⟩ ∈ gT := gT_t 1087 (by decide +kernel) rfl
theorem q1089 : Cond.instanceMethod ⟨"StreetNumbersModel", "starts", "(I)V"⟩ ∈ gT := gT_t 1089 (by decide +kernel) rfl
theorem q1090 : Cond.code ⟨"StreetNumbersModel", "starts", "(I)V"⟩ prog_9_method_71_code 2 (Option.none : Option FieldType) ∈ gT := gT_t 1090 (by decide +kernel) rfl
theorem q1091 : Cond.methodLink "StreetNumbersModel" 235 ⟨"StreetNumbersModel", "answersAs", "(II)I"⟩ ∈ gT := gT_t 1091 (by decide +kernel) rfl
theorem q1093 : Cond.instanceMethod ⟨"StreetNumbersModel", "answersAs", "(II)I"⟩ ∈ gT := gT_t 1093 (by decide +kernel) rfl
theorem q1094 : Cond.code ⟨"StreetNumbersModel", "answersAs", "(II)I"⟩ prog_9_method_76_code 3 (Option.some FieldType.int) ∈ gT := gT_t 1094 (by decide +kernel) rfl
theorem q1095 : Cond.methodLink "StreetNumbersModel" 238 ⟨"StreetNumbersModel", "mNow", "()I"⟩ ∈ gT := gT_t 1095 (by decide +kernel) rfl
theorem q1097 : Cond.instanceMethod ⟨"StreetNumbersModel", "mNow", "()I"⟩ ∈ gT := gT_t 1097 (by decide +kernel) rfl
theorem q1098 : Cond.code ⟨"StreetNumbersModel", "mNow", "()I"⟩ prog_9_method_74_code 1 (Option.some FieldType.int) ∈ gT := gT_t 1098 (by decide +kernel) rfl
theorem q1099 : Cond.methodLink "StreetNumbersModel" 241 ⟨"StreetNumbersModel", "waitsAs", "(II)I"⟩ ∈ gT := gT_t 1099 (by decide +kernel) rfl
theorem q1101 : Cond.instanceMethod ⟨"StreetNumbersModel", "waitsAs", "(II)I"⟩ ∈ gT := gT_t 1101 (by decide +kernel) rfl
theorem q1102 : Cond.code ⟨"StreetNumbersModel", "waitsAs", "(II)I"⟩ prog_9_method_77_code 3 (Option.some FieldType.int) ∈ gT := gT_t 1102 (by decide +kernel) rfl
theorem q1103 : Cond.methodLink "StreetNumbersModel" 248 ⟨"StreetNumbersModel", "partsAs", "(II)I"⟩ ∈ gT := gT_t 1103 (by decide +kernel) rfl
theorem q1105 : Cond.instanceMethod ⟨"StreetNumbersModel", "partsAs", "(II)I"⟩ ∈ gT := gT_t 1105 (by decide +kernel) rfl
theorem q1106 : Cond.code ⟨"StreetNumbersModel", "partsAs", "(II)I"⟩ prog_9_method_78_code 5 (Option.some FieldType.int) ∈ gT := gT_t 1106 (by decide +kernel) rfl
theorem q1135 : Cond.methodLink "StreetNumbersModel" 254 ⟨"StreetNumbersModel", "copyAll", "([I[I)V"⟩ ∈ gT := gT_t 1135 (by decide +kernel) rfl
theorem q1136 : Cond.static ⟨"StreetNumbersModel", "copyAll", "([I[I)V"⟩ ∈ gT := gT_t 1136 (by decide +kernel) rfl
theorem q1137 : Cond.code ⟨"StreetNumbersModel", "copyAll", "([I[I)V"⟩ prog_9_method_5_code 3 (Option.none : Option FieldType) ∈ gT := gT_t 1137 (by decide +kernel) rfl
theorem qp0 : Cond.selects "StreetNumbers" ⟨"StreetNumbers", "failing", "(I)I"⟩ ⟨"StreetNumbers", "failing", "(I)I"⟩ ∈ gT := gT_p 0 (by decide +kernel) rfl
theorem qp1 : Cond.selects "StreetNumbers$Street" ⟨"StreetNumbers$Street", "front", "(I)I"⟩ ⟨"StreetNumbers$Street", "front", "(I)I"⟩ ∈ gT := gT_p 1 (by decide +kernel) rfl
theorem qp2 : Cond.selects "StreetNumbers$Laws" ⟨"StreetNumbers$Laws", "workOut", "([IIIII)I"⟩ ⟨"StreetNumbers$Laws", "workOut", "([IIIII)I"⟩ ∈ gT := gT_p 2 (by decide +kernel) rfl
theorem qp3 : Cond.selects "StreetNumbers$Street" ⟨"StreetNumbers$Street", "minds", "(II)I"⟩ ⟨"StreetNumbers$Street", "minds", "(II)I"⟩ ∈ gT := gT_p 3 (by decide +kernel) rfl
theorem qp4 : Cond.selects "StreetNumbers$Reader" ⟨"StreetNumbers$Reader", "reads", "(II)Z"⟩ ⟨"StreetNumbers$Reader", "reads", "(II)Z"⟩ ∈ gT := gT_p 4 (by decide +kernel) rfl
theorem qp5 : Cond.selects "StreetNumbers$Reader" ⟨"StreetNumbers$Reader", "readsSmallest", "(I)Z"⟩ ⟨"StreetNumbers$Reader", "readsSmallest", "(I)Z"⟩ ∈ gT := gT_p 5 (by decide +kernel) rfl
theorem qp6 : Cond.selects "StreetNumbers$Reader" ⟨"StreetNumbers$Reader", "sign", "()I"⟩ ⟨"StreetNumbers$Reader", "sign", "()I"⟩ ∈ gT := gT_p 6 (by decide +kernel) rfl
theorem qp7 : Cond.selects "StreetNumbers$Reader" ⟨"StreetNumbers$Reader", "readNumber", "()V"⟩ ⟨"StreetNumbers$Reader", "readNumber", "()V"⟩ ∈ gT := gT_p 7 (by decide +kernel) rfl
theorem qp8 : Cond.selects "StreetNumbers$Reader" ⟨"StreetNumbers$Reader", "write", "(I)V"⟩ ⟨"StreetNumbers$Reader", "write", "(I)V"⟩ ∈ gT := gT_p 8 (by decide +kernel) rfl
theorem qp9 : Cond.selects "StreetNumbers$Reader" ⟨"StreetNumbers$Reader", "readsOpened", "(II)Z"⟩ ⟨"StreetNumbers$Reader", "readsOpened", "(II)Z"⟩ ∈ gT := gT_p 9 (by decide +kernel) rfl
theorem qp10 : Cond.selects "StreetNumbers$Reader" ⟨"StreetNumbers$Reader", "readsName", "(I)Z"⟩ ⟨"StreetNumbers$Reader", "readsName", "(I)Z"⟩ ∈ gT := gT_p 10 (by decide +kernel) rfl
theorem qp11 : Cond.selects "StreetNumbers$Thoughts" ⟨"StreetNumbers$Thoughts", "sumUpTo", "(LStreetNumbers$Street;I)V"⟩ ⟨"StreetNumbers$Thoughts", "sumUpTo", "(LStreetNumbers$Street;I)V"⟩ ∈ gT := gT_p 11 (by decide +kernel) rfl
theorem qp12 : Cond.selects "StreetNumbers" ⟨"StreetNumbers", "tellsHarmOfGap", "(II)Z"⟩ ⟨"StreetNumbers", "tellsHarmOfGap", "(II)Z"⟩ ∈ gT := gT_p 12 (by decide +kernel) rfl
theorem qp13 : Cond.selects "StreetNumbers$Street" ⟨"StreetNumbers$Street", "draw", "()I"⟩ ⟨"StreetNumbers$Street", "draw", "()I"⟩ ∈ gT := gT_p 13 (by decide +kernel) rfl
theorem qp14 : Cond.selects "StreetNumbers$Voices" ⟨"StreetNumbers$Voices", "speak", "(IIII)I"⟩ ⟨"StreetNumbers$Voices", "speak", "(IIII)I"⟩ ∈ gT := gT_p 14 (by decide +kernel) rfl
theorem qp15 : Cond.selects "StreetNumbers$Voices" ⟨"StreetNumbers$Voices", "begin", "(I)V"⟩ ⟨"StreetNumbers$Voices", "begin", "(I)V"⟩ ∈ gT := gT_p 15 (by decide +kernel) rfl
theorem qp16 : Cond.selects "StreetNumbers$Voices" ⟨"StreetNumbers$Voices", "work", "(III)I"⟩ ⟨"StreetNumbers$Voices", "work", "(III)I"⟩ ∈ gT := gT_p 16 (by decide +kernel) rfl
theorem qp17 : Cond.selects "StreetNumbers$Voices" ⟨"StreetNumbers$Voices", "own", "(III)I"⟩ ⟨"StreetNumbers$Voices", "own", "(III)I"⟩ ∈ gT := gT_p 17 (by decide +kernel) rfl
theorem qp18 : Cond.selects "StreetNumbers$Voices" ⟨"StreetNumbers$Voices", "partedBy", "(II)I"⟩ ⟨"StreetNumbers$Voices", "partedBy", "(II)I"⟩ ∈ gT := gT_p 18 (by decide +kernel) rfl
theorem qp19 : Cond.selects "StreetNumbers$Voices" ⟨"StreetNumbers$Voices", "above", "(IIII)I"⟩ ⟨"StreetNumbers$Voices", "above", "(IIII)I"⟩ ∈ gT := gT_p 19 (by decide +kernel) rfl
theorem qp20 : Cond.selects "StreetNumbersModel" ⟨"StreetNumbersModel", "error", "(I)I"⟩ ⟨"StreetNumbersModel", "error", "(I)I"⟩ ∈ gT := gT_p 20 (by decide +kernel) rfl
theorem qp21 : Cond.selects "StreetNumbersModel" ⟨"StreetNumbersModel", "whole", "()Z"⟩ ⟨"StreetNumbersModel", "whole", "()Z"⟩ ∈ gT := gT_p 21 (by decide +kernel) rfl
theorem qp22 : Cond.selects "StreetNumbersModel" ⟨"StreetNumbersModel", "both", "()Z"⟩ ⟨"StreetNumbersModel", "both", "()Z"⟩ ∈ gT := gT_p 22 (by decide +kernel) rfl
theorem qp23 : Cond.selects "StreetNumbersModel" ⟨"StreetNumbersModel", "compared", "()Z"⟩ ⟨"StreetNumbersModel", "compared", "()Z"⟩ ∈ gT := gT_p 23 (by decide +kernel) rfl
theorem qp24 : Cond.selects "StreetNumbersModel" ⟨"StreetNumbersModel", "sum", "()Z"⟩ ⟨"StreetNumbersModel", "sum", "()Z"⟩ ∈ gT := gT_p 24 (by decide +kernel) rfl
theorem qp25 : Cond.selects "StreetNumbersModel" ⟨"StreetNumbersModel", "product", "()Z"⟩ ⟨"StreetNumbersModel", "product", "()Z"⟩ ∈ gT := gT_p 25 (by decide +kernel) rfl
theorem qp26 : Cond.selects "StreetNumbersModel" ⟨"StreetNumbersModel", "one", "()Z"⟩ ⟨"StreetNumbersModel", "one", "()Z"⟩ ∈ gT := gT_p 26 (by decide +kernel) rfl
theorem qp27 : Cond.selects "StreetNumbersModel" ⟨"StreetNumbersModel", "look", "()I"⟩ ⟨"StreetNumbersModel", "look", "()I"⟩ ∈ gT := gT_p 27 (by decide +kernel) rfl
theorem qp28 : Cond.selects "StreetNumbersModel" ⟨"StreetNumbersModel", "isName", "(I)Z"⟩ ⟨"StreetNumbersModel", "isName", "(I)Z"⟩ ∈ gT := gT_p 28 (by decide +kernel) rfl
theorem qp29 : Cond.selects "StreetNumbersModel" ⟨"StreetNumbersModel", "step1", "(II)V"⟩ ⟨"StreetNumbersModel", "step1", "(II)V"⟩ ∈ gT := gT_p 29 (by decide +kernel) rfl
theorem qp30 : Cond.selects "StreetNumbersModel" ⟨"StreetNumbersModel", "opens", "()Z"⟩ ⟨"StreetNumbersModel", "opens", "()Z"⟩ ∈ gT := gT_p 30 (by decide +kernel) rfl
theorem qp31 : Cond.selects "StreetNumbersModel" ⟨"StreetNumbersModel", "hasText", "(I)Z"⟩ ⟨"StreetNumbersModel", "hasText", "(I)Z"⟩ ∈ gT := gT_p 31 (by decide +kernel) rfl
theorem qp32 : Cond.selects "StreetNumbersModel" ⟨"StreetNumbersModel", "comes", "(III)V"⟩ ⟨"StreetNumbersModel", "comes", "(III)V"⟩ ∈ gT := gT_p 32 (by decide +kernel) rfl
theorem qp33 : Cond.selects "StreetNumbersModel" ⟨"StreetNumbersModel", "its", "(II)I"⟩ ⟨"StreetNumbersModel", "its", "(II)I"⟩ ∈ gT := gT_p 33 (by decide +kernel) rfl
theorem qp34 : Cond.selects "StreetNumbersModel" ⟨"StreetNumbersModel", "lays1", "(III)V"⟩ ⟨"StreetNumbersModel", "lays1", "(III)V"⟩ ∈ gT := gT_p 34 (by decide +kernel) rfl
theorem qp35 : Cond.selects "StreetNumbersModel" ⟨"StreetNumbersModel", "isHouse", "(I)Z"⟩ ⟨"StreetNumbersModel", "isHouse", "(I)Z"⟩ ∈ gT := gT_p 35 (by decide +kernel) rfl
theorem qp36 : Cond.selects "StreetNumbersModel" ⟨"StreetNumbersModel", "yardsOf", "(I)I"⟩ ⟨"StreetNumbersModel", "yardsOf", "(I)I"⟩ ∈ gT := gT_p 36 (by decide +kernel) rfl
theorem qp37 : Cond.selects "StreetNumbersModel" ⟨"StreetNumbersModel", "frontOf", "(I)I"⟩ ⟨"StreetNumbersModel", "frontOf", "(I)I"⟩ ∈ gT := gT_p 37 (by decide +kernel) rfl
theorem qp38 : Cond.selects "StreetNumbersModel" ⟨"StreetNumbersModel", "yardsTold", "(III)I"⟩ ⟨"StreetNumbersModel", "yardsTold", "(III)I"⟩ ∈ gT := gT_p 38 (by decide +kernel) rfl
theorem qp39 : Cond.selects "StreetNumbersModel" ⟨"StreetNumbersModel", "worked", "(I)I"⟩ ⟨"StreetNumbersModel", "worked", "(I)I"⟩ ∈ gT := gT_p 39 (by decide +kernel) rfl
theorem qp40 : Cond.selects "StreetNumbersModel" ⟨"StreetNumbersModel", "yardsAhead", "(I)I"⟩ ⟨"StreetNumbersModel", "yardsAhead", "(I)I"⟩ ∈ gT := gT_p 40 (by decide +kernel) rfl
theorem qp41 : Cond.selects "StreetNumbersModel" ⟨"StreetNumbersModel", "at1", "(I)I"⟩ ⟨"StreetNumbersModel", "at1", "(I)I"⟩ ∈ gT := gT_p 41 (by decide +kernel) rfl
theorem qp42 : Cond.selects "StreetNumbersModel" ⟨"StreetNumbersModel", "change1", "(II)I"⟩ ⟨"StreetNumbersModel", "change1", "(II)I"⟩ ∈ gT := gT_p 42 (by decide +kernel) rfl
theorem qp43 : Cond.selects "StreetNumbersModel" ⟨"StreetNumbersModel", "harmOf", "(II)I"⟩ ⟨"StreetNumbersModel", "harmOf", "(II)I"⟩ ∈ gT := gT_p 43 (by decide +kernel) rfl
theorem qp44 : Cond.selects "StreetNumbersModel" ⟨"StreetNumbersModel", "mindsOf", "(II)I"⟩ ⟨"StreetNumbersModel", "mindsOf", "(II)I"⟩ ∈ gT := gT_p 44 (by decide +kernel) rfl
theorem qp45 : Cond.selects "StreetNumbersModel" ⟨"StreetNumbersModel", "harmTold", "(III)I"⟩ ⟨"StreetNumbersModel", "harmTold", "(III)I"⟩ ∈ gT := gT_p 45 (by decide +kernel) rfl
theorem qp46 : Cond.selects "StreetNumbersModel" ⟨"StreetNumbersModel", "gets", "(II)I"⟩ ⟨"StreetNumbersModel", "gets", "(II)I"⟩ ∈ gT := gT_p 46 (by decide +kernel) rfl
theorem qp47 : Cond.selects "StreetNumbersModel" ⟨"StreetNumbersModel", "renumbers", "(I)I"⟩ ⟨"StreetNumbersModel", "renumbers", "(I)I"⟩ ∈ gT := gT_p 47 (by decide +kernel) rfl
theorem qp48 : Cond.selects "StreetNumbersModel" ⟨"StreetNumbersModel", "wouldBe", "(I)I"⟩ ⟨"StreetNumbersModel", "wouldBe", "(I)I"⟩ ∈ gT := gT_p 48 (by decide +kernel) rfl
theorem qp49 : Cond.selects "StreetNumbersModel" ⟨"StreetNumbersModel", "findLeast", "()V"⟩ ⟨"StreetNumbersModel", "findLeast", "()V"⟩ ∈ gT := gT_p 49 (by decide +kernel) rfl
theorem qp50 : Cond.selects "StreetNumbersModel" ⟨"StreetNumbersModel", "leastAt", "(II)I"⟩ ⟨"StreetNumbersModel", "leastAt", "(II)I"⟩ ∈ gT := gT_p 50 (by decide +kernel) rfl
theorem qp51 : Cond.selects "StreetNumbersModel" ⟨"StreetNumbersModel", "goesBetween", "(I)I"⟩ ⟨"StreetNumbersModel", "goesBetween", "(I)I"⟩ ∈ gT := gT_p 51 (by decide +kernel) rfl
theorem qp52 : Cond.selects "StreetNumbersModel" ⟨"StreetNumbersModel", "longest", "()I"⟩ ⟨"StreetNumbersModel", "longest", "()I"⟩ ∈ gT := gT_p 52 (by decide +kernel) rfl
theorem qp53 : Cond.selects "StreetNumbersModel" ⟨"StreetNumbersModel", "finds1", "(I)I"⟩ ⟨"StreetNumbersModel", "finds1", "(I)I"⟩ ∈ gT := gT_p 53 (by decide +kernel) rfl
theorem qp54 : Cond.selects "StreetNumbersModel" ⟨"StreetNumbersModel", "lacks", "(I)I"⟩ ⟨"StreetNumbersModel", "lacks", "(I)I"⟩ ∈ gT := gT_p 54 (by decide +kernel) rfl
theorem qp55 : Cond.selects "StreetNumbersModel" ⟨"StreetNumbersModel", "harmsSo", "(II)Z"⟩ ⟨"StreetNumbersModel", "harmsSo", "(II)Z"⟩ ∈ gT := gT_p 55 (by decide +kernel) rfl
theorem qp56 : Cond.selects "StreetNumbersModel" ⟨"StreetNumbersModel", "buildsOne", "()Z"⟩ ⟨"StreetNumbersModel", "buildsOne", "()Z"⟩ ∈ gT := gT_p 56 (by decide +kernel) rfl
theorem qp57 : Cond.selects "StreetNumbersModel" ⟨"StreetNumbersModel", "draw", "()I"⟩ ⟨"StreetNumbersModel", "draw", "()I"⟩ ∈ gT := gT_p 57 (by decide +kernel) rfl
theorem qp58 : Cond.selects "StreetNumbersModel" ⟨"StreetNumbersModel", "kindNow", "()I"⟩ ⟨"StreetNumbersModel", "kindNow", "()I"⟩ ∈ gT := gT_p 58 (by decide +kernel) rfl
theorem qp59 : Cond.selects "StreetNumbersModel" ⟨"StreetNumbersModel", "ringsAs", "(II)I"⟩ ⟨"StreetNumbersModel", "ringsAs", "(II)I"⟩ ∈ gT := gT_p 59 (by decide +kernel) rfl
theorem qp60 : Cond.selects "StreetNumbersModel" ⟨"StreetNumbersModel", "starts", "(I)V"⟩ ⟨"StreetNumbersModel", "starts", "(I)V"⟩ ∈ gT := gT_p 60 (by decide +kernel) rfl
theorem qp61 : Cond.selects "StreetNumbersModel" ⟨"StreetNumbersModel", "answersAs", "(II)I"⟩ ⟨"StreetNumbersModel", "answersAs", "(II)I"⟩ ∈ gT := gT_p 61 (by decide +kernel) rfl
theorem qp62 : Cond.selects "StreetNumbersModel" ⟨"StreetNumbersModel", "mNow", "()I"⟩ ⟨"StreetNumbersModel", "mNow", "()I"⟩ ∈ gT := gT_p 62 (by decide +kernel) rfl
theorem qp63 : Cond.selects "StreetNumbersModel" ⟨"StreetNumbersModel", "waitsAs", "(II)I"⟩ ⟨"StreetNumbersModel", "waitsAs", "(II)I"⟩ ∈ gT := gT_p 63 (by decide +kernel) rfl
theorem qp64 : Cond.selects "StreetNumbersModel" ⟨"StreetNumbersModel", "partsAs", "(II)I"⟩ ⟨"StreetNumbersModel", "partsAs", "(II)I"⟩ ∈ gT := gT_p 64 (by decide +kernel) rfl
theorem inX0 : ∀ w ∈ wsX00, w ∈ gT := fun w h => mem_gT ((by decide +kernel : ∀ w ∈ wsX00, w ∈ lw_tbl) w h) (List.all_eq_true.mp (by decide +kernel : wsX00.all goodWord = true) w h)
theorem inX1 : ∀ w ∈ wsX10, w ∈ gT := fun w h => mem_gT ((by decide +kernel : ∀ w ∈ wsX10, w ∈ lw_tbl) w h) (List.all_eq_true.mp (by decide +kernel : wsX10.all goodWord = true) w h)
theorem inX2 : ∀ w ∈ wsX20, w ∈ gT := fun w h => mem_gT ((by decide +kernel : ∀ w ∈ wsX20, w ∈ lw_tbl) w h) (List.all_eq_true.mp (by decide +kernel : wsX20.all goodWord = true) w h)
theorem inX3 : ∀ w ∈ wsX30, w ∈ gT := fun w h => mem_gT ((by decide +kernel : ∀ w ∈ wsX30, w ∈ lw_tbl) w h) (List.all_eq_true.mp (by decide +kernel : wsX30.all goodWord = true) w h)
theorem inX4 : ∀ w ∈ wsX40, w ∈ gT := fun w h => mem_gT ((by decide +kernel : ∀ w ∈ wsX40, w ∈ lw_tbl) w h) (List.all_eq_true.mp (by decide +kernel : wsX40.all goodWord = true) w h)
theorem inX5 : ∀ w ∈ wsX50, w ∈ gT := fun w h => mem_gT ((by decide +kernel : ∀ w ∈ wsX50, w ∈ lw_tbl) w h) (List.all_eq_true.mp (by decide +kernel : wsX50.all goodWord = true) w h)
theorem inX6 : ∀ w ∈ wsX60, w ∈ gT := fun w h => mem_gT ((by decide +kernel : ∀ w ∈ wsX60, w ∈ lw_tbl) w h) (List.all_eq_true.mp (by decide +kernel : wsX60.all goodWord = true) w h)
theorem inX7 : ∀ w ∈ wsX70, w ∈ gT := fun w h => mem_gT ((by decide +kernel : ∀ w ∈ wsX70, w ∈ lw_tbl) w h) (List.all_eq_true.mp (by decide +kernel : wsX70.all goodWord = true) w h)
theorem hq_0 : 0 < nW := by decide
theorem hq_1 : 1 < nW := by decide
theorem hq_2 : 2 < nW := by decide
theorem hq_4 : 4 < nW := by decide
theorem hq_14 : 14 < nW := by decide
theorem hq_15 : 15 < nW := by decide
theorem hq_17 : 17 < nW := by decide
theorem hq_27 : 27 < nW := by decide
theorem hq_30 : 30 < nW := by decide
theorem hq_31 : 31 < nW := by decide
theorem hq_42 : 42 < nW := by decide
theorem hq_55 : 55 < nW := by decide
theorem hq_57 : 57 < nW := by decide
theorem hq_58 : 58 < nW := by decide
theorem hq_66 : 66 < nW := by decide
theorem pf_0_7 (Γ : Gm) (r : Nat → Int32) (x : Int32) : el Γ 0 (upd r 7 x) = .inr (6, (fs_0 Γ r).set 7 (.int x)) := rfl
theorem pf_1_1 (Γ : Gm) (r : Nat → Int32) (x : Int32) : el Γ 1 (upd r 1 x) = .inr (3, (fs_1 Γ r).set 1 (.int x)) := rfl
theorem pf_1_2 (Γ : Gm) (r : Nat → Int32) (x : Int32) : el Γ 1 (upd r 2 x) = .inr (3, (fs_1 Γ r).set 2 (.int x)) := rfl
theorem pf_1_3 (Γ : Gm) (r : Nat → Int32) (x : Int32) : el Γ 1 (upd r 3 x) = .inr (3, (fs_1 Γ r).set 3 (.int x)) := rfl
theorem pf_1_4 (Γ : Gm) (r : Nat → Int32) (x : Int32) : el Γ 1 (upd r 4 x) = .inr (3, (fs_1 Γ r).set 4 (.int x)) := rfl
theorem pf_1_5 (Γ : Gm) (r : Nat → Int32) (x : Int32) : el Γ 1 (upd r 5 x) = .inr (3, (fs_1 Γ r).set 5 (.int x)) := rfl
theorem pf_2_1 (Γ : Gm) (r : Nat → Int32) (x : Int32) : el Γ 2 (upd r 1 x) = .inr (0, (fs_2 Γ r).set 1 (.int x)) := rfl
theorem pf_14_1 (Γ : Gm) (r : Nat → Int32) (x : Int32) : el Γ 14 (upd r 1 x) = .inr (3, (fs_14 Γ r).set 1 (.int x)) := rfl
theorem pf_14_2 (Γ : Gm) (r : Nat → Int32) (x : Int32) : el Γ 14 (upd r 2 x) = .inr (3, (fs_14 Γ r).set 2 (.int x)) := rfl
theorem pf_14_3 (Γ : Gm) (r : Nat → Int32) (x : Int32) : el Γ 14 (upd r 3 x) = .inr (3, (fs_14 Γ r).set 3 (.int x)) := rfl
theorem pf_14_4 (Γ : Gm) (r : Nat → Int32) (x : Int32) : el Γ 14 (upd r 4 x) = .inr (3, (fs_14 Γ r).set 4 (.int x)) := rfl
theorem pf_14_5 (Γ : Gm) (r : Nat → Int32) (x : Int32) : el Γ 14 (upd r 5 x) = .inr (3, (fs_14 Γ r).set 5 (.int x)) := rfl
theorem pf_15_1 (Γ : Gm) (r : Nat → Int32) (x : Int32) : el Γ 15 (upd r 1 x) = .inr (0, (fs_15 Γ r).set 1 (.int x)) := rfl
theorem pf_27_1 (Γ : Gm) (r : Nat → Int32) (x : Int32) : el Γ 27 (upd r 1 x) = .inr (1, (fs_27 Γ r).set 1 (.int x)) := rfl
theorem pf_27_3 (Γ : Gm) (r : Nat → Int32) (x : Int32) : el Γ 27 (upd r 3 x) = .inr (1, (fs_27 Γ r).set 3 (.int x)) := rfl
theorem pf_27_4 (Γ : Gm) (r : Nat → Int32) (x : Int32) : el Γ 27 (upd r 4 x) = .inr (1, (fs_27 Γ r).set 4 (.int x)) := rfl
theorem pf_27_5 (Γ : Gm) (r : Nat → Int32) (x : Int32) : el Γ 27 (upd r 5 x) = .inr (1, (fs_27 Γ r).set 5 (.int x)) := rfl
theorem pf_30_0 (Γ : Gm) (r : Nat → Int32) (x : Int32) : el Γ 30 (upd r 0 x) = .inr (4, (fs_30 Γ r).set 0 (.int x)) := rfl
theorem pf_55_0 (Γ : Gm) (r : Nat → Int32) (x : Int32) : el Γ 55 (upd r 0 x) = .inr (5, (fs_55 Γ r).set 0 (.int x)) := rfl
theorem pf_55_1 (Γ : Gm) (r : Nat → Int32) (x : Int32) : el Γ 55 (upd r 1 x) = .inr (5, (fs_55 Γ r).set 1 (.int x)) := rfl
theorem pf_55_3 (Γ : Gm) (r : Nat → Int32) (x : Int32) : el Γ 55 (upd r 3 x) = .inr (5, (fs_55 Γ r).set 3 (.int x)) := rfl
theorem pf_55_4 (Γ : Gm) (r : Nat → Int32) (x : Int32) : el Γ 55 (upd r 4 x) = .inr (5, (fs_55 Γ r).set 4 (.int x)) := rfl
theorem pf_55_5 (Γ : Gm) (r : Nat → Int32) (x : Int32) : el Γ 55 (upd r 5 x) = .inr (5, (fs_55 Γ r).set 5 (.int x)) := rfl
theorem pf_66_2 (Γ : Gm) (r : Nat → Int32) (x : Int32) : el Γ 66 (upd r 2 x) = .inr (7, (fs_66 Γ r).set 2 (.int x)) := rfl
theorem pf_66_4 (Γ : Gm) (r : Nat → Int32) (x : Int32) : el Γ 66 (upd r 4 x) = .inr (7, (fs_66 Γ r).set 4 (.int x)) := rfl
theorem pf_66_5 (Γ : Gm) (r : Nat → Int32) (x : Int32) : el Γ 66 (upd r 5 x) = .inr (7, (fs_66 Γ r).set 5 (.int x)) := rfl
theorem pf_66_6 (Γ : Gm) (r : Nat → Int32) (x : Int32) : el Γ 66 (upd r 6 x) = .inr (7, (fs_66 Γ r).set 6 (.int x)) := rfl
theorem pf_66_7 (Γ : Gm) (r : Nat → Int32) (x : Int32) : el Γ 66 (upd r 7 x) = .inr (7, (fs_66 Γ r).set 7 (.int x)) := rfl
theorem pf_66_13 (Γ : Gm) (r : Nat → Int32) (x : Int32) : el Γ 66 (upd r 13 x) = .inr (7, (fs_66 Γ r).set 13 (.int x)) := rfl
theorem pf_66_14 (Γ : Gm) (r : Nat → Int32) (x : Int32) : el Γ 66 (upd r 14 x) = .inr (7, (fs_66 Γ r).set 14 (.int x)) := rfl
theorem pf_66_16 (Γ : Gm) (r : Nat → Int32) (x : Int32) : el Γ 66 (upd r 16 x) = .inr (7, (fs_66 Γ r).set 16 (.int x)) := rfl
theorem pf_66_17 (Γ : Gm) (r : Nat → Int32) (x : Int32) : el Γ 66 (upd r 17 x) = .inr (7, (fs_66 Γ r).set 17 (.int x)) := rfl
theorem cal_X0_addBytes : Cal yX0_addBytes cX0_addBytes 7 (some .int) 2 := ⟨q378, q379, q3, q380, by decide +kernel, by decide +kernel, by decide +kernel⟩
theorem cal_X0_becomeLike : Cal yX0_becomeLike cX0_becomeLike 3 none 1 := ⟨q690, q691, q3, q692, by decide +kernel, by decide +kernel, by decide +kernel⟩
theorem cal_X0_forget : Cal yX0_forget cX0_forget 3 (some .boolean) 1 := ⟨q439, q440, q3, q441, by decide +kernel, by decide +kernel, by decide +kernel⟩
theorem cal_X0_give : Cal yX0_give cX0_give 6 (some .int) 4 := ⟨q283, q284, q3, q285, by decide +kernel, by decide +kernel, by decide +kernel⟩
theorem cal_X0_joined : CalS yX0_joined cX0_joined 3 (some .int) 3 := ⟨q300, q3, q301, by decide +kernel, by decide +kernel, by decide +kernel⟩
theorem cal_X0_named : CalS yX0_named cX0_named 4 (some .int) 4 := ⟨q297, q3, q298, by decide +kernel, by decide +kernel, by decide +kernel⟩
theorem cal_X0_takeSteps : Cal yX0_takeSteps cX0_takeSteps 4 none 3 := ⟨q430, q431, q3, q432, by decide +kernel, by decide +kernel, by decide +kernel⟩
theorem cal_X0_workOut : Cal yX0_workOut cX0_workOut 9 (some .int) 5 := ⟨q291, qp2, q3, q292, by decide +kernel, by decide +kernel, by decide +kernel⟩
theorem cal_X1_faultOf : Cal yX1_faultOf cX1_faultOf 4 (some .int) 3 := ⟨q388, q389, q4, q390, by decide +kernel, by decide +kernel, by decide +kernel⟩
theorem cal_X1_isDigit : CalS yX1_isDigit cX1_isDigit 1 (some .boolean) 1 := ⟨q406, q4, q407, by decide +kernel, by decide +kernel, by decide +kernel⟩
theorem cal_X1_joins : CalS yX1_joins cX1_joins 2 (some .boolean) 2 := ⟨q427, q4, q428, by decide +kernel, by decide +kernel, by decide +kernel⟩
theorem cal_X1_readNumber : Cal yX1_readNumber cX1_readNumber 3 none 0 := ⟨q410, qp7, q4, q411, by decide +kernel, by decide +kernel, by decide +kernel⟩
theorem cal_X1_reads : Cal yX1_reads cX1_reads 6 (some .boolean) 2 := ⟨q395, qp4, q4, q396, by decide +kernel, by decide +kernel, by decide +kernel⟩
theorem cal_X1_readsName : Cal yX1_readsName cX1_readsName 4 (some .boolean) 1 := ⟨q422, qp10, q4, q423, by decide +kernel, by decide +kernel, by decide +kernel⟩
theorem cal_X1_readsOpened : Cal yX1_readsOpened cX1_readsOpened 3 (some .boolean) 2 := ⟨q418, qp9, q4, q419, by decide +kernel, by decide +kernel, by decide +kernel⟩
theorem cal_X1_readsSmallest : Cal yX1_readsSmallest cX1_readsSmallest 3 (some .boolean) 1 := ⟨q399, qp5, q4, q400, by decide +kernel, by decide +kernel, by decide +kernel⟩
theorem cal_X1_sign : Cal yX1_sign cX1_sign 1 (some .int) 0 := ⟨q403, qp6, q4, q404, by decide +kernel, by decide +kernel, by decide +kernel⟩
theorem cal_X1_write : Cal yX1_write cX1_write 2 none 1 := ⟨q414, qp8, q4, q415, by decide +kernel, by decide +kernel, by decide +kernel⟩
theorem cal_X2_bits : Cal yX2_bits cX2_bits 2 (some .int) 1 := ⟨q550, q551, q7, q552, by decide +kernel, by decide +kernel, by decide +kernel⟩
theorem cal_X2_copy : Cal yX2_copy cX2_copy 6 none 5 := ⟨q668, q669, q7, q670, by decide +kernel, by decide +kernel, by decide +kernel⟩
theorem cal_X2_holds : Cal yX2_holds cX2_holds 4 (some .boolean) 3 := ⟨q567, q568, q7, q569, by decide +kernel, by decide +kernel, by decide +kernel⟩
theorem cal_X2_isMissing : Cal yX2_isMissing cX2_isMissing 2 (some .boolean) 1 := ⟨q546, q547, q7, q548, by decide +kernel, by decide +kernel, by decide +kernel⟩
theorem cal_X2_lowest : CalS yX2_lowest cX2_lowest 2 (some .int) 2 := ⟨q659, q7, q660, by decide +kernel, by decide +kernel, by decide +kernel⟩
theorem cal_X2_number : Cal yX2_number cX2_number 3 (some .int) 2 := ⟨q563, q564, q7, q565, by decide +kernel, by decide +kernel, by decide +kernel⟩
theorem cal_X2_renew : Cal yX2_renew cX2_renew 5 none 3 := ⟨q646, q647, q7, q648, by decide +kernel, by decide +kernel, by decide +kernel⟩
theorem cal_X2_size : Cal yX2_size cX2_size 2 (some .int) 1 := ⟨q559, q560, q7, q561, by decide +kernel, by decide +kernel, by decide +kernel⟩
theorem cal_X2_write : Cal yX2_write cX2_write 4 none 3 := ⟨q655, q656, q7, q657, by decide +kernel, by decide +kernel, by decide +kernel⟩
theorem cal_X3_addHouse : Cal yX3_addHouse cX3_addHouse 6 (some .int) 4 := ⟨q229, q230, q2, q231, by decide +kernel, by decide +kernel, by decide +kernel⟩
theorem cal_X3_addWaiting : Cal yX3_addWaiting cX3_addWaiting 2 (some .int) 1 := ⟨q703, q704, q2, q705, by decide +kernel, by decide +kernel, by decide +kernel⟩
theorem cal_X3_becomeLike : Cal yX3_becomeLike cX3_becomeLike 2 none 1 := ⟨q686, q687, q2, q688, by decide +kernel, by decide +kernel, by decide +kernel⟩
theorem cal_X3_draw : Cal yX3_draw cX3_draw 1 (some .int) 0 := ⟨q581, qp13, q2, q582, by decide +kernel, by decide +kernel, by decide +kernel⟩
theorem cal_X3_front : Cal yX3_front cX3_front 3 (some .int) 1 := ⟨q278, qp1, q2, q279, by decide +kernel, by decide +kernel, by decide +kernel⟩
theorem cal_X3_getsNumber : Cal yX3_getsNumber cX3_getsNumber 4 (some .int) 2 := ⟨q363, q364, q2, q365, by decide +kernel, by decide +kernel, by decide +kernel⟩
theorem cal_X3_harmOfGap : Cal yX3_harmOfGap cX3_harmOfGap 4 (some .int) 1 := ⟨q461, q462, q2, q463, by decide +kernel, by decide +kernel, by decide +kernel⟩
theorem cal_X3_harmTo : Cal yX3_harmTo cX3_harmTo 4 (some .int) 2 := ⟨q341, q342, q2, q343, by decide +kernel, by decide +kernel, by decide +kernel⟩
theorem cal_X3_hasHouse : Cal yX3_hasHouse cX3_hasHouse 2 (some .boolean) 1 := ⟨q240, q241, q2, q242, by decide +kernel, by decide +kernel, by decide +kernel⟩
theorem cal_X3_houseAt : Cal yX3_houseAt cX3_houseAt 2 (some .int) 1 := ⟨q273, q274, q2, q275, by decide +kernel, by decide +kernel, by decide +kernel⟩
theorem cal_X3_kind : Cal yX3_kind cX3_kind 2 (some .int) 1 := ⟨q253, q254, q2, q255, by decide +kernel, by decide +kernel, by decide +kernel⟩
theorem cal_X3_m : Cal yX3_m cX3_m 2 (some .int) 1 := ⟨q257, q258, q2, q259, by decide +kernel, by decide +kernel, by decide +kernel⟩
theorem cal_X3_minds : Cal yX3_minds cX3_minds 4 (some .int) 2 := ⟨q347, qp3, q2, q348, by decide +kernel, by decide +kernel, by decide +kernel⟩
theorem cal_X3_numberBetween : Cal yX3_numberBetween cX3_numberBetween 4 (some .int) 1 := ⟨q493, q494, q2, q495, by decide +kernel, by decide +kernel, by decide +kernel⟩
theorem cal_X3_passYearByDraws : Cal yX3_passYearByDraws cX3_passYearByDraws 4 (some .int) 0 := ⟨q576, q577, q2, q578, by decide +kernel, by decide +kernel, by decide +kernel⟩
theorem cal_X3_placeOf : Cal yX3_placeOf cX3_placeOf 3 (some .int) 1 := ⟨q265, q266, q2, q267, by decide +kernel, by decide +kernel, by decide +kernel⟩
theorem cal_X3_plate : Cal yX3_plate cX3_plate 2 (some .int) 1 := ⟨q261, q262, q2, q263, by decide +kernel, by decide +kernel, by decide +kernel⟩
theorem cal_X3_plateAt : Cal yX3_plateAt cX3_plateAt 2 (some .int) 1 := ⟨q497, q498, q2, q499, by decide +kernel, by decide +kernel, by decide +kernel⟩
theorem cal_X3_renumberBy : Cal yX3_renumberBy cX3_renumberBy 4 (some .int) 1 := ⟨q452, q453, q2, q454, by decide +kernel, by decide +kernel, by decide +kernel⟩
theorem cal_X3_setKind : Cal yX3_setKind cX3_setKind 4 none 3 := ⟨q236, q237, q2, q238, by decide +kernel, by decide +kernel, by decide +kernel⟩
theorem cal_X3_setPlate : Cal yX3_setPlate cX3_setPlate 3 none 2 := ⟨q244, q245, q2, q246, by decide +kernel, by decide +kernel, by decide +kernel⟩
theorem cal_X3_shopMinds : CalS yX3_shopMinds cX3_shopMinds 2 (some .int) 2 := ⟨q356, q2, q357, by decide +kernel, by decide +kernel, by decide +kernel⟩
theorem cal_X3_villaMinds : CalS yX3_villaMinds cX3_villaMinds 2 (some .int) 2 := ⟨q353, q2, q354, by decide +kernel, by decide +kernel, by decide +kernel⟩
theorem cal_X3_waitingAt : Cal yX3_waitingAt cX3_waitingAt 2 (some .int) 1 := ⟨q711, q712, q2, q713, by decide +kernel, by decide +kernel, by decide +kernel⟩
theorem cal_X3_yardsAhead : Cal yX3_yardsAhead cX3_yardsAhead 4 (some .int) 1 := ⟨q310, q311, q2, q312, by decide +kernel, by decide +kernel, by decide +kernel⟩
theorem cal_X3_yardsAt : Cal yX3_yardsAt cX3_yardsAt 2 (some .int) 1 := ⟨q269, q270, q2, q271, by decide +kernel, by decide +kernel, by decide +kernel⟩
theorem cal_X4_commonDivisor : CalS yX4_commonDivisor cX4_commonDivisor 3 (some .int) 2 := ⟨q528, q5, q529, by decide +kernel, by decide +kernel, by decide +kernel⟩
theorem cal_X4_housesFound : Cal yX4_housesFound cX4_housesFound 4 (some .int) 1 := ⟨q523, q524, q5, q525, by decide +kernel, by decide +kernel, by decide +kernel⟩
theorem cal_X4_leastRising : Cal yX4_leastRising cX4_leastRising 5 (some .int) 1 := ⟨q473, q474, q5, q475, by decide +kernel, by decide +kernel, by decide +kernel⟩
theorem cal_X4_longestRising : Cal yX4_longestRising cX4_longestRising 6 (some .int) 1 := ⟨q505, q506, q5, q507, by decide +kernel, by decide +kernel, by decide +kernel⟩
theorem cal_X4_placeFound : Cal yX4_placeFound cX4_placeFound 8 (some .int) 2 := ⟨q515, q516, q5, q517, by decide +kernel, by decide +kernel, by decide +kernel⟩
theorem cal_X4_risingOf : Cal yX4_risingOf cX4_risingOf 2 (some .int) 1 := ⟨q485, q486, q5, q487, by decide +kernel, by decide +kernel, by decide +kernel⟩
theorem cal_X4_sumUpTo : Cal yX4_sumUpTo cX4_sumUpTo 9 none 2 := ⟨q479, qp11, q5, q480, by decide +kernel, by decide +kernel, by decide +kernel⟩
theorem cal_X5_above : Cal yX5_above cX5_above 5 (some .int) 4 := ⟨q631, qp19, q6, q632, by decide +kernel, by decide +kernel, by decide +kernel⟩
theorem cal_X5_answerOf : Cal yX5_answerOf cX5_answerOf 6 (some .int) 5 := ⟨q599, q600, q6, q601, by decide +kernel, by decide +kernel, by decide +kernel⟩
theorem cal_X5_begin : Cal yX5_begin cX5_begin 2 none 1 := ⟨q614, qp15, q6, q615, by decide +kernel, by decide +kernel, by decide +kernel⟩
theorem cal_X5_bodyAt : Cal yX5_bodyAt cX5_bodyAt 2 (some .int) 1 := ⟨q638, q639, q6, q640, by decide +kernel, by decide +kernel, by decide +kernel⟩
theorem cal_X5_own : Cal yX5_own cX5_own 4 (some .int) 3 := ⟨q622, qp17, q6, q623, by decide +kernel, by decide +kernel, by decide +kernel⟩
theorem cal_X5_ownBody : CalS yX5_ownBody cX5_ownBody 3 (some .int) 2 := ⟨q607, q6, q608, by decide +kernel, by decide +kernel, by decide +kernel⟩
theorem cal_X5_partedBy : Cal yX5_partedBy cX5_partedBy 3 (some .int) 2 := ⟨q626, qp18, q6, q627, by decide +kernel, by decide +kernel, by decide +kernel⟩
theorem cal_X5_speak : Cal yX5_speak cX5_speak 7 (some .int) 4 := ⟨q604, qp14, q6, q605, by decide +kernel, by decide +kernel, by decide +kernel⟩
theorem cal_X5_work : Cal yX5_work cX5_work 4 (some .int) 3 := ⟨q618, qp16, q6, q619, by decide +kernel, by decide +kernel, by decide +kernel⟩
theorem cal_X6_failing : Cal yX6_failing cX6_failing 2 (some .int) 1 := ⟨q225, qp0, q1, q226, by decide +kernel, by decide +kernel, by decide +kernel⟩
theorem cal_X6_held : CalS yX6_held cX6_held 3 (some .int) 3 := ⟨q303, q1, q304, by decide +kernel, by decide +kernel, by decide +kernel⟩
theorem cal_X6_isKindWithM : CalS yX6_isKindWithM cX6_isKindWithM 1 (some .boolean) 1 := ⟨q218, q1, q219, by decide +kernel, by decide +kernel, by decide +kernel⟩
theorem cal_X6_isOrIsUnder : CalS yX6_isOrIsUnder cX6_isOrIsUnder 4 (some .boolean) 2 := ⟨q329, q1, q330, by decide +kernel, by decide +kernel, by decide +kernel⟩
theorem cal_X6_isPlate : CalS yX6_isPlate cX6_isPlate 1 (some .boolean) 1 := ⟨q221, q1, q222, by decide +kernel, by decide +kernel, by decide +kernel⟩
theorem cal_X6_isSheet : CalS yX6_isSheet cX6_isSheet 1 (some .boolean) 1 := ⟨q543, q1, q544, by decide +kernel, by decide +kernel, by decide +kernel⟩
theorem cal_X6_isUse : CalS yX6_isUse cX6_isUse 1 (some .boolean) 1 := ⟨q287, q1, q288, by decide +kernel, by decide +kernel, by decide +kernel⟩
theorem cal_X6_kindAbove : CalS yX6_kindAbove cX6_kindAbove 1 (some .int) 1 := ⟨q332, q1, q333, by decide +kernel, by decide +kernel, by decide +kernel⟩
theorem cal_X6_quotient : CalS yX6_quotient cX6_quotient 2 (some .int) 2 := ⟨q531, q1, q532, by decide +kernel, by decide +kernel, by decide +kernel⟩
theorem cal_X6_rest : CalS yX6_rest cX6_rest 2 (some .int) 2 := ⟨q585, q1, q586, by decide +kernel, by decide +kernel, by decide +kernel⟩
theorem cal_X6_tellsHarmOfGap : Cal yX6_tellsHarmOfGap cX6_tellsHarmOfGap 6 (some .boolean) 2 := ⟨q556, qp12, q1, q557, by decide +kernel, by decide +kernel, by decide +kernel⟩
theorem cal_X7_above : CalS yX7_above cX7_above 1 (some .int) 1 := ⟨q937, q8, q938, by decide +kernel, by decide +kernel, by decide +kernel⟩
theorem cal_X7_answersAs : Cal yX7_answersAs cX7_answersAs 3 (some .int) 2 := ⟨q1093, qp61, q8, q1094, by decide +kernel, by decide +kernel, by decide +kernel⟩
theorem cal_X7_at1 : Cal yX7_at1 cX7_at1 3 (some .int) 1 := ⟨q922, qp41, q8, q923, by decide +kernel, by decide +kernel, by decide +kernel⟩
theorem cal_X7_both : Cal yX7_both cX7_both 1 (some .boolean) 0 := ⟨q818, qp22, q8, q819, by decide +kernel, by decide +kernel, by decide +kernel⟩
theorem cal_X7_buildsOne : Cal yX7_buildsOne cX7_buildsOne 5 (some .boolean) 0 := ⟨q1064, qp56, q8, q1065, by decide +kernel, by decide +kernel, by decide +kernel⟩
theorem cal_X7_change1 : Cal yX7_change1 cX7_change1 4 (some .int) 2 := ⟨q930, qp42, q8, q931, by decide +kernel, by decide +kernel, by decide +kernel⟩
theorem cal_X7_comes : Cal yX7_comes cX7_comes 5 none 3 := ⟨q872, qp32, q8, q873, by decide +kernel, by decide +kernel, by decide +kernel⟩
theorem cal_X7_compared : Cal yX7_compared cX7_compared 2 (some .boolean) 0 := ⟨q822, qp23, q8, q823, by decide +kernel, by decide +kernel, by decide +kernel⟩
theorem cal_X7_copyAll : CalS yX7_copyAll cX7_copyAll 3 none 2 := ⟨q1136, q8, q1137, by decide +kernel, by decide +kernel, by decide +kernel⟩
theorem cal_X7_divisor : CalS yX7_divisor cX7_divisor 5 (some .int) 2 := ⟨q1041, q8, q1042, by decide +kernel, by decide +kernel, by decide +kernel⟩
theorem cal_X7_draw : Cal yX7_draw cX7_draw 1 (some .int) 0 := ⟨q1068, qp57, q8, q1069, by decide +kernel, by decide +kernel, by decide +kernel⟩
theorem cal_X7_error : Cal yX7_error cX7_error 2 (some .int) 1 := ⟨q804, qp20, q8, q805, by decide +kernel, by decide +kernel, by decide +kernel⟩
theorem cal_X7_findLeast : Cal yX7_findLeast cX7_findLeast 6 none 0 := ⟨q1001, qp49, q8, q1002, by decide +kernel, by decide +kernel, by decide +kernel⟩
theorem cal_X7_finds1 : Cal yX7_finds1 cX7_finds1 6 (some .int) 1 := ⟨q1034, qp53, q8, q1035, by decide +kernel, by decide +kernel, by decide +kernel⟩
theorem cal_X7_frontOf : Cal yX7_frontOf cX7_frontOf 3 (some .int) 1 := ⟨q896, qp37, q8, q897, by decide +kernel, by decide +kernel, by decide +kernel⟩
theorem cal_X7_gets : Cal yX7_gets cX7_gets 4 (some .int) 2 := ⟨q961, qp46, q8, q962, by decide +kernel, by decide +kernel, by decide +kernel⟩
theorem cal_X7_goesBetween : Cal yX7_goesBetween cX7_goesBetween 4 (some .int) 1 := ⟨q1014, qp51, q8, q1015, by decide +kernel, by decide +kernel, by decide +kernel⟩
theorem cal_X7_harmOf : Cal yX7_harmOf cX7_harmOf 3 (some .int) 2 := ⟨q945, qp43, q8, q946, by decide +kernel, by decide +kernel, by decide +kernel⟩
theorem cal_X7_harmTold : Cal yX7_harmTold cX7_harmTold 4 (some .int) 3 := ⟨q953, qp45, q8, q954, by decide +kernel, by decide +kernel, by decide +kernel⟩
theorem cal_X7_harmsSo : Cal yX7_harmsSo cX7_harmsSo 5 (some .boolean) 2 := ⟨q1056, qp55, q8, q1057, by decide +kernel, by decide +kernel, by decide +kernel⟩
theorem cal_X7_hasText : Cal yX7_hasText cX7_hasText 2 (some .boolean) 1 := ⟨q858, qp31, q8, q859, by decide +kernel, by decide +kernel, by decide +kernel⟩
theorem cal_X7_held : CalS yX7_held cX7_held 3 (some .int) 3 := ⟨q910, q8, q911, by decide +kernel, by decide +kernel, by decide +kernel⟩
theorem cal_X7_in : CalS yX7_in cX7_in 3 (some .boolean) 3 := ⟨q800, q8, q801, by decide +kernel, by decide +kernel, by decide +kernel⟩
theorem cal_X7_isGap : CalS yX7_isGap cX7_isGap 1 (some .boolean) 1 := ⟨q977, q8, q978, by decide +kernel, by decide +kernel, by decide +kernel⟩
theorem cal_X7_isHouse : Cal yX7_isHouse cX7_isHouse 2 (some .boolean) 1 := ⟨q888, qp35, q8, q889, by decide +kernel, by decide +kernel, by decide +kernel⟩
theorem cal_X7_isKind : CalS yX7_isKind cX7_isKind 1 (some .boolean) 1 := ⟨q865, q8, q866, by decide +kernel, by decide +kernel, by decide +kernel⟩
theorem cal_X7_isName : Cal yX7_isName cX7_isName 2 (some .boolean) 1 := ⟨q842, qp28, q8, q843, by decide +kernel, by decide +kernel, by decide +kernel⟩
theorem cal_X7_isNumber : CalS yX7_isNumber cX7_isNumber 1 (some .boolean) 1 := ⟨q868, q8, q869, by decide +kernel, by decide +kernel, by decide +kernel⟩
theorem cal_X7_isSheet : CalS yX7_isSheet cX7_isSheet 1 (some .boolean) 1 := ⟨q1052, q8, q1053, by decide +kernel, by decide +kernel, by decide +kernel⟩
theorem cal_X7_its : Cal yX7_its cX7_its 3 (some .int) 2 := ⟨q876, qp33, q8, q877, by decide +kernel, by decide +kernel, by decide +kernel⟩
theorem cal_X7_joined : CalS yX7_joined cX7_joined 3 (some .int) 3 := ⟨q907, q8, q908, by decide +kernel, by decide +kernel, by decide +kernel⟩
theorem cal_X7_kindNow : Cal yX7_kindNow cX7_kindNow 1 (some .int) 0 := ⟨q1081, qp58, q8, q1082, by decide +kernel, by decide +kernel, by decide +kernel⟩
theorem cal_X7_lacks : Cal yX7_lacks cX7_lacks 2 (some .int) 1 := ⟨q1049, qp54, q8, q1050, by decide +kernel, by decide +kernel, by decide +kernel⟩
theorem cal_X7_lays1 : Cal yX7_lays1 cX7_lays1 4 none 3 := ⟨q880, qp34, q8, q881, by decide +kernel, by decide +kernel, by decide +kernel⟩
theorem cal_X7_leastAt : Cal yX7_leastAt cX7_leastAt 5 (some .int) 2 := ⟨q1006, qp50, q8, q1007, by decide +kernel, by decide +kernel, by decide +kernel⟩
theorem cal_X7_longest : Cal yX7_longest cX7_longest 5 (some .int) 0 := ⟨q1022, qp52, q8, q1023, by decide +kernel, by decide +kernel, by decide +kernel⟩
theorem cal_X7_look : Cal yX7_look cX7_look 1 (some .int) 0 := ⟨q838, qp27, q8, q839, by decide +kernel, by decide +kernel, by decide +kernel⟩
theorem cal_X7_mNow : Cal yX7_mNow cX7_mNow 1 (some .int) 0 := ⟨q1097, qp62, q8, q1098, by decide +kernel, by decide +kernel, by decide +kernel⟩
theorem cal_X7_mindsOf : Cal yX7_mindsOf cX7_mindsOf 7 (some .int) 2 := ⟨q949, qp44, q8, q950, by decide +kernel, by decide +kernel, by decide +kernel⟩
theorem cal_X7_one : Cal yX7_one cX7_one 4 (some .boolean) 0 := ⟨q834, qp26, q8, q835, by decide +kernel, by decide +kernel, by decide +kernel⟩
theorem cal_X7_opens : Cal yX7_opens cX7_opens 1 (some .boolean) 0 := ⟨q850, qp30, q8, q851, by decide +kernel, by decide +kernel, by decide +kernel⟩
theorem cal_X7_partsAs : Cal yX7_partsAs cX7_partsAs 5 (some .int) 2 := ⟨q1105, qp64, q8, q1106, by decide +kernel, by decide +kernel, by decide +kernel⟩
theorem cal_X7_product : Cal yX7_product cX7_product 2 (some .boolean) 0 := ⟨q830, qp25, q8, q831, by decide +kernel, by decide +kernel, by decide +kernel⟩
theorem cal_X7_renumbers : Cal yX7_renumbers cX7_renumbers 4 (some .int) 1 := ⟨q981, qp47, q8, q982, by decide +kernel, by decide +kernel, by decide +kernel⟩
theorem cal_X7_ringsAs : Cal yX7_ringsAs cX7_ringsAs 3 (some .int) 2 := ⟨q1085, qp59, q8, q1086, by decide +kernel, by decide +kernel, by decide +kernel⟩
theorem cal_X7_starts : Cal yX7_starts cX7_starts 2 none 1 := ⟨q1089, qp60, q8, q1090, by decide +kernel, by decide +kernel, by decide +kernel⟩
theorem cal_X7_step1 : Cal yX7_step1 cX7_step1 3 none 2 := ⟨q846, qp29, q8, q847, by decide +kernel, by decide +kernel, by decide +kernel⟩
theorem cal_X7_sum : Cal yX7_sum cX7_sum 2 (some .boolean) 0 := ⟨q826, qp24, q8, q827, by decide +kernel, by decide +kernel, by decide +kernel⟩
theorem cal_X7_waitsAs : Cal yX7_waitsAs cX7_waitsAs 3 (some .int) 2 := ⟨q1101, qp63, q8, q1102, by decide +kernel, by decide +kernel, by decide +kernel⟩
theorem cal_X7_whole : Cal yX7_whole cX7_whole 1 (some .boolean) 0 := ⟨q814, qp21, q8, q815, by decide +kernel, by decide +kernel, by decide +kernel⟩
theorem cal_X7_worked : Cal yX7_worked cX7_worked 7 (some .int) 1 := ⟨q904, qp39, q8, q905, by decide +kernel, by decide +kernel, by decide +kernel⟩
theorem cal_X7_wouldBe : Cal yX7_wouldBe cX7_wouldBe 4 (some .int) 1 := ⟨q989, qp48, q8, q990, by decide +kernel, by decide +kernel, by decide +kernel⟩
theorem cal_X7_yardsAhead : Cal yX7_yardsAhead cX7_yardsAhead 4 (some .int) 1 := ⟨q914, qp40, q8, q915, by decide +kernel, by decide +kernel, by decide +kernel⟩
theorem cal_X7_yardsOf : Cal yX7_yardsOf cX7_yardsOf 2 (some .int) 1 := ⟨q892, qp36, q8, q893, by decide +kernel, by decide +kernel, by decide +kernel⟩
theorem cal_X7_yardsTold : Cal yX7_yardsTold cX7_yardsTold 4 (some .int) 3 := ⟨q900, qp38, q8, q901, by decide +kernel, by decide +kernel, by decide +kernel⟩
theorem nst_X0_42 : Cond.methodLinkNest "StreetNumbers$Laws" 42 ⟨"StreetNumbers", "isUse", "(I)Z"⟩ "StreetNumbers" ∈ nestW := List.mem_of_getElem? (i := 0) rfl
theorem nst_X0_50 : Cond.methodLinkNest "StreetNumbers$Laws" 50 ⟨"StreetNumbers", "held", "(III)I"⟩ "StreetNumbers" ∈ nestW := List.mem_of_getElem? (i := 1) rfl
theorem nst_X1_24 : Cond.methodLinkNest "StreetNumbers$Reader" 24 ⟨"StreetNumbers", "held", "(III)I"⟩ "StreetNumbers" ∈ nestW := List.mem_of_getElem? (i := 2) rfl
theorem nst_X1_72 : Cond.fieldLinkNest "StreetNumbers$Reader" 72 "StreetNumbers" "NAMES" "[C" "StreetNumbers" ∈ nestW := List.mem_of_getElem? (i := 3) rfl
theorem nst_X2_21 : Cond.methodLinkNest "StreetNumbers$Sheets" 21 ⟨"StreetNumbers", "isSheet", "(I)Z"⟩ "StreetNumbers" ∈ nestW := List.mem_of_getElem? (i := 4) rfl
theorem nst_X3_128 : Cond.methodLinkNest "StreetNumbers$Street" 128 ⟨"StreetNumbers", "rest", "(II)I"⟩ "StreetNumbers" ∈ nestW := List.mem_of_getElem? (i := 5) rfl
theorem nst_X5_43 : Cond.methodLinkNest "StreetNumbers$Voices" 43 ⟨"StreetNumbers", "kindAbove", "(I)I"⟩ "StreetNumbers" ∈ nestW := List.mem_of_getElem? (i := 6) rfl
theorem nst_X5_64 : Cond.methodLinkNest "StreetNumbers$Voices" 64 ⟨"StreetNumbers", "quotient", "(II)I"⟩ "StreetNumbers" ∈ nestW := List.mem_of_getElem? (i := 7) rfl
theorem nst_X2_38 : Cond.methodLinkNest "StreetNumbers$Sheets" 38 ⟨"StreetNumbers", "held", "(III)I"⟩ "StreetNumbers" ∈ nestW := List.mem_of_getElem? (i := 8) rfl
end
