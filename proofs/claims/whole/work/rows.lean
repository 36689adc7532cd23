section
-- ===== PART A: goes FIRST, ahead of the names: the tables' words, and 'selects' of the private methods out of them =====
/-- a private method of a class that the tables say can be made, by its rows of tables_1 -/
def lw_okq (q : MethodName × Nat) : Prop := (q.1.cls ≠ "java/lang/invoke/MethodHandle" ∧ q.1.cls ≠ "java/lang/invoke/VarHandle") ∧ Cond.instantiable q.1.cls q.2 ∈ tables_1 ∧ Cond.privateMethod q.1 ∈ tables_1 ∧ Cond.instanceMethod q.1 ∈ tables_1
theorem lw_p0 : lw_okq (⟨"WordFletchers$TextReader", "step", "()V"⟩, 6) := ⟨⟨by decide +kernel, by decide +kernel⟩, List.mem_of_getElem? (i := 22) (by decide +kernel), List.mem_of_getElem? (i := 309) (by decide +kernel), List.mem_of_getElem? (i := 310) (by decide +kernel)⟩
theorem lw_p1 : lw_okq (⟨"WordFletchers$TextReader", "sortAt", "(I)I"⟩, 6) := ⟨⟨by decide +kernel, by decide +kernel⟩, List.mem_of_getElem? (i := 22) (by decide +kernel), List.mem_of_getElem? (i := 313) (by decide +kernel), List.mem_of_getElem? (i := 314) (by decide +kernel)⟩
theorem lw_p2 : lw_okq (⟨"WordFletchers$TextReader", "stepOverLetters", "()V"⟩, 6) := ⟨⟨by decide +kernel, by decide +kernel⟩, List.mem_of_getElem? (i := 22) (by decide +kernel), List.mem_of_getElem? (i := 317) (by decide +kernel), List.mem_of_getElem? (i := 318) (by decide +kernel)⟩
theorem lw_p3 : lw_okq (⟨"WordFletchers$TextReader", "stepOverDigits", "()V"⟩, 6) := ⟨⟨by decide +kernel, by decide +kernel⟩, List.mem_of_getElem? (i := 22) (by decide +kernel), List.mem_of_getElem? (i := 321) (by decide +kernel), List.mem_of_getElem? (i := 322) (by decide +kernel)⟩
theorem lw_p4 : lw_okq (⟨"WordFletchers$TextReader", "readItem", "(LWordFletchers$Told;)Z"⟩, 6) := ⟨⟨by decide +kernel, by decide +kernel⟩, List.mem_of_getElem? (i := 22) (by decide +kernel), List.mem_of_getElem? (i := 325) (by decide +kernel), List.mem_of_getElem? (i := 326) (by decide +kernel)⟩
theorem lw_p5 : lw_okq (⟨"WordFletchers$TextReader", "readOne", "(LWordFletchers$Told;)Z"⟩, 6) := ⟨⟨by decide +kernel, by decide +kernel⟩, List.mem_of_getElem? (i := 22) (by decide +kernel), List.mem_of_getElem? (i := 329) (by decide +kernel), List.mem_of_getElem? (i := 330) (by decide +kernel)⟩
theorem lw_p6 : lw_okq (⟨"WordFletchers$TextReader", "takeNumber", "(II)I"⟩, 6) := ⟨⟨by decide +kernel, by decide +kernel⟩, List.mem_of_getElem? (i := 22) (by decide +kernel), List.mem_of_getElem? (i := 333) (by decide +kernel), List.mem_of_getElem? (i := 334) (by decide +kernel)⟩
theorem lw_p7 : lw_okq (⟨"WordFletchers$TextReader", "takeSemicolon", "()Z"⟩, 6) := ⟨⟨by decide +kernel, by decide +kernel⟩, List.mem_of_getElem? (i := 22) (by decide +kernel), List.mem_of_getElem? (i := 337) (by decide +kernel), List.mem_of_getElem? (i := 338) (by decide +kernel)⟩
theorem lw_p8 : lw_okq (⟨"WordFletchers$TextReader", "readSaying", "(LWordFletchers$Told;)Z"⟩, 6) := ⟨⟨by decide +kernel, by decide +kernel⟩, List.mem_of_getElem? (i := 22) (by decide +kernel), List.mem_of_getElem? (i := 341) (by decide +kernel), List.mem_of_getElem? (i := 342) (by decide +kernel)⟩
theorem lw_p9 : lw_okq (⟨"WordFletchers$TextReader", "readWinds", "(LWordFletchers$Told;)Z"⟩, 6) := ⟨⟨by decide +kernel, by decide +kernel⟩, List.mem_of_getElem? (i := 22) (by decide +kernel), List.mem_of_getElem? (i := 345) (by decide +kernel), List.mem_of_getElem? (i := 346) (by decide +kernel)⟩
theorem lw_p10 : lw_okq (⟨"WordFletchers$TextReader", "readFeathers", "(LWordFletchers$Told;)Z"⟩, 6) := ⟨⟨by decide +kernel, by decide +kernel⟩, List.mem_of_getElem? (i := 22) (by decide +kernel), List.mem_of_getElem? (i := 349) (by decide +kernel), List.mem_of_getElem? (i := 350) (by decide +kernel)⟩
theorem lw_p11 : lw_okq (⟨"WordFletchers", "beginAnew", "()V"⟩, 13) := ⟨⟨by decide +kernel, by decide +kernel⟩, List.mem_of_getElem? (i := 14) (by decide +kernel), List.mem_of_getElem? (i := 353) (by decide +kernel), List.mem_of_getElem? (i := 354) (by decide +kernel)⟩
theorem lw_p12 : lw_okq (⟨"WordFletchers", "windIn", "(I)I"⟩, 13) := ⟨⟨by decide +kernel, by decide +kernel⟩, List.mem_of_getElem? (i := 14) (by decide +kernel), List.mem_of_getElem? (i := 386) (by decide +kernel), List.mem_of_getElem? (i := 387) (by decide +kernel)⟩
theorem lw_p13 : lw_okq (⟨"WordFletchers", "isLetOff", "(IIIII)Z"⟩, 13) := ⟨⟨by decide +kernel, by decide +kernel⟩, List.mem_of_getElem? (i := 14) (by decide +kernel), List.mem_of_getElem? (i := 409) (by decide +kernel), List.mem_of_getElem? (i := 410) (by decide +kernel)⟩
theorem lw_p14 : lw_okq (⟨"WordFletchers", "landingNow", "(III)I"⟩, 13) := ⟨⟨by decide +kernel, by decide +kernel⟩, List.mem_of_getElem? (i := 14) (by decide +kernel), List.mem_of_getElem? (i := 417) (by decide +kernel), List.mem_of_getElem? (i := 418) (by decide +kernel)⟩
theorem lw_p15 : lw_okq (⟨"WordFletchers$Past", "loseOldest", "()V"⟩, 2) := ⟨⟨by decide +kernel, by decide +kernel⟩, List.mem_of_getElem? (i := 145) (by decide +kernel), List.mem_of_getElem? (i := 446) (by decide +kernel), List.mem_of_getElem? (i := 447) (by decide +kernel)⟩
def lw_privs_1 : List (MethodName × Nat) := [(⟨"WordFletchers$TextReader", "step", "()V"⟩, 6), (⟨"WordFletchers$TextReader", "sortAt", "(I)I"⟩, 6), (⟨"WordFletchers$TextReader", "stepOverLetters", "()V"⟩, 6), (⟨"WordFletchers$TextReader", "stepOverDigits", "()V"⟩, 6), (⟨"WordFletchers$TextReader", "readItem", "(LWordFletchers$Told;)Z"⟩, 6), (⟨"WordFletchers$TextReader", "readOne", "(LWordFletchers$Told;)Z"⟩, 6), (⟨"WordFletchers$TextReader", "takeNumber", "(II)I"⟩, 6), (⟨"WordFletchers$TextReader", "takeSemicolon", "()Z"⟩, 6), (⟨"WordFletchers$TextReader", "readSaying", "(LWordFletchers$Told;)Z"⟩, 6), (⟨"WordFletchers$TextReader", "readWinds", "(LWordFletchers$Told;)Z"⟩, 6), (⟨"WordFletchers$TextReader", "readFeathers", "(LWordFletchers$Told;)Z"⟩, 6), (⟨"WordFletchers", "beginAnew", "()V"⟩, 13), (⟨"WordFletchers", "windIn", "(I)I"⟩, 13), (⟨"WordFletchers", "isLetOff", "(IIIII)Z"⟩, 13), (⟨"WordFletchers", "landingNow", "(III)I"⟩, 13), (⟨"WordFletchers$Past", "loseOldest", "()V"⟩, 2)]
theorem lw_r1 : ∀ q ∈ lw_privs_1, lw_okq q := List.forall_mem_cons.mpr ⟨lw_p0, List.forall_mem_cons.mpr ⟨lw_p1, List.forall_mem_cons.mpr ⟨lw_p2, List.forall_mem_cons.mpr ⟨lw_p3, List.forall_mem_cons.mpr ⟨lw_p4, List.forall_mem_cons.mpr ⟨lw_p5, List.forall_mem_cons.mpr ⟨lw_p6, List.forall_mem_cons.mpr ⟨lw_p7, List.forall_mem_cons.mpr ⟨lw_p8, List.forall_mem_cons.mpr ⟨lw_p9, List.forall_mem_cons.mpr ⟨lw_p10, List.forall_mem_cons.mpr ⟨lw_p11, List.forall_mem_cons.mpr ⟨lw_p12, List.forall_mem_cons.mpr ⟨lw_p13, List.forall_mem_cons.mpr ⟨lw_p14, List.forall_mem_cons.mpr ⟨lw_p15, fun _ h => absurd h List.not_mem_nil⟩⟩⟩⟩⟩⟩⟩⟩⟩⟩⟩⟩⟩⟩⟩⟩
theorem lw_p16 : lw_okq (⟨"WordFletchers", "areTwo", "(II)Z"⟩, 13) := ⟨⟨by decide +kernel, by decide +kernel⟩, List.mem_of_getElem? (i := 14) (by decide +kernel), List.mem_of_getElem? (i := 508) (by decide +kernel), List.mem_of_getElem? (i := 509) (by decide +kernel)⟩
theorem lw_p17 : lw_okq (⟨"WordFletchers", "countShotsNeeded", "(II)V"⟩, 13) := ⟨⟨by decide +kernel, by decide +kernel⟩, List.mem_of_getElem? (i := 14) (by decide +kernel), List.mem_of_getElem? (i := 526) (by decide +kernel), List.mem_of_getElem? (i := 527) (by decide +kernel)⟩
theorem lw_p18 : lw_okq (⟨"WordFletchers", "whoCanHear", "(II)I"⟩, 13) := ⟨⟨by decide +kernel, by decide +kernel⟩, List.mem_of_getElem? (i := 14) (by decide +kernel), List.mem_of_getElem? (i := 530) (by decide +kernel), List.mem_of_getElem? (i := 531) (by decide +kernel)⟩
theorem lw_p19 : lw_okq (⟨"WordFletchers", "fewestNeeded", "(I)I"⟩, 13) := ⟨⟨by decide +kernel, by decide +kernel⟩, List.mem_of_getElem? (i := 14) (by decide +kernel), List.mem_of_getElem? (i := 536) (by decide +kernel), List.mem_of_getElem? (i := 537) (by decide +kernel)⟩
theorem lw_p20 : lw_okq (⟨"WordFletchers", "firstOfRelay", "(III)I"⟩, 13) := ⟨⟨by decide +kernel, by decide +kernel⟩, List.mem_of_getElem? (i := 14) (by decide +kernel), List.mem_of_getElem? (i := 541) (by decide +kernel), List.mem_of_getElem? (i := 542) (by decide +kernel)⟩
theorem lw_p21 : lw_okq (⟨"WordFletchers", "prepareAllotment", "(I)V"⟩, 13) := ⟨⟨by decide +kernel, by decide +kernel⟩, List.mem_of_getElem? (i := 14) (by decide +kernel), List.mem_of_getElem? (i := 553) (by decide +kernel), List.mem_of_getElem? (i := 554) (by decide +kernel)⟩
theorem lw_p22 : lw_okq (⟨"WordFletchers", "fewestToBeHeard", "(II)I"⟩, 13) := ⟨⟨by decide +kernel, by decide +kernel⟩, List.mem_of_getElem? (i := 14) (by decide +kernel), List.mem_of_getElem? (i := 561) (by decide +kernel), List.mem_of_getElem? (i := 562) (by decide +kernel)⟩
theorem lw_p23 : lw_okq (⟨"WordFletchers$Allotment", "costOf", "(I[I)I"⟩, 6) := ⟨⟨by decide +kernel, by decide +kernel⟩, List.mem_of_getElem? (i := 191) (by decide +kernel), List.mem_of_getElem? (i := 573) (by decide +kernel), List.mem_of_getElem? (i := 574) (by decide +kernel)⟩
theorem lw_p24 : lw_okq (⟨"WordFletchers$Allotment", "kindOf", "(II)I"⟩, 6) := ⟨⟨by decide +kernel, by decide +kernel⟩, List.mem_of_getElem? (i := 191) (by decide +kernel), List.mem_of_getElem? (i := 577) (by decide +kernel), List.mem_of_getElem? (i := 578) (by decide +kernel)⟩
theorem lw_p25 : lw_okq (⟨"WordFletchers", "suspects", "()I"⟩, 13) := ⟨⟨by decide +kernel, by decide +kernel⟩, List.mem_of_getElem? (i := 14) (by decide +kernel), List.mem_of_getElem? (i := 610) (by decide +kernel), List.mem_of_getElem? (i := 611) (by decide +kernel)⟩
theorem lw_p26 : lw_okq (⟨"WordFletchers", "canBeAllSeen", "(I)Z"⟩, 13) := ⟨⟨by decide +kernel, by decide +kernel⟩, List.mem_of_getElem? (i := 14) (by decide +kernel), List.mem_of_getElem? (i := 614) (by decide +kernel), List.mem_of_getElem? (i := 615) (by decide +kernel)⟩
theorem lw_p27 : lw_okq (⟨"WordFletchers", "mostAlike", "(II)I"⟩, 13) := ⟨⟨by decide +kernel, by decide +kernel⟩, List.mem_of_getElem? (i := 14) (by decide +kernel), List.mem_of_getElem? (i := 634) (by decide +kernel), List.mem_of_getElem? (i := 635) (by decide +kernel)⟩
theorem lw_p28 : lw_okq (⟨"WordFletchers", "howManyReach", "(II)I"⟩, 13) := ⟨⟨by decide +kernel, by decide +kernel⟩, List.mem_of_getElem? (i := 14) (by decide +kernel), List.mem_of_getElem? (i := 638) (by decide +kernel), List.mem_of_getElem? (i := 639) (by decide +kernel)⟩
theorem lw_p29 : lw_okq (⟨"WordFletchers", "markOfOne", "(I)I"⟩, 13) := ⟨⟨by decide +kernel, by decide +kernel⟩, List.mem_of_getElem? (i := 14) (by decide +kernel), List.mem_of_getElem? (i := 646) (by decide +kernel), List.mem_of_getElem? (i := 647) (by decide +kernel)⟩
theorem lw_p30 : lw_okq (⟨"WordFletchers", "markOfSuitor", "(I)I"⟩, 13) := ⟨⟨by decide +kernel, by decide +kernel⟩, List.mem_of_getElem? (i := 14) (by decide +kernel), List.mem_of_getElem? (i := 650) (by decide +kernel), List.mem_of_getElem? (i := 651) (by decide +kernel)⟩
theorem lw_p31 : lw_okq (⟨"WordFletchers", "markOfLiar", "(I)I"⟩, 13) := ⟨⟨by decide +kernel, by decide +kernel⟩, List.mem_of_getElem? (i := 14) (by decide +kernel), List.mem_of_getElem? (i := 655) (by decide +kernel), List.mem_of_getElem? (i := 656) (by decide +kernel)⟩
def lw_privs_2 : List (MethodName × Nat) := [(⟨"WordFletchers", "areTwo", "(II)Z"⟩, 13), (⟨"WordFletchers", "countShotsNeeded", "(II)V"⟩, 13), (⟨"WordFletchers", "whoCanHear", "(II)I"⟩, 13), (⟨"WordFletchers", "fewestNeeded", "(I)I"⟩, 13), (⟨"WordFletchers", "firstOfRelay", "(III)I"⟩, 13), (⟨"WordFletchers", "prepareAllotment", "(I)V"⟩, 13), (⟨"WordFletchers", "fewestToBeHeard", "(II)I"⟩, 13), (⟨"WordFletchers$Allotment", "costOf", "(I[I)I"⟩, 6), (⟨"WordFletchers$Allotment", "kindOf", "(II)I"⟩, 6), (⟨"WordFletchers", "suspects", "()I"⟩, 13), (⟨"WordFletchers", "canBeAllSeen", "(I)Z"⟩, 13), (⟨"WordFletchers", "mostAlike", "(II)I"⟩, 13), (⟨"WordFletchers", "howManyReach", "(II)I"⟩, 13), (⟨"WordFletchers", "markOfOne", "(I)I"⟩, 13), (⟨"WordFletchers", "markOfSuitor", "(I)I"⟩, 13), (⟨"WordFletchers", "markOfLiar", "(I)I"⟩, 13)]
theorem lw_r2 : ∀ q ∈ lw_privs_2, lw_okq q := List.forall_mem_cons.mpr ⟨lw_p16, List.forall_mem_cons.mpr ⟨lw_p17, List.forall_mem_cons.mpr ⟨lw_p18, List.forall_mem_cons.mpr ⟨lw_p19, List.forall_mem_cons.mpr ⟨lw_p20, List.forall_mem_cons.mpr ⟨lw_p21, List.forall_mem_cons.mpr ⟨lw_p22, List.forall_mem_cons.mpr ⟨lw_p23, List.forall_mem_cons.mpr ⟨lw_p24, List.forall_mem_cons.mpr ⟨lw_p25, List.forall_mem_cons.mpr ⟨lw_p26, List.forall_mem_cons.mpr ⟨lw_p27, List.forall_mem_cons.mpr ⟨lw_p28, List.forall_mem_cons.mpr ⟨lw_p29, List.forall_mem_cons.mpr ⟨lw_p30, List.forall_mem_cons.mpr ⟨lw_p31, fun _ h => absurd h List.not_mem_nil⟩⟩⟩⟩⟩⟩⟩⟩⟩⟩⟩⟩⟩⟩⟩⟩
theorem lw_p32 : lw_okq (⟨"WordFletchers", "markOfPoet", "(I)I"⟩, 13) := ⟨⟨by decide +kernel, by decide +kernel⟩, List.mem_of_getElem? (i := 14) (by decide +kernel), List.mem_of_getElem? (i := 660) (by decide +kernel), List.mem_of_getElem? (i := 661) (by decide +kernel)⟩
theorem lw_p33 : lw_okq (⟨"WordFletchers", "markOfLawyer", "(I)I"⟩, 13) := ⟨⟨by decide +kernel, by decide +kernel⟩, List.mem_of_getElem? (i := 14) (by decide +kernel), List.mem_of_getElem? (i := 665) (by decide +kernel), List.mem_of_getElem? (i := 666) (by decide +kernel)⟩
theorem lw_p34 : lw_okq (⟨"WordFletchers", "markOfGoose", "(I)I"⟩, 13) := ⟨⟨by decide +kernel, by decide +kernel⟩, List.mem_of_getElem? (i := 14) (by decide +kernel), List.mem_of_getElem? (i := 670) (by decide +kernel), List.mem_of_getElem? (i := 671) (by decide +kernel)⟩
theorem lw_p35 : lw_okq (⟨"WordFletchersModel", "read", "()V"⟩, 30) := ⟨⟨by decide +kernel, by decide +kernel⟩, List.mem_of_getElem? (i := 708) (by decide +kernel), List.mem_of_getElem? (i := 822) (by decide +kernel), List.mem_of_getElem? (i := 823) (by decide +kernel)⟩
theorem lw_p36 : lw_okq (⟨"WordFletchersModel", "step", "()V"⟩, 30) := ⟨⟨by decide +kernel, by decide +kernel⟩, List.mem_of_getElem? (i := 708) (by decide +kernel), List.mem_of_getElem? (i := 826) (by decide +kernel), List.mem_of_getElem? (i := 827) (by decide +kernel)⟩
theorem lw_p37 : lw_okq (⟨"WordFletchersModel", "here", "()I"⟩, 30) := ⟨⟨by decide +kernel, by decide +kernel⟩, List.mem_of_getElem? (i := 708) (by decide +kernel), List.mem_of_getElem? (i := 830) (by decide +kernel), List.mem_of_getElem? (i := 831) (by decide +kernel)⟩
theorem lw_p38 : lw_okq (⟨"WordFletchersModel", "may", "(I)Z"⟩, 30) := ⟨⟨by decide +kernel, by decide +kernel⟩, List.mem_of_getElem? (i := 708) (by decide +kernel), List.mem_of_getElem? (i := 834) (by decide +kernel), List.mem_of_getElem? (i := 835) (by decide +kernel)⟩
theorem lw_p39 : lw_okq (⟨"WordFletchersModel", "due", "(Z)V"⟩, 30) := ⟨⟨by decide +kernel, by decide +kernel⟩, List.mem_of_getElem? (i := 708) (by decide +kernel), List.mem_of_getElem? (i := 838) (by decide +kernel), List.mem_of_getElem? (i := 839) (by decide +kernel)⟩
theorem lw_p40 : lw_okq (⟨"WordFletchersModel", "item", "(I)V"⟩, 30) := ⟨⟨by decide +kernel, by decide +kernel⟩, List.mem_of_getElem? (i := 708) (by decide +kernel), List.mem_of_getElem? (i := 842) (by decide +kernel), List.mem_of_getElem? (i := 843) (by decide +kernel)⟩
theorem lw_p41 : lw_okq (⟨"WordFletchersModel", "number", "(II)I"⟩, 30) := ⟨⟨by decide +kernel, by decide +kernel⟩, List.mem_of_getElem? (i := 708) (by decide +kernel), List.mem_of_getElem? (i := 846) (by decide +kernel), List.mem_of_getElem? (i := 847) (by decide +kernel)⟩
theorem lw_p42 : lw_okq (⟨"WordFletchersModel", "blow", "()V"⟩, 30) := ⟨⟨by decide +kernel, by decide +kernel⟩, List.mem_of_getElem? (i := 708) (by decide +kernel), List.mem_of_getElem? (i := 850) (by decide +kernel), List.mem_of_getElem? (i := 851) (by decide +kernel)⟩
theorem lw_p43 : lw_okq (⟨"WordFletchersModel", "isOne", "(I)Z"⟩, 30) := ⟨⟨by decide +kernel, by decide +kernel⟩, List.mem_of_getElem? (i := 708) (by decide +kernel), List.mem_of_getElem? (i := 858) (by decide +kernel), List.mem_of_getElem? (i := 859) (by decide +kernel)⟩
theorem lw_p44 : lw_okq (⟨"WordFletchersModel", "isSaying", "(I)Z"⟩, 30) := ⟨⟨by decide +kernel, by decide +kernel⟩, List.mem_of_getElem? (i := 708) (by decide +kernel), List.mem_of_getElem? (i := 869) (by decide +kernel), List.mem_of_getElem? (i := 870) (by decide +kernel)⟩
theorem lw_p45 : lw_okq (⟨"WordFletchersModel", "windIn", "(I)I"⟩, 30) := ⟨⟨by decide +kernel, by decide +kernel⟩, List.mem_of_getElem? (i := 708) (by decide +kernel), List.mem_of_getElem? (i := 877) (by decide +kernel), List.mem_of_getElem? (i := 878) (by decide +kernel)⟩
theorem lw_p46 : lw_okq (⟨"WordFletchersModel", "know", "()V"⟩, 30) := ⟨⟨by decide +kernel, by decide +kernel⟩, List.mem_of_getElem? (i := 708) (by decide +kernel), List.mem_of_getElem? (i := 893) (by decide +kernel), List.mem_of_getElem? (i := 894) (by decide +kernel)⟩
theorem lw_p47 : lw_okq (⟨"WordFletchersModel", "landsBy", "(IIIIII)I"⟩, 30) := ⟨⟨by decide +kernel, by decide +kernel⟩, List.mem_of_getElem? (i := 708) (by decide +kernel), List.mem_of_getElem? (i := 897) (by decide +kernel), List.mem_of_getElem? (i := 898) (by decide +kernel)⟩
def lw_privs_3 : List (MethodName × Nat) := [(⟨"WordFletchers", "markOfPoet", "(I)I"⟩, 13), (⟨"WordFletchers", "markOfLawyer", "(I)I"⟩, 13), (⟨"WordFletchers", "markOfGoose", "(I)I"⟩, 13), (⟨"WordFletchersModel", "read", "()V"⟩, 30), (⟨"WordFletchersModel", "step", "()V"⟩, 30), (⟨"WordFletchersModel", "here", "()I"⟩, 30), (⟨"WordFletchersModel", "may", "(I)Z"⟩, 30), (⟨"WordFletchersModel", "due", "(Z)V"⟩, 30), (⟨"WordFletchersModel", "item", "(I)V"⟩, 30), (⟨"WordFletchersModel", "number", "(II)I"⟩, 30), (⟨"WordFletchersModel", "blow", "()V"⟩, 30), (⟨"WordFletchersModel", "isOne", "(I)Z"⟩, 30), (⟨"WordFletchersModel", "isSaying", "(I)Z"⟩, 30), (⟨"WordFletchersModel", "windIn", "(I)I"⟩, 30), (⟨"WordFletchersModel", "know", "()V"⟩, 30), (⟨"WordFletchersModel", "landsBy", "(IIIIII)I"⟩, 30)]
theorem lw_r3 : ∀ q ∈ lw_privs_3, lw_okq q := List.forall_mem_cons.mpr ⟨lw_p32, List.forall_mem_cons.mpr ⟨lw_p33, List.forall_mem_cons.mpr ⟨lw_p34, List.forall_mem_cons.mpr ⟨lw_p35, List.forall_mem_cons.mpr ⟨lw_p36, List.forall_mem_cons.mpr ⟨lw_p37, List.forall_mem_cons.mpr ⟨lw_p38, List.forall_mem_cons.mpr ⟨lw_p39, List.forall_mem_cons.mpr ⟨lw_p40, List.forall_mem_cons.mpr ⟨lw_p41, List.forall_mem_cons.mpr ⟨lw_p42, List.forall_mem_cons.mpr ⟨lw_p43, List.forall_mem_cons.mpr ⟨lw_p44, List.forall_mem_cons.mpr ⟨lw_p45, List.forall_mem_cons.mpr ⟨lw_p46, List.forall_mem_cons.mpr ⟨lw_p47, fun _ h => absurd h List.not_mem_nil⟩⟩⟩⟩⟩⟩⟩⟩⟩⟩⟩⟩⟩⟩⟩⟩
theorem lw_p48 : lw_okq (⟨"WordFletchersModel", "hearersOf", "(II)I"⟩, 30) := ⟨⟨by decide +kernel, by decide +kernel⟩, List.mem_of_getElem? (i := 708) (by decide +kernel), List.mem_of_getElem? (i := 904) (by decide +kernel), List.mem_of_getElem? (i := 905) (by decide +kernel)⟩
theorem lw_p49 : lw_okq (⟨"WordFletchersModel", "doesHear", "(II)Z"⟩, 30) := ⟨⟨by decide +kernel, by decide +kernel⟩, List.mem_of_getElem? (i := 708) (by decide +kernel), List.mem_of_getElem? (i := 908) (by decide +kernel), List.mem_of_getElem? (i := 909) (by decide +kernel)⟩
theorem lw_p50 : lw_okq (⟨"WordFletchersModel", "takeUp", "(I)V"⟩, 30) := ⟨⟨by decide +kernel, by decide +kernel⟩, List.mem_of_getElem? (i := 708) (by decide +kernel), List.mem_of_getElem? (i := 912) (by decide +kernel), List.mem_of_getElem? (i := 913) (by decide +kernel)⟩
theorem lw_p51 : lw_okq (⟨"WordFletchersModel", "areUnlike", "(II)Z"⟩, 30) := ⟨⟨by decide +kernel, by decide +kernel⟩, List.mem_of_getElem? (i := 708) (by decide +kernel), List.mem_of_getElem? (i := 948) (by decide +kernel), List.mem_of_getElem? (i := 949) (by decide +kernel)⟩
theorem lw_p52 : lw_okq (⟨"WordFletchersModel", "isHeard", "(IIIII)Z"⟩, 30) := ⟨⟨by decide +kernel, by decide +kernel⟩, List.mem_of_getElem? (i := 708) (by decide +kernel), List.mem_of_getElem? (i := 952) (by decide +kernel), List.mem_of_getElem? (i := 953) (by decide +kernel)⟩
theorem lw_p53 : lw_okq (⟨"WordFletchersModel", "measure", "(II)V"⟩, 30) := ⟨⟨by decide +kernel, by decide +kernel⟩, List.mem_of_getElem? (i := 708) (by decide +kernel), List.mem_of_getElem? (i := 967) (by decide +kernel), List.mem_of_getElem? (i := 968) (by decide +kernel)⟩
theorem lw_p54 : lw_okq (⟨"WordFletchersModel", "behind", "(IIIIII)I"⟩, 30) := ⟨⟨by decide +kernel, by decide +kernel⟩, List.mem_of_getElem? (i := 708) (by decide +kernel), List.mem_of_getElem? (i := 972) (by decide +kernel), List.mem_of_getElem? (i := 973) (by decide +kernel)⟩
theorem lw_p55 : lw_okq (⟨"WordFletchersModel", "tellDue", "()V"⟩, 30) := ⟨⟨by decide +kernel, by decide +kernel⟩, List.mem_of_getElem? (i := 708) (by decide +kernel), List.mem_of_getElem? (i := 980) (by decide +kernel), List.mem_of_getElem? (i := 981) (by decide +kernel)⟩
theorem lw_p56 : lw_okq (⟨"WordFletchersModel", "takes", "(II)I"⟩, 30) := ⟨⟨by decide +kernel, by decide +kernel⟩, List.mem_of_getElem? (i := 708) (by decide +kernel), List.mem_of_getElem? (i := 987) (by decide +kernel), List.mem_of_getElem? (i := 988) (by decide +kernel)⟩
theorem lw_p57 : lw_okq (⟨"WordFletchersModel", "spotsOf", "(II)I"⟩, 30) := ⟨⟨by decide +kernel, by decide +kernel⟩, List.mem_of_getElem? (i := 708) (by decide +kernel), List.mem_of_getElem? (i := 1007) (by decide +kernel), List.mem_of_getElem? (i := 1008) (by decide +kernel)⟩
def lw_privs_4 : List (MethodName × Nat) := [(⟨"WordFletchersModel", "hearersOf", "(II)I"⟩, 30), (⟨"WordFletchersModel", "doesHear", "(II)Z"⟩, 30), (⟨"WordFletchersModel", "takeUp", "(I)V"⟩, 30), (⟨"WordFletchersModel", "areUnlike", "(II)Z"⟩, 30), (⟨"WordFletchersModel", "isHeard", "(IIIII)Z"⟩, 30), (⟨"WordFletchersModel", "measure", "(II)V"⟩, 30), (⟨"WordFletchersModel", "behind", "(IIIIII)I"⟩, 30), (⟨"WordFletchersModel", "tellDue", "()V"⟩, 30), (⟨"WordFletchersModel", "takes", "(II)I"⟩, 30), (⟨"WordFletchersModel", "spotsOf", "(II)I"⟩, 30)]
theorem lw_r4 : ∀ q ∈ lw_privs_4, lw_okq q := List.forall_mem_cons.mpr ⟨lw_p48, List.forall_mem_cons.mpr ⟨lw_p49, List.forall_mem_cons.mpr ⟨lw_p50, List.forall_mem_cons.mpr ⟨lw_p51, List.forall_mem_cons.mpr ⟨lw_p52, List.forall_mem_cons.mpr ⟨lw_p53, List.forall_mem_cons.mpr ⟨lw_p54, List.forall_mem_cons.mpr ⟨lw_p55, List.forall_mem_cons.mpr ⟨lw_p56, List.forall_mem_cons.mpr ⟨lw_p57, fun _ h => absurd h List.not_mem_nil⟩⟩⟩⟩⟩⟩⟩⟩⟩⟩
def lw_privs : List (MethodName × Nat) := lw_privs_1 ++ (lw_privs_2 ++ (lw_privs_3 ++ (lw_privs_4)))
def lw_tbl : List Cond := k2_sels lw_privs ++ tables_1
theorem lw_privs_ok : ∀ q ∈ lw_privs, lw_okq q := by
  show ∀ q ∈ lw_privs_1 ++ (lw_privs_2 ++ (lw_privs_3 ++ (lw_privs_4))), lw_okq q
  exact List.forall_mem_append.mpr ⟨lw_r1, List.forall_mem_append.mpr ⟨lw_r2, List.forall_mem_append.mpr ⟨lw_r3, lw_r4⟩⟩⟩
-- ===== end of PART A; then your names; then what follows =====
end
section
/-! ===== BEGIN words of one list among another's, by their places ===== -/
theorem goodIn_r {big : List Cond} (ws : List Cond) (ps : List Nat) (hp : ws = ps.filterMap (fun i => big[i]?)) (h : ws.all goodWord = true) : GoodIn big ws := by
  intro w hw
  have h1 := List.all_eq_true.mp h w hw
  rw [hp] at hw
  obtain ⟨i, -, hi⟩ := List.mem_filterMap.mp hw
  have hm : w ∈ big := by first | exact List.mem_of_getElem? hi | exact List.getElem?_mem hi
  exact ⟨hm, good_of_word h1⟩
theorem goodIn_app {big a b : List Cond} (ha : GoodIn big a) (hb : GoodIn big b) : GoodIn big (a ++ b) := fun w h => (List.mem_append.mp h).elim (ha w) (hb w)
theorem goodIn_ca {big a b : List Cond} {c : Cond} (ha : GoodIn big (c :: a)) (hb : GoodIn big b) : GoodIn big (c :: (a ++ b)) := fun w h => (List.mem_cons.mp h).elim (fun e => ha w (List.mem_cons.mpr (Or.inl e))) (fun h => (List.mem_append.mp h).elim (fun h => ha w (List.mem_cons.mpr (Or.inr h))) (hb w))
theorem goodIn_sub {big ws : List Cond} (hm : ∀ w ∈ ws, w ∈ big) (h : ws.all goodWord = true) : GoodIn big ws := fun w hw => ⟨hm w hw, good_of_word (List.all_eq_true.mp h w hw)⟩
/-! ===== END ===== -/

/-! ===== BEGIN printed: names, fields, word lists, decode rows ===== -/
def RX0 : String := "WordFletchers$Allotment"
def TX0 : u_T := fun k => match k with
  | 0 => ("WordFletchers$Allotment", "saying", "[I", true)
  | 1 => ("WordFletchers$Allotment", "fewest", "[I", true)
  | 2 => ("WordFletchers$Allotment", "used", "[I", true)
  | 3 => ("WordFletchers$Allotment", "members", "I", false)
  | 4 => ("WordFletchers$Allotment", "way", "I", false)
  | _ => ("WordFletchers$Allotment", "total", "I", false)
def tyX0 : Nat → FieldType := fun k => match k with
  | 0 => .array .int
  | 1 => .array .int
  | 2 => .array .int
  | 3 => .int
  | 4 => .int
  | _ => .int
abbrev wsX00 : List Cond := u_ws RX0 TX0 6
theorem nmX0 : ∀ a, a < 6 → ∀ b, b < 6 → a ≠ b → (TX0 a).2.1 ≠ (TX0 b).2.1 := by decide +kernel
theorem tyX0_ok : ∀ k, k < 6 → parseFieldDescriptor (TX0 k).2.2.1 = some (tyX0 k) := by decide +kernel
abbrev cX0_init : ByteArray := prog_2_method_1_code
def yX0_init : MethodName := ⟨RX0, "<init>", "()V"⟩
abbrev cX0_addMember : ByteArray := prog_2_method_2_code
def yX0_addMember : MethodName := ⟨RX0, "addMember", "(I)I"⟩
abbrev cX0_setFewest : ByteArray := prog_2_method_3_code
def yX0_setFewest : MethodName := ⟨RX0, "setFewest", "(III)V"⟩
abbrev cX0_search : ByteArray := prog_2_method_4_code
def yX0_search : MethodName := ⟨RX0, "search", "([I)Z"⟩
abbrev cX0_kindOf : ByteArray := prog_2_method_5_code
def yX0_kindOf : MethodName := ⟨RX0, "kindOf", "(II)I"⟩
abbrev cX0_costOf : ByteArray := prog_2_method_6_code
def yX0_costOf : MethodName := ⟨RX0, "costOf", "(I[I)I"⟩
abbrev cX0_shareOf : ByteArray := prog_2_method_7_code
def yX0_shareOf : MethodName := ⟨RX0, "shareOf", "(I)I"⟩
def RX1 : String := "WordFletchers$Image"
def TX1 : u_T := fun k => match k with
  | 0 => ("WordFletchers$Image", "moment", "LWordFletchers$Moment;", true)
  | 1 => ("WordFletchers$Image", "past", "LWordFletchers$Past;", true)
  | _ => ("WordFletchers$Image", "kept", "Z", false)
def tyX1 : Nat → FieldType := fun k => match k with
  | 0 => .object "WordFletchers$Moment"
  | 1 => .object "WordFletchers$Past"
  | _ => .boolean
abbrev wsX10 : List Cond := u_ws RX1 TX1 3
theorem nmX1 : ∀ a, a < 3 → ∀ b, b < 3 → a ≠ b → (TX1 a).2.1 ≠ (TX1 b).2.1 := by decide +kernel
theorem tyX1_ok : ∀ k, k < 3 → parseFieldDescriptor (TX1 k).2.2.1 = some (tyX1 k) := by decide +kernel
abbrev cX1_init : ByteArray := prog_3_method_1_code
def yX1_init : MethodName := ⟨RX1, "<init>", "()V"⟩
abbrev cX1_take : ByteArray := prog_3_method_2_code
def yX1_take : MethodName := ⟨RX1, "take", "(LWordFletchers$Moment;LWordFletchers$Past;)V"⟩
abbrev cX1_give : ByteArray := prog_3_method_3_code
def yX1_give : MethodName := ⟨RX1, "give", "(LWordFletchers$Moment;LWordFletchers$Past;)V"⟩
def RX2 : String := "WordFletchers$Moment"
def TX2 : u_T := fun k => match k with
  | 0 => ("WordFletchers$Moment", "hour", "I", false)
  | 1 => ("WordFletchers$Moment", "damp", "I", false)
  | 2 => ("WordFletchers$Moment", "strays", "I", false)
  | 3 => ("WordFletchers$Moment", "feathers", "[I", true)
  | 4 => ("WordFletchers$Moment", "knows", "[I", true)
  | 5 => ("WordFletchers$Moment", "straySaying", "[I", true)
  | _ => ("WordFletchers$Moment", "strayPlace", "[I", true)
def tyX2 : Nat → FieldType := fun k => match k with
  | 0 => .int
  | 1 => .int
  | 2 => .int
  | 3 => .array .int
  | 4 => .array .int
  | 5 => .array .int
  | _ => .array .int
abbrev wsX20 : List Cond := u_ws RX2 TX2 7
theorem nmX2 : ∀ a, a < 7 → ∀ b, b < 7 → a ≠ b → (TX2 a).2.1 ≠ (TX2 b).2.1 := by decide +kernel
theorem tyX2_ok : ∀ k, k < 7 → parseFieldDescriptor (TX2 k).2.2.1 = some (tyX2 k) := by decide +kernel
abbrev cX2_init : ByteArray := prog_4_method_1_code
def yX2_init : MethodName := ⟨RX2, "<init>", "()V"⟩
abbrev cX2_begin : ByteArray := prog_4_method_2_code
def yX2_begin : MethodName := ⟨RX2, "begin", "(LWordFletchers$Told;)V"⟩
abbrev cX2_become : ByteArray := prog_4_method_3_code
def yX2_become : MethodName := ⟨RX2, "become", "(LWordFletchers$Moment;)V"⟩
abbrev cX2_isKnown : ByteArray := prog_4_method_4_code
def yX2_isKnown : MethodName := ⟨RX2, "isKnown", "(II)Z"⟩
abbrev cX2_whoKnows : ByteArray := prog_4_method_5_code
def yX2_whoKnows : MethodName := ⟨RX2, "whoKnows", "(I)I"⟩
abbrev cX2_tell : ByteArray := prog_4_method_6_code
def yX2_tell : MethodName := ⟨RX2, "tell", "(II)V"⟩
abbrev cX2_allFeathers : ByteArray := prog_4_method_7_code
def yX2_allFeathers : MethodName := ⟨RX2, "allFeathers", "()I"⟩
abbrev cX2_addStray : ByteArray := prog_4_method_8_code
def yX2_addStray : MethodName := ⟨RX2, "addStray", "(II)V"⟩
abbrev cX2_removeStray : ByteArray := prog_4_method_9_code
def yX2_removeStray : MethodName := ⟨RX2, "removeStray", "(I)V"⟩
abbrev cX2_longestStrayAt : ByteArray := prog_4_method_10_code
def yX2_longestStrayAt : MethodName := ⟨RX2, "longestStrayAt", "(I)I"⟩
def RX3 : String := "WordFletchers$Past"
def TX3 : u_T := fun k => match k with
  | 0 => ("WordFletchers$Past", "moments", "[LWordFletchers$Moment;", true)
  | _ => ("WordFletchers$Past", "known", "I", false)
def tyX3 : Nat → FieldType := fun k => match k with
  | 0 => .array (.object "WordFletchers$Moment")
  | _ => .int
abbrev wsX30 : List Cond := u_ws RX3 TX3 2
theorem nmX3 : ∀ a, a < 2 → ∀ b, b < 2 → a ≠ b → (TX3 a).2.1 ≠ (TX3 b).2.1 := by decide +kernel
theorem tyX3_ok : ∀ k, k < 2 → parseFieldDescriptor (TX3 k).2.2.1 = some (tyX3 k) := by decide +kernel
abbrev cX3_init : ByteArray := prog_5_method_1_code
def yX3_init : MethodName := ⟨RX3, "<init>", "()V"⟩
abbrev cX3_remember : ByteArray := prog_5_method_2_code
def yX3_remember : MethodName := ⟨RX3, "remember", "(LWordFletchers$Moment;)V"⟩
abbrev cX3_bringBack : ByteArray := prog_5_method_3_code
def yX3_bringBack : MethodName := ⟨RX3, "bringBack", "(LWordFletchers$Moment;)V"⟩
abbrev cX3_become : ByteArray := prog_5_method_4_code
def yX3_become : MethodName := ⟨RX3, "become", "(LWordFletchers$Past;)V"⟩
abbrev cX3_loseOldest : ByteArray := prog_5_method_5_code
def yX3_loseOldest : MethodName := ⟨RX3, "loseOldest", "()V"⟩
def RX4 : String := "WordFletchers$Sightings"
def TX4 : u_T := fun k => match k with
  | 0 => ("WordFletchers$Sightings", "saying", "[I", true)
  | 1 => ("WordFletchers$Sightings", "place", "[I", true)
  | 2 => ("WordFletchers$Sightings", "wind", "[I", true)
  | 3 => ("WordFletchers$Sightings", "damp", "[I", true)
  | _ => ("WordFletchers$Sightings", "size", "I", false)
def tyX4 : Nat → FieldType := fun k => match k with
  | 0 => .array .int
  | 1 => .array .int
  | 2 => .array .int
  | 3 => .array .int
  | _ => .int
abbrev wsX40 : List Cond := u_ws RX4 TX4 5
theorem nmX4 : ∀ a, a < 5 → ∀ b, b < 5 → a ≠ b → (TX4 a).2.1 ≠ (TX4 b).2.1 := by decide +kernel
theorem tyX4_ok : ∀ k, k < 5 → parseFieldDescriptor (TX4 k).2.2.1 = some (tyX4 k) := by decide +kernel
abbrev cX4_init : ByteArray := prog_6_method_1_code
def yX4_init : MethodName := ⟨RX4, "<init>", "()V"⟩
abbrev cX4_add : ByteArray := prog_6_method_2_code
def yX4_add : MethodName := ⟨RX4, "add", "(IIII)V"⟩
def RX5 : String := "WordFletchers$TextReader"
def TX5 : u_T := fun k => match k with
  | 0 => ("WordFletchers$TextReader", "bytes", "[I", true)
  | 1 => ("WordFletchers$TextReader", "length", "I", false)
  | 2 => ("WordFletchers$TextReader", "next", "I", false)
  | 3 => ("WordFletchers$TextReader", "sort", "I", false)
  | 4 => ("WordFletchers$TextReader", "start", "I", false)
  | _ => ("WordFletchers$TextReader", "value", "I", false)
def tyX5 : Nat → FieldType := fun k => match k with
  | 0 => .array .int
  | 1 => .int
  | 2 => .int
  | 3 => .int
  | 4 => .int
  | _ => .int
abbrev wsX50 : List Cond := u_ws RX5 TX5 6
theorem nmX5 : ∀ a, a < 6 → ∀ b, b < 6 → a ≠ b → (TX5 a).2.1 ≠ (TX5 b).2.1 := by decide +kernel
theorem tyX5_ok : ∀ k, k < 6 → parseFieldDescriptor (TX5 k).2.2.1 = some (tyX5 k) := by decide +kernel
abbrev cX5_init : ByteArray := prog_7_method_1_code
def yX5_init : MethodName := ⟨RX5, "<init>", "([I)V"⟩
abbrev cX5_read : ByteArray := prog_7_method_2_code
def yX5_read : MethodName := ⟨RX5, "read", "(ILWordFletchers$Told;)I"⟩
abbrev cX5_readItem : ByteArray := prog_7_method_3_code
def yX5_readItem : MethodName := ⟨RX5, "readItem", "(LWordFletchers$Told;)Z"⟩
abbrev cX5_readOne : ByteArray := prog_7_method_4_code
def yX5_readOne : MethodName := ⟨RX5, "readOne", "(LWordFletchers$Told;)Z"⟩
abbrev cX5_readSaying : ByteArray := prog_7_method_5_code
def yX5_readSaying : MethodName := ⟨RX5, "readSaying", "(LWordFletchers$Told;)Z"⟩
abbrev cX5_readWinds : ByteArray := prog_7_method_6_code
def yX5_readWinds : MethodName := ⟨RX5, "readWinds", "(LWordFletchers$Told;)Z"⟩
abbrev cX5_readFeathers : ByteArray := prog_7_method_7_code
def yX5_readFeathers : MethodName := ⟨RX5, "readFeathers", "(LWordFletchers$Told;)Z"⟩
abbrev cX5_takeNumber : ByteArray := prog_7_method_8_code
def yX5_takeNumber : MethodName := ⟨RX5, "takeNumber", "(II)I"⟩
abbrev cX5_takeSemicolon : ByteArray := prog_7_method_9_code
def yX5_takeSemicolon : MethodName := ⟨RX5, "takeSemicolon", "()Z"⟩
abbrev cX5_step : ByteArray := prog_7_method_10_code
def yX5_step : MethodName := ⟨RX5, "step", "()V"⟩
abbrev cX5_stepOverLetters : ByteArray := prog_7_method_11_code
def yX5_stepOverLetters : MethodName := ⟨RX5, "stepOverLetters", "()V"⟩
abbrev cX5_stepOverDigits : ByteArray := prog_7_method_12_code
def yX5_stepOverDigits : MethodName := ⟨RX5, "stepOverDigits", "()V"⟩
abbrev cX5_sortAt : ByteArray := prog_7_method_13_code
def yX5_sortAt : MethodName := ⟨RX5, "sortAt", "(I)I"⟩
def RX6 : String := "WordFletchers$Told"
def TX6 : u_T := fun k => match k with
  | 0 => ("WordFletchers$Told", "place", "[I", true)
  | 1 => ("WordFletchers$Told", "ear", "[I", true)
  | 2 => ("WordFletchers$Told", "weight", "[I", true)
  | 3 => ("WordFletchers$Told", "twist", "[I", true)
  | 4 => ("WordFletchers$Told", "first", "[I", true)
  | 5 => ("WordFletchers$Told", "winds", "[I", true)
  | 6 => ("WordFletchers$Told", "feathers", "[I", true)
  | 7 => ("WordFletchers$Told", "people", "I", false)
  | 8 => ("WordFletchers$Told", "sayings", "I", false)
  | _ => ("WordFletchers$Told", "windsTold", "I", false)
def tyX6 : Nat → FieldType := fun k => match k with
  | 0 => .array .int
  | 1 => .array .int
  | 2 => .array .int
  | 3 => .array .int
  | 4 => .array .int
  | 5 => .array .int
  | 6 => .array .int
  | 7 => .int
  | 8 => .int
  | _ => .int
abbrev wsX60 : List Cond := u_ws RX6 TX6 10
theorem nmX6 : ∀ a, a < 10 → ∀ b, b < 10 → a ≠ b → (TX6 a).2.1 ≠ (TX6 b).2.1 := by decide +kernel
theorem tyX6_ok : ∀ k, k < 10 → parseFieldDescriptor (TX6 k).2.2.1 = some (tyX6 k) := by decide +kernel
abbrev cX6_init : ByteArray := prog_8_method_1_code
def yX6_init : MethodName := ⟨RX6, "<init>", "()V"⟩
abbrev cX6_tellNothing : ByteArray := prog_8_method_2_code
def yX6_tellNothing : MethodName := ⟨RX6, "tellNothing", "()V"⟩
abbrev cX6_hasOne : ByteArray := prog_8_method_3_code
def yX6_hasOne : MethodName := ⟨RX6, "hasOne", "(I)Z"⟩
abbrev cX6_hasSaying : ByteArray := prog_8_method_4_code
def yX6_hasSaying : MethodName := ⟨RX6, "hasSaying", "(I)Z"⟩
abbrev cX6_isSetOfSayings : ByteArray := prog_8_method_5_code
def yX6_isSetOfSayings : MethodName := ⟨RX6, "isSetOfSayings", "(I)Z"⟩
abbrev cX6_windCount : ByteArray := prog_8_method_6_code
def yX6_windCount : MethodName := ⟨RX6, "windCount", "()I"⟩
abbrev cX6_windOf : ByteArray := prog_8_method_7_code
def yX6_windOf : MethodName := ⟨RX6, "windOf", "(I)I"⟩
abbrev cX6_flight : ByteArray := prog_8_method_8_code
def yX6_flight : MethodName := ⟨RX6, "flight", "(IIII)I"⟩
abbrev cX6_landing : ByteArray := prog_8_method_9_code
def yX6_landing : MethodName := ⟨RX6, "landing", "(IIIII)I"⟩
abbrev cX6_landings : ByteArray := prog_8_method_10_code
def yX6_landings : MethodName := ⟨RX6, "landings", "(IIII)I"⟩
abbrev cX6_hears : ByteArray := prog_8_method_11_code
def yX6_hears : MethodName := ⟨RX6, "hears", "(II)Z"⟩
abbrev cX6_hearers : ByteArray := prog_8_method_12_code
def yX6_hearers : MethodName := ⟨RX6, "hearers", "(II)I"⟩
def RX7 : String := "WordFletchers"
def TX7 : u_T := fun k => match k with
  | 0 => ("WordFletchers", "text", "[I", true)
  | 1 => ("WordFletchers", "textLength", "I", false)
  | 2 => ("WordFletchers", "reader", "LWordFletchers$TextReader;", true)
  | 3 => ("WordFletchers", "told", "LWordFletchers$Told;", false)
  | 4 => ("WordFletchers", "draft", "LWordFletchers$Told;", false)
  | 5 => ("WordFletchers", "moment", "LWordFletchers$Moment;", true)
  | 6 => ("WordFletchers", "past", "LWordFletchers$Past;", true)
  | 7 => ("WordFletchers", "images", "[LWordFletchers$Image;", true)
  | 8 => ("WordFletchers", "sightings", "LWordFletchers$Sightings;", true)
  | 9 => ("WordFletchers", "allotment", "LWordFletchers$Allotment;", true)
  | 10 => ("WordFletchers", "shotsNeeded", "[I", true)
  | 11 => ("WordFletchers", "placesReached", "[I", true)
  | _ => ("WordFletchers", "traced", "J", false)
def tyX7 : Nat → FieldType := fun k => match k with
  | 0 => .array .int
  | 1 => .int
  | 2 => .object "WordFletchers$TextReader"
  | 3 => .object "WordFletchers$Told"
  | 4 => .object "WordFletchers$Told"
  | 5 => .object "WordFletchers$Moment"
  | 6 => .object "WordFletchers$Past"
  | 7 => .array (.object "WordFletchers$Image")
  | 8 => .object "WordFletchers$Sightings"
  | 9 => .object "WordFletchers$Allotment"
  | 10 => .array .int
  | 11 => .array .int
  | _ => .long
abbrev wsX70 : List Cond := u_ws RX7 TX7 13
theorem nmX7 : ∀ a, a < 13 → ∀ b, b < 13 → a ≠ b → (TX7 a).2.1 ≠ (TX7 b).2.1 := by decide +kernel
theorem tyX7_ok : ∀ k, k < 13 → parseFieldDescriptor (TX7 k).2.2.1 = some (tyX7 k) := by decide +kernel
abbrev cX7_init : ByteArray := prog_1_method_1_code
def yX7_init : MethodName := ⟨RX7, "<init>", "()V"⟩
abbrev cX7_type : ByteArray := prog_1_method_2_code
def yX7_type : MethodName := ⟨RX7, "type", "(I)I"⟩
abbrev cX7_clear : ByteArray := prog_1_method_3_code
def yX7_clear : MethodName := ⟨RX7, "clear", "()I"⟩
abbrev cX7_uplands : ByteArray := prog_1_method_4_code
def yX7_uplands : MethodName := ⟨RX7, "uplands", "()I"⟩
abbrev cX7_one : ByteArray := prog_1_method_5_code
def yX7_one : MethodName := ⟨RX7, "one", "(II)I"⟩
abbrev cX7_saying : ByteArray := prog_1_method_6_code
def yX7_saying : MethodName := ⟨RX7, "saying", "(II)I"⟩
abbrev cX7_wind : ByteArray := prog_1_method_7_code
def yX7_wind : MethodName := ⟨RX7, "wind", "(I)I"⟩
abbrev cX7_stray : ByteArray := prog_1_method_8_code
def yX7_stray : MethodName := ⟨RX7, "stray", "(II)I"⟩
abbrev cX7_lets : ByteArray := prog_1_method_9_code
def yX7_lets : MethodName := ⟨RX7, "lets", "(IIIII)I"⟩
abbrev cX7_picks : ByteArray := prog_1_method_10_code
def yX7_picks : MethodName := ⟨RX7, "picks", "(I)I"⟩
abbrev cX7_hours : ByteArray := prog_1_method_11_code
def yX7_hours : MethodName := ⟨RX7, "hours", "(I)I"⟩
abbrev cX7_damps : ByteArray := prog_1_method_12_code
def yX7_damps : MethodName := ⟨RX7, "damps", "(I)I"⟩
abbrev cX7_plucks : ByteArray := prog_1_method_13_code
def yX7_plucks : MethodName := ⟨RX7, "plucks", "(II)I"⟩
abbrev cX7_undo : ByteArray := prog_1_method_14_code
def yX7_undo : MethodName := ⟨RX7, "undo", "()I"⟩
abbrev cX7_now : ByteArray := prog_1_method_15_code
def yX7_now : MethodName := ⟨RX7, "now", "(I)I"⟩
abbrev cX7_lands : ByteArray := prog_1_method_16_code
def yX7_lands : MethodName := ⟨RX7, "lands", "(IIIII)I"⟩
abbrev cX7_call : ByteArray := prog_1_method_17_code
def yX7_call : MethodName := ⟨RX7, "call", "(III)I"⟩
abbrev cX7_waits : ByteArray := prog_1_method_18_code
def yX7_waits : MethodName := ⟨RX7, "waits", "(IIII)I"⟩
abbrev cX7_relay : ByteArray := prog_1_method_19_code
def yX7_relay : MethodName := ⟨RX7, "relay", "(III)I"⟩
abbrev cX7_allot : ByteArray := prog_1_method_20_code
def yX7_allot : MethodName := ⟨RX7, "allot", "(II)I"⟩
abbrev cX7_odds : ByteArray := prog_1_method_21_code
def yX7_odds : MethodName := ⟨RX7, "odds", "(IIIII)I"⟩
abbrev cX7_saw : ByteArray := prog_1_method_22_code
def yX7_saw : MethodName := ⟨RX7, "saw", "(II)I"⟩
abbrev cX7_forget : ByteArray := prog_1_method_23_code
def yX7_forget : MethodName := ⟨RX7, "forget", "()I"⟩
abbrev cX7_who : ByteArray := prog_1_method_24_code
def yX7_who : MethodName := ⟨RX7, "who", "()I"⟩
abbrev cX7_ask : ByteArray := prog_1_method_25_code
def yX7_ask : MethodName := ⟨RX7, "ask", "()I"⟩
abbrev cX7_mark : ByteArray := prog_1_method_26_code
def yX7_mark : MethodName := ⟨RX7, "mark", "(II)I"⟩
abbrev cX7_keep : ByteArray := prog_1_method_27_code
def yX7_keep : MethodName := ⟨RX7, "keep", "(I)I"⟩
abbrev cX7_back : ByteArray := prog_1_method_28_code
def yX7_back : MethodName := ⟨RX7, "back", "(I)I"⟩
abbrev cX7_count : ByteArray := prog_1_method_29_code
def yX7_count : MethodName := ⟨RX7, "count", "(I)I"⟩
abbrev cX7_trace : ByteArray := prog_1_method_30_code
def yX7_trace : MethodName := ⟨RX7, "trace", "()J"⟩
abbrev cX7_beginAnew : ByteArray := prog_1_method_31_code
def yX7_beginAnew : MethodName := ⟨RX7, "beginAnew", "()V"⟩
abbrev cX7_isIn : ByteArray := prog_1_method_32_code
def yX7_isIn : MethodName := ⟨RX7, "isIn", "(II)Z"⟩
abbrev cX7_commonDivisor : ByteArray := prog_1_method_33_code
def yX7_commonDivisor : MethodName := ⟨RX7, "commonDivisor", "(II)I"⟩
abbrev cX7_shotOf : ByteArray := prog_1_method_34_code
def yX7_shotOf : MethodName := ⟨RX7, "shotOf", "(III)I"⟩
abbrev cX7_isShot : ByteArray := prog_1_method_35_code
def yX7_isShot : MethodName := ⟨RX7, "isShot", "(I)Z"⟩
abbrev cX7_isLetOff : ByteArray := prog_1_method_36_code
def yX7_isLetOff : MethodName := ⟨RX7, "isLetOff", "(IIIII)Z"⟩
abbrev cX7_areTwo : ByteArray := prog_1_method_37_code
def yX7_areTwo : MethodName := ⟨RX7, "areTwo", "(II)Z"⟩
abbrev cX7_windIn : ByteArray := prog_1_method_38_code
def yX7_windIn : MethodName := ⟨RX7, "windIn", "(I)I"⟩
abbrev cX7_landingNow : ByteArray := prog_1_method_39_code
def yX7_landingNow : MethodName := ⟨RX7, "landingNow", "(III)I"⟩
abbrev cX7_countShotsNeeded : ByteArray := prog_1_method_40_code
def yX7_countShotsNeeded : MethodName := ⟨RX7, "countShotsNeeded", "(II)V"⟩
abbrev cX7_fewestNeeded : ByteArray := prog_1_method_41_code
def yX7_fewestNeeded : MethodName := ⟨RX7, "fewestNeeded", "(I)I"⟩
abbrev cX7_whoCanHear : ByteArray := prog_1_method_42_code
def yX7_whoCanHear : MethodName := ⟨RX7, "whoCanHear", "(II)I"⟩
abbrev cX7_firstOfRelay : ByteArray := prog_1_method_43_code
def yX7_firstOfRelay : MethodName := ⟨RX7, "firstOfRelay", "(III)I"⟩
abbrev cX7_prepareAllotment : ByteArray := prog_1_method_44_code
def yX7_prepareAllotment : MethodName := ⟨RX7, "prepareAllotment", "(I)V"⟩
abbrev cX7_fewestToBeHeard : ByteArray := prog_1_method_45_code
def yX7_fewestToBeHeard : MethodName := ⟨RX7, "fewestToBeHeard", "(II)I"⟩
abbrev cX7_suspects : ByteArray := prog_1_method_46_code
def yX7_suspects : MethodName := ⟨RX7, "suspects", "()I"⟩
abbrev cX7_canBeAllSeen : ByteArray := prog_1_method_47_code
def yX7_canBeAllSeen : MethodName := ⟨RX7, "canBeAllSeen", "(I)Z"⟩
abbrev cX7_mostAlike : ByteArray := prog_1_method_48_code
def yX7_mostAlike : MethodName := ⟨RX7, "mostAlike", "(II)I"⟩
abbrev cX7_howManyReach : ByteArray := prog_1_method_49_code
def yX7_howManyReach : MethodName := ⟨RX7, "howManyReach", "(II)I"⟩
abbrev cX7_markOfOne : ByteArray := prog_1_method_50_code
def yX7_markOfOne : MethodName := ⟨RX7, "markOfOne", "(I)I"⟩
abbrev cX7_markOfSuitor : ByteArray := prog_1_method_51_code
def yX7_markOfSuitor : MethodName := ⟨RX7, "markOfSuitor", "(I)I"⟩
abbrev cX7_markOfLiar : ByteArray := prog_1_method_52_code
def yX7_markOfLiar : MethodName := ⟨RX7, "markOfLiar", "(I)I"⟩
abbrev cX7_markOfPoet : ByteArray := prog_1_method_53_code
def yX7_markOfPoet : MethodName := ⟨RX7, "markOfPoet", "(I)I"⟩
abbrev cX7_markOfLawyer : ByteArray := prog_1_method_54_code
def yX7_markOfLawyer : MethodName := ⟨RX7, "markOfLawyer", "(I)I"⟩
abbrev cX7_markOfGoose : ByteArray := prog_1_method_55_code
def yX7_markOfGoose : MethodName := ⟨RX7, "markOfGoose", "(I)I"⟩
def RX8 : String := "WordFletchersModel"
def TX8 : u_T := fun k => match k with
  | 0 => ("WordFletchersModel", "text", "[B", true)
  | 1 => ("WordFletchersModel", "typed", "I", false)
  | 2 => ("WordFletchersModel", "people", "[I", true)
  | 3 => ("WordFletchersModel", "place", "[I", true)
  | 4 => ("WordFletchersModel", "ear", "[I", true)
  | 5 => ("WordFletchersModel", "sayings", "[I", true)
  | 6 => ("WordFletchersModel", "weight", "[I", true)
  | 7 => ("WordFletchersModel", "twist", "[I", true)
  | 8 => ("WordFletchersModel", "first", "[I", true)
  | 9 => ("WordFletchersModel", "winds", "[I", true)
  | 10 => ("WordFletchersModel", "wind", "[I", true)
  | 11 => ("WordFletchersModel", "plenty", "[I", true)
  | 12 => ("WordFletchersModel", "at", "I", false)
  | 13 => ("WordFletchersModel", "stands", "I", false)
  | 14 => ("WordFletchersModel", "sort", "I", false)
  | 15 => ("WordFletchersModel", "value", "I", false)
  | 16 => ("WordFletchersModel", "isWrong", "Z", false)
  | 17 => ("WordFletchersModel", "items", "I", false)
  | 18 => ("WordFletchersModel", "isBlown", "Z", false)
  | 19 => ("WordFletchersModel", "now", "[I", true)
  | 20 => ("WordFletchersModel", "known", "[I", true)
  | 21 => ("WordFletchersModel", "before", "[I", true)
  | 22 => ("WordFletchersModel", "store", "[I", true)
  | 23 => ("WordFletchersModel", "isKept", "[Z", true)
  | 24 => ("WordFletchersModel", "needed", "[I", true)
  | 25 => ("WordFletchersModel", "least", "[I", true)
  | 26 => ("WordFletchersModel", "sightOf", "[I", true)
  | 27 => ("WordFletchersModel", "sightAt", "[I", true)
  | 28 => ("WordFletchersModel", "sights", "I", false)
  | _ => ("WordFletchersModel", "trace", "J", false)
def tyX8 : Nat → FieldType := fun k => match k with
  | 0 => .array .byte
  | 1 => .int
  | 2 => .array .int
  | 3 => .array .int
  | 4 => .array .int
  | 5 => .array .int
  | 6 => .array .int
  | 7 => .array .int
  | 8 => .array .int
  | 9 => .array .int
  | 10 => .array .int
  | 11 => .array .int
  | 12 => .int
  | 13 => .int
  | 14 => .int
  | 15 => .int
  | 16 => .boolean
  | 17 => .int
  | 18 => .boolean
  | 19 => .array .int
  | 20 => .array .int
  | 21 => .array .int
  | 22 => .array .int
  | 23 => .array .boolean
  | 24 => .array .int
  | 25 => .array .int
  | 26 => .array .int
  | 27 => .array .int
  | 28 => .int
  | _ => .long
abbrev wsX80 : List Cond := u_ws RX8 TX8 30
theorem nmX8 : ∀ a, a < 30 → ∀ b, b < 30 → a ≠ b → (TX8 a).2.1 ≠ (TX8 b).2.1 := by decide +kernel
theorem tyX8_ok : ∀ k, k < 30 → parseFieldDescriptor (TX8 k).2.2.1 = some (tyX8 k) := by decide +kernel
abbrev cX8_init : ByteArray := prog_10_method_1_code
def yX8_init : MethodName := ⟨RX8, "<init>", "()V"⟩
abbrev cX8_in : ByteArray := prog_10_method_3_code
def yX8_in : MethodName := ⟨RX8, "in", "(III)Z"⟩
abbrev cX8_has : ByteArray := prog_10_method_4_code
def yX8_has : MethodName := ⟨RX8, "has", "(II)Z"⟩
abbrev cX8_bitsOf : ByteArray := prog_10_method_5_code
def yX8_bitsOf : MethodName := ⟨RX8, "bitsOf", "(I)I"⟩
abbrev cX8_type : ByteArray := prog_10_method_6_code
def yX8_type : MethodName := ⟨RX8, "type", "(I)I"⟩
abbrev cX8_clear : ByteArray := prog_10_method_7_code
def yX8_clear : MethodName := ⟨RX8, "clear", "()I"⟩
abbrev cX8_here : ByteArray := prog_10_method_8_code
def yX8_here : MethodName := ⟨RX8, "here", "()I"⟩
abbrev cX8_step : ByteArray := prog_10_method_9_code
def yX8_step : MethodName := ⟨RX8, "step", "()V"⟩
abbrev cX8_due : ByteArray := prog_10_method_10_code
def yX8_due : MethodName := ⟨RX8, "due", "(Z)V"⟩
abbrev cX8_number : ByteArray := prog_10_method_11_code
def yX8_number : MethodName := ⟨RX8, "number", "(II)I"⟩
abbrev cX8_blow : ByteArray := prog_10_method_12_code
def yX8_blow : MethodName := ⟨RX8, "blow", "()V"⟩
abbrev cX8_item : ByteArray := prog_10_method_13_code
def yX8_item : MethodName := ⟨RX8, "item", "(I)V"⟩
abbrev cX8_may : ByteArray := prog_10_method_14_code
def yX8_may : MethodName := ⟨RX8, "may", "(I)Z"⟩
abbrev cX8_read : ByteArray := prog_10_method_15_code
def yX8_read : MethodName := ⟨RX8, "read", "()V"⟩
abbrev cX8_uplands : ByteArray := prog_10_method_16_code
def yX8_uplands : MethodName := ⟨RX8, "uplands", "()I"⟩
abbrev cX8_isOne : ByteArray := prog_10_method_17_code
def yX8_isOne : MethodName := ⟨RX8, "isOne", "(I)Z"⟩
abbrev cX8_isSaying : ByteArray := prog_10_method_18_code
def yX8_isSaying : MethodName := ⟨RX8, "isSaying", "(I)Z"⟩
abbrev cX8_isShot : ByteArray := prog_10_method_19_code
def yX8_isShot : MethodName := ⟨RX8, "isShot", "(III)Z"⟩
abbrev cX8_liftOf : ByteArray := prog_10_method_20_code
def yX8_liftOf : MethodName := ⟨RX8, "liftOf", "(I)I"⟩
abbrev cX8_landsBy : ByteArray := prog_10_method_21_code
def yX8_landsBy : MethodName := ⟨RX8, "landsBy", "(IIIIII)I"⟩
abbrev cX8_windIn : ByteArray := prog_10_method_22_code
def yX8_windIn : MethodName := ⟨RX8, "windIn", "(I)I"⟩
abbrev cX8_doesHear : ByteArray := prog_10_method_23_code
def yX8_doesHear : MethodName := ⟨RX8, "doesHear", "(II)Z"⟩
abbrev cX8_hearersOf : ByteArray := prog_10_method_24_code
def yX8_hearersOf : MethodName := ⟨RX8, "hearersOf", "(II)I"⟩
abbrev cX8_one : ByteArray := prog_10_method_25_code
def yX8_one : MethodName := ⟨RX8, "one", "(II)I"⟩
abbrev cX8_saying : ByteArray := prog_10_method_26_code
def yX8_saying : MethodName := ⟨RX8, "saying", "(II)I"⟩
abbrev cX8_wind : ByteArray := prog_10_method_27_code
def yX8_wind : MethodName := ⟨RX8, "wind", "(I)I"⟩
abbrev cX8_stray : ByteArray := prog_10_method_28_code
def yX8_stray : MethodName := ⟨RX8, "stray", "(II)I"⟩
abbrev cX8_know : ByteArray := prog_10_method_29_code
def yX8_know : MethodName := ⟨RX8, "know", "()V"⟩
abbrev cX8_takeUp : ByteArray := prog_10_method_30_code
def yX8_takeUp : MethodName := ⟨RX8, "takeUp", "(I)V"⟩
abbrev cX8_lets : ByteArray := prog_10_method_31_code
def yX8_lets : MethodName := ⟨RX8, "lets", "(IIIII)I"⟩
abbrev cX8_picks : ByteArray := prog_10_method_32_code
def yX8_picks : MethodName := ⟨RX8, "picks", "(I)I"⟩
abbrev cX8_hours : ByteArray := prog_10_method_33_code
def yX8_hours : MethodName := ⟨RX8, "hours", "(I)I"⟩
abbrev cX8_damps : ByteArray := prog_10_method_34_code
def yX8_damps : MethodName := ⟨RX8, "damps", "(I)I"⟩
abbrev cX8_plucks : ByteArray := prog_10_method_35_code
def yX8_plucks : MethodName := ⟨RX8, "plucks", "(II)I"⟩
abbrev cX8_undo : ByteArray := prog_10_method_36_code
def yX8_undo : MethodName := ⟨RX8, "undo", "()I"⟩
abbrev cX8_now : ByteArray := prog_10_method_37_code
def yX8_now : MethodName := ⟨RX8, "now", "(I)I"⟩
abbrev cX8_lands : ByteArray := prog_10_method_38_code
def yX8_lands : MethodName := ⟨RX8, "lands", "(IIIII)I"⟩
abbrev cX8_areUnlike : ByteArray := prog_10_method_39_code
def yX8_areUnlike : MethodName := ⟨RX8, "areUnlike", "(II)Z"⟩
abbrev cX8_isHeard : ByteArray := prog_10_method_40_code
def yX8_isHeard : MethodName := ⟨RX8, "isHeard", "(IIIII)Z"⟩
abbrev cX8_call : ByteArray := prog_10_method_41_code
def yX8_call : MethodName := ⟨RX8, "call", "(III)I"⟩
abbrev cX8_isShotBy : ByteArray := prog_10_method_42_code
def yX8_isShotBy : MethodName := ⟨RX8, "isShotBy", "(I)Z"⟩
abbrev cX8_waits : ByteArray := prog_10_method_43_code
def yX8_waits : MethodName := ⟨RX8, "waits", "(IIII)I"⟩
abbrev cX8_behind : ByteArray := prog_10_method_44_code
def yX8_behind : MethodName := ⟨RX8, "behind", "(IIIIII)I"⟩
abbrev cX8_measure : ByteArray := prog_10_method_45_code
def yX8_measure : MethodName := ⟨RX8, "measure", "(II)V"⟩
abbrev cX8_relay : ByteArray := prog_10_method_46_code
def yX8_relay : MethodName := ⟨RX8, "relay", "(III)I"⟩
abbrev cX8_tellDue : ByteArray := prog_10_method_47_code
def yX8_tellDue : MethodName := ⟨RX8, "tellDue", "()V"⟩
abbrev cX8_takes : ByteArray := prog_10_method_48_code
def yX8_takes : MethodName := ⟨RX8, "takes", "(II)I"⟩
abbrev cX8_allot : ByteArray := prog_10_method_49_code
def yX8_allot : MethodName := ⟨RX8, "allot", "(II)I"⟩
abbrev cX8_odds : ByteArray := prog_10_method_50_code
def yX8_odds : MethodName := ⟨RX8, "odds", "(IIIII)I"⟩
abbrev cX8_saw : ByteArray := prog_10_method_51_code
def yX8_saw : MethodName := ⟨RX8, "saw", "(II)I"⟩
abbrev cX8_forget : ByteArray := prog_10_method_52_code
def yX8_forget : MethodName := ⟨RX8, "forget", "()I"⟩
abbrev cX8_spotsOf : ByteArray := prog_10_method_53_code
def yX8_spotsOf : MethodName := ⟨RX8, "spotsOf", "(II)I"⟩
abbrev cX8_who : ByteArray := prog_10_method_54_code
def yX8_who : MethodName := ⟨RX8, "who", "()I"⟩
abbrev cX8_ask : ByteArray := prog_10_method_55_code
def yX8_ask : MethodName := ⟨RX8, "ask", "()I"⟩
abbrev cX8_bodiesOf : ByteArray := prog_10_method_56_code
def yX8_bodiesOf : MethodName := ⟨RX8, "bodiesOf", "(I)I"⟩
abbrev cX8_mark : ByteArray := prog_10_method_57_code
def yX8_mark : MethodName := ⟨RX8, "mark", "(II)I"⟩
abbrev cX8_trace : ByteArray := prog_10_method_58_code
def yX8_trace : MethodName := ⟨RX8, "trace", "()J"⟩
abbrev cX8_keep : ByteArray := prog_10_method_59_code
def yX8_keep : MethodName := ⟨RX8, "keep", "(I)I"⟩
abbrev cX8_back : ByteArray := prog_10_method_60_code
def yX8_back : MethodName := ⟨RX8, "back", "(I)I"⟩
abbrev cX8_count : ByteArray := prog_10_method_61_code
def yX8_count : MethodName := ⟨RX8, "count", "(I)I"⟩
def RJ6 : String := "java/lang/Integer"
def TJ6 : u_T := fun k => match k with
  | _ => ("", "", "", false)
def tyJ6 : Nat → FieldType := fun k => match k with
  | _ => .int
abbrev wsJ60 : List Cond := u_ws RJ6 TJ6 0
theorem nmJ6 : ∀ a, a < 0 → ∀ b, b < 0 → a ≠ b → (TJ6 a).2.1 ≠ (TJ6 b).2.1 := by decide +kernel
theorem tyJ6_ok : ∀ k, k < 0 → parseFieldDescriptor (TJ6 k).2.2.1 = some (tyJ6 k) := by decide +kernel
abbrev cJ6_bitCount_0f7a4 : ByteArray := prog_11_method_49_code
def yJ6_bitCount_0f7a4 : MethodName := ⟨RJ6, "bitCount", "(I)I"⟩
def RJ9 : String := "java/lang/Math"
def TJ9 : u_T := fun k => match k with
  | _ => ("", "", "", false)
def tyJ9 : Nat → FieldType := fun k => match k with
  | _ => .int
abbrev wsJ90 : List Cond := u_ws RJ9 TJ9 0
theorem nmJ9 : ∀ a, a < 0 → ∀ b, b < 0 → a ≠ b → (TJ9 a).2.1 ≠ (TJ9 b).2.1 := by decide +kernel
theorem tyJ9_ok : ∀ k, k < 0 → parseFieldDescriptor (TJ9 k).2.2.1 = some (tyJ9 k) := by decide +kernel
abbrev cJ9_abs_0f7a4 : ByteArray := prog_12_method_59_code
def yJ9_abs_0f7a4 : MethodName := ⟨RJ9, "abs", "(I)I"⟩
abbrev cJ9_max_7cf53 : ByteArray := prog_12_method_65_code
def yJ9_max_7cf53 : MethodName := ⟨RJ9, "max", "(II)I"⟩
abbrev cJ9_min_7cf53 : ByteArray := prog_12_method_69_code
def yJ9_min_7cf53 : MethodName := ⟨RJ9, "min", "(II)I"⟩
def RJ10 : String := "java/lang/System"
def TJ10 : u_T := fun k => match k with
  | _ => ("", "", "", false)
def tyJ10 : Nat → FieldType := fun k => match k with
  | _ => .int
abbrev wsJ100 : List Cond := u_ws RJ10 TJ10 0
theorem nmJ10 : ∀ a, a < 0 → ∀ b, b < 0 → a ≠ b → (TJ10 a).2.1 ≠ (TJ10 b).2.1 := by decide +kernel
theorem tyJ10_ok : ∀ k, k < 0 → parseFieldDescriptor (TJ10 k).2.2.1 = some (tyJ10 k) := by decide +kernel
def RL : String := "WordFletchersLaw"
abbrev cL_law : ByteArray := code
def yL_law : MethodName := ⟨RL, "law", "([I)Z"⟩
def wsX0_init : List Cond := .code yX0_init cX0_init 1 none :: ([.methodLink RX0 3 objectInit, .instanceMethod objectInit, .code objectInit ⟨#[0xb1]⟩ 1 none, .arrayClass .int, .fieldLink RX0 9 "WordFletchers$Allotment" "saying" "[I", .fieldLink RX0 15 "WordFletchers$Allotment" "fewest" "[I", .fieldLink RX0 18 "WordFletchers$Allotment" "used" "[I", .fieldLink RX0 21 "WordFletchers$Allotment" "members" "I"] ++ wsX00)
def wsX0_addMember : List Cond := .code yX0_addMember cX0_addMember 2 (some .int) :: ([.fieldLink RX0 9 "WordFletchers$Allotment" "saying" "[I", .fieldLink RX0 21 "WordFletchers$Allotment" "members" "I"] ++ wsX00)
def wsX0_setFewest : List Cond := .code yX0_setFewest cX0_setFewest 4 none :: ([.fieldLink RX0 15 "WordFletchers$Allotment" "fewest" "[I"] ++ wsX00)
def wsX0_kindOf : List Cond := .code yX0_kindOf cX0_kindOf 3 (some .int) :: ([.fieldLink RX0 21 "WordFletchers$Allotment" "members" "I"] ++ wsX00)
def wsX0_costOf : List Cond := .code yX0_costOf cX0_costOf 7 (some .int) :: ([.fieldLink RX0 18 "WordFletchers$Allotment" "used" "[I", .fieldLink RX0 21 "WordFletchers$Allotment" "members" "I", .fieldLink RX0 15 "WordFletchers$Allotment" "fewest" "[I", .methodLink RX0 35 yX0_kindOf, .instanceMethod yX0_kindOf, .selects RX0 yX0_kindOf yX0_kindOf, .initialized RX0, .code yX0_kindOf cX0_kindOf 3 (some .int)] ++ wsX00)
def wsX0_search : List Cond := .code yX0_search cX0_search 4 (some .boolean) :: ([.fieldLink RX0 25 "WordFletchers$Allotment" "total" "I", .fieldLink RX0 21 "WordFletchers$Allotment" "members" "I", .fieldLink RX0 32 "WordFletchers$Allotment" "way" "I", .methodLink RX0 28 yX0_costOf, .instanceMethod yX0_costOf, .selects RX0 yX0_costOf yX0_costOf, .initialized RX0, .code yX0_costOf cX0_costOf 7 (some .int), .fieldLink RX0 18 "WordFletchers$Allotment" "used" "[I", .fieldLink RX0 15 "WordFletchers$Allotment" "fewest" "[I", .methodLink RX0 35 yX0_kindOf, .instanceMethod yX0_kindOf, .selects RX0 yX0_kindOf yX0_kindOf, .code yX0_kindOf cX0_kindOf 3 (some .int)] ++ wsX00)
def wsX0_shareOf : List Cond := .code yX0_shareOf cX0_shareOf 4 (some .int) :: ([.fieldLink RX0 21 "WordFletchers$Allotment" "members" "I", .fieldLink RX0 9 "WordFletchers$Allotment" "saying" "[I", .fieldLink RX0 32 "WordFletchers$Allotment" "way" "I", .fieldLink RX0 15 "WordFletchers$Allotment" "fewest" "[I", .methodLink RX0 35 yX0_kindOf, .instanceMethod yX0_kindOf, .selects RX0 yX0_kindOf yX0_kindOf, .initialized RX0, .code yX0_kindOf cX0_kindOf 3 (some .int)] ++ wsX00)
def wsX2_init : List Cond := .code yX2_init cX2_init 1 none :: ([.methodLink RX2 3 objectInit, .instanceMethod objectInit, .code objectInit ⟨#[0xb1]⟩ 1 none, .arrayClass .int, .fieldLink RX2 9 "WordFletchers$Moment" "feathers" "[I", .fieldLink RX2 15 "WordFletchers$Moment" "knows" "[I", .fieldLink RX2 18 "WordFletchers$Moment" "straySaying" "[I", .fieldLink RX2 21 "WordFletchers$Moment" "strayPlace" "[I"] ++ wsX20)
def wsX3_init : List Cond := .code yX3_init cX3_init 2 none :: ([.methodLink RX3 3 objectInit, .instanceMethod objectInit, .code objectInit ⟨#[0xb1]⟩ 1 none, .classLink RX3 9 RX2, .fieldLink RX3 11 "WordFletchers$Past" "moments" "[LWordFletchers$Moment;", .fieldLink RX3 17 "WordFletchers$Past" "known" "I", .instantiable RX2 7, .initialized RX2, .instanceMethod yX2_init, .code yX2_init cX2_init 1 none, .methodLink RX2 3 objectInit, .arrayClass .int, .fieldLink RX2 9 "WordFletchers$Moment" "feathers" "[I", .fieldLink RX2 15 "WordFletchers$Moment" "knows" "[I", .fieldLink RX2 18 "WordFletchers$Moment" "straySaying" "[I", .fieldLink RX2 21 "WordFletchers$Moment" "strayPlace" "[I"] ++ wsX30 ++ wsX20)
def wsX1_init_r1 : List Cond := [Cond.methodLink RX1 1 objectInit, Cond.instanceMethod objectInit, Cond.code objectInit ⟨#[0xb1]⟩ 1 none, Cond.classLink RX1 7 RX2, Cond.instantiable RX2 7, Cond.initialized RX2, Cond.fieldLink RX1 10 "WordFletchers$Image" "moment" "LWordFletchers$Moment;", Cond.classLink RX1 16 RX3, Cond.instantiable RX3 2, Cond.initialized RX3, Cond.fieldLink RX1 19 "WordFletchers$Image" "past" "LWordFletchers$Past;", Cond.fieldLink RX1 23 "WordFletchers$Image" "kept" "Z", Cond.instanceMethod yX2_init, Cond.code yX2_init cX2_init 1 none, Cond.methodLink RX2 3 objectInit, Cond.arrayClass .int, Cond.fieldLink RX2 9 "WordFletchers$Moment" "feathers" "[I", Cond.fieldLink RX2 15 "WordFletchers$Moment" "knows" "[I", Cond.fieldLink RX2 18 "WordFletchers$Moment" "straySaying" "[I", Cond.fieldLink RX2 21 "WordFletchers$Moment" "strayPlace" "[I", Cond.methodLink RX1 18 yX3_init, Cond.instanceMethod yX3_init, Cond.code yX3_init cX3_init 2 none, Cond.methodLink RX3 3 objectInit]
def wsX1_init_r2 : List Cond := [Cond.classLink RX3 9 RX2, Cond.fieldLink RX3 11 "WordFletchers$Past" "moments" "[LWordFletchers$Moment;", Cond.fieldLink RX3 17 "WordFletchers$Past" "known" "I"]
def wsX1_init : List Cond := .code yX1_init cX1_init 1 none :: ((wsX1_init_r1 ++ wsX1_init_r2) ++ wsX20 ++ wsX10 ++ wsX30)
def wsX2_become : List Cond := .code yX2_become cX2_become 2 none :: ([.fieldLink RX2 24 "WordFletchers$Moment" "hour" "I", .fieldLink RX2 28 "WordFletchers$Moment" "damp" "I", .fieldLink RX2 31 "WordFletchers$Moment" "strays" "I", .fieldLink RX2 9 "WordFletchers$Moment" "feathers" "[I", .methodLink RX2 47 arraycopyName, .native arraycopyName, .static arraycopyName, .initialized "java/lang/System", .fieldLink RX2 15 "WordFletchers$Moment" "knows" "[I", .fieldLink RX2 18 "WordFletchers$Moment" "straySaying" "[I", .fieldLink RX2 21 "WordFletchers$Moment" "strayPlace" "[I"] ++ wsX20)
def wsX3_become : List Cond := .code yX3_become cX3_become 3 none :: ([.fieldLink RX3 17 "WordFletchers$Past" "known" "I", .fieldLink RX3 11 "WordFletchers$Past" "moments" "[LWordFletchers$Moment;", .methodLink RX3 25 yX2_become, .instanceMethod yX2_become, .selects RX2 yX2_become yX2_become, .initialized RX2, .code yX2_become cX2_become 2 none, .fieldLink RX2 24 "WordFletchers$Moment" "hour" "I", .fieldLink RX2 28 "WordFletchers$Moment" "damp" "I", .fieldLink RX2 31 "WordFletchers$Moment" "strays" "I", .fieldLink RX2 9 "WordFletchers$Moment" "feathers" "[I", .methodLink RX2 47 arraycopyName, .native arraycopyName, .static arraycopyName, .initialized "java/lang/System", .fieldLink RX2 15 "WordFletchers$Moment" "knows" "[I", .fieldLink RX2 18 "WordFletchers$Moment" "straySaying" "[I", .fieldLink RX2 21 "WordFletchers$Moment" "strayPlace" "[I"] ++ wsX30 ++ wsX20)
def wsX1_take_r1 : List Cond := [Cond.fieldLink RX1 10 "WordFletchers$Image" "moment" "LWordFletchers$Moment;", Cond.fieldLink RX1 19 "WordFletchers$Image" "past" "LWordFletchers$Past;", Cond.fieldLink RX1 23 "WordFletchers$Image" "kept" "Z", Cond.methodLink RX1 27 yX2_become, Cond.instanceMethod yX2_become, Cond.selects RX2 yX2_become yX2_become, Cond.initialized RX2, Cond.code yX2_become cX2_become 2 none, Cond.fieldLink RX2 24 "WordFletchers$Moment" "hour" "I", Cond.fieldLink RX2 28 "WordFletchers$Moment" "damp" "I", Cond.fieldLink RX2 31 "WordFletchers$Moment" "strays" "I", Cond.fieldLink RX2 9 "WordFletchers$Moment" "feathers" "[I", Cond.methodLink RX2 47 arraycopyName, Cond.native arraycopyName, Cond.static arraycopyName, Cond.initialized "java/lang/System", Cond.fieldLink RX2 15 "WordFletchers$Moment" "knows" "[I", Cond.fieldLink RX2 18 "WordFletchers$Moment" "straySaying" "[I", Cond.fieldLink RX2 21 "WordFletchers$Moment" "strayPlace" "[I", Cond.methodLink RX1 31 yX3_become, Cond.instanceMethod yX3_become, Cond.selects RX3 yX3_become yX3_become, Cond.initialized RX3, Cond.code yX3_become cX3_become 3 none]
def wsX1_take_r2 : List Cond := [Cond.fieldLink RX3 17 "WordFletchers$Past" "known" "I", Cond.fieldLink RX3 11 "WordFletchers$Past" "moments" "[LWordFletchers$Moment;", Cond.methodLink RX3 25 yX2_become]
def wsX1_take : List Cond := .code yX1_take cX1_take 3 none :: ((wsX1_take_r1 ++ wsX1_take_r2) ++ wsX10 ++ wsX20 ++ wsX30)
def wsX1_give_r1 : List Cond := [Cond.fieldLink RX1 10 "WordFletchers$Image" "moment" "LWordFletchers$Moment;", Cond.fieldLink RX1 19 "WordFletchers$Image" "past" "LWordFletchers$Past;", Cond.methodLink RX1 27 yX2_become, Cond.instanceMethod yX2_become, Cond.selects RX2 yX2_become yX2_become, Cond.initialized RX2, Cond.code yX2_become cX2_become 2 none, Cond.fieldLink RX2 24 "WordFletchers$Moment" "hour" "I", Cond.fieldLink RX2 28 "WordFletchers$Moment" "damp" "I", Cond.fieldLink RX2 31 "WordFletchers$Moment" "strays" "I", Cond.fieldLink RX2 9 "WordFletchers$Moment" "feathers" "[I", Cond.methodLink RX2 47 arraycopyName, Cond.native arraycopyName, Cond.static arraycopyName, Cond.initialized "java/lang/System", Cond.fieldLink RX2 15 "WordFletchers$Moment" "knows" "[I", Cond.fieldLink RX2 18 "WordFletchers$Moment" "straySaying" "[I", Cond.fieldLink RX2 21 "WordFletchers$Moment" "strayPlace" "[I", Cond.methodLink RX1 31 yX3_become, Cond.instanceMethod yX3_become, Cond.selects RX3 yX3_become yX3_become, Cond.initialized RX3, Cond.code yX3_become cX3_become 3 none, Cond.fieldLink RX3 17 "WordFletchers$Past" "known" "I"]
def wsX1_give_r2 : List Cond := [Cond.fieldLink RX3 11 "WordFletchers$Past" "moments" "[LWordFletchers$Moment;", Cond.methodLink RX3 25 yX2_become]
def wsX1_give : List Cond := .code yX1_give cX1_give 3 none :: ((wsX1_give_r1 ++ wsX1_give_r2) ++ wsX10 ++ wsX20 ++ wsX30)
def wsX7_isIn : List Cond := .code yX7_isIn cX7_isIn 2 (some .boolean) :: ([])
def wsX2_tell : List Cond := .code yX2_tell cX2_tell 4 none :: ([.fieldLink RX2 15 "WordFletchers$Moment" "knows" "[I", .static yX7_isIn, .initialized RX7, .code yX7_isIn cX7_isIn 2 (some .boolean)] ++ wsX20)
def wsX2_begin : List Cond := .code yX2_begin cX2_begin 3 none :: ([.fieldLink RX2 24 "WordFletchers$Moment" "hour" "I", .fieldLink RX2 28 "WordFletchers$Moment" "damp" "I", .fieldLink RX2 31 "WordFletchers$Moment" "strays" "I", .fieldLink RX2 9 "WordFletchers$Moment" "feathers" "[I", .fieldLink RX2 34 "WordFletchers$Told" "feathers" "[I", .fieldLink RX2 15 "WordFletchers$Moment" "knows" "[I", .fieldLink RX2 37 "WordFletchers$Told" "sayings" "I", .fieldLink RX2 40 "WordFletchers$Told" "first" "[I", .methodLink RX2 43 yX2_tell, .instanceMethod yX2_tell, .selects RX2 yX2_tell yX2_tell, .initialized RX2, .code yX2_tell cX2_tell 4 none, .static yX7_isIn, .initialized RX7, .code yX7_isIn cX7_isIn 2 (some .boolean)] ++ wsX20 ++ wsX60)
def wsX2_isKnown : List Cond := .code yX2_isKnown cX2_isKnown 3 (some .boolean) :: ([.fieldLink RX2 15 "WordFletchers$Moment" "knows" "[I", .static yX7_isIn, .initialized RX7, .code yX7_isIn cX7_isIn 2 (some .boolean)] ++ wsX20)
def wsX2_whoKnows : List Cond := .code yX2_whoKnows cX2_whoKnows 4 (some .int) :: ([.methodLink RX2 57 yX2_isKnown, .instanceMethod yX2_isKnown, .selects RX2 yX2_isKnown yX2_isKnown, .initialized RX2, .code yX2_isKnown cX2_isKnown 3 (some .boolean), .fieldLink RX2 15 "WordFletchers$Moment" "knows" "[I", .static yX7_isIn, .initialized RX7, .code yX7_isIn cX7_isIn 2 (some .boolean)] ++ wsX20)
def wsX2_allFeathers : List Cond := .code yX2_allFeathers cX2_allFeathers 3 (some .int) :: ([.fieldLink RX2 9 "WordFletchers$Moment" "feathers" "[I"] ++ wsX20)
def wsX2_removeStray : List Cond := .code yX2_removeStray cX2_removeStray 3 none :: ([.fieldLink RX2 31 "WordFletchers$Moment" "strays" "I", .fieldLink RX2 18 "WordFletchers$Moment" "straySaying" "[I", .fieldLink RX2 21 "WordFletchers$Moment" "strayPlace" "[I"] ++ wsX20)
def wsX2_addStray : List Cond := .code yX2_addStray cX2_addStray 3 none :: ([.fieldLink RX2 31 "WordFletchers$Moment" "strays" "I", .fieldLink RX2 18 "WordFletchers$Moment" "straySaying" "[I", .fieldLink RX2 21 "WordFletchers$Moment" "strayPlace" "[I", .methodLink RX2 60 yX2_removeStray, .instanceMethod yX2_removeStray, .selects RX2 yX2_removeStray yX2_removeStray, .initialized RX2, .code yX2_removeStray cX2_removeStray 3 none] ++ wsX20)
def wsX2_longestStrayAt : List Cond := .code yX2_longestStrayAt cX2_longestStrayAt 3 (some .int) :: ([.fieldLink RX2 31 "WordFletchers$Moment" "strays" "I", .fieldLink RX2 21 "WordFletchers$Moment" "strayPlace" "[I"] ++ wsX20)
def wsX3_loseOldest : List Cond := .code yX3_loseOldest cX3_loseOldest 3 none :: ([.fieldLink RX3 11 "WordFletchers$Past" "moments" "[LWordFletchers$Moment;", .fieldLink RX3 17 "WordFletchers$Past" "known" "I"] ++ wsX30)
def wsX3_remember : List Cond := .code yX3_remember cX3_remember 2 none :: ([.fieldLink RX3 17 "WordFletchers$Past" "known" "I", .fieldLink RX3 11 "WordFletchers$Past" "moments" "[LWordFletchers$Moment;", .methodLink RX3 22 yX3_loseOldest, .instanceMethod yX3_loseOldest, .selects RX3 yX3_loseOldest yX3_loseOldest, .initialized RX3, .code yX3_loseOldest cX3_loseOldest 3 none, .methodLink RX3 25 yX2_become, .instanceMethod yX2_become, .selects RX2 yX2_become yX2_become, .initialized RX2, .code yX2_become cX2_become 2 none, .fieldLink RX2 24 "WordFletchers$Moment" "hour" "I", .fieldLink RX2 28 "WordFletchers$Moment" "damp" "I", .fieldLink RX2 31 "WordFletchers$Moment" "strays" "I", .fieldLink RX2 9 "WordFletchers$Moment" "feathers" "[I", .methodLink RX2 47 arraycopyName, .native arraycopyName, .static arraycopyName, .initialized "java/lang/System", .fieldLink RX2 15 "WordFletchers$Moment" "knows" "[I", .fieldLink RX2 18 "WordFletchers$Moment" "straySaying" "[I", .fieldLink RX2 21 "WordFletchers$Moment" "strayPlace" "[I"] ++ wsX30 ++ wsX20)
def wsX3_bringBack : List Cond := .code yX3_bringBack cX3_bringBack 2 none :: ([.fieldLink RX3 17 "WordFletchers$Past" "known" "I", .fieldLink RX3 11 "WordFletchers$Past" "moments" "[LWordFletchers$Moment;", .methodLink RX3 25 yX2_become, .instanceMethod yX2_become, .selects RX2 yX2_become yX2_become, .initialized RX2, .code yX2_become cX2_become 2 none, .fieldLink RX2 24 "WordFletchers$Moment" "hour" "I", .fieldLink RX2 28 "WordFletchers$Moment" "damp" "I", .fieldLink RX2 31 "WordFletchers$Moment" "strays" "I", .fieldLink RX2 9 "WordFletchers$Moment" "feathers" "[I", .methodLink RX2 47 arraycopyName, .native arraycopyName, .static arraycopyName, .initialized "java/lang/System", .fieldLink RX2 15 "WordFletchers$Moment" "knows" "[I", .fieldLink RX2 18 "WordFletchers$Moment" "straySaying" "[I", .fieldLink RX2 21 "WordFletchers$Moment" "strayPlace" "[I"] ++ wsX30 ++ wsX20)
def wsX4_init : List Cond := .code yX4_init cX4_init 1 none :: ([.methodLink RX4 3 objectInit, .instanceMethod objectInit, .code objectInit ⟨#[0xb1]⟩ 1 none, .arrayClass .int, .fieldLink RX4 9 "WordFletchers$Sightings" "saying" "[I", .fieldLink RX4 15 "WordFletchers$Sightings" "place" "[I", .fieldLink RX4 18 "WordFletchers$Sightings" "wind" "[I", .fieldLink RX4 21 "WordFletchers$Sightings" "damp" "[I", .fieldLink RX4 24 "WordFletchers$Sightings" "size" "I"] ++ wsX40)
def wsX4_add : List Cond := .code yX4_add cX4_add 5 none :: ([.fieldLink RX4 9 "WordFletchers$Sightings" "saying" "[I", .fieldLink RX4 24 "WordFletchers$Sightings" "size" "I", .fieldLink RX4 15 "WordFletchers$Sightings" "place" "[I", .fieldLink RX4 18 "WordFletchers$Sightings" "wind" "[I", .fieldLink RX4 21 "WordFletchers$Sightings" "damp" "[I"] ++ wsX40)
def wsX5_init : List Cond := .code yX5_init cX5_init 2 none :: ([.methodLink RX5 3 objectInit, .instanceMethod objectInit, .code objectInit ⟨#[0xb1]⟩ 1 none, .fieldLink RX5 9 "WordFletchers$TextReader" "bytes" "[I"] ++ wsX50)
def wsX6_tellNothing : List Cond := .code yX6_tellNothing cX6_tellNothing 2 none :: ([.fieldLink RX6 36 "WordFletchers$Told" "people" "I", .fieldLink RX6 40 "WordFletchers$Told" "sayings" "I", .fieldLink RX6 43 "WordFletchers$Told" "windsTold" "I", .fieldLink RX6 27 "WordFletchers$Told" "winds" "[I", .fieldLink RX6 30 "WordFletchers$Told" "feathers" "[I"] ++ wsX60)
def wsX5_sortAt : List Cond := .code yX5_sortAt cX5_sortAt 3 (some .int) :: ([.fieldLink RX5 21 "WordFletchers$TextReader" "length" "I", .fieldLink RX5 9 "WordFletchers$TextReader" "bytes" "[I"] ++ wsX50)
def wsX5_stepOverLetters : List Cond := .code yX5_stepOverLetters cX5_stepOverLetters 1 none :: ([.fieldLink RX5 25 "WordFletchers$TextReader" "next" "I", .fieldLink RX5 21 "WordFletchers$TextReader" "length" "I", .fieldLink RX5 43 "WordFletchers$TextReader" "start" "I", .fieldLink RX5 9 "WordFletchers$TextReader" "bytes" "[I", .fieldLink RX5 46 "WordFletchers$TextReader" "value" "I", .methodLink RX5 98 yX5_sortAt, .instanceMethod yX5_sortAt, .selects RX5 yX5_sortAt yX5_sortAt, .initialized RX5, .code yX5_sortAt cX5_sortAt 3 (some .int)] ++ wsX50)
def wsX5_stepOverDigits : List Cond := .code yX5_stepOverDigits cX5_stepOverDigits 2 none :: ([.fieldLink RX5 46 "WordFletchers$TextReader" "value" "I", .fieldLink RX5 25 "WordFletchers$TextReader" "next" "I", .fieldLink RX5 21 "WordFletchers$TextReader" "length" "I", .fieldLink RX5 9 "WordFletchers$TextReader" "bytes" "[I", .methodLink RX5 15 Lib.Math.min.name, .static Lib.Math.min.name, .initialized "java/lang/Math", .code Lib.Math.min.name Lib.Math.min.code 2 (some .int), .fieldLink RX5 43 "WordFletchers$TextReader" "start" "I", .fieldLink RX5 36 "WordFletchers$TextReader" "sort" "I", .methodLink RX5 98 yX5_sortAt, .instanceMethod yX5_sortAt, .selects RX5 yX5_sortAt yX5_sortAt, .initialized RX5, .code yX5_sortAt cX5_sortAt 3 (some .int)] ++ wsX50)
def wsX5_step : List Cond := .code yX5_step cX5_step 1 none :: ([.fieldLink RX5 25 "WordFletchers$TextReader" "next" "I", .fieldLink RX5 21 "WordFletchers$TextReader" "length" "I", .fieldLink RX5 9 "WordFletchers$TextReader" "bytes" "[I", .fieldLink RX5 43 "WordFletchers$TextReader" "start" "I", .fieldLink RX5 36 "WordFletchers$TextReader" "sort" "I", .methodLink RX5 98 yX5_sortAt, .instanceMethod yX5_sortAt, .selects RX5 yX5_sortAt yX5_sortAt, .initialized RX5, .code yX5_sortAt cX5_sortAt 3 (some .int), .methodLink RX5 102 yX5_stepOverLetters, .instanceMethod yX5_stepOverLetters, .selects RX5 yX5_stepOverLetters yX5_stepOverLetters, .code yX5_stepOverLetters cX5_stepOverLetters 1 none, .fieldLink RX5 46 "WordFletchers$TextReader" "value" "I", .methodLink RX5 105 yX5_stepOverDigits, .instanceMethod yX5_stepOverDigits, .selects RX5 yX5_stepOverDigits yX5_stepOverDigits, .code yX5_stepOverDigits cX5_stepOverDigits 2 none, .methodLink RX5 15 Lib.Math.min.name, .static Lib.Math.min.name, .initialized "java/lang/Math", .code Lib.Math.min.name Lib.Math.min.code 2 (some .int)] ++ wsX50)
def wsX5_takeNumber_r1 : List Cond := [Cond.fieldLink RX5 36 "WordFletchers$TextReader" "sort" "I", Cond.fieldLink RX5 46 "WordFletchers$TextReader" "value" "I", Cond.methodLink RX5 33 yX5_step, Cond.instanceMethod yX5_step, Cond.selects RX5 yX5_step yX5_step, Cond.initialized RX5, Cond.code yX5_step cX5_step 1 none, Cond.fieldLink RX5 25 "WordFletchers$TextReader" "next" "I", Cond.fieldLink RX5 21 "WordFletchers$TextReader" "length" "I", Cond.fieldLink RX5 9 "WordFletchers$TextReader" "bytes" "[I", Cond.fieldLink RX5 43 "WordFletchers$TextReader" "start" "I", Cond.methodLink RX5 98 yX5_sortAt, Cond.instanceMethod yX5_sortAt, Cond.selects RX5 yX5_sortAt yX5_sortAt, Cond.code yX5_sortAt cX5_sortAt 3 (some .int), Cond.methodLink RX5 102 yX5_stepOverLetters, Cond.instanceMethod yX5_stepOverLetters, Cond.selects RX5 yX5_stepOverLetters yX5_stepOverLetters, Cond.code yX5_stepOverLetters cX5_stepOverLetters 1 none, Cond.methodLink RX5 105 yX5_stepOverDigits, Cond.instanceMethod yX5_stepOverDigits, Cond.selects RX5 yX5_stepOverDigits yX5_stepOverDigits, Cond.code yX5_stepOverDigits cX5_stepOverDigits 2 none, Cond.methodLink RX5 15 Lib.Math.min.name]
def wsX5_takeNumber_r2 : List Cond := [Cond.static Lib.Math.min.name, Cond.initialized "java/lang/Math", Cond.code Lib.Math.min.name Lib.Math.min.code 2 (some .int)]
def wsX5_takeNumber : List Cond := .code yX5_takeNumber cX5_takeNumber 4 (some .int) :: ((wsX5_takeNumber_r1 ++ wsX5_takeNumber_r2) ++ wsX50)
def wsX5_takeSemicolon_r1 : List Cond := [Cond.fieldLink RX5 36 "WordFletchers$TextReader" "sort" "I", Cond.methodLink RX5 33 yX5_step, Cond.instanceMethod yX5_step, Cond.selects RX5 yX5_step yX5_step, Cond.initialized RX5, Cond.code yX5_step cX5_step 1 none, Cond.fieldLink RX5 25 "WordFletchers$TextReader" "next" "I", Cond.fieldLink RX5 21 "WordFletchers$TextReader" "length" "I", Cond.fieldLink RX5 9 "WordFletchers$TextReader" "bytes" "[I", Cond.fieldLink RX5 43 "WordFletchers$TextReader" "start" "I", Cond.methodLink RX5 98 yX5_sortAt, Cond.instanceMethod yX5_sortAt, Cond.selects RX5 yX5_sortAt yX5_sortAt, Cond.code yX5_sortAt cX5_sortAt 3 (some .int), Cond.methodLink RX5 102 yX5_stepOverLetters, Cond.instanceMethod yX5_stepOverLetters, Cond.selects RX5 yX5_stepOverLetters yX5_stepOverLetters, Cond.code yX5_stepOverLetters cX5_stepOverLetters 1 none, Cond.fieldLink RX5 46 "WordFletchers$TextReader" "value" "I", Cond.methodLink RX5 105 yX5_stepOverDigits, Cond.instanceMethod yX5_stepOverDigits, Cond.selects RX5 yX5_stepOverDigits yX5_stepOverDigits, Cond.code yX5_stepOverDigits cX5_stepOverDigits 2 none, Cond.methodLink RX5 15 Lib.Math.min.name]
def wsX5_takeSemicolon_r2 : List Cond := [Cond.static Lib.Math.min.name, Cond.initialized "java/lang/Math", Cond.code Lib.Math.min.name Lib.Math.min.code 2 (some .int)]
def wsX5_takeSemicolon : List Cond := .code yX5_takeSemicolon cX5_takeSemicolon 1 (some .boolean) :: ((wsX5_takeSemicolon_r1 ++ wsX5_takeSemicolon_r2) ++ wsX50)
def wsX5_readOne_r1 : List Cond := [Cond.fieldLink RX5 61 "WordFletchers$Told" "people" "I", Cond.fieldLink RX5 71 "WordFletchers$Told" "place" "[I", Cond.fieldLink RX5 74 "WordFletchers$Told" "ear" "[I", Cond.methodLink RX5 33 yX5_step, Cond.instanceMethod yX5_step, Cond.selects RX5 yX5_step yX5_step, Cond.initialized RX5, Cond.code yX5_step cX5_step 1 none, Cond.fieldLink RX5 25 "WordFletchers$TextReader" "next" "I", Cond.fieldLink RX5 21 "WordFletchers$TextReader" "length" "I", Cond.fieldLink RX5 9 "WordFletchers$TextReader" "bytes" "[I", Cond.fieldLink RX5 43 "WordFletchers$TextReader" "start" "I", Cond.fieldLink RX5 36 "WordFletchers$TextReader" "sort" "I", Cond.methodLink RX5 98 yX5_sortAt, Cond.instanceMethod yX5_sortAt, Cond.selects RX5 yX5_sortAt yX5_sortAt, Cond.code yX5_sortAt cX5_sortAt 3 (some .int), Cond.methodLink RX5 102 yX5_stepOverLetters, Cond.instanceMethod yX5_stepOverLetters, Cond.selects RX5 yX5_stepOverLetters yX5_stepOverLetters, Cond.code yX5_stepOverLetters cX5_stepOverLetters 1 none, Cond.fieldLink RX5 46 "WordFletchers$TextReader" "value" "I", Cond.methodLink RX5 105 yX5_stepOverDigits, Cond.instanceMethod yX5_stepOverDigits]
def wsX5_readOne_r2 : List Cond := [Cond.selects RX5 yX5_stepOverDigits yX5_stepOverDigits, Cond.code yX5_stepOverDigits cX5_stepOverDigits 2 none, Cond.methodLink RX5 15 Lib.Math.min.name, Cond.static Lib.Math.min.name, Cond.initialized "java/lang/Math", Cond.code Lib.Math.min.name Lib.Math.min.code 2 (some .int), Cond.methodLink RX5 64 yX5_takeNumber, Cond.instanceMethod yX5_takeNumber, Cond.selects RX5 yX5_takeNumber yX5_takeNumber, Cond.code yX5_takeNumber cX5_takeNumber 4 (some .int), Cond.methodLink RX5 67 yX5_takeSemicolon, Cond.instanceMethod yX5_takeSemicolon, Cond.selects RX5 yX5_takeSemicolon yX5_takeSemicolon, Cond.code yX5_takeSemicolon cX5_takeSemicolon 1 (some .boolean)]
def wsX5_readOne : List Cond := .code yX5_readOne cX5_readOne 4 (some .boolean) :: ((wsX5_readOne_r1 ++ wsX5_readOne_r2) ++ wsX60 ++ wsX50)
def wsX5_readSaying_r1 : List Cond := [Cond.fieldLink RX5 77 "WordFletchers$Told" "sayings" "I", Cond.fieldLink RX5 61 "WordFletchers$Told" "people" "I", Cond.fieldLink RX5 80 "WordFletchers$Told" "weight" "[I", Cond.fieldLink RX5 83 "WordFletchers$Told" "twist" "[I", Cond.fieldLink RX5 86 "WordFletchers$Told" "first" "[I", Cond.methodLink RX5 33 yX5_step, Cond.instanceMethod yX5_step, Cond.selects RX5 yX5_step yX5_step, Cond.initialized RX5, Cond.code yX5_step cX5_step 1 none, Cond.fieldLink RX5 25 "WordFletchers$TextReader" "next" "I", Cond.fieldLink RX5 21 "WordFletchers$TextReader" "length" "I", Cond.fieldLink RX5 9 "WordFletchers$TextReader" "bytes" "[I", Cond.fieldLink RX5 43 "WordFletchers$TextReader" "start" "I", Cond.fieldLink RX5 36 "WordFletchers$TextReader" "sort" "I", Cond.methodLink RX5 98 yX5_sortAt, Cond.instanceMethod yX5_sortAt, Cond.selects RX5 yX5_sortAt yX5_sortAt, Cond.code yX5_sortAt cX5_sortAt 3 (some .int), Cond.methodLink RX5 102 yX5_stepOverLetters, Cond.instanceMethod yX5_stepOverLetters, Cond.selects RX5 yX5_stepOverLetters yX5_stepOverLetters, Cond.code yX5_stepOverLetters cX5_stepOverLetters 1 none, Cond.fieldLink RX5 46 "WordFletchers$TextReader" "value" "I"]
def wsX5_readSaying_r2 : List Cond := [Cond.methodLink RX5 105 yX5_stepOverDigits, Cond.instanceMethod yX5_stepOverDigits, Cond.selects RX5 yX5_stepOverDigits yX5_stepOverDigits, Cond.code yX5_stepOverDigits cX5_stepOverDigits 2 none, Cond.methodLink RX5 15 Lib.Math.min.name, Cond.static Lib.Math.min.name, Cond.initialized "java/lang/Math", Cond.code Lib.Math.min.name Lib.Math.min.code 2 (some .int), Cond.methodLink RX5 64 yX5_takeNumber, Cond.instanceMethod yX5_takeNumber, Cond.selects RX5 yX5_takeNumber yX5_takeNumber, Cond.code yX5_takeNumber cX5_takeNumber 4 (some .int), Cond.methodLink RX5 67 yX5_takeSemicolon, Cond.instanceMethod yX5_takeSemicolon, Cond.selects RX5 yX5_takeSemicolon yX5_takeSemicolon, Cond.code yX5_takeSemicolon cX5_takeSemicolon 1 (some .boolean)]
def wsX5_readSaying : List Cond := .code yX5_readSaying cX5_readSaying 5 (some .boolean) :: ((wsX5_readSaying_r1 ++ wsX5_readSaying_r2) ++ wsX60 ++ wsX50)
def wsX5_readWinds_r1 : List Cond := [Cond.fieldLink RX5 89 "WordFletchers$Told" "windsTold" "I", Cond.fieldLink RX5 36 "WordFletchers$TextReader" "sort" "I", Cond.fieldLink RX5 92 "WordFletchers$Told" "winds" "[I", Cond.methodLink RX5 33 yX5_step, Cond.instanceMethod yX5_step, Cond.selects RX5 yX5_step yX5_step, Cond.initialized RX5, Cond.code yX5_step cX5_step 1 none, Cond.fieldLink RX5 25 "WordFletchers$TextReader" "next" "I", Cond.fieldLink RX5 21 "WordFletchers$TextReader" "length" "I", Cond.fieldLink RX5 9 "WordFletchers$TextReader" "bytes" "[I", Cond.fieldLink RX5 43 "WordFletchers$TextReader" "start" "I", Cond.methodLink RX5 98 yX5_sortAt, Cond.instanceMethod yX5_sortAt, Cond.selects RX5 yX5_sortAt yX5_sortAt, Cond.code yX5_sortAt cX5_sortAt 3 (some .int), Cond.methodLink RX5 102 yX5_stepOverLetters, Cond.instanceMethod yX5_stepOverLetters, Cond.selects RX5 yX5_stepOverLetters yX5_stepOverLetters, Cond.code yX5_stepOverLetters cX5_stepOverLetters 1 none, Cond.fieldLink RX5 46 "WordFletchers$TextReader" "value" "I", Cond.methodLink RX5 105 yX5_stepOverDigits, Cond.instanceMethod yX5_stepOverDigits, Cond.selects RX5 yX5_stepOverDigits yX5_stepOverDigits]
def wsX5_readWinds_r2 : List Cond := [Cond.code yX5_stepOverDigits cX5_stepOverDigits 2 none, Cond.methodLink RX5 15 Lib.Math.min.name, Cond.static Lib.Math.min.name, Cond.initialized "java/lang/Math", Cond.code Lib.Math.min.name Lib.Math.min.code 2 (some .int), Cond.methodLink RX5 64 yX5_takeNumber, Cond.instanceMethod yX5_takeNumber, Cond.selects RX5 yX5_takeNumber yX5_takeNumber, Cond.code yX5_takeNumber cX5_takeNumber 4 (some .int), Cond.methodLink RX5 67 yX5_takeSemicolon, Cond.instanceMethod yX5_takeSemicolon, Cond.selects RX5 yX5_takeSemicolon yX5_takeSemicolon, Cond.code yX5_takeSemicolon cX5_takeSemicolon 1 (some .boolean)]
def wsX5_readWinds : List Cond := .code yX5_readWinds cX5_readWinds 4 (some .boolean) :: ((wsX5_readWinds_r1 ++ wsX5_readWinds_r2) ++ wsX60 ++ wsX50)
def wsX5_readFeathers_r1 : List Cond := [Cond.fieldLink RX5 95 "WordFletchers$Told" "feathers" "[I", Cond.methodLink RX5 33 yX5_step, Cond.instanceMethod yX5_step, Cond.selects RX5 yX5_step yX5_step, Cond.initialized RX5, Cond.code yX5_step cX5_step 1 none, Cond.fieldLink RX5 25 "WordFletchers$TextReader" "next" "I", Cond.fieldLink RX5 21 "WordFletchers$TextReader" "length" "I", Cond.fieldLink RX5 9 "WordFletchers$TextReader" "bytes" "[I", Cond.fieldLink RX5 43 "WordFletchers$TextReader" "start" "I", Cond.fieldLink RX5 36 "WordFletchers$TextReader" "sort" "I", Cond.methodLink RX5 98 yX5_sortAt, Cond.instanceMethod yX5_sortAt, Cond.selects RX5 yX5_sortAt yX5_sortAt, Cond.code yX5_sortAt cX5_sortAt 3 (some .int), Cond.methodLink RX5 102 yX5_stepOverLetters, Cond.instanceMethod yX5_stepOverLetters, Cond.selects RX5 yX5_stepOverLetters yX5_stepOverLetters, Cond.code yX5_stepOverLetters cX5_stepOverLetters 1 none, Cond.fieldLink RX5 46 "WordFletchers$TextReader" "value" "I", Cond.methodLink RX5 105 yX5_stepOverDigits, Cond.instanceMethod yX5_stepOverDigits, Cond.selects RX5 yX5_stepOverDigits yX5_stepOverDigits, Cond.code yX5_stepOverDigits cX5_stepOverDigits 2 none]
def wsX5_readFeathers_r2 : List Cond := [Cond.methodLink RX5 15 Lib.Math.min.name, Cond.static Lib.Math.min.name, Cond.initialized "java/lang/Math", Cond.code Lib.Math.min.name Lib.Math.min.code 2 (some .int), Cond.methodLink RX5 64 yX5_takeNumber, Cond.instanceMethod yX5_takeNumber, Cond.selects RX5 yX5_takeNumber yX5_takeNumber, Cond.code yX5_takeNumber cX5_takeNumber 4 (some .int), Cond.methodLink RX5 67 yX5_takeSemicolon, Cond.instanceMethod yX5_takeSemicolon, Cond.selects RX5 yX5_takeSemicolon yX5_takeSemicolon, Cond.code yX5_takeSemicolon cX5_takeSemicolon 1 (some .boolean)]
def wsX5_readFeathers : List Cond := .code yX5_readFeathers cX5_readFeathers 4 (some .boolean) :: ((wsX5_readFeathers_r1 ++ wsX5_readFeathers_r2) ++ wsX60 ++ wsX50)
def wsX5_readItem_r1 : List Cond := [Cond.fieldLink RX5 36 "WordFletchers$TextReader" "sort" "I", Cond.fieldLink RX5 46 "WordFletchers$TextReader" "value" "I", Cond.methodLink RX5 49 yX5_readOne, Cond.instanceMethod yX5_readOne, Cond.selects RX5 yX5_readOne yX5_readOne, Cond.initialized RX5, Cond.code yX5_readOne cX5_readOne 4 (some .boolean), Cond.fieldLink RX5 61 "WordFletchers$Told" "people" "I", Cond.fieldLink RX5 71 "WordFletchers$Told" "place" "[I", Cond.fieldLink RX5 74 "WordFletchers$Told" "ear" "[I", Cond.methodLink RX5 33 yX5_step, Cond.instanceMethod yX5_step, Cond.selects RX5 yX5_step yX5_step, Cond.code yX5_step cX5_step 1 none, Cond.fieldLink RX5 25 "WordFletchers$TextReader" "next" "I", Cond.fieldLink RX5 21 "WordFletchers$TextReader" "length" "I", Cond.fieldLink RX5 9 "WordFletchers$TextReader" "bytes" "[I", Cond.fieldLink RX5 43 "WordFletchers$TextReader" "start" "I", Cond.methodLink RX5 98 yX5_sortAt, Cond.instanceMethod yX5_sortAt, Cond.selects RX5 yX5_sortAt yX5_sortAt, Cond.code yX5_sortAt cX5_sortAt 3 (some .int), Cond.methodLink RX5 102 yX5_stepOverLetters, Cond.instanceMethod yX5_stepOverLetters]
def wsX5_readItem_r2 : List Cond := [Cond.selects RX5 yX5_stepOverLetters yX5_stepOverLetters, Cond.code yX5_stepOverLetters cX5_stepOverLetters 1 none, Cond.methodLink RX5 105 yX5_stepOverDigits, Cond.instanceMethod yX5_stepOverDigits, Cond.selects RX5 yX5_stepOverDigits yX5_stepOverDigits, Cond.code yX5_stepOverDigits cX5_stepOverDigits 2 none, Cond.methodLink RX5 15 Lib.Math.min.name, Cond.static Lib.Math.min.name, Cond.initialized "java/lang/Math", Cond.code Lib.Math.min.name Lib.Math.min.code 2 (some .int), Cond.methodLink RX5 64 yX5_takeNumber, Cond.instanceMethod yX5_takeNumber, Cond.selects RX5 yX5_takeNumber yX5_takeNumber, Cond.code yX5_takeNumber cX5_takeNumber 4 (some .int), Cond.methodLink RX5 67 yX5_takeSemicolon, Cond.instanceMethod yX5_takeSemicolon, Cond.selects RX5 yX5_takeSemicolon yX5_takeSemicolon, Cond.code yX5_takeSemicolon cX5_takeSemicolon 1 (some .boolean), Cond.methodLink RX5 52 yX5_readSaying, Cond.instanceMethod yX5_readSaying, Cond.selects RX5 yX5_readSaying yX5_readSaying, Cond.code yX5_readSaying cX5_readSaying 5 (some .boolean), Cond.fieldLink RX5 77 "WordFletchers$Told" "sayings" "I", Cond.fieldLink RX5 80 "WordFletchers$Told" "weight" "[I"]
def wsX5_readItem_r3 : List Cond := [Cond.fieldLink RX5 83 "WordFletchers$Told" "twist" "[I", Cond.fieldLink RX5 86 "WordFletchers$Told" "first" "[I", Cond.methodLink RX5 55 yX5_readWinds, Cond.instanceMethod yX5_readWinds, Cond.selects RX5 yX5_readWinds yX5_readWinds, Cond.code yX5_readWinds cX5_readWinds 4 (some .boolean), Cond.fieldLink RX5 89 "WordFletchers$Told" "windsTold" "I", Cond.fieldLink RX5 92 "WordFletchers$Told" "winds" "[I", Cond.methodLink RX5 58 yX5_readFeathers, Cond.instanceMethod yX5_readFeathers, Cond.selects RX5 yX5_readFeathers yX5_readFeathers, Cond.code yX5_readFeathers cX5_readFeathers 4 (some .boolean), Cond.fieldLink RX5 95 "WordFletchers$Told" "feathers" "[I"]
def wsX5_readItem : List Cond := .code yX5_readItem cX5_readItem 2 (some .boolean) :: ((wsX5_readItem_r1 ++ (wsX5_readItem_r2 ++ wsX5_readItem_r3)) ++ wsX50 ++ wsX60)
def wsX5_read_r1 : List Cond := [Cond.fieldLink RX5 9 "WordFletchers$TextReader" "bytes" "[I", Cond.methodLink RX5 15 Lib.Math.min.name, Cond.static Lib.Math.min.name, Cond.initialized "java/lang/Math", Cond.code Lib.Math.min.name Lib.Math.min.code 2 (some .int), Cond.fieldLink RX5 21 "WordFletchers$TextReader" "length" "I", Cond.fieldLink RX5 25 "WordFletchers$TextReader" "next" "I", Cond.fieldLink RX5 36 "WordFletchers$TextReader" "sort" "I", Cond.fieldLink RX5 43 "WordFletchers$TextReader" "start" "I", Cond.methodLink RX5 28 yX6_tellNothing, Cond.instanceMethod yX6_tellNothing, Cond.selects RX6 yX6_tellNothing yX6_tellNothing, Cond.initialized RX6, Cond.code yX6_tellNothing cX6_tellNothing 2 none, Cond.fieldLink RX6 36 "WordFletchers$Told" "people" "I", Cond.fieldLink RX6 40 "WordFletchers$Told" "sayings" "I", Cond.fieldLink RX6 43 "WordFletchers$Told" "windsTold" "I", Cond.fieldLink RX6 27 "WordFletchers$Told" "winds" "[I", Cond.fieldLink RX6 30 "WordFletchers$Told" "feathers" "[I", Cond.methodLink RX5 33 yX5_step, Cond.instanceMethod yX5_step, Cond.selects RX5 yX5_step yX5_step, Cond.initialized RX5, Cond.code yX5_step cX5_step 1 none]
def wsX5_read_r2 : List Cond := [Cond.methodLink RX5 98 yX5_sortAt, Cond.instanceMethod yX5_sortAt, Cond.selects RX5 yX5_sortAt yX5_sortAt, Cond.code yX5_sortAt cX5_sortAt 3 (some .int), Cond.methodLink RX5 102 yX5_stepOverLetters, Cond.instanceMethod yX5_stepOverLetters, Cond.selects RX5 yX5_stepOverLetters yX5_stepOverLetters, Cond.code yX5_stepOverLetters cX5_stepOverLetters 1 none, Cond.fieldLink RX5 46 "WordFletchers$TextReader" "value" "I", Cond.methodLink RX5 105 yX5_stepOverDigits, Cond.instanceMethod yX5_stepOverDigits, Cond.selects RX5 yX5_stepOverDigits yX5_stepOverDigits, Cond.code yX5_stepOverDigits cX5_stepOverDigits 2 none, Cond.methodLink RX5 39 yX5_readItem, Cond.instanceMethod yX5_readItem, Cond.selects RX5 yX5_readItem yX5_readItem, Cond.code yX5_readItem cX5_readItem 2 (some .boolean), Cond.methodLink RX5 49 yX5_readOne, Cond.instanceMethod yX5_readOne, Cond.selects RX5 yX5_readOne yX5_readOne, Cond.code yX5_readOne cX5_readOne 4 (some .boolean), Cond.fieldLink RX5 61 "WordFletchers$Told" "people" "I", Cond.fieldLink RX5 71 "WordFletchers$Told" "place" "[I", Cond.fieldLink RX5 74 "WordFletchers$Told" "ear" "[I"]
def wsX5_read_r3 : List Cond := [Cond.methodLink RX5 64 yX5_takeNumber, Cond.instanceMethod yX5_takeNumber, Cond.selects RX5 yX5_takeNumber yX5_takeNumber, Cond.code yX5_takeNumber cX5_takeNumber 4 (some .int), Cond.methodLink RX5 67 yX5_takeSemicolon, Cond.instanceMethod yX5_takeSemicolon, Cond.selects RX5 yX5_takeSemicolon yX5_takeSemicolon, Cond.code yX5_takeSemicolon cX5_takeSemicolon 1 (some .boolean), Cond.methodLink RX5 52 yX5_readSaying, Cond.instanceMethod yX5_readSaying, Cond.selects RX5 yX5_readSaying yX5_readSaying, Cond.code yX5_readSaying cX5_readSaying 5 (some .boolean), Cond.fieldLink RX5 77 "WordFletchers$Told" "sayings" "I", Cond.fieldLink RX5 80 "WordFletchers$Told" "weight" "[I", Cond.fieldLink RX5 83 "WordFletchers$Told" "twist" "[I", Cond.fieldLink RX5 86 "WordFletchers$Told" "first" "[I", Cond.methodLink RX5 55 yX5_readWinds, Cond.instanceMethod yX5_readWinds, Cond.selects RX5 yX5_readWinds yX5_readWinds, Cond.code yX5_readWinds cX5_readWinds 4 (some .boolean), Cond.fieldLink RX5 89 "WordFletchers$Told" "windsTold" "I", Cond.fieldLink RX5 92 "WordFletchers$Told" "winds" "[I", Cond.methodLink RX5 58 yX5_readFeathers, Cond.instanceMethod yX5_readFeathers]
def wsX5_read_r4 : List Cond := [Cond.selects RX5 yX5_readFeathers yX5_readFeathers, Cond.code yX5_readFeathers cX5_readFeathers 4 (some .boolean), Cond.fieldLink RX5 95 "WordFletchers$Told" "feathers" "[I"]
def wsX5_read : List Cond := .code yX5_read cX5_read 4 (some .int) :: ((wsX5_read_r1 ++ (wsX5_read_r2 ++ (wsX5_read_r3 ++ wsX5_read_r4))) ++ wsX50 ++ wsX60)
def wsX6_init : List Cond := .code yX6_init cX6_init 1 none :: ([.methodLink RX6 3 objectInit, .instanceMethod objectInit, .code objectInit ⟨#[0xb1]⟩ 1 none, .arrayClass .int, .fieldLink RX6 9 "WordFletchers$Told" "place" "[I", .fieldLink RX6 15 "WordFletchers$Told" "ear" "[I", .fieldLink RX6 18 "WordFletchers$Told" "weight" "[I", .fieldLink RX6 21 "WordFletchers$Told" "twist" "[I", .fieldLink RX6 24 "WordFletchers$Told" "first" "[I", .fieldLink RX6 27 "WordFletchers$Told" "winds" "[I", .fieldLink RX6 30 "WordFletchers$Told" "feathers" "[I", .methodLink RX6 33 yX6_tellNothing, .instanceMethod yX6_tellNothing, .selects RX6 yX6_tellNothing yX6_tellNothing, .initialized RX6, .code yX6_tellNothing cX6_tellNothing 2 none, .fieldLink RX6 36 "WordFletchers$Told" "people" "I", .fieldLink RX6 40 "WordFletchers$Told" "sayings" "I", .fieldLink RX6 43 "WordFletchers$Told" "windsTold" "I"] ++ wsX60)
def wsX6_hasOne : List Cond := .code yX6_hasOne cX6_hasOne 2 (some .boolean) :: ([.fieldLink RX6 36 "WordFletchers$Told" "people" "I"] ++ wsX60)
def wsX6_hasSaying : List Cond := .code yX6_hasSaying cX6_hasSaying 2 (some .boolean) :: ([.fieldLink RX6 40 "WordFletchers$Told" "sayings" "I"] ++ wsX60)
def wsX6_isSetOfSayings : List Cond := .code yX6_isSetOfSayings cX6_isSetOfSayings 2 (some .boolean) :: ([.fieldLink RX6 40 "WordFletchers$Told" "sayings" "I"] ++ wsX60)
def wsX6_windCount : List Cond := .code yX6_windCount cX6_windCount 1 (some .int) :: ([.fieldLink RX6 43 "WordFletchers$Told" "windsTold" "I", .methodLink RX6 46 Lib.Math.max.name, .static Lib.Math.max.name, .initialized "java/lang/Math", .code Lib.Math.max.name Lib.Math.max.code 2 (some .int)] ++ wsX60)
def wsX6_windOf : List Cond := .code yX6_windOf cX6_windOf 2 (some .int) :: ([.fieldLink RX6 27 "WordFletchers$Told" "winds" "[I", .methodLink RX6 46 Lib.Math.max.name, .static Lib.Math.max.name, .initialized "java/lang/Math", .code Lib.Math.max.name Lib.Math.max.code 2 (some .int), .methodLink RX6 52 yX6_windCount, .instanceMethod yX6_windCount, .selects RX6 yX6_windCount yX6_windCount, .initialized RX6, .code yX6_windCount cX6_windCount 1 (some .int), .fieldLink RX6 43 "WordFletchers$Told" "windsTold" "I"] ++ wsX60)
def wsX6_flight : List Cond := .code yX6_flight cX6_flight 6 (some .int) :: ([.fieldLink RX6 21 "WordFletchers$Told" "twist" "[I", .fieldLink RX6 18 "WordFletchers$Told" "weight" "[I", .methodLink RX6 46 Lib.Math.max.name, .static Lib.Math.max.name, .initialized "java/lang/Math", .code Lib.Math.max.name Lib.Math.max.code 2 (some .int)] ++ wsX60)
def wsX6_landing : List Cond := .code yX6_landing cX6_landing 13 (some .int) :: ([.fieldLink RX6 9 "WordFletchers$Told" "place" "[I", .methodLink RX6 59 yX6_flight, .instanceMethod yX6_flight, .selects RX6 yX6_flight yX6_flight, .initialized RX6, .code yX6_flight cX6_flight 6 (some .int), .fieldLink RX6 21 "WordFletchers$Told" "twist" "[I", .fieldLink RX6 18 "WordFletchers$Told" "weight" "[I", .methodLink RX6 46 Lib.Math.max.name, .static Lib.Math.max.name, .initialized "java/lang/Math", .code Lib.Math.max.name Lib.Math.max.code 2 (some .int)] ++ wsX60)
def wsX6_landings : List Cond := .code yX6_landings cX6_landings 11 (some .int) :: ([.methodLink RX6 66 yX6_landing, .instanceMethod yX6_landing, .selects RX6 yX6_landing yX6_landing, .initialized RX6, .code yX6_landing cX6_landing 13 (some .int), .fieldLink RX6 9 "WordFletchers$Told" "place" "[I", .methodLink RX6 59 yX6_flight, .instanceMethod yX6_flight, .selects RX6 yX6_flight yX6_flight, .code yX6_flight cX6_flight 6 (some .int), .fieldLink RX6 21 "WordFletchers$Told" "twist" "[I", .fieldLink RX6 18 "WordFletchers$Told" "weight" "[I", .methodLink RX6 46 Lib.Math.max.name, .static Lib.Math.max.name, .initialized "java/lang/Math", .code Lib.Math.max.name Lib.Math.max.code 2 (some .int)] ++ wsX60)
def wsX6_hears : List Cond := .code yX6_hears cX6_hears 3 (some .boolean) :: ([.fieldLink RX6 9 "WordFletchers$Told" "place" "[I", .methodLink RX6 70 Lib.Math.abs.name, .static Lib.Math.abs.name, .initialized "java/lang/Math", .code Lib.Math.abs.name Lib.Math.abs.code 1 (some .int), .fieldLink RX6 15 "WordFletchers$Told" "ear" "[I"] ++ wsX60)
def wsX6_hearers : List Cond := .code yX6_hearers cX6_hearers 5 (some .int) :: ([.fieldLink RX6 36 "WordFletchers$Told" "people" "I", .methodLink RX6 74 yX6_hears, .instanceMethod yX6_hears, .selects RX6 yX6_hears yX6_hears, .initialized RX6, .code yX6_hears cX6_hears 3 (some .boolean), .fieldLink RX6 9 "WordFletchers$Told" "place" "[I", .methodLink RX6 70 Lib.Math.abs.name, .static Lib.Math.abs.name, .initialized "java/lang/Math", .code Lib.Math.abs.name Lib.Math.abs.code 1 (some .int), .fieldLink RX6 15 "WordFletchers$Told" "ear" "[I"] ++ wsX60)
def wsX7_init_r1 : List Cond := [Cond.methodLink RX7 1 objectInit, Cond.instanceMethod objectInit, Cond.code objectInit ⟨#[0xb1]⟩ 1 none, Cond.arrayClass .int, Cond.fieldLink RX7 9 "WordFletchers" "text" "[I", Cond.fieldLink RX7 13 "WordFletchers" "textLength" "I", Cond.classLink RX7 17 RX5, Cond.instantiable RX5 6, Cond.initialized RX5, Cond.fieldLink RX7 22 "WordFletchers" "reader" "LWordFletchers$TextReader;", Cond.classLink RX7 26 RX6, Cond.instantiable RX6 10, Cond.initialized RX6, Cond.fieldLink RX7 29 "WordFletchers" "told" "LWordFletchers$Told;", Cond.fieldLink RX7 33 "WordFletchers" "draft" "LWordFletchers$Told;", Cond.classLink RX7 36 RX2, Cond.instantiable RX2 7, Cond.initialized RX2, Cond.fieldLink RX7 39 "WordFletchers" "moment" "LWordFletchers$Moment;", Cond.classLink RX7 43 RX3, Cond.instantiable RX3 2, Cond.initialized RX3, Cond.fieldLink RX7 46 "WordFletchers" "past" "LWordFletchers$Past;", Cond.classLink RX7 50 RX1]
def wsX7_init_r2 : List Cond := [Cond.fieldLink RX7 52 "WordFletchers" "images" "[LWordFletchers$Image;", Cond.classLink RX7 56 RX4, Cond.instantiable RX4 5, Cond.initialized RX4, Cond.fieldLink RX7 59 "WordFletchers" "sightings" "LWordFletchers$Sightings;", Cond.classLink RX7 63 RX0, Cond.instantiable RX0 6, Cond.initialized RX0, Cond.fieldLink RX7 66 "WordFletchers" "allotment" "LWordFletchers$Allotment;", Cond.fieldLink RX7 70 "WordFletchers" "shotsNeeded" "[I", Cond.fieldLink RX7 73 "WordFletchers" "placesReached" "[I", Cond.fieldLink RX7 76 "WordFletchers" "traced" "J", Cond.instantiable RX1 3, Cond.initialized RX1, Cond.methodLink RX7 19 yX5_init, Cond.instanceMethod yX5_init, Cond.code yX5_init cX5_init 2 none, Cond.methodLink RX5 3 objectInit, Cond.fieldLink RX5 9 "WordFletchers$TextReader" "bytes" "[I", Cond.methodLink RX7 28 yX6_init, Cond.instanceMethod yX6_init, Cond.code yX6_init cX6_init 1 none, Cond.methodLink RX6 3 objectInit, Cond.fieldLink RX6 9 "WordFletchers$Told" "place" "[I"]
def wsX7_init_r3 : List Cond := [Cond.fieldLink RX6 15 "WordFletchers$Told" "ear" "[I", Cond.fieldLink RX6 18 "WordFletchers$Told" "weight" "[I", Cond.fieldLink RX6 21 "WordFletchers$Told" "twist" "[I", Cond.fieldLink RX6 24 "WordFletchers$Told" "first" "[I", Cond.fieldLink RX6 27 "WordFletchers$Told" "winds" "[I", Cond.fieldLink RX6 30 "WordFletchers$Told" "feathers" "[I", Cond.methodLink RX6 33 yX6_tellNothing, Cond.instanceMethod yX6_tellNothing, Cond.selects RX6 yX6_tellNothing yX6_tellNothing, Cond.code yX6_tellNothing cX6_tellNothing 2 none, Cond.fieldLink RX6 36 "WordFletchers$Told" "people" "I", Cond.fieldLink RX6 40 "WordFletchers$Told" "sayings" "I", Cond.fieldLink RX6 43 "WordFletchers$Told" "windsTold" "I", Cond.instanceMethod yX2_init, Cond.code yX2_init cX2_init 1 none, Cond.methodLink RX2 3 objectInit, Cond.fieldLink RX2 9 "WordFletchers$Moment" "feathers" "[I", Cond.fieldLink RX2 15 "WordFletchers$Moment" "knows" "[I", Cond.fieldLink RX2 18 "WordFletchers$Moment" "straySaying" "[I", Cond.fieldLink RX2 21 "WordFletchers$Moment" "strayPlace" "[I", Cond.methodLink RX7 45 yX3_init, Cond.instanceMethod yX3_init, Cond.code yX3_init cX3_init 2 none, Cond.methodLink RX3 3 objectInit]
def wsX7_init_r4 : List Cond := [Cond.classLink RX3 9 RX2, Cond.fieldLink RX3 11 "WordFletchers$Past" "moments" "[LWordFletchers$Moment;", Cond.fieldLink RX3 17 "WordFletchers$Past" "known" "I", Cond.instanceMethod yX4_init, Cond.code yX4_init cX4_init 1 none, Cond.methodLink RX4 3 objectInit, Cond.fieldLink RX4 9 "WordFletchers$Sightings" "saying" "[I", Cond.fieldLink RX4 15 "WordFletchers$Sightings" "place" "[I", Cond.fieldLink RX4 18 "WordFletchers$Sightings" "wind" "[I", Cond.fieldLink RX4 21 "WordFletchers$Sightings" "damp" "[I", Cond.fieldLink RX4 24 "WordFletchers$Sightings" "size" "I", Cond.instanceMethod yX0_init, Cond.code yX0_init cX0_init 1 none, Cond.methodLink RX0 3 objectInit, Cond.fieldLink RX0 9 "WordFletchers$Allotment" "saying" "[I", Cond.fieldLink RX0 15 "WordFletchers$Allotment" "fewest" "[I", Cond.fieldLink RX0 18 "WordFletchers$Allotment" "used" "[I", Cond.fieldLink RX0 21 "WordFletchers$Allotment" "members" "I", Cond.instanceMethod yX1_init, Cond.code yX1_init cX1_init 1 none, Cond.methodLink RX1 1 objectInit, Cond.classLink RX1 7 RX2, Cond.fieldLink RX1 10 "WordFletchers$Image" "moment" "LWordFletchers$Moment;", Cond.classLink RX1 16 RX3]
def wsX7_init_r5 : List Cond := [Cond.fieldLink RX1 19 "WordFletchers$Image" "past" "LWordFletchers$Past;", Cond.fieldLink RX1 23 "WordFletchers$Image" "kept" "Z", Cond.methodLink RX1 18 yX3_init, Cond.methodLink RX7 81 yX2_begin, Cond.instanceMethod yX2_begin, Cond.selects RX2 yX2_begin yX2_begin, Cond.code yX2_begin cX2_begin 3 none, Cond.fieldLink RX2 24 "WordFletchers$Moment" "hour" "I", Cond.fieldLink RX2 28 "WordFletchers$Moment" "damp" "I", Cond.fieldLink RX2 31 "WordFletchers$Moment" "strays" "I", Cond.fieldLink RX2 34 "WordFletchers$Told" "feathers" "[I", Cond.fieldLink RX2 37 "WordFletchers$Told" "sayings" "I", Cond.fieldLink RX2 40 "WordFletchers$Told" "first" "[I", Cond.methodLink RX2 43 yX2_tell, Cond.instanceMethod yX2_tell, Cond.selects RX2 yX2_tell yX2_tell, Cond.code yX2_tell cX2_tell 4 none, Cond.static yX7_isIn, Cond.initialized RX7, Cond.code yX7_isIn cX7_isIn 2 (some .boolean)]
def wsX7_init : List Cond := .code yX7_init cX7_init 2 none :: ((wsX7_init_r1 ++ (wsX7_init_r2 ++ (wsX7_init_r3 ++ (wsX7_init_r4 ++ wsX7_init_r5)))) ++ wsX70 ++ wsX50 ++ wsX60 ++ wsX20 ++ wsX30 ++ wsX40 ++ wsX00 ++ wsX10)
def wsX7_type : List Cond := .code yX7_type cX7_type 2 (some .int) :: ([.fieldLink RX7 13 "WordFletchers" "textLength" "I", .fieldLink RX7 9 "WordFletchers" "text" "[I"] ++ wsX70)
def wsX7_clear : List Cond := .code yX7_clear cX7_clear 2 (some .int) :: ([.fieldLink RX7 13 "WordFletchers" "textLength" "I"] ++ wsX70)
def wsX7_beginAnew_r1 : List Cond := [Cond.fieldLink RX7 39 "WordFletchers" "moment" "LWordFletchers$Moment;", Cond.fieldLink RX7 29 "WordFletchers" "told" "LWordFletchers$Told;", Cond.fieldLink RX7 46 "WordFletchers" "past" "LWordFletchers$Past;", Cond.fieldLink RX7 185 "WordFletchers$Past" "known" "I", Cond.fieldLink RX7 59 "WordFletchers" "sightings" "LWordFletchers$Sightings;", Cond.fieldLink RX7 251 "WordFletchers$Sightings" "size" "I", Cond.fieldLink RX7 52 "WordFletchers" "images" "[LWordFletchers$Image;", Cond.fieldLink RX7 291 "WordFletchers$Image" "kept" "Z", Cond.methodLink RX7 81 yX2_begin, Cond.instanceMethod yX2_begin, Cond.selects RX2 yX2_begin yX2_begin, Cond.initialized RX2, Cond.code yX2_begin cX2_begin 3 none, Cond.fieldLink RX2 24 "WordFletchers$Moment" "hour" "I", Cond.fieldLink RX2 28 "WordFletchers$Moment" "damp" "I", Cond.fieldLink RX2 31 "WordFletchers$Moment" "strays" "I", Cond.fieldLink RX2 9 "WordFletchers$Moment" "feathers" "[I", Cond.fieldLink RX2 34 "WordFletchers$Told" "feathers" "[I", Cond.fieldLink RX2 15 "WordFletchers$Moment" "knows" "[I", Cond.fieldLink RX2 37 "WordFletchers$Told" "sayings" "I", Cond.fieldLink RX2 40 "WordFletchers$Told" "first" "[I", Cond.methodLink RX2 43 yX2_tell, Cond.instanceMethod yX2_tell, Cond.selects RX2 yX2_tell yX2_tell]
def wsX7_beginAnew_r2 : List Cond := [Cond.code yX2_tell cX2_tell 4 none, Cond.static yX7_isIn, Cond.initialized RX7, Cond.code yX7_isIn cX7_isIn 2 (some .boolean)]
def wsX7_beginAnew : List Cond := .code yX7_beginAnew cX7_beginAnew 2 none :: ((wsX7_beginAnew_r1 ++ wsX7_beginAnew_r2) ++ wsX70 ++ wsX30 ++ wsX40 ++ wsX10 ++ wsX20 ++ wsX60)
def wsX7_uplands_r1 : List Cond := [Cond.fieldLink RX7 22 "WordFletchers" "reader" "LWordFletchers$TextReader;", Cond.fieldLink RX7 13 "WordFletchers" "textLength" "I", Cond.fieldLink RX7 33 "WordFletchers" "draft" "LWordFletchers$Told;", Cond.fieldLink RX7 29 "WordFletchers" "told" "LWordFletchers$Told;", Cond.methodLink RX7 85 yX5_read, Cond.instanceMethod yX5_read, Cond.selects RX5 yX5_read yX5_read, Cond.initialized RX5, Cond.code yX5_read cX5_read 4 (some .int), Cond.fieldLink RX5 9 "WordFletchers$TextReader" "bytes" "[I", Cond.methodLink RX5 15 Lib.Math.min.name, Cond.static Lib.Math.min.name, Cond.initialized "java/lang/Math", Cond.code Lib.Math.min.name Lib.Math.min.code 2 (some .int), Cond.fieldLink RX5 21 "WordFletchers$TextReader" "length" "I", Cond.fieldLink RX5 25 "WordFletchers$TextReader" "next" "I", Cond.fieldLink RX5 36 "WordFletchers$TextReader" "sort" "I", Cond.fieldLink RX5 43 "WordFletchers$TextReader" "start" "I", Cond.methodLink RX5 28 yX6_tellNothing, Cond.instanceMethod yX6_tellNothing, Cond.selects RX6 yX6_tellNothing yX6_tellNothing, Cond.initialized RX6, Cond.code yX6_tellNothing cX6_tellNothing 2 none, Cond.fieldLink RX6 36 "WordFletchers$Told" "people" "I"]
def wsX7_uplands_r2 : List Cond := [Cond.fieldLink RX6 40 "WordFletchers$Told" "sayings" "I", Cond.fieldLink RX6 43 "WordFletchers$Told" "windsTold" "I", Cond.fieldLink RX6 27 "WordFletchers$Told" "winds" "[I", Cond.fieldLink RX6 30 "WordFletchers$Told" "feathers" "[I", Cond.methodLink RX5 33 yX5_step, Cond.instanceMethod yX5_step, Cond.selects RX5 yX5_step yX5_step, Cond.code yX5_step cX5_step 1 none, Cond.methodLink RX5 98 yX5_sortAt, Cond.instanceMethod yX5_sortAt, Cond.selects RX5 yX5_sortAt yX5_sortAt, Cond.code yX5_sortAt cX5_sortAt 3 (some .int), Cond.methodLink RX5 102 yX5_stepOverLetters, Cond.instanceMethod yX5_stepOverLetters, Cond.selects RX5 yX5_stepOverLetters yX5_stepOverLetters, Cond.code yX5_stepOverLetters cX5_stepOverLetters 1 none, Cond.fieldLink RX5 46 "WordFletchers$TextReader" "value" "I", Cond.methodLink RX5 105 yX5_stepOverDigits, Cond.instanceMethod yX5_stepOverDigits, Cond.selects RX5 yX5_stepOverDigits yX5_stepOverDigits, Cond.code yX5_stepOverDigits cX5_stepOverDigits 2 none, Cond.methodLink RX5 39 yX5_readItem, Cond.instanceMethod yX5_readItem, Cond.selects RX5 yX5_readItem yX5_readItem]
def wsX7_uplands_r3 : List Cond := [Cond.code yX5_readItem cX5_readItem 2 (some .boolean), Cond.methodLink RX5 49 yX5_readOne, Cond.instanceMethod yX5_readOne, Cond.selects RX5 yX5_readOne yX5_readOne, Cond.code yX5_readOne cX5_readOne 4 (some .boolean), Cond.fieldLink RX5 61 "WordFletchers$Told" "people" "I", Cond.fieldLink RX5 71 "WordFletchers$Told" "place" "[I", Cond.fieldLink RX5 74 "WordFletchers$Told" "ear" "[I", Cond.methodLink RX5 64 yX5_takeNumber, Cond.instanceMethod yX5_takeNumber, Cond.selects RX5 yX5_takeNumber yX5_takeNumber, Cond.code yX5_takeNumber cX5_takeNumber 4 (some .int), Cond.methodLink RX5 67 yX5_takeSemicolon, Cond.instanceMethod yX5_takeSemicolon, Cond.selects RX5 yX5_takeSemicolon yX5_takeSemicolon, Cond.code yX5_takeSemicolon cX5_takeSemicolon 1 (some .boolean), Cond.methodLink RX5 52 yX5_readSaying, Cond.instanceMethod yX5_readSaying, Cond.selects RX5 yX5_readSaying yX5_readSaying, Cond.code yX5_readSaying cX5_readSaying 5 (some .boolean), Cond.fieldLink RX5 77 "WordFletchers$Told" "sayings" "I", Cond.fieldLink RX5 80 "WordFletchers$Told" "weight" "[I", Cond.fieldLink RX5 83 "WordFletchers$Told" "twist" "[I", Cond.fieldLink RX5 86 "WordFletchers$Told" "first" "[I"]
def wsX7_uplands_r4 : List Cond := [Cond.methodLink RX5 55 yX5_readWinds, Cond.instanceMethod yX5_readWinds, Cond.selects RX5 yX5_readWinds yX5_readWinds, Cond.code yX5_readWinds cX5_readWinds 4 (some .boolean), Cond.fieldLink RX5 89 "WordFletchers$Told" "windsTold" "I", Cond.fieldLink RX5 92 "WordFletchers$Told" "winds" "[I", Cond.methodLink RX5 58 yX5_readFeathers, Cond.instanceMethod yX5_readFeathers, Cond.selects RX5 yX5_readFeathers yX5_readFeathers, Cond.code yX5_readFeathers cX5_readFeathers 4 (some .boolean), Cond.fieldLink RX5 95 "WordFletchers$Told" "feathers" "[I", Cond.methodLink RX7 89 yX7_beginAnew, Cond.instanceMethod yX7_beginAnew, Cond.selects RX7 yX7_beginAnew yX7_beginAnew, Cond.initialized RX7, Cond.code yX7_beginAnew cX7_beginAnew 2 none, Cond.fieldLink RX7 39 "WordFletchers" "moment" "LWordFletchers$Moment;", Cond.fieldLink RX7 46 "WordFletchers" "past" "LWordFletchers$Past;", Cond.fieldLink RX7 185 "WordFletchers$Past" "known" "I", Cond.fieldLink RX7 59 "WordFletchers" "sightings" "LWordFletchers$Sightings;", Cond.fieldLink RX7 251 "WordFletchers$Sightings" "size" "I", Cond.fieldLink RX7 52 "WordFletchers" "images" "[LWordFletchers$Image;", Cond.fieldLink RX7 291 "WordFletchers$Image" "kept" "Z", Cond.methodLink RX7 81 yX2_begin]
def wsX7_uplands_r5 : List Cond := [Cond.instanceMethod yX2_begin, Cond.selects RX2 yX2_begin yX2_begin, Cond.initialized RX2, Cond.code yX2_begin cX2_begin 3 none, Cond.fieldLink RX2 24 "WordFletchers$Moment" "hour" "I", Cond.fieldLink RX2 28 "WordFletchers$Moment" "damp" "I", Cond.fieldLink RX2 31 "WordFletchers$Moment" "strays" "I", Cond.fieldLink RX2 9 "WordFletchers$Moment" "feathers" "[I", Cond.fieldLink RX2 34 "WordFletchers$Told" "feathers" "[I", Cond.fieldLink RX2 15 "WordFletchers$Moment" "knows" "[I", Cond.fieldLink RX2 37 "WordFletchers$Told" "sayings" "I", Cond.fieldLink RX2 40 "WordFletchers$Told" "first" "[I", Cond.methodLink RX2 43 yX2_tell, Cond.instanceMethod yX2_tell, Cond.selects RX2 yX2_tell yX2_tell, Cond.code yX2_tell cX2_tell 4 none, Cond.static yX7_isIn, Cond.code yX7_isIn cX7_isIn 2 (some .boolean)]
def wsX7_uplands : List Cond := .code yX7_uplands cX7_uplands 3 (some .int) :: ((wsX7_uplands_r1 ++ (wsX7_uplands_r2 ++ (wsX7_uplands_r3 ++ (wsX7_uplands_r4 ++ wsX7_uplands_r5)))) ++ wsX70 ++ wsX50 ++ wsX60 ++ wsX30 ++ wsX40 ++ wsX10 ++ wsX20)
def wsX7_one : List Cond := .code yX7_one cX7_one 3 (some .int) :: ([.fieldLink RX7 29 "WordFletchers" "told" "LWordFletchers$Told;", .fieldLink RX7 96 "WordFletchers$Told" "place" "[I", .fieldLink RX7 99 "WordFletchers$Told" "ear" "[I", .fieldLink RX7 39 "WordFletchers" "moment" "LWordFletchers$Moment;", .fieldLink RX7 102 "WordFletchers$Moment" "knows" "[I", .methodLink RX7 92 yX6_hasOne, .instanceMethod yX6_hasOne, .selects RX6 yX6_hasOne yX6_hasOne, .initialized RX6, .code yX6_hasOne cX6_hasOne 2 (some .boolean), .fieldLink RX6 36 "WordFletchers$Told" "people" "I"] ++ wsX70 ++ wsX60 ++ wsX20)
def wsX7_saying : List Cond := .code yX7_saying cX7_saying 3 (some .int) :: ([.fieldLink RX7 29 "WordFletchers" "told" "LWordFletchers$Told;", .fieldLink RX7 108 "WordFletchers$Told" "weight" "[I", .fieldLink RX7 111 "WordFletchers$Told" "twist" "[I", .fieldLink RX7 114 "WordFletchers$Told" "first" "[I", .fieldLink RX7 39 "WordFletchers" "moment" "LWordFletchers$Moment;", .methodLink RX7 105 yX6_hasSaying, .instanceMethod yX6_hasSaying, .selects RX6 yX6_hasSaying yX6_hasSaying, .initialized RX6, .code yX6_hasSaying cX6_hasSaying 2 (some .boolean), .fieldLink RX6 40 "WordFletchers$Told" "sayings" "I", .methodLink RX7 117 yX2_whoKnows, .instanceMethod yX2_whoKnows, .selects RX2 yX2_whoKnows yX2_whoKnows, .initialized RX2, .code yX2_whoKnows cX2_whoKnows 4 (some .int), .methodLink RX2 57 yX2_isKnown, .instanceMethod yX2_isKnown, .selects RX2 yX2_isKnown yX2_isKnown, .code yX2_isKnown cX2_isKnown 3 (some .boolean), .fieldLink RX2 15 "WordFletchers$Moment" "knows" "[I", .static yX7_isIn, .initialized RX7, .code yX7_isIn cX7_isIn 2 (some .boolean)] ++ wsX70 ++ wsX60 ++ wsX20)
def wsX7_windIn : List Cond := .code yX7_windIn cX7_windIn 2 (some .int) :: ([.fieldLink RX7 29 "WordFletchers" "told" "LWordFletchers$Told;", .fieldLink RX7 39 "WordFletchers" "moment" "LWordFletchers$Moment;", .fieldLink RX7 174 "WordFletchers$Moment" "hour" "I", .methodLink RX7 301 yX6_windOf, .instanceMethod yX6_windOf, .selects RX6 yX6_windOf yX6_windOf, .initialized RX6, .code yX6_windOf cX6_windOf 2 (some .int), .fieldLink RX6 27 "WordFletchers$Told" "winds" "[I", .methodLink RX6 46 Lib.Math.max.name, .static Lib.Math.max.name, .initialized "java/lang/Math", .code Lib.Math.max.name Lib.Math.max.code 2 (some .int), .methodLink RX6 52 yX6_windCount, .instanceMethod yX6_windCount, .selects RX6 yX6_windCount yX6_windCount, .code yX6_windCount cX6_windCount 1 (some .int), .fieldLink RX6 43 "WordFletchers$Told" "windsTold" "I"] ++ wsX70 ++ wsX20 ++ wsX60)
def wsX7_wind : List Cond := .code yX7_wind cX7_wind 2 (some .int) :: ([.constant RX7 121 (-1000000), .methodLink RX7 122 yX7_windIn, .instanceMethod yX7_windIn, .selects RX7 yX7_windIn yX7_windIn, .initialized RX7, .code yX7_windIn cX7_windIn 2 (some .int), .fieldLink RX7 29 "WordFletchers" "told" "LWordFletchers$Told;", .fieldLink RX7 39 "WordFletchers" "moment" "LWordFletchers$Moment;", .fieldLink RX7 174 "WordFletchers$Moment" "hour" "I", .methodLink RX7 301 yX6_windOf, .instanceMethod yX6_windOf, .selects RX6 yX6_windOf yX6_windOf, .initialized RX6, .code yX6_windOf cX6_windOf 2 (some .int), .fieldLink RX6 27 "WordFletchers$Told" "winds" "[I", .methodLink RX6 46 Lib.Math.max.name, .static Lib.Math.max.name, .initialized "java/lang/Math", .code Lib.Math.max.name Lib.Math.max.code 2 (some .int), .methodLink RX6 52 yX6_windCount, .instanceMethod yX6_windCount, .selects RX6 yX6_windCount yX6_windCount, .code yX6_windCount cX6_windCount 1 (some .int), .fieldLink RX6 43 "WordFletchers$Told" "windsTold" "I"] ++ wsX70 ++ wsX20 ++ wsX60)
def wsX7_stray : List Cond := .code yX7_stray cX7_stray 3 (some .int) :: ([.fieldLink RX7 39 "WordFletchers" "moment" "LWordFletchers$Moment;", .fieldLink RX7 125 "WordFletchers$Moment" "strays" "I", .fieldLink RX7 128 "WordFletchers$Moment" "straySaying" "[I", .fieldLink RX7 131 "WordFletchers$Moment" "strayPlace" "[I"] ++ wsX70 ++ wsX20)
def wsX7_isLetOff : List Cond := .code yX7_isLetOff cX7_isLetOff 6 (some .boolean) :: ([.fieldLink RX7 29 "WordFletchers" "told" "LWordFletchers$Told;", .methodLink RX7 92 yX6_hasOne, .instanceMethod yX6_hasOne, .selects RX6 yX6_hasOne yX6_hasOne, .initialized RX6, .code yX6_hasOne cX6_hasOne 2 (some .boolean), .fieldLink RX6 36 "WordFletchers$Told" "people" "I", .methodLink RX7 105 yX6_hasSaying, .instanceMethod yX6_hasSaying, .selects RX6 yX6_hasSaying yX6_hasSaying, .code yX6_hasSaying cX6_hasSaying 2 (some .boolean), .fieldLink RX6 40 "WordFletchers$Told" "sayings" "I"] ++ wsX70 ++ wsX60)
def wsX7_shotOf : List Cond := .code yX7_shotOf cX7_shotOf 3 (some .int) :: ([])
def wsX7_landingNow_r1 : List Cond := [Cond.fieldLink RX7 29 "WordFletchers" "told" "LWordFletchers$Told;", Cond.fieldLink RX7 39 "WordFletchers" "moment" "LWordFletchers$Moment;", Cond.fieldLink RX7 177 "WordFletchers$Moment" "damp" "I", Cond.methodLink RX7 122 yX7_windIn, Cond.instanceMethod yX7_windIn, Cond.selects RX7 yX7_windIn yX7_windIn, Cond.initialized RX7, Cond.code yX7_windIn cX7_windIn 2 (some .int), Cond.fieldLink RX7 174 "WordFletchers$Moment" "hour" "I", Cond.methodLink RX7 301 yX6_windOf, Cond.instanceMethod yX6_windOf, Cond.selects RX6 yX6_windOf yX6_windOf, Cond.initialized RX6, Cond.code yX6_windOf cX6_windOf 2 (some .int), Cond.fieldLink RX6 27 "WordFletchers$Told" "winds" "[I", Cond.methodLink RX6 46 Lib.Math.max.name, Cond.static Lib.Math.max.name, Cond.initialized "java/lang/Math", Cond.code Lib.Math.max.name Lib.Math.max.code 2 (some .int), Cond.methodLink RX6 52 yX6_windCount, Cond.instanceMethod yX6_windCount, Cond.selects RX6 yX6_windCount yX6_windCount, Cond.code yX6_windCount cX6_windCount 1 (some .int), Cond.fieldLink RX6 43 "WordFletchers$Told" "windsTold" "I"]
def wsX7_landingNow_r2 : List Cond := [Cond.methodLink RX7 203 yX6_landing, Cond.instanceMethod yX6_landing, Cond.selects RX6 yX6_landing yX6_landing, Cond.code yX6_landing cX6_landing 13 (some .int), Cond.fieldLink RX6 9 "WordFletchers$Told" "place" "[I", Cond.methodLink RX6 59 yX6_flight, Cond.instanceMethod yX6_flight, Cond.selects RX6 yX6_flight yX6_flight, Cond.code yX6_flight cX6_flight 6 (some .int), Cond.fieldLink RX6 21 "WordFletchers$Told" "twist" "[I", Cond.fieldLink RX6 18 "WordFletchers$Told" "weight" "[I"]
def wsX7_landingNow : List Cond := .code yX7_landingNow cX7_landingNow 4 (some .int) :: ((wsX7_landingNow_r1 ++ wsX7_landingNow_r2) ++ wsX70 ++ wsX20 ++ wsX60)
def wsX7_lets_r1 : List Cond := [Cond.fieldLink RX7 39 "WordFletchers" "moment" "LWordFletchers$Moment;", Cond.fieldLink RX7 142 "WordFletchers$Moment" "feathers" "[I", Cond.fieldLink RX7 29 "WordFletchers" "told" "LWordFletchers$Told;", Cond.fieldLink RX7 46 "WordFletchers" "past" "LWordFletchers$Past;", Cond.methodLink RX7 134 yX7_isLetOff, Cond.instanceMethod yX7_isLetOff, Cond.selects RX7 yX7_isLetOff yX7_isLetOff, Cond.initialized RX7, Cond.code yX7_isLetOff cX7_isLetOff 6 (some .boolean), Cond.methodLink RX7 92 yX6_hasOne, Cond.instanceMethod yX6_hasOne, Cond.selects RX6 yX6_hasOne yX6_hasOne, Cond.initialized RX6, Cond.code yX6_hasOne cX6_hasOne 2 (some .boolean), Cond.fieldLink RX6 36 "WordFletchers$Told" "people" "I", Cond.methodLink RX7 105 yX6_hasSaying, Cond.instanceMethod yX6_hasSaying, Cond.selects RX6 yX6_hasSaying yX6_hasSaying, Cond.code yX6_hasSaying cX6_hasSaying 2 (some .boolean), Cond.fieldLink RX6 40 "WordFletchers$Told" "sayings" "I", Cond.methodLink RX7 138 yX2_isKnown, Cond.instanceMethod yX2_isKnown, Cond.selects RX2 yX2_isKnown yX2_isKnown, Cond.initialized RX2]
def wsX7_lets_r2 : List Cond := [Cond.code yX2_isKnown cX2_isKnown 3 (some .boolean), Cond.fieldLink RX2 15 "WordFletchers$Moment" "knows" "[I", Cond.static yX7_isIn, Cond.code yX7_isIn cX7_isIn 2 (some .boolean), Cond.methodLink RX7 145 yX7_shotOf, Cond.static yX7_shotOf, Cond.code yX7_shotOf cX7_shotOf 3 (some .int), Cond.methodLink RX7 149 yX7_landingNow, Cond.instanceMethod yX7_landingNow, Cond.selects RX7 yX7_landingNow yX7_landingNow, Cond.code yX7_landingNow cX7_landingNow 4 (some .int), Cond.fieldLink RX7 177 "WordFletchers$Moment" "damp" "I", Cond.methodLink RX7 122 yX7_windIn, Cond.instanceMethod yX7_windIn, Cond.selects RX7 yX7_windIn yX7_windIn, Cond.code yX7_windIn cX7_windIn 2 (some .int), Cond.fieldLink RX7 174 "WordFletchers$Moment" "hour" "I", Cond.methodLink RX7 301 yX6_windOf, Cond.instanceMethod yX6_windOf, Cond.selects RX6 yX6_windOf yX6_windOf, Cond.code yX6_windOf cX6_windOf 2 (some .int), Cond.fieldLink RX6 27 "WordFletchers$Told" "winds" "[I", Cond.methodLink RX6 46 Lib.Math.max.name, Cond.static Lib.Math.max.name]
def wsX7_lets_r3 : List Cond := [Cond.initialized "java/lang/Math", Cond.code Lib.Math.max.name Lib.Math.max.code 2 (some .int), Cond.methodLink RX6 52 yX6_windCount, Cond.instanceMethod yX6_windCount, Cond.selects RX6 yX6_windCount yX6_windCount, Cond.code yX6_windCount cX6_windCount 1 (some .int), Cond.fieldLink RX6 43 "WordFletchers$Told" "windsTold" "I", Cond.methodLink RX7 203 yX6_landing, Cond.instanceMethod yX6_landing, Cond.selects RX6 yX6_landing yX6_landing, Cond.code yX6_landing cX6_landing 13 (some .int), Cond.fieldLink RX6 9 "WordFletchers$Told" "place" "[I", Cond.methodLink RX6 59 yX6_flight, Cond.instanceMethod yX6_flight, Cond.selects RX6 yX6_flight yX6_flight, Cond.code yX6_flight cX6_flight 6 (some .int), Cond.fieldLink RX6 21 "WordFletchers$Told" "twist" "[I", Cond.fieldLink RX6 18 "WordFletchers$Told" "weight" "[I", Cond.methodLink RX7 152 yX6_hearers, Cond.instanceMethod yX6_hearers, Cond.selects RX6 yX6_hearers yX6_hearers, Cond.code yX6_hearers cX6_hearers 5 (some .int), Cond.methodLink RX6 74 yX6_hears, Cond.instanceMethod yX6_hears]
def wsX7_lets_r4 : List Cond := [Cond.selects RX6 yX6_hears yX6_hears, Cond.code yX6_hears cX6_hears 3 (some .boolean), Cond.methodLink RX6 70 Lib.Math.abs.name, Cond.static Lib.Math.abs.name, Cond.code Lib.Math.abs.name Lib.Math.abs.code 1 (some .int), Cond.fieldLink RX6 15 "WordFletchers$Told" "ear" "[I", Cond.methodLink RX7 156 yX3_remember, Cond.instanceMethod yX3_remember, Cond.selects RX3 yX3_remember yX3_remember, Cond.initialized RX3, Cond.code yX3_remember cX3_remember 2 none, Cond.fieldLink RX3 17 "WordFletchers$Past" "known" "I", Cond.fieldLink RX3 11 "WordFletchers$Past" "moments" "[LWordFletchers$Moment;", Cond.methodLink RX3 22 yX3_loseOldest, Cond.instanceMethod yX3_loseOldest, Cond.selects RX3 yX3_loseOldest yX3_loseOldest, Cond.code yX3_loseOldest cX3_loseOldest 3 none, Cond.methodLink RX3 25 yX2_become, Cond.instanceMethod yX2_become, Cond.selects RX2 yX2_become yX2_become, Cond.code yX2_become cX2_become 2 none, Cond.fieldLink RX2 24 "WordFletchers$Moment" "hour" "I", Cond.fieldLink RX2 28 "WordFletchers$Moment" "damp" "I", Cond.fieldLink RX2 31 "WordFletchers$Moment" "strays" "I"]
def wsX7_lets_r5 : List Cond := [Cond.fieldLink RX2 9 "WordFletchers$Moment" "feathers" "[I", Cond.methodLink RX2 47 arraycopyName, Cond.native arraycopyName, Cond.static arraycopyName, Cond.initialized "java/lang/System", Cond.fieldLink RX2 18 "WordFletchers$Moment" "straySaying" "[I", Cond.fieldLink RX2 21 "WordFletchers$Moment" "strayPlace" "[I", Cond.methodLink RX7 160 yX2_tell, Cond.instanceMethod yX2_tell, Cond.selects RX2 yX2_tell yX2_tell, Cond.code yX2_tell cX2_tell 4 none, Cond.methodLink RX7 164 yX2_addStray, Cond.instanceMethod yX2_addStray, Cond.selects RX2 yX2_addStray yX2_addStray, Cond.code yX2_addStray cX2_addStray 3 none, Cond.methodLink RX2 60 yX2_removeStray, Cond.instanceMethod yX2_removeStray, Cond.selects RX2 yX2_removeStray yX2_removeStray, Cond.code yX2_removeStray cX2_removeStray 3 none]
def wsX7_lets : List Cond := .code yX7_lets cX7_lets 8 (some .int) :: ((wsX7_lets_r1 ++ (wsX7_lets_r2 ++ (wsX7_lets_r3 ++ (wsX7_lets_r4 ++ wsX7_lets_r5)))) ++ wsX70 ++ wsX20 ++ wsX60 ++ wsX30)
def wsX7_picks_r1 : List Cond := [Cond.fieldLink RX7 29 "WordFletchers" "told" "LWordFletchers$Told;", Cond.fieldLink RX7 39 "WordFletchers" "moment" "LWordFletchers$Moment;", Cond.fieldLink RX7 96 "WordFletchers$Told" "place" "[I", Cond.fieldLink RX7 46 "WordFletchers" "past" "LWordFletchers$Past;", Cond.fieldLink RX7 128 "WordFletchers$Moment" "straySaying" "[I", Cond.methodLink RX7 92 yX6_hasOne, Cond.instanceMethod yX6_hasOne, Cond.selects RX6 yX6_hasOne yX6_hasOne, Cond.initialized RX6, Cond.code yX6_hasOne cX6_hasOne 2 (some .boolean), Cond.fieldLink RX6 36 "WordFletchers$Told" "people" "I", Cond.methodLink RX7 167 yX2_longestStrayAt, Cond.instanceMethod yX2_longestStrayAt, Cond.selects RX2 yX2_longestStrayAt yX2_longestStrayAt, Cond.initialized RX2, Cond.code yX2_longestStrayAt cX2_longestStrayAt 3 (some .int), Cond.fieldLink RX2 31 "WordFletchers$Moment" "strays" "I", Cond.fieldLink RX2 21 "WordFletchers$Moment" "strayPlace" "[I", Cond.methodLink RX7 156 yX3_remember, Cond.instanceMethod yX3_remember, Cond.selects RX3 yX3_remember yX3_remember, Cond.initialized RX3, Cond.code yX3_remember cX3_remember 2 none, Cond.fieldLink RX3 17 "WordFletchers$Past" "known" "I"]
def wsX7_picks_r2 : List Cond := [Cond.fieldLink RX3 11 "WordFletchers$Past" "moments" "[LWordFletchers$Moment;", Cond.methodLink RX3 22 yX3_loseOldest, Cond.instanceMethod yX3_loseOldest, Cond.selects RX3 yX3_loseOldest yX3_loseOldest, Cond.code yX3_loseOldest cX3_loseOldest 3 none, Cond.methodLink RX3 25 yX2_become, Cond.instanceMethod yX2_become, Cond.selects RX2 yX2_become yX2_become, Cond.code yX2_become cX2_become 2 none, Cond.fieldLink RX2 24 "WordFletchers$Moment" "hour" "I", Cond.fieldLink RX2 28 "WordFletchers$Moment" "damp" "I", Cond.fieldLink RX2 9 "WordFletchers$Moment" "feathers" "[I", Cond.methodLink RX2 47 arraycopyName, Cond.native arraycopyName, Cond.static arraycopyName, Cond.initialized "java/lang/System", Cond.fieldLink RX2 15 "WordFletchers$Moment" "knows" "[I", Cond.fieldLink RX2 18 "WordFletchers$Moment" "straySaying" "[I", Cond.methodLink RX7 170 yX2_removeStray, Cond.instanceMethod yX2_removeStray, Cond.selects RX2 yX2_removeStray yX2_removeStray, Cond.code yX2_removeStray cX2_removeStray 3 none, Cond.methodLink RX7 160 yX2_tell, Cond.instanceMethod yX2_tell]
def wsX7_picks_r3 : List Cond := [Cond.selects RX2 yX2_tell yX2_tell, Cond.code yX2_tell cX2_tell 4 none, Cond.static yX7_isIn, Cond.initialized RX7, Cond.code yX7_isIn cX7_isIn 2 (some .boolean)]
def wsX7_picks : List Cond := .code yX7_picks cX7_picks 4 (some .int) :: ((wsX7_picks_r1 ++ (wsX7_picks_r2 ++ wsX7_picks_r3)) ++ wsX70 ++ wsX60 ++ wsX20 ++ wsX30)
def wsX7_hours_r1 : List Cond := [Cond.fieldLink RX7 39 "WordFletchers" "moment" "LWordFletchers$Moment;", Cond.fieldLink RX7 174 "WordFletchers$Moment" "hour" "I", Cond.fieldLink RX7 46 "WordFletchers" "past" "LWordFletchers$Past;", Cond.methodLink RX7 156 yX3_remember, Cond.instanceMethod yX3_remember, Cond.selects RX3 yX3_remember yX3_remember, Cond.initialized RX3, Cond.code yX3_remember cX3_remember 2 none, Cond.fieldLink RX3 17 "WordFletchers$Past" "known" "I", Cond.fieldLink RX3 11 "WordFletchers$Past" "moments" "[LWordFletchers$Moment;", Cond.methodLink RX3 22 yX3_loseOldest, Cond.instanceMethod yX3_loseOldest, Cond.selects RX3 yX3_loseOldest yX3_loseOldest, Cond.code yX3_loseOldest cX3_loseOldest 3 none, Cond.methodLink RX3 25 yX2_become, Cond.instanceMethod yX2_become, Cond.selects RX2 yX2_become yX2_become, Cond.initialized RX2, Cond.code yX2_become cX2_become 2 none, Cond.fieldLink RX2 24 "WordFletchers$Moment" "hour" "I", Cond.fieldLink RX2 28 "WordFletchers$Moment" "damp" "I", Cond.fieldLink RX2 31 "WordFletchers$Moment" "strays" "I", Cond.fieldLink RX2 9 "WordFletchers$Moment" "feathers" "[I", Cond.methodLink RX2 47 arraycopyName]
def wsX7_hours_r2 : List Cond := [Cond.native arraycopyName, Cond.static arraycopyName, Cond.initialized "java/lang/System", Cond.fieldLink RX2 15 "WordFletchers$Moment" "knows" "[I", Cond.fieldLink RX2 18 "WordFletchers$Moment" "straySaying" "[I", Cond.fieldLink RX2 21 "WordFletchers$Moment" "strayPlace" "[I"]
def wsX7_hours : List Cond := .code yX7_hours cX7_hours 2 (some .int) :: ((wsX7_hours_r1 ++ wsX7_hours_r2) ++ wsX70 ++ wsX20 ++ wsX30)
def wsX7_damps_r1 : List Cond := [Cond.fieldLink RX7 39 "WordFletchers" "moment" "LWordFletchers$Moment;", Cond.fieldLink RX7 177 "WordFletchers$Moment" "damp" "I", Cond.fieldLink RX7 46 "WordFletchers" "past" "LWordFletchers$Past;", Cond.methodLink RX7 156 yX3_remember, Cond.instanceMethod yX3_remember, Cond.selects RX3 yX3_remember yX3_remember, Cond.initialized RX3, Cond.code yX3_remember cX3_remember 2 none, Cond.fieldLink RX3 17 "WordFletchers$Past" "known" "I", Cond.fieldLink RX3 11 "WordFletchers$Past" "moments" "[LWordFletchers$Moment;", Cond.methodLink RX3 22 yX3_loseOldest, Cond.instanceMethod yX3_loseOldest, Cond.selects RX3 yX3_loseOldest yX3_loseOldest, Cond.code yX3_loseOldest cX3_loseOldest 3 none, Cond.methodLink RX3 25 yX2_become, Cond.instanceMethod yX2_become, Cond.selects RX2 yX2_become yX2_become, Cond.initialized RX2, Cond.code yX2_become cX2_become 2 none, Cond.fieldLink RX2 24 "WordFletchers$Moment" "hour" "I", Cond.fieldLink RX2 28 "WordFletchers$Moment" "damp" "I", Cond.fieldLink RX2 31 "WordFletchers$Moment" "strays" "I", Cond.fieldLink RX2 9 "WordFletchers$Moment" "feathers" "[I", Cond.methodLink RX2 47 arraycopyName]
def wsX7_damps_r2 : List Cond := [Cond.native arraycopyName, Cond.static arraycopyName, Cond.initialized "java/lang/System", Cond.fieldLink RX2 15 "WordFletchers$Moment" "knows" "[I", Cond.fieldLink RX2 18 "WordFletchers$Moment" "straySaying" "[I", Cond.fieldLink RX2 21 "WordFletchers$Moment" "strayPlace" "[I"]
def wsX7_damps : List Cond := .code yX7_damps cX7_damps 3 (some .int) :: ((wsX7_damps_r1 ++ wsX7_damps_r2) ++ wsX70 ++ wsX20 ++ wsX30)
def wsX7_plucks_r1 : List Cond := [Cond.fieldLink RX7 39 "WordFletchers" "moment" "LWordFletchers$Moment;", Cond.fieldLink RX7 142 "WordFletchers$Moment" "feathers" "[I", Cond.fieldLink RX7 46 "WordFletchers" "past" "LWordFletchers$Past;", Cond.methodLink RX7 180 Lib.Math.min.name, Cond.static Lib.Math.min.name, Cond.initialized "java/lang/Math", Cond.code Lib.Math.min.name Lib.Math.min.code 2 (some .int), Cond.methodLink RX7 156 yX3_remember, Cond.instanceMethod yX3_remember, Cond.selects RX3 yX3_remember yX3_remember, Cond.initialized RX3, Cond.code yX3_remember cX3_remember 2 none, Cond.fieldLink RX3 17 "WordFletchers$Past" "known" "I", Cond.fieldLink RX3 11 "WordFletchers$Past" "moments" "[LWordFletchers$Moment;", Cond.methodLink RX3 22 yX3_loseOldest, Cond.instanceMethod yX3_loseOldest, Cond.selects RX3 yX3_loseOldest yX3_loseOldest, Cond.code yX3_loseOldest cX3_loseOldest 3 none, Cond.methodLink RX3 25 yX2_become, Cond.instanceMethod yX2_become, Cond.selects RX2 yX2_become yX2_become, Cond.initialized RX2, Cond.code yX2_become cX2_become 2 none, Cond.fieldLink RX2 24 "WordFletchers$Moment" "hour" "I"]
def wsX7_plucks_r2 : List Cond := [Cond.fieldLink RX2 28 "WordFletchers$Moment" "damp" "I", Cond.fieldLink RX2 31 "WordFletchers$Moment" "strays" "I", Cond.fieldLink RX2 9 "WordFletchers$Moment" "feathers" "[I", Cond.methodLink RX2 47 arraycopyName, Cond.native arraycopyName, Cond.static arraycopyName, Cond.initialized "java/lang/System", Cond.fieldLink RX2 15 "WordFletchers$Moment" "knows" "[I", Cond.fieldLink RX2 18 "WordFletchers$Moment" "straySaying" "[I", Cond.fieldLink RX2 21 "WordFletchers$Moment" "strayPlace" "[I"]
def wsX7_plucks : List Cond := .code yX7_plucks cX7_plucks 3 (some .int) :: ((wsX7_plucks_r1 ++ wsX7_plucks_r2) ++ wsX70 ++ wsX20 ++ wsX30)
def wsX7_undo_r1 : List Cond := [Cond.fieldLink RX7 46 "WordFletchers" "past" "LWordFletchers$Past;", Cond.fieldLink RX7 185 "WordFletchers$Past" "known" "I", Cond.fieldLink RX7 39 "WordFletchers" "moment" "LWordFletchers$Moment;", Cond.methodLink RX7 188 yX3_bringBack, Cond.instanceMethod yX3_bringBack, Cond.selects RX3 yX3_bringBack yX3_bringBack, Cond.initialized RX3, Cond.code yX3_bringBack cX3_bringBack 2 none, Cond.fieldLink RX3 17 "WordFletchers$Past" "known" "I", Cond.fieldLink RX3 11 "WordFletchers$Past" "moments" "[LWordFletchers$Moment;", Cond.methodLink RX3 25 yX2_become, Cond.instanceMethod yX2_become, Cond.selects RX2 yX2_become yX2_become, Cond.initialized RX2, Cond.code yX2_become cX2_become 2 none, Cond.fieldLink RX2 24 "WordFletchers$Moment" "hour" "I", Cond.fieldLink RX2 28 "WordFletchers$Moment" "damp" "I", Cond.fieldLink RX2 31 "WordFletchers$Moment" "strays" "I", Cond.fieldLink RX2 9 "WordFletchers$Moment" "feathers" "[I", Cond.methodLink RX2 47 arraycopyName, Cond.native arraycopyName, Cond.static arraycopyName, Cond.initialized "java/lang/System", Cond.fieldLink RX2 15 "WordFletchers$Moment" "knows" "[I"]
def wsX7_undo_r2 : List Cond := [Cond.fieldLink RX2 18 "WordFletchers$Moment" "straySaying" "[I", Cond.fieldLink RX2 21 "WordFletchers$Moment" "strayPlace" "[I"]
def wsX7_undo : List Cond := .code yX7_undo cX7_undo 1 (some .int) :: ((wsX7_undo_r1 ++ wsX7_undo_r2) ++ wsX70 ++ wsX30 ++ wsX20)
def wsX7_now : List Cond := .code yX7_now cX7_now 2 (some .int) :: ([.fieldLink RX7 39 "WordFletchers" "moment" "LWordFletchers$Moment;", .fieldLink RX7 174 "WordFletchers$Moment" "hour" "I", .fieldLink RX7 177 "WordFletchers$Moment" "damp" "I", .fieldLink RX7 125 "WordFletchers$Moment" "strays" "I", .fieldLink RX7 142 "WordFletchers$Moment" "feathers" "[I"] ++ wsX70 ++ wsX20)
def wsX7_lands_r1 : List Cond := [Cond.methodLink RX7 134 yX7_isLetOff, Cond.instanceMethod yX7_isLetOff, Cond.selects RX7 yX7_isLetOff yX7_isLetOff, Cond.initialized RX7, Cond.code yX7_isLetOff cX7_isLetOff 6 (some .boolean), Cond.fieldLink RX7 29 "WordFletchers" "told" "LWordFletchers$Told;", Cond.methodLink RX7 92 yX6_hasOne, Cond.instanceMethod yX6_hasOne, Cond.selects RX6 yX6_hasOne yX6_hasOne, Cond.initialized RX6, Cond.code yX6_hasOne cX6_hasOne 2 (some .boolean), Cond.fieldLink RX6 36 "WordFletchers$Told" "people" "I", Cond.methodLink RX7 105 yX6_hasSaying, Cond.instanceMethod yX6_hasSaying, Cond.selects RX6 yX6_hasSaying yX6_hasSaying, Cond.code yX6_hasSaying cX6_hasSaying 2 (some .boolean), Cond.fieldLink RX6 40 "WordFletchers$Told" "sayings" "I", Cond.methodLink RX7 145 yX7_shotOf, Cond.static yX7_shotOf, Cond.code yX7_shotOf cX7_shotOf 3 (some .int), Cond.methodLink RX7 149 yX7_landingNow, Cond.instanceMethod yX7_landingNow, Cond.selects RX7 yX7_landingNow yX7_landingNow, Cond.code yX7_landingNow cX7_landingNow 4 (some .int)]
def wsX7_lands_r2 : List Cond := [Cond.fieldLink RX7 39 "WordFletchers" "moment" "LWordFletchers$Moment;", Cond.fieldLink RX7 177 "WordFletchers$Moment" "damp" "I", Cond.methodLink RX7 122 yX7_windIn, Cond.instanceMethod yX7_windIn, Cond.selects RX7 yX7_windIn yX7_windIn, Cond.code yX7_windIn cX7_windIn 2 (some .int), Cond.fieldLink RX7 174 "WordFletchers$Moment" "hour" "I", Cond.methodLink RX7 301 yX6_windOf, Cond.instanceMethod yX6_windOf, Cond.selects RX6 yX6_windOf yX6_windOf, Cond.code yX6_windOf cX6_windOf 2 (some .int), Cond.fieldLink RX6 27 "WordFletchers$Told" "winds" "[I", Cond.methodLink RX6 46 Lib.Math.max.name, Cond.static Lib.Math.max.name, Cond.initialized "java/lang/Math", Cond.code Lib.Math.max.name Lib.Math.max.code 2 (some .int), Cond.methodLink RX6 52 yX6_windCount, Cond.instanceMethod yX6_windCount, Cond.selects RX6 yX6_windCount yX6_windCount, Cond.code yX6_windCount cX6_windCount 1 (some .int), Cond.fieldLink RX6 43 "WordFletchers$Told" "windsTold" "I", Cond.methodLink RX7 203 yX6_landing, Cond.instanceMethod yX6_landing, Cond.selects RX6 yX6_landing yX6_landing]
def wsX7_lands_r3 : List Cond := [Cond.code yX6_landing cX6_landing 13 (some .int), Cond.fieldLink RX6 9 "WordFletchers$Told" "place" "[I", Cond.methodLink RX6 59 yX6_flight, Cond.instanceMethod yX6_flight, Cond.selects RX6 yX6_flight yX6_flight, Cond.code yX6_flight cX6_flight 6 (some .int), Cond.fieldLink RX6 21 "WordFletchers$Told" "twist" "[I", Cond.fieldLink RX6 18 "WordFletchers$Told" "weight" "[I"]
def wsX7_lands : List Cond := .code yX7_lands cX7_lands 6 (some .int) :: ((wsX7_lands_r1 ++ (wsX7_lands_r2 ++ wsX7_lands_r3)) ++ wsX70 ++ wsX60 ++ wsX20)
def wsX7_areTwo : List Cond := .code yX7_areTwo cX7_areTwo 3 (some .boolean) :: ([.fieldLink RX7 29 "WordFletchers" "told" "LWordFletchers$Told;", .methodLink RX7 92 yX6_hasOne, .instanceMethod yX6_hasOne, .selects RX6 yX6_hasOne yX6_hasOne, .initialized RX6, .code yX6_hasOne cX6_hasOne 2 (some .boolean), .fieldLink RX6 36 "WordFletchers$Told" "people" "I"] ++ wsX70 ++ wsX60)
def wsX7_call_r1 : List Cond := [Cond.fieldLink RX7 29 "WordFletchers" "told" "LWordFletchers$Told;", Cond.fieldLink RX7 194 "WordFletchers" "SHOTS_BY_HOW_MANY" "[I", Cond.methodLink RX7 191 yX7_areTwo, Cond.instanceMethod yX7_areTwo, Cond.selects RX7 yX7_areTwo yX7_areTwo, Cond.initialized RX7, Cond.code yX7_areTwo cX7_areTwo 3 (some .boolean), Cond.methodLink RX7 92 yX6_hasOne, Cond.instanceMethod yX6_hasOne, Cond.selects RX6 yX6_hasOne yX6_hasOne, Cond.initialized RX6, Cond.code yX6_hasOne cX6_hasOne 2 (some .boolean), Cond.fieldLink RX6 36 "WordFletchers$Told" "people" "I", Cond.methodLink RX7 105 yX6_hasSaying, Cond.instanceMethod yX6_hasSaying, Cond.selects RX6 yX6_hasSaying yX6_hasSaying, Cond.code yX6_hasSaying cX6_hasSaying 2 (some .boolean), Cond.fieldLink RX6 40 "WordFletchers$Told" "sayings" "I", Cond.methodLink RX7 149 yX7_landingNow, Cond.instanceMethod yX7_landingNow, Cond.selects RX7 yX7_landingNow yX7_landingNow, Cond.code yX7_landingNow cX7_landingNow 4 (some .int), Cond.fieldLink RX7 39 "WordFletchers" "moment" "LWordFletchers$Moment;", Cond.fieldLink RX7 177 "WordFletchers$Moment" "damp" "I"]
def wsX7_call_r2 : List Cond := [Cond.methodLink RX7 122 yX7_windIn, Cond.instanceMethod yX7_windIn, Cond.selects RX7 yX7_windIn yX7_windIn, Cond.code yX7_windIn cX7_windIn 2 (some .int), Cond.fieldLink RX7 174 "WordFletchers$Moment" "hour" "I", Cond.methodLink RX7 301 yX6_windOf, Cond.instanceMethod yX6_windOf, Cond.selects RX6 yX6_windOf yX6_windOf, Cond.code yX6_windOf cX6_windOf 2 (some .int), Cond.fieldLink RX6 27 "WordFletchers$Told" "winds" "[I", Cond.methodLink RX6 46 Lib.Math.max.name, Cond.static Lib.Math.max.name, Cond.initialized "java/lang/Math", Cond.code Lib.Math.max.name Lib.Math.max.code 2 (some .int), Cond.methodLink RX6 52 yX6_windCount, Cond.instanceMethod yX6_windCount, Cond.selects RX6 yX6_windCount yX6_windCount, Cond.code yX6_windCount cX6_windCount 1 (some .int), Cond.fieldLink RX6 43 "WordFletchers$Told" "windsTold" "I", Cond.methodLink RX7 203 yX6_landing, Cond.instanceMethod yX6_landing, Cond.selects RX6 yX6_landing yX6_landing, Cond.code yX6_landing cX6_landing 13 (some .int), Cond.fieldLink RX6 9 "WordFletchers$Told" "place" "[I"]
def wsX7_call_r3 : List Cond := [Cond.methodLink RX6 59 yX6_flight, Cond.instanceMethod yX6_flight, Cond.selects RX6 yX6_flight yX6_flight, Cond.code yX6_flight cX6_flight 6 (some .int), Cond.fieldLink RX6 21 "WordFletchers$Told" "twist" "[I", Cond.fieldLink RX6 18 "WordFletchers$Told" "weight" "[I", Cond.methodLink RX7 197 yX6_hears, Cond.instanceMethod yX6_hears, Cond.selects RX6 yX6_hears yX6_hears, Cond.code yX6_hears cX6_hears 3 (some .boolean), Cond.methodLink RX6 70 Lib.Math.abs.name, Cond.static Lib.Math.abs.name, Cond.code Lib.Math.abs.name Lib.Math.abs.code 1 (some .int), Cond.fieldLink RX6 15 "WordFletchers$Told" "ear" "[I"]
def wsX7_call : List Cond := .code yX7_call cX7_call 8 (some .int) :: ((wsX7_call_r1 ++ (wsX7_call_r2 ++ wsX7_call_r3)) ++ wsX70 ++ wsX60 ++ wsX20)
def wsX7_isShot : List Cond := .code yX7_isShot cX7_isShot 1 (some .boolean) :: ([])
def wsX7_waits_r1 : List Cond := [Cond.fieldLink RX7 29 "WordFletchers" "told" "LWordFletchers$Told;", Cond.fieldLink RX7 39 "WordFletchers" "moment" "LWordFletchers$Moment;", Cond.fieldLink RX7 177 "WordFletchers$Moment" "damp" "I", Cond.methodLink RX7 191 yX7_areTwo, Cond.instanceMethod yX7_areTwo, Cond.selects RX7 yX7_areTwo yX7_areTwo, Cond.initialized RX7, Cond.code yX7_areTwo cX7_areTwo 3 (some .boolean), Cond.methodLink RX7 92 yX6_hasOne, Cond.instanceMethod yX6_hasOne, Cond.selects RX6 yX6_hasOne yX6_hasOne, Cond.initialized RX6, Cond.code yX6_hasOne cX6_hasOne 2 (some .boolean), Cond.fieldLink RX6 36 "WordFletchers$Told" "people" "I", Cond.methodLink RX7 105 yX6_hasSaying, Cond.instanceMethod yX6_hasSaying, Cond.selects RX6 yX6_hasSaying yX6_hasSaying, Cond.code yX6_hasSaying cX6_hasSaying 2 (some .boolean), Cond.fieldLink RX6 40 "WordFletchers$Told" "sayings" "I", Cond.methodLink RX7 200 yX7_isShot, Cond.static yX7_isShot, Cond.code yX7_isShot cX7_isShot 1 (some .boolean), Cond.methodLink RX7 122 yX7_windIn, Cond.instanceMethod yX7_windIn]
def wsX7_waits_r2 : List Cond := [Cond.selects RX7 yX7_windIn yX7_windIn, Cond.code yX7_windIn cX7_windIn 2 (some .int), Cond.fieldLink RX7 174 "WordFletchers$Moment" "hour" "I", Cond.methodLink RX7 301 yX6_windOf, Cond.instanceMethod yX6_windOf, Cond.selects RX6 yX6_windOf yX6_windOf, Cond.code yX6_windOf cX6_windOf 2 (some .int), Cond.fieldLink RX6 27 "WordFletchers$Told" "winds" "[I", Cond.methodLink RX6 46 Lib.Math.max.name, Cond.static Lib.Math.max.name, Cond.initialized "java/lang/Math", Cond.code Lib.Math.max.name Lib.Math.max.code 2 (some .int), Cond.methodLink RX6 52 yX6_windCount, Cond.instanceMethod yX6_windCount, Cond.selects RX6 yX6_windCount yX6_windCount, Cond.code yX6_windCount cX6_windCount 1 (some .int), Cond.fieldLink RX6 43 "WordFletchers$Told" "windsTold" "I", Cond.methodLink RX7 203 yX6_landing, Cond.instanceMethod yX6_landing, Cond.selects RX6 yX6_landing yX6_landing, Cond.code yX6_landing cX6_landing 13 (some .int), Cond.fieldLink RX6 9 "WordFletchers$Told" "place" "[I", Cond.methodLink RX6 59 yX6_flight, Cond.instanceMethod yX6_flight]
def wsX7_waits_r3 : List Cond := [Cond.selects RX6 yX6_flight yX6_flight, Cond.code yX6_flight cX6_flight 6 (some .int), Cond.fieldLink RX6 21 "WordFletchers$Told" "twist" "[I", Cond.fieldLink RX6 18 "WordFletchers$Told" "weight" "[I", Cond.methodLink RX7 197 yX6_hears, Cond.instanceMethod yX6_hears, Cond.selects RX6 yX6_hears yX6_hears, Cond.code yX6_hears cX6_hears 3 (some .boolean), Cond.methodLink RX6 70 Lib.Math.abs.name, Cond.static Lib.Math.abs.name, Cond.code Lib.Math.abs.name Lib.Math.abs.code 1 (some .int), Cond.fieldLink RX6 15 "WordFletchers$Told" "ear" "[I"]
def wsX7_waits : List Cond := .code yX7_waits cX7_waits 6 (some .int) :: ((wsX7_waits_r1 ++ (wsX7_waits_r2 ++ wsX7_waits_r3)) ++ wsX70 ++ wsX20 ++ wsX60)
def wsX7_whoCanHear_r1 : List Cond := [Cond.fieldLink RX7 307 "WordFletchers" "SHOTS_BY_KIND" "[I", Cond.fieldLink RX7 29 "WordFletchers" "told" "LWordFletchers$Told;", Cond.methodLink RX7 149 yX7_landingNow, Cond.instanceMethod yX7_landingNow, Cond.selects RX7 yX7_landingNow yX7_landingNow, Cond.initialized RX7, Cond.code yX7_landingNow cX7_landingNow 4 (some .int), Cond.fieldLink RX7 39 "WordFletchers" "moment" "LWordFletchers$Moment;", Cond.fieldLink RX7 177 "WordFletchers$Moment" "damp" "I", Cond.methodLink RX7 122 yX7_windIn, Cond.instanceMethod yX7_windIn, Cond.selects RX7 yX7_windIn yX7_windIn, Cond.code yX7_windIn cX7_windIn 2 (some .int), Cond.fieldLink RX7 174 "WordFletchers$Moment" "hour" "I", Cond.methodLink RX7 301 yX6_windOf, Cond.instanceMethod yX6_windOf, Cond.selects RX6 yX6_windOf yX6_windOf, Cond.initialized RX6, Cond.code yX6_windOf cX6_windOf 2 (some .int), Cond.fieldLink RX6 27 "WordFletchers$Told" "winds" "[I", Cond.methodLink RX6 46 Lib.Math.max.name, Cond.static Lib.Math.max.name, Cond.initialized "java/lang/Math", Cond.code Lib.Math.max.name Lib.Math.max.code 2 (some .int)]
def wsX7_whoCanHear_r2 : List Cond := [Cond.methodLink RX6 52 yX6_windCount, Cond.instanceMethod yX6_windCount, Cond.selects RX6 yX6_windCount yX6_windCount, Cond.code yX6_windCount cX6_windCount 1 (some .int), Cond.fieldLink RX6 43 "WordFletchers$Told" "windsTold" "I", Cond.methodLink RX7 203 yX6_landing, Cond.instanceMethod yX6_landing, Cond.selects RX6 yX6_landing yX6_landing, Cond.code yX6_landing cX6_landing 13 (some .int), Cond.fieldLink RX6 9 "WordFletchers$Told" "place" "[I", Cond.methodLink RX6 59 yX6_flight, Cond.instanceMethod yX6_flight, Cond.selects RX6 yX6_flight yX6_flight, Cond.code yX6_flight cX6_flight 6 (some .int), Cond.fieldLink RX6 21 "WordFletchers$Told" "twist" "[I", Cond.fieldLink RX6 18 "WordFletchers$Told" "weight" "[I", Cond.methodLink RX7 152 yX6_hearers, Cond.instanceMethod yX6_hearers, Cond.selects RX6 yX6_hearers yX6_hearers, Cond.code yX6_hearers cX6_hearers 5 (some .int), Cond.fieldLink RX6 36 "WordFletchers$Told" "people" "I", Cond.methodLink RX6 74 yX6_hears, Cond.instanceMethod yX6_hears, Cond.selects RX6 yX6_hears yX6_hears]
def wsX7_whoCanHear_r3 : List Cond := [Cond.code yX6_hears cX6_hears 3 (some .boolean), Cond.methodLink RX6 70 Lib.Math.abs.name, Cond.static Lib.Math.abs.name, Cond.code Lib.Math.abs.name Lib.Math.abs.code 1 (some .int), Cond.fieldLink RX6 15 "WordFletchers$Told" "ear" "[I"]
def wsX7_whoCanHear : List Cond := .code yX7_whoCanHear cX7_whoCanHear 8 (some .int) :: ((wsX7_whoCanHear_r1 ++ (wsX7_whoCanHear_r2 ++ wsX7_whoCanHear_r3)) ++ wsX70 ++ wsX20 ++ wsX60)
def wsX7_fewestNeeded : List Cond := .code yX7_fewestNeeded cX7_fewestNeeded 4 (some .int) :: ([.fieldLink RX7 29 "WordFletchers" "told" "LWordFletchers$Told;", .fieldLink RX7 298 "WordFletchers$Told" "people" "I", .fieldLink RX7 70 "WordFletchers" "shotsNeeded" "[I", .methodLink RX7 180 Lib.Math.min.name, .static Lib.Math.min.name, .initialized "java/lang/Math", .code Lib.Math.min.name Lib.Math.min.code 2 (some .int), .methodLink RX7 222 yX7_isIn, .static yX7_isIn, .initialized RX7, .code yX7_isIn cX7_isIn 2 (some .boolean)] ++ wsX70 ++ wsX60)
def wsX7_countShotsNeeded_r1 : List Cond := [Cond.fieldLink RX7 29 "WordFletchers" "told" "LWordFletchers$Told;", Cond.fieldLink RX7 298 "WordFletchers$Told" "people" "I", Cond.fieldLink RX7 70 "WordFletchers" "shotsNeeded" "[I", Cond.methodLink RX7 180 Lib.Math.min.name, Cond.static Lib.Math.min.name, Cond.initialized "java/lang/Math", Cond.code Lib.Math.min.name Lib.Math.min.code 2 (some .int), Cond.methodLink RX7 304 yX7_whoCanHear, Cond.instanceMethod yX7_whoCanHear, Cond.selects RX7 yX7_whoCanHear yX7_whoCanHear, Cond.initialized RX7, Cond.code yX7_whoCanHear cX7_whoCanHear 8 (some .int), Cond.fieldLink RX7 307 "WordFletchers" "SHOTS_BY_KIND" "[I", Cond.methodLink RX7 149 yX7_landingNow, Cond.instanceMethod yX7_landingNow, Cond.selects RX7 yX7_landingNow yX7_landingNow, Cond.code yX7_landingNow cX7_landingNow 4 (some .int), Cond.fieldLink RX7 39 "WordFletchers" "moment" "LWordFletchers$Moment;", Cond.fieldLink RX7 177 "WordFletchers$Moment" "damp" "I", Cond.methodLink RX7 122 yX7_windIn, Cond.instanceMethod yX7_windIn, Cond.selects RX7 yX7_windIn yX7_windIn, Cond.code yX7_windIn cX7_windIn 2 (some .int), Cond.fieldLink RX7 174 "WordFletchers$Moment" "hour" "I"]
def wsX7_countShotsNeeded_r2 : List Cond := [Cond.methodLink RX7 301 yX6_windOf, Cond.instanceMethod yX6_windOf, Cond.selects RX6 yX6_windOf yX6_windOf, Cond.initialized RX6, Cond.code yX6_windOf cX6_windOf 2 (some .int), Cond.fieldLink RX6 27 "WordFletchers$Told" "winds" "[I", Cond.methodLink RX6 46 Lib.Math.max.name, Cond.static Lib.Math.max.name, Cond.code Lib.Math.max.name Lib.Math.max.code 2 (some .int), Cond.methodLink RX6 52 yX6_windCount, Cond.instanceMethod yX6_windCount, Cond.selects RX6 yX6_windCount yX6_windCount, Cond.code yX6_windCount cX6_windCount 1 (some .int), Cond.fieldLink RX6 43 "WordFletchers$Told" "windsTold" "I", Cond.methodLink RX7 203 yX6_landing, Cond.instanceMethod yX6_landing, Cond.selects RX6 yX6_landing yX6_landing, Cond.code yX6_landing cX6_landing 13 (some .int), Cond.fieldLink RX6 9 "WordFletchers$Told" "place" "[I", Cond.methodLink RX6 59 yX6_flight, Cond.instanceMethod yX6_flight, Cond.selects RX6 yX6_flight yX6_flight, Cond.code yX6_flight cX6_flight 6 (some .int), Cond.fieldLink RX6 21 "WordFletchers$Told" "twist" "[I"]
def wsX7_countShotsNeeded_r3 : List Cond := [Cond.fieldLink RX6 18 "WordFletchers$Told" "weight" "[I", Cond.methodLink RX7 152 yX6_hearers, Cond.instanceMethod yX6_hearers, Cond.selects RX6 yX6_hearers yX6_hearers, Cond.code yX6_hearers cX6_hearers 5 (some .int), Cond.fieldLink RX6 36 "WordFletchers$Told" "people" "I", Cond.methodLink RX6 74 yX6_hears, Cond.instanceMethod yX6_hears, Cond.selects RX6 yX6_hears yX6_hears, Cond.code yX6_hears cX6_hears 3 (some .boolean), Cond.methodLink RX6 70 Lib.Math.abs.name, Cond.static Lib.Math.abs.name, Cond.code Lib.Math.abs.name Lib.Math.abs.code 1 (some .int), Cond.fieldLink RX6 15 "WordFletchers$Told" "ear" "[I", Cond.methodLink RX7 210 yX7_fewestNeeded, Cond.instanceMethod yX7_fewestNeeded, Cond.selects RX7 yX7_fewestNeeded yX7_fewestNeeded, Cond.code yX7_fewestNeeded cX7_fewestNeeded 4 (some .int), Cond.methodLink RX7 222 yX7_isIn, Cond.static yX7_isIn, Cond.code yX7_isIn cX7_isIn 2 (some .boolean)]
def wsX7_countShotsNeeded : List Cond := .code yX7_countShotsNeeded cX7_countShotsNeeded 5 none :: ((wsX7_countShotsNeeded_r1 ++ (wsX7_countShotsNeeded_r2 ++ wsX7_countShotsNeeded_r3)) ++ wsX70 ++ wsX60 ++ wsX20)
def wsX7_firstOfRelay_r1 : List Cond := [Cond.fieldLink RX7 29 "WordFletchers" "told" "LWordFletchers$Told;", Cond.fieldLink RX7 298 "WordFletchers$Told" "people" "I", Cond.fieldLink RX7 39 "WordFletchers" "moment" "LWordFletchers$Moment;", Cond.fieldLink RX7 307 "WordFletchers" "SHOTS_BY_KIND" "[I", Cond.methodLink RX7 138 yX2_isKnown, Cond.instanceMethod yX2_isKnown, Cond.selects RX2 yX2_isKnown yX2_isKnown, Cond.initialized RX2, Cond.code yX2_isKnown cX2_isKnown 3 (some .boolean), Cond.fieldLink RX2 15 "WordFletchers$Moment" "knows" "[I", Cond.static yX7_isIn, Cond.initialized RX7, Cond.code yX7_isIn cX7_isIn 2 (some .boolean), Cond.methodLink RX7 149 yX7_landingNow, Cond.instanceMethod yX7_landingNow, Cond.selects RX7 yX7_landingNow yX7_landingNow, Cond.code yX7_landingNow cX7_landingNow 4 (some .int), Cond.fieldLink RX7 177 "WordFletchers$Moment" "damp" "I", Cond.methodLink RX7 122 yX7_windIn, Cond.instanceMethod yX7_windIn, Cond.selects RX7 yX7_windIn yX7_windIn, Cond.code yX7_windIn cX7_windIn 2 (some .int), Cond.fieldLink RX7 174 "WordFletchers$Moment" "hour" "I", Cond.methodLink RX7 301 yX6_windOf]
def wsX7_firstOfRelay_r2 : List Cond := [Cond.instanceMethod yX6_windOf, Cond.selects RX6 yX6_windOf yX6_windOf, Cond.initialized RX6, Cond.code yX6_windOf cX6_windOf 2 (some .int), Cond.fieldLink RX6 27 "WordFletchers$Told" "winds" "[I", Cond.methodLink RX6 46 Lib.Math.max.name, Cond.static Lib.Math.max.name, Cond.initialized "java/lang/Math", Cond.code Lib.Math.max.name Lib.Math.max.code 2 (some .int), Cond.methodLink RX6 52 yX6_windCount, Cond.instanceMethod yX6_windCount, Cond.selects RX6 yX6_windCount yX6_windCount, Cond.code yX6_windCount cX6_windCount 1 (some .int), Cond.fieldLink RX6 43 "WordFletchers$Told" "windsTold" "I", Cond.methodLink RX7 203 yX6_landing, Cond.instanceMethod yX6_landing, Cond.selects RX6 yX6_landing yX6_landing, Cond.code yX6_landing cX6_landing 13 (some .int), Cond.fieldLink RX6 9 "WordFletchers$Told" "place" "[I", Cond.methodLink RX6 59 yX6_flight, Cond.instanceMethod yX6_flight, Cond.selects RX6 yX6_flight yX6_flight, Cond.code yX6_flight cX6_flight 6 (some .int), Cond.fieldLink RX6 21 "WordFletchers$Told" "twist" "[I"]
def wsX7_firstOfRelay_r3 : List Cond := [Cond.fieldLink RX6 18 "WordFletchers$Told" "weight" "[I", Cond.methodLink RX7 152 yX6_hearers, Cond.instanceMethod yX6_hearers, Cond.selects RX6 yX6_hearers yX6_hearers, Cond.code yX6_hearers cX6_hearers 5 (some .int), Cond.fieldLink RX6 36 "WordFletchers$Told" "people" "I", Cond.methodLink RX6 74 yX6_hears, Cond.instanceMethod yX6_hears, Cond.selects RX6 yX6_hears yX6_hears, Cond.code yX6_hears cX6_hears 3 (some .boolean), Cond.methodLink RX6 70 Lib.Math.abs.name, Cond.static Lib.Math.abs.name, Cond.code Lib.Math.abs.name Lib.Math.abs.code 1 (some .int), Cond.fieldLink RX6 15 "WordFletchers$Told" "ear" "[I", Cond.methodLink RX7 210 yX7_fewestNeeded, Cond.instanceMethod yX7_fewestNeeded, Cond.selects RX7 yX7_fewestNeeded yX7_fewestNeeded, Cond.code yX7_fewestNeeded cX7_fewestNeeded 4 (some .int), Cond.fieldLink RX7 70 "WordFletchers" "shotsNeeded" "[I", Cond.methodLink RX7 180 Lib.Math.min.name, Cond.static Lib.Math.min.name, Cond.code Lib.Math.min.name Lib.Math.min.code 2 (some .int), Cond.methodLink RX7 222 yX7_isIn]
def wsX7_firstOfRelay : List Cond := .code yX7_firstOfRelay cX7_firstOfRelay 9 (some .int) :: ((wsX7_firstOfRelay_r1 ++ (wsX7_firstOfRelay_r2 ++ wsX7_firstOfRelay_r3)) ++ wsX70 ++ wsX60 ++ wsX20)
def wsX7_relay_r1 : List Cond := [Cond.fieldLink RX7 29 "WordFletchers" "told" "LWordFletchers$Told;", Cond.fieldLink RX7 39 "WordFletchers" "moment" "LWordFletchers$Moment;", Cond.methodLink RX7 105 yX6_hasSaying, Cond.instanceMethod yX6_hasSaying, Cond.selects RX6 yX6_hasSaying yX6_hasSaying, Cond.initialized RX6, Cond.code yX6_hasSaying cX6_hasSaying 2 (some .boolean), Cond.fieldLink RX6 40 "WordFletchers$Told" "sayings" "I", Cond.methodLink RX7 92 yX6_hasOne, Cond.instanceMethod yX6_hasOne, Cond.selects RX6 yX6_hasOne yX6_hasOne, Cond.code yX6_hasOne cX6_hasOne 2 (some .boolean), Cond.fieldLink RX6 36 "WordFletchers$Told" "people" "I", Cond.methodLink RX7 207 yX7_countShotsNeeded, Cond.instanceMethod yX7_countShotsNeeded, Cond.selects RX7 yX7_countShotsNeeded yX7_countShotsNeeded, Cond.initialized RX7, Cond.code yX7_countShotsNeeded cX7_countShotsNeeded 5 none, Cond.fieldLink RX7 298 "WordFletchers$Told" "people" "I", Cond.fieldLink RX7 70 "WordFletchers" "shotsNeeded" "[I", Cond.methodLink RX7 180 Lib.Math.min.name, Cond.static Lib.Math.min.name, Cond.initialized "java/lang/Math", Cond.code Lib.Math.min.name Lib.Math.min.code 2 (some .int)]
def wsX7_relay_r2 : List Cond := [Cond.methodLink RX7 304 yX7_whoCanHear, Cond.instanceMethod yX7_whoCanHear, Cond.selects RX7 yX7_whoCanHear yX7_whoCanHear, Cond.code yX7_whoCanHear cX7_whoCanHear 8 (some .int), Cond.fieldLink RX7 307 "WordFletchers" "SHOTS_BY_KIND" "[I", Cond.methodLink RX7 149 yX7_landingNow, Cond.instanceMethod yX7_landingNow, Cond.selects RX7 yX7_landingNow yX7_landingNow, Cond.code yX7_landingNow cX7_landingNow 4 (some .int), Cond.fieldLink RX7 177 "WordFletchers$Moment" "damp" "I", Cond.methodLink RX7 122 yX7_windIn, Cond.instanceMethod yX7_windIn, Cond.selects RX7 yX7_windIn yX7_windIn, Cond.code yX7_windIn cX7_windIn 2 (some .int), Cond.fieldLink RX7 174 "WordFletchers$Moment" "hour" "I", Cond.methodLink RX7 301 yX6_windOf, Cond.instanceMethod yX6_windOf, Cond.selects RX6 yX6_windOf yX6_windOf, Cond.code yX6_windOf cX6_windOf 2 (some .int), Cond.fieldLink RX6 27 "WordFletchers$Told" "winds" "[I", Cond.methodLink RX6 46 Lib.Math.max.name, Cond.static Lib.Math.max.name, Cond.code Lib.Math.max.name Lib.Math.max.code 2 (some .int), Cond.methodLink RX6 52 yX6_windCount]
def wsX7_relay_r3 : List Cond := [Cond.instanceMethod yX6_windCount, Cond.selects RX6 yX6_windCount yX6_windCount, Cond.code yX6_windCount cX6_windCount 1 (some .int), Cond.fieldLink RX6 43 "WordFletchers$Told" "windsTold" "I", Cond.methodLink RX7 203 yX6_landing, Cond.instanceMethod yX6_landing, Cond.selects RX6 yX6_landing yX6_landing, Cond.code yX6_landing cX6_landing 13 (some .int), Cond.fieldLink RX6 9 "WordFletchers$Told" "place" "[I", Cond.methodLink RX6 59 yX6_flight, Cond.instanceMethod yX6_flight, Cond.selects RX6 yX6_flight yX6_flight, Cond.code yX6_flight cX6_flight 6 (some .int), Cond.fieldLink RX6 21 "WordFletchers$Told" "twist" "[I", Cond.fieldLink RX6 18 "WordFletchers$Told" "weight" "[I", Cond.methodLink RX7 152 yX6_hearers, Cond.instanceMethod yX6_hearers, Cond.selects RX6 yX6_hearers yX6_hearers, Cond.code yX6_hearers cX6_hearers 5 (some .int), Cond.methodLink RX6 74 yX6_hears, Cond.instanceMethod yX6_hears, Cond.selects RX6 yX6_hears yX6_hears, Cond.code yX6_hears cX6_hears 3 (some .boolean), Cond.methodLink RX6 70 Lib.Math.abs.name]
def wsX7_relay_r4 : List Cond := [Cond.static Lib.Math.abs.name, Cond.code Lib.Math.abs.name Lib.Math.abs.code 1 (some .int), Cond.fieldLink RX6 15 "WordFletchers$Told" "ear" "[I", Cond.methodLink RX7 210 yX7_fewestNeeded, Cond.instanceMethod yX7_fewestNeeded, Cond.selects RX7 yX7_fewestNeeded yX7_fewestNeeded, Cond.code yX7_fewestNeeded cX7_fewestNeeded 4 (some .int), Cond.methodLink RX7 222 yX7_isIn, Cond.static yX7_isIn, Cond.code yX7_isIn cX7_isIn 2 (some .boolean), Cond.methodLink RX7 117 yX2_whoKnows, Cond.instanceMethod yX2_whoKnows, Cond.selects RX2 yX2_whoKnows yX2_whoKnows, Cond.initialized RX2, Cond.code yX2_whoKnows cX2_whoKnows 4 (some .int), Cond.methodLink RX2 57 yX2_isKnown, Cond.instanceMethod yX2_isKnown, Cond.selects RX2 yX2_isKnown yX2_isKnown, Cond.code yX2_isKnown cX2_isKnown 3 (some .boolean), Cond.fieldLink RX2 15 "WordFletchers$Moment" "knows" "[I", Cond.methodLink RX7 213 yX7_firstOfRelay, Cond.instanceMethod yX7_firstOfRelay, Cond.selects RX7 yX7_firstOfRelay yX7_firstOfRelay, Cond.code yX7_firstOfRelay cX7_firstOfRelay 9 (some .int)]
def wsX7_relay_r5 : List Cond := [Cond.methodLink RX7 138 yX2_isKnown]
def wsX7_relay : List Cond := .code yX7_relay cX7_relay 5 (some .int) :: ((wsX7_relay_r1 ++ (wsX7_relay_r2 ++ (wsX7_relay_r3 ++ (wsX7_relay_r4 ++ wsX7_relay_r5)))) ++ wsX70 ++ wsX60 ++ wsX20)
def wsX7_fewestToBeHeard_r1 : List Cond := [Cond.fieldLink RX7 29 "WordFletchers" "told" "LWordFletchers$Told;", Cond.fieldLink RX7 114 "WordFletchers$Told" "first" "[I", Cond.methodLink RX7 145 yX7_shotOf, Cond.static yX7_shotOf, Cond.initialized RX7, Cond.code yX7_shotOf cX7_shotOf 3 (some .int), Cond.methodLink RX7 149 yX7_landingNow, Cond.instanceMethod yX7_landingNow, Cond.selects RX7 yX7_landingNow yX7_landingNow, Cond.code yX7_landingNow cX7_landingNow 4 (some .int), Cond.fieldLink RX7 39 "WordFletchers" "moment" "LWordFletchers$Moment;", Cond.fieldLink RX7 177 "WordFletchers$Moment" "damp" "I", Cond.methodLink RX7 122 yX7_windIn, Cond.instanceMethod yX7_windIn, Cond.selects RX7 yX7_windIn yX7_windIn, Cond.code yX7_windIn cX7_windIn 2 (some .int), Cond.fieldLink RX7 174 "WordFletchers$Moment" "hour" "I", Cond.methodLink RX7 301 yX6_windOf, Cond.instanceMethod yX6_windOf, Cond.selects RX6 yX6_windOf yX6_windOf, Cond.initialized RX6, Cond.code yX6_windOf cX6_windOf 2 (some .int), Cond.fieldLink RX6 27 "WordFletchers$Told" "winds" "[I", Cond.methodLink RX6 46 Lib.Math.max.name]
def wsX7_fewestToBeHeard_r2 : List Cond := [Cond.static Lib.Math.max.name, Cond.initialized "java/lang/Math", Cond.code Lib.Math.max.name Lib.Math.max.code 2 (some .int), Cond.methodLink RX6 52 yX6_windCount, Cond.instanceMethod yX6_windCount, Cond.selects RX6 yX6_windCount yX6_windCount, Cond.code yX6_windCount cX6_windCount 1 (some .int), Cond.fieldLink RX6 43 "WordFletchers$Told" "windsTold" "I", Cond.methodLink RX7 203 yX6_landing, Cond.instanceMethod yX6_landing, Cond.selects RX6 yX6_landing yX6_landing, Cond.code yX6_landing cX6_landing 13 (some .int), Cond.fieldLink RX6 9 "WordFletchers$Told" "place" "[I", Cond.methodLink RX6 59 yX6_flight, Cond.instanceMethod yX6_flight, Cond.selects RX6 yX6_flight yX6_flight, Cond.code yX6_flight cX6_flight 6 (some .int), Cond.fieldLink RX6 21 "WordFletchers$Told" "twist" "[I", Cond.fieldLink RX6 18 "WordFletchers$Told" "weight" "[I", Cond.methodLink RX7 152 yX6_hearers, Cond.instanceMethod yX6_hearers, Cond.selects RX6 yX6_hearers yX6_hearers, Cond.code yX6_hearers cX6_hearers 5 (some .int), Cond.fieldLink RX6 36 "WordFletchers$Told" "people" "I"]
def wsX7_fewestToBeHeard_r3 : List Cond := [Cond.methodLink RX6 74 yX6_hears, Cond.instanceMethod yX6_hears, Cond.selects RX6 yX6_hears yX6_hears, Cond.code yX6_hears cX6_hears 3 (some .boolean), Cond.methodLink RX6 70 Lib.Math.abs.name, Cond.static Lib.Math.abs.name, Cond.code Lib.Math.abs.name Lib.Math.abs.code 1 (some .int), Cond.fieldLink RX6 15 "WordFletchers$Told" "ear" "[I"]
def wsX7_fewestToBeHeard : List Cond := .code yX7_fewestToBeHeard cX7_fewestToBeHeard 5 (some .int) :: ((wsX7_fewestToBeHeard_r1 ++ (wsX7_fewestToBeHeard_r2 ++ wsX7_fewestToBeHeard_r3)) ++ wsX70 ++ wsX60 ++ wsX20)
def wsX7_prepareAllotment_r1 : List Cond := [Cond.fieldLink RX7 66 "WordFletchers" "allotment" "LWordFletchers$Allotment;", Cond.fieldLink RX7 310 "WordFletchers$Allotment" "members" "I", Cond.fieldLink RX7 29 "WordFletchers" "told" "LWordFletchers$Told;", Cond.fieldLink RX7 219 "WordFletchers$Told" "sayings" "I", Cond.methodLink RX7 222 yX7_isIn, Cond.static yX7_isIn, Cond.initialized RX7, Cond.code yX7_isIn cX7_isIn 2 (some .boolean), Cond.methodLink RX7 313 yX0_addMember, Cond.instanceMethod yX0_addMember, Cond.selects RX0 yX0_addMember yX0_addMember, Cond.initialized RX0, Cond.code yX0_addMember cX0_addMember 2 (some .int), Cond.fieldLink RX0 9 "WordFletchers$Allotment" "saying" "[I", Cond.fieldLink RX0 21 "WordFletchers$Allotment" "members" "I", Cond.methodLink RX7 316 yX7_fewestToBeHeard, Cond.instanceMethod yX7_fewestToBeHeard, Cond.selects RX7 yX7_fewestToBeHeard yX7_fewestToBeHeard, Cond.code yX7_fewestToBeHeard cX7_fewestToBeHeard 5 (some .int), Cond.fieldLink RX7 114 "WordFletchers$Told" "first" "[I", Cond.methodLink RX7 145 yX7_shotOf, Cond.static yX7_shotOf, Cond.code yX7_shotOf cX7_shotOf 3 (some .int), Cond.methodLink RX7 149 yX7_landingNow]
def wsX7_prepareAllotment_r2 : List Cond := [Cond.instanceMethod yX7_landingNow, Cond.selects RX7 yX7_landingNow yX7_landingNow, Cond.code yX7_landingNow cX7_landingNow 4 (some .int), Cond.fieldLink RX7 39 "WordFletchers" "moment" "LWordFletchers$Moment;", Cond.fieldLink RX7 177 "WordFletchers$Moment" "damp" "I", Cond.methodLink RX7 122 yX7_windIn, Cond.instanceMethod yX7_windIn, Cond.selects RX7 yX7_windIn yX7_windIn, Cond.code yX7_windIn cX7_windIn 2 (some .int), Cond.fieldLink RX7 174 "WordFletchers$Moment" "hour" "I", Cond.methodLink RX7 301 yX6_windOf, Cond.instanceMethod yX6_windOf, Cond.selects RX6 yX6_windOf yX6_windOf, Cond.initialized RX6, Cond.code yX6_windOf cX6_windOf 2 (some .int), Cond.fieldLink RX6 27 "WordFletchers$Told" "winds" "[I", Cond.methodLink RX6 46 Lib.Math.max.name, Cond.static Lib.Math.max.name, Cond.initialized "java/lang/Math", Cond.code Lib.Math.max.name Lib.Math.max.code 2 (some .int), Cond.methodLink RX6 52 yX6_windCount, Cond.instanceMethod yX6_windCount, Cond.selects RX6 yX6_windCount yX6_windCount, Cond.code yX6_windCount cX6_windCount 1 (some .int)]
def wsX7_prepareAllotment_r3 : List Cond := [Cond.fieldLink RX6 43 "WordFletchers$Told" "windsTold" "I", Cond.methodLink RX7 203 yX6_landing, Cond.instanceMethod yX6_landing, Cond.selects RX6 yX6_landing yX6_landing, Cond.code yX6_landing cX6_landing 13 (some .int), Cond.fieldLink RX6 9 "WordFletchers$Told" "place" "[I", Cond.methodLink RX6 59 yX6_flight, Cond.instanceMethod yX6_flight, Cond.selects RX6 yX6_flight yX6_flight, Cond.code yX6_flight cX6_flight 6 (some .int), Cond.fieldLink RX6 21 "WordFletchers$Told" "twist" "[I", Cond.fieldLink RX6 18 "WordFletchers$Told" "weight" "[I", Cond.methodLink RX7 152 yX6_hearers, Cond.instanceMethod yX6_hearers, Cond.selects RX6 yX6_hearers yX6_hearers, Cond.code yX6_hearers cX6_hearers 5 (some .int), Cond.fieldLink RX6 36 "WordFletchers$Told" "people" "I", Cond.methodLink RX6 74 yX6_hears, Cond.instanceMethod yX6_hears, Cond.selects RX6 yX6_hears yX6_hears, Cond.code yX6_hears cX6_hears 3 (some .boolean), Cond.methodLink RX6 70 Lib.Math.abs.name, Cond.static Lib.Math.abs.name, Cond.code Lib.Math.abs.name Lib.Math.abs.code 1 (some .int)]
def wsX7_prepareAllotment_r4 : List Cond := [Cond.fieldLink RX6 15 "WordFletchers$Told" "ear" "[I", Cond.methodLink RX7 319 yX0_setFewest, Cond.instanceMethod yX0_setFewest, Cond.selects RX0 yX0_setFewest yX0_setFewest, Cond.code yX0_setFewest cX0_setFewest 4 none, Cond.fieldLink RX0 15 "WordFletchers$Allotment" "fewest" "[I"]
def wsX7_prepareAllotment : List Cond := .code yX7_prepareAllotment cX7_prepareAllotment 5 none :: ((wsX7_prepareAllotment_r1 ++ (wsX7_prepareAllotment_r2 ++ (wsX7_prepareAllotment_r3 ++ wsX7_prepareAllotment_r4))) ++ wsX70 ++ wsX00 ++ wsX60 ++ wsX20)
def wsX7_allot_r1 : List Cond := [Cond.fieldLink RX7 29 "WordFletchers" "told" "LWordFletchers$Told;", Cond.fieldLink RX7 219 "WordFletchers$Told" "sayings" "I", Cond.fieldLink RX7 66 "WordFletchers" "allotment" "LWordFletchers$Allotment;", Cond.fieldLink RX7 39 "WordFletchers" "moment" "LWordFletchers$Moment;", Cond.fieldLink RX7 142 "WordFletchers$Moment" "feathers" "[I", Cond.fieldLink RX7 232 "WordFletchers$Allotment" "total" "I", Cond.methodLink RX7 216 yX6_isSetOfSayings, Cond.instanceMethod yX6_isSetOfSayings, Cond.selects RX6 yX6_isSetOfSayings yX6_isSetOfSayings, Cond.initialized RX6, Cond.code yX6_isSetOfSayings cX6_isSetOfSayings 2 (some .boolean), Cond.fieldLink RX6 40 "WordFletchers$Told" "sayings" "I", Cond.methodLink RX7 222 yX7_isIn, Cond.static yX7_isIn, Cond.initialized RX7, Cond.code yX7_isIn cX7_isIn 2 (some .boolean), Cond.methodLink RX7 225 yX7_prepareAllotment, Cond.instanceMethod yX7_prepareAllotment, Cond.selects RX7 yX7_prepareAllotment yX7_prepareAllotment, Cond.code yX7_prepareAllotment cX7_prepareAllotment 5 none, Cond.fieldLink RX7 310 "WordFletchers$Allotment" "members" "I", Cond.methodLink RX7 313 yX0_addMember, Cond.instanceMethod yX0_addMember, Cond.selects RX0 yX0_addMember yX0_addMember]
def wsX7_allot_r2 : List Cond := [Cond.initialized RX0, Cond.code yX0_addMember cX0_addMember 2 (some .int), Cond.fieldLink RX0 9 "WordFletchers$Allotment" "saying" "[I", Cond.fieldLink RX0 21 "WordFletchers$Allotment" "members" "I", Cond.methodLink RX7 316 yX7_fewestToBeHeard, Cond.instanceMethod yX7_fewestToBeHeard, Cond.selects RX7 yX7_fewestToBeHeard yX7_fewestToBeHeard, Cond.code yX7_fewestToBeHeard cX7_fewestToBeHeard 5 (some .int), Cond.fieldLink RX7 114 "WordFletchers$Told" "first" "[I", Cond.methodLink RX7 145 yX7_shotOf, Cond.static yX7_shotOf, Cond.code yX7_shotOf cX7_shotOf 3 (some .int), Cond.methodLink RX7 149 yX7_landingNow, Cond.instanceMethod yX7_landingNow, Cond.selects RX7 yX7_landingNow yX7_landingNow, Cond.code yX7_landingNow cX7_landingNow 4 (some .int), Cond.fieldLink RX7 177 "WordFletchers$Moment" "damp" "I", Cond.methodLink RX7 122 yX7_windIn, Cond.instanceMethod yX7_windIn, Cond.selects RX7 yX7_windIn yX7_windIn, Cond.code yX7_windIn cX7_windIn 2 (some .int), Cond.fieldLink RX7 174 "WordFletchers$Moment" "hour" "I", Cond.methodLink RX7 301 yX6_windOf, Cond.instanceMethod yX6_windOf]
def wsX7_allot_r3 : List Cond := [Cond.selects RX6 yX6_windOf yX6_windOf, Cond.code yX6_windOf cX6_windOf 2 (some .int), Cond.fieldLink RX6 27 "WordFletchers$Told" "winds" "[I", Cond.methodLink RX6 46 Lib.Math.max.name, Cond.static Lib.Math.max.name, Cond.initialized "java/lang/Math", Cond.code Lib.Math.max.name Lib.Math.max.code 2 (some .int), Cond.methodLink RX6 52 yX6_windCount, Cond.instanceMethod yX6_windCount, Cond.selects RX6 yX6_windCount yX6_windCount, Cond.code yX6_windCount cX6_windCount 1 (some .int), Cond.fieldLink RX6 43 "WordFletchers$Told" "windsTold" "I", Cond.methodLink RX7 203 yX6_landing, Cond.instanceMethod yX6_landing, Cond.selects RX6 yX6_landing yX6_landing, Cond.code yX6_landing cX6_landing 13 (some .int), Cond.fieldLink RX6 9 "WordFletchers$Told" "place" "[I", Cond.methodLink RX6 59 yX6_flight, Cond.instanceMethod yX6_flight, Cond.selects RX6 yX6_flight yX6_flight, Cond.code yX6_flight cX6_flight 6 (some .int), Cond.fieldLink RX6 21 "WordFletchers$Told" "twist" "[I", Cond.fieldLink RX6 18 "WordFletchers$Told" "weight" "[I", Cond.methodLink RX7 152 yX6_hearers]
def wsX7_allot_r4 : List Cond := [Cond.instanceMethod yX6_hearers, Cond.selects RX6 yX6_hearers yX6_hearers, Cond.code yX6_hearers cX6_hearers 5 (some .int), Cond.fieldLink RX6 36 "WordFletchers$Told" "people" "I", Cond.methodLink RX6 74 yX6_hears, Cond.instanceMethod yX6_hears, Cond.selects RX6 yX6_hears yX6_hears, Cond.code yX6_hears cX6_hears 3 (some .boolean), Cond.methodLink RX6 70 Lib.Math.abs.name, Cond.static Lib.Math.abs.name, Cond.code Lib.Math.abs.name Lib.Math.abs.code 1 (some .int), Cond.fieldLink RX6 15 "WordFletchers$Told" "ear" "[I", Cond.methodLink RX7 319 yX0_setFewest, Cond.instanceMethod yX0_setFewest, Cond.selects RX0 yX0_setFewest yX0_setFewest, Cond.code yX0_setFewest cX0_setFewest 4 none, Cond.fieldLink RX0 15 "WordFletchers$Allotment" "fewest" "[I", Cond.methodLink RX7 228 yX0_search, Cond.instanceMethod yX0_search, Cond.selects RX0 yX0_search yX0_search, Cond.code yX0_search cX0_search 4 (some .boolean), Cond.fieldLink RX0 25 "WordFletchers$Allotment" "total" "I", Cond.fieldLink RX0 32 "WordFletchers$Allotment" "way" "I", Cond.methodLink RX0 28 yX0_costOf]
def wsX7_allot_r5 : List Cond := [Cond.instanceMethod yX0_costOf, Cond.selects RX0 yX0_costOf yX0_costOf, Cond.code yX0_costOf cX0_costOf 7 (some .int), Cond.fieldLink RX0 18 "WordFletchers$Allotment" "used" "[I", Cond.methodLink RX0 35 yX0_kindOf, Cond.instanceMethod yX0_kindOf, Cond.selects RX0 yX0_kindOf yX0_kindOf, Cond.code yX0_kindOf cX0_kindOf 3 (some .int), Cond.methodLink RX7 235 yX0_shareOf, Cond.instanceMethod yX0_shareOf, Cond.selects RX0 yX0_shareOf yX0_shareOf, Cond.code yX0_shareOf cX0_shareOf 4 (some .int)]
def wsX7_allot : List Cond := .code yX7_allot cX7_allot 3 (some .int) :: ((wsX7_allot_r1 ++ (wsX7_allot_r2 ++ (wsX7_allot_r3 ++ (wsX7_allot_r4 ++ wsX7_allot_r5)))) ++ wsX70 ++ wsX60 ++ wsX20 ++ wsX00)
def wsX7_commonDivisor : List Cond := .code yX7_commonDivisor cX7_commonDivisor 3 (some .int) :: ([.methodLink RX7 248 Lib.Math.max.name, .static Lib.Math.max.name, .initialized "java/lang/Math", .code Lib.Math.max.name Lib.Math.max.code 2 (some .int)])
def wsX7_odds_r1 : List Cond := [Cond.fieldLink RX7 29 "WordFletchers" "told" "LWordFletchers$Told;", Cond.fieldLink RX7 242 "WordFletchers$Told" "winds" "[I", Cond.fieldLink RX7 39 "WordFletchers" "moment" "LWordFletchers$Moment;", Cond.fieldLink RX7 177 "WordFletchers$Moment" "damp" "I", Cond.methodLink RX7 248 Lib.Math.max.name, Cond.static Lib.Math.max.name, Cond.initialized "java/lang/Math", Cond.code Lib.Math.max.name Lib.Math.max.code 2 (some .int), Cond.methodLink RX7 191 yX7_areTwo, Cond.instanceMethod yX7_areTwo, Cond.selects RX7 yX7_areTwo yX7_areTwo, Cond.initialized RX7, Cond.code yX7_areTwo cX7_areTwo 3 (some .boolean), Cond.methodLink RX7 92 yX6_hasOne, Cond.instanceMethod yX6_hasOne, Cond.selects RX6 yX6_hasOne yX6_hasOne, Cond.initialized RX6, Cond.code yX6_hasOne cX6_hasOne 2 (some .boolean), Cond.fieldLink RX6 36 "WordFletchers$Told" "people" "I", Cond.methodLink RX7 105 yX6_hasSaying, Cond.instanceMethod yX6_hasSaying, Cond.selects RX6 yX6_hasSaying yX6_hasSaying, Cond.code yX6_hasSaying cX6_hasSaying 2 (some .boolean), Cond.fieldLink RX6 40 "WordFletchers$Told" "sayings" "I"]
def wsX7_odds_r2 : List Cond := [Cond.methodLink RX7 200 yX7_isShot, Cond.static yX7_isShot, Cond.code yX7_isShot cX7_isShot 1 (some .boolean), Cond.methodLink RX7 238 yX6_windCount, Cond.instanceMethod yX6_windCount, Cond.selects RX6 yX6_windCount yX6_windCount, Cond.code yX6_windCount cX6_windCount 1 (some .int), Cond.fieldLink RX6 43 "WordFletchers$Told" "windsTold" "I", Cond.methodLink RX6 46 Lib.Math.max.name, Cond.methodLink RX7 203 yX6_landing, Cond.instanceMethod yX6_landing, Cond.selects RX6 yX6_landing yX6_landing, Cond.code yX6_landing cX6_landing 13 (some .int), Cond.fieldLink RX6 9 "WordFletchers$Told" "place" "[I", Cond.methodLink RX6 59 yX6_flight, Cond.instanceMethod yX6_flight, Cond.selects RX6 yX6_flight yX6_flight, Cond.code yX6_flight cX6_flight 6 (some .int), Cond.fieldLink RX6 21 "WordFletchers$Told" "twist" "[I", Cond.fieldLink RX6 18 "WordFletchers$Told" "weight" "[I", Cond.methodLink RX7 197 yX6_hears, Cond.instanceMethod yX6_hears, Cond.selects RX6 yX6_hears yX6_hears, Cond.code yX6_hears cX6_hears 3 (some .boolean)]
def wsX7_odds_r3 : List Cond := [Cond.methodLink RX6 70 Lib.Math.abs.name, Cond.static Lib.Math.abs.name, Cond.code Lib.Math.abs.name Lib.Math.abs.code 1 (some .int), Cond.fieldLink RX6 15 "WordFletchers$Told" "ear" "[I", Cond.methodLink RX7 245 yX7_commonDivisor, Cond.static yX7_commonDivisor, Cond.code yX7_commonDivisor cX7_commonDivisor 3 (some .int)]
def wsX7_odds : List Cond := .code yX7_odds cX7_odds 8 (some .int) :: ((wsX7_odds_r1 ++ (wsX7_odds_r2 ++ wsX7_odds_r3)) ++ wsX70 ++ wsX60 ++ wsX20)
def wsX7_saw_r1 : List Cond := [Cond.fieldLink RX7 29 "WordFletchers" "told" "LWordFletchers$Told;", Cond.fieldLink RX7 59 "WordFletchers" "sightings" "LWordFletchers$Sightings;", Cond.fieldLink RX7 251 "WordFletchers$Sightings" "size" "I", Cond.fieldLink RX7 39 "WordFletchers" "moment" "LWordFletchers$Moment;", Cond.fieldLink RX7 177 "WordFletchers$Moment" "damp" "I", Cond.methodLink RX7 105 yX6_hasSaying, Cond.instanceMethod yX6_hasSaying, Cond.selects RX6 yX6_hasSaying yX6_hasSaying, Cond.initialized RX6, Cond.code yX6_hasSaying cX6_hasSaying 2 (some .boolean), Cond.fieldLink RX6 40 "WordFletchers$Told" "sayings" "I", Cond.methodLink RX7 122 yX7_windIn, Cond.instanceMethod yX7_windIn, Cond.selects RX7 yX7_windIn yX7_windIn, Cond.initialized RX7, Cond.code yX7_windIn cX7_windIn 2 (some .int), Cond.fieldLink RX7 174 "WordFletchers$Moment" "hour" "I", Cond.methodLink RX7 301 yX6_windOf, Cond.instanceMethod yX6_windOf, Cond.selects RX6 yX6_windOf yX6_windOf, Cond.code yX6_windOf cX6_windOf 2 (some .int), Cond.fieldLink RX6 27 "WordFletchers$Told" "winds" "[I", Cond.methodLink RX6 46 Lib.Math.max.name, Cond.static Lib.Math.max.name]
def wsX7_saw_r2 : List Cond := [Cond.initialized "java/lang/Math", Cond.code Lib.Math.max.name Lib.Math.max.code 2 (some .int), Cond.methodLink RX6 52 yX6_windCount, Cond.instanceMethod yX6_windCount, Cond.selects RX6 yX6_windCount yX6_windCount, Cond.code yX6_windCount cX6_windCount 1 (some .int), Cond.fieldLink RX6 43 "WordFletchers$Told" "windsTold" "I", Cond.methodLink RX7 254 yX4_add, Cond.instanceMethod yX4_add, Cond.selects RX4 yX4_add yX4_add, Cond.initialized RX4, Cond.code yX4_add cX4_add 5 none, Cond.fieldLink RX4 9 "WordFletchers$Sightings" "saying" "[I", Cond.fieldLink RX4 24 "WordFletchers$Sightings" "size" "I", Cond.fieldLink RX4 15 "WordFletchers$Sightings" "place" "[I", Cond.fieldLink RX4 18 "WordFletchers$Sightings" "wind" "[I", Cond.fieldLink RX4 21 "WordFletchers$Sightings" "damp" "[I"]
def wsX7_saw : List Cond := .code yX7_saw cX7_saw 3 (some .int) :: ((wsX7_saw_r1 ++ wsX7_saw_r2) ++ wsX70 ++ wsX40 ++ wsX20 ++ wsX60)
def wsX7_forget : List Cond := .code yX7_forget cX7_forget 2 (some .int) :: ([.fieldLink RX7 59 "WordFletchers" "sightings" "LWordFletchers$Sightings;", .fieldLink RX7 251 "WordFletchers$Sightings" "size" "I"] ++ wsX70 ++ wsX40)
def wsX7_canBeAllSeen_r1 : List Cond := [Cond.fieldLink RX7 59 "WordFletchers" "sightings" "LWordFletchers$Sightings;", Cond.fieldLink RX7 251 "WordFletchers$Sightings" "size" "I", Cond.fieldLink RX7 326 "WordFletchers$Sightings" "saying" "[I", Cond.fieldLink RX7 29 "WordFletchers" "told" "LWordFletchers$Told;", Cond.fieldLink RX7 329 "WordFletchers$Sightings" "wind" "[I", Cond.fieldLink RX7 332 "WordFletchers$Sightings" "damp" "[I", Cond.fieldLink RX7 338 "WordFletchers$Sightings" "place" "[I", Cond.methodLink RX7 334 yX6_landings, Cond.instanceMethod yX6_landings, Cond.selects RX6 yX6_landings yX6_landings, Cond.initialized RX6, Cond.code yX6_landings cX6_landings 11 (some .int), Cond.methodLink RX6 66 yX6_landing, Cond.instanceMethod yX6_landing, Cond.selects RX6 yX6_landing yX6_landing, Cond.code yX6_landing cX6_landing 13 (some .int), Cond.fieldLink RX6 9 "WordFletchers$Told" "place" "[I", Cond.methodLink RX6 59 yX6_flight, Cond.instanceMethod yX6_flight, Cond.selects RX6 yX6_flight yX6_flight, Cond.code yX6_flight cX6_flight 6 (some .int), Cond.fieldLink RX6 21 "WordFletchers$Told" "twist" "[I", Cond.fieldLink RX6 18 "WordFletchers$Told" "weight" "[I", Cond.methodLink RX6 46 Lib.Math.max.name]
def wsX7_canBeAllSeen_r2 : List Cond := [Cond.static Lib.Math.max.name, Cond.initialized "java/lang/Math", Cond.code Lib.Math.max.name Lib.Math.max.code 2 (some .int), Cond.methodLink RX7 222 yX7_isIn, Cond.static yX7_isIn, Cond.initialized RX7, Cond.code yX7_isIn cX7_isIn 2 (some .boolean)]
def wsX7_canBeAllSeen : List Cond := .code yX7_canBeAllSeen cX7_canBeAllSeen 5 (some .boolean) :: ((wsX7_canBeAllSeen_r1 ++ wsX7_canBeAllSeen_r2) ++ wsX70 ++ wsX40 ++ wsX60)
def wsX7_suspects_r1 : List Cond := [Cond.fieldLink RX7 29 "WordFletchers" "told" "LWordFletchers$Told;", Cond.fieldLink RX7 298 "WordFletchers$Told" "people" "I", Cond.methodLink RX7 323 yX7_canBeAllSeen, Cond.instanceMethod yX7_canBeAllSeen, Cond.selects RX7 yX7_canBeAllSeen yX7_canBeAllSeen, Cond.initialized RX7, Cond.code yX7_canBeAllSeen cX7_canBeAllSeen 5 (some .boolean), Cond.fieldLink RX7 59 "WordFletchers" "sightings" "LWordFletchers$Sightings;", Cond.fieldLink RX7 251 "WordFletchers$Sightings" "size" "I", Cond.fieldLink RX7 326 "WordFletchers$Sightings" "saying" "[I", Cond.fieldLink RX7 329 "WordFletchers$Sightings" "wind" "[I", Cond.fieldLink RX7 332 "WordFletchers$Sightings" "damp" "[I", Cond.fieldLink RX7 338 "WordFletchers$Sightings" "place" "[I", Cond.methodLink RX7 334 yX6_landings, Cond.instanceMethod yX6_landings, Cond.selects RX6 yX6_landings yX6_landings, Cond.initialized RX6, Cond.code yX6_landings cX6_landings 11 (some .int), Cond.methodLink RX6 66 yX6_landing, Cond.instanceMethod yX6_landing, Cond.selects RX6 yX6_landing yX6_landing, Cond.code yX6_landing cX6_landing 13 (some .int), Cond.fieldLink RX6 9 "WordFletchers$Told" "place" "[I", Cond.methodLink RX6 59 yX6_flight]
def wsX7_suspects_r2 : List Cond := [Cond.instanceMethod yX6_flight, Cond.selects RX6 yX6_flight yX6_flight, Cond.code yX6_flight cX6_flight 6 (some .int), Cond.fieldLink RX6 21 "WordFletchers$Told" "twist" "[I", Cond.fieldLink RX6 18 "WordFletchers$Told" "weight" "[I", Cond.methodLink RX6 46 Lib.Math.max.name, Cond.static Lib.Math.max.name, Cond.initialized "java/lang/Math", Cond.code Lib.Math.max.name Lib.Math.max.code 2 (some .int), Cond.methodLink RX7 222 yX7_isIn, Cond.static yX7_isIn, Cond.code yX7_isIn cX7_isIn 2 (some .boolean)]
def wsX7_suspects : List Cond := .code yX7_suspects cX7_suspects 3 (some .int) :: ((wsX7_suspects_r1 ++ wsX7_suspects_r2) ++ wsX70 ++ wsX60 ++ wsX40)
def wsX7_who_r1 : List Cond := [Cond.methodLink RX7 258 yX7_suspects, Cond.instanceMethod yX7_suspects, Cond.selects RX7 yX7_suspects yX7_suspects, Cond.initialized RX7, Cond.code yX7_suspects cX7_suspects 3 (some .int), Cond.fieldLink RX7 29 "WordFletchers" "told" "LWordFletchers$Told;", Cond.fieldLink RX7 298 "WordFletchers$Told" "people" "I", Cond.methodLink RX7 323 yX7_canBeAllSeen, Cond.instanceMethod yX7_canBeAllSeen, Cond.selects RX7 yX7_canBeAllSeen yX7_canBeAllSeen, Cond.code yX7_canBeAllSeen cX7_canBeAllSeen 5 (some .boolean), Cond.fieldLink RX7 59 "WordFletchers" "sightings" "LWordFletchers$Sightings;", Cond.fieldLink RX7 251 "WordFletchers$Sightings" "size" "I", Cond.fieldLink RX7 326 "WordFletchers$Sightings" "saying" "[I", Cond.fieldLink RX7 329 "WordFletchers$Sightings" "wind" "[I", Cond.fieldLink RX7 332 "WordFletchers$Sightings" "damp" "[I", Cond.fieldLink RX7 338 "WordFletchers$Sightings" "place" "[I", Cond.methodLink RX7 334 yX6_landings, Cond.instanceMethod yX6_landings, Cond.selects RX6 yX6_landings yX6_landings, Cond.initialized RX6, Cond.code yX6_landings cX6_landings 11 (some .int), Cond.methodLink RX6 66 yX6_landing, Cond.instanceMethod yX6_landing]
def wsX7_who_r2 : List Cond := [Cond.selects RX6 yX6_landing yX6_landing, Cond.code yX6_landing cX6_landing 13 (some .int), Cond.fieldLink RX6 9 "WordFletchers$Told" "place" "[I", Cond.methodLink RX6 59 yX6_flight, Cond.instanceMethod yX6_flight, Cond.selects RX6 yX6_flight yX6_flight, Cond.code yX6_flight cX6_flight 6 (some .int), Cond.fieldLink RX6 21 "WordFletchers$Told" "twist" "[I", Cond.fieldLink RX6 18 "WordFletchers$Told" "weight" "[I", Cond.methodLink RX6 46 Lib.Math.max.name, Cond.static Lib.Math.max.name, Cond.initialized "java/lang/Math", Cond.code Lib.Math.max.name Lib.Math.max.code 2 (some .int), Cond.methodLink RX7 222 yX7_isIn, Cond.static yX7_isIn, Cond.code yX7_isIn cX7_isIn 2 (some .boolean)]
def wsX7_who : List Cond := .code yX7_who cX7_who 1 (some .int) :: ((wsX7_who_r1 ++ wsX7_who_r2) ++ wsX70 ++ wsX60 ++ wsX40)
def wsJ6_bitCount_0f7a4 : List Cond := .code yJ6_bitCount_0f7a4 cJ6_bitCount_0f7a4 1 (some .int) :: ([.constant RJ6 265 (1431655765), .constant RJ6 266 (858993459), .constant RJ6 267 (252645135)])
def wsX7_howManyReach : List Cond := .code yX7_howManyReach cX7_howManyReach 5 (some .int) :: ([.fieldLink RX7 29 "WordFletchers" "told" "LWordFletchers$Told;", .fieldLink RX7 298 "WordFletchers$Told" "people" "I", .fieldLink RX7 73 "WordFletchers" "placesReached" "[I", .methodLink RX7 222 yX7_isIn, .static yX7_isIn, .initialized RX7, .code yX7_isIn cX7_isIn 2 (some .boolean)] ++ wsX70 ++ wsX60)
def wsX7_mostAlike_r1 : List Cond := [Cond.fieldLink RX7 29 "WordFletchers" "told" "LWordFletchers$Told;", Cond.fieldLink RX7 298 "WordFletchers$Told" "people" "I", Cond.fieldLink RX7 73 "WordFletchers" "placesReached" "[I", Cond.fieldLink RX7 39 "WordFletchers" "moment" "LWordFletchers$Moment;", Cond.fieldLink RX7 177 "WordFletchers$Moment" "damp" "I", Cond.methodLink RX7 248 Lib.Math.max.name, Cond.static Lib.Math.max.name, Cond.initialized "java/lang/Math", Cond.code Lib.Math.max.name Lib.Math.max.code 2 (some .int), Cond.methodLink RX7 122 yX7_windIn, Cond.instanceMethod yX7_windIn, Cond.selects RX7 yX7_windIn yX7_windIn, Cond.initialized RX7, Cond.code yX7_windIn cX7_windIn 2 (some .int), Cond.fieldLink RX7 174 "WordFletchers$Moment" "hour" "I", Cond.methodLink RX7 301 yX6_windOf, Cond.instanceMethod yX6_windOf, Cond.selects RX6 yX6_windOf yX6_windOf, Cond.initialized RX6, Cond.code yX6_windOf cX6_windOf 2 (some .int), Cond.fieldLink RX6 27 "WordFletchers$Told" "winds" "[I", Cond.methodLink RX6 46 Lib.Math.max.name, Cond.methodLink RX6 52 yX6_windCount, Cond.instanceMethod yX6_windCount]
def wsX7_mostAlike_r2 : List Cond := [Cond.selects RX6 yX6_windCount yX6_windCount, Cond.code yX6_windCount cX6_windCount 1 (some .int), Cond.fieldLink RX6 43 "WordFletchers$Told" "windsTold" "I", Cond.methodLink RX7 334 yX6_landings, Cond.instanceMethod yX6_landings, Cond.selects RX6 yX6_landings yX6_landings, Cond.code yX6_landings cX6_landings 11 (some .int), Cond.methodLink RX6 66 yX6_landing, Cond.instanceMethod yX6_landing, Cond.selects RX6 yX6_landing yX6_landing, Cond.code yX6_landing cX6_landing 13 (some .int), Cond.fieldLink RX6 9 "WordFletchers$Told" "place" "[I", Cond.methodLink RX6 59 yX6_flight, Cond.instanceMethod yX6_flight, Cond.selects RX6 yX6_flight yX6_flight, Cond.code yX6_flight cX6_flight 6 (some .int), Cond.fieldLink RX6 21 "WordFletchers$Told" "twist" "[I", Cond.fieldLink RX6 18 "WordFletchers$Told" "weight" "[I", Cond.methodLink RX7 261 yJ6_bitCount_0f7a4, Cond.static yJ6_bitCount_0f7a4, Cond.initialized RJ6, Cond.code yJ6_bitCount_0f7a4 cJ6_bitCount_0f7a4 1 (some .int), Cond.constant RJ6 265 (1431655765), Cond.constant RJ6 266 (858993459)]
def wsX7_mostAlike_r3 : List Cond := [Cond.constant RJ6 267 (252645135), Cond.methodLink RX7 339 yX7_howManyReach, Cond.instanceMethod yX7_howManyReach, Cond.selects RX7 yX7_howManyReach yX7_howManyReach, Cond.code yX7_howManyReach cX7_howManyReach 5 (some .int), Cond.methodLink RX7 222 yX7_isIn, Cond.static yX7_isIn, Cond.code yX7_isIn cX7_isIn 2 (some .boolean)]
def wsX7_mostAlike : List Cond := .code yX7_mostAlike cX7_mostAlike 5 (some .int) :: ((wsX7_mostAlike_r1 ++ (wsX7_mostAlike_r2 ++ wsX7_mostAlike_r3)) ++ wsX70 ++ wsX60 ++ wsX20)
def wsX7_ask_r1 : List Cond := [Cond.fieldLink RX7 29 "WordFletchers" "told" "LWordFletchers$Told;", Cond.fieldLink RX7 219 "WordFletchers$Told" "sayings" "I", Cond.methodLink RX7 258 yX7_suspects, Cond.instanceMethod yX7_suspects, Cond.selects RX7 yX7_suspects yX7_suspects, Cond.initialized RX7, Cond.code yX7_suspects cX7_suspects 3 (some .int), Cond.fieldLink RX7 298 "WordFletchers$Told" "people" "I", Cond.methodLink RX7 323 yX7_canBeAllSeen, Cond.instanceMethod yX7_canBeAllSeen, Cond.selects RX7 yX7_canBeAllSeen yX7_canBeAllSeen, Cond.code yX7_canBeAllSeen cX7_canBeAllSeen 5 (some .boolean), Cond.fieldLink RX7 59 "WordFletchers" "sightings" "LWordFletchers$Sightings;", Cond.fieldLink RX7 251 "WordFletchers$Sightings" "size" "I", Cond.fieldLink RX7 326 "WordFletchers$Sightings" "saying" "[I", Cond.fieldLink RX7 329 "WordFletchers$Sightings" "wind" "[I", Cond.fieldLink RX7 332 "WordFletchers$Sightings" "damp" "[I", Cond.fieldLink RX7 338 "WordFletchers$Sightings" "place" "[I", Cond.methodLink RX7 334 yX6_landings, Cond.instanceMethod yX6_landings, Cond.selects RX6 yX6_landings yX6_landings, Cond.initialized RX6, Cond.code yX6_landings cX6_landings 11 (some .int), Cond.methodLink RX6 66 yX6_landing]
def wsX7_ask_r2 : List Cond := [Cond.instanceMethod yX6_landing, Cond.selects RX6 yX6_landing yX6_landing, Cond.code yX6_landing cX6_landing 13 (some .int), Cond.fieldLink RX6 9 "WordFletchers$Told" "place" "[I", Cond.methodLink RX6 59 yX6_flight, Cond.instanceMethod yX6_flight, Cond.selects RX6 yX6_flight yX6_flight, Cond.code yX6_flight cX6_flight 6 (some .int), Cond.fieldLink RX6 21 "WordFletchers$Told" "twist" "[I", Cond.fieldLink RX6 18 "WordFletchers$Told" "weight" "[I", Cond.methodLink RX6 46 Lib.Math.max.name, Cond.static Lib.Math.max.name, Cond.initialized "java/lang/Math", Cond.code Lib.Math.max.name Lib.Math.max.code 2 (some .int), Cond.methodLink RX7 222 yX7_isIn, Cond.static yX7_isIn, Cond.code yX7_isIn cX7_isIn 2 (some .boolean), Cond.methodLink RX7 261 yJ6_bitCount_0f7a4, Cond.static yJ6_bitCount_0f7a4, Cond.initialized RJ6, Cond.code yJ6_bitCount_0f7a4 cJ6_bitCount_0f7a4 1 (some .int), Cond.constant RJ6 265 (1431655765), Cond.constant RJ6 266 (858993459), Cond.constant RJ6 267 (252645135)]
def wsX7_ask_r3 : List Cond := [Cond.methodLink RX7 266 yX7_mostAlike, Cond.instanceMethod yX7_mostAlike, Cond.selects RX7 yX7_mostAlike yX7_mostAlike, Cond.code yX7_mostAlike cX7_mostAlike 5 (some .int), Cond.fieldLink RX7 73 "WordFletchers" "placesReached" "[I", Cond.fieldLink RX7 39 "WordFletchers" "moment" "LWordFletchers$Moment;", Cond.fieldLink RX7 177 "WordFletchers$Moment" "damp" "I", Cond.methodLink RX7 248 Lib.Math.max.name, Cond.methodLink RX7 122 yX7_windIn, Cond.instanceMethod yX7_windIn, Cond.selects RX7 yX7_windIn yX7_windIn, Cond.code yX7_windIn cX7_windIn 2 (some .int), Cond.fieldLink RX7 174 "WordFletchers$Moment" "hour" "I", Cond.methodLink RX7 301 yX6_windOf, Cond.instanceMethod yX6_windOf, Cond.selects RX6 yX6_windOf yX6_windOf, Cond.code yX6_windOf cX6_windOf 2 (some .int), Cond.fieldLink RX6 27 "WordFletchers$Told" "winds" "[I", Cond.methodLink RX6 52 yX6_windCount, Cond.instanceMethod yX6_windCount, Cond.selects RX6 yX6_windCount yX6_windCount, Cond.code yX6_windCount cX6_windCount 1 (some .int), Cond.fieldLink RX6 43 "WordFletchers$Told" "windsTold" "I", Cond.methodLink RX7 339 yX7_howManyReach]
def wsX7_ask_r4 : List Cond := [Cond.instanceMethod yX7_howManyReach, Cond.selects RX7 yX7_howManyReach yX7_howManyReach, Cond.code yX7_howManyReach cX7_howManyReach 5 (some .int)]
def wsX7_ask : List Cond := .code yX7_ask cX7_ask 6 (some .int) :: ((wsX7_ask_r1 ++ (wsX7_ask_r2 ++ (wsX7_ask_r3 ++ wsX7_ask_r4))) ++ wsX70 ++ wsX60 ++ wsX40 ++ wsX20)
def wsX7_markOfOne : List Cond := .code yX7_markOfOne cX7_markOfOne 2 (some .int) :: ([.fieldLink RX7 76 "WordFletchers" "traced" "J", .fieldLink RX7 29 "WordFletchers" "told" "LWordFletchers$Told;", .fieldLink RX7 96 "WordFletchers$Told" "place" "[I"] ++ wsX70 ++ wsX60)
def wsX7_markOfSuitor : List Cond := .code yX7_markOfSuitor cX7_markOfSuitor 2 (some .int) :: ([.fieldLink RX7 76 "WordFletchers" "traced" "J", .constantLong RX7 342 (10), .fieldLink RX7 39 "WordFletchers" "moment" "LWordFletchers$Moment;", .fieldLink RX7 102 "WordFletchers$Moment" "knows" "[I", .methodLink RX7 269 yX7_markOfOne, .instanceMethod yX7_markOfOne, .selects RX7 yX7_markOfOne yX7_markOfOne, .initialized RX7, .code yX7_markOfOne cX7_markOfOne 2 (some .int), .fieldLink RX7 29 "WordFletchers" "told" "LWordFletchers$Told;", .fieldLink RX7 96 "WordFletchers$Told" "place" "[I", .methodLink RX7 261 yJ6_bitCount_0f7a4, .static yJ6_bitCount_0f7a4, .initialized RJ6, .code yJ6_bitCount_0f7a4 cJ6_bitCount_0f7a4 1 (some .int), .constant RJ6 265 (1431655765), .constant RJ6 266 (858993459), .constant RJ6 267 (252645135)] ++ wsX70 ++ wsX20 ++ wsX60)
def wsX7_markOfLiar : List Cond := .code yX7_markOfLiar cX7_markOfLiar 2 (some .int) :: ([.fieldLink RX7 76 "WordFletchers" "traced" "J", .constantLong RX7 344 (100), .fieldLink RX7 39 "WordFletchers" "moment" "LWordFletchers$Moment;", .fieldLink RX7 177 "WordFletchers$Moment" "damp" "I", .methodLink RX7 269 yX7_markOfOne, .instanceMethod yX7_markOfOne, .selects RX7 yX7_markOfOne yX7_markOfOne, .initialized RX7, .code yX7_markOfOne cX7_markOfOne 2 (some .int), .fieldLink RX7 29 "WordFletchers" "told" "LWordFletchers$Told;", .fieldLink RX7 96 "WordFletchers$Told" "place" "[I"] ++ wsX70 ++ wsX20 ++ wsX60)
def wsX7_markOfPoet : List Cond := .code yX7_markOfPoet cX7_markOfPoet 2 (some .int) :: ([.fieldLink RX7 76 "WordFletchers" "traced" "J", .constantLong RX7 346 (1000), .methodLink RX7 272 yX7_markOfSuitor, .instanceMethod yX7_markOfSuitor, .selects RX7 yX7_markOfSuitor yX7_markOfSuitor, .initialized RX7, .code yX7_markOfSuitor cX7_markOfSuitor 2 (some .int), .constantLong RX7 342 (10), .fieldLink RX7 39 "WordFletchers" "moment" "LWordFletchers$Moment;", .fieldLink RX7 102 "WordFletchers$Moment" "knows" "[I", .methodLink RX7 269 yX7_markOfOne, .instanceMethod yX7_markOfOne, .selects RX7 yX7_markOfOne yX7_markOfOne, .code yX7_markOfOne cX7_markOfOne 2 (some .int), .fieldLink RX7 29 "WordFletchers" "told" "LWordFletchers$Told;", .fieldLink RX7 96 "WordFletchers$Told" "place" "[I", .methodLink RX7 261 yJ6_bitCount_0f7a4, .static yJ6_bitCount_0f7a4, .initialized RJ6, .code yJ6_bitCount_0f7a4 cJ6_bitCount_0f7a4 1 (some .int), .constant RJ6 265 (1431655765), .constant RJ6 266 (858993459), .constant RJ6 267 (252645135)] ++ wsX70 ++ wsX20 ++ wsX60)
def wsX7_markOfLawyer : List Cond := .code yX7_markOfLawyer cX7_markOfLawyer 2 (some .int) :: ([.fieldLink RX7 76 "WordFletchers" "traced" "J", .constantLong RX7 348 (10000), .methodLink RX7 275 yX7_markOfLiar, .instanceMethod yX7_markOfLiar, .selects RX7 yX7_markOfLiar yX7_markOfLiar, .initialized RX7, .code yX7_markOfLiar cX7_markOfLiar 2 (some .int), .constantLong RX7 344 (100), .fieldLink RX7 39 "WordFletchers" "moment" "LWordFletchers$Moment;", .fieldLink RX7 177 "WordFletchers$Moment" "damp" "I", .methodLink RX7 269 yX7_markOfOne, .instanceMethod yX7_markOfOne, .selects RX7 yX7_markOfOne yX7_markOfOne, .code yX7_markOfOne cX7_markOfOne 2 (some .int), .fieldLink RX7 29 "WordFletchers" "told" "LWordFletchers$Told;", .fieldLink RX7 96 "WordFletchers$Told" "place" "[I"] ++ wsX70 ++ wsX20 ++ wsX60)
def wsX7_markOfGoose : List Cond := .code yX7_markOfGoose cX7_markOfGoose 2 (some .int) :: ([.fieldLink RX7 76 "WordFletchers" "traced" "J", .constantLong RX7 350 (100000), .fieldLink RX7 39 "WordFletchers" "moment" "LWordFletchers$Moment;", .methodLink RX7 269 yX7_markOfOne, .instanceMethod yX7_markOfOne, .selects RX7 yX7_markOfOne yX7_markOfOne, .initialized RX7, .code yX7_markOfOne cX7_markOfOne 2 (some .int), .fieldLink RX7 29 "WordFletchers" "told" "LWordFletchers$Told;", .fieldLink RX7 96 "WordFletchers$Told" "place" "[I", .methodLink RX7 352 yX2_allFeathers, .instanceMethod yX2_allFeathers, .selects RX2 yX2_allFeathers yX2_allFeathers, .initialized RX2, .code yX2_allFeathers cX2_allFeathers 3 (some .int), .fieldLink RX2 9 "WordFletchers$Moment" "feathers" "[I"] ++ wsX70 ++ wsX60 ++ wsX20)
def wsX7_mark_r1 : List Cond := [Cond.fieldLink RX7 29 "WordFletchers" "told" "LWordFletchers$Told;", Cond.constant RX7 121 (-1000000), Cond.methodLink RX7 92 yX6_hasOne, Cond.instanceMethod yX6_hasOne, Cond.selects RX6 yX6_hasOne yX6_hasOne, Cond.initialized RX6, Cond.code yX6_hasOne cX6_hasOne 2 (some .boolean), Cond.fieldLink RX6 36 "WordFletchers$Told" "people" "I", Cond.methodLink RX7 269 yX7_markOfOne, Cond.instanceMethod yX7_markOfOne, Cond.selects RX7 yX7_markOfOne yX7_markOfOne, Cond.initialized RX7, Cond.code yX7_markOfOne cX7_markOfOne 2 (some .int), Cond.fieldLink RX7 76 "WordFletchers" "traced" "J", Cond.fieldLink RX7 96 "WordFletchers$Told" "place" "[I", Cond.methodLink RX7 272 yX7_markOfSuitor, Cond.instanceMethod yX7_markOfSuitor, Cond.selects RX7 yX7_markOfSuitor yX7_markOfSuitor, Cond.code yX7_markOfSuitor cX7_markOfSuitor 2 (some .int), Cond.constantLong RX7 342 (10), Cond.fieldLink RX7 39 "WordFletchers" "moment" "LWordFletchers$Moment;", Cond.fieldLink RX7 102 "WordFletchers$Moment" "knows" "[I", Cond.methodLink RX7 261 yJ6_bitCount_0f7a4, Cond.static yJ6_bitCount_0f7a4]
def wsX7_mark_r2 : List Cond := [Cond.initialized RJ6, Cond.code yJ6_bitCount_0f7a4 cJ6_bitCount_0f7a4 1 (some .int), Cond.constant RJ6 265 (1431655765), Cond.constant RJ6 266 (858993459), Cond.constant RJ6 267 (252645135), Cond.methodLink RX7 275 yX7_markOfLiar, Cond.instanceMethod yX7_markOfLiar, Cond.selects RX7 yX7_markOfLiar yX7_markOfLiar, Cond.code yX7_markOfLiar cX7_markOfLiar 2 (some .int), Cond.constantLong RX7 344 (100), Cond.fieldLink RX7 177 "WordFletchers$Moment" "damp" "I", Cond.methodLink RX7 278 yX7_markOfPoet, Cond.instanceMethod yX7_markOfPoet, Cond.selects RX7 yX7_markOfPoet yX7_markOfPoet, Cond.code yX7_markOfPoet cX7_markOfPoet 2 (some .int), Cond.constantLong RX7 346 (1000), Cond.methodLink RX7 281 yX7_markOfLawyer, Cond.instanceMethod yX7_markOfLawyer, Cond.selects RX7 yX7_markOfLawyer yX7_markOfLawyer, Cond.code yX7_markOfLawyer cX7_markOfLawyer 2 (some .int), Cond.constantLong RX7 348 (10000), Cond.methodLink RX7 284 yX7_markOfGoose, Cond.instanceMethod yX7_markOfGoose, Cond.selects RX7 yX7_markOfGoose yX7_markOfGoose]
def wsX7_mark_r3 : List Cond := [Cond.code yX7_markOfGoose cX7_markOfGoose 2 (some .int), Cond.constantLong RX7 350 (100000), Cond.methodLink RX7 352 yX2_allFeathers, Cond.instanceMethod yX2_allFeathers, Cond.selects RX2 yX2_allFeathers yX2_allFeathers, Cond.initialized RX2, Cond.code yX2_allFeathers cX2_allFeathers 3 (some .int), Cond.fieldLink RX2 9 "WordFletchers$Moment" "feathers" "[I"]
def wsX7_mark : List Cond := .code yX7_mark cX7_mark 3 (some .int) :: ((wsX7_mark_r1 ++ (wsX7_mark_r2 ++ wsX7_mark_r3)) ++ wsX70 ++ wsX60 ++ wsX20)
def wsX7_keep_r1 : List Cond := [Cond.fieldLink RX7 52 "WordFletchers" "images" "[LWordFletchers$Image;", Cond.fieldLink RX7 39 "WordFletchers" "moment" "LWordFletchers$Moment;", Cond.fieldLink RX7 46 "WordFletchers" "past" "LWordFletchers$Past;", Cond.fieldLink RX7 174 "WordFletchers$Moment" "hour" "I", Cond.methodLink RX7 287 yX1_take, Cond.instanceMethod yX1_take, Cond.selects RX1 yX1_take yX1_take, Cond.initialized RX1, Cond.code yX1_take cX1_take 3 none, Cond.fieldLink RX1 10 "WordFletchers$Image" "moment" "LWordFletchers$Moment;", Cond.fieldLink RX1 19 "WordFletchers$Image" "past" "LWordFletchers$Past;", Cond.fieldLink RX1 23 "WordFletchers$Image" "kept" "Z", Cond.methodLink RX1 27 yX2_become, Cond.instanceMethod yX2_become, Cond.selects RX2 yX2_become yX2_become, Cond.initialized RX2, Cond.code yX2_become cX2_become 2 none, Cond.fieldLink RX2 24 "WordFletchers$Moment" "hour" "I", Cond.fieldLink RX2 28 "WordFletchers$Moment" "damp" "I", Cond.fieldLink RX2 31 "WordFletchers$Moment" "strays" "I", Cond.fieldLink RX2 9 "WordFletchers$Moment" "feathers" "[I", Cond.methodLink RX2 47 arraycopyName, Cond.native arraycopyName, Cond.static arraycopyName]
def wsX7_keep_r2 : List Cond := [Cond.initialized "java/lang/System", Cond.fieldLink RX2 15 "WordFletchers$Moment" "knows" "[I", Cond.fieldLink RX2 18 "WordFletchers$Moment" "straySaying" "[I", Cond.fieldLink RX2 21 "WordFletchers$Moment" "strayPlace" "[I", Cond.methodLink RX1 31 yX3_become, Cond.instanceMethod yX3_become, Cond.selects RX3 yX3_become yX3_become, Cond.initialized RX3, Cond.code yX3_become cX3_become 3 none, Cond.fieldLink RX3 17 "WordFletchers$Past" "known" "I", Cond.fieldLink RX3 11 "WordFletchers$Past" "moments" "[LWordFletchers$Moment;", Cond.methodLink RX3 25 yX2_become]
def wsX7_keep : List Cond := .code yX7_keep cX7_keep 2 (some .int) :: ((wsX7_keep_r1 ++ wsX7_keep_r2) ++ wsX70 ++ wsX20 ++ wsX10 ++ wsX30)
def wsX7_back_r1 : List Cond := [Cond.fieldLink RX7 52 "WordFletchers" "images" "[LWordFletchers$Image;", Cond.fieldLink RX7 291 "WordFletchers$Image" "kept" "Z", Cond.fieldLink RX7 39 "WordFletchers" "moment" "LWordFletchers$Moment;", Cond.fieldLink RX7 46 "WordFletchers" "past" "LWordFletchers$Past;", Cond.fieldLink RX7 174 "WordFletchers$Moment" "hour" "I", Cond.methodLink RX7 295 yX1_give, Cond.instanceMethod yX1_give, Cond.selects RX1 yX1_give yX1_give, Cond.initialized RX1, Cond.code yX1_give cX1_give 3 none, Cond.fieldLink RX1 10 "WordFletchers$Image" "moment" "LWordFletchers$Moment;", Cond.fieldLink RX1 19 "WordFletchers$Image" "past" "LWordFletchers$Past;", Cond.methodLink RX1 27 yX2_become, Cond.instanceMethod yX2_become, Cond.selects RX2 yX2_become yX2_become, Cond.initialized RX2, Cond.code yX2_become cX2_become 2 none, Cond.fieldLink RX2 24 "WordFletchers$Moment" "hour" "I", Cond.fieldLink RX2 28 "WordFletchers$Moment" "damp" "I", Cond.fieldLink RX2 31 "WordFletchers$Moment" "strays" "I", Cond.fieldLink RX2 9 "WordFletchers$Moment" "feathers" "[I", Cond.methodLink RX2 47 arraycopyName, Cond.native arraycopyName, Cond.static arraycopyName]
def wsX7_back_r2 : List Cond := [Cond.initialized "java/lang/System", Cond.fieldLink RX2 15 "WordFletchers$Moment" "knows" "[I", Cond.fieldLink RX2 18 "WordFletchers$Moment" "straySaying" "[I", Cond.fieldLink RX2 21 "WordFletchers$Moment" "strayPlace" "[I", Cond.methodLink RX1 31 yX3_become, Cond.instanceMethod yX3_become, Cond.selects RX3 yX3_become yX3_become, Cond.initialized RX3, Cond.code yX3_become cX3_become 3 none, Cond.fieldLink RX3 17 "WordFletchers$Past" "known" "I", Cond.fieldLink RX3 11 "WordFletchers$Past" "moments" "[LWordFletchers$Moment;", Cond.methodLink RX3 25 yX2_become]
def wsX7_back : List Cond := .code yX7_back cX7_back 2 (some .int) :: ((wsX7_back_r1 ++ wsX7_back_r2) ++ wsX70 ++ wsX10 ++ wsX20 ++ wsX30)
def wsX7_count : List Cond := .code yX7_count cX7_count 2 (some .int) :: ([.fieldLink RX7 29 "WordFletchers" "told" "LWordFletchers$Told;", .fieldLink RX7 298 "WordFletchers$Told" "people" "I", .fieldLink RX7 219 "WordFletchers$Told" "sayings" "I", .fieldLink RX7 59 "WordFletchers" "sightings" "LWordFletchers$Sightings;", .fieldLink RX7 251 "WordFletchers$Sightings" "size" "I", .fieldLink RX7 46 "WordFletchers" "past" "LWordFletchers$Past;", .fieldLink RX7 185 "WordFletchers$Past" "known" "I", .fieldLink RX7 13 "WordFletchers" "textLength" "I", .methodLink RX7 238 yX6_windCount, .instanceMethod yX6_windCount, .selects RX6 yX6_windCount yX6_windCount, .initialized RX6, .code yX6_windCount cX6_windCount 1 (some .int), .fieldLink RX6 43 "WordFletchers$Told" "windsTold" "I", .methodLink RX6 46 Lib.Math.max.name, .static Lib.Math.max.name, .initialized "java/lang/Math", .code Lib.Math.max.name Lib.Math.max.code 2 (some .int)] ++ wsX70 ++ wsX60 ++ wsX40 ++ wsX30)
def wsX7_trace : List Cond := .code yX7_trace cX7_trace 1 (some .long) :: ([.fieldLink RX7 76 "WordFletchers" "traced" "J"] ++ wsX70)
def wsX8_init_r1 : List Cond := [Cond.methodLink RX8 1 objectInit, Cond.instanceMethod objectInit, Cond.code objectInit ⟨#[0xb1]⟩ 1 none, Cond.arrayClass .byte, Cond.fieldLink RX8 7 "WordFletchersModel" "text" "[B", Cond.arrayClass .int, Cond.fieldLink RX8 13 "WordFletchersModel" "people" "[I", Cond.fieldLink RX8 17 "WordFletchersModel" "place" "[I", Cond.fieldLink RX8 20 "WordFletchersModel" "ear" "[I", Cond.fieldLink RX8 23 "WordFletchersModel" "sayings" "[I", Cond.fieldLink RX8 26 "WordFletchersModel" "weight" "[I", Cond.fieldLink RX8 29 "WordFletchersModel" "twist" "[I", Cond.fieldLink RX8 32 "WordFletchersModel" "first" "[I", Cond.fieldLink RX8 35 "WordFletchersModel" "winds" "[I", Cond.fieldLink RX8 38 "WordFletchersModel" "wind" "[I", Cond.fieldLink RX8 41 "WordFletchersModel" "plenty" "[I", Cond.fieldLink RX8 44 "WordFletchersModel" "now" "[I", Cond.fieldLink RX8 47 "WordFletchersModel" "known" "[I", Cond.fieldLink RX8 50 "WordFletchersModel" "before" "[I", Cond.fieldLink RX8 53 "WordFletchersModel" "store" "[I", Cond.arrayClass .boolean, Cond.fieldLink RX8 56 "WordFletchersModel" "isKept" "[Z", Cond.fieldLink RX8 60 "WordFletchersModel" "needed" "[I", Cond.fieldLink RX8 63 "WordFletchersModel" "least" "[I"]
def wsX8_init_r2 : List Cond := [Cond.fieldLink RX8 66 "WordFletchersModel" "sightOf" "[I", Cond.fieldLink RX8 69 "WordFletchersModel" "sightAt" "[I"]
def wsX8_init : List Cond := .code yX8_init cX8_init 2 none :: ((wsX8_init_r1 ++ wsX8_init_r2) ++ wsX80)
def wsX8_in : List Cond := .code yX8_in cX8_in 3 (some .boolean) :: ([])
def wsX8_has : List Cond := .code yX8_has cX8_has 2 (some .boolean) :: ([])
def wsX8_bitsOf : List Cond := .code yX8_bitsOf cX8_bitsOf 3 (some .int) :: ([])
def wsX8_type : List Cond := .code yX8_type cX8_type 2 (some .int) :: ([.fieldLink RX8 76 "WordFletchersModel" "typed" "I", .fieldLink RX8 7 "WordFletchersModel" "text" "[B", .methodLink RX8 72 yX8_in, .static yX8_in, .initialized RX8, .code yX8_in cX8_in 3 (some .boolean)] ++ wsX80)
def wsX8_clear : List Cond := .code yX8_clear cX8_clear 2 (some .int) :: ([.fieldLink RX8 76 "WordFletchersModel" "typed" "I"] ++ wsX80)
def wsX8_here : List Cond := .code yX8_here cX8_here 1 (some .int) :: ([.fieldLink RX8 80 "WordFletchersModel" "at" "I", .fieldLink RX8 76 "WordFletchersModel" "typed" "I", .fieldLink RX8 7 "WordFletchersModel" "text" "[B"] ++ wsX80)
def wsX8_step : List Cond := .code yX8_step cX8_step 2 none :: ([.fieldLink RX8 80 "WordFletchersModel" "at" "I", .fieldLink RX8 87 "WordFletchersModel" "stands" "I", .fieldLink RX8 90 "WordFletchersModel" "value" "I", .fieldLink RX8 93 "WordFletchersModel" "sort" "I", .methodLink RX8 83 yX8_here, .instanceMethod yX8_here, .selects RX8 yX8_here yX8_here, .initialized RX8, .code yX8_here cX8_here 1 (some .int), .fieldLink RX8 76 "WordFletchersModel" "typed" "I", .fieldLink RX8 7 "WordFletchersModel" "text" "[B", .methodLink RX8 72 yX8_in, .static yX8_in, .code yX8_in cX8_in 3 (some .boolean)] ++ wsX80)
def wsX8_due : List Cond := .code yX8_due cX8_due 2 none :: ([.fieldLink RX8 96 "WordFletchersModel" "isWrong" "Z", .methodLink RX8 100 yX8_step, .instanceMethod yX8_step, .selects RX8 yX8_step yX8_step, .initialized RX8, .code yX8_step cX8_step 2 none, .fieldLink RX8 80 "WordFletchersModel" "at" "I", .fieldLink RX8 87 "WordFletchersModel" "stands" "I", .fieldLink RX8 90 "WordFletchersModel" "value" "I", .fieldLink RX8 93 "WordFletchersModel" "sort" "I", .methodLink RX8 83 yX8_here, .instanceMethod yX8_here, .selects RX8 yX8_here yX8_here, .code yX8_here cX8_here 1 (some .int), .fieldLink RX8 76 "WordFletchersModel" "typed" "I", .fieldLink RX8 7 "WordFletchersModel" "text" "[B", .methodLink RX8 72 yX8_in, .static yX8_in, .code yX8_in cX8_in 3 (some .boolean)] ++ wsX80)
def wsX8_number : List Cond := .code yX8_number cX8_number 4 (some .int) :: ([.fieldLink RX8 90 "WordFletchersModel" "value" "I", .fieldLink RX8 93 "WordFletchersModel" "sort" "I", .methodLink RX8 72 yX8_in, .static yX8_in, .initialized RX8, .code yX8_in cX8_in 3 (some .boolean), .methodLink RX8 103 yX8_due, .instanceMethod yX8_due, .selects RX8 yX8_due yX8_due, .code yX8_due cX8_due 2 none, .fieldLink RX8 96 "WordFletchersModel" "isWrong" "Z", .methodLink RX8 100 yX8_step, .instanceMethod yX8_step, .selects RX8 yX8_step yX8_step, .code yX8_step cX8_step 2 none, .fieldLink RX8 80 "WordFletchersModel" "at" "I", .fieldLink RX8 87 "WordFletchersModel" "stands" "I", .methodLink RX8 83 yX8_here, .instanceMethod yX8_here, .selects RX8 yX8_here yX8_here, .code yX8_here cX8_here 1 (some .int), .fieldLink RX8 76 "WordFletchersModel" "typed" "I", .fieldLink RX8 7 "WordFletchersModel" "text" "[B"] ++ wsX80)
def wsX8_blow_r1 : List Cond := [Cond.fieldLink RX8 35 "WordFletchersModel" "winds" "[I", Cond.fieldLink RX8 107 "WordFletchersModel" "isBlown" "Z", Cond.fieldLink RX8 96 "WordFletchersModel" "isWrong" "Z", Cond.fieldLink RX8 38 "WordFletchersModel" "wind" "[I", Cond.fieldLink RX8 93 "WordFletchersModel" "sort" "I", Cond.methodLink RX8 110 yX8_number, Cond.instanceMethod yX8_number, Cond.selects RX8 yX8_number yX8_number, Cond.initialized RX8, Cond.code yX8_number cX8_number 4 (some .int), Cond.fieldLink RX8 90 "WordFletchersModel" "value" "I", Cond.methodLink RX8 72 yX8_in, Cond.static yX8_in, Cond.code yX8_in cX8_in 3 (some .boolean), Cond.methodLink RX8 103 yX8_due, Cond.instanceMethod yX8_due, Cond.selects RX8 yX8_due yX8_due, Cond.code yX8_due cX8_due 2 none, Cond.methodLink RX8 100 yX8_step, Cond.instanceMethod yX8_step, Cond.selects RX8 yX8_step yX8_step, Cond.code yX8_step cX8_step 2 none, Cond.fieldLink RX8 80 "WordFletchersModel" "at" "I", Cond.fieldLink RX8 87 "WordFletchersModel" "stands" "I"]
def wsX8_blow_r2 : List Cond := [Cond.methodLink RX8 83 yX8_here, Cond.instanceMethod yX8_here, Cond.selects RX8 yX8_here yX8_here, Cond.code yX8_here cX8_here 1 (some .int), Cond.fieldLink RX8 76 "WordFletchersModel" "typed" "I", Cond.fieldLink RX8 7 "WordFletchersModel" "text" "[B"]
def wsX8_blow : List Cond := .code yX8_blow cX8_blow 2 none :: ((wsX8_blow_r1 ++ wsX8_blow_r2) ++ wsX80)
def wsX8_item_r1 : List Cond := [Cond.fieldLink RX8 17 "WordFletchersModel" "place" "[I", Cond.fieldLink RX8 13 "WordFletchersModel" "people" "[I", Cond.fieldLink RX8 20 "WordFletchersModel" "ear" "[I", Cond.fieldLink RX8 23 "WordFletchersModel" "sayings" "[I", Cond.fieldLink RX8 26 "WordFletchersModel" "weight" "[I", Cond.fieldLink RX8 29 "WordFletchersModel" "twist" "[I", Cond.fieldLink RX8 32 "WordFletchersModel" "first" "[I", Cond.fieldLink RX8 96 "WordFletchersModel" "isWrong" "Z", Cond.fieldLink RX8 41 "WordFletchersModel" "plenty" "[I", Cond.methodLink RX8 110 yX8_number, Cond.instanceMethod yX8_number, Cond.selects RX8 yX8_number yX8_number, Cond.initialized RX8, Cond.code yX8_number cX8_number 4 (some .int), Cond.fieldLink RX8 90 "WordFletchersModel" "value" "I", Cond.fieldLink RX8 93 "WordFletchersModel" "sort" "I", Cond.methodLink RX8 72 yX8_in, Cond.static yX8_in, Cond.code yX8_in cX8_in 3 (some .boolean), Cond.methodLink RX8 103 yX8_due, Cond.instanceMethod yX8_due, Cond.selects RX8 yX8_due yX8_due, Cond.code yX8_due cX8_due 2 none, Cond.methodLink RX8 100 yX8_step]
def wsX8_item_r2 : List Cond := [Cond.instanceMethod yX8_step, Cond.selects RX8 yX8_step yX8_step, Cond.code yX8_step cX8_step 2 none, Cond.fieldLink RX8 80 "WordFletchersModel" "at" "I", Cond.fieldLink RX8 87 "WordFletchersModel" "stands" "I", Cond.methodLink RX8 83 yX8_here, Cond.instanceMethod yX8_here, Cond.selects RX8 yX8_here yX8_here, Cond.code yX8_here cX8_here 1 (some .int), Cond.fieldLink RX8 76 "WordFletchersModel" "typed" "I", Cond.fieldLink RX8 7 "WordFletchersModel" "text" "[B", Cond.methodLink RX8 114 yX8_blow, Cond.instanceMethod yX8_blow, Cond.selects RX8 yX8_blow yX8_blow, Cond.code yX8_blow cX8_blow 2 none, Cond.fieldLink RX8 35 "WordFletchersModel" "winds" "[I", Cond.fieldLink RX8 107 "WordFletchersModel" "isBlown" "Z", Cond.fieldLink RX8 38 "WordFletchersModel" "wind" "[I"]
def wsX8_item : List Cond := .code yX8_item cX8_item 5 none :: ((wsX8_item_r1 ++ wsX8_item_r2) ++ wsX80)
def wsX8_may : List Cond := .code yX8_may cX8_may 2 (some .boolean) :: ([.fieldLink RX8 13 "WordFletchersModel" "people" "[I", .fieldLink RX8 23 "WordFletchersModel" "sayings" "[I", .fieldLink RX8 107 "WordFletchersModel" "isBlown" "Z"] ++ wsX80)
def wsX8_read_r1 : List Cond := [Cond.fieldLink RX8 80 "WordFletchersModel" "at" "I", Cond.fieldLink RX8 96 "WordFletchersModel" "isWrong" "Z", Cond.fieldLink RX8 117 "WordFletchersModel" "items" "I", Cond.fieldLink RX8 107 "WordFletchersModel" "isBlown" "Z", Cond.fieldLink RX8 13 "WordFletchersModel" "people" "[I", Cond.fieldLink RX8 23 "WordFletchersModel" "sayings" "[I", Cond.fieldLink RX8 35 "WordFletchersModel" "winds" "[I", Cond.fieldLink RX8 38 "WordFletchersModel" "wind" "[I", Cond.fieldLink RX8 41 "WordFletchersModel" "plenty" "[I", Cond.fieldLink RX8 93 "WordFletchersModel" "sort" "I", Cond.fieldLink RX8 90 "WordFletchersModel" "value" "I", Cond.methodLink RX8 100 yX8_step, Cond.instanceMethod yX8_step, Cond.selects RX8 yX8_step yX8_step, Cond.initialized RX8, Cond.code yX8_step cX8_step 2 none, Cond.fieldLink RX8 87 "WordFletchersModel" "stands" "I", Cond.methodLink RX8 83 yX8_here, Cond.instanceMethod yX8_here, Cond.selects RX8 yX8_here yX8_here, Cond.code yX8_here cX8_here 1 (some .int), Cond.fieldLink RX8 76 "WordFletchersModel" "typed" "I", Cond.fieldLink RX8 7 "WordFletchersModel" "text" "[B", Cond.methodLink RX8 72 yX8_in]
def wsX8_read_r2 : List Cond := [Cond.static yX8_in, Cond.code yX8_in cX8_in 3 (some .boolean), Cond.methodLink RX8 120 yX8_may, Cond.instanceMethod yX8_may, Cond.selects RX8 yX8_may yX8_may, Cond.code yX8_may cX8_may 2 (some .boolean), Cond.methodLink RX8 103 yX8_due, Cond.instanceMethod yX8_due, Cond.selects RX8 yX8_due yX8_due, Cond.code yX8_due cX8_due 2 none, Cond.methodLink RX8 124 yX8_item, Cond.instanceMethod yX8_item, Cond.selects RX8 yX8_item yX8_item, Cond.code yX8_item cX8_item 5 none, Cond.fieldLink RX8 17 "WordFletchersModel" "place" "[I", Cond.fieldLink RX8 20 "WordFletchersModel" "ear" "[I", Cond.fieldLink RX8 26 "WordFletchersModel" "weight" "[I", Cond.fieldLink RX8 29 "WordFletchersModel" "twist" "[I", Cond.fieldLink RX8 32 "WordFletchersModel" "first" "[I", Cond.methodLink RX8 110 yX8_number, Cond.instanceMethod yX8_number, Cond.selects RX8 yX8_number yX8_number, Cond.code yX8_number cX8_number 4 (some .int), Cond.methodLink RX8 114 yX8_blow]
def wsX8_read_r3 : List Cond := [Cond.instanceMethod yX8_blow, Cond.selects RX8 yX8_blow yX8_blow, Cond.code yX8_blow cX8_blow 2 none]
def wsX8_read : List Cond := .code yX8_read cX8_read 2 none :: ((wsX8_read_r1 ++ (wsX8_read_r2 ++ wsX8_read_r3)) ++ wsX80)
def wsX8_uplands_r1 : List Cond := [Cond.fieldLink RX8 96 "WordFletchersModel" "isWrong" "Z", Cond.fieldLink RX8 87 "WordFletchersModel" "stands" "I", Cond.fieldLink RX8 13 "WordFletchersModel" "people" "[I", Cond.fieldLink RX8 23 "WordFletchersModel" "sayings" "[I", Cond.fieldLink RX8 35 "WordFletchersModel" "winds" "[I", Cond.fieldLink RX8 44 "WordFletchersModel" "now" "[I", Cond.fieldLink RX8 17 "WordFletchersModel" "place" "[I", Cond.fieldLink RX8 20 "WordFletchersModel" "ear" "[I", Cond.fieldLink RX8 26 "WordFletchersModel" "weight" "[I", Cond.fieldLink RX8 29 "WordFletchersModel" "twist" "[I", Cond.fieldLink RX8 32 "WordFletchersModel" "first" "[I", Cond.fieldLink RX8 38 "WordFletchersModel" "wind" "[I", Cond.fieldLink RX8 41 "WordFletchersModel" "plenty" "[I", Cond.fieldLink RX8 47 "WordFletchersModel" "known" "[I", Cond.fieldLink RX8 56 "WordFletchersModel" "isKept" "[Z", Cond.fieldLink RX8 131 "WordFletchersModel" "sights" "I", Cond.fieldLink RX8 76 "WordFletchersModel" "typed" "I", Cond.fieldLink RX8 117 "WordFletchersModel" "items" "I", Cond.methodLink RX8 128 yX8_read, Cond.instanceMethod yX8_read, Cond.selects RX8 yX8_read yX8_read, Cond.initialized RX8, Cond.code yX8_read cX8_read 2 none, Cond.fieldLink RX8 80 "WordFletchersModel" "at" "I"]
def wsX8_uplands_r2 : List Cond := [Cond.fieldLink RX8 107 "WordFletchersModel" "isBlown" "Z", Cond.fieldLink RX8 93 "WordFletchersModel" "sort" "I", Cond.fieldLink RX8 90 "WordFletchersModel" "value" "I", Cond.methodLink RX8 100 yX8_step, Cond.instanceMethod yX8_step, Cond.selects RX8 yX8_step yX8_step, Cond.code yX8_step cX8_step 2 none, Cond.methodLink RX8 83 yX8_here, Cond.instanceMethod yX8_here, Cond.selects RX8 yX8_here yX8_here, Cond.code yX8_here cX8_here 1 (some .int), Cond.fieldLink RX8 7 "WordFletchersModel" "text" "[B", Cond.methodLink RX8 72 yX8_in, Cond.static yX8_in, Cond.code yX8_in cX8_in 3 (some .boolean), Cond.methodLink RX8 120 yX8_may, Cond.instanceMethod yX8_may, Cond.selects RX8 yX8_may yX8_may, Cond.code yX8_may cX8_may 2 (some .boolean), Cond.methodLink RX8 103 yX8_due, Cond.instanceMethod yX8_due, Cond.selects RX8 yX8_due yX8_due, Cond.code yX8_due cX8_due 2 none, Cond.methodLink RX8 124 yX8_item]
def wsX8_uplands_r3 : List Cond := [Cond.instanceMethod yX8_item, Cond.selects RX8 yX8_item yX8_item, Cond.code yX8_item cX8_item 5 none, Cond.methodLink RX8 110 yX8_number, Cond.instanceMethod yX8_number, Cond.selects RX8 yX8_number yX8_number, Cond.code yX8_number cX8_number 4 (some .int), Cond.methodLink RX8 114 yX8_blow, Cond.instanceMethod yX8_blow, Cond.selects RX8 yX8_blow yX8_blow, Cond.code yX8_blow cX8_blow 2 none]
def wsX8_uplands : List Cond := .code yX8_uplands cX8_uplands 2 (some .int) :: ((wsX8_uplands_r1 ++ (wsX8_uplands_r2 ++ wsX8_uplands_r3)) ++ wsX80)
def wsX8_isOne : List Cond := .code yX8_isOne cX8_isOne 2 (some .boolean) :: ([.fieldLink RX8 13 "WordFletchersModel" "people" "[I", .methodLink RX8 72 yX8_in, .static yX8_in, .initialized RX8, .code yX8_in cX8_in 3 (some .boolean)] ++ wsX80)
def wsX8_isSaying : List Cond := .code yX8_isSaying cX8_isSaying 2 (some .boolean) :: ([.fieldLink RX8 23 "WordFletchersModel" "sayings" "[I", .methodLink RX8 72 yX8_in, .static yX8_in, .initialized RX8, .code yX8_in cX8_in 3 (some .boolean)] ++ wsX80)
def wsX8_isShot : List Cond := .code yX8_isShot cX8_isShot 3 (some .boolean) :: ([.methodLink RX8 72 yX8_in, .static yX8_in, .initialized RX8, .code yX8_in cX8_in 3 (some .boolean)])
def wsX8_liftOf : List Cond := .code yX8_liftOf cX8_liftOf 1 (some .int) :: ([])
def wsX8_landsBy : List Cond := .code yX8_landsBy cX8_landsBy 11 (some .int) :: ([.fieldLink RX8 29 "WordFletchersModel" "twist" "[I", .fieldLink RX8 26 "WordFletchersModel" "weight" "[I", .fieldLink RX8 44 "WordFletchersModel" "now" "[I", .fieldLink RX8 17 "WordFletchersModel" "place" "[I", .methodLink RX8 134 yX8_liftOf, .static yX8_liftOf, .initialized RX8, .code yX8_liftOf cX8_liftOf 1 (some .int), .methodLink RX8 72 yX8_in, .static yX8_in, .code yX8_in cX8_in 3 (some .boolean)] ++ wsX80)
def wsX8_windIn : List Cond := .code yX8_windIn cX8_windIn 2 (some .int) :: ([.fieldLink RX8 38 "WordFletchersModel" "wind" "[I", .fieldLink RX8 44 "WordFletchersModel" "now" "[I", .fieldLink RX8 35 "WordFletchersModel" "winds" "[I"] ++ wsX80)
def wsX8_doesHear : List Cond := .code yX8_doesHear cX8_doesHear 4 (some .boolean) :: ([.fieldLink RX8 17 "WordFletchersModel" "place" "[I", .fieldLink RX8 20 "WordFletchersModel" "ear" "[I"] ++ wsX80)
def wsX8_hearersOf : List Cond := .code yX8_hearersOf cX8_hearersOf 5 (some .int) :: ([.fieldLink RX8 13 "WordFletchersModel" "people" "[I", .methodLink RX8 138 yX8_doesHear, .instanceMethod yX8_doesHear, .selects RX8 yX8_doesHear yX8_doesHear, .initialized RX8, .code yX8_doesHear cX8_doesHear 4 (some .boolean), .fieldLink RX8 17 "WordFletchersModel" "place" "[I", .fieldLink RX8 20 "WordFletchersModel" "ear" "[I"] ++ wsX80)
def wsX8_one : List Cond := .code yX8_one cX8_one 5 (some .int) :: ([.fieldLink RX8 17 "WordFletchersModel" "place" "[I", .fieldLink RX8 20 "WordFletchersModel" "ear" "[I", .fieldLink RX8 23 "WordFletchersModel" "sayings" "[I", .fieldLink RX8 44 "WordFletchersModel" "now" "[I", .methodLink RX8 142 yX8_isOne, .instanceMethod yX8_isOne, .selects RX8 yX8_isOne yX8_isOne, .initialized RX8, .code yX8_isOne cX8_isOne 2 (some .boolean), .fieldLink RX8 13 "WordFletchersModel" "people" "[I", .methodLink RX8 72 yX8_in, .static yX8_in, .code yX8_in cX8_in 3 (some .boolean), .methodLink RX8 145 yX8_has, .static yX8_has, .code yX8_has cX8_has 2 (some .boolean)] ++ wsX80)
def wsX8_saying : List Cond := .code yX8_saying cX8_saying 3 (some .int) :: ([.fieldLink RX8 26 "WordFletchersModel" "weight" "[I", .fieldLink RX8 29 "WordFletchersModel" "twist" "[I", .fieldLink RX8 32 "WordFletchersModel" "first" "[I", .fieldLink RX8 44 "WordFletchersModel" "now" "[I", .methodLink RX8 148 yX8_isSaying, .instanceMethod yX8_isSaying, .selects RX8 yX8_isSaying yX8_isSaying, .initialized RX8, .code yX8_isSaying cX8_isSaying 2 (some .boolean), .fieldLink RX8 23 "WordFletchersModel" "sayings" "[I", .methodLink RX8 72 yX8_in, .static yX8_in, .code yX8_in cX8_in 3 (some .boolean)] ++ wsX80)
def wsX8_wind : List Cond := .code yX8_wind cX8_wind 2 (some .int) :: ([.constant RX8 154 (-1000000), .methodLink RX8 72 yX8_in, .static yX8_in, .initialized RX8, .code yX8_in cX8_in 3 (some .boolean), .methodLink RX8 151 yX8_windIn, .instanceMethod yX8_windIn, .selects RX8 yX8_windIn yX8_windIn, .code yX8_windIn cX8_windIn 2 (some .int), .fieldLink RX8 38 "WordFletchersModel" "wind" "[I", .fieldLink RX8 44 "WordFletchersModel" "now" "[I", .fieldLink RX8 35 "WordFletchersModel" "winds" "[I"] ++ wsX80)
def wsX8_stray : List Cond := .code yX8_stray cX8_stray 3 (some .int) :: ([.fieldLink RX8 44 "WordFletchersModel" "now" "[I", .methodLink RX8 72 yX8_in, .static yX8_in, .initialized RX8, .code yX8_in cX8_in 3 (some .boolean)] ++ wsX80)
def wsX8_know : List Cond := .code yX8_know cX8_know 2 none :: ([.fieldLink RX8 47 "WordFletchersModel" "known" "[I", .fieldLink RX8 50 "WordFletchersModel" "before" "[I", .fieldLink RX8 44 "WordFletchersModel" "now" "[I"] ++ wsX80)
def wsX8_takeUp : List Cond := .code yX8_takeUp cX8_takeUp 3 none :: ([.fieldLink RX8 44 "WordFletchersModel" "now" "[I"] ++ wsX80)
def wsX8_lets_r1 : List Cond := [Cond.fieldLink RX8 44 "WordFletchersModel" "now" "[I", Cond.methodLink RX8 142 yX8_isOne, Cond.instanceMethod yX8_isOne, Cond.selects RX8 yX8_isOne yX8_isOne, Cond.initialized RX8, Cond.code yX8_isOne cX8_isOne 2 (some .boolean), Cond.fieldLink RX8 13 "WordFletchersModel" "people" "[I", Cond.methodLink RX8 72 yX8_in, Cond.static yX8_in, Cond.code yX8_in cX8_in 3 (some .boolean), Cond.methodLink RX8 148 yX8_isSaying, Cond.instanceMethod yX8_isSaying, Cond.selects RX8 yX8_isSaying yX8_isSaying, Cond.code yX8_isSaying cX8_isSaying 2 (some .boolean), Cond.fieldLink RX8 23 "WordFletchersModel" "sayings" "[I", Cond.methodLink RX8 155 yX8_isShot, Cond.static yX8_isShot, Cond.code yX8_isShot cX8_isShot 3 (some .boolean), Cond.methodLink RX8 145 yX8_has, Cond.static yX8_has, Cond.code yX8_has cX8_has 2 (some .boolean), Cond.methodLink RX8 158 yX8_know, Cond.instanceMethod yX8_know, Cond.selects RX8 yX8_know yX8_know]
def wsX8_lets_r2 : List Cond := [Cond.code yX8_know cX8_know 2 none, Cond.fieldLink RX8 47 "WordFletchersModel" "known" "[I", Cond.fieldLink RX8 50 "WordFletchersModel" "before" "[I", Cond.methodLink RX8 151 yX8_windIn, Cond.instanceMethod yX8_windIn, Cond.selects RX8 yX8_windIn yX8_windIn, Cond.code yX8_windIn cX8_windIn 2 (some .int), Cond.fieldLink RX8 38 "WordFletchersModel" "wind" "[I", Cond.fieldLink RX8 35 "WordFletchersModel" "winds" "[I", Cond.methodLink RX8 161 yX8_landsBy, Cond.instanceMethod yX8_landsBy, Cond.selects RX8 yX8_landsBy yX8_landsBy, Cond.code yX8_landsBy cX8_landsBy 11 (some .int), Cond.fieldLink RX8 29 "WordFletchersModel" "twist" "[I", Cond.fieldLink RX8 26 "WordFletchersModel" "weight" "[I", Cond.fieldLink RX8 17 "WordFletchersModel" "place" "[I", Cond.methodLink RX8 134 yX8_liftOf, Cond.static yX8_liftOf, Cond.code yX8_liftOf cX8_liftOf 1 (some .int), Cond.methodLink RX8 165 yX8_hearersOf, Cond.instanceMethod yX8_hearersOf, Cond.selects RX8 yX8_hearersOf yX8_hearersOf, Cond.code yX8_hearersOf cX8_hearersOf 5 (some .int), Cond.methodLink RX8 138 yX8_doesHear]
def wsX8_lets_r3 : List Cond := [Cond.instanceMethod yX8_doesHear, Cond.selects RX8 yX8_doesHear yX8_doesHear, Cond.code yX8_doesHear cX8_doesHear 4 (some .boolean), Cond.fieldLink RX8 20 "WordFletchersModel" "ear" "[I", Cond.methodLink RX8 168 yX8_takeUp, Cond.instanceMethod yX8_takeUp, Cond.selects RX8 yX8_takeUp yX8_takeUp, Cond.code yX8_takeUp cX8_takeUp 3 none]
def wsX8_lets : List Cond := .code yX8_lets cX8_lets 8 (some .int) :: ((wsX8_lets_r1 ++ (wsX8_lets_r2 ++ wsX8_lets_r3)) ++ wsX80)
def wsX8_picks : List Cond := .code yX8_picks cX8_picks 4 (some .int) :: ([.fieldLink RX8 44 "WordFletchersModel" "now" "[I", .fieldLink RX8 17 "WordFletchersModel" "place" "[I", .methodLink RX8 142 yX8_isOne, .instanceMethod yX8_isOne, .selects RX8 yX8_isOne yX8_isOne, .initialized RX8, .code yX8_isOne cX8_isOne 2 (some .boolean), .fieldLink RX8 13 "WordFletchersModel" "people" "[I", .methodLink RX8 72 yX8_in, .static yX8_in, .code yX8_in cX8_in 3 (some .boolean), .methodLink RX8 158 yX8_know, .instanceMethod yX8_know, .selects RX8 yX8_know yX8_know, .code yX8_know cX8_know 2 none, .fieldLink RX8 47 "WordFletchersModel" "known" "[I", .fieldLink RX8 50 "WordFletchersModel" "before" "[I", .methodLink RX8 168 yX8_takeUp, .instanceMethod yX8_takeUp, .selects RX8 yX8_takeUp yX8_takeUp, .code yX8_takeUp cX8_takeUp 3 none] ++ wsX80)
def wsX8_hours : List Cond := .code yX8_hours cX8_hours 2 (some .int) :: ([.fieldLink RX8 44 "WordFletchersModel" "now" "[I", .methodLink RX8 72 yX8_in, .static yX8_in, .initialized RX8, .code yX8_in cX8_in 3 (some .boolean), .methodLink RX8 158 yX8_know, .instanceMethod yX8_know, .selects RX8 yX8_know yX8_know, .code yX8_know cX8_know 2 none, .fieldLink RX8 47 "WordFletchersModel" "known" "[I", .fieldLink RX8 50 "WordFletchersModel" "before" "[I"] ++ wsX80)
def wsX8_damps : List Cond := .code yX8_damps cX8_damps 3 (some .int) :: ([.fieldLink RX8 44 "WordFletchersModel" "now" "[I", .methodLink RX8 72 yX8_in, .static yX8_in, .initialized RX8, .code yX8_in cX8_in 3 (some .boolean), .methodLink RX8 158 yX8_know, .instanceMethod yX8_know, .selects RX8 yX8_know yX8_know, .code yX8_know cX8_know 2 none, .fieldLink RX8 47 "WordFletchersModel" "known" "[I", .fieldLink RX8 50 "WordFletchersModel" "before" "[I"] ++ wsX80)
def wsX8_plucks : List Cond := .code yX8_plucks cX8_plucks 4 (some .int) :: ([.fieldLink RX8 44 "WordFletchersModel" "now" "[I", .methodLink RX8 72 yX8_in, .static yX8_in, .initialized RX8, .code yX8_in cX8_in 3 (some .boolean), .methodLink RX8 158 yX8_know, .instanceMethod yX8_know, .selects RX8 yX8_know yX8_know, .code yX8_know cX8_know 2 none, .fieldLink RX8 47 "WordFletchersModel" "known" "[I", .fieldLink RX8 50 "WordFletchersModel" "before" "[I"] ++ wsX80)
def wsX8_undo : List Cond := .code yX8_undo cX8_undo 2 (some .int) :: ([.fieldLink RX8 47 "WordFletchersModel" "known" "[I", .fieldLink RX8 44 "WordFletchersModel" "now" "[I", .fieldLink RX8 50 "WordFletchersModel" "before" "[I"] ++ wsX80)
def wsX8_now : List Cond := .code yX8_now cX8_now 2 (some .int) :: ([.fieldLink RX8 44 "WordFletchersModel" "now" "[I"] ++ wsX80)
def wsX8_lands_r1 : List Cond := [Cond.methodLink RX8 142 yX8_isOne, Cond.instanceMethod yX8_isOne, Cond.selects RX8 yX8_isOne yX8_isOne, Cond.initialized RX8, Cond.code yX8_isOne cX8_isOne 2 (some .boolean), Cond.fieldLink RX8 13 "WordFletchersModel" "people" "[I", Cond.methodLink RX8 72 yX8_in, Cond.static yX8_in, Cond.code yX8_in cX8_in 3 (some .boolean), Cond.methodLink RX8 148 yX8_isSaying, Cond.instanceMethod yX8_isSaying, Cond.selects RX8 yX8_isSaying yX8_isSaying, Cond.code yX8_isSaying cX8_isSaying 2 (some .boolean), Cond.fieldLink RX8 23 "WordFletchersModel" "sayings" "[I", Cond.methodLink RX8 155 yX8_isShot, Cond.static yX8_isShot, Cond.code yX8_isShot cX8_isShot 3 (some .boolean), Cond.methodLink RX8 151 yX8_windIn, Cond.instanceMethod yX8_windIn, Cond.selects RX8 yX8_windIn yX8_windIn, Cond.code yX8_windIn cX8_windIn 2 (some .int), Cond.fieldLink RX8 38 "WordFletchersModel" "wind" "[I", Cond.fieldLink RX8 44 "WordFletchersModel" "now" "[I", Cond.fieldLink RX8 35 "WordFletchersModel" "winds" "[I"]
def wsX8_lands_r2 : List Cond := [Cond.methodLink RX8 161 yX8_landsBy, Cond.instanceMethod yX8_landsBy, Cond.selects RX8 yX8_landsBy yX8_landsBy, Cond.code yX8_landsBy cX8_landsBy 11 (some .int), Cond.fieldLink RX8 29 "WordFletchersModel" "twist" "[I", Cond.fieldLink RX8 26 "WordFletchersModel" "weight" "[I", Cond.fieldLink RX8 17 "WordFletchersModel" "place" "[I", Cond.methodLink RX8 134 yX8_liftOf, Cond.static yX8_liftOf, Cond.code yX8_liftOf cX8_liftOf 1 (some .int)]
def wsX8_lands : List Cond := .code yX8_lands cX8_lands 6 (some .int) :: ((wsX8_lands_r1 ++ wsX8_lands_r2) ++ wsX80)
def wsX8_areUnlike : List Cond := .code yX8_areUnlike cX8_areUnlike 3 (some .boolean) :: ([.methodLink RX8 142 yX8_isOne, .instanceMethod yX8_isOne, .selects RX8 yX8_isOne yX8_isOne, .initialized RX8, .code yX8_isOne cX8_isOne 2 (some .boolean), .fieldLink RX8 13 "WordFletchersModel" "people" "[I", .methodLink RX8 72 yX8_in, .static yX8_in, .code yX8_in cX8_in 3 (some .boolean)] ++ wsX80)
def wsX8_isHeard : List Cond := .code yX8_isHeard cX8_isHeard 6 (some .boolean) :: ([.methodLink RX8 161 yX8_landsBy, .instanceMethod yX8_landsBy, .selects RX8 yX8_landsBy yX8_landsBy, .initialized RX8, .code yX8_landsBy cX8_landsBy 11 (some .int), .fieldLink RX8 29 "WordFletchersModel" "twist" "[I", .fieldLink RX8 26 "WordFletchersModel" "weight" "[I", .fieldLink RX8 44 "WordFletchersModel" "now" "[I", .fieldLink RX8 17 "WordFletchersModel" "place" "[I", .methodLink RX8 134 yX8_liftOf, .static yX8_liftOf, .code yX8_liftOf cX8_liftOf 1 (some .int), .methodLink RX8 72 yX8_in, .static yX8_in, .code yX8_in cX8_in 3 (some .boolean), .methodLink RX8 138 yX8_doesHear, .instanceMethod yX8_doesHear, .selects RX8 yX8_doesHear yX8_doesHear, .code yX8_doesHear cX8_doesHear 4 (some .boolean), .fieldLink RX8 20 "WordFletchersModel" "ear" "[I"] ++ wsX80)
def wsX8_call_r1 : List Cond := [Cond.methodLink RX8 171 yX8_areUnlike, Cond.instanceMethod yX8_areUnlike, Cond.selects RX8 yX8_areUnlike yX8_areUnlike, Cond.initialized RX8, Cond.code yX8_areUnlike cX8_areUnlike 3 (some .boolean), Cond.methodLink RX8 142 yX8_isOne, Cond.instanceMethod yX8_isOne, Cond.selects RX8 yX8_isOne yX8_isOne, Cond.code yX8_isOne cX8_isOne 2 (some .boolean), Cond.fieldLink RX8 13 "WordFletchersModel" "people" "[I", Cond.methodLink RX8 72 yX8_in, Cond.static yX8_in, Cond.code yX8_in cX8_in 3 (some .boolean), Cond.methodLink RX8 148 yX8_isSaying, Cond.instanceMethod yX8_isSaying, Cond.selects RX8 yX8_isSaying yX8_isSaying, Cond.code yX8_isSaying cX8_isSaying 2 (some .boolean), Cond.fieldLink RX8 23 "WordFletchersModel" "sayings" "[I", Cond.methodLink RX8 151 yX8_windIn, Cond.instanceMethod yX8_windIn, Cond.selects RX8 yX8_windIn yX8_windIn, Cond.code yX8_windIn cX8_windIn 2 (some .int), Cond.fieldLink RX8 38 "WordFletchersModel" "wind" "[I", Cond.fieldLink RX8 44 "WordFletchersModel" "now" "[I"]
def wsX8_call_r2 : List Cond := [Cond.fieldLink RX8 35 "WordFletchersModel" "winds" "[I", Cond.methodLink RX8 174 yX8_isHeard, Cond.instanceMethod yX8_isHeard, Cond.selects RX8 yX8_isHeard yX8_isHeard, Cond.code yX8_isHeard cX8_isHeard 6 (some .boolean), Cond.methodLink RX8 161 yX8_landsBy, Cond.instanceMethod yX8_landsBy, Cond.selects RX8 yX8_landsBy yX8_landsBy, Cond.code yX8_landsBy cX8_landsBy 11 (some .int), Cond.fieldLink RX8 29 "WordFletchersModel" "twist" "[I", Cond.fieldLink RX8 26 "WordFletchersModel" "weight" "[I", Cond.fieldLink RX8 17 "WordFletchersModel" "place" "[I", Cond.methodLink RX8 134 yX8_liftOf, Cond.static yX8_liftOf, Cond.code yX8_liftOf cX8_liftOf 1 (some .int), Cond.methodLink RX8 138 yX8_doesHear, Cond.instanceMethod yX8_doesHear, Cond.selects RX8 yX8_doesHear yX8_doesHear, Cond.code yX8_doesHear cX8_doesHear 4 (some .boolean), Cond.fieldLink RX8 20 "WordFletchersModel" "ear" "[I"]
def wsX8_call : List Cond := .code yX8_call cX8_call 8 (some .int) :: ((wsX8_call_r1 ++ wsX8_call_r2) ++ wsX80)
def wsX8_isShotBy : List Cond := .code yX8_isShotBy cX8_isShotBy 1 (some .boolean) :: ([.methodLink RX8 155 yX8_isShot, .static yX8_isShot, .initialized RX8, .code yX8_isShot cX8_isShot 3 (some .boolean), .methodLink RX8 72 yX8_in, .static yX8_in, .code yX8_in cX8_in 3 (some .boolean)])
def wsX8_waits_r1 : List Cond := [Cond.methodLink RX8 171 yX8_areUnlike, Cond.instanceMethod yX8_areUnlike, Cond.selects RX8 yX8_areUnlike yX8_areUnlike, Cond.initialized RX8, Cond.code yX8_areUnlike cX8_areUnlike 3 (some .boolean), Cond.methodLink RX8 142 yX8_isOne, Cond.instanceMethod yX8_isOne, Cond.selects RX8 yX8_isOne yX8_isOne, Cond.code yX8_isOne cX8_isOne 2 (some .boolean), Cond.fieldLink RX8 13 "WordFletchersModel" "people" "[I", Cond.methodLink RX8 72 yX8_in, Cond.static yX8_in, Cond.code yX8_in cX8_in 3 (some .boolean), Cond.methodLink RX8 148 yX8_isSaying, Cond.instanceMethod yX8_isSaying, Cond.selects RX8 yX8_isSaying yX8_isSaying, Cond.code yX8_isSaying cX8_isSaying 2 (some .boolean), Cond.fieldLink RX8 23 "WordFletchersModel" "sayings" "[I", Cond.methodLink RX8 178 yX8_isShotBy, Cond.static yX8_isShotBy, Cond.code yX8_isShotBy cX8_isShotBy 1 (some .boolean), Cond.methodLink RX8 155 yX8_isShot, Cond.static yX8_isShot, Cond.code yX8_isShot cX8_isShot 3 (some .boolean)]
def wsX8_waits_r2 : List Cond := [Cond.methodLink RX8 151 yX8_windIn, Cond.instanceMethod yX8_windIn, Cond.selects RX8 yX8_windIn yX8_windIn, Cond.code yX8_windIn cX8_windIn 2 (some .int), Cond.fieldLink RX8 38 "WordFletchersModel" "wind" "[I", Cond.fieldLink RX8 44 "WordFletchersModel" "now" "[I", Cond.fieldLink RX8 35 "WordFletchersModel" "winds" "[I", Cond.methodLink RX8 174 yX8_isHeard, Cond.instanceMethod yX8_isHeard, Cond.selects RX8 yX8_isHeard yX8_isHeard, Cond.code yX8_isHeard cX8_isHeard 6 (some .boolean), Cond.methodLink RX8 161 yX8_landsBy, Cond.instanceMethod yX8_landsBy, Cond.selects RX8 yX8_landsBy yX8_landsBy, Cond.code yX8_landsBy cX8_landsBy 11 (some .int), Cond.fieldLink RX8 29 "WordFletchersModel" "twist" "[I", Cond.fieldLink RX8 26 "WordFletchersModel" "weight" "[I", Cond.fieldLink RX8 17 "WordFletchersModel" "place" "[I", Cond.methodLink RX8 134 yX8_liftOf, Cond.static yX8_liftOf, Cond.code yX8_liftOf cX8_liftOf 1 (some .int), Cond.methodLink RX8 138 yX8_doesHear, Cond.instanceMethod yX8_doesHear, Cond.selects RX8 yX8_doesHear yX8_doesHear]
def wsX8_waits_r3 : List Cond := [Cond.code yX8_doesHear cX8_doesHear 4 (some .boolean), Cond.fieldLink RX8 20 "WordFletchersModel" "ear" "[I"]
def wsX8_waits : List Cond := .code yX8_waits cX8_waits 6 (some .int) :: ((wsX8_waits_r1 ++ (wsX8_waits_r2 ++ wsX8_waits_r3)) ++ wsX80)
def wsX8_behind_r1 : List Cond := [Cond.methodLink RX8 151 yX8_windIn, Cond.instanceMethod yX8_windIn, Cond.selects RX8 yX8_windIn yX8_windIn, Cond.initialized RX8, Cond.code yX8_windIn cX8_windIn 2 (some .int), Cond.fieldLink RX8 38 "WordFletchersModel" "wind" "[I", Cond.fieldLink RX8 44 "WordFletchersModel" "now" "[I", Cond.fieldLink RX8 35 "WordFletchersModel" "winds" "[I", Cond.methodLink RX8 161 yX8_landsBy, Cond.instanceMethod yX8_landsBy, Cond.selects RX8 yX8_landsBy yX8_landsBy, Cond.code yX8_landsBy cX8_landsBy 11 (some .int), Cond.fieldLink RX8 29 "WordFletchersModel" "twist" "[I", Cond.fieldLink RX8 26 "WordFletchersModel" "weight" "[I", Cond.fieldLink RX8 17 "WordFletchersModel" "place" "[I", Cond.methodLink RX8 134 yX8_liftOf, Cond.static yX8_liftOf, Cond.code yX8_liftOf cX8_liftOf 1 (some .int), Cond.methodLink RX8 72 yX8_in, Cond.static yX8_in, Cond.code yX8_in cX8_in 3 (some .boolean), Cond.methodLink RX8 165 yX8_hearersOf, Cond.instanceMethod yX8_hearersOf, Cond.selects RX8 yX8_hearersOf yX8_hearersOf]
def wsX8_behind_r2 : List Cond := [Cond.code yX8_hearersOf cX8_hearersOf 5 (some .int), Cond.fieldLink RX8 13 "WordFletchersModel" "people" "[I", Cond.methodLink RX8 138 yX8_doesHear, Cond.instanceMethod yX8_doesHear, Cond.selects RX8 yX8_doesHear yX8_doesHear, Cond.code yX8_doesHear cX8_doesHear 4 (some .boolean), Cond.fieldLink RX8 20 "WordFletchersModel" "ear" "[I"]
def wsX8_behind : List Cond := .code yX8_behind cX8_behind 7 (some .int) :: ((wsX8_behind_r1 ++ wsX8_behind_r2) ++ wsX80)
def wsX8_measure_r1 : List Cond := [Cond.constant RX8 181 (1000000), Cond.fieldLink RX8 13 "WordFletchersModel" "people" "[I", Cond.fieldLink RX8 60 "WordFletchersModel" "needed" "[I", Cond.methodLink RX8 145 yX8_has, Cond.static yX8_has, Cond.initialized RX8, Cond.code yX8_has cX8_has 2 (some .boolean), Cond.methodLink RX8 182 yX8_behind, Cond.instanceMethod yX8_behind, Cond.selects RX8 yX8_behind yX8_behind, Cond.code yX8_behind cX8_behind 7 (some .int), Cond.methodLink RX8 151 yX8_windIn, Cond.instanceMethod yX8_windIn, Cond.selects RX8 yX8_windIn yX8_windIn, Cond.code yX8_windIn cX8_windIn 2 (some .int), Cond.fieldLink RX8 38 "WordFletchersModel" "wind" "[I", Cond.fieldLink RX8 44 "WordFletchersModel" "now" "[I", Cond.fieldLink RX8 35 "WordFletchersModel" "winds" "[I", Cond.methodLink RX8 161 yX8_landsBy, Cond.instanceMethod yX8_landsBy, Cond.selects RX8 yX8_landsBy yX8_landsBy, Cond.code yX8_landsBy cX8_landsBy 11 (some .int), Cond.fieldLink RX8 29 "WordFletchersModel" "twist" "[I", Cond.fieldLink RX8 26 "WordFletchersModel" "weight" "[I"]
def wsX8_measure_r2 : List Cond := [Cond.fieldLink RX8 17 "WordFletchersModel" "place" "[I", Cond.methodLink RX8 134 yX8_liftOf, Cond.static yX8_liftOf, Cond.code yX8_liftOf cX8_liftOf 1 (some .int), Cond.methodLink RX8 72 yX8_in, Cond.static yX8_in, Cond.code yX8_in cX8_in 3 (some .boolean), Cond.methodLink RX8 165 yX8_hearersOf, Cond.instanceMethod yX8_hearersOf, Cond.selects RX8 yX8_hearersOf yX8_hearersOf, Cond.code yX8_hearersOf cX8_hearersOf 5 (some .int), Cond.methodLink RX8 138 yX8_doesHear, Cond.instanceMethod yX8_doesHear, Cond.selects RX8 yX8_doesHear yX8_doesHear, Cond.code yX8_doesHear cX8_doesHear 4 (some .boolean), Cond.fieldLink RX8 20 "WordFletchersModel" "ear" "[I"]
def wsX8_measure : List Cond := .code yX8_measure cX8_measure 9 none :: ((wsX8_measure_r1 ++ wsX8_measure_r2) ++ wsX80)
def wsX8_relay_r1 : List Cond := [Cond.fieldLink RX8 44 "WordFletchersModel" "now" "[I", Cond.fieldLink RX8 60 "WordFletchersModel" "needed" "[I", Cond.constant RX8 181 (1000000), Cond.fieldLink RX8 13 "WordFletchersModel" "people" "[I", Cond.methodLink RX8 148 yX8_isSaying, Cond.instanceMethod yX8_isSaying, Cond.selects RX8 yX8_isSaying yX8_isSaying, Cond.initialized RX8, Cond.code yX8_isSaying cX8_isSaying 2 (some .boolean), Cond.fieldLink RX8 23 "WordFletchersModel" "sayings" "[I", Cond.methodLink RX8 72 yX8_in, Cond.static yX8_in, Cond.code yX8_in cX8_in 3 (some .boolean), Cond.methodLink RX8 142 yX8_isOne, Cond.instanceMethod yX8_isOne, Cond.selects RX8 yX8_isOne yX8_isOne, Cond.code yX8_isOne cX8_isOne 2 (some .boolean), Cond.methodLink RX8 185 yX8_measure, Cond.instanceMethod yX8_measure, Cond.selects RX8 yX8_measure yX8_measure, Cond.code yX8_measure cX8_measure 9 none, Cond.methodLink RX8 145 yX8_has, Cond.static yX8_has, Cond.code yX8_has cX8_has 2 (some .boolean)]
def wsX8_relay_r2 : List Cond := [Cond.methodLink RX8 182 yX8_behind, Cond.instanceMethod yX8_behind, Cond.selects RX8 yX8_behind yX8_behind, Cond.code yX8_behind cX8_behind 7 (some .int), Cond.methodLink RX8 151 yX8_windIn, Cond.instanceMethod yX8_windIn, Cond.selects RX8 yX8_windIn yX8_windIn, Cond.code yX8_windIn cX8_windIn 2 (some .int), Cond.fieldLink RX8 38 "WordFletchersModel" "wind" "[I", Cond.fieldLink RX8 35 "WordFletchersModel" "winds" "[I", Cond.methodLink RX8 161 yX8_landsBy, Cond.instanceMethod yX8_landsBy, Cond.selects RX8 yX8_landsBy yX8_landsBy, Cond.code yX8_landsBy cX8_landsBy 11 (some .int), Cond.fieldLink RX8 29 "WordFletchersModel" "twist" "[I", Cond.fieldLink RX8 26 "WordFletchersModel" "weight" "[I", Cond.fieldLink RX8 17 "WordFletchersModel" "place" "[I", Cond.methodLink RX8 134 yX8_liftOf, Cond.static yX8_liftOf, Cond.code yX8_liftOf cX8_liftOf 1 (some .int), Cond.methodLink RX8 165 yX8_hearersOf, Cond.instanceMethod yX8_hearersOf, Cond.selects RX8 yX8_hearersOf yX8_hearersOf, Cond.code yX8_hearersOf cX8_hearersOf 5 (some .int)]
def wsX8_relay_r3 : List Cond := [Cond.methodLink RX8 138 yX8_doesHear, Cond.instanceMethod yX8_doesHear, Cond.selects RX8 yX8_doesHear yX8_doesHear, Cond.code yX8_doesHear cX8_doesHear 4 (some .boolean), Cond.fieldLink RX8 20 "WordFletchersModel" "ear" "[I"]
def wsX8_relay : List Cond := .code yX8_relay cX8_relay 11 (some .int) :: ((wsX8_relay_r1 ++ (wsX8_relay_r2 ++ wsX8_relay_r3)) ++ wsX80)
def wsX8_tellDue_r1 : List Cond := [Cond.fieldLink RX8 23 "WordFletchersModel" "sayings" "[I", Cond.fieldLink RX8 63 "WordFletchersModel" "least" "[I", Cond.constant RX8 181 (1000000), Cond.fieldLink RX8 32 "WordFletchersModel" "first" "[I", Cond.methodLink RX8 151 yX8_windIn, Cond.instanceMethod yX8_windIn, Cond.selects RX8 yX8_windIn yX8_windIn, Cond.initialized RX8, Cond.code yX8_windIn cX8_windIn 2 (some .int), Cond.fieldLink RX8 38 "WordFletchersModel" "wind" "[I", Cond.fieldLink RX8 44 "WordFletchersModel" "now" "[I", Cond.fieldLink RX8 35 "WordFletchersModel" "winds" "[I", Cond.methodLink RX8 161 yX8_landsBy, Cond.instanceMethod yX8_landsBy, Cond.selects RX8 yX8_landsBy yX8_landsBy, Cond.code yX8_landsBy cX8_landsBy 11 (some .int), Cond.fieldLink RX8 29 "WordFletchersModel" "twist" "[I", Cond.fieldLink RX8 26 "WordFletchersModel" "weight" "[I", Cond.fieldLink RX8 17 "WordFletchersModel" "place" "[I", Cond.methodLink RX8 134 yX8_liftOf, Cond.static yX8_liftOf, Cond.code yX8_liftOf cX8_liftOf 1 (some .int), Cond.methodLink RX8 72 yX8_in, Cond.static yX8_in]
def wsX8_tellDue_r2 : List Cond := [Cond.code yX8_in cX8_in 3 (some .boolean), Cond.methodLink RX8 165 yX8_hearersOf, Cond.instanceMethod yX8_hearersOf, Cond.selects RX8 yX8_hearersOf yX8_hearersOf, Cond.code yX8_hearersOf cX8_hearersOf 5 (some .int), Cond.fieldLink RX8 13 "WordFletchersModel" "people" "[I", Cond.methodLink RX8 138 yX8_doesHear, Cond.instanceMethod yX8_doesHear, Cond.selects RX8 yX8_doesHear yX8_doesHear, Cond.code yX8_doesHear cX8_doesHear 4 (some .boolean), Cond.fieldLink RX8 20 "WordFletchersModel" "ear" "[I"]
def wsX8_tellDue : List Cond := .code yX8_tellDue cX8_tellDue 5 none :: ((wsX8_tellDue_r1 ++ wsX8_tellDue_r2) ++ wsX80)
def wsX8_takes : List Cond := .code yX8_takes cX8_takes 12 (some .int) :: ([.fieldLink RX8 23 "WordFletchersModel" "sayings" "[I", .fieldLink RX8 63 "WordFletchersModel" "least" "[I", .fieldLink RX8 44 "WordFletchersModel" "now" "[I", .constant RX8 181 (1000000), .methodLink RX8 145 yX8_has, .static yX8_has, .initialized RX8, .code yX8_has cX8_has 2 (some .boolean)] ++ wsX80)
def wsX8_allot_r1 : List Cond := [Cond.fieldLink RX8 23 "WordFletchersModel" "sayings" "[I", Cond.constant RX8 181 (1000000), Cond.fieldLink RX8 63 "WordFletchersModel" "least" "[I", Cond.methodLink RX8 72 yX8_in, Cond.static yX8_in, Cond.initialized RX8, Cond.code yX8_in cX8_in 3 (some .boolean), Cond.methodLink RX8 148 yX8_isSaying, Cond.instanceMethod yX8_isSaying, Cond.selects RX8 yX8_isSaying yX8_isSaying, Cond.code yX8_isSaying cX8_isSaying 2 (some .boolean), Cond.methodLink RX8 145 yX8_has, Cond.static yX8_has, Cond.code yX8_has cX8_has 2 (some .boolean), Cond.methodLink RX8 189 yX8_tellDue, Cond.instanceMethod yX8_tellDue, Cond.selects RX8 yX8_tellDue yX8_tellDue, Cond.code yX8_tellDue cX8_tellDue 5 none, Cond.fieldLink RX8 32 "WordFletchersModel" "first" "[I", Cond.methodLink RX8 151 yX8_windIn, Cond.instanceMethod yX8_windIn, Cond.selects RX8 yX8_windIn yX8_windIn, Cond.code yX8_windIn cX8_windIn 2 (some .int), Cond.fieldLink RX8 38 "WordFletchersModel" "wind" "[I"]
def wsX8_allot_r2 : List Cond := [Cond.fieldLink RX8 44 "WordFletchersModel" "now" "[I", Cond.fieldLink RX8 35 "WordFletchersModel" "winds" "[I", Cond.methodLink RX8 161 yX8_landsBy, Cond.instanceMethod yX8_landsBy, Cond.selects RX8 yX8_landsBy yX8_landsBy, Cond.code yX8_landsBy cX8_landsBy 11 (some .int), Cond.fieldLink RX8 29 "WordFletchersModel" "twist" "[I", Cond.fieldLink RX8 26 "WordFletchersModel" "weight" "[I", Cond.fieldLink RX8 17 "WordFletchersModel" "place" "[I", Cond.methodLink RX8 134 yX8_liftOf, Cond.static yX8_liftOf, Cond.code yX8_liftOf cX8_liftOf 1 (some .int), Cond.methodLink RX8 165 yX8_hearersOf, Cond.instanceMethod yX8_hearersOf, Cond.selects RX8 yX8_hearersOf yX8_hearersOf, Cond.code yX8_hearersOf cX8_hearersOf 5 (some .int), Cond.fieldLink RX8 13 "WordFletchersModel" "people" "[I", Cond.methodLink RX8 138 yX8_doesHear, Cond.instanceMethod yX8_doesHear, Cond.selects RX8 yX8_doesHear yX8_doesHear, Cond.code yX8_doesHear cX8_doesHear 4 (some .boolean), Cond.fieldLink RX8 20 "WordFletchersModel" "ear" "[I", Cond.methodLink RX8 192 yX8_bitsOf, Cond.static yX8_bitsOf]
def wsX8_allot_r3 : List Cond := [Cond.code yX8_bitsOf cX8_bitsOf 3 (some .int), Cond.methodLink RX8 195 yX8_takes, Cond.instanceMethod yX8_takes, Cond.selects RX8 yX8_takes yX8_takes, Cond.code yX8_takes cX8_takes 12 (some .int)]
def wsX8_allot : List Cond := .code yX8_allot cX8_allot 8 (some .int) :: ((wsX8_allot_r1 ++ (wsX8_allot_r2 ++ wsX8_allot_r3)) ++ wsX80)
def wsX8_odds_r1 : List Cond := [Cond.fieldLink RX8 35 "WordFletchersModel" "winds" "[I", Cond.fieldLink RX8 38 "WordFletchersModel" "wind" "[I", Cond.methodLink RX8 171 yX8_areUnlike, Cond.instanceMethod yX8_areUnlike, Cond.selects RX8 yX8_areUnlike yX8_areUnlike, Cond.initialized RX8, Cond.code yX8_areUnlike cX8_areUnlike 3 (some .boolean), Cond.methodLink RX8 142 yX8_isOne, Cond.instanceMethod yX8_isOne, Cond.selects RX8 yX8_isOne yX8_isOne, Cond.code yX8_isOne cX8_isOne 2 (some .boolean), Cond.fieldLink RX8 13 "WordFletchersModel" "people" "[I", Cond.methodLink RX8 72 yX8_in, Cond.static yX8_in, Cond.code yX8_in cX8_in 3 (some .boolean), Cond.methodLink RX8 148 yX8_isSaying, Cond.instanceMethod yX8_isSaying, Cond.selects RX8 yX8_isSaying yX8_isSaying, Cond.code yX8_isSaying cX8_isSaying 2 (some .boolean), Cond.fieldLink RX8 23 "WordFletchersModel" "sayings" "[I", Cond.methodLink RX8 178 yX8_isShotBy, Cond.static yX8_isShotBy, Cond.code yX8_isShotBy cX8_isShotBy 1 (some .boolean), Cond.methodLink RX8 155 yX8_isShot]
def wsX8_odds_r2 : List Cond := [Cond.static yX8_isShot, Cond.code yX8_isShot cX8_isShot 3 (some .boolean), Cond.methodLink RX8 174 yX8_isHeard, Cond.instanceMethod yX8_isHeard, Cond.selects RX8 yX8_isHeard yX8_isHeard, Cond.code yX8_isHeard cX8_isHeard 6 (some .boolean), Cond.methodLink RX8 161 yX8_landsBy, Cond.instanceMethod yX8_landsBy, Cond.selects RX8 yX8_landsBy yX8_landsBy, Cond.code yX8_landsBy cX8_landsBy 11 (some .int), Cond.fieldLink RX8 29 "WordFletchersModel" "twist" "[I", Cond.fieldLink RX8 26 "WordFletchersModel" "weight" "[I", Cond.fieldLink RX8 44 "WordFletchersModel" "now" "[I", Cond.fieldLink RX8 17 "WordFletchersModel" "place" "[I", Cond.methodLink RX8 134 yX8_liftOf, Cond.static yX8_liftOf, Cond.code yX8_liftOf cX8_liftOf 1 (some .int), Cond.methodLink RX8 138 yX8_doesHear, Cond.instanceMethod yX8_doesHear, Cond.selects RX8 yX8_doesHear yX8_doesHear, Cond.code yX8_doesHear cX8_doesHear 4 (some .boolean), Cond.fieldLink RX8 20 "WordFletchersModel" "ear" "[I"]
def wsX8_odds : List Cond := .code yX8_odds cX8_odds 10 (some .int) :: ((wsX8_odds_r1 ++ wsX8_odds_r2) ++ wsX80)
def wsX8_saw : List Cond := .code yX8_saw cX8_saw 3 (some .int) :: ([.fieldLink RX8 131 "WordFletchersModel" "sights" "I", .fieldLink RX8 66 "WordFletchersModel" "sightOf" "[I", .fieldLink RX8 69 "WordFletchersModel" "sightAt" "[I", .methodLink RX8 148 yX8_isSaying, .instanceMethod yX8_isSaying, .selects RX8 yX8_isSaying yX8_isSaying, .initialized RX8, .code yX8_isSaying cX8_isSaying 2 (some .boolean), .fieldLink RX8 23 "WordFletchersModel" "sayings" "[I", .methodLink RX8 72 yX8_in, .static yX8_in, .code yX8_in cX8_in 3 (some .boolean)] ++ wsX80)
def wsX8_forget : List Cond := .code yX8_forget cX8_forget 2 (some .int) :: ([.fieldLink RX8 131 "WordFletchersModel" "sights" "I"] ++ wsX80)
def wsX8_spotsOf : List Cond := .code yX8_spotsOf cX8_spotsOf 6 (some .int) :: ([.methodLink RX8 151 yX8_windIn, .instanceMethod yX8_windIn, .selects RX8 yX8_windIn yX8_windIn, .initialized RX8, .code yX8_windIn cX8_windIn 2 (some .int), .fieldLink RX8 38 "WordFletchersModel" "wind" "[I", .fieldLink RX8 44 "WordFletchersModel" "now" "[I", .fieldLink RX8 35 "WordFletchersModel" "winds" "[I", .methodLink RX8 161 yX8_landsBy, .instanceMethod yX8_landsBy, .selects RX8 yX8_landsBy yX8_landsBy, .code yX8_landsBy cX8_landsBy 11 (some .int), .fieldLink RX8 29 "WordFletchersModel" "twist" "[I", .fieldLink RX8 26 "WordFletchersModel" "weight" "[I", .fieldLink RX8 17 "WordFletchersModel" "place" "[I", .methodLink RX8 134 yX8_liftOf, .static yX8_liftOf, .code yX8_liftOf cX8_liftOf 1 (some .int), .methodLink RX8 72 yX8_in, .static yX8_in, .code yX8_in cX8_in 3 (some .boolean)] ++ wsX80)
def wsX8_who_r1 : List Cond := [Cond.fieldLink RX8 13 "WordFletchersModel" "people" "[I", Cond.fieldLink RX8 131 "WordFletchersModel" "sights" "I", Cond.fieldLink RX8 66 "WordFletchersModel" "sightOf" "[I", Cond.fieldLink RX8 69 "WordFletchersModel" "sightAt" "[I", Cond.methodLink RX8 198 yX8_spotsOf, Cond.instanceMethod yX8_spotsOf, Cond.selects RX8 yX8_spotsOf yX8_spotsOf, Cond.initialized RX8, Cond.code yX8_spotsOf cX8_spotsOf 6 (some .int), Cond.methodLink RX8 151 yX8_windIn, Cond.instanceMethod yX8_windIn, Cond.selects RX8 yX8_windIn yX8_windIn, Cond.code yX8_windIn cX8_windIn 2 (some .int), Cond.fieldLink RX8 38 "WordFletchersModel" "wind" "[I", Cond.fieldLink RX8 44 "WordFletchersModel" "now" "[I", Cond.fieldLink RX8 35 "WordFletchersModel" "winds" "[I", Cond.methodLink RX8 161 yX8_landsBy, Cond.instanceMethod yX8_landsBy, Cond.selects RX8 yX8_landsBy yX8_landsBy, Cond.code yX8_landsBy cX8_landsBy 11 (some .int), Cond.fieldLink RX8 29 "WordFletchersModel" "twist" "[I", Cond.fieldLink RX8 26 "WordFletchersModel" "weight" "[I", Cond.fieldLink RX8 17 "WordFletchersModel" "place" "[I", Cond.methodLink RX8 134 yX8_liftOf]
def wsX8_who_r2 : List Cond := [Cond.static yX8_liftOf, Cond.code yX8_liftOf cX8_liftOf 1 (some .int), Cond.methodLink RX8 72 yX8_in, Cond.static yX8_in, Cond.code yX8_in cX8_in 3 (some .boolean), Cond.methodLink RX8 145 yX8_has, Cond.static yX8_has, Cond.code yX8_has cX8_has 2 (some .boolean)]
def wsX8_who : List Cond := .code yX8_who cX8_who 5 (some .int) :: ((wsX8_who_r1 ++ wsX8_who_r2) ++ wsX80)
def wsX8_ask_r1 : List Cond := [Cond.fieldLink RX8 23 "WordFletchersModel" "sayings" "[I", Cond.fieldLink RX8 13 "WordFletchersModel" "people" "[I", Cond.methodLink RX8 201 yX8_who, Cond.instanceMethod yX8_who, Cond.selects RX8 yX8_who yX8_who, Cond.initialized RX8, Cond.code yX8_who cX8_who 5 (some .int), Cond.fieldLink RX8 131 "WordFletchersModel" "sights" "I", Cond.fieldLink RX8 66 "WordFletchersModel" "sightOf" "[I", Cond.fieldLink RX8 69 "WordFletchersModel" "sightAt" "[I", Cond.methodLink RX8 198 yX8_spotsOf, Cond.instanceMethod yX8_spotsOf, Cond.selects RX8 yX8_spotsOf yX8_spotsOf, Cond.code yX8_spotsOf cX8_spotsOf 6 (some .int), Cond.methodLink RX8 151 yX8_windIn, Cond.instanceMethod yX8_windIn, Cond.selects RX8 yX8_windIn yX8_windIn, Cond.code yX8_windIn cX8_windIn 2 (some .int), Cond.fieldLink RX8 38 "WordFletchersModel" "wind" "[I", Cond.fieldLink RX8 44 "WordFletchersModel" "now" "[I", Cond.fieldLink RX8 35 "WordFletchersModel" "winds" "[I", Cond.methodLink RX8 161 yX8_landsBy, Cond.instanceMethod yX8_landsBy, Cond.selects RX8 yX8_landsBy yX8_landsBy]
def wsX8_ask_r2 : List Cond := [Cond.code yX8_landsBy cX8_landsBy 11 (some .int), Cond.fieldLink RX8 29 "WordFletchersModel" "twist" "[I", Cond.fieldLink RX8 26 "WordFletchersModel" "weight" "[I", Cond.fieldLink RX8 17 "WordFletchersModel" "place" "[I", Cond.methodLink RX8 134 yX8_liftOf, Cond.static yX8_liftOf, Cond.code yX8_liftOf cX8_liftOf 1 (some .int), Cond.methodLink RX8 72 yX8_in, Cond.static yX8_in, Cond.code yX8_in cX8_in 3 (some .boolean), Cond.methodLink RX8 145 yX8_has, Cond.static yX8_has, Cond.code yX8_has cX8_has 2 (some .boolean), Cond.methodLink RX8 192 yX8_bitsOf, Cond.static yX8_bitsOf, Cond.code yX8_bitsOf cX8_bitsOf 3 (some .int)]
def wsX8_ask : List Cond := .code yX8_ask cX8_ask 9 (some .int) :: ((wsX8_ask_r1 ++ wsX8_ask_r2) ++ wsX80)
def wsX8_bodiesOf : List Cond := .code yX8_bodiesOf cX8_bodiesOf 1 (some .int) :: ([])
def wsX8_mark_r1 : List Cond := [Cond.constant RX8 154 (-1000000), Cond.fieldLink RX8 207 "WordFletchersModel" "trace" "J", Cond.constantLong RX8 211 (10), Cond.fieldLink RX8 17 "WordFletchersModel" "place" "[I", Cond.fieldLink RX8 44 "WordFletchersModel" "now" "[I", Cond.methodLink RX8 72 yX8_in, Cond.static yX8_in, Cond.initialized RX8, Cond.code yX8_in cX8_in 3 (some .boolean), Cond.methodLink RX8 142 yX8_isOne, Cond.instanceMethod yX8_isOne, Cond.selects RX8 yX8_isOne yX8_isOne, Cond.code yX8_isOne cX8_isOne 2 (some .boolean), Cond.fieldLink RX8 13 "WordFletchersModel" "people" "[I", Cond.methodLink RX8 204 yX8_bodiesOf, Cond.static yX8_bodiesOf, Cond.code yX8_bodiesOf cX8_bodiesOf 1 (some .int), Cond.methodLink RX8 145 yX8_has, Cond.static yX8_has, Cond.code yX8_has cX8_has 2 (some .boolean), Cond.methodLink RX8 213 yX8_one, Cond.instanceMethod yX8_one, Cond.selects RX8 yX8_one yX8_one, Cond.code yX8_one cX8_one 5 (some .int)]
def wsX8_mark_r2 : List Cond := [Cond.fieldLink RX8 20 "WordFletchersModel" "ear" "[I", Cond.fieldLink RX8 23 "WordFletchersModel" "sayings" "[I", Cond.methodLink RX8 192 yX8_bitsOf, Cond.static yX8_bitsOf, Cond.code yX8_bitsOf cX8_bitsOf 3 (some .int)]
def wsX8_mark : List Cond := .code yX8_mark cX8_mark 7 (some .int) :: ((wsX8_mark_r1 ++ wsX8_mark_r2) ++ wsX80)
def wsX8_trace : List Cond := .code yX8_trace cX8_trace 1 (some .long) :: ([.fieldLink RX8 207 "WordFletchersModel" "trace" "J"] ++ wsX80)
def wsX8_keep : List Cond := .code yX8_keep cX8_keep 3 (some .int) :: ([.fieldLink RX8 53 "WordFletchersModel" "store" "[I", .fieldLink RX8 44 "WordFletchersModel" "now" "[I", .fieldLink RX8 50 "WordFletchersModel" "before" "[I", .fieldLink RX8 47 "WordFletchersModel" "known" "[I", .fieldLink RX8 56 "WordFletchersModel" "isKept" "[Z", .methodLink RX8 72 yX8_in, .static yX8_in, .initialized RX8, .code yX8_in cX8_in 3 (some .boolean)] ++ wsX80)
def wsX8_back : List Cond := .code yX8_back cX8_back 3 (some .int) :: ([.fieldLink RX8 56 "WordFletchersModel" "isKept" "[Z", .fieldLink RX8 44 "WordFletchersModel" "now" "[I", .fieldLink RX8 53 "WordFletchersModel" "store" "[I", .fieldLink RX8 50 "WordFletchersModel" "before" "[I", .fieldLink RX8 47 "WordFletchersModel" "known" "[I", .methodLink RX8 72 yX8_in, .static yX8_in, .initialized RX8, .code yX8_in cX8_in 3 (some .boolean)] ++ wsX80)
def wsX8_count : List Cond := .code yX8_count cX8_count 2 (some .int) :: ([.fieldLink RX8 13 "WordFletchersModel" "people" "[I", .fieldLink RX8 23 "WordFletchersModel" "sayings" "[I", .fieldLink RX8 35 "WordFletchersModel" "winds" "[I", .fieldLink RX8 131 "WordFletchersModel" "sights" "I", .fieldLink RX8 47 "WordFletchersModel" "known" "[I", .fieldLink RX8 76 "WordFletchersModel" "typed" "I"] ++ wsX80)
def wsJ9_abs_0f7a4 : List Cond := .code yJ9_abs_0f7a4 cJ9_abs_0f7a4 1 (some .int) :: ([])
def wsJ9_max_7cf53 : List Cond := .code yJ9_max_7cf53 cJ9_max_7cf53 2 (some .int) :: ([])
def wsJ9_min_7cf53 : List Cond := .code yJ9_min_7cf53 cJ9_min_7cf53 2 (some .int) :: ([])
def wsL_law_r1 : List Cond := [Cond.classLink RL 7 RX7, Cond.instantiable RX7 13, Cond.initialized RX7, Cond.classLink RL 10 RX8, Cond.instantiable RX8 30, Cond.initialized RX8, Cond.methodLink RL 9 yX7_init, Cond.instanceMethod yX7_init, Cond.code yX7_init cX7_init 2 none, Cond.methodLink RX7 1 objectInit, Cond.instanceMethod objectInit, Cond.code objectInit ⟨#[0xb1]⟩ 1 none, Cond.arrayClass .int, Cond.fieldLink RX7 9 "WordFletchers" "text" "[I", Cond.fieldLink RX7 13 "WordFletchers" "textLength" "I", Cond.classLink RX7 17 RX5, Cond.instantiable RX5 6, Cond.initialized RX5, Cond.fieldLink RX7 22 "WordFletchers" "reader" "LWordFletchers$TextReader;", Cond.classLink RX7 26 RX6, Cond.instantiable RX6 10, Cond.initialized RX6, Cond.fieldLink RX7 29 "WordFletchers" "told" "LWordFletchers$Told;", Cond.fieldLink RX7 33 "WordFletchers" "draft" "LWordFletchers$Told;"]
def wsL_law_r2 : List Cond := [Cond.classLink RX7 36 RX2, Cond.instantiable RX2 7, Cond.initialized RX2, Cond.fieldLink RX7 39 "WordFletchers" "moment" "LWordFletchers$Moment;", Cond.classLink RX7 43 RX3, Cond.instantiable RX3 2, Cond.initialized RX3, Cond.fieldLink RX7 46 "WordFletchers" "past" "LWordFletchers$Past;", Cond.classLink RX7 50 RX1, Cond.fieldLink RX7 52 "WordFletchers" "images" "[LWordFletchers$Image;", Cond.classLink RX7 56 RX4, Cond.instantiable RX4 5, Cond.initialized RX4, Cond.fieldLink RX7 59 "WordFletchers" "sightings" "LWordFletchers$Sightings;", Cond.classLink RX7 63 RX0, Cond.instantiable RX0 6, Cond.initialized RX0, Cond.fieldLink RX7 66 "WordFletchers" "allotment" "LWordFletchers$Allotment;", Cond.fieldLink RX7 70 "WordFletchers" "shotsNeeded" "[I", Cond.fieldLink RX7 73 "WordFletchers" "placesReached" "[I", Cond.fieldLink RX7 76 "WordFletchers" "traced" "J", Cond.instantiable RX1 3, Cond.initialized RX1, Cond.methodLink RX7 19 yX5_init]
def wsL_law_r3 : List Cond := [Cond.instanceMethod yX5_init, Cond.code yX5_init cX5_init 2 none, Cond.methodLink RX5 3 objectInit, Cond.fieldLink RX5 9 "WordFletchers$TextReader" "bytes" "[I", Cond.methodLink RX7 28 yX6_init, Cond.instanceMethod yX6_init, Cond.code yX6_init cX6_init 1 none, Cond.methodLink RX6 3 objectInit, Cond.fieldLink RX6 9 "WordFletchers$Told" "place" "[I", Cond.fieldLink RX6 15 "WordFletchers$Told" "ear" "[I", Cond.fieldLink RX6 18 "WordFletchers$Told" "weight" "[I", Cond.fieldLink RX6 21 "WordFletchers$Told" "twist" "[I", Cond.fieldLink RX6 24 "WordFletchers$Told" "first" "[I", Cond.fieldLink RX6 27 "WordFletchers$Told" "winds" "[I", Cond.fieldLink RX6 30 "WordFletchers$Told" "feathers" "[I", Cond.methodLink RX6 33 yX6_tellNothing, Cond.instanceMethod yX6_tellNothing, Cond.selects RX6 yX6_tellNothing yX6_tellNothing, Cond.code yX6_tellNothing cX6_tellNothing 2 none, Cond.fieldLink RX6 36 "WordFletchers$Told" "people" "I", Cond.fieldLink RX6 40 "WordFletchers$Told" "sayings" "I", Cond.fieldLink RX6 43 "WordFletchers$Told" "windsTold" "I", Cond.instanceMethod yX2_init, Cond.code yX2_init cX2_init 1 none]
def wsL_law_r4 : List Cond := [Cond.methodLink RX2 3 objectInit, Cond.fieldLink RX2 9 "WordFletchers$Moment" "feathers" "[I", Cond.fieldLink RX2 15 "WordFletchers$Moment" "knows" "[I", Cond.fieldLink RX2 18 "WordFletchers$Moment" "straySaying" "[I", Cond.fieldLink RX2 21 "WordFletchers$Moment" "strayPlace" "[I", Cond.methodLink RX7 45 yX3_init, Cond.instanceMethod yX3_init, Cond.code yX3_init cX3_init 2 none, Cond.methodLink RX3 3 objectInit, Cond.classLink RX3 9 RX2, Cond.fieldLink RX3 11 "WordFletchers$Past" "moments" "[LWordFletchers$Moment;", Cond.fieldLink RX3 17 "WordFletchers$Past" "known" "I", Cond.instanceMethod yX4_init, Cond.code yX4_init cX4_init 1 none, Cond.methodLink RX4 3 objectInit, Cond.fieldLink RX4 9 "WordFletchers$Sightings" "saying" "[I", Cond.fieldLink RX4 15 "WordFletchers$Sightings" "place" "[I", Cond.fieldLink RX4 18 "WordFletchers$Sightings" "wind" "[I", Cond.fieldLink RX4 21 "WordFletchers$Sightings" "damp" "[I", Cond.fieldLink RX4 24 "WordFletchers$Sightings" "size" "I", Cond.instanceMethod yX0_init, Cond.code yX0_init cX0_init 1 none, Cond.methodLink RX0 3 objectInit, Cond.fieldLink RX0 9 "WordFletchers$Allotment" "saying" "[I"]
def wsL_law_r5 : List Cond := [Cond.fieldLink RX0 15 "WordFletchers$Allotment" "fewest" "[I", Cond.fieldLink RX0 18 "WordFletchers$Allotment" "used" "[I", Cond.fieldLink RX0 21 "WordFletchers$Allotment" "members" "I", Cond.instanceMethod yX1_init, Cond.code yX1_init cX1_init 1 none, Cond.methodLink RX1 1 objectInit, Cond.classLink RX1 7 RX2, Cond.fieldLink RX1 10 "WordFletchers$Image" "moment" "LWordFletchers$Moment;", Cond.classLink RX1 16 RX3, Cond.fieldLink RX1 19 "WordFletchers$Image" "past" "LWordFletchers$Past;", Cond.fieldLink RX1 23 "WordFletchers$Image" "kept" "Z", Cond.methodLink RX1 18 yX3_init, Cond.methodLink RX7 81 yX2_begin, Cond.instanceMethod yX2_begin, Cond.selects RX2 yX2_begin yX2_begin, Cond.code yX2_begin cX2_begin 3 none, Cond.fieldLink RX2 24 "WordFletchers$Moment" "hour" "I", Cond.fieldLink RX2 28 "WordFletchers$Moment" "damp" "I", Cond.fieldLink RX2 31 "WordFletchers$Moment" "strays" "I", Cond.fieldLink RX2 34 "WordFletchers$Told" "feathers" "[I", Cond.fieldLink RX2 37 "WordFletchers$Told" "sayings" "I", Cond.fieldLink RX2 40 "WordFletchers$Told" "first" "[I", Cond.methodLink RX2 43 yX2_tell, Cond.instanceMethod yX2_tell]
def wsL_law_r6 : List Cond := [Cond.selects RX2 yX2_tell yX2_tell, Cond.code yX2_tell cX2_tell 4 none, Cond.static yX7_isIn, Cond.code yX7_isIn cX7_isIn 2 (some .boolean), Cond.methodLink RL 12 yX8_init, Cond.instanceMethod yX8_init, Cond.code yX8_init cX8_init 2 none, Cond.methodLink RX8 1 objectInit, Cond.arrayClass .byte, Cond.fieldLink RX8 7 "WordFletchersModel" "text" "[B", Cond.fieldLink RX8 13 "WordFletchersModel" "people" "[I", Cond.fieldLink RX8 17 "WordFletchersModel" "place" "[I", Cond.fieldLink RX8 20 "WordFletchersModel" "ear" "[I", Cond.fieldLink RX8 23 "WordFletchersModel" "sayings" "[I", Cond.fieldLink RX8 26 "WordFletchersModel" "weight" "[I", Cond.fieldLink RX8 29 "WordFletchersModel" "twist" "[I", Cond.fieldLink RX8 32 "WordFletchersModel" "first" "[I", Cond.fieldLink RX8 35 "WordFletchersModel" "winds" "[I", Cond.fieldLink RX8 38 "WordFletchersModel" "wind" "[I", Cond.fieldLink RX8 41 "WordFletchersModel" "plenty" "[I", Cond.fieldLink RX8 44 "WordFletchersModel" "now" "[I", Cond.fieldLink RX8 47 "WordFletchersModel" "known" "[I", Cond.fieldLink RX8 50 "WordFletchersModel" "before" "[I", Cond.fieldLink RX8 53 "WordFletchersModel" "store" "[I"]
def wsL_law_r7 : List Cond := [Cond.arrayClass .boolean, Cond.fieldLink RX8 56 "WordFletchersModel" "isKept" "[Z", Cond.fieldLink RX8 60 "WordFletchersModel" "needed" "[I", Cond.fieldLink RX8 63 "WordFletchersModel" "least" "[I", Cond.fieldLink RX8 66 "WordFletchersModel" "sightOf" "[I", Cond.fieldLink RX8 69 "WordFletchersModel" "sightAt" "[I", Cond.methodLink RL 13 yX7_type, Cond.instanceMethod yX7_type, Cond.selects RX7 yX7_type yX7_type, Cond.code yX7_type cX7_type 2 (some .int), Cond.methodLink RL 17 yX8_type, Cond.instanceMethod yX8_type, Cond.selects RX8 yX8_type yX8_type, Cond.code yX8_type cX8_type 2 (some .int), Cond.fieldLink RX8 76 "WordFletchersModel" "typed" "I", Cond.methodLink RX8 72 yX8_in, Cond.static yX8_in, Cond.code yX8_in cX8_in 3 (some .boolean), Cond.methodLink RL 18 yX7_clear, Cond.instanceMethod yX7_clear, Cond.selects RX7 yX7_clear yX7_clear, Cond.code yX7_clear cX7_clear 2 (some .int), Cond.methodLink RL 22 yX8_clear, Cond.instanceMethod yX8_clear]
def wsL_law_r8 : List Cond := [Cond.selects RX8 yX8_clear yX8_clear, Cond.code yX8_clear cX8_clear 2 (some .int), Cond.methodLink RL 23 yX7_uplands, Cond.instanceMethod yX7_uplands, Cond.selects RX7 yX7_uplands yX7_uplands, Cond.code yX7_uplands cX7_uplands 3 (some .int), Cond.methodLink RX7 85 yX5_read, Cond.instanceMethod yX5_read, Cond.selects RX5 yX5_read yX5_read, Cond.code yX5_read cX5_read 4 (some .int), Cond.methodLink RX5 15 Lib.Math.min.name, Cond.static Lib.Math.min.name, Cond.initialized "java/lang/Math", Cond.code Lib.Math.min.name Lib.Math.min.code 2 (some .int), Cond.fieldLink RX5 21 "WordFletchers$TextReader" "length" "I", Cond.fieldLink RX5 25 "WordFletchers$TextReader" "next" "I", Cond.fieldLink RX5 36 "WordFletchers$TextReader" "sort" "I", Cond.fieldLink RX5 43 "WordFletchers$TextReader" "start" "I", Cond.methodLink RX5 28 yX6_tellNothing, Cond.methodLink RX5 33 yX5_step, Cond.instanceMethod yX5_step, Cond.selects RX5 yX5_step yX5_step, Cond.code yX5_step cX5_step 1 none, Cond.methodLink RX5 98 yX5_sortAt]
def wsL_law_r9 : List Cond := [Cond.instanceMethod yX5_sortAt, Cond.selects RX5 yX5_sortAt yX5_sortAt, Cond.code yX5_sortAt cX5_sortAt 3 (some .int), Cond.methodLink RX5 102 yX5_stepOverLetters, Cond.instanceMethod yX5_stepOverLetters, Cond.selects RX5 yX5_stepOverLetters yX5_stepOverLetters, Cond.code yX5_stepOverLetters cX5_stepOverLetters 1 none, Cond.fieldLink RX5 46 "WordFletchers$TextReader" "value" "I", Cond.methodLink RX5 105 yX5_stepOverDigits, Cond.instanceMethod yX5_stepOverDigits, Cond.selects RX5 yX5_stepOverDigits yX5_stepOverDigits, Cond.code yX5_stepOverDigits cX5_stepOverDigits 2 none, Cond.methodLink RX5 39 yX5_readItem, Cond.instanceMethod yX5_readItem, Cond.selects RX5 yX5_readItem yX5_readItem, Cond.code yX5_readItem cX5_readItem 2 (some .boolean), Cond.methodLink RX5 49 yX5_readOne, Cond.instanceMethod yX5_readOne, Cond.selects RX5 yX5_readOne yX5_readOne, Cond.code yX5_readOne cX5_readOne 4 (some .boolean), Cond.fieldLink RX5 61 "WordFletchers$Told" "people" "I", Cond.fieldLink RX5 71 "WordFletchers$Told" "place" "[I", Cond.fieldLink RX5 74 "WordFletchers$Told" "ear" "[I", Cond.methodLink RX5 64 yX5_takeNumber]
def wsL_law_r10 : List Cond := [Cond.instanceMethod yX5_takeNumber, Cond.selects RX5 yX5_takeNumber yX5_takeNumber, Cond.code yX5_takeNumber cX5_takeNumber 4 (some .int), Cond.methodLink RX5 67 yX5_takeSemicolon, Cond.instanceMethod yX5_takeSemicolon, Cond.selects RX5 yX5_takeSemicolon yX5_takeSemicolon, Cond.code yX5_takeSemicolon cX5_takeSemicolon 1 (some .boolean), Cond.methodLink RX5 52 yX5_readSaying, Cond.instanceMethod yX5_readSaying, Cond.selects RX5 yX5_readSaying yX5_readSaying, Cond.code yX5_readSaying cX5_readSaying 5 (some .boolean), Cond.fieldLink RX5 77 "WordFletchers$Told" "sayings" "I", Cond.fieldLink RX5 80 "WordFletchers$Told" "weight" "[I", Cond.fieldLink RX5 83 "WordFletchers$Told" "twist" "[I", Cond.fieldLink RX5 86 "WordFletchers$Told" "first" "[I", Cond.methodLink RX5 55 yX5_readWinds, Cond.instanceMethod yX5_readWinds, Cond.selects RX5 yX5_readWinds yX5_readWinds, Cond.code yX5_readWinds cX5_readWinds 4 (some .boolean), Cond.fieldLink RX5 89 "WordFletchers$Told" "windsTold" "I", Cond.fieldLink RX5 92 "WordFletchers$Told" "winds" "[I", Cond.methodLink RX5 58 yX5_readFeathers, Cond.instanceMethod yX5_readFeathers, Cond.selects RX5 yX5_readFeathers yX5_readFeathers]
def wsL_law_r11 : List Cond := [Cond.code yX5_readFeathers cX5_readFeathers 4 (some .boolean), Cond.fieldLink RX5 95 "WordFletchers$Told" "feathers" "[I", Cond.methodLink RX7 89 yX7_beginAnew, Cond.instanceMethod yX7_beginAnew, Cond.selects RX7 yX7_beginAnew yX7_beginAnew, Cond.code yX7_beginAnew cX7_beginAnew 2 none, Cond.fieldLink RX7 185 "WordFletchers$Past" "known" "I", Cond.fieldLink RX7 251 "WordFletchers$Sightings" "size" "I", Cond.fieldLink RX7 291 "WordFletchers$Image" "kept" "Z", Cond.methodLink RL 26 yX8_uplands, Cond.instanceMethod yX8_uplands, Cond.selects RX8 yX8_uplands yX8_uplands, Cond.code yX8_uplands cX8_uplands 2 (some .int), Cond.fieldLink RX8 96 "WordFletchersModel" "isWrong" "Z", Cond.fieldLink RX8 87 "WordFletchersModel" "stands" "I", Cond.fieldLink RX8 131 "WordFletchersModel" "sights" "I", Cond.fieldLink RX8 117 "WordFletchersModel" "items" "I", Cond.methodLink RX8 128 yX8_read, Cond.instanceMethod yX8_read, Cond.selects RX8 yX8_read yX8_read, Cond.code yX8_read cX8_read 2 none, Cond.fieldLink RX8 80 "WordFletchersModel" "at" "I", Cond.fieldLink RX8 107 "WordFletchersModel" "isBlown" "Z", Cond.fieldLink RX8 93 "WordFletchersModel" "sort" "I"]
def wsL_law_r12 : List Cond := [Cond.fieldLink RX8 90 "WordFletchersModel" "value" "I", Cond.methodLink RX8 100 yX8_step, Cond.instanceMethod yX8_step, Cond.selects RX8 yX8_step yX8_step, Cond.code yX8_step cX8_step 2 none, Cond.methodLink RX8 83 yX8_here, Cond.instanceMethod yX8_here, Cond.selects RX8 yX8_here yX8_here, Cond.code yX8_here cX8_here 1 (some .int), Cond.methodLink RX8 120 yX8_may, Cond.instanceMethod yX8_may, Cond.selects RX8 yX8_may yX8_may, Cond.code yX8_may cX8_may 2 (some .boolean), Cond.methodLink RX8 103 yX8_due, Cond.instanceMethod yX8_due, Cond.selects RX8 yX8_due yX8_due, Cond.code yX8_due cX8_due 2 none, Cond.methodLink RX8 124 yX8_item, Cond.instanceMethod yX8_item, Cond.selects RX8 yX8_item yX8_item, Cond.code yX8_item cX8_item 5 none, Cond.methodLink RX8 110 yX8_number, Cond.instanceMethod yX8_number, Cond.selects RX8 yX8_number yX8_number]
def wsL_law_r13 : List Cond := [Cond.code yX8_number cX8_number 4 (some .int), Cond.methodLink RX8 114 yX8_blow, Cond.instanceMethod yX8_blow, Cond.selects RX8 yX8_blow yX8_blow, Cond.code yX8_blow cX8_blow 2 none, Cond.methodLink RL 27 yX7_one, Cond.instanceMethod yX7_one, Cond.selects RX7 yX7_one yX7_one, Cond.code yX7_one cX7_one 3 (some .int), Cond.fieldLink RX7 96 "WordFletchers$Told" "place" "[I", Cond.fieldLink RX7 99 "WordFletchers$Told" "ear" "[I", Cond.fieldLink RX7 102 "WordFletchers$Moment" "knows" "[I", Cond.methodLink RX7 92 yX6_hasOne, Cond.instanceMethod yX6_hasOne, Cond.selects RX6 yX6_hasOne yX6_hasOne, Cond.code yX6_hasOne cX6_hasOne 2 (some .boolean), Cond.methodLink RL 31 yX8_one, Cond.instanceMethod yX8_one, Cond.selects RX8 yX8_one yX8_one, Cond.code yX8_one cX8_one 5 (some .int), Cond.methodLink RX8 142 yX8_isOne, Cond.instanceMethod yX8_isOne, Cond.selects RX8 yX8_isOne yX8_isOne, Cond.code yX8_isOne cX8_isOne 2 (some .boolean)]
def wsL_law_r14 : List Cond := [Cond.methodLink RX8 145 yX8_has, Cond.static yX8_has, Cond.code yX8_has cX8_has 2 (some .boolean), Cond.methodLink RL 32 yX7_saying, Cond.instanceMethod yX7_saying, Cond.selects RX7 yX7_saying yX7_saying, Cond.code yX7_saying cX7_saying 3 (some .int), Cond.fieldLink RX7 108 "WordFletchers$Told" "weight" "[I", Cond.fieldLink RX7 111 "WordFletchers$Told" "twist" "[I", Cond.fieldLink RX7 114 "WordFletchers$Told" "first" "[I", Cond.methodLink RX7 105 yX6_hasSaying, Cond.instanceMethod yX6_hasSaying, Cond.selects RX6 yX6_hasSaying yX6_hasSaying, Cond.code yX6_hasSaying cX6_hasSaying 2 (some .boolean), Cond.methodLink RX7 117 yX2_whoKnows, Cond.instanceMethod yX2_whoKnows, Cond.selects RX2 yX2_whoKnows yX2_whoKnows, Cond.code yX2_whoKnows cX2_whoKnows 4 (some .int), Cond.methodLink RX2 57 yX2_isKnown, Cond.instanceMethod yX2_isKnown, Cond.selects RX2 yX2_isKnown yX2_isKnown, Cond.code yX2_isKnown cX2_isKnown 3 (some .boolean), Cond.methodLink RL 35 yX8_saying, Cond.instanceMethod yX8_saying]
def wsL_law_r15 : List Cond := [Cond.selects RX8 yX8_saying yX8_saying, Cond.code yX8_saying cX8_saying 3 (some .int), Cond.methodLink RX8 148 yX8_isSaying, Cond.instanceMethod yX8_isSaying, Cond.selects RX8 yX8_isSaying yX8_isSaying, Cond.code yX8_isSaying cX8_isSaying 2 (some .boolean), Cond.methodLink RL 36 yX7_wind, Cond.instanceMethod yX7_wind, Cond.selects RX7 yX7_wind yX7_wind, Cond.code yX7_wind cX7_wind 2 (some .int), Cond.constant RX7 121 (-1000000), Cond.methodLink RX7 122 yX7_windIn, Cond.instanceMethod yX7_windIn, Cond.selects RX7 yX7_windIn yX7_windIn, Cond.code yX7_windIn cX7_windIn 2 (some .int), Cond.fieldLink RX7 174 "WordFletchers$Moment" "hour" "I", Cond.methodLink RX7 301 yX6_windOf, Cond.instanceMethod yX6_windOf, Cond.selects RX6 yX6_windOf yX6_windOf, Cond.code yX6_windOf cX6_windOf 2 (some .int), Cond.methodLink RX6 46 Lib.Math.max.name, Cond.static Lib.Math.max.name, Cond.code Lib.Math.max.name Lib.Math.max.code 2 (some .int), Cond.methodLink RX6 52 yX6_windCount]
def wsL_law_r16 : List Cond := [Cond.instanceMethod yX6_windCount, Cond.selects RX6 yX6_windCount yX6_windCount, Cond.code yX6_windCount cX6_windCount 1 (some .int), Cond.methodLink RL 39 yX8_wind, Cond.instanceMethod yX8_wind, Cond.selects RX8 yX8_wind yX8_wind, Cond.code yX8_wind cX8_wind 2 (some .int), Cond.constant RX8 154 (-1000000), Cond.methodLink RX8 151 yX8_windIn, Cond.instanceMethod yX8_windIn, Cond.selects RX8 yX8_windIn yX8_windIn, Cond.code yX8_windIn cX8_windIn 2 (some .int), Cond.methodLink RL 40 yX7_stray, Cond.instanceMethod yX7_stray, Cond.selects RX7 yX7_stray yX7_stray, Cond.code yX7_stray cX7_stray 3 (some .int), Cond.fieldLink RX7 125 "WordFletchers$Moment" "strays" "I", Cond.fieldLink RX7 128 "WordFletchers$Moment" "straySaying" "[I", Cond.fieldLink RX7 131 "WordFletchers$Moment" "strayPlace" "[I", Cond.methodLink RL 43 yX8_stray, Cond.instanceMethod yX8_stray, Cond.selects RX8 yX8_stray yX8_stray, Cond.code yX8_stray cX8_stray 3 (some .int), Cond.methodLink RL 44 yX7_lets]
def wsL_law_r17 : List Cond := [Cond.instanceMethod yX7_lets, Cond.selects RX7 yX7_lets yX7_lets, Cond.code yX7_lets cX7_lets 8 (some .int), Cond.fieldLink RX7 142 "WordFletchers$Moment" "feathers" "[I", Cond.methodLink RX7 134 yX7_isLetOff, Cond.instanceMethod yX7_isLetOff, Cond.selects RX7 yX7_isLetOff yX7_isLetOff, Cond.code yX7_isLetOff cX7_isLetOff 6 (some .boolean), Cond.methodLink RX7 138 yX2_isKnown, Cond.methodLink RX7 145 yX7_shotOf, Cond.static yX7_shotOf, Cond.code yX7_shotOf cX7_shotOf 3 (some .int), Cond.methodLink RX7 149 yX7_landingNow, Cond.instanceMethod yX7_landingNow, Cond.selects RX7 yX7_landingNow yX7_landingNow, Cond.code yX7_landingNow cX7_landingNow 4 (some .int), Cond.fieldLink RX7 177 "WordFletchers$Moment" "damp" "I", Cond.methodLink RX7 203 yX6_landing, Cond.instanceMethod yX6_landing, Cond.selects RX6 yX6_landing yX6_landing, Cond.code yX6_landing cX6_landing 13 (some .int), Cond.methodLink RX6 59 yX6_flight, Cond.instanceMethod yX6_flight, Cond.selects RX6 yX6_flight yX6_flight]
def wsL_law_r18 : List Cond := [Cond.code yX6_flight cX6_flight 6 (some .int), Cond.methodLink RX7 152 yX6_hearers, Cond.instanceMethod yX6_hearers, Cond.selects RX6 yX6_hearers yX6_hearers, Cond.code yX6_hearers cX6_hearers 5 (some .int), Cond.methodLink RX6 74 yX6_hears, Cond.instanceMethod yX6_hears, Cond.selects RX6 yX6_hears yX6_hears, Cond.code yX6_hears cX6_hears 3 (some .boolean), Cond.methodLink RX6 70 Lib.Math.abs.name, Cond.static Lib.Math.abs.name, Cond.code Lib.Math.abs.name Lib.Math.abs.code 1 (some .int), Cond.methodLink RX7 156 yX3_remember, Cond.instanceMethod yX3_remember, Cond.selects RX3 yX3_remember yX3_remember, Cond.code yX3_remember cX3_remember 2 none, Cond.methodLink RX3 22 yX3_loseOldest, Cond.instanceMethod yX3_loseOldest, Cond.selects RX3 yX3_loseOldest yX3_loseOldest, Cond.code yX3_loseOldest cX3_loseOldest 3 none, Cond.methodLink RX3 25 yX2_become, Cond.instanceMethod yX2_become, Cond.selects RX2 yX2_become yX2_become, Cond.code yX2_become cX2_become 2 none]
def wsL_law_r19 : List Cond := [Cond.methodLink RX2 47 arraycopyName, Cond.native arraycopyName, Cond.static arraycopyName, Cond.initialized "java/lang/System", Cond.methodLink RX7 160 yX2_tell, Cond.methodLink RX7 164 yX2_addStray, Cond.instanceMethod yX2_addStray, Cond.selects RX2 yX2_addStray yX2_addStray, Cond.code yX2_addStray cX2_addStray 3 none, Cond.methodLink RX2 60 yX2_removeStray, Cond.instanceMethod yX2_removeStray, Cond.selects RX2 yX2_removeStray yX2_removeStray, Cond.code yX2_removeStray cX2_removeStray 3 none, Cond.methodLink RL 48 yX8_lets, Cond.instanceMethod yX8_lets, Cond.selects RX8 yX8_lets yX8_lets, Cond.code yX8_lets cX8_lets 8 (some .int), Cond.methodLink RX8 155 yX8_isShot, Cond.static yX8_isShot, Cond.code yX8_isShot cX8_isShot 3 (some .boolean), Cond.methodLink RX8 158 yX8_know, Cond.instanceMethod yX8_know, Cond.selects RX8 yX8_know yX8_know, Cond.code yX8_know cX8_know 2 none]
def wsL_law_r20 : List Cond := [Cond.methodLink RX8 161 yX8_landsBy, Cond.instanceMethod yX8_landsBy, Cond.selects RX8 yX8_landsBy yX8_landsBy, Cond.code yX8_landsBy cX8_landsBy 11 (some .int), Cond.methodLink RX8 134 yX8_liftOf, Cond.static yX8_liftOf, Cond.code yX8_liftOf cX8_liftOf 1 (some .int), Cond.methodLink RX8 165 yX8_hearersOf, Cond.instanceMethod yX8_hearersOf, Cond.selects RX8 yX8_hearersOf yX8_hearersOf, Cond.code yX8_hearersOf cX8_hearersOf 5 (some .int), Cond.methodLink RX8 138 yX8_doesHear, Cond.instanceMethod yX8_doesHear, Cond.selects RX8 yX8_doesHear yX8_doesHear, Cond.code yX8_doesHear cX8_doesHear 4 (some .boolean), Cond.methodLink RX8 168 yX8_takeUp, Cond.instanceMethod yX8_takeUp, Cond.selects RX8 yX8_takeUp yX8_takeUp, Cond.code yX8_takeUp cX8_takeUp 3 none, Cond.methodLink RL 49 yX7_picks, Cond.instanceMethod yX7_picks, Cond.selects RX7 yX7_picks yX7_picks, Cond.code yX7_picks cX7_picks 4 (some .int), Cond.methodLink RX7 167 yX2_longestStrayAt]
def wsL_law_r21 : List Cond := [Cond.instanceMethod yX2_longestStrayAt, Cond.selects RX2 yX2_longestStrayAt yX2_longestStrayAt, Cond.code yX2_longestStrayAt cX2_longestStrayAt 3 (some .int), Cond.methodLink RX7 170 yX2_removeStray, Cond.methodLink RL 52 yX8_picks, Cond.instanceMethod yX8_picks, Cond.selects RX8 yX8_picks yX8_picks, Cond.code yX8_picks cX8_picks 4 (some .int), Cond.methodLink RL 53 yX7_hours, Cond.instanceMethod yX7_hours, Cond.selects RX7 yX7_hours yX7_hours, Cond.code yX7_hours cX7_hours 2 (some .int), Cond.methodLink RL 56 yX8_hours, Cond.instanceMethod yX8_hours, Cond.selects RX8 yX8_hours yX8_hours, Cond.code yX8_hours cX8_hours 2 (some .int), Cond.methodLink RL 57 yX7_damps, Cond.instanceMethod yX7_damps, Cond.selects RX7 yX7_damps yX7_damps, Cond.code yX7_damps cX7_damps 3 (some .int), Cond.methodLink RL 60 yX8_damps, Cond.instanceMethod yX8_damps, Cond.selects RX8 yX8_damps yX8_damps, Cond.code yX8_damps cX8_damps 3 (some .int)]
def wsL_law_r22 : List Cond := [Cond.methodLink RL 61 yX7_plucks, Cond.instanceMethod yX7_plucks, Cond.selects RX7 yX7_plucks yX7_plucks, Cond.code yX7_plucks cX7_plucks 3 (some .int), Cond.methodLink RX7 180 Lib.Math.min.name, Cond.methodLink RL 64 yX8_plucks, Cond.instanceMethod yX8_plucks, Cond.selects RX8 yX8_plucks yX8_plucks, Cond.code yX8_plucks cX8_plucks 4 (some .int), Cond.methodLink RL 65 yX7_undo, Cond.instanceMethod yX7_undo, Cond.selects RX7 yX7_undo yX7_undo, Cond.code yX7_undo cX7_undo 1 (some .int), Cond.methodLink RX7 188 yX3_bringBack, Cond.instanceMethod yX3_bringBack, Cond.selects RX3 yX3_bringBack yX3_bringBack, Cond.code yX3_bringBack cX3_bringBack 2 none, Cond.methodLink RL 68 yX8_undo, Cond.instanceMethod yX8_undo, Cond.selects RX8 yX8_undo yX8_undo, Cond.code yX8_undo cX8_undo 2 (some .int), Cond.methodLink RL 69 yX7_now, Cond.instanceMethod yX7_now, Cond.selects RX7 yX7_now yX7_now]
def wsL_law_r23 : List Cond := [Cond.code yX7_now cX7_now 2 (some .int), Cond.methodLink RL 72 yX8_now, Cond.instanceMethod yX8_now, Cond.selects RX8 yX8_now yX8_now, Cond.code yX8_now cX8_now 2 (some .int), Cond.methodLink RL 73 yX7_lands, Cond.instanceMethod yX7_lands, Cond.selects RX7 yX7_lands yX7_lands, Cond.code yX7_lands cX7_lands 6 (some .int), Cond.methodLink RL 76 yX8_lands, Cond.instanceMethod yX8_lands, Cond.selects RX8 yX8_lands yX8_lands, Cond.code yX8_lands cX8_lands 6 (some .int), Cond.methodLink RL 77 yX7_call, Cond.instanceMethod yX7_call, Cond.selects RX7 yX7_call yX7_call, Cond.code yX7_call cX7_call 8 (some .int), Cond.fieldLink RX7 194 "WordFletchers" "SHOTS_BY_HOW_MANY" "[I", Cond.methodLink RX7 191 yX7_areTwo, Cond.instanceMethod yX7_areTwo, Cond.selects RX7 yX7_areTwo yX7_areTwo, Cond.code yX7_areTwo cX7_areTwo 3 (some .boolean), Cond.methodLink RX7 197 yX6_hears, Cond.methodLink RL 81 yX8_call]
def wsL_law_r24 : List Cond := [Cond.instanceMethod yX8_call, Cond.selects RX8 yX8_call yX8_call, Cond.code yX8_call cX8_call 8 (some .int), Cond.methodLink RX8 171 yX8_areUnlike, Cond.instanceMethod yX8_areUnlike, Cond.selects RX8 yX8_areUnlike yX8_areUnlike, Cond.code yX8_areUnlike cX8_areUnlike 3 (some .boolean), Cond.methodLink RX8 174 yX8_isHeard, Cond.instanceMethod yX8_isHeard, Cond.selects RX8 yX8_isHeard yX8_isHeard, Cond.code yX8_isHeard cX8_isHeard 6 (some .boolean), Cond.methodLink RL 82 yX7_waits, Cond.instanceMethod yX7_waits, Cond.selects RX7 yX7_waits yX7_waits, Cond.code yX7_waits cX7_waits 6 (some .int), Cond.methodLink RX7 200 yX7_isShot, Cond.static yX7_isShot, Cond.code yX7_isShot cX7_isShot 1 (some .boolean), Cond.methodLink RL 86 yX8_waits, Cond.instanceMethod yX8_waits, Cond.selects RX8 yX8_waits yX8_waits, Cond.code yX8_waits cX8_waits 6 (some .int), Cond.methodLink RX8 178 yX8_isShotBy, Cond.static yX8_isShotBy]
def wsL_law_r25 : List Cond := [Cond.code yX8_isShotBy cX8_isShotBy 1 (some .boolean), Cond.methodLink RL 87 yX7_relay, Cond.instanceMethod yX7_relay, Cond.selects RX7 yX7_relay yX7_relay, Cond.code yX7_relay cX7_relay 5 (some .int), Cond.methodLink RX7 207 yX7_countShotsNeeded, Cond.instanceMethod yX7_countShotsNeeded, Cond.selects RX7 yX7_countShotsNeeded yX7_countShotsNeeded, Cond.code yX7_countShotsNeeded cX7_countShotsNeeded 5 none, Cond.fieldLink RX7 298 "WordFletchers$Told" "people" "I", Cond.methodLink RX7 304 yX7_whoCanHear, Cond.instanceMethod yX7_whoCanHear, Cond.selects RX7 yX7_whoCanHear yX7_whoCanHear, Cond.code yX7_whoCanHear cX7_whoCanHear 8 (some .int), Cond.fieldLink RX7 307 "WordFletchers" "SHOTS_BY_KIND" "[I", Cond.methodLink RX7 210 yX7_fewestNeeded, Cond.instanceMethod yX7_fewestNeeded, Cond.selects RX7 yX7_fewestNeeded yX7_fewestNeeded, Cond.code yX7_fewestNeeded cX7_fewestNeeded 4 (some .int), Cond.methodLink RX7 222 yX7_isIn, Cond.methodLink RX7 213 yX7_firstOfRelay, Cond.instanceMethod yX7_firstOfRelay, Cond.selects RX7 yX7_firstOfRelay yX7_firstOfRelay, Cond.code yX7_firstOfRelay cX7_firstOfRelay 9 (some .int)]
def wsL_law_r26 : List Cond := [Cond.methodLink RL 90 yX8_relay, Cond.instanceMethod yX8_relay, Cond.selects RX8 yX8_relay yX8_relay, Cond.code yX8_relay cX8_relay 11 (some .int), Cond.constant RX8 181 (1000000), Cond.methodLink RX8 185 yX8_measure, Cond.instanceMethod yX8_measure, Cond.selects RX8 yX8_measure yX8_measure, Cond.code yX8_measure cX8_measure 9 none, Cond.methodLink RX8 182 yX8_behind, Cond.instanceMethod yX8_behind, Cond.selects RX8 yX8_behind yX8_behind, Cond.code yX8_behind cX8_behind 7 (some .int), Cond.methodLink RL 91 yX7_allot, Cond.instanceMethod yX7_allot, Cond.selects RX7 yX7_allot yX7_allot, Cond.code yX7_allot cX7_allot 3 (some .int), Cond.fieldLink RX7 219 "WordFletchers$Told" "sayings" "I", Cond.fieldLink RX7 232 "WordFletchers$Allotment" "total" "I", Cond.methodLink RX7 216 yX6_isSetOfSayings, Cond.instanceMethod yX6_isSetOfSayings, Cond.selects RX6 yX6_isSetOfSayings yX6_isSetOfSayings, Cond.code yX6_isSetOfSayings cX6_isSetOfSayings 2 (some .boolean), Cond.methodLink RX7 225 yX7_prepareAllotment]
def wsL_law_r27 : List Cond := [Cond.instanceMethod yX7_prepareAllotment, Cond.selects RX7 yX7_prepareAllotment yX7_prepareAllotment, Cond.code yX7_prepareAllotment cX7_prepareAllotment 5 none, Cond.fieldLink RX7 310 "WordFletchers$Allotment" "members" "I", Cond.methodLink RX7 313 yX0_addMember, Cond.instanceMethod yX0_addMember, Cond.selects RX0 yX0_addMember yX0_addMember, Cond.code yX0_addMember cX0_addMember 2 (some .int), Cond.methodLink RX7 316 yX7_fewestToBeHeard, Cond.instanceMethod yX7_fewestToBeHeard, Cond.selects RX7 yX7_fewestToBeHeard yX7_fewestToBeHeard, Cond.code yX7_fewestToBeHeard cX7_fewestToBeHeard 5 (some .int), Cond.methodLink RX7 319 yX0_setFewest, Cond.instanceMethod yX0_setFewest, Cond.selects RX0 yX0_setFewest yX0_setFewest, Cond.code yX0_setFewest cX0_setFewest 4 none, Cond.methodLink RX7 228 yX0_search, Cond.instanceMethod yX0_search, Cond.selects RX0 yX0_search yX0_search, Cond.code yX0_search cX0_search 4 (some .boolean), Cond.fieldLink RX0 25 "WordFletchers$Allotment" "total" "I", Cond.fieldLink RX0 32 "WordFletchers$Allotment" "way" "I", Cond.methodLink RX0 28 yX0_costOf, Cond.instanceMethod yX0_costOf]
def wsL_law_r28 : List Cond := [Cond.selects RX0 yX0_costOf yX0_costOf, Cond.code yX0_costOf cX0_costOf 7 (some .int), Cond.methodLink RX0 35 yX0_kindOf, Cond.instanceMethod yX0_kindOf, Cond.selects RX0 yX0_kindOf yX0_kindOf, Cond.code yX0_kindOf cX0_kindOf 3 (some .int), Cond.methodLink RX7 235 yX0_shareOf, Cond.instanceMethod yX0_shareOf, Cond.selects RX0 yX0_shareOf yX0_shareOf, Cond.code yX0_shareOf cX0_shareOf 4 (some .int), Cond.methodLink RL 94 yX8_allot, Cond.instanceMethod yX8_allot, Cond.selects RX8 yX8_allot yX8_allot, Cond.code yX8_allot cX8_allot 8 (some .int), Cond.methodLink RX8 189 yX8_tellDue, Cond.instanceMethod yX8_tellDue, Cond.selects RX8 yX8_tellDue yX8_tellDue, Cond.code yX8_tellDue cX8_tellDue 5 none, Cond.methodLink RX8 192 yX8_bitsOf, Cond.static yX8_bitsOf, Cond.code yX8_bitsOf cX8_bitsOf 3 (some .int), Cond.methodLink RX8 195 yX8_takes, Cond.instanceMethod yX8_takes, Cond.selects RX8 yX8_takes yX8_takes]
def wsL_law_r29 : List Cond := [Cond.code yX8_takes cX8_takes 12 (some .int), Cond.methodLink RL 95 yX7_odds, Cond.instanceMethod yX7_odds, Cond.selects RX7 yX7_odds yX7_odds, Cond.code yX7_odds cX7_odds 8 (some .int), Cond.fieldLink RX7 242 "WordFletchers$Told" "winds" "[I", Cond.methodLink RX7 248 Lib.Math.max.name, Cond.methodLink RX7 238 yX6_windCount, Cond.methodLink RX7 245 yX7_commonDivisor, Cond.static yX7_commonDivisor, Cond.code yX7_commonDivisor cX7_commonDivisor 3 (some .int), Cond.methodLink RL 98 yX8_odds, Cond.instanceMethod yX8_odds, Cond.selects RX8 yX8_odds yX8_odds, Cond.code yX8_odds cX8_odds 10 (some .int), Cond.methodLink RL 99 yX7_saw, Cond.instanceMethod yX7_saw, Cond.selects RX7 yX7_saw yX7_saw, Cond.code yX7_saw cX7_saw 3 (some .int), Cond.methodLink RX7 254 yX4_add, Cond.instanceMethod yX4_add, Cond.selects RX4 yX4_add yX4_add, Cond.code yX4_add cX4_add 5 none, Cond.methodLink RL 102 yX8_saw]
def wsL_law_r30 : List Cond := [Cond.instanceMethod yX8_saw, Cond.selects RX8 yX8_saw yX8_saw, Cond.code yX8_saw cX8_saw 3 (some .int), Cond.methodLink RL 103 yX7_forget, Cond.instanceMethod yX7_forget, Cond.selects RX7 yX7_forget yX7_forget, Cond.code yX7_forget cX7_forget 2 (some .int), Cond.methodLink RL 106 yX8_forget, Cond.instanceMethod yX8_forget, Cond.selects RX8 yX8_forget yX8_forget, Cond.code yX8_forget cX8_forget 2 (some .int), Cond.methodLink RL 107 yX7_who, Cond.instanceMethod yX7_who, Cond.selects RX7 yX7_who yX7_who, Cond.code yX7_who cX7_who 1 (some .int), Cond.methodLink RX7 258 yX7_suspects, Cond.instanceMethod yX7_suspects, Cond.selects RX7 yX7_suspects yX7_suspects, Cond.code yX7_suspects cX7_suspects 3 (some .int), Cond.methodLink RX7 323 yX7_canBeAllSeen, Cond.instanceMethod yX7_canBeAllSeen, Cond.selects RX7 yX7_canBeAllSeen yX7_canBeAllSeen, Cond.code yX7_canBeAllSeen cX7_canBeAllSeen 5 (some .boolean), Cond.fieldLink RX7 326 "WordFletchers$Sightings" "saying" "[I"]
def wsL_law_r31 : List Cond := [Cond.fieldLink RX7 329 "WordFletchers$Sightings" "wind" "[I", Cond.fieldLink RX7 332 "WordFletchers$Sightings" "damp" "[I", Cond.fieldLink RX7 338 "WordFletchers$Sightings" "place" "[I", Cond.methodLink RX7 334 yX6_landings, Cond.instanceMethod yX6_landings, Cond.selects RX6 yX6_landings yX6_landings, Cond.code yX6_landings cX6_landings 11 (some .int), Cond.methodLink RX6 66 yX6_landing, Cond.methodLink RL 110 yX8_who, Cond.instanceMethod yX8_who, Cond.selects RX8 yX8_who yX8_who, Cond.code yX8_who cX8_who 5 (some .int), Cond.methodLink RX8 198 yX8_spotsOf, Cond.instanceMethod yX8_spotsOf, Cond.selects RX8 yX8_spotsOf yX8_spotsOf, Cond.code yX8_spotsOf cX8_spotsOf 6 (some .int), Cond.methodLink RL 111 yX7_ask, Cond.instanceMethod yX7_ask, Cond.selects RX7 yX7_ask yX7_ask, Cond.code yX7_ask cX7_ask 6 (some .int), Cond.methodLink RX7 261 yJ6_bitCount_0f7a4, Cond.static yJ6_bitCount_0f7a4, Cond.initialized RJ6, Cond.code yJ6_bitCount_0f7a4 cJ6_bitCount_0f7a4 1 (some .int)]
def wsL_law_r32 : List Cond := [Cond.constant RJ6 265 (1431655765), Cond.constant RJ6 266 (858993459), Cond.constant RJ6 267 (252645135), Cond.methodLink RX7 266 yX7_mostAlike, Cond.instanceMethod yX7_mostAlike, Cond.selects RX7 yX7_mostAlike yX7_mostAlike, Cond.code yX7_mostAlike cX7_mostAlike 5 (some .int), Cond.methodLink RX7 339 yX7_howManyReach, Cond.instanceMethod yX7_howManyReach, Cond.selects RX7 yX7_howManyReach yX7_howManyReach, Cond.code yX7_howManyReach cX7_howManyReach 5 (some .int), Cond.methodLink RL 114 yX8_ask, Cond.instanceMethod yX8_ask, Cond.selects RX8 yX8_ask yX8_ask, Cond.code yX8_ask cX8_ask 9 (some .int), Cond.methodLink RX8 201 yX8_who, Cond.methodLink RL 115 yX7_mark, Cond.instanceMethod yX7_mark, Cond.selects RX7 yX7_mark yX7_mark, Cond.code yX7_mark cX7_mark 3 (some .int), Cond.methodLink RX7 269 yX7_markOfOne, Cond.instanceMethod yX7_markOfOne, Cond.selects RX7 yX7_markOfOne yX7_markOfOne, Cond.code yX7_markOfOne cX7_markOfOne 2 (some .int)]
def wsL_law_r33 : List Cond := [Cond.methodLink RX7 272 yX7_markOfSuitor, Cond.instanceMethod yX7_markOfSuitor, Cond.selects RX7 yX7_markOfSuitor yX7_markOfSuitor, Cond.code yX7_markOfSuitor cX7_markOfSuitor 2 (some .int), Cond.constantLong RX7 342 (10), Cond.methodLink RX7 275 yX7_markOfLiar, Cond.instanceMethod yX7_markOfLiar, Cond.selects RX7 yX7_markOfLiar yX7_markOfLiar, Cond.code yX7_markOfLiar cX7_markOfLiar 2 (some .int), Cond.constantLong RX7 344 (100), Cond.methodLink RX7 278 yX7_markOfPoet, Cond.instanceMethod yX7_markOfPoet, Cond.selects RX7 yX7_markOfPoet yX7_markOfPoet, Cond.code yX7_markOfPoet cX7_markOfPoet 2 (some .int), Cond.constantLong RX7 346 (1000), Cond.methodLink RX7 281 yX7_markOfLawyer, Cond.instanceMethod yX7_markOfLawyer, Cond.selects RX7 yX7_markOfLawyer yX7_markOfLawyer, Cond.code yX7_markOfLawyer cX7_markOfLawyer 2 (some .int), Cond.constantLong RX7 348 (10000), Cond.methodLink RX7 284 yX7_markOfGoose, Cond.instanceMethod yX7_markOfGoose, Cond.selects RX7 yX7_markOfGoose yX7_markOfGoose, Cond.code yX7_markOfGoose cX7_markOfGoose 2 (some .int)]
def wsL_law_r34 : List Cond := [Cond.constantLong RX7 350 (100000), Cond.methodLink RX7 352 yX2_allFeathers, Cond.instanceMethod yX2_allFeathers, Cond.selects RX2 yX2_allFeathers yX2_allFeathers, Cond.code yX2_allFeathers cX2_allFeathers 3 (some .int), Cond.methodLink RL 118 yX8_mark, Cond.instanceMethod yX8_mark, Cond.selects RX8 yX8_mark yX8_mark, Cond.code yX8_mark cX8_mark 7 (some .int), Cond.fieldLink RX8 207 "WordFletchersModel" "trace" "J", Cond.constantLong RX8 211 (10), Cond.methodLink RX8 204 yX8_bodiesOf, Cond.static yX8_bodiesOf, Cond.code yX8_bodiesOf cX8_bodiesOf 1 (some .int), Cond.methodLink RX8 213 yX8_one, Cond.methodLink RL 119 yX7_keep, Cond.instanceMethod yX7_keep, Cond.selects RX7 yX7_keep yX7_keep, Cond.code yX7_keep cX7_keep 2 (some .int), Cond.methodLink RX7 287 yX1_take, Cond.instanceMethod yX1_take, Cond.selects RX1 yX1_take yX1_take, Cond.code yX1_take cX1_take 3 none, Cond.methodLink RX1 27 yX2_become]
def wsL_law_r35 : List Cond := [Cond.methodLink RX1 31 yX3_become, Cond.instanceMethod yX3_become, Cond.selects RX3 yX3_become yX3_become, Cond.code yX3_become cX3_become 3 none, Cond.methodLink RL 122 yX8_keep, Cond.instanceMethod yX8_keep, Cond.selects RX8 yX8_keep yX8_keep, Cond.code yX8_keep cX8_keep 3 (some .int), Cond.methodLink RL 123 yX7_back, Cond.instanceMethod yX7_back, Cond.selects RX7 yX7_back yX7_back, Cond.code yX7_back cX7_back 2 (some .int), Cond.methodLink RX7 295 yX1_give, Cond.instanceMethod yX1_give, Cond.selects RX1 yX1_give yX1_give, Cond.code yX1_give cX1_give 3 none, Cond.methodLink RL 126 yX8_back, Cond.instanceMethod yX8_back, Cond.selects RX8 yX8_back yX8_back, Cond.code yX8_back cX8_back 3 (some .int), Cond.methodLink RL 127 yX7_count, Cond.instanceMethod yX7_count, Cond.selects RX7 yX7_count yX7_count, Cond.code yX7_count cX7_count 2 (some .int)]
def wsL_law_r36 : List Cond := [Cond.methodLink RL 130 yX8_count, Cond.instanceMethod yX8_count, Cond.selects RX8 yX8_count yX8_count, Cond.code yX8_count cX8_count 2 (some .int), Cond.methodLink RL 131 yX7_trace, Cond.instanceMethod yX7_trace, Cond.selects RX7 yX7_trace yX7_trace, Cond.code yX7_trace cX7_trace 1 (some .long), Cond.methodLink RL 135 yX8_trace, Cond.instanceMethod yX8_trace, Cond.selects RX8 yX8_trace yX8_trace, Cond.code yX8_trace cX8_trace 1 (some .long)]
def wsL_law : List Cond := (wsL_law_r1 ++ (wsL_law_r2 ++ (wsL_law_r3 ++ (wsL_law_r4 ++ (wsL_law_r5 ++ (wsL_law_r6 ++ (wsL_law_r7 ++ (wsL_law_r8 ++ (wsL_law_r9 ++ (wsL_law_r10 ++ (wsL_law_r11 ++ (wsL_law_r12 ++ (wsL_law_r13 ++ (wsL_law_r14 ++ (wsL_law_r15 ++ (wsL_law_r16 ++ (wsL_law_r17 ++ (wsL_law_r18 ++ (wsL_law_r19 ++ (wsL_law_r20 ++ (wsL_law_r21 ++ (wsL_law_r22 ++ (wsL_law_r23 ++ (wsL_law_r24 ++ (wsL_law_r25 ++ (wsL_law_r26 ++ (wsL_law_r27 ++ (wsL_law_r28 ++ (wsL_law_r29 ++ (wsL_law_r30 ++ (wsL_law_r31 ++ (wsL_law_r32 ++ (wsL_law_r33 ++ (wsL_law_r34 ++ (wsL_law_r35 ++ wsL_law_r36))))))))))))))))))))))))))))))))))) ++ wsX70 ++ wsX80 ++ wsX50 ++ wsX60 ++ wsX20 ++ wsX30 ++ wsX40 ++ wsX00 ++ wsX10 ++ ([] : List Cond)
abbrev vwCl : List vw_C := [(RX0, TX0, 6), (RX1, TX1, 3), (RX2, TX2, 7), (RX3, TX3, 2), (RX4, TX4, 5), (RX5, TX5, 6), (RX6, TX6, 10), (RX7, TX7, 13), (RX8, TX8, 30)]
end
section
theorem dX8_init_0 : decode cX8_init 0 = .ok (.aload_n 0, 1) := by decide +kernel
theorem dX8_init_1 : decode cX8_init 1 = .ok (.invokespecial 1, 3) := by decide +kernel
theorem dX8_init_4 : decode cX8_init 4 = .ok (.aload_n 0, 1) := by decide +kernel
theorem dX8_init_5 : decode cX8_init 5 = .ok (.bipush 120, 2) := by decide +kernel
theorem dX8_init_7 : decode cX8_init 7 = .ok (.newarray .byte, 2) := by decide +kernel
theorem dX8_init_9 : decode cX8_init 9 = .ok (.putfield 7, 3) := by decide +kernel
theorem dX8_init_12 : decode cX8_init 12 = .ok (.aload_n 0, 1) := by decide +kernel
theorem dX8_init_13 : decode cX8_init 13 = .ok (.iconst 2, 1) := by decide +kernel
theorem dX8_init_14 : decode cX8_init 14 = .ok (.newarray .int, 2) := by decide +kernel
theorem dX8_init_16 : decode cX8_init 16 = .ok (.putfield 13, 3) := by decide +kernel
theorem dX8_init_19 : decode cX8_init 19 = .ok (.aload_n 0, 1) := by decide +kernel
theorem dX8_init_20 : decode cX8_init 20 = .ok (.bipush 12, 2) := by decide +kernel
theorem dX8_init_22 : decode cX8_init 22 = .ok (.newarray .int, 2) := by decide +kernel
theorem dX8_init_24 : decode cX8_init 24 = .ok (.putfield 17, 3) := by decide +kernel
theorem dX8_init_27 : decode cX8_init 27 = .ok (.aload_n 0, 1) := by decide +kernel
theorem dX8_init_28 : decode cX8_init 28 = .ok (.bipush 12, 2) := by decide +kernel
theorem dX8_init_30 : decode cX8_init 30 = .ok (.newarray .int, 2) := by decide +kernel
theorem dX8_init_32 : decode cX8_init 32 = .ok (.putfield 20, 3) := by decide +kernel
theorem dX8_init_35 : decode cX8_init 35 = .ok (.aload_n 0, 1) := by decide +kernel
theorem dX8_init_36 : decode cX8_init 36 = .ok (.iconst 2, 1) := by decide +kernel
theorem dX8_init_37 : decode cX8_init 37 = .ok (.newarray .int, 2) := by decide +kernel
theorem dX8_init_39 : decode cX8_init 39 = .ok (.putfield 23, 3) := by decide +kernel
theorem dX8_init_42 : decode cX8_init 42 = .ok (.aload_n 0, 1) := by decide +kernel
theorem dX8_init_43 : decode cX8_init 43 = .ok (.bipush 12, 2) := by decide +kernel
theorem dX8_init_45 : decode cX8_init 45 = .ok (.newarray .int, 2) := by decide +kernel
theorem dX8_init_47 : decode cX8_init 47 = .ok (.putfield 26, 3) := by decide +kernel
theorem dX8_init_50 : decode cX8_init 50 = .ok (.aload_n 0, 1) := by decide +kernel
theorem dX8_init_51 : decode cX8_init 51 = .ok (.bipush 12, 2) := by decide +kernel
theorem dX8_init_53 : decode cX8_init 53 = .ok (.newarray .int, 2) := by decide +kernel
theorem dX8_init_55 : decode cX8_init 55 = .ok (.putfield 29, 3) := by decide +kernel
theorem dX8_init_58 : decode cX8_init 58 = .ok (.aload_n 0, 1) := by decide +kernel
theorem dX8_init_59 : decode cX8_init 59 = .ok (.bipush 12, 2) := by decide +kernel
theorem dX8_init_61 : decode cX8_init 61 = .ok (.newarray .int, 2) := by decide +kernel
theorem dX8_init_63 : decode cX8_init 63 = .ok (.putfield 32, 3) := by decide +kernel
theorem dX8_init_66 : decode cX8_init 66 = .ok (.aload_n 0, 1) := by decide +kernel
theorem dX8_init_67 : decode cX8_init 67 = .ok (.iconst 2, 1) := by decide +kernel
theorem dX8_init_68 : decode cX8_init 68 = .ok (.newarray .int, 2) := by decide +kernel
theorem dX8_init_70 : decode cX8_init 70 = .ok (.putfield 35, 3) := by decide +kernel
theorem dX8_init_73 : decode cX8_init 73 = .ok (.aload_n 0, 1) := by decide +kernel
theorem dX8_init_74 : decode cX8_init 74 = .ok (.bipush 12, 2) := by decide +kernel
theorem dX8_init_76 : decode cX8_init 76 = .ok (.newarray .int, 2) := by decide +kernel
theorem dX8_init_78 : decode cX8_init 78 = .ok (.putfield 38, 3) := by decide +kernel
theorem dX8_init_81 : decode cX8_init 81 = .ok (.aload_n 0, 1) := by decide +kernel
theorem dX8_init_82 : decode cX8_init 82 = .ok (.iconst 4, 1) := by decide +kernel
theorem dX8_init_83 : decode cX8_init 83 = .ok (.newarray .int, 2) := by decide +kernel
theorem dX8_init_85 : decode cX8_init 85 = .ok (.putfield 41, 3) := by decide +kernel
theorem dX8_init_88 : decode cX8_init 88 = .ok (.aload_n 0, 1) := by decide +kernel
theorem dX8_init_89 : decode cX8_init 89 = .ok (.bipush 29, 2) := by decide +kernel
theorem dX8_init_91 : decode cX8_init 91 = .ok (.newarray .int, 2) := by decide +kernel
theorem dX8_init_93 : decode cX8_init 93 = .ok (.putfield 44, 3) := by decide +kernel
theorem dX8_init_96 : decode cX8_init 96 = .ok (.aload_n 0, 1) := by decide +kernel
theorem dX8_init_97 : decode cX8_init 97 = .ok (.iconst 3, 1) := by decide +kernel
theorem dX8_init_98 : decode cX8_init 98 = .ok (.newarray .int, 2) := by decide +kernel
theorem dX8_init_100 : decode cX8_init 100 = .ok (.putfield 47, 3) := by decide +kernel
theorem dX8_init_103 : decode cX8_init 103 = .ok (.aload_n 0, 1) := by decide +kernel
theorem dX8_init_104 : decode cX8_init 104 = .ok (.sipush 870, 3) := by decide +kernel
theorem dX8_init_107 : decode cX8_init 107 = .ok (.newarray .int, 2) := by decide +kernel
theorem dX8_init_109 : decode cX8_init 109 = .ok (.putfield 50, 3) := by decide +kernel
theorem dX8_init_112 : decode cX8_init 112 = .ok (.aload_n 0, 1) := by decide +kernel
theorem dX8_init_113 : decode cX8_init 113 = .ok (.bipush 58, 2) := by decide +kernel
theorem dX8_init_115 : decode cX8_init 115 = .ok (.newarray .int, 2) := by decide +kernel
theorem dX8_init_117 : decode cX8_init 117 = .ok (.putfield 53, 3) := by decide +kernel
theorem dX8_init_120 : decode cX8_init 120 = .ok (.aload_n 0, 1) := by decide +kernel
theorem dX8_init_121 : decode cX8_init 121 = .ok (.iconst 2, 1) := by decide +kernel
theorem dX8_init_122 : decode cX8_init 122 = .ok (.newarray .boolean, 2) := by decide +kernel
theorem dX8_init_124 : decode cX8_init 124 = .ok (.putfield 56, 3) := by decide +kernel
theorem dX8_init_127 : decode cX8_init 127 = .ok (.aload_n 0, 1) := by decide +kernel
theorem dX8_init_128 : decode cX8_init 128 = .ok (.bipush 64, 2) := by decide +kernel
theorem dX8_init_130 : decode cX8_init 130 = .ok (.newarray .int, 2) := by decide +kernel
theorem dX8_init_132 : decode cX8_init 132 = .ok (.putfield 60, 3) := by decide +kernel
theorem dX8_init_135 : decode cX8_init 135 = .ok (.aload_n 0, 1) := by decide +kernel
theorem dX8_init_136 : decode cX8_init 136 = .ok (.bipush 24, 2) := by decide +kernel
theorem dX8_init_138 : decode cX8_init 138 = .ok (.newarray .int, 2) := by decide +kernel
theorem dX8_init_140 : decode cX8_init 140 = .ok (.putfield 63, 3) := by decide +kernel
theorem dX8_init_143 : decode cX8_init 143 = .ok (.aload_n 0, 1) := by decide +kernel
theorem dX8_init_144 : decode cX8_init 144 = .ok (.iconst 4, 1) := by decide +kernel
theorem dX8_init_145 : decode cX8_init 145 = .ok (.newarray .int, 2) := by decide +kernel
theorem dX8_init_147 : decode cX8_init 147 = .ok (.putfield 66, 3) := by decide +kernel
theorem dX8_init_150 : decode cX8_init 150 = .ok (.aload_n 0, 1) := by decide +kernel
theorem dX8_init_151 : decode cX8_init 151 = .ok (.iconst 4, 1) := by decide +kernel
theorem dX8_init_152 : decode cX8_init 152 = .ok (.newarray .int, 2) := by decide +kernel
theorem dX8_init_154 : decode cX8_init 154 = .ok (.putfield 69, 3) := by decide +kernel
theorem dX8_init_157 : decode cX8_init 157 = .ok (.aload_n 0, 1) := by decide +kernel
theorem dX8_init_158 : decode cX8_init 158 = .ok (.getfield 35, 3) := by decide +kernel
theorem dX8_init_161 : decode cX8_init 161 = .ok (.iconst 0, 1) := by decide +kernel
theorem dX8_init_162 : decode cX8_init 162 = .ok (.iconst 1, 1) := by decide +kernel
theorem dX8_init_163 : decode cX8_init 163 = .ok (.iastore, 1) := by decide +kernel
theorem dX8_init_164 : decode cX8_init 164 = .ok (.iconst 0, 1) := by decide +kernel
theorem dX8_init_165 : decode cX8_init 165 = .ok (.istore_n 1, 1) := by decide +kernel
theorem dX8_init_166 : decode cX8_init 166 = .ok (.iload_n 1, 1) := by decide +kernel
theorem dX8_init_167 : decode cX8_init 167 = .ok (.iconst 4, 1) := by decide +kernel
theorem dX8_init_168 : decode cX8_init 168 = .ok (.if_icmp .ge 19, 3) := by decide +kernel
theorem dX8_init_171 : decode cX8_init 171 = .ok (.aload_n 0, 1) := by decide +kernel
theorem dX8_init_172 : decode cX8_init 172 = .ok (.getfield 44, 3) := by decide +kernel
theorem dX8_init_175 : decode cX8_init 175 = .ok (.iconst 2, 1) := by decide +kernel
theorem dX8_init_176 : decode cX8_init 176 = .ok (.iload_n 1, 1) := by decide +kernel
theorem dX8_init_177 : decode cX8_init 177 = .ok (.iadd, 1) := by decide +kernel
theorem dX8_init_178 : decode cX8_init 178 = .ok (.bipush 9, 2) := by decide +kernel
theorem dX8_init_180 : decode cX8_init 180 = .ok (.iastore, 1) := by decide +kernel
theorem dX8_init_181 : decode cX8_init 181 = .ok (.iinc 1 1, 3) := by decide +kernel
theorem dX8_init_184 : decode cX8_init 184 = .ok (.goto (-18), 3) := by decide +kernel
theorem dX8_init_187 : decode cX8_init 187 = .ok (.return_, 1) := by decide +kernel
theorem dX8_in_0 : decode cX8_in 0 = .ok (.iload_n 0, 1) := by decide +kernel
theorem dX8_in_1 : decode cX8_in 1 = .ok (.iload_n 1, 1) := by decide +kernel
theorem dX8_in_2 : decode cX8_in 2 = .ok (.if_icmp .lt 12, 3) := by decide +kernel
theorem dX8_in_5 : decode cX8_in 5 = .ok (.iload_n 0, 1) := by decide +kernel
theorem dX8_in_6 : decode cX8_in 6 = .ok (.iload_n 2, 1) := by decide +kernel
theorem dX8_in_7 : decode cX8_in 7 = .ok (.if_icmp .gt 7, 3) := by decide +kernel
theorem dX8_in_10 : decode cX8_in 10 = .ok (.iconst 1, 1) := by decide +kernel
theorem dX8_in_11 : decode cX8_in 11 = .ok (.goto 4, 3) := by decide +kernel
theorem dX8_in_14 : decode cX8_in 14 = .ok (.iconst 0, 1) := by decide +kernel
theorem dX8_in_15 : decode cX8_in 15 = .ok (.ireturn, 1) := by decide +kernel
theorem dX8_has_0 : decode cX8_has 0 = .ok (.iload_n 0, 1) := by decide +kernel
theorem dX8_has_1 : decode cX8_has 1 = .ok (.iload_n 1, 1) := by decide +kernel
theorem dX8_has_2 : decode cX8_has 2 = .ok (.ishr, 1) := by decide +kernel
theorem dX8_has_3 : decode cX8_has 3 = .ok (.iconst 1, 1) := by decide +kernel
theorem dX8_has_4 : decode cX8_has 4 = .ok (.iand, 1) := by decide +kernel
theorem dX8_has_5 : decode cX8_has 5 = .ok (.iconst 1, 1) := by decide +kernel
theorem dX8_has_6 : decode cX8_has 6 = .ok (.if_icmp .ne 7, 3) := by decide +kernel
theorem dX8_has_9 : decode cX8_has 9 = .ok (.iconst 1, 1) := by decide +kernel
theorem dX8_has_10 : decode cX8_has 10 = .ok (.goto 4, 3) := by decide +kernel
theorem dX8_has_13 : decode cX8_has 13 = .ok (.iconst 0, 1) := by decide +kernel
theorem dX8_has_14 : decode cX8_has 14 = .ok (.ireturn, 1) := by decide +kernel
theorem dX8_bitsOf_0 : decode cX8_bitsOf 0 = .ok (.iconst 0, 1) := by decide +kernel
theorem dX8_bitsOf_1 : decode cX8_bitsOf 1 = .ok (.istore_n 1, 1) := by decide +kernel
theorem dX8_bitsOf_2 : decode cX8_bitsOf 2 = .ok (.iconst 0, 1) := by decide +kernel
theorem dX8_bitsOf_3 : decode cX8_bitsOf 3 = .ok (.istore_n 2, 1) := by decide +kernel
theorem dX8_bitsOf_4 : decode cX8_bitsOf 4 = .ok (.iload_n 2, 1) := by decide +kernel
theorem dX8_bitsOf_5 : decode cX8_bitsOf 5 = .ok (.bipush 31, 2) := by decide +kernel
theorem dX8_bitsOf_7 : decode cX8_bitsOf 7 = .ok (.if_icmp .ge 17, 3) := by decide +kernel
theorem dX8_bitsOf_10 : decode cX8_bitsOf 10 = .ok (.iload_n 1, 1) := by decide +kernel
theorem dX8_bitsOf_11 : decode cX8_bitsOf 11 = .ok (.iload_n 0, 1) := by decide +kernel
theorem dX8_bitsOf_12 : decode cX8_bitsOf 12 = .ok (.iload_n 2, 1) := by decide +kernel
theorem dX8_bitsOf_13 : decode cX8_bitsOf 13 = .ok (.ishr, 1) := by decide +kernel
theorem dX8_bitsOf_14 : decode cX8_bitsOf 14 = .ok (.iconst 1, 1) := by decide +kernel
theorem dX8_bitsOf_15 : decode cX8_bitsOf 15 = .ok (.iand, 1) := by decide +kernel
theorem dX8_bitsOf_16 : decode cX8_bitsOf 16 = .ok (.iadd, 1) := by decide +kernel
theorem dX8_bitsOf_17 : decode cX8_bitsOf 17 = .ok (.istore_n 1, 1) := by decide +kernel
theorem dX8_bitsOf_18 : decode cX8_bitsOf 18 = .ok (.iinc 2 1, 3) := by decide +kernel
theorem dX8_bitsOf_21 : decode cX8_bitsOf 21 = .ok (.goto (-17), 3) := by decide +kernel
theorem dX8_bitsOf_24 : decode cX8_bitsOf 24 = .ok (.iload_n 1, 1) := by decide +kernel
theorem dX8_bitsOf_25 : decode cX8_bitsOf 25 = .ok (.ireturn, 1) := by decide +kernel
set_option maxRecDepth 20000 in
theorem ggX8_type_X8_in : GoodIn wsX8_type wsX8_in := goodIn_r _ [6] (by decide +kernel) (by decide +kernel)
set_option maxRecDepth 20000 in
theorem gX8_type_X8_in : GoodIn wsX8_type (va_wsS RX8 72 yX8_in wsX8_in) := goodIn_app (goodIn_of _ (by decide +kernel)) ggX8_type_X8_in
theorem dX8_type_0 : decode cX8_type 0 = .ok (.iload_n 1, 1) := by decide +kernel
theorem dX8_type_1 : decode cX8_type 1 = .ok (.iconst 0, 1) := by decide +kernel
theorem dX8_type_2 : decode cX8_type 2 = .ok (.sipush 255, 3) := by decide +kernel
theorem dX8_type_5 : decode cX8_type 5 = .ok (.invokestatic 72, 3) := by decide +kernel
theorem dX8_type_8 : decode cX8_type 8 = .ok (.ifCond .ne 5, 3) := by decide +kernel
theorem dX8_type_11 : decode cX8_type 11 = .ok (.iconst (-1), 1) := by decide +kernel
theorem dX8_type_12 : decode cX8_type 12 = .ok (.ireturn, 1) := by decide +kernel
theorem dX8_type_13 : decode cX8_type 13 = .ok (.aload_n 0, 1) := by decide +kernel
theorem dX8_type_14 : decode cX8_type 14 = .ok (.getfield 76, 3) := by decide +kernel
theorem dX8_type_17 : decode cX8_type 17 = .ok (.bipush 120, 2) := by decide +kernel
theorem dX8_type_19 : decode cX8_type 19 = .ok (.if_icmp .ne 6, 3) := by decide +kernel
theorem dX8_type_22 : decode cX8_type 22 = .ok (.bipush (-3), 2) := by decide +kernel
theorem dX8_type_24 : decode cX8_type 24 = .ok (.ireturn, 1) := by decide +kernel
theorem dX8_type_25 : decode cX8_type 25 = .ok (.aload_n 0, 1) := by decide +kernel
theorem dX8_type_26 : decode cX8_type 26 = .ok (.getfield 7, 3) := by decide +kernel
theorem dX8_type_29 : decode cX8_type 29 = .ok (.aload_n 0, 1) := by decide +kernel
theorem dX8_type_30 : decode cX8_type 30 = .ok (.getfield 76, 3) := by decide +kernel
theorem dX8_type_33 : decode cX8_type 33 = .ok (.iload_n 1, 1) := by decide +kernel
theorem dX8_type_34 : decode cX8_type 34 = .ok (.i2b, 1) := by decide +kernel
theorem dX8_type_35 : decode cX8_type 35 = .ok (.bastore, 1) := by decide +kernel
theorem dX8_type_36 : decode cX8_type 36 = .ok (.aload_n 0, 1) := by decide +kernel
theorem dX8_type_37 : decode cX8_type 37 = .ok (.dup, 1) := by decide +kernel
theorem dX8_type_38 : decode cX8_type 38 = .ok (.getfield 76, 3) := by decide +kernel
theorem dX8_type_41 : decode cX8_type 41 = .ok (.iconst 1, 1) := by decide +kernel
theorem dX8_type_42 : decode cX8_type 42 = .ok (.iadd, 1) := by decide +kernel
theorem dX8_type_43 : decode cX8_type 43 = .ok (.putfield 76, 3) := by decide +kernel
theorem dX8_type_46 : decode cX8_type 46 = .ok (.aload_n 0, 1) := by decide +kernel
theorem dX8_type_47 : decode cX8_type 47 = .ok (.getfield 76, 3) := by decide +kernel
theorem dX8_type_50 : decode cX8_type 50 = .ok (.ireturn, 1) := by decide +kernel
theorem dX8_clear_0 : decode cX8_clear 0 = .ok (.aload_n 0, 1) := by decide +kernel
theorem dX8_clear_1 : decode cX8_clear 1 = .ok (.getfield 76, 3) := by decide +kernel
theorem dX8_clear_4 : decode cX8_clear 4 = .ok (.istore_n 1, 1) := by decide +kernel
theorem dX8_clear_5 : decode cX8_clear 5 = .ok (.aload_n 0, 1) := by decide +kernel
theorem dX8_clear_6 : decode cX8_clear 6 = .ok (.iconst 0, 1) := by decide +kernel
theorem dX8_clear_7 : decode cX8_clear 7 = .ok (.putfield 76, 3) := by decide +kernel
theorem dX8_clear_10 : decode cX8_clear 10 = .ok (.iload_n 1, 1) := by decide +kernel
theorem dX8_clear_11 : decode cX8_clear 11 = .ok (.ireturn, 1) := by decide +kernel
theorem dX8_here_0 : decode cX8_here 0 = .ok (.aload_n 0, 1) := by decide +kernel
theorem dX8_here_1 : decode cX8_here 1 = .ok (.getfield 80, 3) := by decide +kernel
theorem dX8_here_4 : decode cX8_here 4 = .ok (.aload_n 0, 1) := by decide +kernel
theorem dX8_here_5 : decode cX8_here 5 = .ok (.getfield 76, 3) := by decide +kernel
theorem dX8_here_8 : decode cX8_here 8 = .ok (.if_icmp .ge 19, 3) := by decide +kernel
theorem dX8_here_11 : decode cX8_here 11 = .ok (.aload_n 0, 1) := by decide +kernel
theorem dX8_here_12 : decode cX8_here 12 = .ok (.getfield 7, 3) := by decide +kernel
theorem dX8_here_15 : decode cX8_here 15 = .ok (.aload_n 0, 1) := by decide +kernel
theorem dX8_here_16 : decode cX8_here 16 = .ok (.getfield 80, 3) := by decide +kernel
theorem dX8_here_19 : decode cX8_here 19 = .ok (.baload, 1) := by decide +kernel
theorem dX8_here_20 : decode cX8_here 20 = .ok (.sipush 255, 3) := by decide +kernel
theorem dX8_here_23 : decode cX8_here 23 = .ok (.iand, 1) := by decide +kernel
theorem dX8_here_24 : decode cX8_here 24 = .ok (.goto 5, 3) := by decide +kernel
theorem dX8_here_27 : decode cX8_here 27 = .ok (.bipush (-9), 2) := by decide +kernel
theorem dX8_here_29 : decode cX8_here 29 = .ok (.ireturn, 1) := by decide +kernel
set_option maxRecDepth 20000 in
theorem ggX8_step_X8_here : GoodIn wsX8_step wsX8_here := goodIn_r _ [9, 1, 10, 11, 15, 16, 17, 18, 19, 20, 21, 22, 23, 24, 25, 26, 27, 28, 29, 30, 31, 32, 33, 34, 35, 36, 37, 38, 39, 40, 41, 42, 43, 44] (by decide +kernel) (by decide +kernel)
set_option maxRecDepth 20000 in
theorem gX8_step_X8_here : GoodIn wsX8_step (wsV RX8 83 RX8 yX8_here wsX8_here) := goodIn_app (goodIn_of _ (by decide +kernel)) ggX8_step_X8_here
set_option maxRecDepth 20000 in
theorem ggX8_step_X8_in : GoodIn wsX8_step wsX8_in := goodIn_r _ [14] (by decide +kernel) (by decide +kernel)
set_option maxRecDepth 20000 in
theorem gX8_step_X8_in : GoodIn wsX8_step (va_wsS RX8 72 yX8_in wsX8_in) := goodIn_app (goodIn_of _ (by decide +kernel)) ggX8_step_X8_in
theorem dX8_step_0 : decode cX8_step 0 = .ok (.aload_n 0, 1) := by decide +kernel
theorem dX8_step_1 : decode cX8_step 1 = .ok (.invokevirtual 83, 3) := by decide +kernel
theorem dX8_step_4 : decode cX8_step 4 = .ok (.bipush 32, 2) := by decide +kernel
theorem dX8_step_6 : decode cX8_step 6 = .ok (.if_icmp .ne 16, 3) := by decide +kernel
theorem dX8_step_9 : decode cX8_step 9 = .ok (.aload_n 0, 1) := by decide +kernel
theorem dX8_step_10 : decode cX8_step 10 = .ok (.dup, 1) := by decide +kernel
theorem dX8_step_11 : decode cX8_step 11 = .ok (.getfield 80, 3) := by decide +kernel
theorem dX8_step_14 : decode cX8_step 14 = .ok (.iconst 1, 1) := by decide +kernel
theorem dX8_step_15 : decode cX8_step 15 = .ok (.iadd, 1) := by decide +kernel
theorem dX8_step_16 : decode cX8_step 16 = .ok (.putfield 80, 3) := by decide +kernel
theorem dX8_step_19 : decode cX8_step 19 = .ok (.goto (-19), 3) := by decide +kernel
theorem dX8_step_22 : decode cX8_step 22 = .ok (.aload_n 0, 1) := by decide +kernel
theorem dX8_step_23 : decode cX8_step 23 = .ok (.aload_n 0, 1) := by decide +kernel
theorem dX8_step_24 : decode cX8_step 24 = .ok (.getfield 80, 3) := by decide +kernel
theorem dX8_step_27 : decode cX8_step 27 = .ok (.putfield 87, 3) := by decide +kernel
theorem dX8_step_30 : decode cX8_step 30 = .ok (.aload_n 0, 1) := by decide +kernel
theorem dX8_step_31 : decode cX8_step 31 = .ok (.iconst 0, 1) := by decide +kernel
theorem dX8_step_32 : decode cX8_step 32 = .ok (.putfield 90, 3) := by decide +kernel
theorem dX8_step_35 : decode cX8_step 35 = .ok (.aload_n 0, 1) := by decide +kernel
theorem dX8_step_36 : decode cX8_step 36 = .ok (.invokevirtual 83, 3) := by decide +kernel
theorem dX8_step_39 : decode cX8_step 39 = .ok (.istore_n 1, 1) := by decide +kernel
theorem dX8_step_40 : decode cX8_step 40 = .ok (.iload_n 1, 1) := by decide +kernel
theorem dX8_step_41 : decode cX8_step 41 = .ok (.bipush (-9), 2) := by decide +kernel
theorem dX8_step_43 : decode cX8_step 43 = .ok (.if_icmp .ne 11, 3) := by decide +kernel
theorem dX8_step_46 : decode cX8_step 46 = .ok (.aload_n 0, 1) := by decide +kernel
theorem dX8_step_47 : decode cX8_step 47 = .ok (.iconst 4, 1) := by decide +kernel
theorem dX8_step_48 : decode cX8_step 48 = .ok (.putfield 93, 3) := by decide +kernel
theorem dX8_step_51 : decode cX8_step 51 = .ok (.goto 209, 3) := by decide +kernel
theorem dX8_step_54 : decode cX8_step 54 = .ok (.iload_n 1, 1) := by decide +kernel
theorem dX8_step_55 : decode cX8_step 55 = .ok (.bipush 48, 2) := by decide +kernel
theorem dX8_step_57 : decode cX8_step 57 = .ok (.bipush 57, 2) := by decide +kernel
theorem dX8_step_59 : decode cX8_step 59 = .ok (.invokestatic 72, 3) := by decide +kernel
theorem dX8_step_62 : decode cX8_step 62 = .ok (.ifCond .eq 105, 3) := by decide +kernel
theorem dX8_step_65 : decode cX8_step 65 = .ok (.aload_n 0, 1) := by decide +kernel
theorem dX8_step_66 : decode cX8_step 66 = .ok (.invokevirtual 83, 3) := by decide +kernel
theorem dX8_step_69 : decode cX8_step 69 = .ok (.bipush 48, 2) := by decide +kernel
theorem dX8_step_71 : decode cX8_step 71 = .ok (.bipush 57, 2) := by decide +kernel
theorem dX8_step_73 : decode cX8_step 73 = .ok (.invokestatic 72, 3) := by decide +kernel
theorem dX8_step_76 : decode cX8_step 76 = .ok (.ifCond .eq 51, 3) := by decide +kernel
theorem dX8_step_79 : decode cX8_step 79 = .ok (.aload_n 0, 1) := by decide +kernel
theorem dX8_step_80 : decode cX8_step 80 = .ok (.aload_n 0, 1) := by decide +kernel
theorem dX8_step_81 : decode cX8_step 81 = .ok (.getfield 90, 3) := by decide +kernel
theorem dX8_step_84 : decode cX8_step 84 = .ok (.bipush 99, 2) := by decide +kernel
theorem dX8_step_86 : decode cX8_step 86 = .ok (.if_icmp .le 10, 3) := by decide +kernel
theorem dX8_step_89 : decode cX8_step 89 = .ok (.aload_n 0, 1) := by decide +kernel
theorem dX8_step_90 : decode cX8_step 90 = .ok (.getfield 90, 3) := by decide +kernel
theorem dX8_step_93 : decode cX8_step 93 = .ok (.goto 18, 3) := by decide +kernel
theorem dX8_step_96 : decode cX8_step 96 = .ok (.bipush 10, 2) := by decide +kernel
theorem dX8_step_98 : decode cX8_step 98 = .ok (.aload_n 0, 1) := by decide +kernel
theorem dX8_step_99 : decode cX8_step 99 = .ok (.getfield 90, 3) := by decide +kernel
theorem dX8_step_102 : decode cX8_step 102 = .ok (.imul, 1) := by decide +kernel
theorem dX8_step_103 : decode cX8_step 103 = .ok (.aload_n 0, 1) := by decide +kernel
theorem dX8_step_104 : decode cX8_step 104 = .ok (.invokevirtual 83, 3) := by decide +kernel
theorem dX8_step_107 : decode cX8_step 107 = .ok (.iadd, 1) := by decide +kernel
theorem dX8_step_108 : decode cX8_step 108 = .ok (.bipush 48, 2) := by decide +kernel
theorem dX8_step_110 : decode cX8_step 110 = .ok (.isub, 1) := by decide +kernel
theorem dX8_step_111 : decode cX8_step 111 = .ok (.putfield 90, 3) := by decide +kernel
theorem dX8_step_114 : decode cX8_step 114 = .ok (.aload_n 0, 1) := by decide +kernel
theorem dX8_step_115 : decode cX8_step 115 = .ok (.dup, 1) := by decide +kernel
theorem dX8_step_116 : decode cX8_step 116 = .ok (.getfield 80, 3) := by decide +kernel
theorem dX8_step_119 : decode cX8_step 119 = .ok (.iconst 1, 1) := by decide +kernel
theorem dX8_step_120 : decode cX8_step 120 = .ok (.iadd, 1) := by decide +kernel
theorem dX8_step_121 : decode cX8_step 121 = .ok (.putfield 80, 3) := by decide +kernel
theorem dX8_step_124 : decode cX8_step 124 = .ok (.goto (-59), 3) := by decide +kernel
theorem dX8_step_127 : decode cX8_step 127 = .ok (.aload_n 0, 1) := by decide +kernel
theorem dX8_step_128 : decode cX8_step 128 = .ok (.aload_n 0, 1) := by decide +kernel
theorem dX8_step_129 : decode cX8_step 129 = .ok (.getfield 90, 3) := by decide +kernel
theorem dX8_step_132 : decode cX8_step 132 = .ok (.bipush 99, 2) := by decide +kernel
theorem dX8_step_134 : decode cX8_step 134 = .ok (.if_icmp .gt 22, 3) := by decide +kernel
theorem dX8_step_137 : decode cX8_step 137 = .ok (.iload_n 1, 1) := by decide +kernel
theorem dX8_step_138 : decode cX8_step 138 = .ok (.bipush 48, 2) := by decide +kernel
theorem dX8_step_140 : decode cX8_step 140 = .ok (.if_icmp .ne 20, 3) := by decide +kernel
theorem dX8_step_143 : decode cX8_step 143 = .ok (.aload_n 0, 1) := by decide +kernel
theorem dX8_step_144 : decode cX8_step 144 = .ok (.getfield 80, 3) := by decide +kernel
theorem dX8_step_147 : decode cX8_step 147 = .ok (.aload_n 0, 1) := by decide +kernel
theorem dX8_step_148 : decode cX8_step 148 = .ok (.getfield 87, 3) := by decide +kernel
theorem dX8_step_151 : decode cX8_step 151 = .ok (.isub, 1) := by decide +kernel
theorem dX8_step_152 : decode cX8_step 152 = .ok (.iconst 1, 1) := by decide +kernel
theorem dX8_step_153 : decode cX8_step 153 = .ok (.if_icmp .le 7, 3) := by decide +kernel
theorem dX8_step_156 : decode cX8_step 156 = .ok (.iconst 5, 1) := by decide +kernel
theorem dX8_step_157 : decode cX8_step 157 = .ok (.goto 4, 3) := by decide +kernel
theorem dX8_step_160 : decode cX8_step 160 = .ok (.iconst 2, 1) := by decide +kernel
theorem dX8_step_161 : decode cX8_step 161 = .ok (.putfield 93, 3) := by decide +kernel
theorem dX8_step_164 : decode cX8_step 164 = .ok (.goto 96, 3) := by decide +kernel
theorem dX8_step_167 : decode cX8_step 167 = .ok (.iload_n 1, 1) := by decide +kernel
theorem dX8_step_168 : decode cX8_step 168 = .ok (.bipush 97, 2) := by decide +kernel
theorem dX8_step_170 : decode cX8_step 170 = .ok (.bipush 122, 2) := by decide +kernel
theorem dX8_step_172 : decode cX8_step 172 = .ok (.invokestatic 72, 3) := by decide +kernel
theorem dX8_step_175 : decode cX8_step 175 = .ok (.ifCond .eq 60, 3) := by decide +kernel
theorem dX8_step_178 : decode cX8_step 178 = .ok (.aload_n 0, 1) := by decide +kernel
theorem dX8_step_179 : decode cX8_step 179 = .ok (.invokevirtual 83, 3) := by decide +kernel
theorem dX8_step_182 : decode cX8_step 182 = .ok (.bipush 97, 2) := by decide +kernel
theorem dX8_step_184 : decode cX8_step 184 = .ok (.bipush 122, 2) := by decide +kernel
theorem dX8_step_186 : decode cX8_step 186 = .ok (.invokestatic 72, 3) := by decide +kernel
theorem dX8_step_189 : decode cX8_step 189 = .ok (.ifCond .eq 16, 3) := by decide +kernel
theorem dX8_step_192 : decode cX8_step 192 = .ok (.aload_n 0, 1) := by decide +kernel
theorem dX8_step_193 : decode cX8_step 193 = .ok (.dup, 1) := by decide +kernel
theorem dX8_step_194 : decode cX8_step 194 = .ok (.getfield 80, 3) := by decide +kernel
theorem dX8_step_197 : decode cX8_step 197 = .ok (.iconst 1, 1) := by decide +kernel
theorem dX8_step_198 : decode cX8_step 198 = .ok (.iadd, 1) := by decide +kernel
theorem dX8_step_199 : decode cX8_step 199 = .ok (.putfield 80, 3) := by decide +kernel
theorem dX8_step_202 : decode cX8_step 202 = .ok (.goto (-24), 3) := by decide +kernel
theorem dX8_step_205 : decode cX8_step 205 = .ok (.aload_n 0, 1) := by decide +kernel
theorem dX8_step_206 : decode cX8_step 206 = .ok (.aload_n 0, 1) := by decide +kernel
theorem dX8_step_207 : decode cX8_step 207 = .ok (.getfield 80, 3) := by decide +kernel
theorem dX8_step_210 : decode cX8_step 210 = .ok (.aload_n 0, 1) := by decide +kernel
theorem dX8_step_211 : decode cX8_step 211 = .ok (.getfield 87, 3) := by decide +kernel
theorem dX8_step_214 : decode cX8_step 214 = .ok (.isub, 1) := by decide +kernel
theorem dX8_step_215 : decode cX8_step 215 = .ok (.iconst 1, 1) := by decide +kernel
theorem dX8_step_216 : decode cX8_step 216 = .ok (.if_icmp .ne 7, 3) := by decide +kernel
theorem dX8_step_219 : decode cX8_step 219 = .ok (.iload_n 1, 1) := by decide +kernel
theorem dX8_step_220 : decode cX8_step 220 = .ok (.goto 4, 3) := by decide +kernel
theorem dX8_step_223 : decode cX8_step 223 = .ok (.iconst 0, 1) := by decide +kernel
theorem dX8_step_224 : decode cX8_step 224 = .ok (.putfield 90, 3) := by decide +kernel
theorem dX8_step_227 : decode cX8_step 227 = .ok (.aload_n 0, 1) := by decide +kernel
theorem dX8_step_228 : decode cX8_step 228 = .ok (.iconst 1, 1) := by decide +kernel
theorem dX8_step_229 : decode cX8_step 229 = .ok (.putfield 93, 3) := by decide +kernel
theorem dX8_step_232 : decode cX8_step 232 = .ok (.goto 28, 3) := by decide +kernel
theorem dX8_step_235 : decode cX8_step 235 = .ok (.aload_n 0, 1) := by decide +kernel
theorem dX8_step_236 : decode cX8_step 236 = .ok (.dup, 1) := by decide +kernel
theorem dX8_step_237 : decode cX8_step 237 = .ok (.getfield 80, 3) := by decide +kernel
theorem dX8_step_240 : decode cX8_step 240 = .ok (.iconst 1, 1) := by decide +kernel
theorem dX8_step_241 : decode cX8_step 241 = .ok (.iadd, 1) := by decide +kernel
theorem dX8_step_242 : decode cX8_step 242 = .ok (.putfield 80, 3) := by decide +kernel
theorem dX8_step_245 : decode cX8_step 245 = .ok (.aload_n 0, 1) := by decide +kernel
theorem dX8_step_246 : decode cX8_step 246 = .ok (.iload_n 1, 1) := by decide +kernel
theorem dX8_step_247 : decode cX8_step 247 = .ok (.bipush 59, 2) := by decide +kernel
theorem dX8_step_249 : decode cX8_step 249 = .ok (.if_icmp .ne 7, 3) := by decide +kernel
theorem dX8_step_252 : decode cX8_step 252 = .ok (.iconst 3, 1) := by decide +kernel
theorem dX8_step_253 : decode cX8_step 253 = .ok (.goto 4, 3) := by decide +kernel
theorem dX8_step_256 : decode cX8_step 256 = .ok (.iconst 5, 1) := by decide +kernel
theorem dX8_step_257 : decode cX8_step 257 = .ok (.putfield 93, 3) := by decide +kernel
theorem dX8_step_260 : decode cX8_step 260 = .ok (.return_, 1) := by decide +kernel
set_option maxRecDepth 20000 in
theorem ggX8_due_X8_step : GoodIn wsX8_due wsX8_step := goodIn_r _ [6, 7, 8, 9, 10, 11, 12, 13, 5, 14, 15, 16, 17, 18, 19, 20, 21, 22, 23, 24, 25, 26, 27, 28, 29, 30, 31, 32, 33, 34, 35, 36, 37, 38, 39, 40, 41, 42, 43, 44, 45, 46, 47, 48, 49] (by decide +kernel) (by decide +kernel)
set_option maxRecDepth 20000 in
theorem gX8_due_X8_step : GoodIn wsX8_due (wsV RX8 100 RX8 yX8_step wsX8_step) := goodIn_app (goodIn_of _ (by decide +kernel)) ggX8_due_X8_step
theorem dX8_due_0 : decode cX8_due 0 = .ok (.aload_n 0, 1) := by decide +kernel
theorem dX8_due_1 : decode cX8_due 1 = .ok (.getfield 96, 3) := by decide +kernel
theorem dX8_due_4 : decode cX8_due 4 = .ok (.ifCond .eq 4, 3) := by decide +kernel
theorem dX8_due_7 : decode cX8_due 7 = .ok (.return_, 1) := by decide +kernel
theorem dX8_due_8 : decode cX8_due 8 = .ok (.iload_n 1, 1) := by decide +kernel
theorem dX8_due_9 : decode cX8_due 9 = .ok (.ifCond .eq 10, 3) := by decide +kernel
theorem dX8_due_12 : decode cX8_due 12 = .ok (.aload_n 0, 1) := by decide +kernel
theorem dX8_due_13 : decode cX8_due 13 = .ok (.invokevirtual 100, 3) := by decide +kernel
theorem dX8_due_16 : decode cX8_due 16 = .ok (.goto 8, 3) := by decide +kernel
theorem dX8_due_19 : decode cX8_due 19 = .ok (.aload_n 0, 1) := by decide +kernel
theorem dX8_due_20 : decode cX8_due 20 = .ok (.iconst 1, 1) := by decide +kernel
theorem dX8_due_21 : decode cX8_due 21 = .ok (.putfield 96, 3) := by decide +kernel
theorem dX8_due_24 : decode cX8_due 24 = .ok (.return_, 1) := by decide +kernel
set_option maxRecDepth 20000 in
theorem ggX8_number_X8_in : GoodIn wsX8_number wsX8_in := goodIn_r _ [6] (by decide +kernel) (by decide +kernel)
set_option maxRecDepth 20000 in
theorem gX8_number_X8_in : GoodIn wsX8_number (va_wsS RX8 72 yX8_in wsX8_in) := goodIn_app (goodIn_of _ (by decide +kernel)) ggX8_number_X8_in
set_option maxRecDepth 20000 in
theorem ggX8_number_X8_due : GoodIn wsX8_number wsX8_due := goodIn_r _ [10, 11, 12, 13, 14, 5, 15, 16, 17, 1, 2, 18, 19, 20, 21, 22, 23, 3, 4, 6, 24, 25, 26, 27, 28, 29, 30, 31, 32, 33, 34, 35, 36, 37, 38, 39, 40, 41, 42, 43, 44, 45, 46, 47, 48, 49, 50, 51, 52, 53] (by decide +kernel) (by decide +kernel)
set_option maxRecDepth 20000 in
theorem gX8_number_X8_due : GoodIn wsX8_number (wsV RX8 103 RX8 yX8_due wsX8_due) := goodIn_app (goodIn_of _ (by decide +kernel)) ggX8_number_X8_due
theorem dX8_number_0 : decode cX8_number 0 = .ok (.aload_n 0, 1) := by decide +kernel
theorem dX8_number_1 : decode cX8_number 1 = .ok (.getfield 90, 3) := by decide +kernel
theorem dX8_number_4 : decode cX8_number 4 = .ok (.istore_n 3, 1) := by decide +kernel
theorem dX8_number_5 : decode cX8_number 5 = .ok (.aload_n 0, 1) := by decide +kernel
theorem dX8_number_6 : decode cX8_number 6 = .ok (.aload_n 0, 1) := by decide +kernel
theorem dX8_number_7 : decode cX8_number 7 = .ok (.getfield 93, 3) := by decide +kernel
theorem dX8_number_10 : decode cX8_number 10 = .ok (.iconst 2, 1) := by decide +kernel
theorem dX8_number_11 : decode cX8_number 11 = .ok (.if_icmp .ne 16, 3) := by decide +kernel
theorem dX8_number_14 : decode cX8_number 14 = .ok (.iload_n 3, 1) := by decide +kernel
theorem dX8_number_15 : decode cX8_number 15 = .ok (.iload_n 1, 1) := by decide +kernel
theorem dX8_number_16 : decode cX8_number 16 = .ok (.iload_n 2, 1) := by decide +kernel
theorem dX8_number_17 : decode cX8_number 17 = .ok (.invokestatic 72, 3) := by decide +kernel
theorem dX8_number_20 : decode cX8_number 20 = .ok (.ifCond .eq 7, 3) := by decide +kernel
theorem dX8_number_23 : decode cX8_number 23 = .ok (.iconst 1, 1) := by decide +kernel
theorem dX8_number_24 : decode cX8_number 24 = .ok (.goto 4, 3) := by decide +kernel
theorem dX8_number_27 : decode cX8_number 27 = .ok (.iconst 0, 1) := by decide +kernel
theorem dX8_number_28 : decode cX8_number 28 = .ok (.invokevirtual 103, 3) := by decide +kernel
theorem dX8_number_31 : decode cX8_number 31 = .ok (.iload_n 3, 1) := by decide +kernel
theorem dX8_number_32 : decode cX8_number 32 = .ok (.ireturn, 1) := by decide +kernel
set_option maxRecDepth 20000 in
theorem ggX8_blow_X8_number : GoodIn wsX8_blow wsX8_number := goodIn_r _ [10, 11, 5, 12, 13, 9, 14, 15, 16, 17, 18, 3, 19, 20, 21, 22, 23, 24, 25, 26, 27, 28, 29, 30, 31, 32, 33, 34, 35, 36, 37, 38, 39, 40, 41, 42, 43, 44, 45, 46, 47, 48, 49, 50, 51, 52, 53, 54, 55, 56, 57, 58, 59, 60] (by decide +kernel) (by decide +kernel)
set_option maxRecDepth 20000 in
theorem gX8_blow_X8_number : GoodIn wsX8_blow (wsV RX8 110 RX8 yX8_number wsX8_number) := goodIn_app (goodIn_of _ (by decide +kernel)) ggX8_blow_X8_number
theorem dX8_blow_0 : decode cX8_blow 0 = .ok (.aload_n 0, 1) := by decide +kernel
theorem dX8_blow_1 : decode cX8_blow 1 = .ok (.getfield 35, 3) := by decide +kernel
theorem dX8_blow_4 : decode cX8_blow 4 = .ok (.iconst 1, 1) := by decide +kernel
theorem dX8_blow_5 : decode cX8_blow 5 = .ok (.iconst 0, 1) := by decide +kernel
theorem dX8_blow_6 : decode cX8_blow 6 = .ok (.iastore, 1) := by decide +kernel
theorem dX8_blow_7 : decode cX8_blow 7 = .ok (.aload_n 0, 1) := by decide +kernel
theorem dX8_blow_8 : decode cX8_blow 8 = .ok (.iconst 1, 1) := by decide +kernel
theorem dX8_blow_9 : decode cX8_blow 9 = .ok (.putfield 107, 3) := by decide +kernel
theorem dX8_blow_12 : decode cX8_blow 12 = .ok (.aload_n 0, 1) := by decide +kernel
theorem dX8_blow_13 : decode cX8_blow 13 = .ok (.iconst 0, 1) := by decide +kernel
theorem dX8_blow_14 : decode cX8_blow 14 = .ok (.bipush 8, 2) := by decide +kernel
theorem dX8_blow_16 : decode cX8_blow 16 = .ok (.invokevirtual 110, 3) := by decide +kernel
theorem dX8_blow_19 : decode cX8_blow 19 = .ok (.istore_n 1, 1) := by decide +kernel
theorem dX8_blow_20 : decode cX8_blow 20 = .ok (.aload_n 0, 1) := by decide +kernel
theorem dX8_blow_21 : decode cX8_blow 21 = .ok (.getfield 96, 3) := by decide +kernel
theorem dX8_blow_24 : decode cX8_blow 24 = .ok (.ifCond .ne 30, 3) := by decide +kernel
theorem dX8_blow_27 : decode cX8_blow 27 = .ok (.aload_n 0, 1) := by decide +kernel
theorem dX8_blow_28 : decode cX8_blow 28 = .ok (.getfield 38, 3) := by decide +kernel
theorem dX8_blow_31 : decode cX8_blow 31 = .ok (.bipush 6, 2) := by decide +kernel
theorem dX8_blow_33 : decode cX8_blow 33 = .ok (.aload_n 0, 1) := by decide +kernel
theorem dX8_blow_34 : decode cX8_blow 34 = .ok (.getfield 35, 3) := by decide +kernel
theorem dX8_blow_37 : decode cX8_blow 37 = .ok (.iconst 1, 1) := by decide +kernel
theorem dX8_blow_38 : decode cX8_blow 38 = .ok (.iaload, 1) := by decide +kernel
theorem dX8_blow_39 : decode cX8_blow 39 = .ok (.iadd, 1) := by decide +kernel
theorem dX8_blow_40 : decode cX8_blow 40 = .ok (.iload_n 1, 1) := by decide +kernel
theorem dX8_blow_41 : decode cX8_blow 41 = .ok (.iconst 4, 1) := by decide +kernel
theorem dX8_blow_42 : decode cX8_blow 42 = .ok (.isub, 1) := by decide +kernel
theorem dX8_blow_43 : decode cX8_blow 43 = .ok (.iastore, 1) := by decide +kernel
theorem dX8_blow_44 : decode cX8_blow 44 = .ok (.aload_n 0, 1) := by decide +kernel
theorem dX8_blow_45 : decode cX8_blow 45 = .ok (.getfield 35, 3) := by decide +kernel
theorem dX8_blow_48 : decode cX8_blow 48 = .ok (.iconst 1, 1) := by decide +kernel
theorem dX8_blow_49 : decode cX8_blow 49 = .ok (.dup2, 1) := by decide +kernel
theorem dX8_blow_50 : decode cX8_blow 50 = .ok (.iaload, 1) := by decide +kernel
theorem dX8_blow_51 : decode cX8_blow 51 = .ok (.iconst 1, 1) := by decide +kernel
theorem dX8_blow_52 : decode cX8_blow 52 = .ok (.iadd, 1) := by decide +kernel
theorem dX8_blow_53 : decode cX8_blow 53 = .ok (.iastore, 1) := by decide +kernel
theorem dX8_blow_54 : decode cX8_blow 54 = .ok (.aload_n 0, 1) := by decide +kernel
theorem dX8_blow_55 : decode cX8_blow 55 = .ok (.getfield 96, 3) := by decide +kernel
theorem dX8_blow_58 : decode cX8_blow 58 = .ok (.ifCond .ne 22, 3) := by decide +kernel
theorem dX8_blow_61 : decode cX8_blow 61 = .ok (.aload_n 0, 1) := by decide +kernel
theorem dX8_blow_62 : decode cX8_blow 62 = .ok (.getfield 93, 3) := by decide +kernel
theorem dX8_blow_65 : decode cX8_blow 65 = .ok (.iconst 2, 1) := by decide +kernel
theorem dX8_blow_66 : decode cX8_blow 66 = .ok (.if_icmp .ne 14, 3) := by decide +kernel
theorem dX8_blow_69 : decode cX8_blow 69 = .ok (.aload_n 0, 1) := by decide +kernel
theorem dX8_blow_70 : decode cX8_blow 70 = .ok (.getfield 35, 3) := by decide +kernel
theorem dX8_blow_73 : decode cX8_blow 73 = .ok (.iconst 1, 1) := by decide +kernel
theorem dX8_blow_74 : decode cX8_blow 74 = .ok (.iaload, 1) := by decide +kernel
theorem dX8_blow_75 : decode cX8_blow 75 = .ok (.bipush 6, 2) := by decide +kernel
theorem dX8_blow_77 : decode cX8_blow 77 = .ok (.if_icmp .lt (-65), 3) := by decide +kernel
theorem dX8_blow_80 : decode cX8_blow 80 = .ok (.return_, 1) := by decide +kernel
set_option maxRecDepth 20000 in
theorem ggX8_item_X8_number : GoodIn wsX8_item wsX8_number := goodIn_r _ [14, 15, 16, 17, 18, 13, 19, 20, 21, 22, 23, 8, 24, 25, 26, 27, 28, 29, 30, 31, 32, 33, 34, 35, 43, 44, 45, 46, 47, 48, 49, 50, 51, 52, 53, 54, 55, 56, 57, 58, 59, 60, 61, 62, 63, 64, 65, 66, 67, 68, 69, 70, 71, 72] (by decide +kernel) (by decide +kernel)
set_option maxRecDepth 20000 in
theorem gX8_item_X8_number : GoodIn wsX8_item (wsV RX8 110 RX8 yX8_number wsX8_number) := goodIn_app (goodIn_of _ (by decide +kernel)) ggX8_item_X8_number
set_option maxRecDepth 20000 in
theorem ggX8_item_X8_blow : GoodIn wsX8_item wsX8_blow := goodIn_r _ [39, 40, 41, 8, 42, 16, 10, 11, 12, 13, 14, 15, 17, 18, 19, 20, 21, 22, 23, 24, 25, 26, 27, 28, 29, 30, 31, 32, 33, 34, 35, 43, 44, 45, 46, 47, 48, 49, 50, 51, 52, 53, 54, 55, 56, 57, 58, 59, 60, 61, 62, 63, 64, 65, 66, 67, 68, 69, 70, 71, 72] (by decide +kernel) (by decide +kernel)
set_option maxRecDepth 20000 in
theorem gX8_item_X8_blow : GoodIn wsX8_item (wsV RX8 114 RX8 yX8_blow wsX8_blow) := goodIn_app (goodIn_of _ (by decide +kernel)) ggX8_item_X8_blow
theorem dX8_item_0 : decode cX8_item 0 = .ok (.iload_n 1, 1) := by decide +kernel
theorem dX8_item_1 : decode cX8_item 1 = .ok (.lookupswitch 163 #[(112, 35), (115, 89), (119, 156)], 35) := by decide +kernel
theorem dX8_item_36 : decode cX8_item 36 = .ok (.aload_n 0, 1) := by decide +kernel
theorem dX8_item_37 : decode cX8_item 37 = .ok (.getfield 17, 3) := by decide +kernel
theorem dX8_item_40 : decode cX8_item 40 = .ok (.bipush 6, 2) := by decide +kernel
theorem dX8_item_42 : decode cX8_item 42 = .ok (.aload_n 0, 1) := by decide +kernel
theorem dX8_item_43 : decode cX8_item 43 = .ok (.getfield 13, 3) := by decide +kernel
theorem dX8_item_46 : decode cX8_item 46 = .ok (.iconst 1, 1) := by decide +kernel
theorem dX8_item_47 : decode cX8_item 47 = .ok (.iaload, 1) := by decide +kernel
theorem dX8_item_48 : decode cX8_item 48 = .ok (.iadd, 1) := by decide +kernel
theorem dX8_item_49 : decode cX8_item 49 = .ok (.aload_n 0, 1) := by decide +kernel
theorem dX8_item_50 : decode cX8_item 50 = .ok (.iconst 0, 1) := by decide +kernel
theorem dX8_item_51 : decode cX8_item 51 = .ok (.bipush 30, 2) := by decide +kernel
theorem dX8_item_53 : decode cX8_item 53 = .ok (.invokevirtual 110, 3) := by decide +kernel
theorem dX8_item_56 : decode cX8_item 56 = .ok (.iastore, 1) := by decide +kernel
theorem dX8_item_57 : decode cX8_item 57 = .ok (.aload_n 0, 1) := by decide +kernel
theorem dX8_item_58 : decode cX8_item 58 = .ok (.getfield 20, 3) := by decide +kernel
theorem dX8_item_61 : decode cX8_item 61 = .ok (.bipush 6, 2) := by decide +kernel
theorem dX8_item_63 : decode cX8_item 63 = .ok (.aload_n 0, 1) := by decide +kernel
theorem dX8_item_64 : decode cX8_item 64 = .ok (.getfield 13, 3) := by decide +kernel
theorem dX8_item_67 : decode cX8_item 67 = .ok (.iconst 1, 1) := by decide +kernel
theorem dX8_item_68 : decode cX8_item 68 = .ok (.iaload, 1) := by decide +kernel
theorem dX8_item_69 : decode cX8_item 69 = .ok (.iadd, 1) := by decide +kernel
theorem dX8_item_70 : decode cX8_item 70 = .ok (.aload_n 0, 1) := by decide +kernel
theorem dX8_item_71 : decode cX8_item 71 = .ok (.iconst 0, 1) := by decide +kernel
theorem dX8_item_72 : decode cX8_item 72 = .ok (.iconst 5, 1) := by decide +kernel
theorem dX8_item_73 : decode cX8_item 73 = .ok (.invokevirtual 110, 3) := by decide +kernel
theorem dX8_item_76 : decode cX8_item 76 = .ok (.iastore, 1) := by decide +kernel
theorem dX8_item_77 : decode cX8_item 77 = .ok (.aload_n 0, 1) := by decide +kernel
theorem dX8_item_78 : decode cX8_item 78 = .ok (.getfield 13, 3) := by decide +kernel
theorem dX8_item_81 : decode cX8_item 81 = .ok (.iconst 1, 1) := by decide +kernel
theorem dX8_item_82 : decode cX8_item 82 = .ok (.dup2, 1) := by decide +kernel
theorem dX8_item_83 : decode cX8_item 83 = .ok (.iaload, 1) := by decide +kernel
theorem dX8_item_84 : decode cX8_item 84 = .ok (.iconst 1, 1) := by decide +kernel
theorem dX8_item_85 : decode cX8_item 85 = .ok (.iadd, 1) := by decide +kernel
theorem dX8_item_86 : decode cX8_item 86 = .ok (.iastore, 1) := by decide +kernel
theorem dX8_item_87 : decode cX8_item 87 = .ok (.goto 108, 3) := by decide +kernel
theorem dX8_item_90 : decode cX8_item 90 = .ok (.bipush 6, 2) := by decide +kernel
theorem dX8_item_92 : decode cX8_item 92 = .ok (.aload_n 0, 1) := by decide +kernel
theorem dX8_item_93 : decode cX8_item 93 = .ok (.getfield 23, 3) := by decide +kernel
theorem dX8_item_96 : decode cX8_item 96 = .ok (.iconst 1, 1) := by decide +kernel
theorem dX8_item_97 : decode cX8_item 97 = .ok (.iaload, 1) := by decide +kernel
theorem dX8_item_98 : decode cX8_item 98 = .ok (.iadd, 1) := by decide +kernel
theorem dX8_item_99 : decode cX8_item 99 = .ok (.istore_n 2, 1) := by decide +kernel
theorem dX8_item_100 : decode cX8_item 100 = .ok (.aload_n 0, 1) := by decide +kernel
theorem dX8_item_101 : decode cX8_item 101 = .ok (.getfield 26, 3) := by decide +kernel
theorem dX8_item_104 : decode cX8_item 104 = .ok (.iload_n 2, 1) := by decide +kernel
theorem dX8_item_105 : decode cX8_item 105 = .ok (.aload_n 0, 1) := by decide +kernel
theorem dX8_item_106 : decode cX8_item 106 = .ok (.iconst 1, 1) := by decide +kernel
theorem dX8_item_107 : decode cX8_item 107 = .ok (.bipush 9, 2) := by decide +kernel
theorem dX8_item_109 : decode cX8_item 109 = .ok (.invokevirtual 110, 3) := by decide +kernel
theorem dX8_item_112 : decode cX8_item 112 = .ok (.iastore, 1) := by decide +kernel
theorem dX8_item_113 : decode cX8_item 113 = .ok (.aload_n 0, 1) := by decide +kernel
theorem dX8_item_114 : decode cX8_item 114 = .ok (.getfield 29, 3) := by decide +kernel
theorem dX8_item_117 : decode cX8_item 117 = .ok (.iload_n 2, 1) := by decide +kernel
theorem dX8_item_118 : decode cX8_item 118 = .ok (.aload_n 0, 1) := by decide +kernel
theorem dX8_item_119 : decode cX8_item 119 = .ok (.iconst 0, 1) := by decide +kernel
theorem dX8_item_120 : decode cX8_item 120 = .ok (.iconst 3, 1) := by decide +kernel
theorem dX8_item_121 : decode cX8_item 121 = .ok (.invokevirtual 110, 3) := by decide +kernel
theorem dX8_item_124 : decode cX8_item 124 = .ok (.iastore, 1) := by decide +kernel
theorem dX8_item_125 : decode cX8_item 125 = .ok (.aload_n 0, 1) := by decide +kernel
theorem dX8_item_126 : decode cX8_item 126 = .ok (.getfield 32, 3) := by decide +kernel
theorem dX8_item_129 : decode cX8_item 129 = .ok (.iload_n 2, 1) := by decide +kernel
theorem dX8_item_130 : decode cX8_item 130 = .ok (.aload_n 0, 1) := by decide +kernel
theorem dX8_item_131 : decode cX8_item 131 = .ok (.iconst 0, 1) := by decide +kernel
theorem dX8_item_132 : decode cX8_item 132 = .ok (.aload_n 0, 1) := by decide +kernel
theorem dX8_item_133 : decode cX8_item 133 = .ok (.getfield 13, 3) := by decide +kernel
theorem dX8_item_136 : decode cX8_item 136 = .ok (.iconst 1, 1) := by decide +kernel
theorem dX8_item_137 : decode cX8_item 137 = .ok (.iaload, 1) := by decide +kernel
theorem dX8_item_138 : decode cX8_item 138 = .ok (.iconst 1, 1) := by decide +kernel
theorem dX8_item_139 : decode cX8_item 139 = .ok (.isub, 1) := by decide +kernel
theorem dX8_item_140 : decode cX8_item 140 = .ok (.invokevirtual 110, 3) := by decide +kernel
theorem dX8_item_143 : decode cX8_item 143 = .ok (.iastore, 1) := by decide +kernel
theorem dX8_item_144 : decode cX8_item 144 = .ok (.aload_n 0, 1) := by decide +kernel
theorem dX8_item_145 : decode cX8_item 145 = .ok (.getfield 23, 3) := by decide +kernel
theorem dX8_item_148 : decode cX8_item 148 = .ok (.iconst 1, 1) := by decide +kernel
theorem dX8_item_149 : decode cX8_item 149 = .ok (.dup2, 1) := by decide +kernel
theorem dX8_item_150 : decode cX8_item 150 = .ok (.iaload, 1) := by decide +kernel
theorem dX8_item_151 : decode cX8_item 151 = .ok (.iconst 1, 1) := by decide +kernel
theorem dX8_item_152 : decode cX8_item 152 = .ok (.iadd, 1) := by decide +kernel
theorem dX8_item_153 : decode cX8_item 153 = .ok (.iastore, 1) := by decide +kernel
theorem dX8_item_154 : decode cX8_item 154 = .ok (.goto 41, 3) := by decide +kernel
theorem dX8_item_157 : decode cX8_item 157 = .ok (.aload_n 0, 1) := by decide +kernel
theorem dX8_item_158 : decode cX8_item 158 = .ok (.invokevirtual 114, 3) := by decide +kernel
theorem dX8_item_161 : decode cX8_item 161 = .ok (.goto 34, 3) := by decide +kernel
theorem dX8_item_164 : decode cX8_item 164 = .ok (.aload_n 0, 1) := by decide +kernel
theorem dX8_item_165 : decode cX8_item 165 = .ok (.iconst 0, 1) := by decide +kernel
theorem dX8_item_166 : decode cX8_item 166 = .ok (.iconst 3, 1) := by decide +kernel
theorem dX8_item_167 : decode cX8_item 167 = .ok (.invokevirtual 110, 3) := by decide +kernel
theorem dX8_item_170 : decode cX8_item 170 = .ok (.istore_n 3, 1) := by decide +kernel
theorem dX8_item_171 : decode cX8_item 171 = .ok (.aload_n 0, 1) := by decide +kernel
theorem dX8_item_172 : decode cX8_item 172 = .ok (.iconst 0, 1) := by decide +kernel
theorem dX8_item_173 : decode cX8_item 173 = .ok (.bipush 20, 2) := by decide +kernel
theorem dX8_item_175 : decode cX8_item 175 = .ok (.invokevirtual 110, 3) := by decide +kernel
theorem dX8_item_178 : decode cX8_item 178 = .ok (.istore 4, 2) := by decide +kernel
theorem dX8_item_180 : decode cX8_item 180 = .ok (.aload_n 0, 1) := by decide +kernel
theorem dX8_item_181 : decode cX8_item 181 = .ok (.getfield 96, 3) := by decide +kernel
theorem dX8_item_184 : decode cX8_item 184 = .ok (.ifCond .ne 11, 3) := by decide +kernel
theorem dX8_item_187 : decode cX8_item 187 = .ok (.aload_n 0, 1) := by decide +kernel
theorem dX8_item_188 : decode cX8_item 188 = .ok (.getfield 41, 3) := by decide +kernel
theorem dX8_item_191 : decode cX8_item 191 = .ok (.iload_n 3, 1) := by decide +kernel
theorem dX8_item_192 : decode cX8_item 192 = .ok (.iload 4, 2) := by decide +kernel
theorem dX8_item_194 : decode cX8_item 194 = .ok (.iastore, 1) := by decide +kernel
theorem dX8_item_195 : decode cX8_item 195 = .ok (.return_, 1) := by decide +kernel
theorem dX8_may_0 : decode cX8_may 0 = .ok (.iload_n 1, 1) := by decide +kernel
theorem dX8_may_1 : decode cX8_may 1 = .ok (.lookupswitch 82 #[(112, 35), (115, 52), (119, 69)], 35) := by decide +kernel
theorem dX8_may_36 : decode cX8_may 36 = .ok (.aload_n 0, 1) := by decide +kernel
theorem dX8_may_37 : decode cX8_may 37 = .ok (.getfield 13, 3) := by decide +kernel
theorem dX8_may_40 : decode cX8_may 40 = .ok (.iconst 1, 1) := by decide +kernel
theorem dX8_may_41 : decode cX8_may 41 = .ok (.iaload, 1) := by decide +kernel
theorem dX8_may_42 : decode cX8_may 42 = .ok (.bipush 6, 2) := by decide +kernel
theorem dX8_may_44 : decode cX8_may 44 = .ok (.if_icmp .ge 7, 3) := by decide +kernel
theorem dX8_may_47 : decode cX8_may 47 = .ok (.iconst 1, 1) := by decide +kernel
theorem dX8_may_48 : decode cX8_may 48 = .ok (.goto 4, 3) := by decide +kernel
theorem dX8_may_51 : decode cX8_may 51 = .ok (.iconst 0, 1) := by decide +kernel
theorem dX8_may_52 : decode cX8_may 52 = .ok (.ireturn, 1) := by decide +kernel
theorem dX8_may_53 : decode cX8_may 53 = .ok (.aload_n 0, 1) := by decide +kernel
theorem dX8_may_54 : decode cX8_may 54 = .ok (.getfield 23, 3) := by decide +kernel
theorem dX8_may_57 : decode cX8_may 57 = .ok (.iconst 1, 1) := by decide +kernel
theorem dX8_may_58 : decode cX8_may 58 = .ok (.iaload, 1) := by decide +kernel
theorem dX8_may_59 : decode cX8_may 59 = .ok (.bipush 6, 2) := by decide +kernel
theorem dX8_may_61 : decode cX8_may 61 = .ok (.if_icmp .ge 7, 3) := by decide +kernel
theorem dX8_may_64 : decode cX8_may 64 = .ok (.iconst 1, 1) := by decide +kernel
theorem dX8_may_65 : decode cX8_may 65 = .ok (.goto 4, 3) := by decide +kernel
theorem dX8_may_68 : decode cX8_may 68 = .ok (.iconst 0, 1) := by decide +kernel
theorem dX8_may_69 : decode cX8_may 69 = .ok (.ireturn, 1) := by decide +kernel
theorem dX8_may_70 : decode cX8_may 70 = .ok (.aload_n 0, 1) := by decide +kernel
theorem dX8_may_71 : decode cX8_may 71 = .ok (.getfield 107, 3) := by decide +kernel
theorem dX8_may_74 : decode cX8_may 74 = .ok (.ifCond .ne 7, 3) := by decide +kernel
theorem dX8_may_77 : decode cX8_may 77 = .ok (.iconst 1, 1) := by decide +kernel
theorem dX8_may_78 : decode cX8_may 78 = .ok (.goto 4, 3) := by decide +kernel
theorem dX8_may_81 : decode cX8_may 81 = .ok (.iconst 0, 1) := by decide +kernel
theorem dX8_may_82 : decode cX8_may 82 = .ok (.ireturn, 1) := by decide +kernel
theorem dX8_may_83 : decode cX8_may 83 = .ok (.iload_n 1, 1) := by decide +kernel
theorem dX8_may_84 : decode cX8_may 84 = .ok (.bipush 102, 2) := by decide +kernel
theorem dX8_may_86 : decode cX8_may 86 = .ok (.if_icmp .ne 7, 3) := by decide +kernel
theorem dX8_may_89 : decode cX8_may 89 = .ok (.iconst 1, 1) := by decide +kernel
theorem dX8_may_90 : decode cX8_may 90 = .ok (.goto 4, 3) := by decide +kernel
theorem dX8_may_93 : decode cX8_may 93 = .ok (.iconst 0, 1) := by decide +kernel
theorem dX8_may_94 : decode cX8_may 94 = .ok (.ireturn, 1) := by decide +kernel
set_option maxRecDepth 20000 in
theorem ggX8_read_X8_step : GoodIn wsX8_read wsX8_step := goodIn_r _ [16, 1, 17, 11, 10, 18, 19, 20, 15, 21, 22, 23, 24, 25, 26, 52, 53, 54, 55, 56, 57, 58, 59, 60, 61, 62, 63, 64, 65, 66, 67, 68, 69, 70, 71, 72, 73, 74, 75, 76, 77, 78, 79, 80, 81] (by decide +kernel) (by decide +kernel)
set_option maxRecDepth 20000 in
theorem gX8_read_X8_step : GoodIn wsX8_read (wsV RX8 100 RX8 yX8_step wsX8_step) := goodIn_app (goodIn_of _ (by decide +kernel)) ggX8_read_X8_step
set_option maxRecDepth 20000 in
theorem ggX8_read_X8_may : GoodIn wsX8_read wsX8_may := goodIn_r _ [30, 5, 6, 4, 52, 53, 54, 55, 56, 57, 58, 59, 60, 61, 62, 63, 64, 65, 66, 67, 68, 69, 70, 71, 72, 73, 74, 75, 76, 77, 78, 79, 80, 81] (by decide +kernel) (by decide +kernel)
set_option maxRecDepth 20000 in
theorem gX8_read_X8_may : GoodIn wsX8_read (wsV RX8 120 RX8 yX8_may wsX8_may) := goodIn_app (goodIn_of _ (by decide +kernel)) ggX8_read_X8_may
set_option maxRecDepth 20000 in
theorem ggX8_read_X8_due : GoodIn wsX8_read wsX8_due := goodIn_r _ [34, 2, 12, 13, 14, 15, 16, 1, 17, 11, 10, 18, 19, 20, 21, 22, 23, 24, 25, 26, 52, 53, 54, 55, 56, 57, 58, 59, 60, 61, 62, 63, 64, 65, 66, 67, 68, 69, 70, 71, 72, 73, 74, 75, 76, 77, 78, 79, 80, 81] (by decide +kernel) (by decide +kernel)
set_option maxRecDepth 20000 in
theorem gX8_read_X8_due : GoodIn wsX8_read (wsV RX8 103 RX8 yX8_due wsX8_due) := goodIn_app (goodIn_of _ (by decide +kernel)) ggX8_read_X8_due
set_option maxRecDepth 20000 in
theorem ggX8_read_X8_item : GoodIn wsX8_read wsX8_item := goodIn_r _ [38, 39, 5, 40, 6, 41, 42, 43, 2, 9, 44, 45, 46, 15, 47, 11, 10, 24, 25, 26, 31, 32, 33, 34, 12, 13, 14, 16, 1, 17, 18, 19, 20, 21, 22, 23, 48, 49, 50, 51, 7, 4, 8, 52, 53, 54, 55, 56, 57, 58, 59, 60, 61, 62, 63, 64, 65, 66, 67, 68, 69, 70, 71, 72, 73, 74, 75, 76, 77, 78, 79, 80, 81] (by decide +kernel) (by decide +kernel)
set_option maxRecDepth 20000 in
theorem gX8_read_X8_item : GoodIn wsX8_read (wsV RX8 124 RX8 yX8_item wsX8_item) := goodIn_app (goodIn_of _ (by decide +kernel)) ggX8_read_X8_item
theorem dX8_read_0 : decode cX8_read 0 = .ok (.aload_n 0, 1) := by decide +kernel
theorem dX8_read_1 : decode cX8_read 1 = .ok (.iconst 0, 1) := by decide +kernel
theorem dX8_read_2 : decode cX8_read 2 = .ok (.putfield 80, 3) := by decide +kernel
theorem dX8_read_5 : decode cX8_read 5 = .ok (.aload_n 0, 1) := by decide +kernel
theorem dX8_read_6 : decode cX8_read 6 = .ok (.iconst 0, 1) := by decide +kernel
theorem dX8_read_7 : decode cX8_read 7 = .ok (.putfield 96, 3) := by decide +kernel
theorem dX8_read_10 : decode cX8_read 10 = .ok (.aload_n 0, 1) := by decide +kernel
theorem dX8_read_11 : decode cX8_read 11 = .ok (.iconst 0, 1) := by decide +kernel
theorem dX8_read_12 : decode cX8_read 12 = .ok (.putfield 117, 3) := by decide +kernel
theorem dX8_read_15 : decode cX8_read 15 = .ok (.aload_n 0, 1) := by decide +kernel
theorem dX8_read_16 : decode cX8_read 16 = .ok (.iconst 0, 1) := by decide +kernel
theorem dX8_read_17 : decode cX8_read 17 = .ok (.putfield 107, 3) := by decide +kernel
theorem dX8_read_20 : decode cX8_read 20 = .ok (.aload_n 0, 1) := by decide +kernel
theorem dX8_read_21 : decode cX8_read 21 = .ok (.getfield 13, 3) := by decide +kernel
theorem dX8_read_24 : decode cX8_read 24 = .ok (.iconst 1, 1) := by decide +kernel
theorem dX8_read_25 : decode cX8_read 25 = .ok (.iconst 0, 1) := by decide +kernel
theorem dX8_read_26 : decode cX8_read 26 = .ok (.iastore, 1) := by decide +kernel
theorem dX8_read_27 : decode cX8_read 27 = .ok (.aload_n 0, 1) := by decide +kernel
theorem dX8_read_28 : decode cX8_read 28 = .ok (.getfield 23, 3) := by decide +kernel
theorem dX8_read_31 : decode cX8_read 31 = .ok (.iconst 1, 1) := by decide +kernel
theorem dX8_read_32 : decode cX8_read 32 = .ok (.iconst 0, 1) := by decide +kernel
theorem dX8_read_33 : decode cX8_read 33 = .ok (.iastore, 1) := by decide +kernel
theorem dX8_read_34 : decode cX8_read 34 = .ok (.aload_n 0, 1) := by decide +kernel
theorem dX8_read_35 : decode cX8_read 35 = .ok (.getfield 35, 3) := by decide +kernel
theorem dX8_read_38 : decode cX8_read 38 = .ok (.iconst 1, 1) := by decide +kernel
theorem dX8_read_39 : decode cX8_read 39 = .ok (.iconst 1, 1) := by decide +kernel
theorem dX8_read_40 : decode cX8_read 40 = .ok (.iastore, 1) := by decide +kernel
theorem dX8_read_41 : decode cX8_read 41 = .ok (.aload_n 0, 1) := by decide +kernel
theorem dX8_read_42 : decode cX8_read 42 = .ok (.getfield 38, 3) := by decide +kernel
theorem dX8_read_45 : decode cX8_read 45 = .ok (.bipush 6, 2) := by decide +kernel
theorem dX8_read_47 : decode cX8_read 47 = .ok (.iconst 0, 1) := by decide +kernel
theorem dX8_read_48 : decode cX8_read 48 = .ok (.iastore, 1) := by decide +kernel
theorem dX8_read_49 : decode cX8_read 49 = .ok (.iconst 0, 1) := by decide +kernel
theorem dX8_read_50 : decode cX8_read 50 = .ok (.istore_n 1, 1) := by decide +kernel
theorem dX8_read_51 : decode cX8_read 51 = .ok (.iload_n 1, 1) := by decide +kernel
theorem dX8_read_52 : decode cX8_read 52 = .ok (.iconst 4, 1) := by decide +kernel
theorem dX8_read_53 : decode cX8_read 53 = .ok (.if_icmp .ge 17, 3) := by decide +kernel
theorem dX8_read_56 : decode cX8_read 56 = .ok (.aload_n 0, 1) := by decide +kernel
theorem dX8_read_57 : decode cX8_read 57 = .ok (.getfield 41, 3) := by decide +kernel
theorem dX8_read_60 : decode cX8_read 60 = .ok (.iload_n 1, 1) := by decide +kernel
theorem dX8_read_61 : decode cX8_read 61 = .ok (.bipush 9, 2) := by decide +kernel
theorem dX8_read_63 : decode cX8_read 63 = .ok (.iastore, 1) := by decide +kernel
theorem dX8_read_64 : decode cX8_read 64 = .ok (.iinc 1 1, 3) := by decide +kernel
theorem dX8_read_67 : decode cX8_read 67 = .ok (.goto (-16), 3) := by decide +kernel
theorem dX8_read_70 : decode cX8_read 70 = .ok (.aload_n 0, 1) := by decide +kernel
theorem dX8_read_71 : decode cX8_read 71 = .ok (.invokevirtual 100, 3) := by decide +kernel
theorem dX8_read_74 : decode cX8_read 74 = .ok (.aload_n 0, 1) := by decide +kernel
theorem dX8_read_75 : decode cX8_read 75 = .ok (.getfield 93, 3) := by decide +kernel
theorem dX8_read_78 : decode cX8_read 78 = .ok (.iconst 4, 1) := by decide +kernel
theorem dX8_read_79 : decode cX8_read 79 = .ok (.if_icmp .eq 94, 3) := by decide +kernel
theorem dX8_read_82 : decode cX8_read 82 = .ok (.aload_n 0, 1) := by decide +kernel
theorem dX8_read_83 : decode cX8_read 83 = .ok (.getfield 96, 3) := by decide +kernel
theorem dX8_read_86 : decode cX8_read 86 = .ok (.ifCond .ne 87, 3) := by decide +kernel
theorem dX8_read_89 : decode cX8_read 89 = .ok (.aload_n 0, 1) := by decide +kernel
theorem dX8_read_90 : decode cX8_read 90 = .ok (.getfield 93, 3) := by decide +kernel
theorem dX8_read_93 : decode cX8_read 93 = .ok (.iconst 1, 1) := by decide +kernel
theorem dX8_read_94 : decode cX8_read 94 = .ok (.if_icmp .ne 10, 3) := by decide +kernel
theorem dX8_read_97 : decode cX8_read 97 = .ok (.aload_n 0, 1) := by decide +kernel
theorem dX8_read_98 : decode cX8_read 98 = .ok (.getfield 90, 3) := by decide +kernel
theorem dX8_read_101 : decode cX8_read 101 = .ok (.goto 4, 3) := by decide +kernel
theorem dX8_read_104 : decode cX8_read 104 = .ok (.iconst 0, 1) := by decide +kernel
theorem dX8_read_105 : decode cX8_read 105 = .ok (.istore_n 1, 1) := by decide +kernel
theorem dX8_read_106 : decode cX8_read 106 = .ok (.aload_n 0, 1) := by decide +kernel
theorem dX8_read_107 : decode cX8_read 107 = .ok (.aload_n 0, 1) := by decide +kernel
theorem dX8_read_108 : decode cX8_read 108 = .ok (.getfield 93, 3) := by decide +kernel
theorem dX8_read_111 : decode cX8_read 111 = .ok (.iconst 1, 1) := by decide +kernel
theorem dX8_read_112 : decode cX8_read 112 = .ok (.if_icmp .ne 15, 3) := by decide +kernel
theorem dX8_read_115 : decode cX8_read 115 = .ok (.aload_n 0, 1) := by decide +kernel
theorem dX8_read_116 : decode cX8_read 116 = .ok (.iload_n 1, 1) := by decide +kernel
theorem dX8_read_117 : decode cX8_read 117 = .ok (.invokevirtual 120, 3) := by decide +kernel
theorem dX8_read_120 : decode cX8_read 120 = .ok (.ifCond .eq 7, 3) := by decide +kernel
theorem dX8_read_123 : decode cX8_read 123 = .ok (.iconst 1, 1) := by decide +kernel
theorem dX8_read_124 : decode cX8_read 124 = .ok (.goto 4, 3) := by decide +kernel
theorem dX8_read_127 : decode cX8_read 127 = .ok (.iconst 0, 1) := by decide +kernel
theorem dX8_read_128 : decode cX8_read 128 = .ok (.invokevirtual 103, 3) := by decide +kernel
theorem dX8_read_131 : decode cX8_read 131 = .ok (.aload_n 0, 1) := by decide +kernel
theorem dX8_read_132 : decode cX8_read 132 = .ok (.getfield 96, 3) := by decide +kernel
theorem dX8_read_135 : decode cX8_read 135 = .ok (.ifCond .ne 35, 3) := by decide +kernel
theorem dX8_read_138 : decode cX8_read 138 = .ok (.aload_n 0, 1) := by decide +kernel
theorem dX8_read_139 : decode cX8_read 139 = .ok (.iload_n 1, 1) := by decide +kernel
theorem dX8_read_140 : decode cX8_read 140 = .ok (.invokevirtual 124, 3) := by decide +kernel
theorem dX8_read_143 : decode cX8_read 143 = .ok (.aload_n 0, 1) := by decide +kernel
theorem dX8_read_144 : decode cX8_read 144 = .ok (.aload_n 0, 1) := by decide +kernel
theorem dX8_read_145 : decode cX8_read 145 = .ok (.getfield 93, 3) := by decide +kernel
theorem dX8_read_148 : decode cX8_read 148 = .ok (.iconst 3, 1) := by decide +kernel
theorem dX8_read_149 : decode cX8_read 149 = .ok (.if_icmp .ne 7, 3) := by decide +kernel
theorem dX8_read_152 : decode cX8_read 152 = .ok (.iconst 1, 1) := by decide +kernel
theorem dX8_read_153 : decode cX8_read 153 = .ok (.goto 4, 3) := by decide +kernel
theorem dX8_read_156 : decode cX8_read 156 = .ok (.iconst 0, 1) := by decide +kernel
theorem dX8_read_157 : decode cX8_read 157 = .ok (.invokevirtual 103, 3) := by decide +kernel
theorem dX8_read_160 : decode cX8_read 160 = .ok (.aload_n 0, 1) := by decide +kernel
theorem dX8_read_161 : decode cX8_read 161 = .ok (.dup, 1) := by decide +kernel
theorem dX8_read_162 : decode cX8_read 162 = .ok (.getfield 117, 3) := by decide +kernel
theorem dX8_read_165 : decode cX8_read 165 = .ok (.iconst 1, 1) := by decide +kernel
theorem dX8_read_166 : decode cX8_read 166 = .ok (.iadd, 1) := by decide +kernel
theorem dX8_read_167 : decode cX8_read 167 = .ok (.putfield 117, 3) := by decide +kernel
theorem dX8_read_170 : decode cX8_read 170 = .ok (.goto (-96), 3) := by decide +kernel
theorem dX8_read_173 : decode cX8_read 173 = .ok (.return_, 1) := by decide +kernel
set_option maxRecDepth 20000 in
theorem ggX8_uplands_X8_read : GoodIn wsX8_uplands wsX8_read := goodIn_r _ [23, 24, 1, 18, 25, 3, 4, 5, 12, 13, 26, 27, 28, 29, 30, 22, 31, 2, 32, 33, 34, 35, 17, 36, 37, 38, 39, 40, 41, 42, 43, 44, 45, 46, 47, 48, 49, 50, 51, 7, 8, 9, 10, 11, 52, 53, 54, 55, 56, 57, 58, 59, 60, 61, 62, 63, 64, 65, 66, 67, 68, 69, 70, 71, 72, 73, 74, 75, 76, 77, 78, 79, 80, 81, 82, 83, 84, 85, 86, 87, 88, 89] (by decide +kernel) (by decide +kernel)
set_option maxRecDepth 20000 in
theorem gX8_uplands_X8_read : GoodIn wsX8_uplands (wsV RX8 128 RX8 yX8_read wsX8_read) := goodIn_app (goodIn_of _ (by decide +kernel)) ggX8_uplands_X8_read
theorem dX8_uplands_0 : decode cX8_uplands 0 = .ok (.aload_n 0, 1) := by decide +kernel
theorem dX8_uplands_1 : decode cX8_uplands 1 = .ok (.invokevirtual 128, 3) := by decide +kernel
theorem dX8_uplands_4 : decode cX8_uplands 4 = .ok (.aload_n 0, 1) := by decide +kernel
theorem dX8_uplands_5 : decode cX8_uplands 5 = .ok (.getfield 96, 3) := by decide +kernel
theorem dX8_uplands_8 : decode cX8_uplands 8 = .ok (.ifCond .eq 11, 3) := by decide +kernel
theorem dX8_uplands_11 : decode cX8_uplands 11 = .ok (.bipush (-10), 2) := by decide +kernel
theorem dX8_uplands_13 : decode cX8_uplands 13 = .ok (.aload_n 0, 1) := by decide +kernel
theorem dX8_uplands_14 : decode cX8_uplands 14 = .ok (.getfield 87, 3) := by decide +kernel
theorem dX8_uplands_17 : decode cX8_uplands 17 = .ok (.isub, 1) := by decide +kernel
theorem dX8_uplands_18 : decode cX8_uplands 18 = .ok (.ireturn, 1) := by decide +kernel
theorem dX8_uplands_19 : decode cX8_uplands 19 = .ok (.aload_n 0, 1) := by decide +kernel
theorem dX8_uplands_20 : decode cX8_uplands 20 = .ok (.getfield 13, 3) := by decide +kernel
theorem dX8_uplands_23 : decode cX8_uplands 23 = .ok (.iconst 0, 1) := by decide +kernel
theorem dX8_uplands_24 : decode cX8_uplands 24 = .ok (.aload_n 0, 1) := by decide +kernel
theorem dX8_uplands_25 : decode cX8_uplands 25 = .ok (.getfield 13, 3) := by decide +kernel
theorem dX8_uplands_28 : decode cX8_uplands 28 = .ok (.iconst 1, 1) := by decide +kernel
theorem dX8_uplands_29 : decode cX8_uplands 29 = .ok (.iaload, 1) := by decide +kernel
theorem dX8_uplands_30 : decode cX8_uplands 30 = .ok (.iastore, 1) := by decide +kernel
theorem dX8_uplands_31 : decode cX8_uplands 31 = .ok (.aload_n 0, 1) := by decide +kernel
theorem dX8_uplands_32 : decode cX8_uplands 32 = .ok (.getfield 23, 3) := by decide +kernel
theorem dX8_uplands_35 : decode cX8_uplands 35 = .ok (.iconst 0, 1) := by decide +kernel
theorem dX8_uplands_36 : decode cX8_uplands 36 = .ok (.aload_n 0, 1) := by decide +kernel
theorem dX8_uplands_37 : decode cX8_uplands 37 = .ok (.getfield 23, 3) := by decide +kernel
theorem dX8_uplands_40 : decode cX8_uplands 40 = .ok (.iconst 1, 1) := by decide +kernel
theorem dX8_uplands_41 : decode cX8_uplands 41 = .ok (.iaload, 1) := by decide +kernel
theorem dX8_uplands_42 : decode cX8_uplands 42 = .ok (.iastore, 1) := by decide +kernel
theorem dX8_uplands_43 : decode cX8_uplands 43 = .ok (.aload_n 0, 1) := by decide +kernel
theorem dX8_uplands_44 : decode cX8_uplands 44 = .ok (.getfield 35, 3) := by decide +kernel
theorem dX8_uplands_47 : decode cX8_uplands 47 = .ok (.iconst 0, 1) := by decide +kernel
theorem dX8_uplands_48 : decode cX8_uplands 48 = .ok (.aload_n 0, 1) := by decide +kernel
theorem dX8_uplands_49 : decode cX8_uplands 49 = .ok (.getfield 35, 3) := by decide +kernel
theorem dX8_uplands_52 : decode cX8_uplands 52 = .ok (.iconst 1, 1) := by decide +kernel
theorem dX8_uplands_53 : decode cX8_uplands 53 = .ok (.iaload, 1) := by decide +kernel
theorem dX8_uplands_54 : decode cX8_uplands 54 = .ok (.iastore, 1) := by decide +kernel
theorem dX8_uplands_55 : decode cX8_uplands 55 = .ok (.iconst 0, 1) := by decide +kernel
theorem dX8_uplands_56 : decode cX8_uplands 56 = .ok (.istore_n 1, 1) := by decide +kernel
theorem dX8_uplands_57 : decode cX8_uplands 57 = .ok (.iload_n 1, 1) := by decide +kernel
theorem dX8_uplands_58 : decode cX8_uplands 58 = .ok (.bipush 29, 2) := by decide +kernel
theorem dX8_uplands_60 : decode cX8_uplands 60 = .ok (.if_icmp .ge 16, 3) := by decide +kernel
theorem dX8_uplands_63 : decode cX8_uplands 63 = .ok (.aload_n 0, 1) := by decide +kernel
theorem dX8_uplands_64 : decode cX8_uplands 64 = .ok (.getfield 44, 3) := by decide +kernel
theorem dX8_uplands_67 : decode cX8_uplands 67 = .ok (.iload_n 1, 1) := by decide +kernel
theorem dX8_uplands_68 : decode cX8_uplands 68 = .ok (.iconst 0, 1) := by decide +kernel
theorem dX8_uplands_69 : decode cX8_uplands 69 = .ok (.iastore, 1) := by decide +kernel
theorem dX8_uplands_70 : decode cX8_uplands 70 = .ok (.iinc 1 1, 3) := by decide +kernel
theorem dX8_uplands_73 : decode cX8_uplands 73 = .ok (.goto (-16), 3) := by decide +kernel
theorem dX8_uplands_76 : decode cX8_uplands 76 = .ok (.iconst 0, 1) := by decide +kernel
theorem dX8_uplands_77 : decode cX8_uplands 77 = .ok (.istore_n 1, 1) := by decide +kernel
theorem dX8_uplands_78 : decode cX8_uplands 78 = .ok (.iload_n 1, 1) := by decide +kernel
theorem dX8_uplands_79 : decode cX8_uplands 79 = .ok (.bipush 6, 2) := by decide +kernel
theorem dX8_uplands_81 : decode cX8_uplands 81 = .ok (.if_icmp .ge 39, 3) := by decide +kernel
theorem dX8_uplands_84 : decode cX8_uplands 84 = .ok (.aload_n 0, 1) := by decide +kernel
theorem dX8_uplands_85 : decode cX8_uplands 85 = .ok (.getfield 17, 3) := by decide +kernel
theorem dX8_uplands_88 : decode cX8_uplands 88 = .ok (.iload_n 1, 1) := by decide +kernel
theorem dX8_uplands_89 : decode cX8_uplands 89 = .ok (.aload_n 0, 1) := by decide +kernel
theorem dX8_uplands_90 : decode cX8_uplands 90 = .ok (.getfield 17, 3) := by decide +kernel
theorem dX8_uplands_93 : decode cX8_uplands 93 = .ok (.bipush 6, 2) := by decide +kernel
theorem dX8_uplands_95 : decode cX8_uplands 95 = .ok (.iload_n 1, 1) := by decide +kernel
theorem dX8_uplands_96 : decode cX8_uplands 96 = .ok (.iadd, 1) := by decide +kernel
theorem dX8_uplands_97 : decode cX8_uplands 97 = .ok (.iaload, 1) := by decide +kernel
theorem dX8_uplands_98 : decode cX8_uplands 98 = .ok (.iastore, 1) := by decide +kernel
theorem dX8_uplands_99 : decode cX8_uplands 99 = .ok (.aload_n 0, 1) := by decide +kernel
theorem dX8_uplands_100 : decode cX8_uplands 100 = .ok (.getfield 20, 3) := by decide +kernel
theorem dX8_uplands_103 : decode cX8_uplands 103 = .ok (.iload_n 1, 1) := by decide +kernel
theorem dX8_uplands_104 : decode cX8_uplands 104 = .ok (.aload_n 0, 1) := by decide +kernel
theorem dX8_uplands_105 : decode cX8_uplands 105 = .ok (.getfield 20, 3) := by decide +kernel
theorem dX8_uplands_108 : decode cX8_uplands 108 = .ok (.bipush 6, 2) := by decide +kernel
theorem dX8_uplands_110 : decode cX8_uplands 110 = .ok (.iload_n 1, 1) := by decide +kernel
theorem dX8_uplands_111 : decode cX8_uplands 111 = .ok (.iadd, 1) := by decide +kernel
theorem dX8_uplands_112 : decode cX8_uplands 112 = .ok (.iaload, 1) := by decide +kernel
theorem dX8_uplands_113 : decode cX8_uplands 113 = .ok (.iastore, 1) := by decide +kernel
theorem dX8_uplands_114 : decode cX8_uplands 114 = .ok (.iinc 1 1, 3) := by decide +kernel
theorem dX8_uplands_117 : decode cX8_uplands 117 = .ok (.goto (-39), 3) := by decide +kernel
theorem dX8_uplands_120 : decode cX8_uplands 120 = .ok (.iconst 0, 1) := by decide +kernel
theorem dX8_uplands_121 : decode cX8_uplands 121 = .ok (.istore_n 1, 1) := by decide +kernel
theorem dX8_uplands_122 : decode cX8_uplands 122 = .ok (.iload_n 1, 1) := by decide +kernel
theorem dX8_uplands_123 : decode cX8_uplands 123 = .ok (.bipush 6, 2) := by decide +kernel
theorem dX8_uplands_125 : decode cX8_uplands 125 = .ok (.if_icmp .ge 85, 3) := by decide +kernel
theorem dX8_uplands_128 : decode cX8_uplands 128 = .ok (.aload_n 0, 1) := by decide +kernel
theorem dX8_uplands_129 : decode cX8_uplands 129 = .ok (.getfield 26, 3) := by decide +kernel
theorem dX8_uplands_132 : decode cX8_uplands 132 = .ok (.iload_n 1, 1) := by decide +kernel
theorem dX8_uplands_133 : decode cX8_uplands 133 = .ok (.aload_n 0, 1) := by decide +kernel
theorem dX8_uplands_134 : decode cX8_uplands 134 = .ok (.getfield 26, 3) := by decide +kernel
theorem dX8_uplands_137 : decode cX8_uplands 137 = .ok (.bipush 6, 2) := by decide +kernel
theorem dX8_uplands_139 : decode cX8_uplands 139 = .ok (.iload_n 1, 1) := by decide +kernel
theorem dX8_uplands_140 : decode cX8_uplands 140 = .ok (.iadd, 1) := by decide +kernel
theorem dX8_uplands_141 : decode cX8_uplands 141 = .ok (.iaload, 1) := by decide +kernel
theorem dX8_uplands_142 : decode cX8_uplands 142 = .ok (.iastore, 1) := by decide +kernel
theorem dX8_uplands_143 : decode cX8_uplands 143 = .ok (.aload_n 0, 1) := by decide +kernel
theorem dX8_uplands_144 : decode cX8_uplands 144 = .ok (.getfield 29, 3) := by decide +kernel
theorem dX8_uplands_147 : decode cX8_uplands 147 = .ok (.iload_n 1, 1) := by decide +kernel
theorem dX8_uplands_148 : decode cX8_uplands 148 = .ok (.aload_n 0, 1) := by decide +kernel
theorem dX8_uplands_149 : decode cX8_uplands 149 = .ok (.getfield 29, 3) := by decide +kernel
theorem dX8_uplands_152 : decode cX8_uplands 152 = .ok (.bipush 6, 2) := by decide +kernel
theorem dX8_uplands_154 : decode cX8_uplands 154 = .ok (.iload_n 1, 1) := by decide +kernel
theorem dX8_uplands_155 : decode cX8_uplands 155 = .ok (.iadd, 1) := by decide +kernel
theorem dX8_uplands_156 : decode cX8_uplands 156 = .ok (.iaload, 1) := by decide +kernel
theorem dX8_uplands_157 : decode cX8_uplands 157 = .ok (.iastore, 1) := by decide +kernel
theorem dX8_uplands_158 : decode cX8_uplands 158 = .ok (.aload_n 0, 1) := by decide +kernel
theorem dX8_uplands_159 : decode cX8_uplands 159 = .ok (.getfield 32, 3) := by decide +kernel
theorem dX8_uplands_162 : decode cX8_uplands 162 = .ok (.iload_n 1, 1) := by decide +kernel
theorem dX8_uplands_163 : decode cX8_uplands 163 = .ok (.aload_n 0, 1) := by decide +kernel
theorem dX8_uplands_164 : decode cX8_uplands 164 = .ok (.getfield 32, 3) := by decide +kernel
theorem dX8_uplands_167 : decode cX8_uplands 167 = .ok (.bipush 6, 2) := by decide +kernel
theorem dX8_uplands_169 : decode cX8_uplands 169 = .ok (.iload_n 1, 1) := by decide +kernel
theorem dX8_uplands_170 : decode cX8_uplands 170 = .ok (.iadd, 1) := by decide +kernel
theorem dX8_uplands_171 : decode cX8_uplands 171 = .ok (.iaload, 1) := by decide +kernel
theorem dX8_uplands_172 : decode cX8_uplands 172 = .ok (.iastore, 1) := by decide +kernel
theorem dX8_uplands_173 : decode cX8_uplands 173 = .ok (.aload_n 0, 1) := by decide +kernel
theorem dX8_uplands_174 : decode cX8_uplands 174 = .ok (.getfield 44, 3) := by decide +kernel
theorem dX8_uplands_177 : decode cX8_uplands 177 = .ok (.bipush 6, 2) := by decide +kernel
theorem dX8_uplands_179 : decode cX8_uplands 179 = .ok (.iload_n 1, 1) := by decide +kernel
theorem dX8_uplands_180 : decode cX8_uplands 180 = .ok (.iadd, 1) := by decide +kernel
theorem dX8_uplands_181 : decode cX8_uplands 181 = .ok (.iload_n 1, 1) := by decide +kernel
theorem dX8_uplands_182 : decode cX8_uplands 182 = .ok (.aload_n 0, 1) := by decide +kernel
theorem dX8_uplands_183 : decode cX8_uplands 183 = .ok (.getfield 23, 3) := by decide +kernel
theorem dX8_uplands_186 : decode cX8_uplands 186 = .ok (.iconst 0, 1) := by decide +kernel
theorem dX8_uplands_187 : decode cX8_uplands 187 = .ok (.iaload, 1) := by decide +kernel
theorem dX8_uplands_188 : decode cX8_uplands 188 = .ok (.if_icmp .ge 14, 3) := by decide +kernel
theorem dX8_uplands_191 : decode cX8_uplands 191 = .ok (.iconst 1, 1) := by decide +kernel
theorem dX8_uplands_192 : decode cX8_uplands 192 = .ok (.aload_n 0, 1) := by decide +kernel
theorem dX8_uplands_193 : decode cX8_uplands 193 = .ok (.getfield 32, 3) := by decide +kernel
theorem dX8_uplands_196 : decode cX8_uplands 196 = .ok (.iload_n 1, 1) := by decide +kernel
theorem dX8_uplands_197 : decode cX8_uplands 197 = .ok (.iaload, 1) := by decide +kernel
theorem dX8_uplands_198 : decode cX8_uplands 198 = .ok (.ishl, 1) := by decide +kernel
theorem dX8_uplands_199 : decode cX8_uplands 199 = .ok (.goto 4, 3) := by decide +kernel
theorem dX8_uplands_202 : decode cX8_uplands 202 = .ok (.iconst 0, 1) := by decide +kernel
theorem dX8_uplands_203 : decode cX8_uplands 203 = .ok (.iastore, 1) := by decide +kernel
theorem dX8_uplands_204 : decode cX8_uplands 204 = .ok (.iinc 1 1, 3) := by decide +kernel
theorem dX8_uplands_207 : decode cX8_uplands 207 = .ok (.goto (-85), 3) := by decide +kernel
theorem dX8_uplands_210 : decode cX8_uplands 210 = .ok (.iconst 0, 1) := by decide +kernel
theorem dX8_uplands_211 : decode cX8_uplands 211 = .ok (.istore_n 1, 1) := by decide +kernel
theorem dX8_uplands_212 : decode cX8_uplands 212 = .ok (.iload_n 1, 1) := by decide +kernel
theorem dX8_uplands_213 : decode cX8_uplands 213 = .ok (.bipush 6, 2) := by decide +kernel
theorem dX8_uplands_215 : decode cX8_uplands 215 = .ok (.if_icmp .ge 24, 3) := by decide +kernel
theorem dX8_uplands_218 : decode cX8_uplands 218 = .ok (.aload_n 0, 1) := by decide +kernel
theorem dX8_uplands_219 : decode cX8_uplands 219 = .ok (.getfield 38, 3) := by decide +kernel
theorem dX8_uplands_222 : decode cX8_uplands 222 = .ok (.iload_n 1, 1) := by decide +kernel
theorem dX8_uplands_223 : decode cX8_uplands 223 = .ok (.aload_n 0, 1) := by decide +kernel
theorem dX8_uplands_224 : decode cX8_uplands 224 = .ok (.getfield 38, 3) := by decide +kernel
theorem dX8_uplands_227 : decode cX8_uplands 227 = .ok (.bipush 6, 2) := by decide +kernel
theorem dX8_uplands_229 : decode cX8_uplands 229 = .ok (.iload_n 1, 1) := by decide +kernel
theorem dX8_uplands_230 : decode cX8_uplands 230 = .ok (.iadd, 1) := by decide +kernel
theorem dX8_uplands_231 : decode cX8_uplands 231 = .ok (.iaload, 1) := by decide +kernel
theorem dX8_uplands_232 : decode cX8_uplands 232 = .ok (.iastore, 1) := by decide +kernel
theorem dX8_uplands_233 : decode cX8_uplands 233 = .ok (.iinc 1 1, 3) := by decide +kernel
theorem dX8_uplands_236 : decode cX8_uplands 236 = .ok (.goto (-24), 3) := by decide +kernel
theorem dX8_uplands_239 : decode cX8_uplands 239 = .ok (.iconst 0, 1) := by decide +kernel
theorem dX8_uplands_240 : decode cX8_uplands 240 = .ok (.istore_n 1, 1) := by decide +kernel
theorem dX8_uplands_241 : decode cX8_uplands 241 = .ok (.iload_n 1, 1) := by decide +kernel
theorem dX8_uplands_242 : decode cX8_uplands 242 = .ok (.iconst 4, 1) := by decide +kernel
theorem dX8_uplands_243 : decode cX8_uplands 243 = .ok (.if_icmp .ge 23, 3) := by decide +kernel
theorem dX8_uplands_246 : decode cX8_uplands 246 = .ok (.aload_n 0, 1) := by decide +kernel
theorem dX8_uplands_247 : decode cX8_uplands 247 = .ok (.getfield 44, 3) := by decide +kernel
theorem dX8_uplands_250 : decode cX8_uplands 250 = .ok (.iconst 2, 1) := by decide +kernel
theorem dX8_uplands_251 : decode cX8_uplands 251 = .ok (.iload_n 1, 1) := by decide +kernel
theorem dX8_uplands_252 : decode cX8_uplands 252 = .ok (.iadd, 1) := by decide +kernel
theorem dX8_uplands_253 : decode cX8_uplands 253 = .ok (.aload_n 0, 1) := by decide +kernel
theorem dX8_uplands_254 : decode cX8_uplands 254 = .ok (.getfield 41, 3) := by decide +kernel
theorem dX8_uplands_257 : decode cX8_uplands 257 = .ok (.iload_n 1, 1) := by decide +kernel
theorem dX8_uplands_258 : decode cX8_uplands 258 = .ok (.iaload, 1) := by decide +kernel
theorem dX8_uplands_259 : decode cX8_uplands 259 = .ok (.iastore, 1) := by decide +kernel
theorem dX8_uplands_260 : decode cX8_uplands 260 = .ok (.iinc 1 1, 3) := by decide +kernel
theorem dX8_uplands_263 : decode cX8_uplands 263 = .ok (.goto (-22), 3) := by decide +kernel
theorem dX8_uplands_266 : decode cX8_uplands 266 = .ok (.aload_n 0, 1) := by decide +kernel
theorem dX8_uplands_267 : decode cX8_uplands 267 = .ok (.getfield 47, 3) := by decide +kernel
theorem dX8_uplands_270 : decode cX8_uplands 270 = .ok (.iconst 0, 1) := by decide +kernel
theorem dX8_uplands_271 : decode cX8_uplands 271 = .ok (.iconst 0, 1) := by decide +kernel
theorem dX8_uplands_272 : decode cX8_uplands 272 = .ok (.iastore, 1) := by decide +kernel
theorem dX8_uplands_273 : decode cX8_uplands 273 = .ok (.aload_n 0, 1) := by decide +kernel
theorem dX8_uplands_274 : decode cX8_uplands 274 = .ok (.getfield 56, 3) := by decide +kernel
theorem dX8_uplands_277 : decode cX8_uplands 277 = .ok (.iconst 0, 1) := by decide +kernel
theorem dX8_uplands_278 : decode cX8_uplands 278 = .ok (.iconst 0, 1) := by decide +kernel
theorem dX8_uplands_279 : decode cX8_uplands 279 = .ok (.bastore, 1) := by decide +kernel
theorem dX8_uplands_280 : decode cX8_uplands 280 = .ok (.aload_n 0, 1) := by decide +kernel
theorem dX8_uplands_281 : decode cX8_uplands 281 = .ok (.getfield 56, 3) := by decide +kernel
theorem dX8_uplands_284 : decode cX8_uplands 284 = .ok (.iconst 1, 1) := by decide +kernel
theorem dX8_uplands_285 : decode cX8_uplands 285 = .ok (.iconst 0, 1) := by decide +kernel
theorem dX8_uplands_286 : decode cX8_uplands 286 = .ok (.bastore, 1) := by decide +kernel
theorem dX8_uplands_287 : decode cX8_uplands 287 = .ok (.aload_n 0, 1) := by decide +kernel
theorem dX8_uplands_288 : decode cX8_uplands 288 = .ok (.iconst 0, 1) := by decide +kernel
theorem dX8_uplands_289 : decode cX8_uplands 289 = .ok (.putfield 131, 3) := by decide +kernel
theorem dX8_uplands_292 : decode cX8_uplands 292 = .ok (.aload_n 0, 1) := by decide +kernel
theorem dX8_uplands_293 : decode cX8_uplands 293 = .ok (.iconst 0, 1) := by decide +kernel
theorem dX8_uplands_294 : decode cX8_uplands 294 = .ok (.putfield 76, 3) := by decide +kernel
theorem dX8_uplands_297 : decode cX8_uplands 297 = .ok (.aload_n 0, 1) := by decide +kernel
theorem dX8_uplands_298 : decode cX8_uplands 298 = .ok (.getfield 117, 3) := by decide +kernel
theorem dX8_uplands_301 : decode cX8_uplands 301 = .ok (.ireturn, 1) := by decide +kernel
set_option maxRecDepth 20000 in
theorem ggX8_isOne_X8_in : GoodIn wsX8_isOne wsX8_in := goodIn_r _ [5] (by decide +kernel) (by decide +kernel)
set_option maxRecDepth 20000 in
theorem gX8_isOne_X8_in : GoodIn wsX8_isOne (va_wsS RX8 72 yX8_in wsX8_in) := goodIn_app (goodIn_of _ (by decide +kernel)) ggX8_isOne_X8_in
theorem dX8_isOne_0 : decode cX8_isOne 0 = .ok (.iload_n 1, 1) := by decide +kernel
theorem dX8_isOne_1 : decode cX8_isOne 1 = .ok (.iconst 0, 1) := by decide +kernel
theorem dX8_isOne_2 : decode cX8_isOne 2 = .ok (.aload_n 0, 1) := by decide +kernel
theorem dX8_isOne_3 : decode cX8_isOne 3 = .ok (.getfield 13, 3) := by decide +kernel
theorem dX8_isOne_6 : decode cX8_isOne 6 = .ok (.iconst 0, 1) := by decide +kernel
theorem dX8_isOne_7 : decode cX8_isOne 7 = .ok (.iaload, 1) := by decide +kernel
theorem dX8_isOne_8 : decode cX8_isOne 8 = .ok (.iconst 1, 1) := by decide +kernel
theorem dX8_isOne_9 : decode cX8_isOne 9 = .ok (.isub, 1) := by decide +kernel
theorem dX8_isOne_10 : decode cX8_isOne 10 = .ok (.invokestatic 72, 3) := by decide +kernel
theorem dX8_isOne_13 : decode cX8_isOne 13 = .ok (.ireturn, 1) := by decide +kernel
set_option maxRecDepth 20000 in
theorem ggX8_isSaying_X8_in : GoodIn wsX8_isSaying wsX8_in := goodIn_r _ [5] (by decide +kernel) (by decide +kernel)
set_option maxRecDepth 20000 in
theorem gX8_isSaying_X8_in : GoodIn wsX8_isSaying (va_wsS RX8 72 yX8_in wsX8_in) := goodIn_app (goodIn_of _ (by decide +kernel)) ggX8_isSaying_X8_in
theorem dX8_isSaying_0 : decode cX8_isSaying 0 = .ok (.iload_n 1, 1) := by decide +kernel
theorem dX8_isSaying_1 : decode cX8_isSaying 1 = .ok (.iconst 0, 1) := by decide +kernel
theorem dX8_isSaying_2 : decode cX8_isSaying 2 = .ok (.aload_n 0, 1) := by decide +kernel
theorem dX8_isSaying_3 : decode cX8_isSaying 3 = .ok (.getfield 23, 3) := by decide +kernel
theorem dX8_isSaying_6 : decode cX8_isSaying 6 = .ok (.iconst 0, 1) := by decide +kernel
theorem dX8_isSaying_7 : decode cX8_isSaying 7 = .ok (.iaload, 1) := by decide +kernel
theorem dX8_isSaying_8 : decode cX8_isSaying 8 = .ok (.iconst 1, 1) := by decide +kernel
theorem dX8_isSaying_9 : decode cX8_isSaying 9 = .ok (.isub, 1) := by decide +kernel
theorem dX8_isSaying_10 : decode cX8_isSaying 10 = .ok (.invokestatic 72, 3) := by decide +kernel
theorem dX8_isSaying_13 : decode cX8_isSaying 13 = .ok (.ireturn, 1) := by decide +kernel
set_option maxRecDepth 20000 in
theorem ggX8_isShot_X8_in : GoodIn wsX8_isShot wsX8_in := goodIn_r _ [4] (by decide +kernel) (by decide +kernel)
set_option maxRecDepth 20000 in
theorem gX8_isShot_X8_in : GoodIn wsX8_isShot (va_wsS RX8 72 yX8_in wsX8_in) := goodIn_app (goodIn_of _ (by decide +kernel)) ggX8_isShot_X8_in
theorem dX8_isShot_0 : decode cX8_isShot 0 = .ok (.iload_n 0, 1) := by decide +kernel
theorem dX8_isShot_1 : decode cX8_isShot 1 = .ok (.iconst 0, 1) := by decide +kernel
theorem dX8_isShot_2 : decode cX8_isShot 2 = .ok (.iconst 3, 1) := by decide +kernel
theorem dX8_isShot_3 : decode cX8_isShot 3 = .ok (.invokestatic 72, 3) := by decide +kernel
theorem dX8_isShot_6 : decode cX8_isShot 6 = .ok (.ifCond .eq 25, 3) := by decide +kernel
theorem dX8_isShot_9 : decode cX8_isShot 9 = .ok (.iload_n 1, 1) := by decide +kernel
theorem dX8_isShot_10 : decode cX8_isShot 10 = .ok (.iconst 0, 1) := by decide +kernel
theorem dX8_isShot_11 : decode cX8_isShot 11 = .ok (.iconst 3, 1) := by decide +kernel
theorem dX8_isShot_12 : decode cX8_isShot 12 = .ok (.invokestatic 72, 3) := by decide +kernel
theorem dX8_isShot_15 : decode cX8_isShot 15 = .ok (.ifCond .eq 16, 3) := by decide +kernel
theorem dX8_isShot_18 : decode cX8_isShot 18 = .ok (.iload_n 2, 1) := by decide +kernel
theorem dX8_isShot_19 : decode cX8_isShot 19 = .ok (.iconst 0, 1) := by decide +kernel
theorem dX8_isShot_20 : decode cX8_isShot 20 = .ok (.iconst 1, 1) := by decide +kernel
theorem dX8_isShot_21 : decode cX8_isShot 21 = .ok (.invokestatic 72, 3) := by decide +kernel
theorem dX8_isShot_24 : decode cX8_isShot 24 = .ok (.ifCond .eq 7, 3) := by decide +kernel
theorem dX8_isShot_27 : decode cX8_isShot 27 = .ok (.iconst 1, 1) := by decide +kernel
theorem dX8_isShot_28 : decode cX8_isShot 28 = .ok (.goto 4, 3) := by decide +kernel
theorem dX8_isShot_31 : decode cX8_isShot 31 = .ok (.iconst 0, 1) := by decide +kernel
theorem dX8_isShot_32 : decode cX8_isShot 32 = .ok (.ireturn, 1) := by decide +kernel
theorem dX8_liftOf_0 : decode cX8_liftOf 0 = .ok (.iload_n 0, 1) := by decide +kernel
theorem dX8_liftOf_1 : decode cX8_liftOf 1 = .ok (.ifCond .ne 7, 3) := by decide +kernel
theorem dX8_liftOf_4 : decode cX8_liftOf 4 = .ok (.iconst 3, 1) := by decide +kernel
theorem dX8_liftOf_5 : decode cX8_liftOf 5 = .ok (.goto 23, 3) := by decide +kernel
theorem dX8_liftOf_8 : decode cX8_liftOf 8 = .ok (.iload_n 0, 1) := by decide +kernel
theorem dX8_liftOf_9 : decode cX8_liftOf 9 = .ok (.iconst 1, 1) := by decide +kernel
theorem dX8_liftOf_10 : decode cX8_liftOf 10 = .ok (.if_icmp .ne 8, 3) := by decide +kernel
theorem dX8_liftOf_13 : decode cX8_liftOf 13 = .ok (.bipush 6, 2) := by decide +kernel
theorem dX8_liftOf_15 : decode cX8_liftOf 15 = .ok (.goto 13, 3) := by decide +kernel
theorem dX8_liftOf_18 : decode cX8_liftOf 18 = .ok (.iload_n 0, 1) := by decide +kernel
theorem dX8_liftOf_19 : decode cX8_liftOf 19 = .ok (.iconst 2, 1) := by decide +kernel
theorem dX8_liftOf_20 : decode cX8_liftOf 20 = .ok (.if_icmp .ne 7, 3) := by decide +kernel
theorem dX8_liftOf_23 : decode cX8_liftOf 23 = .ok (.iconst 4, 1) := by decide +kernel
theorem dX8_liftOf_24 : decode cX8_liftOf 24 = .ok (.goto 4, 3) := by decide +kernel
theorem dX8_liftOf_27 : decode cX8_liftOf 27 = .ok (.iconst 2, 1) := by decide +kernel
theorem dX8_liftOf_28 : decode cX8_liftOf 28 = .ok (.ireturn, 1) := by decide +kernel
set_option maxRecDepth 20000 in
theorem ggX8_landsBy_X8_liftOf : GoodIn wsX8_landsBy wsX8_liftOf := goodIn_r _ [8] (by decide +kernel) (by decide +kernel)
set_option maxRecDepth 20000 in
theorem gX8_landsBy_X8_liftOf : GoodIn wsX8_landsBy (va_wsS RX8 134 yX8_liftOf wsX8_liftOf) := goodIn_app (goodIn_of _ (by decide +kernel)) ggX8_landsBy_X8_liftOf
set_option maxRecDepth 20000 in
theorem ggX8_landsBy_X8_in : GoodIn wsX8_landsBy wsX8_in := goodIn_r _ [11] (by decide +kernel) (by decide +kernel)
set_option maxRecDepth 20000 in
theorem gX8_landsBy_X8_in : GoodIn wsX8_landsBy (va_wsS RX8 72 yX8_in wsX8_in) := goodIn_app (goodIn_of _ (by decide +kernel)) ggX8_landsBy_X8_in
theorem dX8_landsBy_0 : decode cX8_landsBy 0 = .ok (.iload 4, 2) := by decide +kernel
theorem dX8_landsBy_2 : decode cX8_landsBy 2 = .ok (.iload_n 3, 1) := by decide +kernel
theorem dX8_landsBy_3 : decode cX8_landsBy 3 = .ok (.invokestatic 134, 3) := by decide +kernel
theorem dX8_landsBy_6 : decode cX8_landsBy 6 = .ok (.imul, 1) := by decide +kernel
theorem dX8_landsBy_7 : decode cX8_landsBy 7 = .ok (.aload_n 0, 1) := by decide +kernel
theorem dX8_landsBy_8 : decode cX8_landsBy 8 = .ok (.getfield 29, 3) := by decide +kernel
theorem dX8_landsBy_11 : decode cX8_landsBy 11 = .ok (.iload_n 2, 1) := by decide +kernel
theorem dX8_landsBy_12 : decode cX8_landsBy 12 = .ok (.iaload, 1) := by decide +kernel
theorem dX8_landsBy_13 : decode cX8_landsBy 13 = .ok (.iadd, 1) := by decide +kernel
theorem dX8_landsBy_14 : decode cX8_landsBy 14 = .ok (.aload_n 0, 1) := by decide +kernel
theorem dX8_landsBy_15 : decode cX8_landsBy 15 = .ok (.getfield 26, 3) := by decide +kernel
theorem dX8_landsBy_18 : decode cX8_landsBy 18 = .ok (.iload_n 2, 1) := by decide +kernel
theorem dX8_landsBy_19 : decode cX8_landsBy 19 = .ok (.iaload, 1) := by decide +kernel
theorem dX8_landsBy_20 : decode cX8_landsBy 20 = .ok (.isub, 1) := by decide +kernel
theorem dX8_landsBy_21 : decode cX8_landsBy 21 = .ok (.iload_n 3, 1) := by decide +kernel
theorem dX8_landsBy_22 : decode cX8_landsBy 22 = .ok (.iconst 2, 1) := by decide +kernel
theorem dX8_landsBy_23 : decode cX8_landsBy 23 = .ok (.if_icmp .ne 7, 3) := by decide +kernel
theorem dX8_landsBy_26 : decode cX8_landsBy 26 = .ok (.iconst 0, 1) := by decide +kernel
theorem dX8_landsBy_27 : decode cX8_landsBy 27 = .ok (.goto 9, 3) := by decide +kernel
theorem dX8_landsBy_30 : decode cX8_landsBy 30 = .ok (.aload_n 0, 1) := by decide +kernel
theorem dX8_landsBy_31 : decode cX8_landsBy 31 = .ok (.getfield 44, 3) := by decide +kernel
theorem dX8_landsBy_34 : decode cX8_landsBy 34 = .ok (.iconst 1, 1) := by decide +kernel
theorem dX8_landsBy_35 : decode cX8_landsBy 35 = .ok (.iaload, 1) := by decide +kernel
theorem dX8_landsBy_36 : decode cX8_landsBy 36 = .ok (.isub, 1) := by decide +kernel
theorem dX8_landsBy_37 : decode cX8_landsBy 37 = .ok (.istore 7, 2) := by decide +kernel
theorem dX8_landsBy_39 : decode cX8_landsBy 39 = .ok (.iload 4, 2) := by decide +kernel
theorem dX8_landsBy_41 : decode cX8_landsBy 41 = .ok (.ifCond .ne 12, 3) := by decide +kernel
theorem dX8_landsBy_44 : decode cX8_landsBy 44 = .ok (.aload_n 0, 1) := by decide +kernel
theorem dX8_landsBy_45 : decode cX8_landsBy 45 = .ok (.getfield 29, 3) := by decide +kernel
theorem dX8_landsBy_48 : decode cX8_landsBy 48 = .ok (.iload_n 2, 1) := by decide +kernel
theorem dX8_landsBy_49 : decode cX8_landsBy 49 = .ok (.iaload, 1) := by decide +kernel
theorem dX8_landsBy_50 : decode cX8_landsBy 50 = .ok (.goto 14, 3) := by decide +kernel
theorem dX8_landsBy_53 : decode cX8_landsBy 53 = .ok (.iload 7, 2) := by decide +kernel
theorem dX8_landsBy_55 : decode cX8_landsBy 55 = .ok (.ifCond .ge 7, 3) := by decide +kernel
theorem dX8_landsBy_58 : decode cX8_landsBy 58 = .ok (.iconst 0, 1) := by decide +kernel
theorem dX8_landsBy_59 : decode cX8_landsBy 59 = .ok (.goto 5, 3) := by decide +kernel
theorem dX8_landsBy_62 : decode cX8_landsBy 62 = .ok (.iload 7, 2) := by decide +kernel
theorem dX8_landsBy_64 : decode cX8_landsBy 64 = .ok (.istore 7, 2) := by decide +kernel
theorem dX8_landsBy_66 : decode cX8_landsBy 66 = .ok (.iload 4, 2) := by decide +kernel
theorem dX8_landsBy_68 : decode cX8_landsBy 68 = .ok (.ifCond .ne 16, 3) := by decide +kernel
theorem dX8_landsBy_71 : decode cX8_landsBy 71 = .ok (.iload 5, 2) := by decide +kernel
theorem dX8_landsBy_73 : decode cX8_landsBy 73 = .ok (.ifCond .ne 7, 3) := by decide +kernel
theorem dX8_landsBy_76 : decode cX8_landsBy 76 = .ok (.iconst 1, 1) := by decide +kernel
theorem dX8_landsBy_77 : decode cX8_landsBy 77 = .ok (.goto 18, 3) := by decide +kernel
theorem dX8_landsBy_80 : decode cX8_landsBy 80 = .ok (.iconst 0, 1) := by decide +kernel
theorem dX8_landsBy_81 : decode cX8_landsBy 81 = .ok (.goto 14, 3) := by decide +kernel
theorem dX8_landsBy_84 : decode cX8_landsBy 84 = .ok (.iload 5, 2) := by decide +kernel
theorem dX8_landsBy_86 : decode cX8_landsBy 86 = .ok (.iconst 1, 1) := by decide +kernel
theorem dX8_landsBy_87 : decode cX8_landsBy 87 = .ok (.if_icmp .ne 7, 3) := by decide +kernel
theorem dX8_landsBy_90 : decode cX8_landsBy 90 = .ok (.iconst 1, 1) := by decide +kernel
theorem dX8_landsBy_91 : decode cX8_landsBy 91 = .ok (.goto 4, 3) := by decide +kernel
theorem dX8_landsBy_94 : decode cX8_landsBy 94 = .ok (.iconst 0, 1) := by decide +kernel
theorem dX8_landsBy_95 : decode cX8_landsBy 95 = .ok (.istore 8, 2) := by decide +kernel
theorem dX8_landsBy_97 : decode cX8_landsBy 97 = .ok (.iload 7, 2) := by decide +kernel
theorem dX8_landsBy_99 : decode cX8_landsBy 99 = .ok (.ifCond .le 17, 3) := by decide +kernel
theorem dX8_landsBy_102 : decode cX8_landsBy 102 = .ok (.iload 4, 2) := by decide +kernel
theorem dX8_landsBy_104 : decode cX8_landsBy 104 = .ok (.ifCond .eq 8, 3) := by decide +kernel
theorem dX8_landsBy_107 : decode cX8_landsBy 107 = .ok (.iload_n 3, 1) := by decide +kernel
theorem dX8_landsBy_108 : decode cX8_landsBy 108 = .ok (.iconst 3, 1) := by decide +kernel
theorem dX8_landsBy_109 : decode cX8_landsBy 109 = .ok (.if_icmp .eq 7, 3) := by decide +kernel
theorem dX8_landsBy_112 : decode cX8_landsBy 112 = .ok (.iconst 1, 1) := by decide +kernel
theorem dX8_landsBy_113 : decode cX8_landsBy 113 = .ok (.goto 4, 3) := by decide +kernel
theorem dX8_landsBy_116 : decode cX8_landsBy 116 = .ok (.iconst 0, 1) := by decide +kernel
theorem dX8_landsBy_117 : decode cX8_landsBy 117 = .ok (.istore 9, 2) := by decide +kernel
theorem dX8_landsBy_119 : decode cX8_landsBy 119 = .ok (.aload_n 0, 1) := by decide +kernel
theorem dX8_landsBy_120 : decode cX8_landsBy 120 = .ok (.getfield 17, 3) := by decide +kernel
theorem dX8_landsBy_123 : decode cX8_landsBy 123 = .ok (.iload_n 1, 1) := by decide +kernel
theorem dX8_landsBy_124 : decode cX8_landsBy 124 = .ok (.iaload, 1) := by decide +kernel
theorem dX8_landsBy_125 : decode cX8_landsBy 125 = .ok (.iload 8, 2) := by decide +kernel
theorem dX8_landsBy_127 : decode cX8_landsBy 127 = .ok (.ifCond .eq 8, 3) := by decide +kernel
theorem dX8_landsBy_130 : decode cX8_landsBy 130 = .ok (.iload 7, 2) := by decide +kernel
theorem dX8_landsBy_132 : decode cX8_landsBy 132 = .ok (.goto 6, 3) := by decide +kernel
theorem dX8_landsBy_135 : decode cX8_landsBy 135 = .ok (.iload 7, 2) := by decide +kernel
theorem dX8_landsBy_137 : decode cX8_landsBy 137 = .ok (.ineg, 1) := by decide +kernel
theorem dX8_landsBy_138 : decode cX8_landsBy 138 = .ok (.iadd, 1) := by decide +kernel
theorem dX8_landsBy_139 : decode cX8_landsBy 139 = .ok (.iload 9, 2) := by decide +kernel
theorem dX8_landsBy_141 : decode cX8_landsBy 141 = .ok (.ifCond .eq 8, 3) := by decide +kernel
theorem dX8_landsBy_144 : decode cX8_landsBy 144 = .ok (.iload 6, 2) := by decide +kernel
theorem dX8_landsBy_146 : decode cX8_landsBy 146 = .ok (.goto 4, 3) := by decide +kernel
theorem dX8_landsBy_149 : decode cX8_landsBy 149 = .ok (.iconst 0, 1) := by decide +kernel
theorem dX8_landsBy_150 : decode cX8_landsBy 150 = .ok (.iadd, 1) := by decide +kernel
theorem dX8_landsBy_151 : decode cX8_landsBy 151 = .ok (.istore 10, 2) := by decide +kernel
theorem dX8_landsBy_153 : decode cX8_landsBy 153 = .ok (.iload 10, 2) := by decide +kernel
theorem dX8_landsBy_155 : decode cX8_landsBy 155 = .ok (.iconst 0, 1) := by decide +kernel
theorem dX8_landsBy_156 : decode cX8_landsBy 156 = .ok (.bipush 30, 2) := by decide +kernel
theorem dX8_landsBy_158 : decode cX8_landsBy 158 = .ok (.invokestatic 72, 3) := by decide +kernel
theorem dX8_landsBy_161 : decode cX8_landsBy 161 = .ok (.ifCond .eq 8, 3) := by decide +kernel
theorem dX8_landsBy_164 : decode cX8_landsBy 164 = .ok (.iload 10, 2) := by decide +kernel
theorem dX8_landsBy_166 : decode cX8_landsBy 166 = .ok (.goto 5, 3) := by decide +kernel
theorem dX8_landsBy_169 : decode cX8_landsBy 169 = .ok (.bipush (-9), 2) := by decide +kernel
theorem dX8_landsBy_171 : decode cX8_landsBy 171 = .ok (.ireturn, 1) := by decide +kernel
theorem dX8_windIn_0 : decode cX8_windIn 0 = .ok (.aload_n 0, 1) := by decide +kernel
theorem dX8_windIn_1 : decode cX8_windIn 1 = .ok (.getfield 38, 3) := by decide +kernel
theorem dX8_windIn_4 : decode cX8_windIn 4 = .ok (.aload_n 0, 1) := by decide +kernel
theorem dX8_windIn_5 : decode cX8_windIn 5 = .ok (.getfield 44, 3) := by decide +kernel
theorem dX8_windIn_8 : decode cX8_windIn 8 = .ok (.iconst 0, 1) := by decide +kernel
theorem dX8_windIn_9 : decode cX8_windIn 9 = .ok (.iaload, 1) := by decide +kernel
theorem dX8_windIn_10 : decode cX8_windIn 10 = .ok (.iload_n 1, 1) := by decide +kernel
theorem dX8_windIn_11 : decode cX8_windIn 11 = .ok (.iadd, 1) := by decide +kernel
theorem dX8_windIn_12 : decode cX8_windIn 12 = .ok (.aload_n 0, 1) := by decide +kernel
theorem dX8_windIn_13 : decode cX8_windIn 13 = .ok (.getfield 35, 3) := by decide +kernel
theorem dX8_windIn_16 : decode cX8_windIn 16 = .ok (.iconst 0, 1) := by decide +kernel
theorem dX8_windIn_17 : decode cX8_windIn 17 = .ok (.iaload, 1) := by decide +kernel
theorem dX8_windIn_18 : decode cX8_windIn 18 = .ok (.irem, 1) := by decide +kernel
theorem dX8_windIn_19 : decode cX8_windIn 19 = .ok (.iaload, 1) := by decide +kernel
theorem dX8_windIn_20 : decode cX8_windIn 20 = .ok (.ireturn, 1) := by decide +kernel
theorem dX8_doesHear_0 : decode cX8_doesHear 0 = .ok (.aload_n 0, 1) := by decide +kernel
theorem dX8_doesHear_1 : decode cX8_doesHear 1 = .ok (.getfield 17, 3) := by decide +kernel
theorem dX8_doesHear_4 : decode cX8_doesHear 4 = .ok (.iload_n 1, 1) := by decide +kernel
theorem dX8_doesHear_5 : decode cX8_doesHear 5 = .ok (.iaload, 1) := by decide +kernel
theorem dX8_doesHear_6 : decode cX8_doesHear 6 = .ok (.iload_n 2, 1) := by decide +kernel
theorem dX8_doesHear_7 : decode cX8_doesHear 7 = .ok (.if_icmp .le 14, 3) := by decide +kernel
theorem dX8_doesHear_10 : decode cX8_doesHear 10 = .ok (.aload_n 0, 1) := by decide +kernel
theorem dX8_doesHear_11 : decode cX8_doesHear 11 = .ok (.getfield 17, 3) := by decide +kernel
theorem dX8_doesHear_14 : decode cX8_doesHear 14 = .ok (.iload_n 1, 1) := by decide +kernel
theorem dX8_doesHear_15 : decode cX8_doesHear 15 = .ok (.iaload, 1) := by decide +kernel
theorem dX8_doesHear_16 : decode cX8_doesHear 16 = .ok (.iload_n 2, 1) := by decide +kernel
theorem dX8_doesHear_17 : decode cX8_doesHear 17 = .ok (.isub, 1) := by decide +kernel
theorem dX8_doesHear_18 : decode cX8_doesHear 18 = .ok (.goto 11, 3) := by decide +kernel
theorem dX8_doesHear_21 : decode cX8_doesHear 21 = .ok (.iload_n 2, 1) := by decide +kernel
theorem dX8_doesHear_22 : decode cX8_doesHear 22 = .ok (.aload_n 0, 1) := by decide +kernel
theorem dX8_doesHear_23 : decode cX8_doesHear 23 = .ok (.getfield 17, 3) := by decide +kernel
theorem dX8_doesHear_26 : decode cX8_doesHear 26 = .ok (.iload_n 1, 1) := by decide +kernel
theorem dX8_doesHear_27 : decode cX8_doesHear 27 = .ok (.iaload, 1) := by decide +kernel
theorem dX8_doesHear_28 : decode cX8_doesHear 28 = .ok (.isub, 1) := by decide +kernel
theorem dX8_doesHear_29 : decode cX8_doesHear 29 = .ok (.istore_n 3, 1) := by decide +kernel
theorem dX8_doesHear_30 : decode cX8_doesHear 30 = .ok (.iload_n 2, 1) := by decide +kernel
theorem dX8_doesHear_31 : decode cX8_doesHear 31 = .ok (.bipush (-9), 2) := by decide +kernel
theorem dX8_doesHear_33 : decode cX8_doesHear 33 = .ok (.if_icmp .eq 17, 3) := by decide +kernel
theorem dX8_doesHear_36 : decode cX8_doesHear 36 = .ok (.iload_n 3, 1) := by decide +kernel
theorem dX8_doesHear_37 : decode cX8_doesHear 37 = .ok (.aload_n 0, 1) := by decide +kernel
theorem dX8_doesHear_38 : decode cX8_doesHear 38 = .ok (.getfield 20, 3) := by decide +kernel
theorem dX8_doesHear_41 : decode cX8_doesHear 41 = .ok (.iload_n 1, 1) := by decide +kernel
theorem dX8_doesHear_42 : decode cX8_doesHear 42 = .ok (.iaload, 1) := by decide +kernel
theorem dX8_doesHear_43 : decode cX8_doesHear 43 = .ok (.if_icmp .gt 7, 3) := by decide +kernel
theorem dX8_doesHear_46 : decode cX8_doesHear 46 = .ok (.iconst 1, 1) := by decide +kernel
theorem dX8_doesHear_47 : decode cX8_doesHear 47 = .ok (.goto 4, 3) := by decide +kernel
theorem dX8_doesHear_50 : decode cX8_doesHear 50 = .ok (.iconst 0, 1) := by decide +kernel
theorem dX8_doesHear_51 : decode cX8_doesHear 51 = .ok (.ireturn, 1) := by decide +kernel
set_option maxRecDepth 20000 in
theorem ggX8_hearersOf_X8_doesHear : GoodIn wsX8_hearersOf wsX8_doesHear := goodIn_r _ [6, 7, 8, 9, 10, 11, 12, 13, 14, 15, 16, 17, 18, 19, 20, 21, 22, 23, 24, 25, 26, 27, 28, 29, 30, 31, 32, 33, 34, 35, 36, 37, 38] (by decide +kernel) (by decide +kernel)
set_option maxRecDepth 20000 in
theorem gX8_hearersOf_X8_doesHear : GoodIn wsX8_hearersOf (wsV RX8 138 RX8 yX8_doesHear wsX8_doesHear) := goodIn_app (goodIn_of _ (by decide +kernel)) ggX8_hearersOf_X8_doesHear
theorem dX8_hearersOf_0 : decode cX8_hearersOf 0 = .ok (.iconst 0, 1) := by decide +kernel
theorem dX8_hearersOf_1 : decode cX8_hearersOf 1 = .ok (.istore_n 3, 1) := by decide +kernel
theorem dX8_hearersOf_2 : decode cX8_hearersOf 2 = .ok (.iconst 0, 1) := by decide +kernel
theorem dX8_hearersOf_3 : decode cX8_hearersOf 3 = .ok (.istore 4, 2) := by decide +kernel
theorem dX8_hearersOf_5 : decode cX8_hearersOf 5 = .ok (.iload 4, 2) := by decide +kernel
theorem dX8_hearersOf_7 : decode cX8_hearersOf 7 = .ok (.aload_n 0, 1) := by decide +kernel
theorem dX8_hearersOf_8 : decode cX8_hearersOf 8 = .ok (.getfield 13, 3) := by decide +kernel
theorem dX8_hearersOf_11 : decode cX8_hearersOf 11 = .ok (.iconst 0, 1) := by decide +kernel
theorem dX8_hearersOf_12 : decode cX8_hearersOf 12 = .ok (.iaload, 1) := by decide +kernel
theorem dX8_hearersOf_13 : decode cX8_hearersOf 13 = .ok (.if_icmp .ge 36, 3) := by decide +kernel
theorem dX8_hearersOf_16 : decode cX8_hearersOf 16 = .ok (.iload_n 3, 1) := by decide +kernel
theorem dX8_hearersOf_17 : decode cX8_hearersOf 17 = .ok (.iload 4, 2) := by decide +kernel
theorem dX8_hearersOf_19 : decode cX8_hearersOf 19 = .ok (.iload_n 2, 1) := by decide +kernel
theorem dX8_hearersOf_20 : decode cX8_hearersOf 20 = .ok (.if_icmp .eq 20, 3) := by decide +kernel
theorem dX8_hearersOf_23 : decode cX8_hearersOf 23 = .ok (.aload_n 0, 1) := by decide +kernel
theorem dX8_hearersOf_24 : decode cX8_hearersOf 24 = .ok (.iload 4, 2) := by decide +kernel
theorem dX8_hearersOf_26 : decode cX8_hearersOf 26 = .ok (.iload_n 1, 1) := by decide +kernel
theorem dX8_hearersOf_27 : decode cX8_hearersOf 27 = .ok (.invokevirtual 138, 3) := by decide +kernel
theorem dX8_hearersOf_30 : decode cX8_hearersOf 30 = .ok (.ifCond .eq 10, 3) := by decide +kernel
theorem dX8_hearersOf_33 : decode cX8_hearersOf 33 = .ok (.iconst 1, 1) := by decide +kernel
theorem dX8_hearersOf_34 : decode cX8_hearersOf 34 = .ok (.iload 4, 2) := by decide +kernel
theorem dX8_hearersOf_36 : decode cX8_hearersOf 36 = .ok (.ishl, 1) := by decide +kernel
theorem dX8_hearersOf_37 : decode cX8_hearersOf 37 = .ok (.goto 4, 3) := by decide +kernel
theorem dX8_hearersOf_40 : decode cX8_hearersOf 40 = .ok (.iconst 0, 1) := by decide +kernel
theorem dX8_hearersOf_41 : decode cX8_hearersOf 41 = .ok (.ior, 1) := by decide +kernel
theorem dX8_hearersOf_42 : decode cX8_hearersOf 42 = .ok (.istore_n 3, 1) := by decide +kernel
theorem dX8_hearersOf_43 : decode cX8_hearersOf 43 = .ok (.iinc 4 1, 3) := by decide +kernel
theorem dX8_hearersOf_46 : decode cX8_hearersOf 46 = .ok (.goto (-41), 3) := by decide +kernel
theorem dX8_hearersOf_49 : decode cX8_hearersOf 49 = .ok (.iload_n 3, 1) := by decide +kernel
theorem dX8_hearersOf_50 : decode cX8_hearersOf 50 = .ok (.ireturn, 1) := by decide +kernel
set_option maxRecDepth 20000 in
theorem ggX8_one_X8_isOne : GoodIn wsX8_one wsX8_isOne := goodIn_r _ [9, 10, 11, 12, 8, 13, 17, 18, 19, 20, 21, 22, 23, 24, 25, 26, 27, 28, 29, 30, 31, 32, 33, 34, 35, 36, 37, 38, 39, 40, 41, 42, 43, 44, 45, 46] (by decide +kernel) (by decide +kernel)
set_option maxRecDepth 20000 in
theorem gX8_one_X8_isOne : GoodIn wsX8_one (wsV RX8 142 RX8 yX8_isOne wsX8_isOne) := goodIn_app (goodIn_of _ (by decide +kernel)) ggX8_one_X8_isOne
set_option maxRecDepth 20000 in
theorem ggX8_one_X8_has : GoodIn wsX8_one wsX8_has := goodIn_r _ [16] (by decide +kernel) (by decide +kernel)
set_option maxRecDepth 20000 in
theorem gX8_one_X8_has : GoodIn wsX8_one (va_wsS RX8 145 yX8_has wsX8_has) := goodIn_app (goodIn_of _ (by decide +kernel)) ggX8_one_X8_has
theorem dX8_one_0 : decode cX8_one 0 = .ok (.aload_n 0, 1) := by decide +kernel
theorem dX8_one_1 : decode cX8_one 1 = .ok (.iload_n 1, 1) := by decide +kernel
theorem dX8_one_2 : decode cX8_one 2 = .ok (.invokevirtual 142, 3) := by decide +kernel
theorem dX8_one_5 : decode cX8_one 5 = .ok (.ifCond .ne 5, 3) := by decide +kernel
theorem dX8_one_8 : decode cX8_one 8 = .ok (.iconst (-1), 1) := by decide +kernel
theorem dX8_one_9 : decode cX8_one 9 = .ok (.ireturn, 1) := by decide +kernel
theorem dX8_one_10 : decode cX8_one 10 = .ok (.iconst 0, 1) := by decide +kernel
theorem dX8_one_11 : decode cX8_one 11 = .ok (.istore_n 3, 1) := by decide +kernel
theorem dX8_one_12 : decode cX8_one 12 = .ok (.iload_n 2, 1) := by decide +kernel
theorem dX8_one_13 : decode cX8_one 13 = .ok (.tableswitch 91 0 2 #[27, 34, 41], 27) := by decide +kernel
theorem dX8_one_40 : decode cX8_one 40 = .ok (.aload_n 0, 1) := by decide +kernel
theorem dX8_one_41 : decode cX8_one 41 = .ok (.getfield 17, 3) := by decide +kernel
theorem dX8_one_44 : decode cX8_one 44 = .ok (.iload_n 1, 1) := by decide +kernel
theorem dX8_one_45 : decode cX8_one 45 = .ok (.iaload, 1) := by decide +kernel
theorem dX8_one_46 : decode cX8_one 46 = .ok (.ireturn, 1) := by decide +kernel
theorem dX8_one_47 : decode cX8_one 47 = .ok (.aload_n 0, 1) := by decide +kernel
theorem dX8_one_48 : decode cX8_one 48 = .ok (.getfield 20, 3) := by decide +kernel
theorem dX8_one_51 : decode cX8_one 51 = .ok (.iload_n 1, 1) := by decide +kernel
theorem dX8_one_52 : decode cX8_one 52 = .ok (.iaload, 1) := by decide +kernel
theorem dX8_one_53 : decode cX8_one 53 = .ok (.ireturn, 1) := by decide +kernel
theorem dX8_one_54 : decode cX8_one 54 = .ok (.iconst 0, 1) := by decide +kernel
theorem dX8_one_55 : decode cX8_one 55 = .ok (.istore 4, 2) := by decide +kernel
theorem dX8_one_57 : decode cX8_one 57 = .ok (.iload 4, 2) := by decide +kernel
theorem dX8_one_59 : decode cX8_one 59 = .ok (.aload_n 0, 1) := by decide +kernel
theorem dX8_one_60 : decode cX8_one 60 = .ok (.getfield 23, 3) := by decide +kernel
theorem dX8_one_63 : decode cX8_one 63 = .ok (.iconst 0, 1) := by decide +kernel
theorem dX8_one_64 : decode cX8_one 64 = .ok (.iaload, 1) := by decide +kernel
theorem dX8_one_65 : decode cX8_one 65 = .ok (.if_icmp .ge 37, 3) := by decide +kernel
theorem dX8_one_68 : decode cX8_one 68 = .ok (.iload_n 3, 1) := by decide +kernel
theorem dX8_one_69 : decode cX8_one 69 = .ok (.aload_n 0, 1) := by decide +kernel
theorem dX8_one_70 : decode cX8_one 70 = .ok (.getfield 44, 3) := by decide +kernel
theorem dX8_one_73 : decode cX8_one 73 = .ok (.bipush 6, 2) := by decide +kernel
theorem dX8_one_75 : decode cX8_one 75 = .ok (.iload 4, 2) := by decide +kernel
theorem dX8_one_77 : decode cX8_one 77 = .ok (.iadd, 1) := by decide +kernel
theorem dX8_one_78 : decode cX8_one 78 = .ok (.iaload, 1) := by decide +kernel
theorem dX8_one_79 : decode cX8_one 79 = .ok (.iload_n 1, 1) := by decide +kernel
theorem dX8_one_80 : decode cX8_one 80 = .ok (.invokestatic 145, 3) := by decide +kernel
theorem dX8_one_83 : decode cX8_one 83 = .ok (.ifCond .eq 10, 3) := by decide +kernel
theorem dX8_one_86 : decode cX8_one 86 = .ok (.iconst 1, 1) := by decide +kernel
theorem dX8_one_87 : decode cX8_one 87 = .ok (.iload 4, 2) := by decide +kernel
theorem dX8_one_89 : decode cX8_one 89 = .ok (.ishl, 1) := by decide +kernel
theorem dX8_one_90 : decode cX8_one 90 = .ok (.goto 4, 3) := by decide +kernel
theorem dX8_one_93 : decode cX8_one 93 = .ok (.iconst 0, 1) := by decide +kernel
theorem dX8_one_94 : decode cX8_one 94 = .ok (.ior, 1) := by decide +kernel
theorem dX8_one_95 : decode cX8_one 95 = .ok (.istore_n 3, 1) := by decide +kernel
theorem dX8_one_96 : decode cX8_one 96 = .ok (.iinc 4 1, 3) := by decide +kernel
theorem dX8_one_99 : decode cX8_one 99 = .ok (.goto (-42), 3) := by decide +kernel
theorem dX8_one_102 : decode cX8_one 102 = .ok (.iload_n 3, 1) := by decide +kernel
theorem dX8_one_103 : decode cX8_one 103 = .ok (.ireturn, 1) := by decide +kernel
theorem dX8_one_104 : decode cX8_one 104 = .ok (.iconst (-1), 1) := by decide +kernel
theorem dX8_one_105 : decode cX8_one 105 = .ok (.ireturn, 1) := by decide +kernel
set_option maxRecDepth 20000 in
theorem ggX8_saying_X8_isSaying : GoodIn wsX8_saying wsX8_isSaying := goodIn_r _ [9, 10, 11, 12, 8, 13, 14, 15, 16, 17, 18, 19, 20, 21, 22, 23, 24, 25, 26, 27, 28, 29, 30, 31, 32, 33, 34, 35, 36, 37, 38, 39, 40, 41, 42, 43] (by decide +kernel) (by decide +kernel)
set_option maxRecDepth 20000 in
theorem gX8_saying_X8_isSaying : GoodIn wsX8_saying (wsV RX8 148 RX8 yX8_isSaying wsX8_isSaying) := goodIn_app (goodIn_of _ (by decide +kernel)) ggX8_saying_X8_isSaying
theorem dX8_saying_0 : decode cX8_saying 0 = .ok (.aload_n 0, 1) := by decide +kernel
theorem dX8_saying_1 : decode cX8_saying 1 = .ok (.iload_n 1, 1) := by decide +kernel
theorem dX8_saying_2 : decode cX8_saying 2 = .ok (.invokevirtual 148, 3) := by decide +kernel
theorem dX8_saying_5 : decode cX8_saying 5 = .ok (.ifCond .ne 5, 3) := by decide +kernel
theorem dX8_saying_8 : decode cX8_saying 8 = .ok (.iconst (-1), 1) := by decide +kernel
theorem dX8_saying_9 : decode cX8_saying 9 = .ok (.ireturn, 1) := by decide +kernel
theorem dX8_saying_10 : decode cX8_saying 10 = .ok (.iload_n 2, 1) := by decide +kernel
theorem dX8_saying_11 : decode cX8_saying 11 = .ok (.tableswitch 60 0 3 #[29, 36, 43, 50], 29) := by decide +kernel
theorem dX8_saying_40 : decode cX8_saying 40 = .ok (.aload_n 0, 1) := by decide +kernel
theorem dX8_saying_41 : decode cX8_saying 41 = .ok (.getfield 26, 3) := by decide +kernel
theorem dX8_saying_44 : decode cX8_saying 44 = .ok (.iload_n 1, 1) := by decide +kernel
theorem dX8_saying_45 : decode cX8_saying 45 = .ok (.iaload, 1) := by decide +kernel
theorem dX8_saying_46 : decode cX8_saying 46 = .ok (.ireturn, 1) := by decide +kernel
theorem dX8_saying_47 : decode cX8_saying 47 = .ok (.aload_n 0, 1) := by decide +kernel
theorem dX8_saying_48 : decode cX8_saying 48 = .ok (.getfield 29, 3) := by decide +kernel
theorem dX8_saying_51 : decode cX8_saying 51 = .ok (.iload_n 1, 1) := by decide +kernel
theorem dX8_saying_52 : decode cX8_saying 52 = .ok (.iaload, 1) := by decide +kernel
theorem dX8_saying_53 : decode cX8_saying 53 = .ok (.ireturn, 1) := by decide +kernel
theorem dX8_saying_54 : decode cX8_saying 54 = .ok (.aload_n 0, 1) := by decide +kernel
theorem dX8_saying_55 : decode cX8_saying 55 = .ok (.getfield 32, 3) := by decide +kernel
theorem dX8_saying_58 : decode cX8_saying 58 = .ok (.iload_n 1, 1) := by decide +kernel
theorem dX8_saying_59 : decode cX8_saying 59 = .ok (.iaload, 1) := by decide +kernel
theorem dX8_saying_60 : decode cX8_saying 60 = .ok (.ireturn, 1) := by decide +kernel
theorem dX8_saying_61 : decode cX8_saying 61 = .ok (.aload_n 0, 1) := by decide +kernel
theorem dX8_saying_62 : decode cX8_saying 62 = .ok (.getfield 44, 3) := by decide +kernel
theorem dX8_saying_65 : decode cX8_saying 65 = .ok (.bipush 6, 2) := by decide +kernel
theorem dX8_saying_67 : decode cX8_saying 67 = .ok (.iload_n 1, 1) := by decide +kernel
theorem dX8_saying_68 : decode cX8_saying 68 = .ok (.iadd, 1) := by decide +kernel
theorem dX8_saying_69 : decode cX8_saying 69 = .ok (.iaload, 1) := by decide +kernel
theorem dX8_saying_70 : decode cX8_saying 70 = .ok (.ireturn, 1) := by decide +kernel
theorem dX8_saying_71 : decode cX8_saying 71 = .ok (.iconst (-1), 1) := by decide +kernel
theorem dX8_saying_72 : decode cX8_saying 72 = .ok (.ireturn, 1) := by decide +kernel
set_option maxRecDepth 20000 in
theorem ggX8_wind_X8_in : GoodIn wsX8_wind wsX8_in := goodIn_r _ [5] (by decide +kernel) (by decide +kernel)
set_option maxRecDepth 20000 in
theorem gX8_wind_X8_in : GoodIn wsX8_wind (va_wsS RX8 72 yX8_in wsX8_in) := goodIn_app (goodIn_of _ (by decide +kernel)) ggX8_wind_X8_in
set_option maxRecDepth 20000 in
theorem ggX8_wind_X8_windIn : GoodIn wsX8_wind wsX8_windIn := goodIn_r _ [9, 10, 11, 12, 13, 14, 15, 16, 17, 18, 19, 20, 21, 22, 23, 24, 25, 26, 27, 28, 29, 30, 31, 32, 33, 34, 35, 36, 37, 38, 39, 40, 41, 42] (by decide +kernel) (by decide +kernel)
set_option maxRecDepth 20000 in
theorem gX8_wind_X8_windIn : GoodIn wsX8_wind (wsV RX8 151 RX8 yX8_windIn wsX8_windIn) := goodIn_app (goodIn_of _ (by decide +kernel)) ggX8_wind_X8_windIn
theorem dX8_wind_0 : decode cX8_wind 0 = .ok (.iload_n 1, 1) := by decide +kernel
theorem dX8_wind_1 : decode cX8_wind 1 = .ok (.iconst 0, 1) := by decide +kernel
theorem dX8_wind_2 : decode cX8_wind 2 = .ok (.bipush 99, 2) := by decide +kernel
theorem dX8_wind_4 : decode cX8_wind 4 = .ok (.invokestatic 72, 3) := by decide +kernel
theorem dX8_wind_7 : decode cX8_wind 7 = .ok (.ifCond .eq 11, 3) := by decide +kernel
theorem dX8_wind_10 : decode cX8_wind 10 = .ok (.aload_n 0, 1) := by decide +kernel
theorem dX8_wind_11 : decode cX8_wind 11 = .ok (.iload_n 1, 1) := by decide +kernel
theorem dX8_wind_12 : decode cX8_wind 12 = .ok (.invokevirtual 151, 3) := by decide +kernel
theorem dX8_wind_15 : decode cX8_wind 15 = .ok (.goto 5, 3) := by decide +kernel
theorem dX8_wind_18 : decode cX8_wind 18 = .ok (.ldc 154, 2) := by decide +kernel
theorem dX8_wind_20 : decode cX8_wind 20 = .ok (.ireturn, 1) := by decide +kernel
set_option maxRecDepth 20000 in
theorem ggX8_stray_X8_in : GoodIn wsX8_stray wsX8_in := goodIn_r _ [5] (by decide +kernel) (by decide +kernel)
set_option maxRecDepth 20000 in
theorem gX8_stray_X8_in : GoodIn wsX8_stray (va_wsS RX8 72 yX8_in wsX8_in) := goodIn_app (goodIn_of _ (by decide +kernel)) ggX8_stray_X8_in
theorem dX8_stray_0 : decode cX8_stray 0 = .ok (.iload_n 1, 1) := by decide +kernel
theorem dX8_stray_1 : decode cX8_stray 1 = .ok (.iconst 0, 1) := by decide +kernel
theorem dX8_stray_2 : decode cX8_stray 2 = .ok (.bipush 7, 2) := by decide +kernel
theorem dX8_stray_4 : decode cX8_stray 4 = .ok (.invokestatic 72, 3) := by decide +kernel
theorem dX8_stray_7 : decode cX8_stray 7 = .ok (.ifCond .eq 12, 3) := by decide +kernel
theorem dX8_stray_10 : decode cX8_stray 10 = .ok (.iload_n 2, 1) := by decide +kernel
theorem dX8_stray_11 : decode cX8_stray 11 = .ok (.iconst 0, 1) := by decide +kernel
theorem dX8_stray_12 : decode cX8_stray 12 = .ok (.iconst 1, 1) := by decide +kernel
theorem dX8_stray_13 : decode cX8_stray 13 = .ok (.invokestatic 72, 3) := by decide +kernel
theorem dX8_stray_16 : decode cX8_stray 16 = .ok (.ifCond .ne 5, 3) := by decide +kernel
theorem dX8_stray_19 : decode cX8_stray 19 = .ok (.iconst (-1), 1) := by decide +kernel
theorem dX8_stray_20 : decode cX8_stray 20 = .ok (.ireturn, 1) := by decide +kernel
theorem dX8_stray_21 : decode cX8_stray 21 = .ok (.iload_n 1, 1) := by decide +kernel
theorem dX8_stray_22 : decode cX8_stray 22 = .ok (.aload_n 0, 1) := by decide +kernel
theorem dX8_stray_23 : decode cX8_stray 23 = .ok (.getfield 44, 3) := by decide +kernel
theorem dX8_stray_26 : decode cX8_stray 26 = .ok (.bipush 12, 2) := by decide +kernel
theorem dX8_stray_28 : decode cX8_stray 28 = .ok (.iaload, 1) := by decide +kernel
theorem dX8_stray_29 : decode cX8_stray 29 = .ok (.if_icmp .lt 8, 3) := by decide +kernel
theorem dX8_stray_32 : decode cX8_stray 32 = .ok (.bipush (-9), 2) := by decide +kernel
theorem dX8_stray_34 : decode cX8_stray 34 = .ok (.goto 21, 3) := by decide +kernel
theorem dX8_stray_37 : decode cX8_stray 37 = .ok (.aload_n 0, 1) := by decide +kernel
theorem dX8_stray_38 : decode cX8_stray 38 = .ok (.getfield 44, 3) := by decide +kernel
theorem dX8_stray_41 : decode cX8_stray 41 = .ok (.iload_n 2, 1) := by decide +kernel
theorem dX8_stray_42 : decode cX8_stray 42 = .ok (.ifCond .ne 8, 3) := by decide +kernel
theorem dX8_stray_45 : decode cX8_stray 45 = .ok (.bipush 13, 2) := by decide +kernel
theorem dX8_stray_47 : decode cX8_stray 47 = .ok (.goto 5, 3) := by decide +kernel
theorem dX8_stray_50 : decode cX8_stray 50 = .ok (.bipush 21, 2) := by decide +kernel
theorem dX8_stray_52 : decode cX8_stray 52 = .ok (.iload_n 1, 1) := by decide +kernel
theorem dX8_stray_53 : decode cX8_stray 53 = .ok (.iadd, 1) := by decide +kernel
theorem dX8_stray_54 : decode cX8_stray 54 = .ok (.iaload, 1) := by decide +kernel
theorem dX8_stray_55 : decode cX8_stray 55 = .ok (.ireturn, 1) := by decide +kernel
theorem dX8_know_0 : decode cX8_know 0 = .ok (.aload_n 0, 1) := by decide +kernel
theorem dX8_know_1 : decode cX8_know 1 = .ok (.getfield 47, 3) := by decide +kernel
theorem dX8_know_4 : decode cX8_know 4 = .ok (.iconst 0, 1) := by decide +kernel
theorem dX8_know_5 : decode cX8_know 5 = .ok (.iaload, 1) := by decide +kernel
theorem dX8_know_6 : decode cX8_know 6 = .ok (.bipush 10, 2) := by decide +kernel
theorem dX8_know_8 : decode cX8_know 8 = .ok (.if_icmp .ne 43, 3) := by decide +kernel
theorem dX8_know_11 : decode cX8_know 11 = .ok (.iconst 0, 1) := by decide +kernel
theorem dX8_know_12 : decode cX8_know 12 = .ok (.istore_n 1, 1) := by decide +kernel
theorem dX8_know_13 : decode cX8_know 13 = .ok (.iload_n 1, 1) := by decide +kernel
theorem dX8_know_14 : decode cX8_know 14 = .ok (.sipush 261, 3) := by decide +kernel
theorem dX8_know_17 : decode cX8_know 17 = .ok (.if_icmp .ge 24, 3) := by decide +kernel
theorem dX8_know_20 : decode cX8_know 20 = .ok (.aload_n 0, 1) := by decide +kernel
theorem dX8_know_21 : decode cX8_know 21 = .ok (.getfield 50, 3) := by decide +kernel
theorem dX8_know_24 : decode cX8_know 24 = .ok (.iload_n 1, 1) := by decide +kernel
theorem dX8_know_25 : decode cX8_know 25 = .ok (.aload_n 0, 1) := by decide +kernel
theorem dX8_know_26 : decode cX8_know 26 = .ok (.getfield 50, 3) := by decide +kernel
theorem dX8_know_29 : decode cX8_know 29 = .ok (.bipush 29, 2) := by decide +kernel
theorem dX8_know_31 : decode cX8_know 31 = .ok (.iload_n 1, 1) := by decide +kernel
theorem dX8_know_32 : decode cX8_know 32 = .ok (.iadd, 1) := by decide +kernel
theorem dX8_know_33 : decode cX8_know 33 = .ok (.iaload, 1) := by decide +kernel
theorem dX8_know_34 : decode cX8_know 34 = .ok (.iastore, 1) := by decide +kernel
theorem dX8_know_35 : decode cX8_know 35 = .ok (.iinc 1 1, 3) := by decide +kernel
theorem dX8_know_38 : decode cX8_know 38 = .ok (.goto (-25), 3) := by decide +kernel
theorem dX8_know_41 : decode cX8_know 41 = .ok (.aload_n 0, 1) := by decide +kernel
theorem dX8_know_42 : decode cX8_know 42 = .ok (.getfield 47, 3) := by decide +kernel
theorem dX8_know_45 : decode cX8_know 45 = .ok (.iconst 0, 1) := by decide +kernel
theorem dX8_know_46 : decode cX8_know 46 = .ok (.dup2, 1) := by decide +kernel
theorem dX8_know_47 : decode cX8_know 47 = .ok (.iaload, 1) := by decide +kernel
theorem dX8_know_48 : decode cX8_know 48 = .ok (.iconst 1, 1) := by decide +kernel
theorem dX8_know_49 : decode cX8_know 49 = .ok (.isub, 1) := by decide +kernel
theorem dX8_know_50 : decode cX8_know 50 = .ok (.iastore, 1) := by decide +kernel
theorem dX8_know_51 : decode cX8_know 51 = .ok (.iconst 0, 1) := by decide +kernel
theorem dX8_know_52 : decode cX8_know 52 = .ok (.istore_n 1, 1) := by decide +kernel
theorem dX8_know_53 : decode cX8_know 53 = .ok (.iload_n 1, 1) := by decide +kernel
theorem dX8_know_54 : decode cX8_know 54 = .ok (.bipush 29, 2) := by decide +kernel
theorem dX8_know_56 : decode cX8_know 56 = .ok (.if_icmp .ge 31, 3) := by decide +kernel
theorem dX8_know_59 : decode cX8_know 59 = .ok (.aload_n 0, 1) := by decide +kernel
theorem dX8_know_60 : decode cX8_know 60 = .ok (.getfield 50, 3) := by decide +kernel
theorem dX8_know_63 : decode cX8_know 63 = .ok (.bipush 29, 2) := by decide +kernel
theorem dX8_know_65 : decode cX8_know 65 = .ok (.aload_n 0, 1) := by decide +kernel
theorem dX8_know_66 : decode cX8_know 66 = .ok (.getfield 47, 3) := by decide +kernel
theorem dX8_know_69 : decode cX8_know 69 = .ok (.iconst 0, 1) := by decide +kernel
theorem dX8_know_70 : decode cX8_know 70 = .ok (.iaload, 1) := by decide +kernel
theorem dX8_know_71 : decode cX8_know 71 = .ok (.imul, 1) := by decide +kernel
theorem dX8_know_72 : decode cX8_know 72 = .ok (.iload_n 1, 1) := by decide +kernel
theorem dX8_know_73 : decode cX8_know 73 = .ok (.iadd, 1) := by decide +kernel
theorem dX8_know_74 : decode cX8_know 74 = .ok (.aload_n 0, 1) := by decide +kernel
theorem dX8_know_75 : decode cX8_know 75 = .ok (.getfield 44, 3) := by decide +kernel
theorem dX8_know_78 : decode cX8_know 78 = .ok (.iload_n 1, 1) := by decide +kernel
theorem dX8_know_79 : decode cX8_know 79 = .ok (.iaload, 1) := by decide +kernel
theorem dX8_know_80 : decode cX8_know 80 = .ok (.iastore, 1) := by decide +kernel
theorem dX8_know_81 : decode cX8_know 81 = .ok (.iinc 1 1, 3) := by decide +kernel
theorem dX8_know_84 : decode cX8_know 84 = .ok (.goto (-31), 3) := by decide +kernel
theorem dX8_know_87 : decode cX8_know 87 = .ok (.aload_n 0, 1) := by decide +kernel
theorem dX8_know_88 : decode cX8_know 88 = .ok (.getfield 47, 3) := by decide +kernel
theorem dX8_know_91 : decode cX8_know 91 = .ok (.iconst 0, 1) := by decide +kernel
theorem dX8_know_92 : decode cX8_know 92 = .ok (.dup2, 1) := by decide +kernel
theorem dX8_know_93 : decode cX8_know 93 = .ok (.iaload, 1) := by decide +kernel
theorem dX8_know_94 : decode cX8_know 94 = .ok (.iconst 1, 1) := by decide +kernel
theorem dX8_know_95 : decode cX8_know 95 = .ok (.iadd, 1) := by decide +kernel
theorem dX8_know_96 : decode cX8_know 96 = .ok (.iastore, 1) := by decide +kernel
theorem dX8_know_97 : decode cX8_know 97 = .ok (.return_, 1) := by decide +kernel
theorem dX8_takeUp_0 : decode cX8_takeUp 0 = .ok (.iload_n 1, 1) := by decide +kernel
theorem dX8_takeUp_1 : decode cX8_takeUp 1 = .ok (.istore_n 2, 1) := by decide +kernel
theorem dX8_takeUp_2 : decode cX8_takeUp 2 = .ok (.iload_n 2, 1) := by decide +kernel
theorem dX8_takeUp_3 : decode cX8_takeUp 3 = .ok (.iconst 1, 1) := by decide +kernel
theorem dX8_takeUp_4 : decode cX8_takeUp 4 = .ok (.iadd, 1) := by decide +kernel
theorem dX8_takeUp_5 : decode cX8_takeUp 5 = .ok (.bipush 8, 2) := by decide +kernel
theorem dX8_takeUp_7 : decode cX8_takeUp 7 = .ok (.if_icmp .ge 49, 3) := by decide +kernel
theorem dX8_takeUp_10 : decode cX8_takeUp 10 = .ok (.aload_n 0, 1) := by decide +kernel
theorem dX8_takeUp_11 : decode cX8_takeUp 11 = .ok (.getfield 44, 3) := by decide +kernel
theorem dX8_takeUp_14 : decode cX8_takeUp 14 = .ok (.bipush 13, 2) := by decide +kernel
theorem dX8_takeUp_16 : decode cX8_takeUp 16 = .ok (.iload_n 2, 1) := by decide +kernel
theorem dX8_takeUp_17 : decode cX8_takeUp 17 = .ok (.iadd, 1) := by decide +kernel
theorem dX8_takeUp_18 : decode cX8_takeUp 18 = .ok (.aload_n 0, 1) := by decide +kernel
theorem dX8_takeUp_19 : decode cX8_takeUp 19 = .ok (.getfield 44, 3) := by decide +kernel
theorem dX8_takeUp_22 : decode cX8_takeUp 22 = .ok (.bipush 13, 2) := by decide +kernel
theorem dX8_takeUp_24 : decode cX8_takeUp 24 = .ok (.iload_n 2, 1) := by decide +kernel
theorem dX8_takeUp_25 : decode cX8_takeUp 25 = .ok (.iadd, 1) := by decide +kernel
theorem dX8_takeUp_26 : decode cX8_takeUp 26 = .ok (.iconst 1, 1) := by decide +kernel
theorem dX8_takeUp_27 : decode cX8_takeUp 27 = .ok (.iadd, 1) := by decide +kernel
theorem dX8_takeUp_28 : decode cX8_takeUp 28 = .ok (.iaload, 1) := by decide +kernel
theorem dX8_takeUp_29 : decode cX8_takeUp 29 = .ok (.iastore, 1) := by decide +kernel
theorem dX8_takeUp_30 : decode cX8_takeUp 30 = .ok (.aload_n 0, 1) := by decide +kernel
theorem dX8_takeUp_31 : decode cX8_takeUp 31 = .ok (.getfield 44, 3) := by decide +kernel
theorem dX8_takeUp_34 : decode cX8_takeUp 34 = .ok (.bipush 21, 2) := by decide +kernel
theorem dX8_takeUp_36 : decode cX8_takeUp 36 = .ok (.iload_n 2, 1) := by decide +kernel
theorem dX8_takeUp_37 : decode cX8_takeUp 37 = .ok (.iadd, 1) := by decide +kernel
theorem dX8_takeUp_38 : decode cX8_takeUp 38 = .ok (.aload_n 0, 1) := by decide +kernel
theorem dX8_takeUp_39 : decode cX8_takeUp 39 = .ok (.getfield 44, 3) := by decide +kernel
theorem dX8_takeUp_42 : decode cX8_takeUp 42 = .ok (.bipush 21, 2) := by decide +kernel
theorem dX8_takeUp_44 : decode cX8_takeUp 44 = .ok (.iload_n 2, 1) := by decide +kernel
theorem dX8_takeUp_45 : decode cX8_takeUp 45 = .ok (.iadd, 1) := by decide +kernel
theorem dX8_takeUp_46 : decode cX8_takeUp 46 = .ok (.iconst 1, 1) := by decide +kernel
theorem dX8_takeUp_47 : decode cX8_takeUp 47 = .ok (.iadd, 1) := by decide +kernel
theorem dX8_takeUp_48 : decode cX8_takeUp 48 = .ok (.iaload, 1) := by decide +kernel
theorem dX8_takeUp_49 : decode cX8_takeUp 49 = .ok (.iastore, 1) := by decide +kernel
theorem dX8_takeUp_50 : decode cX8_takeUp 50 = .ok (.iinc 2 1, 3) := by decide +kernel
theorem dX8_takeUp_53 : decode cX8_takeUp 53 = .ok (.goto (-51), 3) := by decide +kernel
theorem dX8_takeUp_56 : decode cX8_takeUp 56 = .ok (.aload_n 0, 1) := by decide +kernel
theorem dX8_takeUp_57 : decode cX8_takeUp 57 = .ok (.getfield 44, 3) := by decide +kernel
theorem dX8_takeUp_60 : decode cX8_takeUp 60 = .ok (.bipush 20, 2) := by decide +kernel
theorem dX8_takeUp_62 : decode cX8_takeUp 62 = .ok (.iconst 0, 1) := by decide +kernel
theorem dX8_takeUp_63 : decode cX8_takeUp 63 = .ok (.iastore, 1) := by decide +kernel
theorem dX8_takeUp_64 : decode cX8_takeUp 64 = .ok (.aload_n 0, 1) := by decide +kernel
theorem dX8_takeUp_65 : decode cX8_takeUp 65 = .ok (.getfield 44, 3) := by decide +kernel
theorem dX8_takeUp_68 : decode cX8_takeUp 68 = .ok (.bipush 28, 2) := by decide +kernel
theorem dX8_takeUp_70 : decode cX8_takeUp 70 = .ok (.iconst 0, 1) := by decide +kernel
theorem dX8_takeUp_71 : decode cX8_takeUp 71 = .ok (.iastore, 1) := by decide +kernel
theorem dX8_takeUp_72 : decode cX8_takeUp 72 = .ok (.aload_n 0, 1) := by decide +kernel
theorem dX8_takeUp_73 : decode cX8_takeUp 73 = .ok (.getfield 44, 3) := by decide +kernel
theorem dX8_takeUp_76 : decode cX8_takeUp 76 = .ok (.bipush 12, 2) := by decide +kernel
theorem dX8_takeUp_78 : decode cX8_takeUp 78 = .ok (.dup2, 1) := by decide +kernel
theorem dX8_takeUp_79 : decode cX8_takeUp 79 = .ok (.iaload, 1) := by decide +kernel
theorem dX8_takeUp_80 : decode cX8_takeUp 80 = .ok (.iconst 1, 1) := by decide +kernel
theorem dX8_takeUp_81 : decode cX8_takeUp 81 = .ok (.isub, 1) := by decide +kernel
theorem dX8_takeUp_82 : decode cX8_takeUp 82 = .ok (.iastore, 1) := by decide +kernel
theorem dX8_takeUp_83 : decode cX8_takeUp 83 = .ok (.return_, 1) := by decide +kernel
set_option maxRecDepth 20000 in
theorem ggX8_lets_X8_isOne : GoodIn wsX8_lets wsX8_isOne := goodIn_r _ [6, 7, 8, 9, 5, 10, 57, 58, 59, 60, 61, 62, 63, 64, 65, 66, 67, 68, 69, 70, 71, 72, 73, 74, 75, 76, 77, 78, 79, 80, 81, 82, 83, 84, 85, 86] (by decide +kernel) (by decide +kernel)
set_option maxRecDepth 20000 in
theorem gX8_lets_X8_isOne : GoodIn wsX8_lets (wsV RX8 142 RX8 yX8_isOne wsX8_isOne) := goodIn_app (goodIn_of _ (by decide +kernel)) ggX8_lets_X8_isOne
set_option maxRecDepth 20000 in
theorem ggX8_lets_X8_isSaying : GoodIn wsX8_lets wsX8_isSaying := goodIn_r _ [14, 15, 8, 9, 5, 10, 57, 58, 59, 60, 61, 62, 63, 64, 65, 66, 67, 68, 69, 70, 71, 72, 73, 74, 75, 76, 77, 78, 79, 80, 81, 82, 83, 84, 85, 86] (by decide +kernel) (by decide +kernel)
set_option maxRecDepth 20000 in
theorem gX8_lets_X8_isSaying : GoodIn wsX8_lets (wsV RX8 148 RX8 yX8_isSaying wsX8_isSaying) := goodIn_app (goodIn_of _ (by decide +kernel)) ggX8_lets_X8_isSaying
set_option maxRecDepth 20000 in
theorem ggX8_lets_X8_isShot : GoodIn wsX8_lets wsX8_isShot := goodIn_r _ [18, 8, 9, 5, 10] (by decide +kernel) (by decide +kernel)
set_option maxRecDepth 20000 in
theorem gX8_lets_X8_isShot : GoodIn wsX8_lets (va_wsS RX8 155 yX8_isShot wsX8_isShot) := goodIn_app (goodIn_of _ (by decide +kernel)) ggX8_lets_X8_isShot
set_option maxRecDepth 20000 in
theorem ggX8_lets_X8_has : GoodIn wsX8_lets wsX8_has := goodIn_r _ [21] (by decide +kernel) (by decide +kernel)
set_option maxRecDepth 20000 in
theorem gX8_lets_X8_has : GoodIn wsX8_lets (va_wsS RX8 145 yX8_has wsX8_has) := goodIn_app (goodIn_of _ (by decide +kernel)) ggX8_lets_X8_has
set_option maxRecDepth 20000 in
theorem ggX8_lets_X8_know : GoodIn wsX8_lets wsX8_know := goodIn_r _ [25, 26, 27, 1, 57, 58, 59, 60, 61, 62, 63, 64, 65, 66, 67, 68, 69, 70, 71, 72, 73, 74, 75, 76, 77, 78, 79, 80, 81, 82, 83, 84, 85, 86] (by decide +kernel) (by decide +kernel)
set_option maxRecDepth 20000 in
theorem gX8_lets_X8_know : GoodIn wsX8_lets (wsV RX8 158 RX8 yX8_know wsX8_know) := goodIn_app (goodIn_of _ (by decide +kernel)) ggX8_lets_X8_know
set_option maxRecDepth 20000 in
theorem ggX8_lets_X8_windIn : GoodIn wsX8_lets wsX8_windIn := goodIn_r _ [31, 32, 1, 33, 57, 58, 59, 60, 61, 62, 63, 64, 65, 66, 67, 68, 69, 70, 71, 72, 73, 74, 75, 76, 77, 78, 79, 80, 81, 82, 83, 84, 85, 86] (by decide +kernel) (by decide +kernel)
set_option maxRecDepth 20000 in
theorem gX8_lets_X8_windIn : GoodIn wsX8_lets (wsV RX8 151 RX8 yX8_windIn wsX8_windIn) := goodIn_app (goodIn_of _ (by decide +kernel)) ggX8_lets_X8_windIn
set_option maxRecDepth 20000 in
theorem ggX8_lets_X8_landsBy : GoodIn wsX8_lets wsX8_landsBy := goodIn_r _ [37, 38, 39, 1, 40, 41, 42, 5, 43, 8, 9, 10, 57, 58, 59, 60, 61, 62, 63, 64, 65, 66, 67, 68, 69, 70, 71, 72, 73, 74, 75, 76, 77, 78, 79, 80, 81, 82, 83, 84, 85, 86] (by decide +kernel) (by decide +kernel)
set_option maxRecDepth 20000 in
theorem gX8_lets_X8_landsBy : GoodIn wsX8_lets (wsV RX8 161 RX8 yX8_landsBy wsX8_landsBy) := goodIn_app (goodIn_of _ (by decide +kernel)) ggX8_lets_X8_landsBy
set_option maxRecDepth 20000 in
theorem ggX8_lets_X8_hearersOf : GoodIn wsX8_lets wsX8_hearersOf := goodIn_r _ [47, 7, 48, 49, 50, 5, 51, 40, 52, 57, 58, 59, 60, 61, 62, 63, 64, 65, 66, 67, 68, 69, 70, 71, 72, 73, 74, 75, 76, 77, 78, 79, 80, 81, 82, 83, 84, 85, 86] (by decide +kernel) (by decide +kernel)
set_option maxRecDepth 20000 in
theorem gX8_lets_X8_hearersOf : GoodIn wsX8_lets (wsV RX8 165 RX8 yX8_hearersOf wsX8_hearersOf) := goodIn_app (goodIn_of _ (by decide +kernel)) ggX8_lets_X8_hearersOf
set_option maxRecDepth 20000 in
theorem ggX8_lets_X8_takeUp : GoodIn wsX8_lets wsX8_takeUp := goodIn_r _ [56, 1, 57, 58, 59, 60, 61, 62, 63, 64, 65, 66, 67, 68, 69, 70, 71, 72, 73, 74, 75, 76, 77, 78, 79, 80, 81, 82, 83, 84, 85, 86] (by decide +kernel) (by decide +kernel)
set_option maxRecDepth 20000 in
theorem gX8_lets_X8_takeUp : GoodIn wsX8_lets (wsV RX8 168 RX8 yX8_takeUp wsX8_takeUp) := goodIn_app (goodIn_of _ (by decide +kernel)) ggX8_lets_X8_takeUp
theorem dX8_lets_0 : decode cX8_lets 0 = .ok (.aload_n 0, 1) := by decide +kernel
theorem dX8_lets_1 : decode cX8_lets 1 = .ok (.iload_n 1, 1) := by decide +kernel
theorem dX8_lets_2 : decode cX8_lets 2 = .ok (.invokevirtual 142, 3) := by decide +kernel
theorem dX8_lets_5 : decode cX8_lets 5 = .ok (.ifCond .eq 22, 3) := by decide +kernel
theorem dX8_lets_8 : decode cX8_lets 8 = .ok (.aload_n 0, 1) := by decide +kernel
theorem dX8_lets_9 : decode cX8_lets 9 = .ok (.iload_n 2, 1) := by decide +kernel
theorem dX8_lets_10 : decode cX8_lets 10 = .ok (.invokevirtual 148, 3) := by decide +kernel
theorem dX8_lets_13 : decode cX8_lets 13 = .ok (.ifCond .eq 14, 3) := by decide +kernel
theorem dX8_lets_16 : decode cX8_lets 16 = .ok (.iload_n 3, 1) := by decide +kernel
theorem dX8_lets_17 : decode cX8_lets 17 = .ok (.iload 4, 2) := by decide +kernel
theorem dX8_lets_19 : decode cX8_lets 19 = .ok (.iload 5, 2) := by decide +kernel
theorem dX8_lets_21 : decode cX8_lets 21 = .ok (.invokestatic 155, 3) := by decide +kernel
theorem dX8_lets_24 : decode cX8_lets 24 = .ok (.ifCond .ne 5, 3) := by decide +kernel
theorem dX8_lets_27 : decode cX8_lets 27 = .ok (.iconst (-1), 1) := by decide +kernel
theorem dX8_lets_28 : decode cX8_lets 28 = .ok (.ireturn, 1) := by decide +kernel
theorem dX8_lets_29 : decode cX8_lets 29 = .ok (.aload_n 0, 1) := by decide +kernel
theorem dX8_lets_30 : decode cX8_lets 30 = .ok (.getfield 44, 3) := by decide +kernel
theorem dX8_lets_33 : decode cX8_lets 33 = .ok (.bipush 6, 2) := by decide +kernel
theorem dX8_lets_35 : decode cX8_lets 35 = .ok (.iload_n 2, 1) := by decide +kernel
theorem dX8_lets_36 : decode cX8_lets 36 = .ok (.iadd, 1) := by decide +kernel
theorem dX8_lets_37 : decode cX8_lets 37 = .ok (.iaload, 1) := by decide +kernel
theorem dX8_lets_38 : decode cX8_lets 38 = .ok (.iload_n 1, 1) := by decide +kernel
theorem dX8_lets_39 : decode cX8_lets 39 = .ok (.invokestatic 145, 3) := by decide +kernel
theorem dX8_lets_42 : decode cX8_lets 42 = .ok (.ifCond .eq 16, 3) := by decide +kernel
theorem dX8_lets_45 : decode cX8_lets 45 = .ok (.aload_n 0, 1) := by decide +kernel
theorem dX8_lets_46 : decode cX8_lets 46 = .ok (.getfield 44, 3) := by decide +kernel
theorem dX8_lets_49 : decode cX8_lets 49 = .ok (.iconst 2, 1) := by decide +kernel
theorem dX8_lets_50 : decode cX8_lets 50 = .ok (.iload_n 3, 1) := by decide +kernel
theorem dX8_lets_51 : decode cX8_lets 51 = .ok (.iadd, 1) := by decide +kernel
theorem dX8_lets_52 : decode cX8_lets 52 = .ok (.iaload, 1) := by decide +kernel
theorem dX8_lets_53 : decode cX8_lets 53 = .ok (.iload 4, 2) := by decide +kernel
theorem dX8_lets_55 : decode cX8_lets 55 = .ok (.if_icmp .ge 6, 3) := by decide +kernel
theorem dX8_lets_58 : decode cX8_lets 58 = .ok (.bipush (-2), 2) := by decide +kernel
theorem dX8_lets_60 : decode cX8_lets 60 = .ok (.ireturn, 1) := by decide +kernel
theorem dX8_lets_61 : decode cX8_lets 61 = .ok (.aload_n 0, 1) := by decide +kernel
theorem dX8_lets_62 : decode cX8_lets 62 = .ok (.invokevirtual 158, 3) := by decide +kernel
theorem dX8_lets_65 : decode cX8_lets 65 = .ok (.aload_n 0, 1) := by decide +kernel
theorem dX8_lets_66 : decode cX8_lets 66 = .ok (.getfield 44, 3) := by decide +kernel
theorem dX8_lets_69 : decode cX8_lets 69 = .ok (.iconst 2, 1) := by decide +kernel
theorem dX8_lets_70 : decode cX8_lets 70 = .ok (.iload_n 3, 1) := by decide +kernel
theorem dX8_lets_71 : decode cX8_lets 71 = .ok (.iadd, 1) := by decide +kernel
theorem dX8_lets_72 : decode cX8_lets 72 = .ok (.dup2, 1) := by decide +kernel
theorem dX8_lets_73 : decode cX8_lets 73 = .ok (.iaload, 1) := by decide +kernel
theorem dX8_lets_74 : decode cX8_lets 74 = .ok (.iload 4, 2) := by decide +kernel
theorem dX8_lets_76 : decode cX8_lets 76 = .ok (.isub, 1) := by decide +kernel
theorem dX8_lets_77 : decode cX8_lets 77 = .ok (.iastore, 1) := by decide +kernel
theorem dX8_lets_78 : decode cX8_lets 78 = .ok (.aload_n 0, 1) := by decide +kernel
theorem dX8_lets_79 : decode cX8_lets 79 = .ok (.iload_n 1, 1) := by decide +kernel
theorem dX8_lets_80 : decode cX8_lets 80 = .ok (.iload_n 2, 1) := by decide +kernel
theorem dX8_lets_81 : decode cX8_lets 81 = .ok (.iload_n 3, 1) := by decide +kernel
theorem dX8_lets_82 : decode cX8_lets 82 = .ok (.iload 4, 2) := by decide +kernel
theorem dX8_lets_84 : decode cX8_lets 84 = .ok (.iload 5, 2) := by decide +kernel
theorem dX8_lets_86 : decode cX8_lets 86 = .ok (.aload_n 0, 1) := by decide +kernel
theorem dX8_lets_87 : decode cX8_lets 87 = .ok (.iconst 0, 1) := by decide +kernel
theorem dX8_lets_88 : decode cX8_lets 88 = .ok (.invokevirtual 151, 3) := by decide +kernel
theorem dX8_lets_91 : decode cX8_lets 91 = .ok (.invokevirtual 161, 3) := by decide +kernel
theorem dX8_lets_94 : decode cX8_lets 94 = .ok (.istore 6, 2) := by decide +kernel
theorem dX8_lets_96 : decode cX8_lets 96 = .ok (.aload_n 0, 1) := by decide +kernel
theorem dX8_lets_97 : decode cX8_lets 97 = .ok (.iload 6, 2) := by decide +kernel
theorem dX8_lets_99 : decode cX8_lets 99 = .ok (.iload_n 1, 1) := by decide +kernel
theorem dX8_lets_100 : decode cX8_lets 100 = .ok (.invokevirtual 165, 3) := by decide +kernel
theorem dX8_lets_103 : decode cX8_lets 103 = .ok (.istore 7, 2) := by decide +kernel
theorem dX8_lets_105 : decode cX8_lets 105 = .ok (.aload_n 0, 1) := by decide +kernel
theorem dX8_lets_106 : decode cX8_lets 106 = .ok (.getfield 44, 3) := by decide +kernel
theorem dX8_lets_109 : decode cX8_lets 109 = .ok (.bipush 6, 2) := by decide +kernel
theorem dX8_lets_111 : decode cX8_lets 111 = .ok (.iload_n 2, 1) := by decide +kernel
theorem dX8_lets_112 : decode cX8_lets 112 = .ok (.iadd, 1) := by decide +kernel
theorem dX8_lets_113 : decode cX8_lets 113 = .ok (.dup2, 1) := by decide +kernel
theorem dX8_lets_114 : decode cX8_lets 114 = .ok (.iaload, 1) := by decide +kernel
theorem dX8_lets_115 : decode cX8_lets 115 = .ok (.iload 7, 2) := by decide +kernel
theorem dX8_lets_117 : decode cX8_lets 117 = .ok (.ior, 1) := by decide +kernel
theorem dX8_lets_118 : decode cX8_lets 118 = .ok (.iastore, 1) := by decide +kernel
theorem dX8_lets_119 : decode cX8_lets 119 = .ok (.iload 7, 2) := by decide +kernel
theorem dX8_lets_121 : decode cX8_lets 121 = .ok (.ifCond .ne 71, 3) := by decide +kernel
theorem dX8_lets_124 : decode cX8_lets 124 = .ok (.iload 6, 2) := by decide +kernel
theorem dX8_lets_126 : decode cX8_lets 126 = .ok (.bipush (-9), 2) := by decide +kernel
theorem dX8_lets_128 : decode cX8_lets 128 = .ok (.if_icmp .eq 64, 3) := by decide +kernel
theorem dX8_lets_131 : decode cX8_lets 131 = .ok (.aload_n 0, 1) := by decide +kernel
theorem dX8_lets_132 : decode cX8_lets 132 = .ok (.getfield 44, 3) := by decide +kernel
theorem dX8_lets_135 : decode cX8_lets 135 = .ok (.bipush 12, 2) := by decide +kernel
theorem dX8_lets_137 : decode cX8_lets 137 = .ok (.iaload, 1) := by decide +kernel
theorem dX8_lets_138 : decode cX8_lets 138 = .ok (.bipush 8, 2) := by decide +kernel
theorem dX8_lets_140 : decode cX8_lets 140 = .ok (.if_icmp .ne 8, 3) := by decide +kernel
theorem dX8_lets_143 : decode cX8_lets 143 = .ok (.aload_n 0, 1) := by decide +kernel
theorem dX8_lets_144 : decode cX8_lets 144 = .ok (.iconst 0, 1) := by decide +kernel
theorem dX8_lets_145 : decode cX8_lets 145 = .ok (.invokevirtual 168, 3) := by decide +kernel
theorem dX8_lets_148 : decode cX8_lets 148 = .ok (.aload_n 0, 1) := by decide +kernel
theorem dX8_lets_149 : decode cX8_lets 149 = .ok (.getfield 44, 3) := by decide +kernel
theorem dX8_lets_152 : decode cX8_lets 152 = .ok (.bipush 13, 2) := by decide +kernel
theorem dX8_lets_154 : decode cX8_lets 154 = .ok (.aload_n 0, 1) := by decide +kernel
theorem dX8_lets_155 : decode cX8_lets 155 = .ok (.getfield 44, 3) := by decide +kernel
theorem dX8_lets_158 : decode cX8_lets 158 = .ok (.bipush 12, 2) := by decide +kernel
theorem dX8_lets_160 : decode cX8_lets 160 = .ok (.iaload, 1) := by decide +kernel
theorem dX8_lets_161 : decode cX8_lets 161 = .ok (.iadd, 1) := by decide +kernel
theorem dX8_lets_162 : decode cX8_lets 162 = .ok (.iload_n 2, 1) := by decide +kernel
theorem dX8_lets_163 : decode cX8_lets 163 = .ok (.iastore, 1) := by decide +kernel
theorem dX8_lets_164 : decode cX8_lets 164 = .ok (.aload_n 0, 1) := by decide +kernel
theorem dX8_lets_165 : decode cX8_lets 165 = .ok (.getfield 44, 3) := by decide +kernel
theorem dX8_lets_168 : decode cX8_lets 168 = .ok (.bipush 21, 2) := by decide +kernel
theorem dX8_lets_170 : decode cX8_lets 170 = .ok (.aload_n 0, 1) := by decide +kernel
theorem dX8_lets_171 : decode cX8_lets 171 = .ok (.getfield 44, 3) := by decide +kernel
theorem dX8_lets_174 : decode cX8_lets 174 = .ok (.bipush 12, 2) := by decide +kernel
theorem dX8_lets_176 : decode cX8_lets 176 = .ok (.iaload, 1) := by decide +kernel
theorem dX8_lets_177 : decode cX8_lets 177 = .ok (.iadd, 1) := by decide +kernel
theorem dX8_lets_178 : decode cX8_lets 178 = .ok (.iload 6, 2) := by decide +kernel
theorem dX8_lets_180 : decode cX8_lets 180 = .ok (.iastore, 1) := by decide +kernel
theorem dX8_lets_181 : decode cX8_lets 181 = .ok (.aload_n 0, 1) := by decide +kernel
theorem dX8_lets_182 : decode cX8_lets 182 = .ok (.getfield 44, 3) := by decide +kernel
theorem dX8_lets_185 : decode cX8_lets 185 = .ok (.bipush 12, 2) := by decide +kernel
theorem dX8_lets_187 : decode cX8_lets 187 = .ok (.dup2, 1) := by decide +kernel
theorem dX8_lets_188 : decode cX8_lets 188 = .ok (.iaload, 1) := by decide +kernel
theorem dX8_lets_189 : decode cX8_lets 189 = .ok (.iconst 1, 1) := by decide +kernel
theorem dX8_lets_190 : decode cX8_lets 190 = .ok (.iadd, 1) := by decide +kernel
theorem dX8_lets_191 : decode cX8_lets 191 = .ok (.iastore, 1) := by decide +kernel
theorem dX8_lets_192 : decode cX8_lets 192 = .ok (.iload 7, 2) := by decide +kernel
theorem dX8_lets_194 : decode cX8_lets 194 = .ok (.ireturn, 1) := by decide +kernel
set_option maxRecDepth 20000 in
theorem ggX8_picks_X8_isOne : GoodIn wsX8_picks wsX8_isOne := goodIn_r _ [7, 8, 9, 10, 6, 11, 22, 23, 24, 25, 26, 27, 28, 29, 30, 31, 32, 33, 34, 35, 36, 37, 38, 39, 40, 41, 42, 43, 44, 45, 46, 47, 48, 49, 50, 51] (by decide +kernel) (by decide +kernel)
set_option maxRecDepth 20000 in
theorem gX8_picks_X8_isOne : GoodIn wsX8_picks (wsV RX8 142 RX8 yX8_isOne wsX8_isOne) := goodIn_app (goodIn_of _ (by decide +kernel)) ggX8_picks_X8_isOne
set_option maxRecDepth 20000 in
theorem ggX8_picks_X8_know : GoodIn wsX8_picks wsX8_know := goodIn_r _ [15, 16, 17, 1, 22, 23, 24, 25, 26, 27, 28, 29, 30, 31, 32, 33, 34, 35, 36, 37, 38, 39, 40, 41, 42, 43, 44, 45, 46, 47, 48, 49, 50, 51] (by decide +kernel) (by decide +kernel)
set_option maxRecDepth 20000 in
theorem gX8_picks_X8_know : GoodIn wsX8_picks (wsV RX8 158 RX8 yX8_know wsX8_know) := goodIn_app (goodIn_of _ (by decide +kernel)) ggX8_picks_X8_know
set_option maxRecDepth 20000 in
theorem ggX8_picks_X8_takeUp : GoodIn wsX8_picks wsX8_takeUp := goodIn_r _ [21, 1, 22, 23, 24, 25, 26, 27, 28, 29, 30, 31, 32, 33, 34, 35, 36, 37, 38, 39, 40, 41, 42, 43, 44, 45, 46, 47, 48, 49, 50, 51] (by decide +kernel) (by decide +kernel)
set_option maxRecDepth 20000 in
theorem gX8_picks_X8_takeUp : GoodIn wsX8_picks (wsV RX8 168 RX8 yX8_takeUp wsX8_takeUp) := goodIn_app (goodIn_of _ (by decide +kernel)) ggX8_picks_X8_takeUp
theorem dX8_picks_0 : decode cX8_picks 0 = .ok (.aload_n 0, 1) := by decide +kernel
theorem dX8_picks_1 : decode cX8_picks 1 = .ok (.iload_n 1, 1) := by decide +kernel
theorem dX8_picks_2 : decode cX8_picks 2 = .ok (.invokevirtual 142, 3) := by decide +kernel
theorem dX8_picks_5 : decode cX8_picks 5 = .ok (.ifCond .ne 5, 3) := by decide +kernel
theorem dX8_picks_8 : decode cX8_picks 8 = .ok (.iconst (-1), 1) := by decide +kernel
theorem dX8_picks_9 : decode cX8_picks 9 = .ok (.ireturn, 1) := by decide +kernel
theorem dX8_picks_10 : decode cX8_picks 10 = .ok (.bipush (-9), 2) := by decide +kernel
theorem dX8_picks_12 : decode cX8_picks 12 = .ok (.istore_n 2, 1) := by decide +kernel
theorem dX8_picks_13 : decode cX8_picks 13 = .ok (.aload_n 0, 1) := by decide +kernel
theorem dX8_picks_14 : decode cX8_picks 14 = .ok (.getfield 44, 3) := by decide +kernel
theorem dX8_picks_17 : decode cX8_picks 17 = .ok (.bipush 12, 2) := by decide +kernel
theorem dX8_picks_19 : decode cX8_picks 19 = .ok (.iaload, 1) := by decide +kernel
theorem dX8_picks_20 : decode cX8_picks 20 = .ok (.iconst 1, 1) := by decide +kernel
theorem dX8_picks_21 : decode cX8_picks 21 = .ok (.isub, 1) := by decide +kernel
theorem dX8_picks_22 : decode cX8_picks 22 = .ok (.istore_n 3, 1) := by decide +kernel
theorem dX8_picks_23 : decode cX8_picks 23 = .ok (.iload_n 3, 1) := by decide +kernel
theorem dX8_picks_24 : decode cX8_picks 24 = .ok (.ifCond .lt 33, 3) := by decide +kernel
theorem dX8_picks_27 : decode cX8_picks 27 = .ok (.aload_n 0, 1) := by decide +kernel
theorem dX8_picks_28 : decode cX8_picks 28 = .ok (.getfield 44, 3) := by decide +kernel
theorem dX8_picks_31 : decode cX8_picks 31 = .ok (.bipush 21, 2) := by decide +kernel
theorem dX8_picks_33 : decode cX8_picks 33 = .ok (.iload_n 3, 1) := by decide +kernel
theorem dX8_picks_34 : decode cX8_picks 34 = .ok (.iadd, 1) := by decide +kernel
theorem dX8_picks_35 : decode cX8_picks 35 = .ok (.iaload, 1) := by decide +kernel
theorem dX8_picks_36 : decode cX8_picks 36 = .ok (.aload_n 0, 1) := by decide +kernel
theorem dX8_picks_37 : decode cX8_picks 37 = .ok (.getfield 17, 3) := by decide +kernel
theorem dX8_picks_40 : decode cX8_picks 40 = .ok (.iload_n 1, 1) := by decide +kernel
theorem dX8_picks_41 : decode cX8_picks 41 = .ok (.iaload, 1) := by decide +kernel
theorem dX8_picks_42 : decode cX8_picks 42 = .ok (.if_icmp .ne 7, 3) := by decide +kernel
theorem dX8_picks_45 : decode cX8_picks 45 = .ok (.iload_n 3, 1) := by decide +kernel
theorem dX8_picks_46 : decode cX8_picks 46 = .ok (.goto 4, 3) := by decide +kernel
theorem dX8_picks_49 : decode cX8_picks 49 = .ok (.iload_n 2, 1) := by decide +kernel
theorem dX8_picks_50 : decode cX8_picks 50 = .ok (.istore_n 2, 1) := by decide +kernel
theorem dX8_picks_51 : decode cX8_picks 51 = .ok (.iinc 3 (-1), 3) := by decide +kernel
theorem dX8_picks_54 : decode cX8_picks 54 = .ok (.goto (-31), 3) := by decide +kernel
theorem dX8_picks_57 : decode cX8_picks 57 = .ok (.iload_n 2, 1) := by decide +kernel
theorem dX8_picks_58 : decode cX8_picks 58 = .ok (.bipush (-9), 2) := by decide +kernel
theorem dX8_picks_60 : decode cX8_picks 60 = .ok (.if_icmp .ne 6, 3) := by decide +kernel
theorem dX8_picks_63 : decode cX8_picks 63 = .ok (.bipush (-2), 2) := by decide +kernel
theorem dX8_picks_65 : decode cX8_picks 65 = .ok (.ireturn, 1) := by decide +kernel
theorem dX8_picks_66 : decode cX8_picks 66 = .ok (.aload_n 0, 1) := by decide +kernel
theorem dX8_picks_67 : decode cX8_picks 67 = .ok (.invokevirtual 158, 3) := by decide +kernel
theorem dX8_picks_70 : decode cX8_picks 70 = .ok (.aload_n 0, 1) := by decide +kernel
theorem dX8_picks_71 : decode cX8_picks 71 = .ok (.getfield 44, 3) := by decide +kernel
theorem dX8_picks_74 : decode cX8_picks 74 = .ok (.bipush 13, 2) := by decide +kernel
theorem dX8_picks_76 : decode cX8_picks 76 = .ok (.iload_n 2, 1) := by decide +kernel
theorem dX8_picks_77 : decode cX8_picks 77 = .ok (.iadd, 1) := by decide +kernel
theorem dX8_picks_78 : decode cX8_picks 78 = .ok (.iaload, 1) := by decide +kernel
theorem dX8_picks_79 : decode cX8_picks 79 = .ok (.istore_n 3, 1) := by decide +kernel
theorem dX8_picks_80 : decode cX8_picks 80 = .ok (.aload_n 0, 1) := by decide +kernel
theorem dX8_picks_81 : decode cX8_picks 81 = .ok (.getfield 44, 3) := by decide +kernel
theorem dX8_picks_84 : decode cX8_picks 84 = .ok (.bipush 6, 2) := by decide +kernel
theorem dX8_picks_86 : decode cX8_picks 86 = .ok (.iload_n 3, 1) := by decide +kernel
theorem dX8_picks_87 : decode cX8_picks 87 = .ok (.iadd, 1) := by decide +kernel
theorem dX8_picks_88 : decode cX8_picks 88 = .ok (.dup2, 1) := by decide +kernel
theorem dX8_picks_89 : decode cX8_picks 89 = .ok (.iaload, 1) := by decide +kernel
theorem dX8_picks_90 : decode cX8_picks 90 = .ok (.iconst 1, 1) := by decide +kernel
theorem dX8_picks_91 : decode cX8_picks 91 = .ok (.iload_n 1, 1) := by decide +kernel
theorem dX8_picks_92 : decode cX8_picks 92 = .ok (.ishl, 1) := by decide +kernel
theorem dX8_picks_93 : decode cX8_picks 93 = .ok (.ior, 1) := by decide +kernel
theorem dX8_picks_94 : decode cX8_picks 94 = .ok (.iastore, 1) := by decide +kernel
theorem dX8_picks_95 : decode cX8_picks 95 = .ok (.aload_n 0, 1) := by decide +kernel
theorem dX8_picks_96 : decode cX8_picks 96 = .ok (.iload_n 2, 1) := by decide +kernel
theorem dX8_picks_97 : decode cX8_picks 97 = .ok (.invokevirtual 168, 3) := by decide +kernel
theorem dX8_picks_100 : decode cX8_picks 100 = .ok (.iload_n 3, 1) := by decide +kernel
theorem dX8_picks_101 : decode cX8_picks 101 = .ok (.ireturn, 1) := by decide +kernel
set_option maxRecDepth 20000 in
theorem ggX8_hours_X8_in : GoodIn wsX8_hours wsX8_in := goodIn_r _ [5] (by decide +kernel) (by decide +kernel)
set_option maxRecDepth 20000 in
theorem gX8_hours_X8_in : GoodIn wsX8_hours (va_wsS RX8 72 yX8_in wsX8_in) := goodIn_app (goodIn_of _ (by decide +kernel)) ggX8_hours_X8_in
set_option maxRecDepth 20000 in
theorem ggX8_hours_X8_know : GoodIn wsX8_hours wsX8_know := goodIn_r _ [9, 10, 11, 1, 12, 13, 14, 15, 16, 17, 18, 19, 20, 21, 22, 23, 24, 25, 26, 27, 28, 29, 30, 31, 32, 33, 34, 35, 36, 37, 38, 39, 40, 41] (by decide +kernel) (by decide +kernel)
set_option maxRecDepth 20000 in
theorem gX8_hours_X8_know : GoodIn wsX8_hours (wsV RX8 158 RX8 yX8_know wsX8_know) := goodIn_app (goodIn_of _ (by decide +kernel)) ggX8_hours_X8_know
theorem dX8_hours_0 : decode cX8_hours 0 = .ok (.iload_n 1, 1) := by decide +kernel
theorem dX8_hours_1 : decode cX8_hours 1 = .ok (.iconst 1, 1) := by decide +kernel
theorem dX8_hours_2 : decode cX8_hours 2 = .ok (.bipush 9, 2) := by decide +kernel
theorem dX8_hours_4 : decode cX8_hours 4 = .ok (.invokestatic 72, 3) := by decide +kernel
theorem dX8_hours_7 : decode cX8_hours 7 = .ok (.ifCond .ne 5, 3) := by decide +kernel
theorem dX8_hours_10 : decode cX8_hours 10 = .ok (.iconst (-1), 1) := by decide +kernel
theorem dX8_hours_11 : decode cX8_hours 11 = .ok (.ireturn, 1) := by decide +kernel
theorem dX8_hours_12 : decode cX8_hours 12 = .ok (.aload_n 0, 1) := by decide +kernel
theorem dX8_hours_13 : decode cX8_hours 13 = .ok (.getfield 44, 3) := by decide +kernel
theorem dX8_hours_16 : decode cX8_hours 16 = .ok (.iconst 0, 1) := by decide +kernel
theorem dX8_hours_17 : decode cX8_hours 17 = .ok (.iaload, 1) := by decide +kernel
theorem dX8_hours_18 : decode cX8_hours 18 = .ok (.iload_n 1, 1) := by decide +kernel
theorem dX8_hours_19 : decode cX8_hours 19 = .ok (.iadd, 1) := by decide +kernel
theorem dX8_hours_20 : decode cX8_hours 20 = .ok (.sipush 999, 3) := by decide +kernel
theorem dX8_hours_23 : decode cX8_hours 23 = .ok (.if_icmp .le 6, 3) := by decide +kernel
theorem dX8_hours_26 : decode cX8_hours 26 = .ok (.bipush (-2), 2) := by decide +kernel
theorem dX8_hours_28 : decode cX8_hours 28 = .ok (.ireturn, 1) := by decide +kernel
theorem dX8_hours_29 : decode cX8_hours 29 = .ok (.aload_n 0, 1) := by decide +kernel
theorem dX8_hours_30 : decode cX8_hours 30 = .ok (.invokevirtual 158, 3) := by decide +kernel
theorem dX8_hours_33 : decode cX8_hours 33 = .ok (.aload_n 0, 1) := by decide +kernel
theorem dX8_hours_34 : decode cX8_hours 34 = .ok (.getfield 44, 3) := by decide +kernel
theorem dX8_hours_37 : decode cX8_hours 37 = .ok (.iconst 0, 1) := by decide +kernel
theorem dX8_hours_38 : decode cX8_hours 38 = .ok (.dup2, 1) := by decide +kernel
theorem dX8_hours_39 : decode cX8_hours 39 = .ok (.iaload, 1) := by decide +kernel
theorem dX8_hours_40 : decode cX8_hours 40 = .ok (.iload_n 1, 1) := by decide +kernel
theorem dX8_hours_41 : decode cX8_hours 41 = .ok (.iadd, 1) := by decide +kernel
theorem dX8_hours_42 : decode cX8_hours 42 = .ok (.iastore, 1) := by decide +kernel
theorem dX8_hours_43 : decode cX8_hours 43 = .ok (.aload_n 0, 1) := by decide +kernel
theorem dX8_hours_44 : decode cX8_hours 44 = .ok (.getfield 44, 3) := by decide +kernel
theorem dX8_hours_47 : decode cX8_hours 47 = .ok (.iconst 0, 1) := by decide +kernel
theorem dX8_hours_48 : decode cX8_hours 48 = .ok (.iaload, 1) := by decide +kernel
theorem dX8_hours_49 : decode cX8_hours 49 = .ok (.ireturn, 1) := by decide +kernel
set_option maxRecDepth 20000 in
theorem ggX8_damps_X8_in : GoodIn wsX8_damps wsX8_in := goodIn_r _ [5] (by decide +kernel) (by decide +kernel)
set_option maxRecDepth 20000 in
theorem gX8_damps_X8_in : GoodIn wsX8_damps (va_wsS RX8 72 yX8_in wsX8_in) := goodIn_app (goodIn_of _ (by decide +kernel)) ggX8_damps_X8_in
set_option maxRecDepth 20000 in
theorem ggX8_damps_X8_know : GoodIn wsX8_damps wsX8_know := goodIn_r _ [9, 10, 11, 1, 12, 13, 14, 15, 16, 17, 18, 19, 20, 21, 22, 23, 24, 25, 26, 27, 28, 29, 30, 31, 32, 33, 34, 35, 36, 37, 38, 39, 40, 41] (by decide +kernel) (by decide +kernel)
set_option maxRecDepth 20000 in
theorem gX8_damps_X8_know : GoodIn wsX8_damps (wsV RX8 158 RX8 yX8_know wsX8_know) := goodIn_app (goodIn_of _ (by decide +kernel)) ggX8_damps_X8_know
theorem dX8_damps_0 : decode cX8_damps 0 = .ok (.iload_n 1, 1) := by decide +kernel
theorem dX8_damps_1 : decode cX8_damps 1 = .ok (.iconst 0, 1) := by decide +kernel
theorem dX8_damps_2 : decode cX8_damps 2 = .ok (.iconst 5, 1) := by decide +kernel
theorem dX8_damps_3 : decode cX8_damps 3 = .ok (.invokestatic 72, 3) := by decide +kernel
theorem dX8_damps_6 : decode cX8_damps 6 = .ok (.ifCond .ne 5, 3) := by decide +kernel
theorem dX8_damps_9 : decode cX8_damps 9 = .ok (.iconst (-1), 1) := by decide +kernel
theorem dX8_damps_10 : decode cX8_damps 10 = .ok (.ireturn, 1) := by decide +kernel
theorem dX8_damps_11 : decode cX8_damps 11 = .ok (.aload_n 0, 1) := by decide +kernel
theorem dX8_damps_12 : decode cX8_damps 12 = .ok (.getfield 44, 3) := by decide +kernel
theorem dX8_damps_15 : decode cX8_damps 15 = .ok (.iconst 1, 1) := by decide +kernel
theorem dX8_damps_16 : decode cX8_damps 16 = .ok (.iaload, 1) := by decide +kernel
theorem dX8_damps_17 : decode cX8_damps 17 = .ok (.istore_n 2, 1) := by decide +kernel
theorem dX8_damps_18 : decode cX8_damps 18 = .ok (.iload_n 2, 1) := by decide +kernel
theorem dX8_damps_19 : decode cX8_damps 19 = .ok (.iload_n 1, 1) := by decide +kernel
theorem dX8_damps_20 : decode cX8_damps 20 = .ok (.if_icmp .ne 6, 3) := by decide +kernel
theorem dX8_damps_23 : decode cX8_damps 23 = .ok (.bipush (-2), 2) := by decide +kernel
theorem dX8_damps_25 : decode cX8_damps 25 = .ok (.ireturn, 1) := by decide +kernel
theorem dX8_damps_26 : decode cX8_damps 26 = .ok (.aload_n 0, 1) := by decide +kernel
theorem dX8_damps_27 : decode cX8_damps 27 = .ok (.invokevirtual 158, 3) := by decide +kernel
theorem dX8_damps_30 : decode cX8_damps 30 = .ok (.aload_n 0, 1) := by decide +kernel
theorem dX8_damps_31 : decode cX8_damps 31 = .ok (.getfield 44, 3) := by decide +kernel
theorem dX8_damps_34 : decode cX8_damps 34 = .ok (.iconst 1, 1) := by decide +kernel
theorem dX8_damps_35 : decode cX8_damps 35 = .ok (.iload_n 1, 1) := by decide +kernel
theorem dX8_damps_36 : decode cX8_damps 36 = .ok (.iastore, 1) := by decide +kernel
theorem dX8_damps_37 : decode cX8_damps 37 = .ok (.iload_n 2, 1) := by decide +kernel
theorem dX8_damps_38 : decode cX8_damps 38 = .ok (.ireturn, 1) := by decide +kernel
set_option maxRecDepth 20000 in
theorem ggX8_plucks_X8_in : GoodIn wsX8_plucks wsX8_in := goodIn_r _ [5] (by decide +kernel) (by decide +kernel)
set_option maxRecDepth 20000 in
theorem gX8_plucks_X8_in : GoodIn wsX8_plucks (va_wsS RX8 72 yX8_in wsX8_in) := goodIn_app (goodIn_of _ (by decide +kernel)) ggX8_plucks_X8_in
set_option maxRecDepth 20000 in
theorem ggX8_plucks_X8_know : GoodIn wsX8_plucks wsX8_know := goodIn_r _ [9, 10, 11, 1, 12, 13, 14, 15, 16, 17, 18, 19, 20, 21, 22, 23, 24, 25, 26, 27, 28, 29, 30, 31, 32, 33, 34, 35, 36, 37, 38, 39, 40, 41] (by decide +kernel) (by decide +kernel)
set_option maxRecDepth 20000 in
theorem gX8_plucks_X8_know : GoodIn wsX8_plucks (wsV RX8 158 RX8 yX8_know wsX8_know) := goodIn_app (goodIn_of _ (by decide +kernel)) ggX8_plucks_X8_know
theorem dX8_plucks_0 : decode cX8_plucks 0 = .ok (.iload_n 1, 1) := by decide +kernel
theorem dX8_plucks_1 : decode cX8_plucks 1 = .ok (.iconst 0, 1) := by decide +kernel
theorem dX8_plucks_2 : decode cX8_plucks 2 = .ok (.iconst 3, 1) := by decide +kernel
theorem dX8_plucks_3 : decode cX8_plucks 3 = .ok (.invokestatic 72, 3) := by decide +kernel
theorem dX8_plucks_6 : decode cX8_plucks 6 = .ok (.ifCond .eq 13, 3) := by decide +kernel
theorem dX8_plucks_9 : decode cX8_plucks 9 = .ok (.iload_n 2, 1) := by decide +kernel
theorem dX8_plucks_10 : decode cX8_plucks 10 = .ok (.iconst 1, 1) := by decide +kernel
theorem dX8_plucks_11 : decode cX8_plucks 11 = .ok (.bipush 9, 2) := by decide +kernel
theorem dX8_plucks_13 : decode cX8_plucks 13 = .ok (.invokestatic 72, 3) := by decide +kernel
theorem dX8_plucks_16 : decode cX8_plucks 16 = .ok (.ifCond .ne 5, 3) := by decide +kernel
theorem dX8_plucks_19 : decode cX8_plucks 19 = .ok (.iconst (-1), 1) := by decide +kernel
theorem dX8_plucks_20 : decode cX8_plucks 20 = .ok (.ireturn, 1) := by decide +kernel
theorem dX8_plucks_21 : decode cX8_plucks 21 = .ok (.aload_n 0, 1) := by decide +kernel
theorem dX8_plucks_22 : decode cX8_plucks 22 = .ok (.getfield 44, 3) := by decide +kernel
theorem dX8_plucks_25 : decode cX8_plucks 25 = .ok (.iconst 2, 1) := by decide +kernel
theorem dX8_plucks_26 : decode cX8_plucks 26 = .ok (.iload_n 1, 1) := by decide +kernel
theorem dX8_plucks_27 : decode cX8_plucks 27 = .ok (.iadd, 1) := by decide +kernel
theorem dX8_plucks_28 : decode cX8_plucks 28 = .ok (.iaload, 1) := by decide +kernel
theorem dX8_plucks_29 : decode cX8_plucks 29 = .ok (.bipush 20, 2) := by decide +kernel
theorem dX8_plucks_31 : decode cX8_plucks 31 = .ok (.if_icmp .ne 6, 3) := by decide +kernel
theorem dX8_plucks_34 : decode cX8_plucks 34 = .ok (.bipush (-2), 2) := by decide +kernel
theorem dX8_plucks_36 : decode cX8_plucks 36 = .ok (.ireturn, 1) := by decide +kernel
theorem dX8_plucks_37 : decode cX8_plucks 37 = .ok (.aload_n 0, 1) := by decide +kernel
theorem dX8_plucks_38 : decode cX8_plucks 38 = .ok (.invokevirtual 158, 3) := by decide +kernel
theorem dX8_plucks_41 : decode cX8_plucks 41 = .ok (.aload_n 0, 1) := by decide +kernel
theorem dX8_plucks_42 : decode cX8_plucks 42 = .ok (.getfield 44, 3) := by decide +kernel
theorem dX8_plucks_45 : decode cX8_plucks 45 = .ok (.iconst 2, 1) := by decide +kernel
theorem dX8_plucks_46 : decode cX8_plucks 46 = .ok (.iload_n 1, 1) := by decide +kernel
theorem dX8_plucks_47 : decode cX8_plucks 47 = .ok (.iadd, 1) := by decide +kernel
theorem dX8_plucks_48 : decode cX8_plucks 48 = .ok (.iaload, 1) := by decide +kernel
theorem dX8_plucks_49 : decode cX8_plucks 49 = .ok (.iload_n 2, 1) := by decide +kernel
theorem dX8_plucks_50 : decode cX8_plucks 50 = .ok (.iadd, 1) := by decide +kernel
theorem dX8_plucks_51 : decode cX8_plucks 51 = .ok (.istore_n 3, 1) := by decide +kernel
theorem dX8_plucks_52 : decode cX8_plucks 52 = .ok (.aload_n 0, 1) := by decide +kernel
theorem dX8_plucks_53 : decode cX8_plucks 53 = .ok (.getfield 44, 3) := by decide +kernel
theorem dX8_plucks_56 : decode cX8_plucks 56 = .ok (.iconst 2, 1) := by decide +kernel
theorem dX8_plucks_57 : decode cX8_plucks 57 = .ok (.iload_n 1, 1) := by decide +kernel
theorem dX8_plucks_58 : decode cX8_plucks 58 = .ok (.iadd, 1) := by decide +kernel
theorem dX8_plucks_59 : decode cX8_plucks 59 = .ok (.iload_n 3, 1) := by decide +kernel
theorem dX8_plucks_60 : decode cX8_plucks 60 = .ok (.bipush 20, 2) := by decide +kernel
theorem dX8_plucks_62 : decode cX8_plucks 62 = .ok (.if_icmp .le 8, 3) := by decide +kernel
theorem dX8_plucks_65 : decode cX8_plucks 65 = .ok (.bipush 20, 2) := by decide +kernel
theorem dX8_plucks_67 : decode cX8_plucks 67 = .ok (.goto 4, 3) := by decide +kernel
theorem dX8_plucks_70 : decode cX8_plucks 70 = .ok (.iload_n 3, 1) := by decide +kernel
theorem dX8_plucks_71 : decode cX8_plucks 71 = .ok (.iastore, 1) := by decide +kernel
theorem dX8_plucks_72 : decode cX8_plucks 72 = .ok (.aload_n 0, 1) := by decide +kernel
theorem dX8_plucks_73 : decode cX8_plucks 73 = .ok (.getfield 44, 3) := by decide +kernel
theorem dX8_plucks_76 : decode cX8_plucks 76 = .ok (.iconst 2, 1) := by decide +kernel
theorem dX8_plucks_77 : decode cX8_plucks 77 = .ok (.iload_n 1, 1) := by decide +kernel
theorem dX8_plucks_78 : decode cX8_plucks 78 = .ok (.iadd, 1) := by decide +kernel
theorem dX8_plucks_79 : decode cX8_plucks 79 = .ok (.iaload, 1) := by decide +kernel
theorem dX8_plucks_80 : decode cX8_plucks 80 = .ok (.ireturn, 1) := by decide +kernel
theorem dX8_undo_0 : decode cX8_undo 0 = .ok (.aload_n 0, 1) := by decide +kernel
theorem dX8_undo_1 : decode cX8_undo 1 = .ok (.getfield 47, 3) := by decide +kernel
theorem dX8_undo_4 : decode cX8_undo 4 = .ok (.iconst 0, 1) := by decide +kernel
theorem dX8_undo_5 : decode cX8_undo 5 = .ok (.iaload, 1) := by decide +kernel
theorem dX8_undo_6 : decode cX8_undo 6 = .ok (.ifCond .ne 6, 3) := by decide +kernel
theorem dX8_undo_9 : decode cX8_undo 9 = .ok (.bipush (-2), 2) := by decide +kernel
theorem dX8_undo_11 : decode cX8_undo 11 = .ok (.ireturn, 1) := by decide +kernel
theorem dX8_undo_12 : decode cX8_undo 12 = .ok (.aload_n 0, 1) := by decide +kernel
theorem dX8_undo_13 : decode cX8_undo 13 = .ok (.getfield 47, 3) := by decide +kernel
theorem dX8_undo_16 : decode cX8_undo 16 = .ok (.iconst 0, 1) := by decide +kernel
theorem dX8_undo_17 : decode cX8_undo 17 = .ok (.dup2, 1) := by decide +kernel
theorem dX8_undo_18 : decode cX8_undo 18 = .ok (.iaload, 1) := by decide +kernel
theorem dX8_undo_19 : decode cX8_undo 19 = .ok (.iconst 1, 1) := by decide +kernel
theorem dX8_undo_20 : decode cX8_undo 20 = .ok (.isub, 1) := by decide +kernel
theorem dX8_undo_21 : decode cX8_undo 21 = .ok (.iastore, 1) := by decide +kernel
theorem dX8_undo_22 : decode cX8_undo 22 = .ok (.iconst 0, 1) := by decide +kernel
theorem dX8_undo_23 : decode cX8_undo 23 = .ok (.istore_n 1, 1) := by decide +kernel
theorem dX8_undo_24 : decode cX8_undo 24 = .ok (.iload_n 1, 1) := by decide +kernel
theorem dX8_undo_25 : decode cX8_undo 25 = .ok (.bipush 29, 2) := by decide +kernel
theorem dX8_undo_27 : decode cX8_undo 27 = .ok (.if_icmp .ge 31, 3) := by decide +kernel
theorem dX8_undo_30 : decode cX8_undo 30 = .ok (.aload_n 0, 1) := by decide +kernel
theorem dX8_undo_31 : decode cX8_undo 31 = .ok (.getfield 44, 3) := by decide +kernel
theorem dX8_undo_34 : decode cX8_undo 34 = .ok (.iload_n 1, 1) := by decide +kernel
theorem dX8_undo_35 : decode cX8_undo 35 = .ok (.aload_n 0, 1) := by decide +kernel
theorem dX8_undo_36 : decode cX8_undo 36 = .ok (.getfield 50, 3) := by decide +kernel
theorem dX8_undo_39 : decode cX8_undo 39 = .ok (.bipush 29, 2) := by decide +kernel
theorem dX8_undo_41 : decode cX8_undo 41 = .ok (.aload_n 0, 1) := by decide +kernel
theorem dX8_undo_42 : decode cX8_undo 42 = .ok (.getfield 47, 3) := by decide +kernel
theorem dX8_undo_45 : decode cX8_undo 45 = .ok (.iconst 0, 1) := by decide +kernel
theorem dX8_undo_46 : decode cX8_undo 46 = .ok (.iaload, 1) := by decide +kernel
theorem dX8_undo_47 : decode cX8_undo 47 = .ok (.imul, 1) := by decide +kernel
theorem dX8_undo_48 : decode cX8_undo 48 = .ok (.iload_n 1, 1) := by decide +kernel
theorem dX8_undo_49 : decode cX8_undo 49 = .ok (.iadd, 1) := by decide +kernel
theorem dX8_undo_50 : decode cX8_undo 50 = .ok (.iaload, 1) := by decide +kernel
theorem dX8_undo_51 : decode cX8_undo 51 = .ok (.iastore, 1) := by decide +kernel
theorem dX8_undo_52 : decode cX8_undo 52 = .ok (.iinc 1 1, 3) := by decide +kernel
theorem dX8_undo_55 : decode cX8_undo 55 = .ok (.goto (-31), 3) := by decide +kernel
theorem dX8_undo_58 : decode cX8_undo 58 = .ok (.aload_n 0, 1) := by decide +kernel
theorem dX8_undo_59 : decode cX8_undo 59 = .ok (.getfield 47, 3) := by decide +kernel
theorem dX8_undo_62 : decode cX8_undo 62 = .ok (.iconst 0, 1) := by decide +kernel
theorem dX8_undo_63 : decode cX8_undo 63 = .ok (.iaload, 1) := by decide +kernel
theorem dX8_undo_64 : decode cX8_undo 64 = .ok (.ireturn, 1) := by decide +kernel
theorem dX8_now_0 : decode cX8_now 0 = .ok (.iload_n 1, 1) := by decide +kernel
theorem dX8_now_1 : decode cX8_now 1 = .ok (.tableswitch 58 0 6 #[43, 43, 43, 43, 43, 43, 50], 43) := by decide +kernel
theorem dX8_now_44 : decode cX8_now 44 = .ok (.aload_n 0, 1) := by decide +kernel
theorem dX8_now_45 : decode cX8_now 45 = .ok (.getfield 44, 3) := by decide +kernel
theorem dX8_now_48 : decode cX8_now 48 = .ok (.iload_n 1, 1) := by decide +kernel
theorem dX8_now_49 : decode cX8_now 49 = .ok (.iaload, 1) := by decide +kernel
theorem dX8_now_50 : decode cX8_now 50 = .ok (.ireturn, 1) := by decide +kernel
theorem dX8_now_51 : decode cX8_now 51 = .ok (.aload_n 0, 1) := by decide +kernel
theorem dX8_now_52 : decode cX8_now 52 = .ok (.getfield 44, 3) := by decide +kernel
theorem dX8_now_55 : decode cX8_now 55 = .ok (.bipush 12, 2) := by decide +kernel
theorem dX8_now_57 : decode cX8_now 57 = .ok (.iaload, 1) := by decide +kernel
theorem dX8_now_58 : decode cX8_now 58 = .ok (.ireturn, 1) := by decide +kernel
theorem dX8_now_59 : decode cX8_now 59 = .ok (.iconst (-1), 1) := by decide +kernel
theorem dX8_now_60 : decode cX8_now 60 = .ok (.ireturn, 1) := by decide +kernel
set_option maxRecDepth 20000 in
theorem ggX8_lands_X8_isOne : GoodIn wsX8_lands wsX8_isOne := goodIn_r _ [5, 6, 7, 8, 4, 9, 35, 36, 37, 38, 39, 40, 41, 42, 43, 44, 45, 46, 47, 48, 49, 50, 51, 52, 53, 54, 55, 56, 57, 58, 59, 60, 61, 62, 63, 64] (by decide +kernel) (by decide +kernel)
set_option maxRecDepth 20000 in
theorem gX8_lands_X8_isOne : GoodIn wsX8_lands (wsV RX8 142 RX8 yX8_isOne wsX8_isOne) := goodIn_app (goodIn_of _ (by decide +kernel)) ggX8_lands_X8_isOne
set_option maxRecDepth 20000 in
theorem ggX8_lands_X8_isSaying : GoodIn wsX8_lands wsX8_isSaying := goodIn_r _ [13, 14, 7, 8, 4, 9, 35, 36, 37, 38, 39, 40, 41, 42, 43, 44, 45, 46, 47, 48, 49, 50, 51, 52, 53, 54, 55, 56, 57, 58, 59, 60, 61, 62, 63, 64] (by decide +kernel) (by decide +kernel)
set_option maxRecDepth 20000 in
theorem gX8_lands_X8_isSaying : GoodIn wsX8_lands (wsV RX8 148 RX8 yX8_isSaying wsX8_isSaying) := goodIn_app (goodIn_of _ (by decide +kernel)) ggX8_lands_X8_isSaying
set_option maxRecDepth 20000 in
theorem ggX8_lands_X8_isShot : GoodIn wsX8_lands wsX8_isShot := goodIn_r _ [17, 7, 8, 4, 9] (by decide +kernel) (by decide +kernel)
set_option maxRecDepth 20000 in
theorem gX8_lands_X8_isShot : GoodIn wsX8_lands (va_wsS RX8 155 yX8_isShot wsX8_isShot) := goodIn_app (goodIn_of _ (by decide +kernel)) ggX8_lands_X8_isShot
set_option maxRecDepth 20000 in
theorem ggX8_lands_X8_windIn : GoodIn wsX8_lands wsX8_windIn := goodIn_r _ [21, 22, 23, 24, 35, 36, 37, 38, 39, 40, 41, 42, 43, 44, 45, 46, 47, 48, 49, 50, 51, 52, 53, 54, 55, 56, 57, 58, 59, 60, 61, 62, 63, 64] (by decide +kernel) (by decide +kernel)
set_option maxRecDepth 20000 in
theorem gX8_lands_X8_windIn : GoodIn wsX8_lands (wsV RX8 151 RX8 yX8_windIn wsX8_windIn) := goodIn_app (goodIn_of _ (by decide +kernel)) ggX8_lands_X8_windIn
set_option maxRecDepth 20000 in
theorem ggX8_lands_X8_landsBy : GoodIn wsX8_lands wsX8_landsBy := goodIn_r _ [28, 29, 30, 23, 31, 32, 33, 4, 34, 7, 8, 9, 35, 36, 37, 38, 39, 40, 41, 42, 43, 44, 45, 46, 47, 48, 49, 50, 51, 52, 53, 54, 55, 56, 57, 58, 59, 60, 61, 62, 63, 64] (by decide +kernel) (by decide +kernel)
set_option maxRecDepth 20000 in
theorem gX8_lands_X8_landsBy : GoodIn wsX8_lands (wsV RX8 161 RX8 yX8_landsBy wsX8_landsBy) := goodIn_app (goodIn_of _ (by decide +kernel)) ggX8_lands_X8_landsBy
theorem dX8_lands_0 : decode cX8_lands 0 = .ok (.aload_n 0, 1) := by decide +kernel
theorem dX8_lands_1 : decode cX8_lands 1 = .ok (.iload_n 1, 1) := by decide +kernel
theorem dX8_lands_2 : decode cX8_lands 2 = .ok (.invokevirtual 142, 3) := by decide +kernel
theorem dX8_lands_5 : decode cX8_lands 5 = .ok (.ifCond .eq 22, 3) := by decide +kernel
theorem dX8_lands_8 : decode cX8_lands 8 = .ok (.aload_n 0, 1) := by decide +kernel
theorem dX8_lands_9 : decode cX8_lands 9 = .ok (.iload_n 2, 1) := by decide +kernel
theorem dX8_lands_10 : decode cX8_lands 10 = .ok (.invokevirtual 148, 3) := by decide +kernel
theorem dX8_lands_13 : decode cX8_lands 13 = .ok (.ifCond .eq 14, 3) := by decide +kernel
theorem dX8_lands_16 : decode cX8_lands 16 = .ok (.iload_n 3, 1) := by decide +kernel
theorem dX8_lands_17 : decode cX8_lands 17 = .ok (.iload 4, 2) := by decide +kernel
theorem dX8_lands_19 : decode cX8_lands 19 = .ok (.iload 5, 2) := by decide +kernel
theorem dX8_lands_21 : decode cX8_lands 21 = .ok (.invokestatic 155, 3) := by decide +kernel
theorem dX8_lands_24 : decode cX8_lands 24 = .ok (.ifCond .ne 5, 3) := by decide +kernel
theorem dX8_lands_27 : decode cX8_lands 27 = .ok (.iconst (-1), 1) := by decide +kernel
theorem dX8_lands_28 : decode cX8_lands 28 = .ok (.ireturn, 1) := by decide +kernel
theorem dX8_lands_29 : decode cX8_lands 29 = .ok (.aload_n 0, 1) := by decide +kernel
theorem dX8_lands_30 : decode cX8_lands 30 = .ok (.iload_n 1, 1) := by decide +kernel
theorem dX8_lands_31 : decode cX8_lands 31 = .ok (.iload_n 2, 1) := by decide +kernel
theorem dX8_lands_32 : decode cX8_lands 32 = .ok (.iload_n 3, 1) := by decide +kernel
theorem dX8_lands_33 : decode cX8_lands 33 = .ok (.iload 4, 2) := by decide +kernel
theorem dX8_lands_35 : decode cX8_lands 35 = .ok (.iload 5, 2) := by decide +kernel
theorem dX8_lands_37 : decode cX8_lands 37 = .ok (.aload_n 0, 1) := by decide +kernel
theorem dX8_lands_38 : decode cX8_lands 38 = .ok (.iconst 0, 1) := by decide +kernel
theorem dX8_lands_39 : decode cX8_lands 39 = .ok (.invokevirtual 151, 3) := by decide +kernel
theorem dX8_lands_42 : decode cX8_lands 42 = .ok (.invokevirtual 161, 3) := by decide +kernel
theorem dX8_lands_45 : decode cX8_lands 45 = .ok (.ireturn, 1) := by decide +kernel
set_option maxRecDepth 20000 in
theorem ggX8_areUnlike_X8_isOne : GoodIn wsX8_areUnlike wsX8_isOne := goodIn_r _ [5, 6, 7, 8, 4, 9, 10, 11, 12, 13, 14, 15, 16, 17, 18, 19, 20, 21, 22, 23, 24, 25, 26, 27, 28, 29, 30, 31, 32, 33, 34, 35, 36, 37, 38, 39] (by decide +kernel) (by decide +kernel)
set_option maxRecDepth 20000 in
theorem gX8_areUnlike_X8_isOne : GoodIn wsX8_areUnlike (wsV RX8 142 RX8 yX8_isOne wsX8_isOne) := goodIn_app (goodIn_of _ (by decide +kernel)) ggX8_areUnlike_X8_isOne
theorem dX8_areUnlike_0 : decode cX8_areUnlike 0 = .ok (.aload_n 0, 1) := by decide +kernel
theorem dX8_areUnlike_1 : decode cX8_areUnlike 1 = .ok (.iload_n 1, 1) := by decide +kernel
theorem dX8_areUnlike_2 : decode cX8_areUnlike 2 = .ok (.invokevirtual 142, 3) := by decide +kernel
theorem dX8_areUnlike_5 : decode cX8_areUnlike 5 = .ok (.ifCond .eq 20, 3) := by decide +kernel
theorem dX8_areUnlike_8 : decode cX8_areUnlike 8 = .ok (.aload_n 0, 1) := by decide +kernel
theorem dX8_areUnlike_9 : decode cX8_areUnlike 9 = .ok (.iload_n 2, 1) := by decide +kernel
theorem dX8_areUnlike_10 : decode cX8_areUnlike 10 = .ok (.invokevirtual 142, 3) := by decide +kernel
theorem dX8_areUnlike_13 : decode cX8_areUnlike 13 = .ok (.ifCond .eq 12, 3) := by decide +kernel
theorem dX8_areUnlike_16 : decode cX8_areUnlike 16 = .ok (.iload_n 1, 1) := by decide +kernel
theorem dX8_areUnlike_17 : decode cX8_areUnlike 17 = .ok (.iload_n 2, 1) := by decide +kernel
theorem dX8_areUnlike_18 : decode cX8_areUnlike 18 = .ok (.if_icmp .eq 7, 3) := by decide +kernel
theorem dX8_areUnlike_21 : decode cX8_areUnlike 21 = .ok (.iconst 1, 1) := by decide +kernel
theorem dX8_areUnlike_22 : decode cX8_areUnlike 22 = .ok (.goto 4, 3) := by decide +kernel
theorem dX8_areUnlike_25 : decode cX8_areUnlike 25 = .ok (.iconst 0, 1) := by decide +kernel
theorem dX8_areUnlike_26 : decode cX8_areUnlike 26 = .ok (.ireturn, 1) := by decide +kernel
set_option maxRecDepth 20000 in
theorem ggX8_isHeard_X8_landsBy : GoodIn wsX8_isHeard wsX8_landsBy := goodIn_r _ [5, 6, 7, 8, 9, 10, 11, 4, 12, 13, 14, 15, 21, 22, 23, 24, 25, 26, 27, 28, 29, 30, 31, 32, 33, 34, 35, 36, 37, 38, 39, 40, 41, 42, 43, 44, 45, 46, 47, 48, 49, 50] (by decide +kernel) (by decide +kernel)
set_option maxRecDepth 20000 in
theorem gX8_isHeard_X8_landsBy : GoodIn wsX8_isHeard (wsV RX8 161 RX8 yX8_landsBy wsX8_landsBy) := goodIn_app (goodIn_of _ (by decide +kernel)) ggX8_isHeard_X8_landsBy
set_option maxRecDepth 20000 in
theorem ggX8_isHeard_X8_doesHear : GoodIn wsX8_isHeard wsX8_doesHear := goodIn_r _ [19, 9, 20, 21, 22, 23, 24, 25, 26, 27, 28, 29, 30, 31, 32, 33, 34, 35, 36, 37, 38, 39, 40, 41, 42, 43, 44, 45, 46, 47, 48, 49, 50] (by decide +kernel) (by decide +kernel)
set_option maxRecDepth 20000 in
theorem gX8_isHeard_X8_doesHear : GoodIn wsX8_isHeard (wsV RX8 138 RX8 yX8_doesHear wsX8_doesHear) := goodIn_app (goodIn_of _ (by decide +kernel)) ggX8_isHeard_X8_doesHear
theorem dX8_isHeard_0 : decode cX8_isHeard 0 = .ok (.aload_n 0, 1) := by decide +kernel
theorem dX8_isHeard_1 : decode cX8_isHeard 1 = .ok (.iload_n 2, 1) := by decide +kernel
theorem dX8_isHeard_2 : decode cX8_isHeard 2 = .ok (.aload_n 0, 1) := by decide +kernel
theorem dX8_isHeard_3 : decode cX8_isHeard 3 = .ok (.iload_n 1, 1) := by decide +kernel
theorem dX8_isHeard_4 : decode cX8_isHeard 4 = .ok (.iload_n 3, 1) := by decide +kernel
theorem dX8_isHeard_5 : decode cX8_isHeard 5 = .ok (.iload 4, 2) := by decide +kernel
theorem dX8_isHeard_7 : decode cX8_isHeard 7 = .ok (.bipush 100, 2) := by decide +kernel
theorem dX8_isHeard_9 : decode cX8_isHeard 9 = .ok (.idiv, 1) := by decide +kernel
theorem dX8_isHeard_10 : decode cX8_isHeard 10 = .ok (.iload 4, 2) := by decide +kernel
theorem dX8_isHeard_12 : decode cX8_isHeard 12 = .ok (.bipush 10, 2) := by decide +kernel
theorem dX8_isHeard_14 : decode cX8_isHeard 14 = .ok (.idiv, 1) := by decide +kernel
theorem dX8_isHeard_15 : decode cX8_isHeard 15 = .ok (.bipush 10, 2) := by decide +kernel
theorem dX8_isHeard_17 : decode cX8_isHeard 17 = .ok (.irem, 1) := by decide +kernel
theorem dX8_isHeard_18 : decode cX8_isHeard 18 = .ok (.iload 4, 2) := by decide +kernel
theorem dX8_isHeard_20 : decode cX8_isHeard 20 = .ok (.bipush 10, 2) := by decide +kernel
theorem dX8_isHeard_22 : decode cX8_isHeard 22 = .ok (.irem, 1) := by decide +kernel
theorem dX8_isHeard_23 : decode cX8_isHeard 23 = .ok (.iload 5, 2) := by decide +kernel
theorem dX8_isHeard_25 : decode cX8_isHeard 25 = .ok (.invokevirtual 161, 3) := by decide +kernel
theorem dX8_isHeard_28 : decode cX8_isHeard 28 = .ok (.invokevirtual 138, 3) := by decide +kernel
theorem dX8_isHeard_31 : decode cX8_isHeard 31 = .ok (.ireturn, 1) := by decide +kernel
set_option maxRecDepth 20000 in
theorem ggX8_call_X8_areUnlike : GoodIn wsX8_call wsX8_areUnlike := goodIn_r _ [5, 6, 7, 8, 4, 9, 10, 11, 12, 13, 45, 46, 47, 48, 49, 50, 51, 52, 53, 54, 55, 56, 57, 58, 59, 60, 61, 62, 63, 64, 65, 66, 67, 68, 69, 70, 71, 72, 73, 74] (by decide +kernel) (by decide +kernel)
set_option maxRecDepth 20000 in
theorem gX8_call_X8_areUnlike : GoodIn wsX8_call (wsV RX8 171 RX8 yX8_areUnlike wsX8_areUnlike) := goodIn_app (goodIn_of _ (by decide +kernel)) ggX8_call_X8_areUnlike
set_option maxRecDepth 20000 in
theorem ggX8_call_X8_isSaying : GoodIn wsX8_call wsX8_isSaying := goodIn_r _ [17, 18, 11, 12, 4, 13, 45, 46, 47, 48, 49, 50, 51, 52, 53, 54, 55, 56, 57, 58, 59, 60, 61, 62, 63, 64, 65, 66, 67, 68, 69, 70, 71, 72, 73, 74] (by decide +kernel) (by decide +kernel)
set_option maxRecDepth 20000 in
theorem gX8_call_X8_isSaying : GoodIn wsX8_call (wsV RX8 148 RX8 yX8_isSaying wsX8_isSaying) := goodIn_app (goodIn_of _ (by decide +kernel)) ggX8_call_X8_isSaying
set_option maxRecDepth 20000 in
theorem ggX8_call_X8_windIn : GoodIn wsX8_call wsX8_windIn := goodIn_r _ [22, 23, 24, 25, 45, 46, 47, 48, 49, 50, 51, 52, 53, 54, 55, 56, 57, 58, 59, 60, 61, 62, 63, 64, 65, 66, 67, 68, 69, 70, 71, 72, 73, 74] (by decide +kernel) (by decide +kernel)
set_option maxRecDepth 20000 in
theorem gX8_call_X8_windIn : GoodIn wsX8_call (wsV RX8 151 RX8 yX8_windIn wsX8_windIn) := goodIn_app (goodIn_of _ (by decide +kernel)) ggX8_call_X8_windIn
set_option maxRecDepth 20000 in
theorem ggX8_call_X8_isHeard : GoodIn wsX8_call wsX8_isHeard := goodIn_r _ [29, 30, 31, 32, 4, 33, 34, 35, 24, 36, 37, 38, 39, 11, 12, 13, 40, 41, 42, 43, 44, 45, 46, 47, 48, 49, 50, 51, 52, 53, 54, 55, 56, 57, 58, 59, 60, 61, 62, 63, 64, 65, 66, 67, 68, 69, 70, 71, 72, 73, 74] (by decide +kernel) (by decide +kernel)
set_option maxRecDepth 20000 in
theorem gX8_call_X8_isHeard : GoodIn wsX8_call (wsV RX8 174 RX8 yX8_isHeard wsX8_isHeard) := goodIn_app (goodIn_of _ (by decide +kernel)) ggX8_call_X8_isHeard
theorem dX8_call_0 : decode cX8_call 0 = .ok (.aload_n 0, 1) := by decide +kernel
theorem dX8_call_1 : decode cX8_call 1 = .ok (.iload_n 1, 1) := by decide +kernel
theorem dX8_call_2 : decode cX8_call 2 = .ok (.iload_n 2, 1) := by decide +kernel
theorem dX8_call_3 : decode cX8_call 3 = .ok (.invokevirtual 171, 3) := by decide +kernel
theorem dX8_call_6 : decode cX8_call 6 = .ok (.ifCond .eq 11, 3) := by decide +kernel
theorem dX8_call_9 : decode cX8_call 9 = .ok (.aload_n 0, 1) := by decide +kernel
theorem dX8_call_10 : decode cX8_call 10 = .ok (.iload_n 3, 1) := by decide +kernel
theorem dX8_call_11 : decode cX8_call 11 = .ok (.invokevirtual 148, 3) := by decide +kernel
theorem dX8_call_14 : decode cX8_call 14 = .ok (.ifCond .ne 5, 3) := by decide +kernel
theorem dX8_call_17 : decode cX8_call 17 = .ok (.iconst (-1), 1) := by decide +kernel
theorem dX8_call_18 : decode cX8_call 18 = .ok (.ireturn, 1) := by decide +kernel
theorem dX8_call_19 : decode cX8_call 19 = .ok (.iconst 0, 1) := by decide +kernel
theorem dX8_call_20 : decode cX8_call 20 = .ok (.istore 4, 2) := by decide +kernel
theorem dX8_call_22 : decode cX8_call 22 = .ok (.iload 4, 2) := by decide +kernel
theorem dX8_call_24 : decode cX8_call 24 = .ok (.iconst 3, 1) := by decide +kernel
theorem dX8_call_25 : decode cX8_call 25 = .ok (.if_icmp .gt 84, 3) := by decide +kernel
theorem dX8_call_28 : decode cX8_call 28 = .ok (.iconst 0, 1) := by decide +kernel
theorem dX8_call_29 : decode cX8_call 29 = .ok (.istore 5, 2) := by decide +kernel
theorem dX8_call_31 : decode cX8_call 31 = .ok (.iload 5, 2) := by decide +kernel
theorem dX8_call_33 : decode cX8_call 33 = .ok (.iload 4, 2) := by decide +kernel
theorem dX8_call_35 : decode cX8_call 35 = .ok (.ifCond .ne 7, 3) := by decide +kernel
theorem dX8_call_38 : decode cX8_call 38 = .ok (.iconst 1, 1) := by decide +kernel
theorem dX8_call_39 : decode cX8_call 39 = .ok (.goto 4, 3) := by decide +kernel
theorem dX8_call_42 : decode cX8_call 42 = .ok (.iconst 4, 1) := by decide +kernel
theorem dX8_call_43 : decode cX8_call 43 = .ok (.if_icmp .ge 60, 3) := by decide +kernel
theorem dX8_call_46 : decode cX8_call 46 = .ok (.iconst 0, 1) := by decide +kernel
theorem dX8_call_47 : decode cX8_call 47 = .ok (.istore 6, 2) := by decide +kernel
theorem dX8_call_49 : decode cX8_call 49 = .ok (.iload 6, 2) := by decide +kernel
theorem dX8_call_51 : decode cX8_call 51 = .ok (.iconst 1, 1) := by decide +kernel
theorem dX8_call_52 : decode cX8_call 52 = .ok (.if_icmp .gt 45, 3) := by decide +kernel
theorem dX8_call_55 : decode cX8_call 55 = .ok (.bipush 100, 2) := by decide +kernel
theorem dX8_call_57 : decode cX8_call 57 = .ok (.iload 5, 2) := by decide +kernel
theorem dX8_call_59 : decode cX8_call 59 = .ok (.imul, 1) := by decide +kernel
theorem dX8_call_60 : decode cX8_call 60 = .ok (.bipush 10, 2) := by decide +kernel
theorem dX8_call_62 : decode cX8_call 62 = .ok (.iload 4, 2) := by decide +kernel
theorem dX8_call_64 : decode cX8_call 64 = .ok (.imul, 1) := by decide +kernel
theorem dX8_call_65 : decode cX8_call 65 = .ok (.iadd, 1) := by decide +kernel
theorem dX8_call_66 : decode cX8_call 66 = .ok (.iload 6, 2) := by decide +kernel
theorem dX8_call_68 : decode cX8_call 68 = .ok (.iadd, 1) := by decide +kernel
theorem dX8_call_69 : decode cX8_call 69 = .ok (.istore 7, 2) := by decide +kernel
theorem dX8_call_71 : decode cX8_call 71 = .ok (.aload_n 0, 1) := by decide +kernel
theorem dX8_call_72 : decode cX8_call 72 = .ok (.iload_n 1, 1) := by decide +kernel
theorem dX8_call_73 : decode cX8_call 73 = .ok (.iload_n 2, 1) := by decide +kernel
theorem dX8_call_74 : decode cX8_call 74 = .ok (.iload_n 3, 1) := by decide +kernel
theorem dX8_call_75 : decode cX8_call 75 = .ok (.iload 7, 2) := by decide +kernel
theorem dX8_call_77 : decode cX8_call 77 = .ok (.aload_n 0, 1) := by decide +kernel
theorem dX8_call_78 : decode cX8_call 78 = .ok (.iconst 0, 1) := by decide +kernel
theorem dX8_call_79 : decode cX8_call 79 = .ok (.invokevirtual 151, 3) := by decide +kernel
theorem dX8_call_82 : decode cX8_call 82 = .ok (.invokevirtual 174, 3) := by decide +kernel
theorem dX8_call_85 : decode cX8_call 85 = .ok (.ifCond .eq 6, 3) := by decide +kernel
theorem dX8_call_88 : decode cX8_call 88 = .ok (.iload 7, 2) := by decide +kernel
theorem dX8_call_90 : decode cX8_call 90 = .ok (.ireturn, 1) := by decide +kernel
theorem dX8_call_91 : decode cX8_call 91 = .ok (.iinc 6 1, 3) := by decide +kernel
theorem dX8_call_94 : decode cX8_call 94 = .ok (.goto (-45), 3) := by decide +kernel
theorem dX8_call_97 : decode cX8_call 97 = .ok (.iinc 5 1, 3) := by decide +kernel
theorem dX8_call_100 : decode cX8_call 100 = .ok (.goto (-69), 3) := by decide +kernel
theorem dX8_call_103 : decode cX8_call 103 = .ok (.iinc 4 1, 3) := by decide +kernel
theorem dX8_call_106 : decode cX8_call 106 = .ok (.goto (-84), 3) := by decide +kernel
theorem dX8_call_109 : decode cX8_call 109 = .ok (.bipush (-9), 2) := by decide +kernel
theorem dX8_call_111 : decode cX8_call 111 = .ok (.ireturn, 1) := by decide +kernel
set_option maxRecDepth 20000 in
theorem ggX8_isShotBy_X8_isShot : GoodIn wsX8_isShotBy wsX8_isShot := goodIn_r _ [4, 5, 6, 3, 7] (by decide +kernel) (by decide +kernel)
set_option maxRecDepth 20000 in
theorem gX8_isShotBy_X8_isShot : GoodIn wsX8_isShotBy (va_wsS RX8 155 yX8_isShot wsX8_isShot) := goodIn_app (goodIn_of _ (by decide +kernel)) ggX8_isShotBy_X8_isShot
theorem dX8_isShotBy_0 : decode cX8_isShotBy 0 = .ok (.iload_n 0, 1) := by decide +kernel
theorem dX8_isShotBy_1 : decode cX8_isShotBy 1 = .ok (.ifCond .lt 28, 3) := by decide +kernel
theorem dX8_isShotBy_4 : decode cX8_isShotBy 4 = .ok (.iload_n 0, 1) := by decide +kernel
theorem dX8_isShotBy_5 : decode cX8_isShotBy 5 = .ok (.bipush 100, 2) := by decide +kernel
theorem dX8_isShotBy_7 : decode cX8_isShotBy 7 = .ok (.idiv, 1) := by decide +kernel
theorem dX8_isShotBy_8 : decode cX8_isShotBy 8 = .ok (.iload_n 0, 1) := by decide +kernel
theorem dX8_isShotBy_9 : decode cX8_isShotBy 9 = .ok (.bipush 10, 2) := by decide +kernel
theorem dX8_isShotBy_11 : decode cX8_isShotBy 11 = .ok (.idiv, 1) := by decide +kernel
theorem dX8_isShotBy_12 : decode cX8_isShotBy 12 = .ok (.bipush 10, 2) := by decide +kernel
theorem dX8_isShotBy_14 : decode cX8_isShotBy 14 = .ok (.irem, 1) := by decide +kernel
theorem dX8_isShotBy_15 : decode cX8_isShotBy 15 = .ok (.iload_n 0, 1) := by decide +kernel
theorem dX8_isShotBy_16 : decode cX8_isShotBy 16 = .ok (.bipush 10, 2) := by decide +kernel
theorem dX8_isShotBy_18 : decode cX8_isShotBy 18 = .ok (.irem, 1) := by decide +kernel
theorem dX8_isShotBy_19 : decode cX8_isShotBy 19 = .ok (.invokestatic 155, 3) := by decide +kernel
theorem dX8_isShotBy_22 : decode cX8_isShotBy 22 = .ok (.ifCond .eq 7, 3) := by decide +kernel
theorem dX8_isShotBy_25 : decode cX8_isShotBy 25 = .ok (.iconst 1, 1) := by decide +kernel
theorem dX8_isShotBy_26 : decode cX8_isShotBy 26 = .ok (.goto 4, 3) := by decide +kernel
theorem dX8_isShotBy_29 : decode cX8_isShotBy 29 = .ok (.iconst 0, 1) := by decide +kernel
theorem dX8_isShotBy_30 : decode cX8_isShotBy 30 = .ok (.ireturn, 1) := by decide +kernel
set_option maxRecDepth 20000 in
theorem ggX8_waits_X8_areUnlike : GoodIn wsX8_waits wsX8_areUnlike := goodIn_r _ [5, 6, 7, 8, 4, 9, 10, 11, 12, 13, 51, 52, 53, 54, 55, 56, 57, 58, 59, 60, 61, 62, 63, 64, 65, 66, 67, 68, 69, 70, 71, 72, 73, 74, 75, 76, 77, 78, 79, 80] (by decide +kernel) (by decide +kernel)
set_option maxRecDepth 20000 in
theorem gX8_waits_X8_areUnlike : GoodIn wsX8_waits (wsV RX8 171 RX8 yX8_areUnlike wsX8_areUnlike) := goodIn_app (goodIn_of _ (by decide +kernel)) ggX8_waits_X8_areUnlike
set_option maxRecDepth 20000 in
theorem ggX8_waits_X8_isSaying : GoodIn wsX8_waits wsX8_isSaying := goodIn_r _ [17, 18, 11, 12, 4, 13, 51, 52, 53, 54, 55, 56, 57, 58, 59, 60, 61, 62, 63, 64, 65, 66, 67, 68, 69, 70, 71, 72, 73, 74, 75, 76, 77, 78, 79, 80] (by decide +kernel) (by decide +kernel)
set_option maxRecDepth 20000 in
theorem gX8_waits_X8_isSaying : GoodIn wsX8_waits (wsV RX8 148 RX8 yX8_isSaying wsX8_isSaying) := goodIn_app (goodIn_of _ (by decide +kernel)) ggX8_waits_X8_isSaying
set_option maxRecDepth 20000 in
theorem ggX8_waits_X8_isShotBy : GoodIn wsX8_waits wsX8_isShotBy := goodIn_r _ [21, 22, 23, 4, 24, 11, 12, 13] (by decide +kernel) (by decide +kernel)
set_option maxRecDepth 20000 in
theorem gX8_waits_X8_isShotBy : GoodIn wsX8_waits (va_wsS RX8 178 yX8_isShotBy wsX8_isShotBy) := goodIn_app (goodIn_of _ (by decide +kernel)) ggX8_waits_X8_isShotBy
set_option maxRecDepth 20000 in
theorem ggX8_waits_X8_windIn : GoodIn wsX8_waits wsX8_windIn := goodIn_r _ [28, 29, 30, 31, 51, 52, 53, 54, 55, 56, 57, 58, 59, 60, 61, 62, 63, 64, 65, 66, 67, 68, 69, 70, 71, 72, 73, 74, 75, 76, 77, 78, 79, 80] (by decide +kernel) (by decide +kernel)
set_option maxRecDepth 20000 in
theorem gX8_waits_X8_windIn : GoodIn wsX8_waits (wsV RX8 151 RX8 yX8_windIn wsX8_windIn) := goodIn_app (goodIn_of _ (by decide +kernel)) ggX8_waits_X8_windIn
set_option maxRecDepth 20000 in
theorem ggX8_waits_X8_isHeard : GoodIn wsX8_waits wsX8_isHeard := goodIn_r _ [35, 36, 37, 38, 4, 39, 40, 41, 30, 42, 43, 44, 45, 11, 12, 13, 46, 47, 48, 49, 50, 51, 52, 53, 54, 55, 56, 57, 58, 59, 60, 61, 62, 63, 64, 65, 66, 67, 68, 69, 70, 71, 72, 73, 74, 75, 76, 77, 78, 79, 80] (by decide +kernel) (by decide +kernel)
set_option maxRecDepth 20000 in
theorem gX8_waits_X8_isHeard : GoodIn wsX8_waits (wsV RX8 174 RX8 yX8_isHeard wsX8_isHeard) := goodIn_app (goodIn_of _ (by decide +kernel)) ggX8_waits_X8_isHeard
theorem dX8_waits_0 : decode cX8_waits 0 = .ok (.aload_n 0, 1) := by decide +kernel
theorem dX8_waits_1 : decode cX8_waits 1 = .ok (.iload_n 1, 1) := by decide +kernel
theorem dX8_waits_2 : decode cX8_waits 2 = .ok (.iload_n 2, 1) := by decide +kernel
theorem dX8_waits_3 : decode cX8_waits 3 = .ok (.invokevirtual 171, 3) := by decide +kernel
theorem dX8_waits_6 : decode cX8_waits 6 = .ok (.ifCond .eq 19, 3) := by decide +kernel
theorem dX8_waits_9 : decode cX8_waits 9 = .ok (.aload_n 0, 1) := by decide +kernel
theorem dX8_waits_10 : decode cX8_waits 10 = .ok (.iload_n 3, 1) := by decide +kernel
theorem dX8_waits_11 : decode cX8_waits 11 = .ok (.invokevirtual 148, 3) := by decide +kernel
theorem dX8_waits_14 : decode cX8_waits 14 = .ok (.ifCond .eq 11, 3) := by decide +kernel
theorem dX8_waits_17 : decode cX8_waits 17 = .ok (.iload 4, 2) := by decide +kernel
theorem dX8_waits_19 : decode cX8_waits 19 = .ok (.invokestatic 178, 3) := by decide +kernel
theorem dX8_waits_22 : decode cX8_waits 22 = .ok (.ifCond .ne 5, 3) := by decide +kernel
theorem dX8_waits_25 : decode cX8_waits 25 = .ok (.iconst (-1), 1) := by decide +kernel
theorem dX8_waits_26 : decode cX8_waits 26 = .ok (.ireturn, 1) := by decide +kernel
theorem dX8_waits_27 : decode cX8_waits 27 = .ok (.iconst 0, 1) := by decide +kernel
theorem dX8_waits_28 : decode cX8_waits 28 = .ok (.istore 5, 2) := by decide +kernel
theorem dX8_waits_30 : decode cX8_waits 30 = .ok (.iload 5, 2) := by decide +kernel
theorem dX8_waits_32 : decode cX8_waits 32 = .ok (.bipush 12, 2) := by decide +kernel
theorem dX8_waits_34 : decode cX8_waits 34 = .ok (.if_icmp .gt 30, 3) := by decide +kernel
theorem dX8_waits_37 : decode cX8_waits 37 = .ok (.aload_n 0, 1) := by decide +kernel
theorem dX8_waits_38 : decode cX8_waits 38 = .ok (.iload_n 1, 1) := by decide +kernel
theorem dX8_waits_39 : decode cX8_waits 39 = .ok (.iload_n 2, 1) := by decide +kernel
theorem dX8_waits_40 : decode cX8_waits 40 = .ok (.iload_n 3, 1) := by decide +kernel
theorem dX8_waits_41 : decode cX8_waits 41 = .ok (.iload 4, 2) := by decide +kernel
theorem dX8_waits_43 : decode cX8_waits 43 = .ok (.aload_n 0, 1) := by decide +kernel
theorem dX8_waits_44 : decode cX8_waits 44 = .ok (.iload 5, 2) := by decide +kernel
theorem dX8_waits_46 : decode cX8_waits 46 = .ok (.invokevirtual 151, 3) := by decide +kernel
theorem dX8_waits_49 : decode cX8_waits 49 = .ok (.invokevirtual 174, 3) := by decide +kernel
theorem dX8_waits_52 : decode cX8_waits 52 = .ok (.ifCond .eq 6, 3) := by decide +kernel
theorem dX8_waits_55 : decode cX8_waits 55 = .ok (.iload 5, 2) := by decide +kernel
theorem dX8_waits_57 : decode cX8_waits 57 = .ok (.ireturn, 1) := by decide +kernel
theorem dX8_waits_58 : decode cX8_waits 58 = .ok (.iinc 5 1, 3) := by decide +kernel
theorem dX8_waits_61 : decode cX8_waits 61 = .ok (.goto (-31), 3) := by decide +kernel
theorem dX8_waits_64 : decode cX8_waits 64 = .ok (.bipush (-9), 2) := by decide +kernel
theorem dX8_waits_66 : decode cX8_waits 66 = .ok (.ireturn, 1) := by decide +kernel
set_option maxRecDepth 20000 in
theorem ggX8_behind_X8_windIn : GoodIn wsX8_behind wsX8_windIn := goodIn_r _ [5, 6, 7, 8, 32, 33, 34, 35, 36, 37, 38, 39, 40, 41, 42, 43, 44, 45, 46, 47, 48, 49, 50, 51, 52, 53, 54, 55, 56, 57, 58, 59, 60, 61] (by decide +kernel) (by decide +kernel)
set_option maxRecDepth 20000 in
theorem gX8_behind_X8_windIn : GoodIn wsX8_behind (wsV RX8 151 RX8 yX8_windIn wsX8_windIn) := goodIn_app (goodIn_of _ (by decide +kernel)) ggX8_behind_X8_windIn
set_option maxRecDepth 20000 in
theorem ggX8_behind_X8_landsBy : GoodIn wsX8_behind wsX8_landsBy := goodIn_r _ [12, 13, 14, 7, 15, 16, 17, 4, 18, 19, 20, 21, 32, 33, 34, 35, 36, 37, 38, 39, 40, 41, 42, 43, 44, 45, 46, 47, 48, 49, 50, 51, 52, 53, 54, 55, 56, 57, 58, 59, 60, 61] (by decide +kernel) (by decide +kernel)
set_option maxRecDepth 20000 in
theorem gX8_behind_X8_landsBy : GoodIn wsX8_behind (wsV RX8 161 RX8 yX8_landsBy wsX8_landsBy) := goodIn_app (goodIn_of _ (by decide +kernel)) ggX8_behind_X8_landsBy
set_option maxRecDepth 20000 in
theorem ggX8_behind_X8_hearersOf : GoodIn wsX8_behind wsX8_hearersOf := goodIn_r _ [25, 26, 27, 28, 29, 4, 30, 15, 31, 32, 33, 34, 35, 36, 37, 38, 39, 40, 41, 42, 43, 44, 45, 46, 47, 48, 49, 50, 51, 52, 53, 54, 55, 56, 57, 58, 59, 60, 61] (by decide +kernel) (by decide +kernel)
set_option maxRecDepth 20000 in
theorem gX8_behind_X8_hearersOf : GoodIn wsX8_behind (wsV RX8 165 RX8 yX8_hearersOf wsX8_hearersOf) := goodIn_app (goodIn_of _ (by decide +kernel)) ggX8_behind_X8_hearersOf
theorem dX8_behind_0 : decode cX8_behind 0 = .ok (.iload_n 1, 1) := by decide +kernel
theorem dX8_behind_1 : decode cX8_behind 1 = .ok (.aload_n 0, 1) := by decide +kernel
theorem dX8_behind_2 : decode cX8_behind 2 = .ok (.aload_n 0, 1) := by decide +kernel
theorem dX8_behind_3 : decode cX8_behind 3 = .ok (.iload_n 2, 1) := by decide +kernel
theorem dX8_behind_4 : decode cX8_behind 4 = .ok (.iload_n 3, 1) := by decide +kernel
theorem dX8_behind_5 : decode cX8_behind 5 = .ok (.iload 4, 2) := by decide +kernel
theorem dX8_behind_7 : decode cX8_behind 7 = .ok (.iload 5, 2) := by decide +kernel
theorem dX8_behind_9 : decode cX8_behind 9 = .ok (.iload 6, 2) := by decide +kernel
theorem dX8_behind_11 : decode cX8_behind 11 = .ok (.aload_n 0, 1) := by decide +kernel
theorem dX8_behind_12 : decode cX8_behind 12 = .ok (.iconst 0, 1) := by decide +kernel
theorem dX8_behind_13 : decode cX8_behind 13 = .ok (.invokevirtual 151, 3) := by decide +kernel
theorem dX8_behind_16 : decode cX8_behind 16 = .ok (.invokevirtual 161, 3) := by decide +kernel
theorem dX8_behind_19 : decode cX8_behind 19 = .ok (.iload_n 2, 1) := by decide +kernel
theorem dX8_behind_20 : decode cX8_behind 20 = .ok (.invokevirtual 165, 3) := by decide +kernel
theorem dX8_behind_23 : decode cX8_behind 23 = .ok (.ior, 1) := by decide +kernel
theorem dX8_behind_24 : decode cX8_behind 24 = .ok (.ireturn, 1) := by decide +kernel
set_option maxRecDepth 20000 in
theorem ggX8_measure_X8_has : GoodIn wsX8_measure wsX8_has := goodIn_r _ [7] (by decide +kernel) (by decide +kernel)
set_option maxRecDepth 20000 in
theorem gX8_measure_X8_has : GoodIn wsX8_measure (va_wsS RX8 145 yX8_has wsX8_has) := goodIn_app (goodIn_of _ (by decide +kernel)) ggX8_measure_X8_has
set_option maxRecDepth 20000 in
theorem ggX8_measure_X8_behind : GoodIn wsX8_measure wsX8_behind := goodIn_r _ [11, 12, 13, 14, 6, 15, 16, 17, 18, 19, 20, 21, 22, 23, 24, 25, 26, 27, 28, 29, 30, 31, 32, 33, 34, 35, 2, 36, 37, 38, 39, 40, 41, 42, 43, 44, 45, 46, 47, 48, 49, 50, 51, 52, 53, 54, 55, 56, 57, 58, 59, 60, 61, 62, 63, 64, 65, 66, 67, 68, 69, 70] (by decide +kernel) (by decide +kernel)
set_option maxRecDepth 20000 in
theorem gX8_measure_X8_behind : GoodIn wsX8_measure (wsV RX8 182 RX8 yX8_behind wsX8_behind) := goodIn_app (goodIn_of _ (by decide +kernel)) ggX8_measure_X8_behind
theorem dX8_measure_0 : decode cX8_measure 0 = .ok (.bipush 63, 2) := by decide +kernel
theorem dX8_measure_2 : decode cX8_measure 2 = .ok (.istore_n 3, 1) := by decide +kernel
theorem dX8_measure_3 : decode cX8_measure 3 = .ok (.iload_n 3, 1) := by decide +kernel
theorem dX8_measure_4 : decode cX8_measure 4 = .ok (.ifCond .le 146, 3) := by decide +kernel
theorem dX8_measure_7 : decode cX8_measure 7 = .ok (.iload_n 3, 1) := by decide +kernel
theorem dX8_measure_8 : decode cX8_measure 8 = .ok (.iload_n 2, 1) := by decide +kernel
theorem dX8_measure_9 : decode cX8_measure 9 = .ok (.invokestatic 145, 3) := by decide +kernel
theorem dX8_measure_12 : decode cX8_measure 12 = .ok (.ifCond .eq 7, 3) := by decide +kernel
theorem dX8_measure_15 : decode cX8_measure 15 = .ok (.iconst 0, 1) := by decide +kernel
theorem dX8_measure_16 : decode cX8_measure 16 = .ok (.goto 5, 3) := by decide +kernel
theorem dX8_measure_19 : decode cX8_measure 19 = .ok (.ldc 181, 2) := by decide +kernel
theorem dX8_measure_21 : decode cX8_measure 21 = .ok (.istore 4, 2) := by decide +kernel
theorem dX8_measure_23 : decode cX8_measure 23 = .ok (.iconst 0, 1) := by decide +kernel
theorem dX8_measure_24 : decode cX8_measure 24 = .ok (.istore 5, 2) := by decide +kernel
theorem dX8_measure_26 : decode cX8_measure 26 = .ok (.iload 5, 2) := by decide +kernel
theorem dX8_measure_28 : decode cX8_measure 28 = .ok (.aload_n 0, 1) := by decide +kernel
theorem dX8_measure_29 : decode cX8_measure 29 = .ok (.getfield 13, 3) := by decide +kernel
theorem dX8_measure_32 : decode cX8_measure 32 = .ok (.iconst 0, 1) := by decide +kernel
theorem dX8_measure_33 : decode cX8_measure 33 = .ok (.iaload, 1) := by decide +kernel
theorem dX8_measure_34 : decode cX8_measure 34 = .ok (.if_icmp .ge 102, 3) := by decide +kernel
theorem dX8_measure_37 : decode cX8_measure 37 = .ok (.iload 4, 2) := by decide +kernel
theorem dX8_measure_39 : decode cX8_measure 39 = .ok (.ifCond .le 97, 3) := by decide +kernel
theorem dX8_measure_42 : decode cX8_measure 42 = .ok (.iconst 0, 1) := by decide +kernel
theorem dX8_measure_43 : decode cX8_measure 43 = .ok (.istore 6, 2) := by decide +kernel
theorem dX8_measure_45 : decode cX8_measure 45 = .ok (.iload 6, 2) := by decide +kernel
theorem dX8_measure_47 : decode cX8_measure 47 = .ok (.bipush 32, 2) := by decide +kernel
theorem dX8_measure_49 : decode cX8_measure 49 = .ok (.if_icmp .ge 81, 3) := by decide +kernel
theorem dX8_measure_52 : decode cX8_measure 52 = .ok (.iload_n 3, 1) := by decide +kernel
theorem dX8_measure_53 : decode cX8_measure 53 = .ok (.iload 5, 2) := by decide +kernel
theorem dX8_measure_55 : decode cX8_measure 55 = .ok (.invokestatic 145, 3) := by decide +kernel
theorem dX8_measure_58 : decode cX8_measure 58 = .ok (.ifCond .eq 72, 3) := by decide +kernel
theorem dX8_measure_61 : decode cX8_measure 61 = .ok (.aload_n 0, 1) := by decide +kernel
theorem dX8_measure_62 : decode cX8_measure 62 = .ok (.iload_n 3, 1) := by decide +kernel
theorem dX8_measure_63 : decode cX8_measure 63 = .ok (.iload 5, 2) := by decide +kernel
theorem dX8_measure_65 : decode cX8_measure 65 = .ok (.iload_n 1, 1) := by decide +kernel
theorem dX8_measure_66 : decode cX8_measure 66 = .ok (.iload 6, 2) := by decide +kernel
theorem dX8_measure_68 : decode cX8_measure 68 = .ok (.bipush 8, 2) := by decide +kernel
theorem dX8_measure_70 : decode cX8_measure 70 = .ok (.idiv, 1) := by decide +kernel
theorem dX8_measure_71 : decode cX8_measure 71 = .ok (.iload 6, 2) := by decide +kernel
theorem dX8_measure_73 : decode cX8_measure 73 = .ok (.iconst 2, 1) := by decide +kernel
theorem dX8_measure_74 : decode cX8_measure 74 = .ok (.idiv, 1) := by decide +kernel
theorem dX8_measure_75 : decode cX8_measure 75 = .ok (.iconst 4, 1) := by decide +kernel
theorem dX8_measure_76 : decode cX8_measure 76 = .ok (.irem, 1) := by decide +kernel
theorem dX8_measure_77 : decode cX8_measure 77 = .ok (.iload 6, 2) := by decide +kernel
theorem dX8_measure_79 : decode cX8_measure 79 = .ok (.iconst 2, 1) := by decide +kernel
theorem dX8_measure_80 : decode cX8_measure 80 = .ok (.irem, 1) := by decide +kernel
theorem dX8_measure_81 : decode cX8_measure 81 = .ok (.invokevirtual 182, 3) := by decide +kernel
theorem dX8_measure_84 : decode cX8_measure 84 = .ok (.istore 7, 2) := by decide +kernel
theorem dX8_measure_86 : decode cX8_measure 86 = .ok (.iload 7, 2) := by decide +kernel
theorem dX8_measure_88 : decode cX8_measure 88 = .ok (.iload_n 3, 1) := by decide +kernel
theorem dX8_measure_89 : decode cX8_measure 89 = .ok (.if_icmp .ne 8, 3) := by decide +kernel
theorem dX8_measure_92 : decode cX8_measure 92 = .ok (.ldc 181, 2) := by decide +kernel
theorem dX8_measure_94 : decode cX8_measure 94 = .ok (.goto 12, 3) := by decide +kernel
theorem dX8_measure_97 : decode cX8_measure 97 = .ok (.aload_n 0, 1) := by decide +kernel
theorem dX8_measure_98 : decode cX8_measure 98 = .ok (.getfield 60, 3) := by decide +kernel
theorem dX8_measure_101 : decode cX8_measure 101 = .ok (.iload 7, 2) := by decide +kernel
theorem dX8_measure_103 : decode cX8_measure 103 = .ok (.iaload, 1) := by decide +kernel
theorem dX8_measure_104 : decode cX8_measure 104 = .ok (.iconst 1, 1) := by decide +kernel
theorem dX8_measure_105 : decode cX8_measure 105 = .ok (.iadd, 1) := by decide +kernel
theorem dX8_measure_106 : decode cX8_measure 106 = .ok (.istore 8, 2) := by decide +kernel
theorem dX8_measure_108 : decode cX8_measure 108 = .ok (.iload 8, 2) := by decide +kernel
theorem dX8_measure_110 : decode cX8_measure 110 = .ok (.iload 4, 2) := by decide +kernel
theorem dX8_measure_112 : decode cX8_measure 112 = .ok (.if_icmp .ge 8, 3) := by decide +kernel
theorem dX8_measure_115 : decode cX8_measure 115 = .ok (.iload 8, 2) := by decide +kernel
theorem dX8_measure_117 : decode cX8_measure 117 = .ok (.goto 5, 3) := by decide +kernel
theorem dX8_measure_120 : decode cX8_measure 120 = .ok (.iload 4, 2) := by decide +kernel
theorem dX8_measure_122 : decode cX8_measure 122 = .ok (.istore 4, 2) := by decide +kernel
theorem dX8_measure_124 : decode cX8_measure 124 = .ok (.iinc 6 1, 3) := by decide +kernel
theorem dX8_measure_127 : decode cX8_measure 127 = .ok (.goto (-82), 3) := by decide +kernel
theorem dX8_measure_130 : decode cX8_measure 130 = .ok (.iinc 5 1, 3) := by decide +kernel
theorem dX8_measure_133 : decode cX8_measure 133 = .ok (.goto (-107), 3) := by decide +kernel
theorem dX8_measure_136 : decode cX8_measure 136 = .ok (.aload_n 0, 1) := by decide +kernel
theorem dX8_measure_137 : decode cX8_measure 137 = .ok (.getfield 60, 3) := by decide +kernel
theorem dX8_measure_140 : decode cX8_measure 140 = .ok (.iload_n 3, 1) := by decide +kernel
theorem dX8_measure_141 : decode cX8_measure 141 = .ok (.iload 4, 2) := by decide +kernel
theorem dX8_measure_143 : decode cX8_measure 143 = .ok (.iastore, 1) := by decide +kernel
theorem dX8_measure_144 : decode cX8_measure 144 = .ok (.iinc 3 (-1), 3) := by decide +kernel
theorem dX8_measure_147 : decode cX8_measure 147 = .ok (.goto (-144), 3) := by decide +kernel
theorem dX8_measure_150 : decode cX8_measure 150 = .ok (.return_, 1) := by decide +kernel
set_option maxRecDepth 20000 in
theorem ggX8_relay_X8_isSaying : GoodIn wsX8_relay wsX8_isSaying := goodIn_r _ [9, 10, 11, 12, 8, 13, 54, 55, 56, 57, 58, 59, 60, 61, 62, 63, 64, 65, 66, 67, 68, 69, 70, 71, 72, 73, 74, 75, 76, 77, 78, 79, 80, 81, 82, 83] (by decide +kernel) (by decide +kernel)
set_option maxRecDepth 20000 in
theorem gX8_relay_X8_isSaying : GoodIn wsX8_relay (wsV RX8 148 RX8 yX8_isSaying wsX8_isSaying) := goodIn_app (goodIn_of _ (by decide +kernel)) ggX8_relay_X8_isSaying
set_option maxRecDepth 20000 in
theorem ggX8_relay_X8_isOne : GoodIn wsX8_relay wsX8_isOne := goodIn_r _ [17, 4, 11, 12, 8, 13, 54, 55, 56, 57, 58, 59, 60, 61, 62, 63, 64, 65, 66, 67, 68, 69, 70, 71, 72, 73, 74, 75, 76, 77, 78, 79, 80, 81, 82, 83] (by decide +kernel) (by decide +kernel)
set_option maxRecDepth 20000 in
theorem gX8_relay_X8_isOne : GoodIn wsX8_relay (wsV RX8 142 RX8 yX8_isOne wsX8_isOne) := goodIn_app (goodIn_of _ (by decide +kernel)) ggX8_relay_X8_isOne
set_option maxRecDepth 20000 in
theorem ggX8_relay_X8_in : GoodIn wsX8_relay wsX8_in := goodIn_r _ [13] (by decide +kernel) (by decide +kernel)
set_option maxRecDepth 20000 in
theorem gX8_relay_X8_in : GoodIn wsX8_relay (va_wsS RX8 72 yX8_in wsX8_in) := goodIn_app (goodIn_of _ (by decide +kernel)) ggX8_relay_X8_in
set_option maxRecDepth 20000 in
theorem ggX8_relay_X8_measure : GoodIn wsX8_relay wsX8_measure := goodIn_r _ [21, 3, 4, 2, 22, 23, 8, 24, 25, 26, 27, 28, 29, 30, 31, 32, 33, 1, 34, 35, 36, 37, 38, 39, 40, 41, 42, 43, 44, 11, 12, 13, 45, 46, 47, 48, 49, 50, 51, 52, 53, 54, 55, 56, 57, 58, 59, 60, 61, 62, 63, 64, 65, 66, 67, 68, 69, 70, 71, 72, 73, 74, 75, 76, 77, 78, 79, 80, 81, 82, 83] (by decide +kernel) (by decide +kernel)
set_option maxRecDepth 20000 in
theorem gX8_relay_X8_measure : GoodIn wsX8_relay (wsV RX8 185 RX8 yX8_measure wsX8_measure) := goodIn_app (goodIn_of _ (by decide +kernel)) ggX8_relay_X8_measure
set_option maxRecDepth 20000 in
theorem ggX8_relay_X8_has : GoodIn wsX8_relay wsX8_has := goodIn_r _ [24] (by decide +kernel) (by decide +kernel)
set_option maxRecDepth 20000 in
theorem gX8_relay_X8_has : GoodIn wsX8_relay (va_wsS RX8 145 yX8_has wsX8_has) := goodIn_app (goodIn_of _ (by decide +kernel)) ggX8_relay_X8_has
set_option maxRecDepth 20000 in
theorem ggX8_relay_X8_behind : GoodIn wsX8_relay wsX8_behind := goodIn_r _ [28, 29, 30, 31, 8, 32, 33, 1, 34, 35, 36, 37, 38, 39, 40, 41, 42, 43, 44, 11, 12, 13, 45, 46, 47, 48, 4, 49, 50, 51, 52, 53, 54, 55, 56, 57, 58, 59, 60, 61, 62, 63, 64, 65, 66, 67, 68, 69, 70, 71, 72, 73, 74, 75, 76, 77, 78, 79, 80, 81, 82, 83] (by decide +kernel) (by decide +kernel)
set_option maxRecDepth 20000 in
theorem gX8_relay_X8_behind : GoodIn wsX8_relay (wsV RX8 182 RX8 yX8_behind wsX8_behind) := goodIn_app (goodIn_of _ (by decide +kernel)) ggX8_relay_X8_behind
theorem dX8_relay_0 : decode cX8_relay 0 = .ok (.aload_n 0, 1) := by decide +kernel
theorem dX8_relay_1 : decode cX8_relay 1 = .ok (.iload_n 1, 1) := by decide +kernel
theorem dX8_relay_2 : decode cX8_relay 2 = .ok (.invokevirtual 148, 3) := by decide +kernel
theorem dX8_relay_5 : decode cX8_relay 5 = .ok (.ifCond .eq 20, 3) := by decide +kernel
theorem dX8_relay_8 : decode cX8_relay 8 = .ok (.aload_n 0, 1) := by decide +kernel
theorem dX8_relay_9 : decode cX8_relay 9 = .ok (.iload_n 2, 1) := by decide +kernel
theorem dX8_relay_10 : decode cX8_relay 10 = .ok (.invokevirtual 142, 3) := by decide +kernel
theorem dX8_relay_13 : decode cX8_relay 13 = .ok (.ifCond .eq 12, 3) := by decide +kernel
theorem dX8_relay_16 : decode cX8_relay 16 = .ok (.iload_n 3, 1) := by decide +kernel
theorem dX8_relay_17 : decode cX8_relay 17 = .ok (.iconst 0, 1) := by decide +kernel
theorem dX8_relay_18 : decode cX8_relay 18 = .ok (.iconst 2, 1) := by decide +kernel
theorem dX8_relay_19 : decode cX8_relay 19 = .ok (.invokestatic 72, 3) := by decide +kernel
theorem dX8_relay_22 : decode cX8_relay 22 = .ok (.ifCond .ne 5, 3) := by decide +kernel
theorem dX8_relay_25 : decode cX8_relay 25 = .ok (.iconst (-1), 1) := by decide +kernel
theorem dX8_relay_26 : decode cX8_relay 26 = .ok (.ireturn, 1) := by decide +kernel
theorem dX8_relay_27 : decode cX8_relay 27 = .ok (.aload_n 0, 1) := by decide +kernel
theorem dX8_relay_28 : decode cX8_relay 28 = .ok (.iload_n 1, 1) := by decide +kernel
theorem dX8_relay_29 : decode cX8_relay 29 = .ok (.iload_n 2, 1) := by decide +kernel
theorem dX8_relay_30 : decode cX8_relay 30 = .ok (.invokevirtual 185, 3) := by decide +kernel
theorem dX8_relay_33 : decode cX8_relay 33 = .ok (.aload_n 0, 1) := by decide +kernel
theorem dX8_relay_34 : decode cX8_relay 34 = .ok (.getfield 44, 3) := by decide +kernel
theorem dX8_relay_37 : decode cX8_relay 37 = .ok (.bipush 6, 2) := by decide +kernel
theorem dX8_relay_39 : decode cX8_relay 39 = .ok (.iload_n 1, 1) := by decide +kernel
theorem dX8_relay_40 : decode cX8_relay 40 = .ok (.iadd, 1) := by decide +kernel
theorem dX8_relay_41 : decode cX8_relay 41 = .ok (.iaload, 1) := by decide +kernel
theorem dX8_relay_42 : decode cX8_relay 42 = .ok (.istore 4, 2) := by decide +kernel
theorem dX8_relay_44 : decode cX8_relay 44 = .ok (.aload_n 0, 1) := by decide +kernel
theorem dX8_relay_45 : decode cX8_relay 45 = .ok (.getfield 60, 3) := by decide +kernel
theorem dX8_relay_48 : decode cX8_relay 48 = .ok (.iload 4, 2) := by decide +kernel
theorem dX8_relay_50 : decode cX8_relay 50 = .ok (.iaload, 1) := by decide +kernel
theorem dX8_relay_51 : decode cX8_relay 51 = .ok (.istore 5, 2) := by decide +kernel
theorem dX8_relay_53 : decode cX8_relay 53 = .ok (.iload 5, 2) := by decide +kernel
theorem dX8_relay_55 : decode cX8_relay 55 = .ok (.ldc 181, 2) := by decide +kernel
theorem dX8_relay_57 : decode cX8_relay 57 = .ok (.if_icmp .lt 6, 3) := by decide +kernel
theorem dX8_relay_60 : decode cX8_relay 60 = .ok (.bipush (-9), 2) := by decide +kernel
theorem dX8_relay_62 : decode cX8_relay 62 = .ok (.ireturn, 1) := by decide +kernel
theorem dX8_relay_63 : decode cX8_relay 63 = .ok (.iload_n 3, 1) := by decide +kernel
theorem dX8_relay_64 : decode cX8_relay 64 = .ok (.ifCond .ne 6, 3) := by decide +kernel
theorem dX8_relay_67 : decode cX8_relay 67 = .ok (.iload 5, 2) := by decide +kernel
theorem dX8_relay_69 : decode cX8_relay 69 = .ok (.ireturn, 1) := by decide +kernel
theorem dX8_relay_70 : decode cX8_relay 70 = .ok (.iconst 0, 1) := by decide +kernel
theorem dX8_relay_71 : decode cX8_relay 71 = .ok (.istore 6, 2) := by decide +kernel
theorem dX8_relay_73 : decode cX8_relay 73 = .ok (.iload 6, 2) := by decide +kernel
theorem dX8_relay_75 : decode cX8_relay 75 = .ok (.aload_n 0, 1) := by decide +kernel
theorem dX8_relay_76 : decode cX8_relay 76 = .ok (.getfield 13, 3) := by decide +kernel
theorem dX8_relay_79 : decode cX8_relay 79 = .ok (.iconst 0, 1) := by decide +kernel
theorem dX8_relay_80 : decode cX8_relay 80 = .ok (.iaload, 1) := by decide +kernel
theorem dX8_relay_81 : decode cX8_relay 81 = .ok (.if_icmp .ge 132, 3) := by decide +kernel
theorem dX8_relay_84 : decode cX8_relay 84 = .ok (.iload 5, 2) := by decide +kernel
theorem dX8_relay_86 : decode cX8_relay 86 = .ok (.ifCond .le 127, 3) := by decide +kernel
theorem dX8_relay_89 : decode cX8_relay 89 = .ok (.iconst 0, 1) := by decide +kernel
theorem dX8_relay_90 : decode cX8_relay 90 = .ok (.istore 7, 2) := by decide +kernel
theorem dX8_relay_92 : decode cX8_relay 92 = .ok (.iload 7, 2) := by decide +kernel
theorem dX8_relay_94 : decode cX8_relay 94 = .ok (.bipush 32, 2) := by decide +kernel
theorem dX8_relay_96 : decode cX8_relay 96 = .ok (.if_icmp .ge 111, 3) := by decide +kernel
theorem dX8_relay_99 : decode cX8_relay 99 = .ok (.iload 4, 2) := by decide +kernel
theorem dX8_relay_101 : decode cX8_relay 101 = .ok (.iload 6, 2) := by decide +kernel
theorem dX8_relay_103 : decode cX8_relay 103 = .ok (.invokestatic 145, 3) := by decide +kernel
theorem dX8_relay_106 : decode cX8_relay 106 = .ok (.ifCond .eq 101, 3) := by decide +kernel
theorem dX8_relay_109 : decode cX8_relay 109 = .ok (.iload 7, 2) := by decide +kernel
theorem dX8_relay_111 : decode cX8_relay 111 = .ok (.bipush 8, 2) := by decide +kernel
theorem dX8_relay_113 : decode cX8_relay 113 = .ok (.idiv, 1) := by decide +kernel
theorem dX8_relay_114 : decode cX8_relay 114 = .ok (.istore 8, 2) := by decide +kernel
theorem dX8_relay_116 : decode cX8_relay 116 = .ok (.iload 7, 2) := by decide +kernel
theorem dX8_relay_118 : decode cX8_relay 118 = .ok (.iconst 2, 1) := by decide +kernel
theorem dX8_relay_119 : decode cX8_relay 119 = .ok (.idiv, 1) := by decide +kernel
theorem dX8_relay_120 : decode cX8_relay 120 = .ok (.iconst 4, 1) := by decide +kernel
theorem dX8_relay_121 : decode cX8_relay 121 = .ok (.irem, 1) := by decide +kernel
theorem dX8_relay_122 : decode cX8_relay 122 = .ok (.istore 9, 2) := by decide +kernel
theorem dX8_relay_124 : decode cX8_relay 124 = .ok (.aload_n 0, 1) := by decide +kernel
theorem dX8_relay_125 : decode cX8_relay 125 = .ok (.iload 4, 2) := by decide +kernel
theorem dX8_relay_127 : decode cX8_relay 127 = .ok (.iload 6, 2) := by decide +kernel
theorem dX8_relay_129 : decode cX8_relay 129 = .ok (.iload_n 1, 1) := by decide +kernel
theorem dX8_relay_130 : decode cX8_relay 130 = .ok (.iload 8, 2) := by decide +kernel
theorem dX8_relay_132 : decode cX8_relay 132 = .ok (.iload 9, 2) := by decide +kernel
theorem dX8_relay_134 : decode cX8_relay 134 = .ok (.iload 7, 2) := by decide +kernel
theorem dX8_relay_136 : decode cX8_relay 136 = .ok (.iconst 2, 1) := by decide +kernel
theorem dX8_relay_137 : decode cX8_relay 137 = .ok (.irem, 1) := by decide +kernel
theorem dX8_relay_138 : decode cX8_relay 138 = .ok (.invokevirtual 182, 3) := by decide +kernel
theorem dX8_relay_141 : decode cX8_relay 141 = .ok (.istore 10, 2) := by decide +kernel
theorem dX8_relay_143 : decode cX8_relay 143 = .ok (.iload 10, 2) := by decide +kernel
theorem dX8_relay_145 : decode cX8_relay 145 = .ok (.iload 4, 2) := by decide +kernel
theorem dX8_relay_147 : decode cX8_relay 147 = .ok (.if_icmp .eq 54, 3) := by decide +kernel
theorem dX8_relay_150 : decode cX8_relay 150 = .ok (.iload 9, 2) := by decide +kernel
theorem dX8_relay_152 : decode cX8_relay 152 = .ok (.ifCond .gt 8, 3) := by decide +kernel
theorem dX8_relay_155 : decode cX8_relay 155 = .ok (.iload 8, 2) := by decide +kernel
theorem dX8_relay_157 : decode cX8_relay 157 = .ok (.ifCond .ne 44, 3) := by decide +kernel
theorem dX8_relay_160 : decode cX8_relay 160 = .ok (.aload_n 0, 1) := by decide +kernel
theorem dX8_relay_161 : decode cX8_relay 161 = .ok (.getfield 60, 3) := by decide +kernel
theorem dX8_relay_164 : decode cX8_relay 164 = .ok (.iload 10, 2) := by decide +kernel
theorem dX8_relay_166 : decode cX8_relay 166 = .ok (.iaload, 1) := by decide +kernel
theorem dX8_relay_167 : decode cX8_relay 167 = .ok (.iload 5, 2) := by decide +kernel
theorem dX8_relay_169 : decode cX8_relay 169 = .ok (.iconst 1, 1) := by decide +kernel
theorem dX8_relay_170 : decode cX8_relay 170 = .ok (.isub, 1) := by decide +kernel
theorem dX8_relay_171 : decode cX8_relay 171 = .ok (.if_icmp .ne 30, 3) := by decide +kernel
theorem dX8_relay_174 : decode cX8_relay 174 = .ok (.iload_n 3, 1) := by decide +kernel
theorem dX8_relay_175 : decode cX8_relay 175 = .ok (.iconst 1, 1) := by decide +kernel
theorem dX8_relay_176 : decode cX8_relay 176 = .ok (.if_icmp .ne 8, 3) := by decide +kernel
theorem dX8_relay_179 : decode cX8_relay 179 = .ok (.iload 6, 2) := by decide +kernel
theorem dX8_relay_181 : decode cX8_relay 181 = .ok (.goto 19, 3) := by decide +kernel
theorem dX8_relay_184 : decode cX8_relay 184 = .ok (.bipush 100, 2) := by decide +kernel
theorem dX8_relay_186 : decode cX8_relay 186 = .ok (.iload 8, 2) := by decide +kernel
theorem dX8_relay_188 : decode cX8_relay 188 = .ok (.imul, 1) := by decide +kernel
theorem dX8_relay_189 : decode cX8_relay 189 = .ok (.bipush 10, 2) := by decide +kernel
theorem dX8_relay_191 : decode cX8_relay 191 = .ok (.iload 9, 2) := by decide +kernel
theorem dX8_relay_193 : decode cX8_relay 193 = .ok (.imul, 1) := by decide +kernel
theorem dX8_relay_194 : decode cX8_relay 194 = .ok (.iadd, 1) := by decide +kernel
theorem dX8_relay_195 : decode cX8_relay 195 = .ok (.iload 7, 2) := by decide +kernel
theorem dX8_relay_197 : decode cX8_relay 197 = .ok (.iconst 2, 1) := by decide +kernel
theorem dX8_relay_198 : decode cX8_relay 198 = .ok (.irem, 1) := by decide +kernel
theorem dX8_relay_199 : decode cX8_relay 199 = .ok (.iadd, 1) := by decide +kernel
theorem dX8_relay_200 : decode cX8_relay 200 = .ok (.ireturn, 1) := by decide +kernel
theorem dX8_relay_201 : decode cX8_relay 201 = .ok (.iinc 7 1, 3) := by decide +kernel
theorem dX8_relay_204 : decode cX8_relay 204 = .ok (.goto (-112), 3) := by decide +kernel
theorem dX8_relay_207 : decode cX8_relay 207 = .ok (.iinc 6 1, 3) := by decide +kernel
theorem dX8_relay_210 : decode cX8_relay 210 = .ok (.goto (-137), 3) := by decide +kernel
theorem dX8_relay_213 : decode cX8_relay 213 = .ok (.bipush (-9), 2) := by decide +kernel
theorem dX8_relay_215 : decode cX8_relay 215 = .ok (.ireturn, 1) := by decide +kernel
set_option maxRecDepth 20000 in
theorem ggX8_tellDue_X8_windIn : GoodIn wsX8_tellDue wsX8_windIn := goodIn_r _ [9, 10, 11, 12, 36, 37, 38, 39, 40, 41, 42, 43, 44, 45, 46, 47, 48, 49, 50, 51, 52, 53, 54, 55, 56, 57, 58, 59, 60, 61, 62, 63, 64, 65] (by decide +kernel) (by decide +kernel)
set_option maxRecDepth 20000 in
theorem gX8_tellDue_X8_windIn : GoodIn wsX8_tellDue (wsV RX8 151 RX8 yX8_windIn wsX8_windIn) := goodIn_app (goodIn_of _ (by decide +kernel)) ggX8_tellDue_X8_windIn
set_option maxRecDepth 20000 in
theorem ggX8_tellDue_X8_landsBy : GoodIn wsX8_tellDue wsX8_landsBy := goodIn_r _ [16, 17, 18, 11, 19, 20, 21, 8, 22, 23, 24, 25, 36, 37, 38, 39, 40, 41, 42, 43, 44, 45, 46, 47, 48, 49, 50, 51, 52, 53, 54, 55, 56, 57, 58, 59, 60, 61, 62, 63, 64, 65] (by decide +kernel) (by decide +kernel)
set_option maxRecDepth 20000 in
theorem gX8_tellDue_X8_landsBy : GoodIn wsX8_tellDue (wsV RX8 161 RX8 yX8_landsBy wsX8_landsBy) := goodIn_app (goodIn_of _ (by decide +kernel)) ggX8_tellDue_X8_landsBy
set_option maxRecDepth 20000 in
theorem ggX8_tellDue_X8_hearersOf : GoodIn wsX8_tellDue wsX8_hearersOf := goodIn_r _ [29, 30, 31, 32, 33, 8, 34, 19, 35, 36, 37, 38, 39, 40, 41, 42, 43, 44, 45, 46, 47, 48, 49, 50, 51, 52, 53, 54, 55, 56, 57, 58, 59, 60, 61, 62, 63, 64, 65] (by decide +kernel) (by decide +kernel)
set_option maxRecDepth 20000 in
theorem gX8_tellDue_X8_hearersOf : GoodIn wsX8_tellDue (wsV RX8 165 RX8 yX8_hearersOf wsX8_hearersOf) := goodIn_app (goodIn_of _ (by decide +kernel)) ggX8_tellDue_X8_hearersOf
theorem dX8_tellDue_0 : decode cX8_tellDue 0 = .ok (.iconst 0, 1) := by decide +kernel
theorem dX8_tellDue_1 : decode cX8_tellDue 1 = .ok (.istore_n 1, 1) := by decide +kernel
theorem dX8_tellDue_2 : decode cX8_tellDue 2 = .ok (.iload_n 1, 1) := by decide +kernel
theorem dX8_tellDue_3 : decode cX8_tellDue 3 = .ok (.aload_n 0, 1) := by decide +kernel
theorem dX8_tellDue_4 : decode cX8_tellDue 4 = .ok (.getfield 23, 3) := by decide +kernel
theorem dX8_tellDue_7 : decode cX8_tellDue 7 = .ok (.iconst 0, 1) := by decide +kernel
theorem dX8_tellDue_8 : decode cX8_tellDue 8 = .ok (.iaload, 1) := by decide +kernel
theorem dX8_tellDue_9 : decode cX8_tellDue 9 = .ok (.if_icmp .ge 102, 3) := by decide +kernel
theorem dX8_tellDue_12 : decode cX8_tellDue 12 = .ok (.iconst 0, 1) := by decide +kernel
theorem dX8_tellDue_13 : decode cX8_tellDue 13 = .ok (.istore_n 2, 1) := by decide +kernel
theorem dX8_tellDue_14 : decode cX8_tellDue 14 = .ok (.iload_n 2, 1) := by decide +kernel
theorem dX8_tellDue_15 : decode cX8_tellDue 15 = .ok (.iconst 4, 1) := by decide +kernel
theorem dX8_tellDue_16 : decode cX8_tellDue 16 = .ok (.if_icmp .ge 89, 3) := by decide +kernel
theorem dX8_tellDue_19 : decode cX8_tellDue 19 = .ok (.aload_n 0, 1) := by decide +kernel
theorem dX8_tellDue_20 : decode cX8_tellDue 20 = .ok (.getfield 63, 3) := by decide +kernel
theorem dX8_tellDue_23 : decode cX8_tellDue 23 = .ok (.iconst 4, 1) := by decide +kernel
theorem dX8_tellDue_24 : decode cX8_tellDue 24 = .ok (.iload_n 1, 1) := by decide +kernel
theorem dX8_tellDue_25 : decode cX8_tellDue 25 = .ok (.imul, 1) := by decide +kernel
theorem dX8_tellDue_26 : decode cX8_tellDue 26 = .ok (.iload_n 2, 1) := by decide +kernel
theorem dX8_tellDue_27 : decode cX8_tellDue 27 = .ok (.iadd, 1) := by decide +kernel
theorem dX8_tellDue_28 : decode cX8_tellDue 28 = .ok (.ldc 181, 2) := by decide +kernel
theorem dX8_tellDue_30 : decode cX8_tellDue 30 = .ok (.iastore, 1) := by decide +kernel
theorem dX8_tellDue_31 : decode cX8_tellDue 31 = .ok (.iconst 3, 1) := by decide +kernel
theorem dX8_tellDue_32 : decode cX8_tellDue 32 = .ok (.istore_n 3, 1) := by decide +kernel
theorem dX8_tellDue_33 : decode cX8_tellDue 33 = .ok (.iload_n 3, 1) := by decide +kernel
theorem dX8_tellDue_34 : decode cX8_tellDue 34 = .ok (.iload_n 2, 1) := by decide +kernel
theorem dX8_tellDue_35 : decode cX8_tellDue 35 = .ok (.ifCond .ne 7, 3) := by decide +kernel
theorem dX8_tellDue_38 : decode cX8_tellDue 38 = .ok (.iconst 0, 1) := by decide +kernel
theorem dX8_tellDue_39 : decode cX8_tellDue 39 = .ok (.goto 4, 3) := by decide +kernel
theorem dX8_tellDue_42 : decode cX8_tellDue 42 = .ok (.iconst 1, 1) := by decide +kernel
theorem dX8_tellDue_43 : decode cX8_tellDue 43 = .ok (.if_icmp .lt 56, 3) := by decide +kernel
theorem dX8_tellDue_46 : decode cX8_tellDue 46 = .ok (.aload_n 0, 1) := by decide +kernel
theorem dX8_tellDue_47 : decode cX8_tellDue 47 = .ok (.aload_n 0, 1) := by decide +kernel
theorem dX8_tellDue_48 : decode cX8_tellDue 48 = .ok (.getfield 32, 3) := by decide +kernel
theorem dX8_tellDue_51 : decode cX8_tellDue 51 = .ok (.iload_n 1, 1) := by decide +kernel
theorem dX8_tellDue_52 : decode cX8_tellDue 52 = .ok (.iaload, 1) := by decide +kernel
theorem dX8_tellDue_53 : decode cX8_tellDue 53 = .ok (.iload_n 1, 1) := by decide +kernel
theorem dX8_tellDue_54 : decode cX8_tellDue 54 = .ok (.iload_n 2, 1) := by decide +kernel
theorem dX8_tellDue_55 : decode cX8_tellDue 55 = .ok (.iload_n 3, 1) := by decide +kernel
theorem dX8_tellDue_56 : decode cX8_tellDue 56 = .ok (.iconst 1, 1) := by decide +kernel
theorem dX8_tellDue_57 : decode cX8_tellDue 57 = .ok (.aload_n 0, 1) := by decide +kernel
theorem dX8_tellDue_58 : decode cX8_tellDue 58 = .ok (.iconst 0, 1) := by decide +kernel
theorem dX8_tellDue_59 : decode cX8_tellDue 59 = .ok (.invokevirtual 151, 3) := by decide +kernel
theorem dX8_tellDue_62 : decode cX8_tellDue 62 = .ok (.invokevirtual 161, 3) := by decide +kernel
theorem dX8_tellDue_65 : decode cX8_tellDue 65 = .ok (.istore 4, 2) := by decide +kernel
theorem dX8_tellDue_67 : decode cX8_tellDue 67 = .ok (.aload_n 0, 1) := by decide +kernel
theorem dX8_tellDue_68 : decode cX8_tellDue 68 = .ok (.iload 4, 2) := by decide +kernel
theorem dX8_tellDue_70 : decode cX8_tellDue 70 = .ok (.aload_n 0, 1) := by decide +kernel
theorem dX8_tellDue_71 : decode cX8_tellDue 71 = .ok (.getfield 32, 3) := by decide +kernel
theorem dX8_tellDue_74 : decode cX8_tellDue 74 = .ok (.iload_n 1, 1) := by decide +kernel
theorem dX8_tellDue_75 : decode cX8_tellDue 75 = .ok (.iaload, 1) := by decide +kernel
theorem dX8_tellDue_76 : decode cX8_tellDue 76 = .ok (.invokevirtual 165, 3) := by decide +kernel
theorem dX8_tellDue_79 : decode cX8_tellDue 79 = .ok (.ifCond .eq 14, 3) := by decide +kernel
theorem dX8_tellDue_82 : decode cX8_tellDue 82 = .ok (.aload_n 0, 1) := by decide +kernel
theorem dX8_tellDue_83 : decode cX8_tellDue 83 = .ok (.getfield 63, 3) := by decide +kernel
theorem dX8_tellDue_86 : decode cX8_tellDue 86 = .ok (.iconst 4, 1) := by decide +kernel
theorem dX8_tellDue_87 : decode cX8_tellDue 87 = .ok (.iload_n 1, 1) := by decide +kernel
theorem dX8_tellDue_88 : decode cX8_tellDue 88 = .ok (.imul, 1) := by decide +kernel
theorem dX8_tellDue_89 : decode cX8_tellDue 89 = .ok (.iload_n 2, 1) := by decide +kernel
theorem dX8_tellDue_90 : decode cX8_tellDue 90 = .ok (.iadd, 1) := by decide +kernel
theorem dX8_tellDue_91 : decode cX8_tellDue 91 = .ok (.iload_n 3, 1) := by decide +kernel
theorem dX8_tellDue_92 : decode cX8_tellDue 92 = .ok (.iastore, 1) := by decide +kernel
theorem dX8_tellDue_93 : decode cX8_tellDue 93 = .ok (.iinc 3 (-1), 3) := by decide +kernel
theorem dX8_tellDue_96 : decode cX8_tellDue 96 = .ok (.goto (-63), 3) := by decide +kernel
theorem dX8_tellDue_99 : decode cX8_tellDue 99 = .ok (.iinc 2 1, 3) := by decide +kernel
theorem dX8_tellDue_102 : decode cX8_tellDue 102 = .ok (.goto (-88), 3) := by decide +kernel
theorem dX8_tellDue_105 : decode cX8_tellDue 105 = .ok (.iinc 1 1, 3) := by decide +kernel
theorem dX8_tellDue_108 : decode cX8_tellDue 108 = .ok (.goto (-106), 3) := by decide +kernel
theorem dX8_tellDue_111 : decode cX8_tellDue 111 = .ok (.return_, 1) := by decide +kernel
set_option maxRecDepth 20000 in
theorem ggX8_takes_X8_has : GoodIn wsX8_takes wsX8_has := goodIn_r _ [8] (by decide +kernel) (by decide +kernel)
set_option maxRecDepth 20000 in
theorem gX8_takes_X8_has : GoodIn wsX8_takes (va_wsS RX8 145 yX8_has wsX8_has) := goodIn_app (goodIn_of _ (by decide +kernel)) ggX8_takes_X8_has
theorem dX8_takes_0 : decode cX8_takes 0 = .ok (.iconst 0, 1) := by decide +kernel
theorem dX8_takes_1 : decode cX8_takes 1 = .ok (.istore_n 3, 1) := by decide +kernel
theorem dX8_takes_2 : decode cX8_takes 2 = .ok (.iload_n 2, 1) := by decide +kernel
theorem dX8_takes_3 : decode cX8_takes 3 = .ok (.istore 4, 2) := by decide +kernel
theorem dX8_takes_5 : decode cX8_takes 5 = .ok (.iconst 0, 1) := by decide +kernel
theorem dX8_takes_6 : decode cX8_takes 6 = .ok (.istore 5, 2) := by decide +kernel
theorem dX8_takes_8 : decode cX8_takes 8 = .ok (.iconst 0, 1) := by decide +kernel
theorem dX8_takes_9 : decode cX8_takes 9 = .ok (.istore 6, 2) := by decide +kernel
theorem dX8_takes_11 : decode cX8_takes 11 = .ok (.iconst 0, 1) := by decide +kernel
theorem dX8_takes_12 : decode cX8_takes 12 = .ok (.istore 7, 2) := by decide +kernel
theorem dX8_takes_14 : decode cX8_takes 14 = .ok (.iconst 0, 1) := by decide +kernel
theorem dX8_takes_15 : decode cX8_takes 15 = .ok (.istore 8, 2) := by decide +kernel
theorem dX8_takes_17 : decode cX8_takes 17 = .ok (.aload_n 0, 1) := by decide +kernel
theorem dX8_takes_18 : decode cX8_takes 18 = .ok (.getfield 23, 3) := by decide +kernel
theorem dX8_takes_21 : decode cX8_takes 21 = .ok (.iconst 0, 1) := by decide +kernel
theorem dX8_takes_22 : decode cX8_takes 22 = .ok (.iaload, 1) := by decide +kernel
theorem dX8_takes_23 : decode cX8_takes 23 = .ok (.iconst 1, 1) := by decide +kernel
theorem dX8_takes_24 : decode cX8_takes 24 = .ok (.isub, 1) := by decide +kernel
theorem dX8_takes_25 : decode cX8_takes 25 = .ok (.istore 9, 2) := by decide +kernel
theorem dX8_takes_27 : decode cX8_takes 27 = .ok (.iload 9, 2) := by decide +kernel
theorem dX8_takes_29 : decode cX8_takes 29 = .ok (.ifCond .lt 116, 3) := by decide +kernel
theorem dX8_takes_32 : decode cX8_takes 32 = .ok (.iload_n 1, 1) := by decide +kernel
theorem dX8_takes_33 : decode cX8_takes 33 = .ok (.iload 9, 2) := by decide +kernel
theorem dX8_takes_35 : decode cX8_takes 35 = .ok (.invokestatic 145, 3) := by decide +kernel
theorem dX8_takes_38 : decode cX8_takes 38 = .ok (.ifCond .eq 101, 3) := by decide +kernel
theorem dX8_takes_41 : decode cX8_takes 41 = .ok (.iload 4, 2) := by decide +kernel
theorem dX8_takes_43 : decode cX8_takes 43 = .ok (.iconst 4, 1) := by decide +kernel
theorem dX8_takes_44 : decode cX8_takes 44 = .ok (.irem, 1) := by decide +kernel
theorem dX8_takes_45 : decode cX8_takes 45 = .ok (.istore 10, 2) := by decide +kernel
theorem dX8_takes_47 : decode cX8_takes 47 = .ok (.aload_n 0, 1) := by decide +kernel
theorem dX8_takes_48 : decode cX8_takes 48 = .ok (.getfield 63, 3) := by decide +kernel
theorem dX8_takes_51 : decode cX8_takes 51 = .ok (.iconst 4, 1) := by decide +kernel
theorem dX8_takes_52 : decode cX8_takes 52 = .ok (.iload 9, 2) := by decide +kernel
theorem dX8_takes_54 : decode cX8_takes 54 = .ok (.imul, 1) := by decide +kernel
theorem dX8_takes_55 : decode cX8_takes 55 = .ok (.iload 10, 2) := by decide +kernel
theorem dX8_takes_57 : decode cX8_takes 57 = .ok (.iadd, 1) := by decide +kernel
theorem dX8_takes_58 : decode cX8_takes 58 = .ok (.iaload, 1) := by decide +kernel
theorem dX8_takes_59 : decode cX8_takes 59 = .ok (.istore 11, 2) := by decide +kernel
theorem dX8_takes_61 : decode cX8_takes 61 = .ok (.iload 4, 2) := by decide +kernel
theorem dX8_takes_63 : decode cX8_takes 63 = .ok (.iconst 4, 1) := by decide +kernel
theorem dX8_takes_64 : decode cX8_takes 64 = .ok (.idiv, 1) := by decide +kernel
theorem dX8_takes_65 : decode cX8_takes 65 = .ok (.istore 4, 2) := by decide +kernel
theorem dX8_takes_67 : decode cX8_takes 67 = .ok (.iload_n 3, 1) := by decide +kernel
theorem dX8_takes_68 : decode cX8_takes 68 = .ok (.iload 11, 2) := by decide +kernel
theorem dX8_takes_70 : decode cX8_takes 70 = .ok (.iadd, 1) := by decide +kernel
theorem dX8_takes_71 : decode cX8_takes 71 = .ok (.istore_n 3, 1) := by decide +kernel
theorem dX8_takes_72 : decode cX8_takes 72 = .ok (.iload 5, 2) := by decide +kernel
theorem dX8_takes_74 : decode cX8_takes 74 = .ok (.iload 10, 2) := by decide +kernel
theorem dX8_takes_76 : decode cX8_takes 76 = .ok (.ifCond .ne 8, 3) := by decide +kernel
theorem dX8_takes_79 : decode cX8_takes 79 = .ok (.iload 11, 2) := by decide +kernel
theorem dX8_takes_81 : decode cX8_takes 81 = .ok (.goto 4, 3) := by decide +kernel
theorem dX8_takes_84 : decode cX8_takes 84 = .ok (.iconst 0, 1) := by decide +kernel
theorem dX8_takes_85 : decode cX8_takes 85 = .ok (.iadd, 1) := by decide +kernel
theorem dX8_takes_86 : decode cX8_takes 86 = .ok (.istore 5, 2) := by decide +kernel
theorem dX8_takes_88 : decode cX8_takes 88 = .ok (.iload 6, 2) := by decide +kernel
theorem dX8_takes_90 : decode cX8_takes 90 = .ok (.iload 10, 2) := by decide +kernel
theorem dX8_takes_92 : decode cX8_takes 92 = .ok (.iconst 1, 1) := by decide +kernel
theorem dX8_takes_93 : decode cX8_takes 93 = .ok (.if_icmp .ne 8, 3) := by decide +kernel
theorem dX8_takes_96 : decode cX8_takes 96 = .ok (.iload 11, 2) := by decide +kernel
theorem dX8_takes_98 : decode cX8_takes 98 = .ok (.goto 4, 3) := by decide +kernel
theorem dX8_takes_101 : decode cX8_takes 101 = .ok (.iconst 0, 1) := by decide +kernel
theorem dX8_takes_102 : decode cX8_takes 102 = .ok (.iadd, 1) := by decide +kernel
theorem dX8_takes_103 : decode cX8_takes 103 = .ok (.istore 6, 2) := by decide +kernel
theorem dX8_takes_105 : decode cX8_takes 105 = .ok (.iload 7, 2) := by decide +kernel
theorem dX8_takes_107 : decode cX8_takes 107 = .ok (.iload 10, 2) := by decide +kernel
theorem dX8_takes_109 : decode cX8_takes 109 = .ok (.iconst 2, 1) := by decide +kernel
theorem dX8_takes_110 : decode cX8_takes 110 = .ok (.if_icmp .ne 8, 3) := by decide +kernel
theorem dX8_takes_113 : decode cX8_takes 113 = .ok (.iload 11, 2) := by decide +kernel
theorem dX8_takes_115 : decode cX8_takes 115 = .ok (.goto 4, 3) := by decide +kernel
theorem dX8_takes_118 : decode cX8_takes 118 = .ok (.iconst 0, 1) := by decide +kernel
theorem dX8_takes_119 : decode cX8_takes 119 = .ok (.iadd, 1) := by decide +kernel
theorem dX8_takes_120 : decode cX8_takes 120 = .ok (.istore 7, 2) := by decide +kernel
theorem dX8_takes_122 : decode cX8_takes 122 = .ok (.iload 8, 2) := by decide +kernel
theorem dX8_takes_124 : decode cX8_takes 124 = .ok (.iload 10, 2) := by decide +kernel
theorem dX8_takes_126 : decode cX8_takes 126 = .ok (.iconst 3, 1) := by decide +kernel
theorem dX8_takes_127 : decode cX8_takes 127 = .ok (.if_icmp .ne 8, 3) := by decide +kernel
theorem dX8_takes_130 : decode cX8_takes 130 = .ok (.iload 11, 2) := by decide +kernel
theorem dX8_takes_132 : decode cX8_takes 132 = .ok (.goto 4, 3) := by decide +kernel
theorem dX8_takes_135 : decode cX8_takes 135 = .ok (.iconst 0, 1) := by decide +kernel
theorem dX8_takes_136 : decode cX8_takes 136 = .ok (.iadd, 1) := by decide +kernel
theorem dX8_takes_137 : decode cX8_takes 137 = .ok (.istore 8, 2) := by decide +kernel
theorem dX8_takes_139 : decode cX8_takes 139 = .ok (.iinc 9 (-1), 3) := by decide +kernel
theorem dX8_takes_142 : decode cX8_takes 142 = .ok (.goto (-115), 3) := by decide +kernel
theorem dX8_takes_145 : decode cX8_takes 145 = .ok (.iload 5, 2) := by decide +kernel
theorem dX8_takes_147 : decode cX8_takes 147 = .ok (.aload_n 0, 1) := by decide +kernel
theorem dX8_takes_148 : decode cX8_takes 148 = .ok (.getfield 44, 3) := by decide +kernel
theorem dX8_takes_151 : decode cX8_takes 151 = .ok (.iconst 2, 1) := by decide +kernel
theorem dX8_takes_152 : decode cX8_takes 152 = .ok (.iaload, 1) := by decide +kernel
theorem dX8_takes_153 : decode cX8_takes 153 = .ok (.if_icmp .gt 40, 3) := by decide +kernel
theorem dX8_takes_156 : decode cX8_takes 156 = .ok (.iload 6, 2) := by decide +kernel
theorem dX8_takes_158 : decode cX8_takes 158 = .ok (.aload_n 0, 1) := by decide +kernel
theorem dX8_takes_159 : decode cX8_takes 159 = .ok (.getfield 44, 3) := by decide +kernel
theorem dX8_takes_162 : decode cX8_takes 162 = .ok (.iconst 3, 1) := by decide +kernel
theorem dX8_takes_163 : decode cX8_takes 163 = .ok (.iaload, 1) := by decide +kernel
theorem dX8_takes_164 : decode cX8_takes 164 = .ok (.if_icmp .gt 29, 3) := by decide +kernel
theorem dX8_takes_167 : decode cX8_takes 167 = .ok (.iload 7, 2) := by decide +kernel
theorem dX8_takes_169 : decode cX8_takes 169 = .ok (.aload_n 0, 1) := by decide +kernel
theorem dX8_takes_170 : decode cX8_takes 170 = .ok (.getfield 44, 3) := by decide +kernel
theorem dX8_takes_173 : decode cX8_takes 173 = .ok (.iconst 4, 1) := by decide +kernel
theorem dX8_takes_174 : decode cX8_takes 174 = .ok (.iaload, 1) := by decide +kernel
theorem dX8_takes_175 : decode cX8_takes 175 = .ok (.if_icmp .gt 18, 3) := by decide +kernel
theorem dX8_takes_178 : decode cX8_takes 178 = .ok (.iload 8, 2) := by decide +kernel
theorem dX8_takes_180 : decode cX8_takes 180 = .ok (.aload_n 0, 1) := by decide +kernel
theorem dX8_takes_181 : decode cX8_takes 181 = .ok (.getfield 44, 3) := by decide +kernel
theorem dX8_takes_184 : decode cX8_takes 184 = .ok (.iconst 5, 1) := by decide +kernel
theorem dX8_takes_185 : decode cX8_takes 185 = .ok (.iaload, 1) := by decide +kernel
theorem dX8_takes_186 : decode cX8_takes 186 = .ok (.if_icmp .gt 7, 3) := by decide +kernel
theorem dX8_takes_189 : decode cX8_takes 189 = .ok (.iconst 1, 1) := by decide +kernel
theorem dX8_takes_190 : decode cX8_takes 190 = .ok (.goto 4, 3) := by decide +kernel
theorem dX8_takes_193 : decode cX8_takes 193 = .ok (.iconst 0, 1) := by decide +kernel
theorem dX8_takes_194 : decode cX8_takes 194 = .ok (.istore 9, 2) := by decide +kernel
theorem dX8_takes_196 : decode cX8_takes 196 = .ok (.iload 9, 2) := by decide +kernel
theorem dX8_takes_198 : decode cX8_takes 198 = .ok (.ifCond .eq 13, 3) := by decide +kernel
theorem dX8_takes_201 : decode cX8_takes 201 = .ok (.iload_n 3, 1) := by decide +kernel
theorem dX8_takes_202 : decode cX8_takes 202 = .ok (.ldc 181, 2) := by decide +kernel
theorem dX8_takes_204 : decode cX8_takes 204 = .ok (.if_icmp .ge 7, 3) := by decide +kernel
theorem dX8_takes_207 : decode cX8_takes 207 = .ok (.iload_n 3, 1) := by decide +kernel
theorem dX8_takes_208 : decode cX8_takes 208 = .ok (.goto 5, 3) := by decide +kernel
theorem dX8_takes_211 : decode cX8_takes 211 = .ok (.ldc 181, 2) := by decide +kernel
theorem dX8_takes_213 : decode cX8_takes 213 = .ok (.ireturn, 1) := by decide +kernel
set_option maxRecDepth 20000 in
theorem ggX8_allot_X8_in : GoodIn wsX8_allot wsX8_in := goodIn_r _ [7] (by decide +kernel) (by decide +kernel)
set_option maxRecDepth 20000 in
theorem gX8_allot_X8_in : GoodIn wsX8_allot (va_wsS RX8 72 yX8_in wsX8_in) := goodIn_app (goodIn_of _ (by decide +kernel)) ggX8_allot_X8_in
set_option maxRecDepth 20000 in
theorem ggX8_allot_X8_isSaying : GoodIn wsX8_allot wsX8_isSaying := goodIn_r _ [11, 1, 4, 5, 6, 7, 54, 55, 56, 57, 58, 59, 60, 61, 62, 63, 64, 65, 66, 67, 68, 69, 70, 71, 72, 73, 74, 75, 76, 77, 78, 79, 80, 81, 82, 83] (by decide +kernel) (by decide +kernel)
set_option maxRecDepth 20000 in
theorem gX8_allot_X8_isSaying : GoodIn wsX8_allot (wsV RX8 148 RX8 yX8_isSaying wsX8_isSaying) := goodIn_app (goodIn_of _ (by decide +kernel)) ggX8_allot_X8_isSaying
set_option maxRecDepth 20000 in
theorem ggX8_allot_X8_has : GoodIn wsX8_allot wsX8_has := goodIn_r _ [14] (by decide +kernel) (by decide +kernel)
set_option maxRecDepth 20000 in
theorem gX8_allot_X8_has : GoodIn wsX8_allot (va_wsS RX8 145 yX8_has wsX8_has) := goodIn_app (goodIn_of _ (by decide +kernel)) ggX8_allot_X8_has
set_option maxRecDepth 20000 in
theorem ggX8_allot_X8_tellDue : GoodIn wsX8_allot wsX8_tellDue := goodIn_r _ [18, 1, 3, 2, 19, 20, 21, 22, 6, 23, 24, 25, 26, 27, 28, 29, 30, 31, 32, 33, 34, 35, 36, 4, 5, 7, 37, 38, 39, 40, 41, 42, 43, 44, 45, 46, 54, 55, 56, 57, 58, 59, 60, 61, 62, 63, 64, 65, 66, 67, 68, 69, 70, 71, 72, 73, 74, 75, 76, 77, 78, 79, 80, 81, 82, 83] (by decide +kernel) (by decide +kernel)
set_option maxRecDepth 20000 in
theorem gX8_allot_X8_tellDue : GoodIn wsX8_allot (wsV RX8 189 RX8 yX8_tellDue wsX8_tellDue) := goodIn_app (goodIn_of _ (by decide +kernel)) ggX8_allot_X8_tellDue
set_option maxRecDepth 20000 in
theorem ggX8_allot_X8_bitsOf : GoodIn wsX8_allot wsX8_bitsOf := goodIn_r _ [49] (by decide +kernel) (by decide +kernel)
set_option maxRecDepth 20000 in
theorem gX8_allot_X8_bitsOf : GoodIn wsX8_allot (va_wsS RX8 192 yX8_bitsOf wsX8_bitsOf) := goodIn_app (goodIn_of _ (by decide +kernel)) ggX8_allot_X8_bitsOf
set_option maxRecDepth 20000 in
theorem ggX8_allot_X8_takes : GoodIn wsX8_allot wsX8_takes := goodIn_r _ [53, 1, 3, 25, 2, 12, 13, 6, 14, 54, 55, 56, 57, 58, 59, 60, 61, 62, 63, 64, 65, 66, 67, 68, 69, 70, 71, 72, 73, 74, 75, 76, 77, 78, 79, 80, 81, 82, 83] (by decide +kernel) (by decide +kernel)
set_option maxRecDepth 20000 in
theorem gX8_allot_X8_takes : GoodIn wsX8_allot (wsV RX8 195 RX8 yX8_takes wsX8_takes) := goodIn_app (goodIn_of _ (by decide +kernel)) ggX8_allot_X8_takes
theorem dX8_allot_0 : decode cX8_allot 0 = .ok (.iload_n 1, 1) := by decide +kernel
theorem dX8_allot_1 : decode cX8_allot 1 = .ok (.iconst 1, 1) := by decide +kernel
theorem dX8_allot_2 : decode cX8_allot 2 = .ok (.iconst 1, 1) := by decide +kernel
theorem dX8_allot_3 : decode cX8_allot 3 = .ok (.aload_n 0, 1) := by decide +kernel
theorem dX8_allot_4 : decode cX8_allot 4 = .ok (.getfield 23, 3) := by decide +kernel
theorem dX8_allot_7 : decode cX8_allot 7 = .ok (.iconst 0, 1) := by decide +kernel
theorem dX8_allot_8 : decode cX8_allot 8 = .ok (.iaload, 1) := by decide +kernel
theorem dX8_allot_9 : decode cX8_allot 9 = .ok (.ishl, 1) := by decide +kernel
theorem dX8_allot_10 : decode cX8_allot 10 = .ok (.iconst 1, 1) := by decide +kernel
theorem dX8_allot_11 : decode cX8_allot 11 = .ok (.isub, 1) := by decide +kernel
theorem dX8_allot_12 : decode cX8_allot 12 = .ok (.invokestatic 72, 3) := by decide +kernel
theorem dX8_allot_15 : decode cX8_allot 15 = .ok (.ifCond .eq 24, 3) := by decide +kernel
theorem dX8_allot_18 : decode cX8_allot 18 = .ok (.iload_n 2, 1) := by decide +kernel
theorem dX8_allot_19 : decode cX8_allot 19 = .ok (.iconst (-1), 1) := by decide +kernel
theorem dX8_allot_20 : decode cX8_allot 20 = .ok (.if_icmp .eq 21, 3) := by decide +kernel
theorem dX8_allot_23 : decode cX8_allot 23 = .ok (.aload_n 0, 1) := by decide +kernel
theorem dX8_allot_24 : decode cX8_allot 24 = .ok (.iload_n 2, 1) := by decide +kernel
theorem dX8_allot_25 : decode cX8_allot 25 = .ok (.invokevirtual 148, 3) := by decide +kernel
theorem dX8_allot_28 : decode cX8_allot 28 = .ok (.ifCond .eq 11, 3) := by decide +kernel
theorem dX8_allot_31 : decode cX8_allot 31 = .ok (.iload_n 1, 1) := by decide +kernel
theorem dX8_allot_32 : decode cX8_allot 32 = .ok (.iload_n 2, 1) := by decide +kernel
theorem dX8_allot_33 : decode cX8_allot 33 = .ok (.invokestatic 145, 3) := by decide +kernel
theorem dX8_allot_36 : decode cX8_allot 36 = .ok (.ifCond .ne 5, 3) := by decide +kernel
theorem dX8_allot_39 : decode cX8_allot 39 = .ok (.iconst (-1), 1) := by decide +kernel
theorem dX8_allot_40 : decode cX8_allot 40 = .ok (.ireturn, 1) := by decide +kernel
theorem dX8_allot_41 : decode cX8_allot 41 = .ok (.aload_n 0, 1) := by decide +kernel
theorem dX8_allot_42 : decode cX8_allot 42 = .ok (.invokevirtual 189, 3) := by decide +kernel
theorem dX8_allot_45 : decode cX8_allot 45 = .ok (.iconst 1, 1) := by decide +kernel
theorem dX8_allot_46 : decode cX8_allot 46 = .ok (.istore_n 3, 1) := by decide +kernel
theorem dX8_allot_47 : decode cX8_allot 47 = .ok (.iconst 0, 1) := by decide +kernel
theorem dX8_allot_48 : decode cX8_allot 48 = .ok (.istore 4, 2) := by decide +kernel
theorem dX8_allot_50 : decode cX8_allot 50 = .ok (.iload 4, 2) := by decide +kernel
theorem dX8_allot_52 : decode cX8_allot 52 = .ok (.iload_n 1, 1) := by decide +kernel
theorem dX8_allot_53 : decode cX8_allot 53 = .ok (.invokestatic 192, 3) := by decide +kernel
theorem dX8_allot_56 : decode cX8_allot 56 = .ok (.if_icmp .ge 13, 3) := by decide +kernel
theorem dX8_allot_59 : decode cX8_allot 59 = .ok (.iload_n 3, 1) := by decide +kernel
theorem dX8_allot_60 : decode cX8_allot 60 = .ok (.iconst 4, 1) := by decide +kernel
theorem dX8_allot_61 : decode cX8_allot 61 = .ok (.imul, 1) := by decide +kernel
theorem dX8_allot_62 : decode cX8_allot 62 = .ok (.istore_n 3, 1) := by decide +kernel
theorem dX8_allot_63 : decode cX8_allot 63 = .ok (.iinc 4 1, 3) := by decide +kernel
theorem dX8_allot_66 : decode cX8_allot 66 = .ok (.goto (-16), 3) := by decide +kernel
theorem dX8_allot_69 : decode cX8_allot 69 = .ok (.iconst 0, 1) := by decide +kernel
theorem dX8_allot_70 : decode cX8_allot 70 = .ok (.istore 4, 2) := by decide +kernel
theorem dX8_allot_72 : decode cX8_allot 72 = .ok (.ldc 181, 2) := by decide +kernel
theorem dX8_allot_74 : decode cX8_allot 74 = .ok (.istore 5, 2) := by decide +kernel
theorem dX8_allot_76 : decode cX8_allot 76 = .ok (.iconst 0, 1) := by decide +kernel
theorem dX8_allot_77 : decode cX8_allot 77 = .ok (.istore 6, 2) := by decide +kernel
theorem dX8_allot_79 : decode cX8_allot 79 = .ok (.iload 6, 2) := by decide +kernel
theorem dX8_allot_81 : decode cX8_allot 81 = .ok (.iload_n 3, 1) := by decide +kernel
theorem dX8_allot_82 : decode cX8_allot 82 = .ok (.if_icmp .ge 33, 3) := by decide +kernel
theorem dX8_allot_85 : decode cX8_allot 85 = .ok (.aload_n 0, 1) := by decide +kernel
theorem dX8_allot_86 : decode cX8_allot 86 = .ok (.iload_n 1, 1) := by decide +kernel
theorem dX8_allot_87 : decode cX8_allot 87 = .ok (.iload 6, 2) := by decide +kernel
theorem dX8_allot_89 : decode cX8_allot 89 = .ok (.invokevirtual 195, 3) := by decide +kernel
theorem dX8_allot_92 : decode cX8_allot 92 = .ok (.istore 7, 2) := by decide +kernel
theorem dX8_allot_94 : decode cX8_allot 94 = .ok (.iload 7, 2) := by decide +kernel
theorem dX8_allot_96 : decode cX8_allot 96 = .ok (.iload 5, 2) := by decide +kernel
theorem dX8_allot_98 : decode cX8_allot 98 = .ok (.if_icmp .ge 11, 3) := by decide +kernel
theorem dX8_allot_101 : decode cX8_allot 101 = .ok (.iload 6, 2) := by decide +kernel
theorem dX8_allot_103 : decode cX8_allot 103 = .ok (.istore 4, 2) := by decide +kernel
theorem dX8_allot_105 : decode cX8_allot 105 = .ok (.iload 7, 2) := by decide +kernel
theorem dX8_allot_107 : decode cX8_allot 107 = .ok (.istore 5, 2) := by decide +kernel
theorem dX8_allot_109 : decode cX8_allot 109 = .ok (.iinc 6 1, 3) := by decide +kernel
theorem dX8_allot_112 : decode cX8_allot 112 = .ok (.goto (-33), 3) := by decide +kernel
theorem dX8_allot_115 : decode cX8_allot 115 = .ok (.iload 5, 2) := by decide +kernel
theorem dX8_allot_117 : decode cX8_allot 117 = .ok (.ldc 181, 2) := by decide +kernel
theorem dX8_allot_119 : decode cX8_allot 119 = .ok (.if_icmp .lt 6, 3) := by decide +kernel
theorem dX8_allot_122 : decode cX8_allot 122 = .ok (.bipush (-9), 2) := by decide +kernel
theorem dX8_allot_124 : decode cX8_allot 124 = .ok (.ireturn, 1) := by decide +kernel
theorem dX8_allot_125 : decode cX8_allot 125 = .ok (.iload_n 2, 1) := by decide +kernel
theorem dX8_allot_126 : decode cX8_allot 126 = .ok (.iconst (-1), 1) := by decide +kernel
theorem dX8_allot_127 : decode cX8_allot 127 = .ok (.if_icmp .ne 6, 3) := by decide +kernel
theorem dX8_allot_130 : decode cX8_allot 130 = .ok (.iload 5, 2) := by decide +kernel
theorem dX8_allot_132 : decode cX8_allot 132 = .ok (.ireturn, 1) := by decide +kernel
theorem dX8_allot_133 : decode cX8_allot 133 = .ok (.aload_n 0, 1) := by decide +kernel
theorem dX8_allot_134 : decode cX8_allot 134 = .ok (.getfield 23, 3) := by decide +kernel
theorem dX8_allot_137 : decode cX8_allot 137 = .ok (.iconst 0, 1) := by decide +kernel
theorem dX8_allot_138 : decode cX8_allot 138 = .ok (.iaload, 1) := by decide +kernel
theorem dX8_allot_139 : decode cX8_allot 139 = .ok (.iconst 1, 1) := by decide +kernel
theorem dX8_allot_140 : decode cX8_allot 140 = .ok (.isub, 1) := by decide +kernel
theorem dX8_allot_141 : decode cX8_allot 141 = .ok (.istore 6, 2) := by decide +kernel
theorem dX8_allot_143 : decode cX8_allot 143 = .ok (.iload 6, 2) := by decide +kernel
theorem dX8_allot_145 : decode cX8_allot 145 = .ok (.iload_n 2, 1) := by decide +kernel
theorem dX8_allot_146 : decode cX8_allot 146 = .ok (.if_icmp .le 28, 3) := by decide +kernel
theorem dX8_allot_149 : decode cX8_allot 149 = .ok (.iload 4, 2) := by decide +kernel
theorem dX8_allot_151 : decode cX8_allot 151 = .ok (.iload_n 1, 1) := by decide +kernel
theorem dX8_allot_152 : decode cX8_allot 152 = .ok (.iload 6, 2) := by decide +kernel
theorem dX8_allot_154 : decode cX8_allot 154 = .ok (.invokestatic 145, 3) := by decide +kernel
theorem dX8_allot_157 : decode cX8_allot 157 = .ok (.ifCond .eq 7, 3) := by decide +kernel
theorem dX8_allot_160 : decode cX8_allot 160 = .ok (.iconst 4, 1) := by decide +kernel
theorem dX8_allot_161 : decode cX8_allot 161 = .ok (.goto 4, 3) := by decide +kernel
theorem dX8_allot_164 : decode cX8_allot 164 = .ok (.iconst 1, 1) := by decide +kernel
theorem dX8_allot_165 : decode cX8_allot 165 = .ok (.idiv, 1) := by decide +kernel
theorem dX8_allot_166 : decode cX8_allot 166 = .ok (.istore 4, 2) := by decide +kernel
theorem dX8_allot_168 : decode cX8_allot 168 = .ok (.iinc 6 (-1), 3) := by decide +kernel
theorem dX8_allot_171 : decode cX8_allot 171 = .ok (.goto (-28), 3) := by decide +kernel
theorem dX8_allot_174 : decode cX8_allot 174 = .ok (.bipush 10, 2) := by decide +kernel
theorem dX8_allot_176 : decode cX8_allot 176 = .ok (.iload 4, 2) := by decide +kernel
theorem dX8_allot_178 : decode cX8_allot 178 = .ok (.iconst 4, 1) := by decide +kernel
theorem dX8_allot_179 : decode cX8_allot 179 = .ok (.irem, 1) := by decide +kernel
theorem dX8_allot_180 : decode cX8_allot 180 = .ok (.imul, 1) := by decide +kernel
theorem dX8_allot_181 : decode cX8_allot 181 = .ok (.aload_n 0, 1) := by decide +kernel
theorem dX8_allot_182 : decode cX8_allot 182 = .ok (.getfield 63, 3) := by decide +kernel
theorem dX8_allot_185 : decode cX8_allot 185 = .ok (.iconst 4, 1) := by decide +kernel
theorem dX8_allot_186 : decode cX8_allot 186 = .ok (.iload_n 2, 1) := by decide +kernel
theorem dX8_allot_187 : decode cX8_allot 187 = .ok (.imul, 1) := by decide +kernel
theorem dX8_allot_188 : decode cX8_allot 188 = .ok (.iload 4, 2) := by decide +kernel
theorem dX8_allot_190 : decode cX8_allot 190 = .ok (.iconst 4, 1) := by decide +kernel
theorem dX8_allot_191 : decode cX8_allot 191 = .ok (.irem, 1) := by decide +kernel
theorem dX8_allot_192 : decode cX8_allot 192 = .ok (.iadd, 1) := by decide +kernel
theorem dX8_allot_193 : decode cX8_allot 193 = .ok (.iaload, 1) := by decide +kernel
theorem dX8_allot_194 : decode cX8_allot 194 = .ok (.iadd, 1) := by decide +kernel
theorem dX8_allot_195 : decode cX8_allot 195 = .ok (.ireturn, 1) := by decide +kernel
set_option maxRecDepth 20000 in
theorem ggX8_odds_X8_areUnlike : GoodIn wsX8_odds wsX8_areUnlike := goodIn_r _ [7, 8, 9, 10, 6, 11, 12, 13, 14, 15, 47, 48, 49, 50, 51, 52, 53, 54, 55, 56, 57, 58, 59, 60, 61, 62, 63, 64, 65, 66, 67, 68, 69, 70, 71, 72, 73, 74, 75, 76] (by decide +kernel) (by decide +kernel)
set_option maxRecDepth 20000 in
theorem gX8_odds_X8_areUnlike : GoodIn wsX8_odds (wsV RX8 171 RX8 yX8_areUnlike wsX8_areUnlike) := goodIn_app (goodIn_of _ (by decide +kernel)) ggX8_odds_X8_areUnlike
set_option maxRecDepth 20000 in
theorem ggX8_odds_X8_isSaying : GoodIn wsX8_odds wsX8_isSaying := goodIn_r _ [19, 20, 13, 14, 6, 15, 47, 48, 49, 50, 51, 52, 53, 54, 55, 56, 57, 58, 59, 60, 61, 62, 63, 64, 65, 66, 67, 68, 69, 70, 71, 72, 73, 74, 75, 76] (by decide +kernel) (by decide +kernel)
set_option maxRecDepth 20000 in
theorem gX8_odds_X8_isSaying : GoodIn wsX8_odds (wsV RX8 148 RX8 yX8_isSaying wsX8_isSaying) := goodIn_app (goodIn_of _ (by decide +kernel)) ggX8_odds_X8_isSaying
set_option maxRecDepth 20000 in
theorem ggX8_odds_X8_isShotBy : GoodIn wsX8_odds wsX8_isShotBy := goodIn_r _ [23, 24, 25, 6, 26, 13, 14, 15] (by decide +kernel) (by decide +kernel)
set_option maxRecDepth 20000 in
theorem gX8_odds_X8_isShotBy : GoodIn wsX8_odds (va_wsS RX8 178 yX8_isShotBy wsX8_isShotBy) := goodIn_app (goodIn_of _ (by decide +kernel)) ggX8_odds_X8_isShotBy
set_option maxRecDepth 20000 in
theorem ggX8_odds_X8_in : GoodIn wsX8_odds wsX8_in := goodIn_r _ [15] (by decide +kernel) (by decide +kernel)
set_option maxRecDepth 20000 in
theorem gX8_odds_X8_in : GoodIn wsX8_odds (va_wsS RX8 72 yX8_in wsX8_in) := goodIn_app (goodIn_of _ (by decide +kernel)) ggX8_odds_X8_in
set_option maxRecDepth 20000 in
theorem ggX8_odds_X8_isHeard : GoodIn wsX8_odds wsX8_isHeard := goodIn_r _ [30, 31, 32, 33, 6, 34, 35, 36, 37, 38, 39, 40, 41, 13, 14, 15, 42, 43, 44, 45, 46, 47, 48, 49, 50, 51, 52, 53, 54, 55, 56, 57, 58, 59, 60, 61, 62, 63, 64, 65, 66, 67, 68, 69, 70, 71, 72, 73, 74, 75, 76] (by decide +kernel) (by decide +kernel)
set_option maxRecDepth 20000 in
theorem gX8_odds_X8_isHeard : GoodIn wsX8_odds (wsV RX8 174 RX8 yX8_isHeard wsX8_isHeard) := goodIn_app (goodIn_of _ (by decide +kernel)) ggX8_odds_X8_isHeard
theorem dX8_odds_0 : decode cX8_odds 0 = .ok (.aload_n 0, 1) := by decide +kernel
theorem dX8_odds_1 : decode cX8_odds 1 = .ok (.iload_n 1, 1) := by decide +kernel
theorem dX8_odds_2 : decode cX8_odds 2 = .ok (.iload_n 2, 1) := by decide +kernel
theorem dX8_odds_3 : decode cX8_odds 3 = .ok (.invokevirtual 171, 3) := by decide +kernel
theorem dX8_odds_6 : decode cX8_odds 6 = .ok (.ifCond .eq 29, 3) := by decide +kernel
theorem dX8_odds_9 : decode cX8_odds 9 = .ok (.aload_n 0, 1) := by decide +kernel
theorem dX8_odds_10 : decode cX8_odds 10 = .ok (.iload_n 3, 1) := by decide +kernel
theorem dX8_odds_11 : decode cX8_odds 11 = .ok (.invokevirtual 148, 3) := by decide +kernel
theorem dX8_odds_14 : decode cX8_odds 14 = .ok (.ifCond .eq 21, 3) := by decide +kernel
theorem dX8_odds_17 : decode cX8_odds 17 = .ok (.iload 4, 2) := by decide +kernel
theorem dX8_odds_19 : decode cX8_odds 19 = .ok (.invokestatic 178, 3) := by decide +kernel
theorem dX8_odds_22 : decode cX8_odds 22 = .ok (.ifCond .eq 13, 3) := by decide +kernel
theorem dX8_odds_25 : decode cX8_odds 25 = .ok (.iload 5, 2) := by decide +kernel
theorem dX8_odds_27 : decode cX8_odds 27 = .ok (.iconst 0, 1) := by decide +kernel
theorem dX8_odds_28 : decode cX8_odds 28 = .ok (.iconst 1, 1) := by decide +kernel
theorem dX8_odds_29 : decode cX8_odds 29 = .ok (.invokestatic 72, 3) := by decide +kernel
theorem dX8_odds_32 : decode cX8_odds 32 = .ok (.ifCond .ne 5, 3) := by decide +kernel
theorem dX8_odds_35 : decode cX8_odds 35 = .ok (.iconst (-1), 1) := by decide +kernel
theorem dX8_odds_36 : decode cX8_odds 36 = .ok (.ireturn, 1) := by decide +kernel
theorem dX8_odds_37 : decode cX8_odds 37 = .ok (.iconst 0, 1) := by decide +kernel
theorem dX8_odds_38 : decode cX8_odds 38 = .ok (.istore 6, 2) := by decide +kernel
theorem dX8_odds_40 : decode cX8_odds 40 = .ok (.iconst 0, 1) := by decide +kernel
theorem dX8_odds_41 : decode cX8_odds 41 = .ok (.istore 7, 2) := by decide +kernel
theorem dX8_odds_43 : decode cX8_odds 43 = .ok (.iload 7, 2) := by decide +kernel
theorem dX8_odds_45 : decode cX8_odds 45 = .ok (.aload_n 0, 1) := by decide +kernel
theorem dX8_odds_46 : decode cX8_odds 46 = .ok (.getfield 35, 3) := by decide +kernel
theorem dX8_odds_49 : decode cX8_odds 49 = .ok (.iconst 0, 1) := by decide +kernel
theorem dX8_odds_50 : decode cX8_odds 50 = .ok (.iaload, 1) := by decide +kernel
theorem dX8_odds_51 : decode cX8_odds 51 = .ok (.if_icmp .ge 38, 3) := by decide +kernel
theorem dX8_odds_54 : decode cX8_odds 54 = .ok (.iload 6, 2) := by decide +kernel
theorem dX8_odds_56 : decode cX8_odds 56 = .ok (.aload_n 0, 1) := by decide +kernel
theorem dX8_odds_57 : decode cX8_odds 57 = .ok (.iload_n 1, 1) := by decide +kernel
theorem dX8_odds_58 : decode cX8_odds 58 = .ok (.iload_n 2, 1) := by decide +kernel
theorem dX8_odds_59 : decode cX8_odds 59 = .ok (.iload_n 3, 1) := by decide +kernel
theorem dX8_odds_60 : decode cX8_odds 60 = .ok (.iload 4, 2) := by decide +kernel
theorem dX8_odds_62 : decode cX8_odds 62 = .ok (.aload_n 0, 1) := by decide +kernel
theorem dX8_odds_63 : decode cX8_odds 63 = .ok (.getfield 38, 3) := by decide +kernel
theorem dX8_odds_66 : decode cX8_odds 66 = .ok (.iload 7, 2) := by decide +kernel
theorem dX8_odds_68 : decode cX8_odds 68 = .ok (.iaload, 1) := by decide +kernel
theorem dX8_odds_69 : decode cX8_odds 69 = .ok (.invokevirtual 174, 3) := by decide +kernel
theorem dX8_odds_72 : decode cX8_odds 72 = .ok (.ifCond .eq 7, 3) := by decide +kernel
theorem dX8_odds_75 : decode cX8_odds 75 = .ok (.iconst 1, 1) := by decide +kernel
theorem dX8_odds_76 : decode cX8_odds 76 = .ok (.goto 4, 3) := by decide +kernel
theorem dX8_odds_79 : decode cX8_odds 79 = .ok (.iconst 0, 1) := by decide +kernel
theorem dX8_odds_80 : decode cX8_odds 80 = .ok (.iadd, 1) := by decide +kernel
theorem dX8_odds_81 : decode cX8_odds 81 = .ok (.istore 6, 2) := by decide +kernel
theorem dX8_odds_83 : decode cX8_odds 83 = .ok (.iinc 7 1, 3) := by decide +kernel
theorem dX8_odds_86 : decode cX8_odds 86 = .ok (.goto (-43), 3) := by decide +kernel
theorem dX8_odds_89 : decode cX8_odds 89 = .ok (.iload 6, 2) := by decide +kernel
theorem dX8_odds_91 : decode cX8_odds 91 = .ok (.istore 7, 2) := by decide +kernel
theorem dX8_odds_93 : decode cX8_odds 93 = .ok (.aload_n 0, 1) := by decide +kernel
theorem dX8_odds_94 : decode cX8_odds 94 = .ok (.getfield 35, 3) := by decide +kernel
theorem dX8_odds_97 : decode cX8_odds 97 = .ok (.iconst 0, 1) := by decide +kernel
theorem dX8_odds_98 : decode cX8_odds 98 = .ok (.iaload, 1) := by decide +kernel
theorem dX8_odds_99 : decode cX8_odds 99 = .ok (.istore 8, 2) := by decide +kernel
theorem dX8_odds_101 : decode cX8_odds 101 = .ok (.iload 8, 2) := by decide +kernel
theorem dX8_odds_103 : decode cX8_odds 103 = .ok (.ifCond .eq 21, 3) := by decide +kernel
theorem dX8_odds_106 : decode cX8_odds 106 = .ok (.iload 7, 2) := by decide +kernel
theorem dX8_odds_108 : decode cX8_odds 108 = .ok (.iload 8, 2) := by decide +kernel
theorem dX8_odds_110 : decode cX8_odds 110 = .ok (.irem, 1) := by decide +kernel
theorem dX8_odds_111 : decode cX8_odds 111 = .ok (.istore 9, 2) := by decide +kernel
theorem dX8_odds_113 : decode cX8_odds 113 = .ok (.iload 8, 2) := by decide +kernel
theorem dX8_odds_115 : decode cX8_odds 115 = .ok (.istore 7, 2) := by decide +kernel
theorem dX8_odds_117 : decode cX8_odds 117 = .ok (.iload 9, 2) := by decide +kernel
theorem dX8_odds_119 : decode cX8_odds 119 = .ok (.istore 8, 2) := by decide +kernel
theorem dX8_odds_121 : decode cX8_odds 121 = .ok (.goto (-20), 3) := by decide +kernel
theorem dX8_odds_124 : decode cX8_odds 124 = .ok (.iload 5, 2) := by decide +kernel
theorem dX8_odds_126 : decode cX8_odds 126 = .ok (.ifCond .ne 11, 3) := by decide +kernel
theorem dX8_odds_129 : decode cX8_odds 129 = .ok (.iload 6, 2) := by decide +kernel
theorem dX8_odds_131 : decode cX8_odds 131 = .ok (.iload 7, 2) := by decide +kernel
theorem dX8_odds_133 : decode cX8_odds 133 = .ok (.idiv, 1) := by decide +kernel
theorem dX8_odds_134 : decode cX8_odds 134 = .ok (.goto 12, 3) := by decide +kernel
theorem dX8_odds_137 : decode cX8_odds 137 = .ok (.aload_n 0, 1) := by decide +kernel
theorem dX8_odds_138 : decode cX8_odds 138 = .ok (.getfield 35, 3) := by decide +kernel
theorem dX8_odds_141 : decode cX8_odds 141 = .ok (.iconst 0, 1) := by decide +kernel
theorem dX8_odds_142 : decode cX8_odds 142 = .ok (.iaload, 1) := by decide +kernel
theorem dX8_odds_143 : decode cX8_odds 143 = .ok (.iload 7, 2) := by decide +kernel
theorem dX8_odds_145 : decode cX8_odds 145 = .ok (.idiv, 1) := by decide +kernel
theorem dX8_odds_146 : decode cX8_odds 146 = .ok (.ireturn, 1) := by decide +kernel
set_option maxRecDepth 20000 in
theorem ggX8_saw_X8_isSaying : GoodIn wsX8_saw wsX8_isSaying := goodIn_r _ [8, 9, 10, 11, 7, 12, 13, 14, 15, 16, 17, 18, 19, 20, 21, 22, 23, 24, 25, 26, 27, 28, 29, 30, 31, 32, 33, 34, 35, 36, 37, 38, 39, 40, 41, 42] (by decide +kernel) (by decide +kernel)
set_option maxRecDepth 20000 in
theorem gX8_saw_X8_isSaying : GoodIn wsX8_saw (wsV RX8 148 RX8 yX8_isSaying wsX8_isSaying) := goodIn_app (goodIn_of _ (by decide +kernel)) ggX8_saw_X8_isSaying
set_option maxRecDepth 20000 in
theorem ggX8_saw_X8_in : GoodIn wsX8_saw wsX8_in := goodIn_r _ [12] (by decide +kernel) (by decide +kernel)
set_option maxRecDepth 20000 in
theorem gX8_saw_X8_in : GoodIn wsX8_saw (va_wsS RX8 72 yX8_in wsX8_in) := goodIn_app (goodIn_of _ (by decide +kernel)) ggX8_saw_X8_in
theorem dX8_saw_0 : decode cX8_saw 0 = .ok (.aload_n 0, 1) := by decide +kernel
theorem dX8_saw_1 : decode cX8_saw 1 = .ok (.iload_n 1, 1) := by decide +kernel
theorem dX8_saw_2 : decode cX8_saw 2 = .ok (.invokevirtual 148, 3) := by decide +kernel
theorem dX8_saw_5 : decode cX8_saw 5 = .ok (.ifCond .eq 13, 3) := by decide +kernel
theorem dX8_saw_8 : decode cX8_saw 8 = .ok (.iload_n 2, 1) := by decide +kernel
theorem dX8_saw_9 : decode cX8_saw 9 = .ok (.iconst 0, 1) := by decide +kernel
theorem dX8_saw_10 : decode cX8_saw 10 = .ok (.bipush 30, 2) := by decide +kernel
theorem dX8_saw_12 : decode cX8_saw 12 = .ok (.invokestatic 72, 3) := by decide +kernel
theorem dX8_saw_15 : decode cX8_saw 15 = .ok (.ifCond .ne 5, 3) := by decide +kernel
theorem dX8_saw_18 : decode cX8_saw 18 = .ok (.iconst (-1), 1) := by decide +kernel
theorem dX8_saw_19 : decode cX8_saw 19 = .ok (.ireturn, 1) := by decide +kernel
theorem dX8_saw_20 : decode cX8_saw 20 = .ok (.aload_n 0, 1) := by decide +kernel
theorem dX8_saw_21 : decode cX8_saw 21 = .ok (.getfield 131, 3) := by decide +kernel
theorem dX8_saw_24 : decode cX8_saw 24 = .ok (.iconst 4, 1) := by decide +kernel
theorem dX8_saw_25 : decode cX8_saw 25 = .ok (.if_icmp .ne 6, 3) := by decide +kernel
theorem dX8_saw_28 : decode cX8_saw 28 = .ok (.bipush (-3), 2) := by decide +kernel
theorem dX8_saw_30 : decode cX8_saw 30 = .ok (.ireturn, 1) := by decide +kernel
theorem dX8_saw_31 : decode cX8_saw 31 = .ok (.aload_n 0, 1) := by decide +kernel
theorem dX8_saw_32 : decode cX8_saw 32 = .ok (.getfield 66, 3) := by decide +kernel
theorem dX8_saw_35 : decode cX8_saw 35 = .ok (.aload_n 0, 1) := by decide +kernel
theorem dX8_saw_36 : decode cX8_saw 36 = .ok (.getfield 131, 3) := by decide +kernel
theorem dX8_saw_39 : decode cX8_saw 39 = .ok (.iload_n 1, 1) := by decide +kernel
theorem dX8_saw_40 : decode cX8_saw 40 = .ok (.iastore, 1) := by decide +kernel
theorem dX8_saw_41 : decode cX8_saw 41 = .ok (.aload_n 0, 1) := by decide +kernel
theorem dX8_saw_42 : decode cX8_saw 42 = .ok (.getfield 69, 3) := by decide +kernel
theorem dX8_saw_45 : decode cX8_saw 45 = .ok (.aload_n 0, 1) := by decide +kernel
theorem dX8_saw_46 : decode cX8_saw 46 = .ok (.getfield 131, 3) := by decide +kernel
theorem dX8_saw_49 : decode cX8_saw 49 = .ok (.iload_n 2, 1) := by decide +kernel
theorem dX8_saw_50 : decode cX8_saw 50 = .ok (.iastore, 1) := by decide +kernel
theorem dX8_saw_51 : decode cX8_saw 51 = .ok (.aload_n 0, 1) := by decide +kernel
theorem dX8_saw_52 : decode cX8_saw 52 = .ok (.dup, 1) := by decide +kernel
theorem dX8_saw_53 : decode cX8_saw 53 = .ok (.getfield 131, 3) := by decide +kernel
theorem dX8_saw_56 : decode cX8_saw 56 = .ok (.iconst 1, 1) := by decide +kernel
theorem dX8_saw_57 : decode cX8_saw 57 = .ok (.iadd, 1) := by decide +kernel
theorem dX8_saw_58 : decode cX8_saw 58 = .ok (.putfield 131, 3) := by decide +kernel
theorem dX8_saw_61 : decode cX8_saw 61 = .ok (.aload_n 0, 1) := by decide +kernel
theorem dX8_saw_62 : decode cX8_saw 62 = .ok (.getfield 131, 3) := by decide +kernel
theorem dX8_saw_65 : decode cX8_saw 65 = .ok (.ireturn, 1) := by decide +kernel
theorem dX8_forget_0 : decode cX8_forget 0 = .ok (.aload_n 0, 1) := by decide +kernel
theorem dX8_forget_1 : decode cX8_forget 1 = .ok (.getfield 131, 3) := by decide +kernel
theorem dX8_forget_4 : decode cX8_forget 4 = .ok (.istore_n 1, 1) := by decide +kernel
theorem dX8_forget_5 : decode cX8_forget 5 = .ok (.aload_n 0, 1) := by decide +kernel
theorem dX8_forget_6 : decode cX8_forget 6 = .ok (.iconst 0, 1) := by decide +kernel
theorem dX8_forget_7 : decode cX8_forget 7 = .ok (.putfield 131, 3) := by decide +kernel
theorem dX8_forget_10 : decode cX8_forget 10 = .ok (.iload_n 1, 1) := by decide +kernel
theorem dX8_forget_11 : decode cX8_forget 11 = .ok (.ireturn, 1) := by decide +kernel
set_option maxRecDepth 20000 in
theorem ggX8_spotsOf_X8_windIn : GoodIn wsX8_spotsOf wsX8_windIn := goodIn_r _ [5, 6, 7, 8, 22, 23, 24, 25, 26, 27, 28, 29, 30, 31, 32, 33, 34, 35, 36, 37, 38, 39, 40, 41, 42, 43, 44, 45, 46, 47, 48, 49, 50, 51] (by decide +kernel) (by decide +kernel)
set_option maxRecDepth 20000 in
theorem gX8_spotsOf_X8_windIn : GoodIn wsX8_spotsOf (wsV RX8 151 RX8 yX8_windIn wsX8_windIn) := goodIn_app (goodIn_of _ (by decide +kernel)) ggX8_spotsOf_X8_windIn
set_option maxRecDepth 20000 in
theorem ggX8_spotsOf_X8_landsBy : GoodIn wsX8_spotsOf wsX8_landsBy := goodIn_r _ [12, 13, 14, 7, 15, 16, 17, 4, 18, 19, 20, 21, 22, 23, 24, 25, 26, 27, 28, 29, 30, 31, 32, 33, 34, 35, 36, 37, 38, 39, 40, 41, 42, 43, 44, 45, 46, 47, 48, 49, 50, 51] (by decide +kernel) (by decide +kernel)
set_option maxRecDepth 20000 in
theorem gX8_spotsOf_X8_landsBy : GoodIn wsX8_spotsOf (wsV RX8 161 RX8 yX8_landsBy wsX8_landsBy) := goodIn_app (goodIn_of _ (by decide +kernel)) ggX8_spotsOf_X8_landsBy
theorem dX8_spotsOf_0 : decode cX8_spotsOf 0 = .ok (.iconst 0, 1) := by decide +kernel
theorem dX8_spotsOf_1 : decode cX8_spotsOf 1 = .ok (.istore_n 3, 1) := by decide +kernel
theorem dX8_spotsOf_2 : decode cX8_spotsOf 2 = .ok (.iconst 0, 1) := by decide +kernel
theorem dX8_spotsOf_3 : decode cX8_spotsOf 3 = .ok (.istore 4, 2) := by decide +kernel
theorem dX8_spotsOf_5 : decode cX8_spotsOf 5 = .ok (.iload 4, 2) := by decide +kernel
theorem dX8_spotsOf_7 : decode cX8_spotsOf 7 = .ok (.bipush 32, 2) := by decide +kernel
theorem dX8_spotsOf_9 : decode cX8_spotsOf 9 = .ok (.if_icmp .ge 55, 3) := by decide +kernel
theorem dX8_spotsOf_12 : decode cX8_spotsOf 12 = .ok (.aload_n 0, 1) := by decide +kernel
theorem dX8_spotsOf_13 : decode cX8_spotsOf 13 = .ok (.iload_n 1, 1) := by decide +kernel
theorem dX8_spotsOf_14 : decode cX8_spotsOf 14 = .ok (.iload_n 2, 1) := by decide +kernel
theorem dX8_spotsOf_15 : decode cX8_spotsOf 15 = .ok (.iload 4, 2) := by decide +kernel
theorem dX8_spotsOf_17 : decode cX8_spotsOf 17 = .ok (.bipush 8, 2) := by decide +kernel
theorem dX8_spotsOf_19 : decode cX8_spotsOf 19 = .ok (.idiv, 1) := by decide +kernel
theorem dX8_spotsOf_20 : decode cX8_spotsOf 20 = .ok (.iload 4, 2) := by decide +kernel
theorem dX8_spotsOf_22 : decode cX8_spotsOf 22 = .ok (.iconst 2, 1) := by decide +kernel
theorem dX8_spotsOf_23 : decode cX8_spotsOf 23 = .ok (.idiv, 1) := by decide +kernel
theorem dX8_spotsOf_24 : decode cX8_spotsOf 24 = .ok (.iconst 4, 1) := by decide +kernel
theorem dX8_spotsOf_25 : decode cX8_spotsOf 25 = .ok (.irem, 1) := by decide +kernel
theorem dX8_spotsOf_26 : decode cX8_spotsOf 26 = .ok (.iload 4, 2) := by decide +kernel
theorem dX8_spotsOf_28 : decode cX8_spotsOf 28 = .ok (.iconst 2, 1) := by decide +kernel
theorem dX8_spotsOf_29 : decode cX8_spotsOf 29 = .ok (.irem, 1) := by decide +kernel
theorem dX8_spotsOf_30 : decode cX8_spotsOf 30 = .ok (.aload_n 0, 1) := by decide +kernel
theorem dX8_spotsOf_31 : decode cX8_spotsOf 31 = .ok (.iconst 0, 1) := by decide +kernel
theorem dX8_spotsOf_32 : decode cX8_spotsOf 32 = .ok (.invokevirtual 151, 3) := by decide +kernel
theorem dX8_spotsOf_35 : decode cX8_spotsOf 35 = .ok (.invokevirtual 161, 3) := by decide +kernel
theorem dX8_spotsOf_38 : decode cX8_spotsOf 38 = .ok (.istore 5, 2) := by decide +kernel
theorem dX8_spotsOf_40 : decode cX8_spotsOf 40 = .ok (.iload_n 3, 1) := by decide +kernel
theorem dX8_spotsOf_41 : decode cX8_spotsOf 41 = .ok (.iload 5, 2) := by decide +kernel
theorem dX8_spotsOf_43 : decode cX8_spotsOf 43 = .ok (.bipush (-9), 2) := by decide +kernel
theorem dX8_spotsOf_45 : decode cX8_spotsOf 45 = .ok (.if_icmp .ne 7, 3) := by decide +kernel
theorem dX8_spotsOf_48 : decode cX8_spotsOf 48 = .ok (.iconst 0, 1) := by decide +kernel
theorem dX8_spotsOf_49 : decode cX8_spotsOf 49 = .ok (.goto 7, 3) := by decide +kernel
theorem dX8_spotsOf_52 : decode cX8_spotsOf 52 = .ok (.iconst 1, 1) := by decide +kernel
theorem dX8_spotsOf_53 : decode cX8_spotsOf 53 = .ok (.iload 5, 2) := by decide +kernel
theorem dX8_spotsOf_55 : decode cX8_spotsOf 55 = .ok (.ishl, 1) := by decide +kernel
theorem dX8_spotsOf_56 : decode cX8_spotsOf 56 = .ok (.ior, 1) := by decide +kernel
theorem dX8_spotsOf_57 : decode cX8_spotsOf 57 = .ok (.istore_n 3, 1) := by decide +kernel
theorem dX8_spotsOf_58 : decode cX8_spotsOf 58 = .ok (.iinc 4 1, 3) := by decide +kernel
theorem dX8_spotsOf_61 : decode cX8_spotsOf 61 = .ok (.goto (-56), 3) := by decide +kernel
theorem dX8_spotsOf_64 : decode cX8_spotsOf 64 = .ok (.iload_n 3, 1) := by decide +kernel
theorem dX8_spotsOf_65 : decode cX8_spotsOf 65 = .ok (.ireturn, 1) := by decide +kernel
set_option maxRecDepth 20000 in
theorem ggX8_who_X8_spotsOf : GoodIn wsX8_who wsX8_spotsOf := goodIn_r _ [9, 10, 11, 12, 8, 13, 14, 15, 16, 17, 18, 19, 20, 21, 22, 23, 24, 25, 26, 27, 28, 29, 33, 34, 35, 36, 37, 38, 39, 40, 41, 42, 43, 44, 45, 46, 47, 48, 49, 50, 51, 52, 53, 54, 55, 56, 57, 58, 59, 60, 61, 62] (by decide +kernel) (by decide +kernel)
set_option maxRecDepth 20000 in
theorem gX8_who_X8_spotsOf : GoodIn wsX8_who (wsV RX8 198 RX8 yX8_spotsOf wsX8_spotsOf) := goodIn_app (goodIn_of _ (by decide +kernel)) ggX8_who_X8_spotsOf
set_option maxRecDepth 20000 in
theorem ggX8_who_X8_has : GoodIn wsX8_who wsX8_has := goodIn_r _ [32] (by decide +kernel) (by decide +kernel)
set_option maxRecDepth 20000 in
theorem gX8_who_X8_has : GoodIn wsX8_who (va_wsS RX8 145 yX8_has wsX8_has) := goodIn_app (goodIn_of _ (by decide +kernel)) ggX8_who_X8_has
theorem dX8_who_0 : decode cX8_who 0 = .ok (.iconst 0, 1) := by decide +kernel
theorem dX8_who_1 : decode cX8_who 1 = .ok (.istore_n 1, 1) := by decide +kernel
theorem dX8_who_2 : decode cX8_who 2 = .ok (.iconst 0, 1) := by decide +kernel
theorem dX8_who_3 : decode cX8_who 3 = .ok (.istore_n 2, 1) := by decide +kernel
theorem dX8_who_4 : decode cX8_who 4 = .ok (.iload_n 2, 1) := by decide +kernel
theorem dX8_who_5 : decode cX8_who 5 = .ok (.aload_n 0, 1) := by decide +kernel
theorem dX8_who_6 : decode cX8_who 6 = .ok (.getfield 13, 3) := by decide +kernel
theorem dX8_who_9 : decode cX8_who 9 = .ok (.iconst 0, 1) := by decide +kernel
theorem dX8_who_10 : decode cX8_who 10 = .ok (.iaload, 1) := by decide +kernel
theorem dX8_who_11 : decode cX8_who 11 = .ok (.if_icmp .ge 78, 3) := by decide +kernel
theorem dX8_who_14 : decode cX8_who 14 = .ok (.iconst 1, 1) := by decide +kernel
theorem dX8_who_15 : decode cX8_who 15 = .ok (.istore_n 3, 1) := by decide +kernel
theorem dX8_who_16 : decode cX8_who 16 = .ok (.iconst 0, 1) := by decide +kernel
theorem dX8_who_17 : decode cX8_who 17 = .ok (.istore 4, 2) := by decide +kernel
theorem dX8_who_19 : decode cX8_who 19 = .ok (.iload 4, 2) := by decide +kernel
theorem dX8_who_21 : decode cX8_who 21 = .ok (.aload_n 0, 1) := by decide +kernel
theorem dX8_who_22 : decode cX8_who 22 = .ok (.getfield 131, 3) := by decide +kernel
theorem dX8_who_25 : decode cX8_who 25 = .ok (.if_icmp .ge 44, 3) := by decide +kernel
theorem dX8_who_28 : decode cX8_who 28 = .ok (.iload_n 3, 1) := by decide +kernel
theorem dX8_who_29 : decode cX8_who 29 = .ok (.ifCond .eq 32, 3) := by decide +kernel
theorem dX8_who_32 : decode cX8_who 32 = .ok (.aload_n 0, 1) := by decide +kernel
theorem dX8_who_33 : decode cX8_who 33 = .ok (.iload_n 2, 1) := by decide +kernel
theorem dX8_who_34 : decode cX8_who 34 = .ok (.aload_n 0, 1) := by decide +kernel
theorem dX8_who_35 : decode cX8_who 35 = .ok (.getfield 66, 3) := by decide +kernel
theorem dX8_who_38 : decode cX8_who 38 = .ok (.iload 4, 2) := by decide +kernel
theorem dX8_who_40 : decode cX8_who 40 = .ok (.iaload, 1) := by decide +kernel
theorem dX8_who_41 : decode cX8_who 41 = .ok (.invokevirtual 198, 3) := by decide +kernel
theorem dX8_who_44 : decode cX8_who 44 = .ok (.aload_n 0, 1) := by decide +kernel
theorem dX8_who_45 : decode cX8_who 45 = .ok (.getfield 69, 3) := by decide +kernel
theorem dX8_who_48 : decode cX8_who 48 = .ok (.iload 4, 2) := by decide +kernel
theorem dX8_who_50 : decode cX8_who 50 = .ok (.iaload, 1) := by decide +kernel
theorem dX8_who_51 : decode cX8_who 51 = .ok (.invokestatic 145, 3) := by decide +kernel
theorem dX8_who_54 : decode cX8_who 54 = .ok (.ifCond .eq 7, 3) := by decide +kernel
theorem dX8_who_57 : decode cX8_who 57 = .ok (.iconst 1, 1) := by decide +kernel
theorem dX8_who_58 : decode cX8_who 58 = .ok (.goto 4, 3) := by decide +kernel
theorem dX8_who_61 : decode cX8_who 61 = .ok (.iconst 0, 1) := by decide +kernel
theorem dX8_who_62 : decode cX8_who 62 = .ok (.istore_n 3, 1) := by decide +kernel
theorem dX8_who_63 : decode cX8_who 63 = .ok (.iinc 4 1, 3) := by decide +kernel
theorem dX8_who_66 : decode cX8_who 66 = .ok (.goto (-47), 3) := by decide +kernel
theorem dX8_who_69 : decode cX8_who 69 = .ok (.iload_n 1, 1) := by decide +kernel
theorem dX8_who_70 : decode cX8_who 70 = .ok (.iload_n 3, 1) := by decide +kernel
theorem dX8_who_71 : decode cX8_who 71 = .ok (.ifCond .eq 9, 3) := by decide +kernel
theorem dX8_who_74 : decode cX8_who 74 = .ok (.iconst 1, 1) := by decide +kernel
theorem dX8_who_75 : decode cX8_who 75 = .ok (.iload_n 2, 1) := by decide +kernel
theorem dX8_who_76 : decode cX8_who 76 = .ok (.ishl, 1) := by decide +kernel
theorem dX8_who_77 : decode cX8_who 77 = .ok (.goto 4, 3) := by decide +kernel
theorem dX8_who_80 : decode cX8_who 80 = .ok (.iconst 0, 1) := by decide +kernel
theorem dX8_who_81 : decode cX8_who 81 = .ok (.ior, 1) := by decide +kernel
theorem dX8_who_82 : decode cX8_who 82 = .ok (.istore_n 1, 1) := by decide +kernel
theorem dX8_who_83 : decode cX8_who 83 = .ok (.iinc 2 1, 3) := by decide +kernel
theorem dX8_who_86 : decode cX8_who 86 = .ok (.goto (-82), 3) := by decide +kernel
theorem dX8_who_89 : decode cX8_who 89 = .ok (.iload_n 1, 1) := by decide +kernel
theorem dX8_who_90 : decode cX8_who 90 = .ok (.ireturn, 1) := by decide +kernel
set_option maxRecDepth 20000 in
theorem ggX8_ask_X8_who : GoodIn wsX8_ask wsX8_who := goodIn_r _ [7, 2, 8, 9, 10, 11, 12, 13, 6, 14, 15, 16, 17, 18, 19, 20, 21, 22, 23, 24, 25, 26, 27, 28, 29, 30, 31, 32, 33, 34, 35, 36, 37, 41, 42, 43, 44, 45, 46, 47, 48, 49, 50, 51, 52, 53, 54, 55, 56, 57, 58, 59, 60, 61, 62, 63, 64, 65, 66, 67, 68, 69, 70] (by decide +kernel) (by decide +kernel)
set_option maxRecDepth 20000 in
theorem gX8_ask_X8_who : GoodIn wsX8_ask (wsV RX8 201 RX8 yX8_who wsX8_who) := goodIn_app (goodIn_of _ (by decide +kernel)) ggX8_ask_X8_who
set_option maxRecDepth 20000 in
theorem ggX8_ask_X8_bitsOf : GoodIn wsX8_ask wsX8_bitsOf := goodIn_r _ [40] (by decide +kernel) (by decide +kernel)
set_option maxRecDepth 20000 in
theorem gX8_ask_X8_bitsOf : GoodIn wsX8_ask (va_wsS RX8 192 yX8_bitsOf wsX8_bitsOf) := goodIn_app (goodIn_of _ (by decide +kernel)) ggX8_ask_X8_bitsOf
set_option maxRecDepth 20000 in
theorem ggX8_ask_X8_has : GoodIn wsX8_ask wsX8_has := goodIn_r _ [37] (by decide +kernel) (by decide +kernel)
set_option maxRecDepth 20000 in
theorem gX8_ask_X8_has : GoodIn wsX8_ask (va_wsS RX8 145 yX8_has wsX8_has) := goodIn_app (goodIn_of _ (by decide +kernel)) ggX8_ask_X8_has
set_option maxRecDepth 20000 in
theorem ggX8_ask_X8_spotsOf : GoodIn wsX8_ask wsX8_spotsOf := goodIn_r _ [14, 15, 16, 17, 6, 18, 19, 20, 21, 22, 23, 24, 25, 26, 27, 28, 29, 30, 31, 32, 33, 34, 41, 42, 43, 44, 45, 46, 47, 48, 49, 50, 51, 52, 53, 54, 55, 56, 57, 58, 59, 60, 61, 62, 63, 64, 65, 66, 67, 68, 69, 70] (by decide +kernel) (by decide +kernel)
set_option maxRecDepth 20000 in
theorem gX8_ask_X8_spotsOf : GoodIn wsX8_ask (wsV RX8 198 RX8 yX8_spotsOf wsX8_spotsOf) := goodIn_app (goodIn_of _ (by decide +kernel)) ggX8_ask_X8_spotsOf
theorem dX8_ask_0 : decode cX8_ask 0 = .ok (.aload_n 0, 1) := by decide +kernel
theorem dX8_ask_1 : decode cX8_ask 1 = .ok (.invokevirtual 201, 3) := by decide +kernel
theorem dX8_ask_4 : decode cX8_ask 4 = .ok (.istore_n 1, 1) := by decide +kernel
theorem dX8_ask_5 : decode cX8_ask 5 = .ok (.bipush (-9), 2) := by decide +kernel
theorem dX8_ask_7 : decode cX8_ask 7 = .ok (.istore_n 2, 1) := by decide +kernel
theorem dX8_ask_8 : decode cX8_ask 8 = .ok (.iconst 0, 1) := by decide +kernel
theorem dX8_ask_9 : decode cX8_ask 9 = .ok (.istore_n 3, 1) := by decide +kernel
theorem dX8_ask_10 : decode cX8_ask 10 = .ok (.iconst 0, 1) := by decide +kernel
theorem dX8_ask_11 : decode cX8_ask 11 = .ok (.istore 4, 2) := by decide +kernel
theorem dX8_ask_13 : decode cX8_ask 13 = .ok (.iload 4, 2) := by decide +kernel
theorem dX8_ask_15 : decode cX8_ask 15 = .ok (.aload_n 0, 1) := by decide +kernel
theorem dX8_ask_16 : decode cX8_ask 16 = .ok (.getfield 23, 3) := by decide +kernel
theorem dX8_ask_19 : decode cX8_ask 19 = .ok (.iconst 0, 1) := by decide +kernel
theorem dX8_ask_20 : decode cX8_ask 20 = .ok (.iaload, 1) := by decide +kernel
theorem dX8_ask_21 : decode cX8_ask 21 = .ok (.if_icmp .ge 150, 3) := by decide +kernel
theorem dX8_ask_24 : decode cX8_ask 24 = .ok (.iload_n 1, 1) := by decide +kernel
theorem dX8_ask_25 : decode cX8_ask 25 = .ok (.invokestatic 192, 3) := by decide +kernel
theorem dX8_ask_28 : decode cX8_ask 28 = .ok (.iconst 1, 1) := by decide +kernel
theorem dX8_ask_29 : decode cX8_ask 29 = .ok (.if_icmp .le 142, 3) := by decide +kernel
theorem dX8_ask_32 : decode cX8_ask 32 = .ok (.iconst 0, 1) := by decide +kernel
theorem dX8_ask_33 : decode cX8_ask 33 = .ok (.istore 5, 2) := by decide +kernel
theorem dX8_ask_35 : decode cX8_ask 35 = .ok (.iconst 0, 1) := by decide +kernel
theorem dX8_ask_36 : decode cX8_ask 36 = .ok (.istore 6, 2) := by decide +kernel
theorem dX8_ask_38 : decode cX8_ask 38 = .ok (.iload 6, 2) := by decide +kernel
theorem dX8_ask_40 : decode cX8_ask 40 = .ok (.aload_n 0, 1) := by decide +kernel
theorem dX8_ask_41 : decode cX8_ask 41 = .ok (.getfield 13, 3) := by decide +kernel
theorem dX8_ask_44 : decode cX8_ask 44 = .ok (.iconst 0, 1) := by decide +kernel
theorem dX8_ask_45 : decode cX8_ask 45 = .ok (.iaload, 1) := by decide +kernel
theorem dX8_ask_46 : decode cX8_ask 46 = .ok (.if_icmp .ge 101, 3) := by decide +kernel
theorem dX8_ask_49 : decode cX8_ask 49 = .ok (.iconst 0, 1) := by decide +kernel
theorem dX8_ask_50 : decode cX8_ask 50 = .ok (.istore 7, 2) := by decide +kernel
theorem dX8_ask_52 : decode cX8_ask 52 = .ok (.iconst 0, 1) := by decide +kernel
theorem dX8_ask_53 : decode cX8_ask 53 = .ok (.istore 8, 2) := by decide +kernel
theorem dX8_ask_55 : decode cX8_ask 55 = .ok (.iload 8, 2) := by decide +kernel
theorem dX8_ask_57 : decode cX8_ask 57 = .ok (.aload_n 0, 1) := by decide +kernel
theorem dX8_ask_58 : decode cX8_ask 58 = .ok (.getfield 13, 3) := by decide +kernel
theorem dX8_ask_61 : decode cX8_ask 61 = .ok (.iconst 0, 1) := by decide +kernel
theorem dX8_ask_62 : decode cX8_ask 62 = .ok (.iaload, 1) := by decide +kernel
theorem dX8_ask_63 : decode cX8_ask 63 = .ok (.if_icmp .ge 62, 3) := by decide +kernel
theorem dX8_ask_66 : decode cX8_ask 66 = .ok (.iload 7, 2) := by decide +kernel
theorem dX8_ask_68 : decode cX8_ask 68 = .ok (.iload_n 1, 1) := by decide +kernel
theorem dX8_ask_69 : decode cX8_ask 69 = .ok (.iload 6, 2) := by decide +kernel
theorem dX8_ask_71 : decode cX8_ask 71 = .ok (.invokestatic 145, 3) := by decide +kernel
theorem dX8_ask_74 : decode cX8_ask 74 = .ok (.ifCond .eq 41, 3) := by decide +kernel
theorem dX8_ask_77 : decode cX8_ask 77 = .ok (.iload_n 1, 1) := by decide +kernel
theorem dX8_ask_78 : decode cX8_ask 78 = .ok (.iload 8, 2) := by decide +kernel
theorem dX8_ask_80 : decode cX8_ask 80 = .ok (.invokestatic 145, 3) := by decide +kernel
theorem dX8_ask_83 : decode cX8_ask 83 = .ok (.ifCond .eq 32, 3) := by decide +kernel
theorem dX8_ask_86 : decode cX8_ask 86 = .ok (.aload_n 0, 1) := by decide +kernel
theorem dX8_ask_87 : decode cX8_ask 87 = .ok (.iload 8, 2) := by decide +kernel
theorem dX8_ask_89 : decode cX8_ask 89 = .ok (.iload 4, 2) := by decide +kernel
theorem dX8_ask_91 : decode cX8_ask 91 = .ok (.invokevirtual 198, 3) := by decide +kernel
theorem dX8_ask_94 : decode cX8_ask 94 = .ok (.invokestatic 192, 3) := by decide +kernel
theorem dX8_ask_97 : decode cX8_ask 97 = .ok (.aload_n 0, 1) := by decide +kernel
theorem dX8_ask_98 : decode cX8_ask 98 = .ok (.iload 6, 2) := by decide +kernel
theorem dX8_ask_100 : decode cX8_ask 100 = .ok (.iload 4, 2) := by decide +kernel
theorem dX8_ask_102 : decode cX8_ask 102 = .ok (.invokevirtual 198, 3) := by decide +kernel
theorem dX8_ask_105 : decode cX8_ask 105 = .ok (.invokestatic 192, 3) := by decide +kernel
theorem dX8_ask_108 : decode cX8_ask 108 = .ok (.if_icmp .ne 7, 3) := by decide +kernel
theorem dX8_ask_111 : decode cX8_ask 111 = .ok (.iconst 1, 1) := by decide +kernel
theorem dX8_ask_112 : decode cX8_ask 112 = .ok (.goto 4, 3) := by decide +kernel
theorem dX8_ask_115 : decode cX8_ask 115 = .ok (.iconst 0, 1) := by decide +kernel
theorem dX8_ask_116 : decode cX8_ask 116 = .ok (.iadd, 1) := by decide +kernel
theorem dX8_ask_117 : decode cX8_ask 117 = .ok (.istore 7, 2) := by decide +kernel
theorem dX8_ask_119 : decode cX8_ask 119 = .ok (.iinc 8 1, 3) := by decide +kernel
theorem dX8_ask_122 : decode cX8_ask 122 = .ok (.goto (-67), 3) := by decide +kernel
theorem dX8_ask_125 : decode cX8_ask 125 = .ok (.iload 7, 2) := by decide +kernel
theorem dX8_ask_127 : decode cX8_ask 127 = .ok (.iload 5, 2) := by decide +kernel
theorem dX8_ask_129 : decode cX8_ask 129 = .ok (.if_icmp .le 8, 3) := by decide +kernel
theorem dX8_ask_132 : decode cX8_ask 132 = .ok (.iload 7, 2) := by decide +kernel
theorem dX8_ask_134 : decode cX8_ask 134 = .ok (.goto 5, 3) := by decide +kernel
theorem dX8_ask_137 : decode cX8_ask 137 = .ok (.iload 5, 2) := by decide +kernel
theorem dX8_ask_139 : decode cX8_ask 139 = .ok (.istore 5, 2) := by decide +kernel
theorem dX8_ask_141 : decode cX8_ask 141 = .ok (.iinc 6 1, 3) := by decide +kernel
theorem dX8_ask_144 : decode cX8_ask 144 = .ok (.goto (-106), 3) := by decide +kernel
theorem dX8_ask_147 : decode cX8_ask 147 = .ok (.iload_n 2, 1) := by decide +kernel
theorem dX8_ask_148 : decode cX8_ask 148 = .ok (.bipush (-9), 2) := by decide +kernel
theorem dX8_ask_150 : decode cX8_ask 150 = .ok (.if_icmp .eq 9, 3) := by decide +kernel
theorem dX8_ask_153 : decode cX8_ask 153 = .ok (.iload 5, 2) := by decide +kernel
theorem dX8_ask_155 : decode cX8_ask 155 = .ok (.iload_n 3, 1) := by decide +kernel
theorem dX8_ask_156 : decode cX8_ask 156 = .ok (.if_icmp .ge 9, 3) := by decide +kernel
theorem dX8_ask_159 : decode cX8_ask 159 = .ok (.iload 4, 2) := by decide +kernel
theorem dX8_ask_161 : decode cX8_ask 161 = .ok (.istore_n 2, 1) := by decide +kernel
theorem dX8_ask_162 : decode cX8_ask 162 = .ok (.iload 5, 2) := by decide +kernel
theorem dX8_ask_164 : decode cX8_ask 164 = .ok (.istore_n 3, 1) := by decide +kernel
theorem dX8_ask_165 : decode cX8_ask 165 = .ok (.iinc 4 1, 3) := by decide +kernel
theorem dX8_ask_168 : decode cX8_ask 168 = .ok (.goto (-155), 3) := by decide +kernel
theorem dX8_ask_171 : decode cX8_ask 171 = .ok (.iload_n 2, 1) := by decide +kernel
theorem dX8_ask_172 : decode cX8_ask 172 = .ok (.ireturn, 1) := by decide +kernel
theorem dX8_bodiesOf_0 : decode cX8_bodiesOf 0 = .ok (.iload_n 0, 1) := by decide +kernel
theorem dX8_bodiesOf_1 : decode cX8_bodiesOf 1 = .ok (.tableswitch 47 0 4 #[35, 37, 39, 41, 44], 35) := by decide +kernel
theorem dX8_bodiesOf_36 : decode cX8_bodiesOf 36 = .ok (.iconst 1, 1) := by decide +kernel
theorem dX8_bodiesOf_37 : decode cX8_bodiesOf 37 = .ok (.ireturn, 1) := by decide +kernel
theorem dX8_bodiesOf_38 : decode cX8_bodiesOf 38 = .ok (.iconst 3, 1) := by decide +kernel
theorem dX8_bodiesOf_39 : decode cX8_bodiesOf 39 = .ok (.ireturn, 1) := by decide +kernel
theorem dX8_bodiesOf_40 : decode cX8_bodiesOf 40 = .ok (.iconst 5, 1) := by decide +kernel
theorem dX8_bodiesOf_41 : decode cX8_bodiesOf 41 = .ok (.ireturn, 1) := by decide +kernel
theorem dX8_bodiesOf_42 : decode cX8_bodiesOf 42 = .ok (.bipush 11, 2) := by decide +kernel
theorem dX8_bodiesOf_44 : decode cX8_bodiesOf 44 = .ok (.ireturn, 1) := by decide +kernel
theorem dX8_bodiesOf_45 : decode cX8_bodiesOf 45 = .ok (.bipush 21, 2) := by decide +kernel
theorem dX8_bodiesOf_47 : decode cX8_bodiesOf 47 = .ok (.ireturn, 1) := by decide +kernel
theorem dX8_bodiesOf_48 : decode cX8_bodiesOf 48 = .ok (.bipush 33, 2) := by decide +kernel
theorem dX8_bodiesOf_50 : decode cX8_bodiesOf 50 = .ok (.ireturn, 1) := by decide +kernel
set_option maxRecDepth 20000 in
theorem ggX8_mark_X8_in : GoodIn wsX8_mark wsX8_in := goodIn_r _ [9] (by decide +kernel) (by decide +kernel)
set_option maxRecDepth 20000 in
theorem gX8_mark_X8_in : GoodIn wsX8_mark (va_wsS RX8 72 yX8_in wsX8_in) := goodIn_app (goodIn_of _ (by decide +kernel)) ggX8_mark_X8_in
set_option maxRecDepth 20000 in
theorem ggX8_mark_X8_isOne : GoodIn wsX8_mark wsX8_isOne := goodIn_r _ [13, 14, 6, 7, 8, 9, 30, 31, 32, 33, 34, 35, 36, 37, 38, 39, 40, 41, 42, 43, 44, 45, 46, 47, 48, 49, 50, 51, 52, 53, 54, 55, 56, 57, 58, 59] (by decide +kernel) (by decide +kernel)
set_option maxRecDepth 20000 in
theorem gX8_mark_X8_isOne : GoodIn wsX8_mark (wsV RX8 142 RX8 yX8_isOne wsX8_isOne) := goodIn_app (goodIn_of _ (by decide +kernel)) ggX8_mark_X8_isOne
set_option maxRecDepth 20000 in
theorem ggX8_mark_X8_bodiesOf : GoodIn wsX8_mark wsX8_bodiesOf := goodIn_r _ [17] (by decide +kernel) (by decide +kernel)
set_option maxRecDepth 20000 in
theorem gX8_mark_X8_bodiesOf : GoodIn wsX8_mark (va_wsS RX8 204 yX8_bodiesOf wsX8_bodiesOf) := goodIn_app (goodIn_of _ (by decide +kernel)) ggX8_mark_X8_bodiesOf
set_option maxRecDepth 20000 in
theorem ggX8_mark_X8_has : GoodIn wsX8_mark wsX8_has := goodIn_r _ [20] (by decide +kernel) (by decide +kernel)
set_option maxRecDepth 20000 in
theorem gX8_mark_X8_has : GoodIn wsX8_mark (va_wsS RX8 145 yX8_has wsX8_has) := goodIn_app (goodIn_of _ (by decide +kernel)) ggX8_mark_X8_has
set_option maxRecDepth 20000 in
theorem ggX8_mark_X8_one : GoodIn wsX8_mark wsX8_one := goodIn_r _ [24, 4, 25, 26, 5, 10, 11, 12, 8, 13, 14, 6, 7, 9, 18, 19, 20, 30, 31, 32, 33, 34, 35, 36, 37, 38, 39, 40, 41, 42, 43, 44, 45, 46, 47, 48, 49, 50, 51, 52, 53, 54, 55, 56, 57, 58, 59] (by decide +kernel) (by decide +kernel)
set_option maxRecDepth 20000 in
theorem gX8_mark_X8_one : GoodIn wsX8_mark (wsV RX8 213 RX8 yX8_one wsX8_one) := goodIn_app (goodIn_of _ (by decide +kernel)) ggX8_mark_X8_one
set_option maxRecDepth 20000 in
theorem ggX8_mark_X8_bitsOf : GoodIn wsX8_mark wsX8_bitsOf := goodIn_r _ [29] (by decide +kernel) (by decide +kernel)
set_option maxRecDepth 20000 in
theorem gX8_mark_X8_bitsOf : GoodIn wsX8_mark (va_wsS RX8 192 yX8_bitsOf wsX8_bitsOf) := goodIn_app (goodIn_of _ (by decide +kernel)) ggX8_mark_X8_bitsOf
theorem dX8_mark_0 : decode cX8_mark 0 = .ok (.iload_n 1, 1) := by decide +kernel
theorem dX8_mark_1 : decode cX8_mark 1 = .ok (.iconst 0, 1) := by decide +kernel
theorem dX8_mark_2 : decode cX8_mark 2 = .ok (.iconst 5, 1) := by decide +kernel
theorem dX8_mark_3 : decode cX8_mark 3 = .ok (.invokestatic 72, 3) := by decide +kernel
theorem dX8_mark_6 : decode cX8_mark 6 = .ok (.ifCond .eq 11, 3) := by decide +kernel
theorem dX8_mark_9 : decode cX8_mark 9 = .ok (.aload_n 0, 1) := by decide +kernel
theorem dX8_mark_10 : decode cX8_mark 10 = .ok (.iload_n 2, 1) := by decide +kernel
theorem dX8_mark_11 : decode cX8_mark 11 = .ok (.invokevirtual 142, 3) := by decide +kernel
theorem dX8_mark_14 : decode cX8_mark 14 = .ok (.ifCond .ne 6, 3) := by decide +kernel
theorem dX8_mark_17 : decode cX8_mark 17 = .ok (.ldc 154, 2) := by decide +kernel
theorem dX8_mark_19 : decode cX8_mark 19 = .ok (.ireturn, 1) := by decide +kernel
theorem dX8_mark_20 : decode cX8_mark 20 = .ok (.iload_n 1, 1) := by decide +kernel
theorem dX8_mark_21 : decode cX8_mark 21 = .ok (.invokestatic 204, 3) := by decide +kernel
theorem dX8_mark_24 : decode cX8_mark 24 = .ok (.istore_n 3, 1) := by decide +kernel
theorem dX8_mark_25 : decode cX8_mark 25 = .ok (.lconst 1, 1) := by decide +kernel
theorem dX8_mark_26 : decode cX8_mark 26 = .ok (.lstore 4, 2) := by decide +kernel
theorem dX8_mark_28 : decode cX8_mark 28 = .ok (.iconst 0, 1) := by decide +kernel
theorem dX8_mark_29 : decode cX8_mark 29 = .ok (.istore 6, 2) := by decide +kernel
theorem dX8_mark_31 : decode cX8_mark 31 = .ok (.iload 6, 2) := by decide +kernel
theorem dX8_mark_33 : decode cX8_mark 33 = .ok (.bipush 6, 2) := by decide +kernel
theorem dX8_mark_35 : decode cX8_mark 35 = .ok (.if_icmp .ge 41, 3) := by decide +kernel
theorem dX8_mark_38 : decode cX8_mark 38 = .ok (.aload_n 0, 1) := by decide +kernel
theorem dX8_mark_39 : decode cX8_mark 39 = .ok (.dup, 1) := by decide +kernel
theorem dX8_mark_40 : decode cX8_mark 40 = .ok (.getfield 207, 3) := by decide +kernel
theorem dX8_mark_43 : decode cX8_mark 43 = .ok (.iload_n 3, 1) := by decide +kernel
theorem dX8_mark_44 : decode cX8_mark 44 = .ok (.iload 6, 2) := by decide +kernel
theorem dX8_mark_46 : decode cX8_mark 46 = .ok (.invokestatic 145, 3) := by decide +kernel
theorem dX8_mark_49 : decode cX8_mark 49 = .ok (.ifCond .eq 8, 3) := by decide +kernel
theorem dX8_mark_52 : decode cX8_mark 52 = .ok (.lload 4, 2) := by decide +kernel
theorem dX8_mark_54 : decode cX8_mark 54 = .ok (.goto 4, 3) := by decide +kernel
theorem dX8_mark_57 : decode cX8_mark 57 = .ok (.lconst 0, 1) := by decide +kernel
theorem dX8_mark_58 : decode cX8_mark 58 = .ok (.ladd, 1) := by decide +kernel
theorem dX8_mark_59 : decode cX8_mark 59 = .ok (.putfield 207, 3) := by decide +kernel
theorem dX8_mark_62 : decode cX8_mark 62 = .ok (.lload 4, 2) := by decide +kernel
theorem dX8_mark_64 : decode cX8_mark 64 = .ok (.ldc2_w 211, 3) := by decide +kernel
theorem dX8_mark_67 : decode cX8_mark 67 = .ok (.lmul, 1) := by decide +kernel
theorem dX8_mark_68 : decode cX8_mark 68 = .ok (.lstore 4, 2) := by decide +kernel
theorem dX8_mark_70 : decode cX8_mark 70 = .ok (.iinc 6 1, 3) := by decide +kernel
theorem dX8_mark_73 : decode cX8_mark 73 = .ok (.goto (-42), 3) := by decide +kernel
theorem dX8_mark_76 : decode cX8_mark 76 = .ok (.aload_n 0, 1) := by decide +kernel
theorem dX8_mark_77 : decode cX8_mark 77 = .ok (.getfield 17, 3) := by decide +kernel
theorem dX8_mark_80 : decode cX8_mark 80 = .ok (.iload_n 2, 1) := by decide +kernel
theorem dX8_mark_81 : decode cX8_mark 81 = .ok (.iaload, 1) := by decide +kernel
theorem dX8_mark_82 : decode cX8_mark 82 = .ok (.istore 6, 2) := by decide +kernel
theorem dX8_mark_84 : decode cX8_mark 84 = .ok (.iload 6, 2) := by decide +kernel
theorem dX8_mark_86 : decode cX8_mark 86 = .ok (.iload_n 3, 1) := by decide +kernel
theorem dX8_mark_87 : decode cX8_mark 87 = .ok (.iconst 1, 1) := by decide +kernel
theorem dX8_mark_88 : decode cX8_mark 88 = .ok (.invokestatic 145, 3) := by decide +kernel
theorem dX8_mark_91 : decode cX8_mark 91 = .ok (.ifCond .eq 15, 3) := by decide +kernel
theorem dX8_mark_94 : decode cX8_mark 94 = .ok (.aload_n 0, 1) := by decide +kernel
theorem dX8_mark_95 : decode cX8_mark 95 = .ok (.iload_n 2, 1) := by decide +kernel
theorem dX8_mark_96 : decode cX8_mark 96 = .ok (.iconst 2, 1) := by decide +kernel
theorem dX8_mark_97 : decode cX8_mark 97 = .ok (.invokevirtual 213, 3) := by decide +kernel
theorem dX8_mark_100 : decode cX8_mark 100 = .ok (.invokestatic 192, 3) := by decide +kernel
theorem dX8_mark_103 : decode cX8_mark 103 = .ok (.goto 4, 3) := by decide +kernel
theorem dX8_mark_106 : decode cX8_mark 106 = .ok (.iconst 0, 1) := by decide +kernel
theorem dX8_mark_107 : decode cX8_mark 107 = .ok (.iadd, 1) := by decide +kernel
theorem dX8_mark_108 : decode cX8_mark 108 = .ok (.istore 6, 2) := by decide +kernel
theorem dX8_mark_110 : decode cX8_mark 110 = .ok (.iload 6, 2) := by decide +kernel
theorem dX8_mark_112 : decode cX8_mark 112 = .ok (.iload_n 3, 1) := by decide +kernel
theorem dX8_mark_113 : decode cX8_mark 113 = .ok (.iconst 2, 1) := by decide +kernel
theorem dX8_mark_114 : decode cX8_mark 114 = .ok (.invokestatic 145, 3) := by decide +kernel
theorem dX8_mark_117 : decode cX8_mark 117 = .ok (.ifCond .eq 12, 3) := by decide +kernel
theorem dX8_mark_120 : decode cX8_mark 120 = .ok (.aload_n 0, 1) := by decide +kernel
theorem dX8_mark_121 : decode cX8_mark 121 = .ok (.getfield 44, 3) := by decide +kernel
theorem dX8_mark_124 : decode cX8_mark 124 = .ok (.iconst 1, 1) := by decide +kernel
theorem dX8_mark_125 : decode cX8_mark 125 = .ok (.iaload, 1) := by decide +kernel
theorem dX8_mark_126 : decode cX8_mark 126 = .ok (.goto 4, 3) := by decide +kernel
theorem dX8_mark_129 : decode cX8_mark 129 = .ok (.iconst 0, 1) := by decide +kernel
theorem dX8_mark_130 : decode cX8_mark 130 = .ok (.isub, 1) := by decide +kernel
theorem dX8_mark_131 : decode cX8_mark 131 = .ok (.istore 6, 2) := by decide +kernel
theorem dX8_mark_133 : decode cX8_mark 133 = .ok (.iload_n 3, 1) := by decide +kernel
theorem dX8_mark_134 : decode cX8_mark 134 = .ok (.iconst 3, 1) := by decide +kernel
theorem dX8_mark_135 : decode cX8_mark 135 = .ok (.invokestatic 145, 3) := by decide +kernel
theorem dX8_mark_138 : decode cX8_mark 138 = .ok (.ifCond .eq 10, 3) := by decide +kernel
theorem dX8_mark_141 : decode cX8_mark 141 = .ok (.iconst 2, 1) := by decide +kernel
theorem dX8_mark_142 : decode cX8_mark 142 = .ok (.iload 6, 2) := by decide +kernel
theorem dX8_mark_144 : decode cX8_mark 144 = .ok (.imul, 1) := by decide +kernel
theorem dX8_mark_145 : decode cX8_mark 145 = .ok (.goto 5, 3) := by decide +kernel
theorem dX8_mark_148 : decode cX8_mark 148 = .ok (.iload 6, 2) := by decide +kernel
theorem dX8_mark_150 : decode cX8_mark 150 = .ok (.istore 6, 2) := by decide +kernel
theorem dX8_mark_152 : decode cX8_mark 152 = .ok (.iload 6, 2) := by decide +kernel
theorem dX8_mark_154 : decode cX8_mark 154 = .ok (.iload_n 3, 1) := by decide +kernel
theorem dX8_mark_155 : decode cX8_mark 155 = .ok (.iconst 4, 1) := by decide +kernel
theorem dX8_mark_156 : decode cX8_mark 156 = .ok (.invokestatic 145, 3) := by decide +kernel
theorem dX8_mark_159 : decode cX8_mark 159 = .ok (.ifCond .eq 7, 3) := by decide +kernel
theorem dX8_mark_162 : decode cX8_mark 162 = .ok (.iload_n 2, 1) := by decide +kernel
theorem dX8_mark_163 : decode cX8_mark 163 = .ok (.goto 4, 3) := by decide +kernel
theorem dX8_mark_166 : decode cX8_mark 166 = .ok (.iconst 0, 1) := by decide +kernel
theorem dX8_mark_167 : decode cX8_mark 167 = .ok (.iadd, 1) := by decide +kernel
theorem dX8_mark_168 : decode cX8_mark 168 = .ok (.istore 6, 2) := by decide +kernel
theorem dX8_mark_170 : decode cX8_mark 170 = .ok (.iload 6, 2) := by decide +kernel
theorem dX8_mark_172 : decode cX8_mark 172 = .ok (.iload_n 3, 1) := by decide +kernel
theorem dX8_mark_173 : decode cX8_mark 173 = .ok (.iconst 5, 1) := by decide +kernel
theorem dX8_mark_174 : decode cX8_mark 174 = .ok (.invokestatic 145, 3) := by decide +kernel
theorem dX8_mark_177 : decode cX8_mark 177 = .ok (.ifCond .eq 33, 3) := by decide +kernel
theorem dX8_mark_180 : decode cX8_mark 180 = .ok (.aload_n 0, 1) := by decide +kernel
theorem dX8_mark_181 : decode cX8_mark 181 = .ok (.getfield 44, 3) := by decide +kernel
theorem dX8_mark_184 : decode cX8_mark 184 = .ok (.iconst 2, 1) := by decide +kernel
theorem dX8_mark_185 : decode cX8_mark 185 = .ok (.iaload, 1) := by decide +kernel
theorem dX8_mark_186 : decode cX8_mark 186 = .ok (.aload_n 0, 1) := by decide +kernel
theorem dX8_mark_187 : decode cX8_mark 187 = .ok (.getfield 44, 3) := by decide +kernel
theorem dX8_mark_190 : decode cX8_mark 190 = .ok (.iconst 3, 1) := by decide +kernel
theorem dX8_mark_191 : decode cX8_mark 191 = .ok (.iaload, 1) := by decide +kernel
theorem dX8_mark_192 : decode cX8_mark 192 = .ok (.iadd, 1) := by decide +kernel
theorem dX8_mark_193 : decode cX8_mark 193 = .ok (.aload_n 0, 1) := by decide +kernel
theorem dX8_mark_194 : decode cX8_mark 194 = .ok (.getfield 44, 3) := by decide +kernel
theorem dX8_mark_197 : decode cX8_mark 197 = .ok (.iconst 4, 1) := by decide +kernel
theorem dX8_mark_198 : decode cX8_mark 198 = .ok (.iaload, 1) := by decide +kernel
theorem dX8_mark_199 : decode cX8_mark 199 = .ok (.iadd, 1) := by decide +kernel
theorem dX8_mark_200 : decode cX8_mark 200 = .ok (.aload_n 0, 1) := by decide +kernel
theorem dX8_mark_201 : decode cX8_mark 201 = .ok (.getfield 44, 3) := by decide +kernel
theorem dX8_mark_204 : decode cX8_mark 204 = .ok (.iconst 5, 1) := by decide +kernel
theorem dX8_mark_205 : decode cX8_mark 205 = .ok (.iaload, 1) := by decide +kernel
theorem dX8_mark_206 : decode cX8_mark 206 = .ok (.iadd, 1) := by decide +kernel
theorem dX8_mark_207 : decode cX8_mark 207 = .ok (.goto 4, 3) := by decide +kernel
theorem dX8_mark_210 : decode cX8_mark 210 = .ok (.iconst 0, 1) := by decide +kernel
theorem dX8_mark_211 : decode cX8_mark 211 = .ok (.iadd, 1) := by decide +kernel
theorem dX8_mark_212 : decode cX8_mark 212 = .ok (.istore 6, 2) := by decide +kernel
theorem dX8_mark_214 : decode cX8_mark 214 = .ok (.iload 6, 2) := by decide +kernel
theorem dX8_mark_216 : decode cX8_mark 216 = .ok (.ireturn, 1) := by decide +kernel
theorem dX8_trace_0 : decode cX8_trace 0 = .ok (.aload_n 0, 1) := by decide +kernel
theorem dX8_trace_1 : decode cX8_trace 1 = .ok (.getfield 207, 3) := by decide +kernel
theorem dX8_trace_4 : decode cX8_trace 4 = .ok (.lreturn, 1) := by decide +kernel
set_option maxRecDepth 20000 in
theorem ggX8_keep_X8_in : GoodIn wsX8_keep wsX8_in := goodIn_r _ [9] (by decide +kernel) (by decide +kernel)
set_option maxRecDepth 20000 in
theorem gX8_keep_X8_in : GoodIn wsX8_keep (va_wsS RX8 72 yX8_in wsX8_in) := goodIn_app (goodIn_of _ (by decide +kernel)) ggX8_keep_X8_in
theorem dX8_keep_0 : decode cX8_keep 0 = .ok (.iload_n 1, 1) := by decide +kernel
theorem dX8_keep_1 : decode cX8_keep 1 = .ok (.iconst 0, 1) := by decide +kernel
theorem dX8_keep_2 : decode cX8_keep 2 = .ok (.iconst 1, 1) := by decide +kernel
theorem dX8_keep_3 : decode cX8_keep 3 = .ok (.invokestatic 72, 3) := by decide +kernel
theorem dX8_keep_6 : decode cX8_keep 6 = .ok (.ifCond .ne 5, 3) := by decide +kernel
theorem dX8_keep_9 : decode cX8_keep 9 = .ok (.iconst (-1), 1) := by decide +kernel
theorem dX8_keep_10 : decode cX8_keep 10 = .ok (.ireturn, 1) := by decide +kernel
theorem dX8_keep_11 : decode cX8_keep 11 = .ok (.iconst 0, 1) := by decide +kernel
theorem dX8_keep_12 : decode cX8_keep 12 = .ok (.istore_n 2, 1) := by decide +kernel
theorem dX8_keep_13 : decode cX8_keep 13 = .ok (.iload_n 2, 1) := by decide +kernel
theorem dX8_keep_14 : decode cX8_keep 14 = .ok (.bipush 29, 2) := by decide +kernel
theorem dX8_keep_16 : decode cX8_keep 16 = .ok (.if_icmp .ge 26, 3) := by decide +kernel
theorem dX8_keep_19 : decode cX8_keep 19 = .ok (.aload_n 0, 1) := by decide +kernel
theorem dX8_keep_20 : decode cX8_keep 20 = .ok (.getfield 53, 3) := by decide +kernel
theorem dX8_keep_23 : decode cX8_keep 23 = .ok (.bipush 29, 2) := by decide +kernel
theorem dX8_keep_25 : decode cX8_keep 25 = .ok (.iload_n 1, 1) := by decide +kernel
theorem dX8_keep_26 : decode cX8_keep 26 = .ok (.imul, 1) := by decide +kernel
theorem dX8_keep_27 : decode cX8_keep 27 = .ok (.iload_n 2, 1) := by decide +kernel
theorem dX8_keep_28 : decode cX8_keep 28 = .ok (.iadd, 1) := by decide +kernel
theorem dX8_keep_29 : decode cX8_keep 29 = .ok (.aload_n 0, 1) := by decide +kernel
theorem dX8_keep_30 : decode cX8_keep 30 = .ok (.getfield 44, 3) := by decide +kernel
theorem dX8_keep_33 : decode cX8_keep 33 = .ok (.iload_n 2, 1) := by decide +kernel
theorem dX8_keep_34 : decode cX8_keep 34 = .ok (.iaload, 1) := by decide +kernel
theorem dX8_keep_35 : decode cX8_keep 35 = .ok (.iastore, 1) := by decide +kernel
theorem dX8_keep_36 : decode cX8_keep 36 = .ok (.iinc 2 1, 3) := by decide +kernel
theorem dX8_keep_39 : decode cX8_keep 39 = .ok (.goto (-26), 3) := by decide +kernel
theorem dX8_keep_42 : decode cX8_keep 42 = .ok (.iconst 0, 1) := by decide +kernel
theorem dX8_keep_43 : decode cX8_keep 43 = .ok (.istore_n 2, 1) := by decide +kernel
theorem dX8_keep_44 : decode cX8_keep 44 = .ok (.iload_n 2, 1) := by decide +kernel
theorem dX8_keep_45 : decode cX8_keep 45 = .ok (.sipush 290, 3) := by decide +kernel
theorem dX8_keep_48 : decode cX8_keep 48 = .ok (.if_icmp .ge 29, 3) := by decide +kernel
theorem dX8_keep_51 : decode cX8_keep 51 = .ok (.aload_n 0, 1) := by decide +kernel
theorem dX8_keep_52 : decode cX8_keep 52 = .ok (.getfield 50, 3) := by decide +kernel
theorem dX8_keep_55 : decode cX8_keep 55 = .ok (.sipush 290, 3) := by decide +kernel
theorem dX8_keep_58 : decode cX8_keep 58 = .ok (.iconst 1, 1) := by decide +kernel
theorem dX8_keep_59 : decode cX8_keep 59 = .ok (.iload_n 1, 1) := by decide +kernel
theorem dX8_keep_60 : decode cX8_keep 60 = .ok (.iadd, 1) := by decide +kernel
theorem dX8_keep_61 : decode cX8_keep 61 = .ok (.imul, 1) := by decide +kernel
theorem dX8_keep_62 : decode cX8_keep 62 = .ok (.iload_n 2, 1) := by decide +kernel
theorem dX8_keep_63 : decode cX8_keep 63 = .ok (.iadd, 1) := by decide +kernel
theorem dX8_keep_64 : decode cX8_keep 64 = .ok (.aload_n 0, 1) := by decide +kernel
theorem dX8_keep_65 : decode cX8_keep 65 = .ok (.getfield 50, 3) := by decide +kernel
theorem dX8_keep_68 : decode cX8_keep 68 = .ok (.iload_n 2, 1) := by decide +kernel
theorem dX8_keep_69 : decode cX8_keep 69 = .ok (.iaload, 1) := by decide +kernel
theorem dX8_keep_70 : decode cX8_keep 70 = .ok (.iastore, 1) := by decide +kernel
theorem dX8_keep_71 : decode cX8_keep 71 = .ok (.iinc 2 1, 3) := by decide +kernel
theorem dX8_keep_74 : decode cX8_keep 74 = .ok (.goto (-30), 3) := by decide +kernel
theorem dX8_keep_77 : decode cX8_keep 77 = .ok (.aload_n 0, 1) := by decide +kernel
theorem dX8_keep_78 : decode cX8_keep 78 = .ok (.getfield 47, 3) := by decide +kernel
theorem dX8_keep_81 : decode cX8_keep 81 = .ok (.iconst 1, 1) := by decide +kernel
theorem dX8_keep_82 : decode cX8_keep 82 = .ok (.iload_n 1, 1) := by decide +kernel
theorem dX8_keep_83 : decode cX8_keep 83 = .ok (.iadd, 1) := by decide +kernel
theorem dX8_keep_84 : decode cX8_keep 84 = .ok (.aload_n 0, 1) := by decide +kernel
theorem dX8_keep_85 : decode cX8_keep 85 = .ok (.getfield 47, 3) := by decide +kernel
theorem dX8_keep_88 : decode cX8_keep 88 = .ok (.iconst 0, 1) := by decide +kernel
theorem dX8_keep_89 : decode cX8_keep 89 = .ok (.iaload, 1) := by decide +kernel
theorem dX8_keep_90 : decode cX8_keep 90 = .ok (.iastore, 1) := by decide +kernel
theorem dX8_keep_91 : decode cX8_keep 91 = .ok (.aload_n 0, 1) := by decide +kernel
theorem dX8_keep_92 : decode cX8_keep 92 = .ok (.getfield 56, 3) := by decide +kernel
theorem dX8_keep_95 : decode cX8_keep 95 = .ok (.iload_n 1, 1) := by decide +kernel
theorem dX8_keep_96 : decode cX8_keep 96 = .ok (.iconst 1, 1) := by decide +kernel
theorem dX8_keep_97 : decode cX8_keep 97 = .ok (.bastore, 1) := by decide +kernel
theorem dX8_keep_98 : decode cX8_keep 98 = .ok (.aload_n 0, 1) := by decide +kernel
theorem dX8_keep_99 : decode cX8_keep 99 = .ok (.getfield 44, 3) := by decide +kernel
theorem dX8_keep_102 : decode cX8_keep 102 = .ok (.iconst 0, 1) := by decide +kernel
theorem dX8_keep_103 : decode cX8_keep 103 = .ok (.iaload, 1) := by decide +kernel
theorem dX8_keep_104 : decode cX8_keep 104 = .ok (.ireturn, 1) := by decide +kernel
set_option maxRecDepth 20000 in
theorem ggX8_back_X8_in : GoodIn wsX8_back wsX8_in := goodIn_r _ [9] (by decide +kernel) (by decide +kernel)
set_option maxRecDepth 20000 in
theorem gX8_back_X8_in : GoodIn wsX8_back (va_wsS RX8 72 yX8_in wsX8_in) := goodIn_app (goodIn_of _ (by decide +kernel)) ggX8_back_X8_in
theorem dX8_back_0 : decode cX8_back 0 = .ok (.iload_n 1, 1) := by decide +kernel
theorem dX8_back_1 : decode cX8_back 1 = .ok (.iconst 0, 1) := by decide +kernel
theorem dX8_back_2 : decode cX8_back 2 = .ok (.iconst 1, 1) := by decide +kernel
theorem dX8_back_3 : decode cX8_back 3 = .ok (.invokestatic 72, 3) := by decide +kernel
theorem dX8_back_6 : decode cX8_back 6 = .ok (.ifCond .ne 5, 3) := by decide +kernel
theorem dX8_back_9 : decode cX8_back 9 = .ok (.iconst (-1), 1) := by decide +kernel
theorem dX8_back_10 : decode cX8_back 10 = .ok (.ireturn, 1) := by decide +kernel
theorem dX8_back_11 : decode cX8_back 11 = .ok (.aload_n 0, 1) := by decide +kernel
theorem dX8_back_12 : decode cX8_back 12 = .ok (.getfield 56, 3) := by decide +kernel
theorem dX8_back_15 : decode cX8_back 15 = .ok (.iload_n 1, 1) := by decide +kernel
theorem dX8_back_16 : decode cX8_back 16 = .ok (.baload, 1) := by decide +kernel
theorem dX8_back_17 : decode cX8_back 17 = .ok (.ifCond .ne 6, 3) := by decide +kernel
theorem dX8_back_20 : decode cX8_back 20 = .ok (.bipush (-2), 2) := by decide +kernel
theorem dX8_back_22 : decode cX8_back 22 = .ok (.ireturn, 1) := by decide +kernel
theorem dX8_back_23 : decode cX8_back 23 = .ok (.iconst 0, 1) := by decide +kernel
theorem dX8_back_24 : decode cX8_back 24 = .ok (.istore_n 2, 1) := by decide +kernel
theorem dX8_back_25 : decode cX8_back 25 = .ok (.iload_n 2, 1) := by decide +kernel
theorem dX8_back_26 : decode cX8_back 26 = .ok (.bipush 29, 2) := by decide +kernel
theorem dX8_back_28 : decode cX8_back 28 = .ok (.if_icmp .ge 26, 3) := by decide +kernel
theorem dX8_back_31 : decode cX8_back 31 = .ok (.aload_n 0, 1) := by decide +kernel
theorem dX8_back_32 : decode cX8_back 32 = .ok (.getfield 44, 3) := by decide +kernel
theorem dX8_back_35 : decode cX8_back 35 = .ok (.iload_n 2, 1) := by decide +kernel
theorem dX8_back_36 : decode cX8_back 36 = .ok (.aload_n 0, 1) := by decide +kernel
theorem dX8_back_37 : decode cX8_back 37 = .ok (.getfield 53, 3) := by decide +kernel
theorem dX8_back_40 : decode cX8_back 40 = .ok (.bipush 29, 2) := by decide +kernel
theorem dX8_back_42 : decode cX8_back 42 = .ok (.iload_n 1, 1) := by decide +kernel
theorem dX8_back_43 : decode cX8_back 43 = .ok (.imul, 1) := by decide +kernel
theorem dX8_back_44 : decode cX8_back 44 = .ok (.iload_n 2, 1) := by decide +kernel
theorem dX8_back_45 : decode cX8_back 45 = .ok (.iadd, 1) := by decide +kernel
theorem dX8_back_46 : decode cX8_back 46 = .ok (.iaload, 1) := by decide +kernel
theorem dX8_back_47 : decode cX8_back 47 = .ok (.iastore, 1) := by decide +kernel
theorem dX8_back_48 : decode cX8_back 48 = .ok (.iinc 2 1, 3) := by decide +kernel
theorem dX8_back_51 : decode cX8_back 51 = .ok (.goto (-26), 3) := by decide +kernel
theorem dX8_back_54 : decode cX8_back 54 = .ok (.iconst 0, 1) := by decide +kernel
theorem dX8_back_55 : decode cX8_back 55 = .ok (.istore_n 2, 1) := by decide +kernel
theorem dX8_back_56 : decode cX8_back 56 = .ok (.iload_n 2, 1) := by decide +kernel
theorem dX8_back_57 : decode cX8_back 57 = .ok (.sipush 290, 3) := by decide +kernel
theorem dX8_back_60 : decode cX8_back 60 = .ok (.if_icmp .ge 29, 3) := by decide +kernel
theorem dX8_back_63 : decode cX8_back 63 = .ok (.aload_n 0, 1) := by decide +kernel
theorem dX8_back_64 : decode cX8_back 64 = .ok (.getfield 50, 3) := by decide +kernel
theorem dX8_back_67 : decode cX8_back 67 = .ok (.iload_n 2, 1) := by decide +kernel
theorem dX8_back_68 : decode cX8_back 68 = .ok (.aload_n 0, 1) := by decide +kernel
theorem dX8_back_69 : decode cX8_back 69 = .ok (.getfield 50, 3) := by decide +kernel
theorem dX8_back_72 : decode cX8_back 72 = .ok (.sipush 290, 3) := by decide +kernel
theorem dX8_back_75 : decode cX8_back 75 = .ok (.iconst 1, 1) := by decide +kernel
theorem dX8_back_76 : decode cX8_back 76 = .ok (.iload_n 1, 1) := by decide +kernel
theorem dX8_back_77 : decode cX8_back 77 = .ok (.iadd, 1) := by decide +kernel
theorem dX8_back_78 : decode cX8_back 78 = .ok (.imul, 1) := by decide +kernel
theorem dX8_back_79 : decode cX8_back 79 = .ok (.iload_n 2, 1) := by decide +kernel
theorem dX8_back_80 : decode cX8_back 80 = .ok (.iadd, 1) := by decide +kernel
theorem dX8_back_81 : decode cX8_back 81 = .ok (.iaload, 1) := by decide +kernel
theorem dX8_back_82 : decode cX8_back 82 = .ok (.iastore, 1) := by decide +kernel
theorem dX8_back_83 : decode cX8_back 83 = .ok (.iinc 2 1, 3) := by decide +kernel
theorem dX8_back_86 : decode cX8_back 86 = .ok (.goto (-30), 3) := by decide +kernel
theorem dX8_back_89 : decode cX8_back 89 = .ok (.aload_n 0, 1) := by decide +kernel
theorem dX8_back_90 : decode cX8_back 90 = .ok (.getfield 47, 3) := by decide +kernel
theorem dX8_back_93 : decode cX8_back 93 = .ok (.iconst 0, 1) := by decide +kernel
theorem dX8_back_94 : decode cX8_back 94 = .ok (.aload_n 0, 1) := by decide +kernel
theorem dX8_back_95 : decode cX8_back 95 = .ok (.getfield 47, 3) := by decide +kernel
theorem dX8_back_98 : decode cX8_back 98 = .ok (.iconst 1, 1) := by decide +kernel
theorem dX8_back_99 : decode cX8_back 99 = .ok (.iload_n 1, 1) := by decide +kernel
theorem dX8_back_100 : decode cX8_back 100 = .ok (.iadd, 1) := by decide +kernel
theorem dX8_back_101 : decode cX8_back 101 = .ok (.iaload, 1) := by decide +kernel
theorem dX8_back_102 : decode cX8_back 102 = .ok (.iastore, 1) := by decide +kernel
theorem dX8_back_103 : decode cX8_back 103 = .ok (.aload_n 0, 1) := by decide +kernel
theorem dX8_back_104 : decode cX8_back 104 = .ok (.getfield 44, 3) := by decide +kernel
theorem dX8_back_107 : decode cX8_back 107 = .ok (.iconst 0, 1) := by decide +kernel
theorem dX8_back_108 : decode cX8_back 108 = .ok (.iaload, 1) := by decide +kernel
theorem dX8_back_109 : decode cX8_back 109 = .ok (.ireturn, 1) := by decide +kernel
theorem dX8_count_0 : decode cX8_count 0 = .ok (.iload_n 1, 1) := by decide +kernel
theorem dX8_count_1 : decode cX8_count 1 = .ok (.tableswitch 77 0 5 #[39, 46, 53, 60, 65, 72], 39) := by decide +kernel
theorem dX8_count_40 : decode cX8_count 40 = .ok (.aload_n 0, 1) := by decide +kernel
theorem dX8_count_41 : decode cX8_count 41 = .ok (.getfield 13, 3) := by decide +kernel
theorem dX8_count_44 : decode cX8_count 44 = .ok (.iconst 0, 1) := by decide +kernel
theorem dX8_count_45 : decode cX8_count 45 = .ok (.iaload, 1) := by decide +kernel
theorem dX8_count_46 : decode cX8_count 46 = .ok (.ireturn, 1) := by decide +kernel
theorem dX8_count_47 : decode cX8_count 47 = .ok (.aload_n 0, 1) := by decide +kernel
theorem dX8_count_48 : decode cX8_count 48 = .ok (.getfield 23, 3) := by decide +kernel
theorem dX8_count_51 : decode cX8_count 51 = .ok (.iconst 0, 1) := by decide +kernel
theorem dX8_count_52 : decode cX8_count 52 = .ok (.iaload, 1) := by decide +kernel
theorem dX8_count_53 : decode cX8_count 53 = .ok (.ireturn, 1) := by decide +kernel
theorem dX8_count_54 : decode cX8_count 54 = .ok (.aload_n 0, 1) := by decide +kernel
theorem dX8_count_55 : decode cX8_count 55 = .ok (.getfield 35, 3) := by decide +kernel
theorem dX8_count_58 : decode cX8_count 58 = .ok (.iconst 0, 1) := by decide +kernel
theorem dX8_count_59 : decode cX8_count 59 = .ok (.iaload, 1) := by decide +kernel
theorem dX8_count_60 : decode cX8_count 60 = .ok (.ireturn, 1) := by decide +kernel
theorem dX8_count_61 : decode cX8_count 61 = .ok (.aload_n 0, 1) := by decide +kernel
theorem dX8_count_62 : decode cX8_count 62 = .ok (.getfield 131, 3) := by decide +kernel
theorem dX8_count_65 : decode cX8_count 65 = .ok (.ireturn, 1) := by decide +kernel
theorem dX8_count_66 : decode cX8_count 66 = .ok (.aload_n 0, 1) := by decide +kernel
theorem dX8_count_67 : decode cX8_count 67 = .ok (.getfield 47, 3) := by decide +kernel
theorem dX8_count_70 : decode cX8_count 70 = .ok (.iconst 0, 1) := by decide +kernel
theorem dX8_count_71 : decode cX8_count 71 = .ok (.iaload, 1) := by decide +kernel
theorem dX8_count_72 : decode cX8_count 72 = .ok (.ireturn, 1) := by decide +kernel
theorem dX8_count_73 : decode cX8_count 73 = .ok (.aload_n 0, 1) := by decide +kernel
theorem dX8_count_74 : decode cX8_count 74 = .ok (.getfield 76, 3) := by decide +kernel
theorem dX8_count_77 : decode cX8_count 77 = .ok (.ireturn, 1) := by decide +kernel
theorem dX8_count_78 : decode cX8_count 78 = .ok (.iconst (-1), 1) := by decide +kernel
theorem dX8_count_79 : decode cX8_count 79 = .ok (.ireturn, 1) := by decide +kernel
end
section
/-! Numbers: an int of the machine as an Int. -/
def iZ (z : Int) : Int32 := Int32.ofInt z
theorem iZ_add (a b : Int) : iZ a + iZ b = iZ (a + b) := (Int32.ofInt_add a b).symm
theorem iZ_sub (a b : Int) : iZ a - iZ b = iZ (a - b) := (Int32.ofInt_sub a b).symm
theorem iZ_mul (a b : Int) : iZ a * iZ b = iZ (a * b) := (Int32.ofInt_mul a b).symm
theorem iZ_neg (a : Int) : -iZ a = iZ (-a) := (Int32.ofInt_neg a).symm
theorem iZ_toInt {z : Int} (h : -2147483648 ≤ z ∧ z < 2147483648) : (iZ z).toInt = z := Int32.toInt_ofInt_of_le h.1 h.2
theorem iZ_of (x : Int32) : ∃ z : Int, (-2147483648 ≤ z ∧ z < 2147483648) ∧ x = iZ z := by
  have h1 := Int32.le_toInt x
  have h2 := Int32.toInt_lt x
  exact ⟨x.toInt, ⟨by omega, by omega⟩, (Int32.ofInt_toInt x).symm⟩
theorem iZ_le {a b : Int} (ha : -2147483648 ≤ a ∧ a < 2147483648) (hb : -2147483648 ≤ b ∧ b < 2147483648) : iZ a ≤ iZ b ↔ a ≤ b := by
  rw [Int32.le_iff_toInt_le, iZ_toInt ha, iZ_toInt hb]
theorem iZ_lt {a b : Int} (ha : -2147483648 ≤ a ∧ a < 2147483648) (hb : -2147483648 ≤ b ∧ b < 2147483648) : iZ a < iZ b ↔ a < b := by
  rw [Int32.lt_iff_toInt_lt, iZ_toInt ha, iZ_toInt hb]
theorem iZ_eq {a b : Int} (ha : -2147483648 ≤ a ∧ a < 2147483648) (hb : -2147483648 ≤ b ∧ b < 2147483648) : iZ a = iZ b ↔ a = b := by
  constructor
  · intro h
    have h2 := congrArg Int32.toInt h
    rwa [iZ_toInt ha, iZ_toInt hb] at h2
  · intro h
    rw [h]
theorem iZ_n (n : Nat) : iZ (n : Int) = nI n := Int32.ofInt_eq_ofNat
theorem iZ_cl {i : Int} (h : 0 ≤ i ∧ i < 2147483648) : (iZ i).toNatClampNeg = i.toNat := by
  show (iZ i).toInt.toNat = i.toNat
  rw [iZ_toInt ⟨by omega, h.2⟩]
theorem iZ_in {i : Int} {n : Nat} (h : 0 ≤ i ∧ i < (n : Int)) (hn : n < 2147483648) : vp_in (iZ i) n := by
  rw [vp_in_iff, iZ_toInt ⟨by omega, by omega⟩]
  exact h
theorem iZ_div {a b : Int} (ha : 0 ≤ a ∧ a < 2147483648) (hb : 0 < b ∧ b < 2147483648) : iZ a / iZ b = iZ (a / b) := by
  obtain ⟨n, rfl⟩ := Int.eq_ofNat_of_zero_le ha.1
  obtain ⟨k, rfl⟩ := Int.eq_ofNat_of_zero_le (Int.le_of_lt hb.1)
  have e : ((n : Int) / (k : Int)) = ((n / k : Nat) : Int) := (Int.natCast_ediv n k).symm
  rw [iZ_n, iZ_n, e, iZ_n]
  exact pk_div (by omega) (by omega) (by omega)
theorem iZ_rem {a b : Int} (ha : 0 ≤ a ∧ a < 2147483648) (hb : 0 < b ∧ b < 2147483648) : iZ a - iZ a / iZ b * iZ b = iZ (a % b) := by
  obtain ⟨n, rfl⟩ := Int.eq_ofNat_of_zero_le ha.1
  obtain ⟨k, rfl⟩ := Int.eq_ofNat_of_zero_le (Int.le_of_lt hb.1)
  have e : ((n : Int) % (k : Int)) = ((n % k : Nat) : Int) := (Int.natCast_emod n k).symm
  rw [iZ_n, iZ_n, e, iZ_n]
  exact pk_rem (by omega) (by omega) (by omega)
theorem iZ_ne0 {b : Int} (hb : 0 < b ∧ b < 2147483648) : ¬ iZ b = 0 := fun h => by
  have h2 : iZ b = iZ 0 := h
  have h3 := (iZ_eq ⟨by omega, hb.2⟩ ⟨by omega, by omega⟩).mp h2
  omega
/-- two to the k -/
def zp (k : Int) : Int := ((2 ^ k.toNat : Nat) : Int)
theorem iZ_shl1 {k : Int} (h : 0 ≤ k ∧ k ≤ 30) : iZ 1 <<< (iZ k &&& 31) = iZ (zp k) := by
  have q : ∀ n : Fin 31, iZ 1 <<< (iZ ((n : Nat) : Int) &&& 31) = iZ ((2 ^ (n : Nat) : Nat) : Int) := by decide +kernel
  obtain ⟨n, rfl⟩ := Int.eq_ofNat_of_zero_le h.1
  exact q ⟨n, by omega⟩
theorem iZ_shr {x k : Int} (hx : -2147483648 ≤ x ∧ x < 2147483648) (h : 0 ≤ k ∧ k ≤ 31) : iZ x >>> (iZ k &&& 31) = iZ (x / zp k) := by
  have q : ∀ n : Fin 32, ((iZ ((n : Nat) : Int) &&& 31).toBitVec.smod 32).toNat = (n : Nat) := by decide +kernel
  obtain ⟨n, rfl⟩ := Int.eq_ofNat_of_zero_le h.1
  have e := pk_shr (iZ x) (iZ (n : Int) &&& 31) n (q ⟨n, by omega⟩)
  rw [iZ_toInt hx, Int.shiftRight_eq_div_pow] at e
  have hp : (0 : Int) < ((2 ^ n : Nat) : Int) := by exact_mod_cast Nat.pos_of_ne_zero (by simp)
  have hz : zp (n : Int) = ((2 ^ n : Nat) : Int) := rfl
  apply Int32.toInt_inj.1
  rw [e, hz]
  have b1 : -2147483648 ≤ x / ((2 ^ n : Nat) : Int) := by
    rw [Int.le_ediv_iff_mul_le hp]
    have : (-2147483648 : Int) * ((2 ^ n : Nat) : Int) ≤ -2147483648 * 1 := Int.mul_le_mul_of_nonpos_left (by omega) (by omega)
    omega
  have b2 : x / ((2 ^ n : Nat) : Int) < 2147483648 := by
    rw [Int.ediv_lt_iff_lt_mul hp]
    have : (2147483648 : Int) * 1 ≤ 2147483648 * ((2 ^ n : Nat) : Int) := Int.mul_le_mul_of_nonneg_left (by omega) (by omega)
    omega
  rw [iZ_toInt ⟨b1, b2⟩]
theorem iZ_bv (x : Int) (k : Nat) (hk : k ≤ 32) : (iZ x).toBitVec.toNat % 2 ^ k = (x % ((2 ^ k : Nat) : Int)).toNat := by
  show (BitVec.ofInt 32 x).toNat % 2 ^ k = _
  rw [BitVec.toNat_ofInt]
  have hd : ((2 ^ k : Nat) : Int) ∣ ((2 ^ 32 : Nat) : Int) := by
    exact Int.natCast_dvd_natCast.mpr (Nat.pow_dvd_pow 2 hk)
  have hp : (0 : Int) < ((2 ^ k : Nat) : Int) := by exact_mod_cast Nat.pos_of_ne_zero (by simp)
  have h1 : 0 ≤ x % ((2 ^ 32 : Nat) : Int) := Int.emod_nonneg _ (by decide)
  have h2 : ((x % ((2 ^ 32 : Nat) : Int)).toNat : Int) = x % ((2 ^ 32 : Nat) : Int) := Int.toNat_of_nonneg h1
  have h3 : x % ((2 ^ 32 : Nat) : Int) % ((2 ^ k : Nat) : Int) = x % ((2 ^ k : Nat) : Int) := Int.emod_emod_of_dvd x hd
  have h4 : ((((x % ((2 ^ 32 : Nat) : Int)).toNat % 2 ^ k : Nat)) : Int) = x % ((2 ^ k : Nat) : Int) := by
    rw [Int.natCast_emod, h2, h3]
  rw [← h4]
  rfl
theorem iZ_and (x : Int) {m : Int32} (k : Nat) (hk : k ≤ 30) (hm : m.toBitVec.toNat = 2 ^ k - 1) : iZ x &&& m = iZ (x % ((2 ^ k : Nat) : Int)) := by
  rw [pk_and (iZ x) k hm, iZ_bv x k (by omega), ← iZ_n]
  have hp : (0 : Int) < ((2 ^ k : Nat) : Int) := by exact_mod_cast Nat.pos_of_ne_zero (by simp)
  rw [Int.toNat_of_nonneg (Int.emod_nonneg _ (by omega))]
theorem iZ_and1 (x : Int) : iZ x &&& iZ 1 = iZ (x % 2) := iZ_and x 1 (by omega) (by decide)
theorem iZ_and31 (x : Int) : iZ x &&& iZ 31 = iZ (x % 32) := iZ_and x 5 (by omega) (by decide)
theorem iZ_and255 (x : Int) : iZ x &&& iZ 255 = iZ (x % 256) := iZ_and x 8 (by omega) (by decide)
/-- the bits of one or the other -/
def zor (a b : Int) : Int := ((a.toNat ||| b.toNat : Nat) : Int)
theorem nI_or2 (a b : Nat) : nI a ||| nI b = nI (a ||| b) := by
  apply Int32.toBitVec_inj.1
  show BitVec.ofNat 32 a ||| BitVec.ofNat 32 b = BitVec.ofNat 32 (a ||| b)
  apply BitVec.eq_of_getLsbD_eq
  intro i hi
  simp [hi]
theorem iZ_or {a b : Int} (ha : 0 ≤ a) (hb : 0 ≤ b) : iZ a ||| iZ b = iZ (zor a b) := by
  obtain ⟨n, rfl⟩ := Int.eq_ofNat_of_zero_le ha
  obtain ⟨k, rfl⟩ := Int.eq_ofNat_of_zero_le hb
  show iZ _ ||| iZ _ = iZ (((n ||| k : Nat)) : Int)
  rw [iZ_n, iZ_n, iZ_n]
  exact nI_or2 n k
/-- a byte with its sign -/
def zsb (c : Int) : Int := if c < 128 then c else c - 256
theorem iZ_i2b {c : Int} (h : 0 ≤ c ∧ c < 256) : (iZ c).toInt8.toInt32 = iZ (zsb c) := by
  have q : ∀ n : Fin 256, (iZ ((n : Nat) : Int)).toInt8.toInt32 = iZ (zsb ((n : Nat) : Int)) := by decide +kernel
  obtain ⟨n, rfl⟩ := Int.eq_ofNat_of_zero_le h.1
  exact q ⟨n, by omega⟩
theorem iZ_nb {c : Int} (h : -128 ≤ c ∧ c < 128) : vp_nar .byte (iZ c) = iZ c := by
  rw [vp_nar_byte]
  apply Int32.toInt_inj.1
  rw [Int8.toInt_toInt32, Int32.toInt_toInt8, iZ_toInt ⟨by omega, by omega⟩, Int.bmod_eq_of_le (by omega) (by omega)]
/-! Longs. -/
def iL (z : Int) : Int64 := Int64.ofInt z
theorem iL_add (a b : Int) : iL a + iL b = iL (a + b) := (Int64.ofInt_add a b).symm
theorem iL_mul (a b : Int) : iL a * iL b = iL (a * b) := (Int64.ofInt_mul a b).symm
section ZROWS
variable {p : Program} {l : Launch} {e : Env} {R : Room} {s : State} {m : MethodId} {args : Array Value} {below : List Frame} {meth : Method} {c : Code} {H : Heap} {locs : List Loc} {cells slots : Nat} {Q : State → Prop}
variable {cc : ByteArray} {pc : Nat} {ls : Array Slot} {rest : List Value}
theorem z_top {x y : Int} (h : x = y) (k : W p l e R s m args below meth c H locs cells slots Q (F0 m pc ls (.int (iZ y) :: rest))) : W p l e R s m args below meth c H locs cells slots Q (F0 m pc ls (.int (iZ x) :: rest)) := by rw [h]; exact k
theorem z_nm {x : Int} (k : ∀ y : Int, y = x → W p l e R s m args below meth c H locs cells slots Q (F0 m pc ls (.int (iZ y) :: rest))) : W p l e R s m args below meth c H locs cells slots Q (F0 m pc ls (.int (iZ x) :: rest)) := k x rfl
theorem z_iadd (hexec : p.tables.exec = Jvm.exec) (hb : c.code = cc) {x y : Int} (hdg : decode cc pc = .ok (.iadd, 1)) (k : W p l e R s m args below meth c H locs cells slots Q (F0 m (pc + 1) ls (.int (iZ (x + y)) :: rest))) : W p l e R s m args below meth c H locs cells slots Q (F0 m pc ls (.int (iZ y) :: .int (iZ x) :: rest)) := lv_iadd hexec hb hdg (by rw [iZ_add]; exact k)
theorem z_isub (hexec : p.tables.exec = Jvm.exec) (hb : c.code = cc) {x y : Int} (hdg : decode cc pc = .ok (.isub, 1)) (k : W p l e R s m args below meth c H locs cells slots Q (F0 m (pc + 1) ls (.int (iZ (x - y)) :: rest))) : W p l e R s m args below meth c H locs cells slots Q (F0 m pc ls (.int (iZ y) :: .int (iZ x) :: rest)) := lv_isub hexec hb hdg (by rw [iZ_sub]; exact k)
theorem z_imul (hexec : p.tables.exec = Jvm.exec) (hb : c.code = cc) {x y : Int} (hdg : decode cc pc = .ok (.imul, 1)) (k : W p l e R s m args below meth c H locs cells slots Q (F0 m (pc + 1) ls (.int (iZ (x * y)) :: rest))) : W p l e R s m args below meth c H locs cells slots Q (F0 m pc ls (.int (iZ y) :: .int (iZ x) :: rest)) := lv_imul hexec hb hdg (by rw [iZ_mul]; exact k)
theorem z_ineg (hexec : p.tables.exec = Jvm.exec) (hb : c.code = cc) {x : Int} (hdg : decode cc pc = .ok (.ineg, 1)) (k : W p l e R s m args below meth c H locs cells slots Q (F0 m (pc + 1) ls (.int (iZ (-x)) :: rest))) : W p l e R s m args below meth c H locs cells slots Q (F0 m pc ls (.int (iZ x) :: rest)) := lv_ineg hexec hb hdg (by rw [iZ_neg]; exact k)
theorem z_idiv (hexec : p.tables.exec = Jvm.exec) (hb : c.code = cc) {x y : Int} (hx : 0 ≤ x ∧ x < 2147483648) (hy : 0 < y ∧ y < 2147483648) (hdg : decode cc pc = .ok (.idiv, 1)) (k : W p l e R s m args below meth c H locs cells slots Q (F0 m (pc + 1) ls (.int (iZ (x / y)) :: rest))) : W p l e R s m args below meth c H locs cells slots Q (F0 m pc ls (.int (iZ y) :: .int (iZ x) :: rest)) := lv_idiv hexec hb hdg (iZ_ne0 hy) (by rw [iZ_div hx hy]; exact k)
theorem z_irem (hexec : p.tables.exec = Jvm.exec) (hb : c.code = cc) {x y : Int} (hx : 0 ≤ x ∧ x < 2147483648) (hy : 0 < y ∧ y < 2147483648) (hdg : decode cc pc = .ok (.irem, 1)) (k : W p l e R s m args below meth c H locs cells slots Q (F0 m (pc + 1) ls (.int (iZ (x % y)) :: rest))) : W p l e R s m args below meth c H locs cells slots Q (F0 m pc ls (.int (iZ y) :: .int (iZ x) :: rest)) := lv_irem hexec hb hdg (iZ_ne0 hy) (by rw [iZ_rem hx hy]; exact k)
theorem z_ishl1 (hexec : p.tables.exec = Jvm.exec) (hb : c.code = cc) {x : Int} (hx : 0 ≤ x ∧ x ≤ 30) (hdg : decode cc pc = .ok (.ishl, 1)) (k : W p l e R s m args below meth c H locs cells slots Q (F0 m (pc + 1) ls (.int (iZ (zp x)) :: rest))) : W p l e R s m args below meth c H locs cells slots Q (F0 m pc ls (.int (iZ x) :: .int (iZ 1) :: rest)) := lv_ishl hexec hb hdg (by rw [iZ_shl1 hx]; exact k)
theorem z_ishr (hexec : p.tables.exec = Jvm.exec) (hb : c.code = cc) {x y : Int} (hx : -2147483648 ≤ x ∧ x < 2147483648) (hy : 0 ≤ y ∧ y ≤ 31) (hdg : decode cc pc = .ok (.ishr, 1)) (k : W p l e R s m args below meth c H locs cells slots Q (F0 m (pc + 1) ls (.int (iZ (x / zp y)) :: rest))) : W p l e R s m args below meth c H locs cells slots Q (F0 m pc ls (.int (iZ y) :: .int (iZ x) :: rest)) := lv_ishr hexec hb hdg (by rw [iZ_shr hx hy]; exact k)
theorem z_iand1 (hexec : p.tables.exec = Jvm.exec) (hb : c.code = cc) {x : Int} (hdg : decode cc pc = .ok (.iand, 1)) (k : W p l e R s m args below meth c H locs cells slots Q (F0 m (pc + 1) ls (.int (iZ (x % 2)) :: rest))) : W p l e R s m args below meth c H locs cells slots Q (F0 m pc ls (.int (iZ 1) :: .int (iZ x) :: rest)) := lv_iand hexec hb hdg (by rw [iZ_and1]; exact k)
theorem z_iand31 (hexec : p.tables.exec = Jvm.exec) (hb : c.code = cc) {x : Int} (hdg : decode cc pc = .ok (.iand, 1)) (k : W p l e R s m args below meth c H locs cells slots Q (F0 m (pc + 1) ls (.int (iZ (x % 32)) :: rest))) : W p l e R s m args below meth c H locs cells slots Q (F0 m pc ls (.int (iZ 31) :: .int (iZ x) :: rest)) := lv_iand hexec hb hdg (by rw [iZ_and31]; exact k)
theorem z_iand255 (hexec : p.tables.exec = Jvm.exec) (hb : c.code = cc) {x : Int} (hdg : decode cc pc = .ok (.iand, 1)) (k : W p l e R s m args below meth c H locs cells slots Q (F0 m (pc + 1) ls (.int (iZ (x % 256)) :: rest))) : W p l e R s m args below meth c H locs cells slots Q (F0 m pc ls (.int (iZ 255) :: .int (iZ x) :: rest)) := lv_iand hexec hb hdg (by rw [iZ_and255]; exact k)
theorem z_ior (hexec : p.tables.exec = Jvm.exec) (hb : c.code = cc) {x y : Int} (hx : 0 ≤ x) (hy : 0 ≤ y) (hdg : decode cc pc = .ok (.ior, 1)) (k : W p l e R s m args below meth c H locs cells slots Q (F0 m (pc + 1) ls (.int (iZ (zor x y)) :: rest))) : W p l e R s m args below meth c H locs cells slots Q (F0 m pc ls (.int (iZ y) :: .int (iZ x) :: rest)) := lv_ior hexec hb hdg (by rw [iZ_or hx hy]; exact k)
theorem z_i2b (hexec : p.tables.exec = Jvm.exec) (hb : c.code = cc) {x : Int} (hx : 0 ≤ x ∧ x < 256) (hdg : decode cc pc = .ok (.i2b, 1)) (k : W p l e R s m args below meth c H locs cells slots Q (F0 m (pc + 1) ls (.int (iZ (zsb x)) :: rest))) : W p l e R s m args below meth c H locs cells slots Q (F0 m pc ls (.int (iZ x) :: rest)) := lv_i2b hexec hb hdg (iZ_i2b hx) k
theorem z_ladd (hexec : p.tables.exec = Jvm.exec) (hb : c.code = cc) {x y : Int} (hdg : decode cc pc = .ok (.ladd, 1)) (k : W p l e R s m args below meth c H locs cells slots Q (F0 m (pc + 1) ls (.long (iL (x + y)) :: rest))) : W p l e R s m args below meth c H locs cells slots Q (F0 m pc ls (.long (iL y) :: .long (iL x) :: rest)) := lv_ladd hexec hb hdg (by rw [iL_add]; exact k)
theorem z_lmul (hexec : p.tables.exec = Jvm.exec) (hb : c.code = cc) {x y : Int} (hdg : decode cc pc = .ok (.lmul, 1)) (k : W p l e R s m args below meth c H locs cells slots Q (F0 m (pc + 1) ls (.long (iL (x * y)) :: rest))) : W p l e R s m args below meth c H locs cells slots Q (F0 m pc ls (.long (iL y) :: .long (iL x) :: rest)) := lv_lmul hexec hb hdg (by rw [iL_mul]; exact k)
theorem z_if_eq (hexec : p.tables.exec = Jvm.exec) (hb : c.code = cc) {x : Int} {off : Int} {tgt : Nat} (hx : -2147483648 ≤ x ∧ x < 2147483648) (hdg : decode cc pc = .ok (.ifCond .eq off, 3)) (ht : (pc : Int) + off = (tgt : Int)) (kt : x = 0 → W p l e R s m args below meth c H locs cells slots Q (F0 m tgt ls rest)) (kf : ¬ x = 0 → W p l e R s m args below meth c H locs cells slots Q (F0 m (pc + 3) ls rest)) : W p l e R s m args below meth c H locs cells slots Q (F0 m pc ls (.int (iZ x) :: rest)) := by
  have q : iZ x = iZ 0 ↔ x = 0 := iZ_eq hx ⟨by omega, by omega⟩
  exact lv_if_eq hexec hb hdg ht (fun h => kt (q.mp h)) (fun h => kf (fun h2 => h (q.mpr h2)))
theorem z_if_lt (hexec : p.tables.exec = Jvm.exec) (hb : c.code = cc) {x : Int} {off : Int} {tgt : Nat} (hx : -2147483648 ≤ x ∧ x < 2147483648) (hdg : decode cc pc = .ok (.ifCond .lt off, 3)) (ht : (pc : Int) + off = (tgt : Int)) (kt : x < 0 → W p l e R s m args below meth c H locs cells slots Q (F0 m tgt ls rest)) (kf : ¬ x < 0 → W p l e R s m args below meth c H locs cells slots Q (F0 m (pc + 3) ls rest)) : W p l e R s m args below meth c H locs cells slots Q (F0 m pc ls (.int (iZ x) :: rest)) := by
  have q : iZ x < iZ 0 ↔ x < 0 := iZ_lt hx ⟨by omega, by omega⟩
  exact lv_if_lt hexec hb hdg ht (fun h => kt (q.mp h)) (fun h => kf (fun h2 => h (q.mpr h2)))
theorem z_if_ge (hexec : p.tables.exec = Jvm.exec) (hb : c.code = cc) {x : Int} {off : Int} {tgt : Nat} (hx : -2147483648 ≤ x ∧ x < 2147483648) (hdg : decode cc pc = .ok (.ifCond .ge off, 3)) (ht : (pc : Int) + off = (tgt : Int)) (kt : 0 ≤ x → W p l e R s m args below meth c H locs cells slots Q (F0 m tgt ls rest)) (kf : ¬ 0 ≤ x → W p l e R s m args below meth c H locs cells slots Q (F0 m (pc + 3) ls rest)) : W p l e R s m args below meth c H locs cells slots Q (F0 m pc ls (.int (iZ x) :: rest)) := by
  have q : iZ 0 ≤ iZ x ↔ 0 ≤ x := iZ_le ⟨by omega, by omega⟩ hx
  exact lv_if_ge hexec hb hdg ht (fun h => kt (q.mp h)) (fun h => kf (fun h2 => h (q.mpr h2)))
theorem z_if_gt (hexec : p.tables.exec = Jvm.exec) (hb : c.code = cc) {x : Int} {off : Int} {tgt : Nat} (hx : -2147483648 ≤ x ∧ x < 2147483648) (hdg : decode cc pc = .ok (.ifCond .gt off, 3)) (ht : (pc : Int) + off = (tgt : Int)) (kt : 0 < x → W p l e R s m args below meth c H locs cells slots Q (F0 m tgt ls rest)) (kf : ¬ 0 < x → W p l e R s m args below meth c H locs cells slots Q (F0 m (pc + 3) ls rest)) : W p l e R s m args below meth c H locs cells slots Q (F0 m pc ls (.int (iZ x) :: rest)) := by
  have q : iZ 0 < iZ x ↔ 0 < x := iZ_lt ⟨by omega, by omega⟩ hx
  exact lv_if_gt hexec hb hdg ht (fun h => kt (q.mp h)) (fun h => kf (fun h2 => h (q.mpr h2)))
theorem z_if_le (hexec : p.tables.exec = Jvm.exec) (hb : c.code = cc) {x : Int} {off : Int} {tgt : Nat} (hx : -2147483648 ≤ x ∧ x < 2147483648) (hdg : decode cc pc = .ok (.ifCond .le off, 3)) (ht : (pc : Int) + off = (tgt : Int)) (kt : x ≤ 0 → W p l e R s m args below meth c H locs cells slots Q (F0 m tgt ls rest)) (kf : ¬ x ≤ 0 → W p l e R s m args below meth c H locs cells slots Q (F0 m (pc + 3) ls rest)) : W p l e R s m args below meth c H locs cells slots Q (F0 m pc ls (.int (iZ x) :: rest)) := by
  have q : iZ x ≤ iZ 0 ↔ x ≤ 0 := iZ_le hx ⟨by omega, by omega⟩
  exact lv_if_le hexec hb hdg ht (fun h => kt (q.mp h)) (fun h => kf (fun h2 => h (q.mpr h2)))
theorem z_if_ne (hexec : p.tables.exec = Jvm.exec) (hb : c.code = cc) {x : Int} {off : Int} {tgt : Nat} (hx : -2147483648 ≤ x ∧ x < 2147483648) (hdg : decode cc pc = .ok (.ifCond .ne off, 3)) (ht : (pc : Int) + off = (tgt : Int)) (kt : ¬ x = 0 → W p l e R s m args below meth c H locs cells slots Q (F0 m tgt ls rest)) (kf : x = 0 → W p l e R s m args below meth c H locs cells slots Q (F0 m (pc + 3) ls rest)) : W p l e R s m args below meth c H locs cells slots Q (F0 m pc ls (.int (iZ x) :: rest)) := by
  have q : iZ x = iZ 0 ↔ x = 0 := iZ_eq hx ⟨by omega, by omega⟩
  exact lv_if_ne hexec hb hdg ht (fun h => kt (fun h2 => h (q.mpr h2))) (fun h => kf (q.mp h))
theorem z_icmp_eq (hexec : p.tables.exec = Jvm.exec) (hb : c.code = cc) {x y : Int} {off : Int} {tgt : Nat} (hx : -2147483648 ≤ x ∧ x < 2147483648) (hy : -2147483648 ≤ y ∧ y < 2147483648) (hdg : decode cc pc = .ok (.if_icmp .eq off, 3)) (ht : (pc : Int) + off = (tgt : Int)) (kt : x = y → W p l e R s m args below meth c H locs cells slots Q (F0 m tgt ls rest)) (kf : ¬ x = y → W p l e R s m args below meth c H locs cells slots Q (F0 m (pc + 3) ls rest)) : W p l e R s m args below meth c H locs cells slots Q (F0 m pc ls (.int (iZ y) :: .int (iZ x) :: rest)) := by
  have q : iZ x = iZ y ↔ x = y := iZ_eq hx hy
  exact lv_icmp_eq hexec hb hdg ht (fun h => kt (q.mp h)) (fun h => kf (fun h2 => h (q.mpr h2)))
theorem z_icmp_lt (hexec : p.tables.exec = Jvm.exec) (hb : c.code = cc) {x y : Int} {off : Int} {tgt : Nat} (hx : -2147483648 ≤ x ∧ x < 2147483648) (hy : -2147483648 ≤ y ∧ y < 2147483648) (hdg : decode cc pc = .ok (.if_icmp .lt off, 3)) (ht : (pc : Int) + off = (tgt : Int)) (kt : x < y → W p l e R s m args below meth c H locs cells slots Q (F0 m tgt ls rest)) (kf : ¬ x < y → W p l e R s m args below meth c H locs cells slots Q (F0 m (pc + 3) ls rest)) : W p l e R s m args below meth c H locs cells slots Q (F0 m pc ls (.int (iZ y) :: .int (iZ x) :: rest)) := by
  have q : iZ x < iZ y ↔ x < y := iZ_lt hx hy
  exact lv_icmp_lt hexec hb hdg ht (fun h => kt (q.mp h)) (fun h => kf (fun h2 => h (q.mpr h2)))
theorem z_icmp_ge (hexec : p.tables.exec = Jvm.exec) (hb : c.code = cc) {x y : Int} {off : Int} {tgt : Nat} (hx : -2147483648 ≤ x ∧ x < 2147483648) (hy : -2147483648 ≤ y ∧ y < 2147483648) (hdg : decode cc pc = .ok (.if_icmp .ge off, 3)) (ht : (pc : Int) + off = (tgt : Int)) (kt : y ≤ x → W p l e R s m args below meth c H locs cells slots Q (F0 m tgt ls rest)) (kf : ¬ y ≤ x → W p l e R s m args below meth c H locs cells slots Q (F0 m (pc + 3) ls rest)) : W p l e R s m args below meth c H locs cells slots Q (F0 m pc ls (.int (iZ y) :: .int (iZ x) :: rest)) := by
  have q : iZ y ≤ iZ x ↔ y ≤ x := iZ_le hy hx
  exact lv_icmp_ge hexec hb hdg ht (fun h => kt (q.mp h)) (fun h => kf (fun h2 => h (q.mpr h2)))
theorem z_icmp_gt (hexec : p.tables.exec = Jvm.exec) (hb : c.code = cc) {x y : Int} {off : Int} {tgt : Nat} (hx : -2147483648 ≤ x ∧ x < 2147483648) (hy : -2147483648 ≤ y ∧ y < 2147483648) (hdg : decode cc pc = .ok (.if_icmp .gt off, 3)) (ht : (pc : Int) + off = (tgt : Int)) (kt : y < x → W p l e R s m args below meth c H locs cells slots Q (F0 m tgt ls rest)) (kf : ¬ y < x → W p l e R s m args below meth c H locs cells slots Q (F0 m (pc + 3) ls rest)) : W p l e R s m args below meth c H locs cells slots Q (F0 m pc ls (.int (iZ y) :: .int (iZ x) :: rest)) := by
  have q : iZ y < iZ x ↔ y < x := iZ_lt hy hx
  exact lv_icmp_gt hexec hb hdg ht (fun h => kt (q.mp h)) (fun h => kf (fun h2 => h (q.mpr h2)))
theorem z_icmp_le (hexec : p.tables.exec = Jvm.exec) (hb : c.code = cc) {x y : Int} {off : Int} {tgt : Nat} (hx : -2147483648 ≤ x ∧ x < 2147483648) (hy : -2147483648 ≤ y ∧ y < 2147483648) (hdg : decode cc pc = .ok (.if_icmp .le off, 3)) (ht : (pc : Int) + off = (tgt : Int)) (kt : x ≤ y → W p l e R s m args below meth c H locs cells slots Q (F0 m tgt ls rest)) (kf : ¬ x ≤ y → W p l e R s m args below meth c H locs cells slots Q (F0 m (pc + 3) ls rest)) : W p l e R s m args below meth c H locs cells slots Q (F0 m pc ls (.int (iZ y) :: .int (iZ x) :: rest)) := by
  have q : iZ x ≤ iZ y ↔ x ≤ y := iZ_le hx hy
  exact lv_icmp_le hexec hb hdg ht (fun h => kt (q.mp h)) (fun h => kf (fun h2 => h (q.mpr h2)))
theorem z_icmp_ne (hexec : p.tables.exec = Jvm.exec) (hb : c.code = cc) {x y : Int} {off : Int} {tgt : Nat} (hx : -2147483648 ≤ x ∧ x < 2147483648) (hy : -2147483648 ≤ y ∧ y < 2147483648) (hdg : decode cc pc = .ok (.if_icmp .ne off, 3)) (ht : (pc : Int) + off = (tgt : Int)) (kt : ¬ x = y → W p l e R s m args below meth c H locs cells slots Q (F0 m tgt ls rest)) (kf : x = y → W p l e R s m args below meth c H locs cells slots Q (F0 m (pc + 3) ls rest)) : W p l e R s m args below meth c H locs cells slots Q (F0 m pc ls (.int (iZ y) :: .int (iZ x) :: rest)) := by
  have q : iZ x = iZ y ↔ x = y := iZ_eq hx hy
  exact lv_icmp_ne hexec hb hdg ht (fun h => kt (fun h2 => h (q.mpr h2))) (fun h => kf (q.mp h))
/-- a truth on the stack -/
theorem z_ifb_eq (hexec : p.tables.exec = Jvm.exec) (hb : c.code = cc) {P : Prop} {ip : Decidable P} {off : Int} {tgt : Nat} (hdg : decode cc pc = .ok (.ifCond .eq off, 3)) (ht : (pc : Int) + off = (tgt : Int)) (kt : ¬ P → W p l e R s m args below meth c H locs cells slots Q (F0 m tgt ls rest)) (kf : P → W p l e R s m args below meth c H locs cells slots Q (F0 m (pc + 3) ls rest)) : W p l e R s m args below meth c H locs cells slots Q (F0 m pc ls (.int (iZ (if P then 1 else 0)) :: rest)) := by
  refine z_if_eq hexec hb (by split <;> omega) hdg ht (fun h => kt (fun hp => ?_)) (fun h => kf ?_)
  · rw [if_pos hp] at h; omega
  · by_cases hp : P
    · exact hp
    · rw [if_neg hp] at h; exact absurd rfl h
theorem z_ifb_ne (hexec : p.tables.exec = Jvm.exec) (hb : c.code = cc) {P : Prop} {ip : Decidable P} {off : Int} {tgt : Nat} (hdg : decode cc pc = .ok (.ifCond .ne off, 3)) (ht : (pc : Int) + off = (tgt : Int)) (kt : P → W p l e R s m args below meth c H locs cells slots Q (F0 m tgt ls rest)) (kf : ¬ P → W p l e R s m args below meth c H locs cells slots Q (F0 m (pc + 3) ls rest)) : W p l e R s m args below meth c H locs cells slots Q (F0 m pc ls (.int (iZ (if P then 1 else 0)) :: rest)) := by
  refine z_if_ne hexec hb (by split <;> omega) hdg ht (fun h => kt ?_) (fun h => kf (fun hp => ?_))
  · by_cases hp : P
    · exact hp
    · rw [if_neg hp] at h; exact absurd rfl h
  · rw [if_pos hp] at h; omega
theorem z_nbool {v : Int} (h : v = 0 ∨ v = 1) : narrow .boolean (.int (iZ v)) = .int (iZ v) := by rcases h with rfl | rfl <;> decide +kernel
theorem z_fbool {v : Int} (h : v = 0 ∨ v = 1) : fits .boolean (.int (iZ v)) = true := by rcases h with rfl | rfl <;> decide +kernel
theorem z_ldc (hexec : p.tables.exec = Jvm.exec) (hb : c.code = cc) {own : String} {index : Nat} {n : Int} {v : Int32} (hown : s.vm.findClass own = some m.cls) (hconst : (Jvm.Cond.constant own index v).before args s = true) (hv : v = iZ n) (hdg : decode cc pc = .ok (.ldc index, 2)) (k : W p l e R s m args below meth c H locs cells slots Q (F0 m (pc + 2) ls (.int (iZ n) :: rest))) : W p l e R s m args below meth c H locs cells slots Q (F0 m pc ls rest) := lv_ldc hexec hb hown hconst hdg (by rw [hv]; exact k)
theorem z_ldc2_w (hexec : p.tables.exec = Jvm.exec) (hb : c.code = cc) {own : String} {index : Nat} {n : Int} {v : Int64} (hown : s.vm.findClass own = some m.cls) (hconst : (Jvm.Cond.constantLong own index v).before args s = true) (hv : v = iL n) (hdg : decode cc pc = .ok (.ldc2_w index, 3)) (k : W p l e R s m args below meth c H locs cells slots Q (F0 m (pc + 3) ls (.long (iL n) :: rest))) : W p l e R s m args below meth c H locs cells slots Q (F0 m pc ls rest) := lv_ldc2 hexec hb hown hconst hdg (by rw [hv]; exact k)
end ZROWS
/-- a loop whose heap stays -/
theorem z_loop {σ : Type} {G : Array Slot → Prop} (I : σ → Prop) (lv : σ → List (Nat × Value)) (nL : Nat) (μ : σ → Nat) (x0 : σ) (h0 : I x0) (step : ∀ x : σ, I x → (∀ y : σ, I y → μ y < μ x → ∀ ls : Array Slot, lv_has ls nL (lv y) → G ls) → ∀ ls : Array Slot, lv_has ls nL (lv x) → G ls) : ∀ ls : Array Slot, lv_has ls nL (lv x0) → G ls := by
  have K : ∀ (n : Nat) (x : σ), I x → μ x < n → ∀ ls : Array Slot, lv_has ls nL (lv x) → G ls := by
    intro n
    induction n with
    | zero => intro x _ h; exact absurd h (Nat.not_lt_zero _)
    | succ n ih => intro x hx hn; exact step x hx (fun y hy hlt => ih y hy (by omega))
  exact K (μ x0 + 1) x0 h0 (Nat.lt_succ_self _)
/-- a loop that changes the heap -/
theorem z_loopH {σ : Type} {G : Heap → List Loc → Array Slot → Prop} (I : σ → Prop) (B : σ → Heap → List Loc → Prop) (lv : σ → List (Nat × Value)) (nL : Nat) (μ : σ → Nat) (x0 : σ) (h0 : I x0) (step : ∀ x : σ, I x → (∀ y : σ, I y → μ y < μ x → ∀ (H : Heap) (locs : List Loc), B y H locs → ∀ ls : Array Slot, lv_has ls nL (lv y) → G H locs ls) → ∀ (H : Heap) (locs : List Loc), B x H locs → ∀ ls : Array Slot, lv_has ls nL (lv x) → G H locs ls) : ∀ (H : Heap) (locs : List Loc), B x0 H locs → ∀ ls : Array Slot, lv_has ls nL (lv x0) → G H locs ls := by
  have K : ∀ (n : Nat) (x : σ), I x → μ x < n → ∀ (H : Heap) (locs : List Loc), B x H locs → ∀ ls : Array Slot, lv_has ls nL (lv x) → G H locs ls := by
    intro n
    induction n with
    | zero => intro x _ h; exact absurd h (Nat.not_lt_zero _)
    | succ n ih => intro x hx hn; exact step x hx (fun y hy hlt => ih y hy (by omega))
  exact K (μ x0 + 1) x0 h0 (Nat.lt_succ_self _)
end
section
/-! The reference: one object, twenty arrays; what they hold: M f k, number k of field f. -/
abbrev mC : Type := ClassId × ClassId × ClassId
def mF (a : Nat → Nat) (M : Nat → Nat → Int) : List Value := [.ref (a 0), .int (iZ (M 1 0)), .ref (a 2), .ref (a 3), .ref (a 4), .ref (a 5), .ref (a 6), .ref (a 7), .ref (a 8), .ref (a 9), .ref (a 10), .ref (a 11), .int (iZ (M 12 0)), .int (iZ (M 13 0)), .int (iZ (M 14 0)), .int (iZ (M 15 0)), .int (iZ (M 16 0)), .int (iZ (M 17 0)), .int (iZ (M 18 0)), .ref (a 19), .ref (a 20), .ref (a 21), .ref (a 22), .ref (a 23), .ref (a 24), .ref (a 25), .ref (a 26), .ref (a 27), .int (iZ (M 28 0)), .long (iL (M 29 0))]
def mW (C : mC) (h : Nat) (a : Nat → Nat) (M : Nat → Nat → Int) : va_W := [(h, .inr (8, mF a M)), (a 0, .inl (C.2.1, 120, .inl (fun k => iZ (M 0 k)))), (a 2, .inl (C.1, 2, .inl (fun k => iZ (M 2 k)))), (a 3, .inl (C.1, 12, .inl (fun k => iZ (M 3 k)))), (a 4, .inl (C.1, 12, .inl (fun k => iZ (M 4 k)))), (a 5, .inl (C.1, 2, .inl (fun k => iZ (M 5 k)))), (a 6, .inl (C.1, 12, .inl (fun k => iZ (M 6 k)))), (a 7, .inl (C.1, 12, .inl (fun k => iZ (M 7 k)))), (a 8, .inl (C.1, 12, .inl (fun k => iZ (M 8 k)))), (a 9, .inl (C.1, 2, .inl (fun k => iZ (M 9 k)))), (a 10, .inl (C.1, 12, .inl (fun k => iZ (M 10 k)))), (a 11, .inl (C.1, 4, .inl (fun k => iZ (M 11 k)))), (a 19, .inl (C.1, 29, .inl (fun k => iZ (M 19 k)))), (a 20, .inl (C.1, 3, .inl (fun k => iZ (M 20 k)))), (a 21, .inl (C.1, 870, .inl (fun k => iZ (M 21 k)))), (a 22, .inl (C.1, 58, .inl (fun k => iZ (M 22 k)))), (a 23, .inl (C.2.2, 2, .inl (fun k => iZ (M 23 k)))), (a 24, .inl (C.1, 64, .inl (fun k => iZ (M 24 k)))), (a 25, .inl (C.1, 24, .inl (fun k => iZ (M 25 k)))), (a 26, .inl (C.1, 4, .inl (fun k => iZ (M 26 k)))), (a 27, .inl (C.1, 4, .inl (fun k => iZ (M 27 k))))]
def mT (C : mC) : List (ClassId × FieldType) := [(C.1, .int), (C.2.1, .byte), (C.2.2, .boolean)]
def mU (M : Nat → Nat → Int) (f i : Nat) (v : Int) : Nat → Nat → Int := fun g j => if g = f ∧ j = i then v else M g j
theorem mU_eq (M : Nat → Nat → Int) (f i : Nat) (v : Int) : mU M f i v f i = v := by simp [mU]
theorem mU_nf (M : Nat → Nat → Int) {f g : Nat} (i j : Nat) (v : Int) (h : g ≠ f) : mU M f i v g j = M g j := by simp [mU, h]
theorem mU_ni (M : Nat → Nat → Int) (f g : Nat) {i j : Nat} (v : Int) (h : j ≠ i) : mU M f i v g j = M g j := by simp [mU, h]
def mA (h : Nat) (a : Nat → Nat) : Nat → Prop := fun q => q = h ∨ ∃ k : Nat, q = a k
def mOk (D : va_G) (C : mC) (h : Nat) (a : Nat → Nat) (M : Nat → Nat → Int) (U : State) : Prop := va_P D vwCl (mW C h a M) U.heap ∧ va_K D vwCl (mT C) U
theorem mOk_blind {D : va_G} {C : mC} {h : Nat} {a : Nat → Nat} {M : Nat → Nat → Int} {av : List Value} : FrameBlind (va_Pc av (mOk D C h a M)) := fun b U g mk q => by
  obtain ⟨q0, qP, qK⟩ := q
  exact ⟨q0, qP, va_K.moved (u := U) (U := U.calling g mk b) (Vm.Alike.refl U.vm) qK⟩
theorem va_D_cong {A : Nat → Prop} {w w2 : va_W} (he : w.map Prod.fst = w2.map Prod.fst) (h : va_D A w) : va_D A w2 := by
  have at2 : ∀ (k : Nat) (q : Nat × va_E), w2[k]? = some q → ∃ q1, w[k]? = some q1 ∧ q1.1 = q.1 := by
    intro k q hq
    have h1 : (w2.map Prod.fst)[k]? = some q.1 := by rw [List.getElem?_map, hq]; rfl
    rw [← he, List.getElem?_map] at h1
    cases hw : w[k]? with
    | none => rw [hw] at h1; cases h1
    | some q1 => rw [hw] at h1; exact ⟨q1, rfl, Option.some.inj h1⟩
  refine ⟨fun i j x y hx hy hxy => ?_, fun k q hq => ?_⟩
  · obtain ⟨x1, h1, e1⟩ := at2 i x hx
    obtain ⟨y1, h2, e2⟩ := at2 j y hy
    exact h.1 i j x1 y1 h1 h2 (by rw [e1, e2, hxy])
  · obtain ⟨q1, h1, e1⟩ := at2 k q hq
    rw [← e1]
    exact h.2 k q1 h1
theorem mD_re {A : Nat → Prop} {C C2 : mC} {h : Nat} {a : Nat → Nat} {M M2 : Nat → Nat → Int} (hD : va_D A (mW C h a M)) : va_D A (mW C2 h a M2) := va_D_cong (w := mW C h a M) (w2 := mW C2 h a M2) rfl hD
theorem mA_mem {C : mC} {h : Nat} {a : Nat → Nat} {M : Nat → Nat → Int} (k : Nat) (q : Nat × va_E) (hq : (mW C h a M)[k]? = some q) : mA h a q.1 := by
  have hm := List.mem_of_getElem? hq
  simp only [mW, List.mem_cons, List.not_mem_nil, or_false] at hm
  rcases hm with rfl | rfl | rfl | rfl | rfl | rfl | rfl | rfl | rfl | rfl | rfl | rfl | rfl | rfl | rfl | rfl | rfl | rfl | rfl | rfl | rfl <;> first | exact Or.inl rfl | exact Or.inr ⟨_, rfl⟩
theorem mD_own {A : Nat → Prop} {C : mC} {h : Nat} {a : Nat → Nat} {M : Nat → Nat → Int} (hD : va_D A (mW C h a M)) : va_D (mA h a) (mW C h a M) := hD.weaken (fun k q hq _ => mA_mem k q hq)
theorem mG_0 (C : mC) (h : Nat) (a : Nat → Nat) (M : Nat → Nat → Int) : (mW C h a M)[1]? = some (a 0, .inl (C.2.1, 120, .inl (fun k => iZ (M 0 k)))) := rfl
theorem mS_0 (C : mC) (h : Nat) (a : Nat → Nat) (M : Nat → Nat → Int) (i : Nat) (v : Int) : (mW C h a M).set 1 (a 0, .inl (C.2.1, 120, .inl (upd (fun k => iZ (M 0 k)) i (iZ v)))) = mW C h a (mU M 0 i v) := by
  have e : upd (fun k => iZ (M 0 k)) i (iZ v) = fun k => iZ (mU M 0 i v 0 k) := by
    funext k
    by_cases hk : k = i <;> simp [upd, mU, hk]
  rw [e]
  simp [mW, mF, mU, List.set]
theorem mG_2 (C : mC) (h : Nat) (a : Nat → Nat) (M : Nat → Nat → Int) : (mW C h a M)[2]? = some (a 2, .inl (C.1, 2, .inl (fun k => iZ (M 2 k)))) := rfl
theorem mS_2 (C : mC) (h : Nat) (a : Nat → Nat) (M : Nat → Nat → Int) (i : Nat) (v : Int) : (mW C h a M).set 2 (a 2, .inl (C.1, 2, .inl (upd (fun k => iZ (M 2 k)) i (iZ v)))) = mW C h a (mU M 2 i v) := by
  have e : upd (fun k => iZ (M 2 k)) i (iZ v) = fun k => iZ (mU M 2 i v 2 k) := by
    funext k
    by_cases hk : k = i <;> simp [upd, mU, hk]
  rw [e]
  simp [mW, mF, mU, List.set]
theorem mG_3 (C : mC) (h : Nat) (a : Nat → Nat) (M : Nat → Nat → Int) : (mW C h a M)[3]? = some (a 3, .inl (C.1, 12, .inl (fun k => iZ (M 3 k)))) := rfl
theorem mS_3 (C : mC) (h : Nat) (a : Nat → Nat) (M : Nat → Nat → Int) (i : Nat) (v : Int) : (mW C h a M).set 3 (a 3, .inl (C.1, 12, .inl (upd (fun k => iZ (M 3 k)) i (iZ v)))) = mW C h a (mU M 3 i v) := by
  have e : upd (fun k => iZ (M 3 k)) i (iZ v) = fun k => iZ (mU M 3 i v 3 k) := by
    funext k
    by_cases hk : k = i <;> simp [upd, mU, hk]
  rw [e]
  simp [mW, mF, mU, List.set]
theorem mG_4 (C : mC) (h : Nat) (a : Nat → Nat) (M : Nat → Nat → Int) : (mW C h a M)[4]? = some (a 4, .inl (C.1, 12, .inl (fun k => iZ (M 4 k)))) := rfl
theorem mS_4 (C : mC) (h : Nat) (a : Nat → Nat) (M : Nat → Nat → Int) (i : Nat) (v : Int) : (mW C h a M).set 4 (a 4, .inl (C.1, 12, .inl (upd (fun k => iZ (M 4 k)) i (iZ v)))) = mW C h a (mU M 4 i v) := by
  have e : upd (fun k => iZ (M 4 k)) i (iZ v) = fun k => iZ (mU M 4 i v 4 k) := by
    funext k
    by_cases hk : k = i <;> simp [upd, mU, hk]
  rw [e]
  simp [mW, mF, mU, List.set]
theorem mG_5 (C : mC) (h : Nat) (a : Nat → Nat) (M : Nat → Nat → Int) : (mW C h a M)[5]? = some (a 5, .inl (C.1, 2, .inl (fun k => iZ (M 5 k)))) := rfl
theorem mS_5 (C : mC) (h : Nat) (a : Nat → Nat) (M : Nat → Nat → Int) (i : Nat) (v : Int) : (mW C h a M).set 5 (a 5, .inl (C.1, 2, .inl (upd (fun k => iZ (M 5 k)) i (iZ v)))) = mW C h a (mU M 5 i v) := by
  have e : upd (fun k => iZ (M 5 k)) i (iZ v) = fun k => iZ (mU M 5 i v 5 k) := by
    funext k
    by_cases hk : k = i <;> simp [upd, mU, hk]
  rw [e]
  simp [mW, mF, mU, List.set]
theorem mG_6 (C : mC) (h : Nat) (a : Nat → Nat) (M : Nat → Nat → Int) : (mW C h a M)[6]? = some (a 6, .inl (C.1, 12, .inl (fun k => iZ (M 6 k)))) := rfl
theorem mS_6 (C : mC) (h : Nat) (a : Nat → Nat) (M : Nat → Nat → Int) (i : Nat) (v : Int) : (mW C h a M).set 6 (a 6, .inl (C.1, 12, .inl (upd (fun k => iZ (M 6 k)) i (iZ v)))) = mW C h a (mU M 6 i v) := by
  have e : upd (fun k => iZ (M 6 k)) i (iZ v) = fun k => iZ (mU M 6 i v 6 k) := by
    funext k
    by_cases hk : k = i <;> simp [upd, mU, hk]
  rw [e]
  simp [mW, mF, mU, List.set]
theorem mG_7 (C : mC) (h : Nat) (a : Nat → Nat) (M : Nat → Nat → Int) : (mW C h a M)[7]? = some (a 7, .inl (C.1, 12, .inl (fun k => iZ (M 7 k)))) := rfl
theorem mS_7 (C : mC) (h : Nat) (a : Nat → Nat) (M : Nat → Nat → Int) (i : Nat) (v : Int) : (mW C h a M).set 7 (a 7, .inl (C.1, 12, .inl (upd (fun k => iZ (M 7 k)) i (iZ v)))) = mW C h a (mU M 7 i v) := by
  have e : upd (fun k => iZ (M 7 k)) i (iZ v) = fun k => iZ (mU M 7 i v 7 k) := by
    funext k
    by_cases hk : k = i <;> simp [upd, mU, hk]
  rw [e]
  simp [mW, mF, mU, List.set]
theorem mG_8 (C : mC) (h : Nat) (a : Nat → Nat) (M : Nat → Nat → Int) : (mW C h a M)[8]? = some (a 8, .inl (C.1, 12, .inl (fun k => iZ (M 8 k)))) := rfl
theorem mS_8 (C : mC) (h : Nat) (a : Nat → Nat) (M : Nat → Nat → Int) (i : Nat) (v : Int) : (mW C h a M).set 8 (a 8, .inl (C.1, 12, .inl (upd (fun k => iZ (M 8 k)) i (iZ v)))) = mW C h a (mU M 8 i v) := by
  have e : upd (fun k => iZ (M 8 k)) i (iZ v) = fun k => iZ (mU M 8 i v 8 k) := by
    funext k
    by_cases hk : k = i <;> simp [upd, mU, hk]
  rw [e]
  simp [mW, mF, mU, List.set]
theorem mG_9 (C : mC) (h : Nat) (a : Nat → Nat) (M : Nat → Nat → Int) : (mW C h a M)[9]? = some (a 9, .inl (C.1, 2, .inl (fun k => iZ (M 9 k)))) := rfl
theorem mS_9 (C : mC) (h : Nat) (a : Nat → Nat) (M : Nat → Nat → Int) (i : Nat) (v : Int) : (mW C h a M).set 9 (a 9, .inl (C.1, 2, .inl (upd (fun k => iZ (M 9 k)) i (iZ v)))) = mW C h a (mU M 9 i v) := by
  have e : upd (fun k => iZ (M 9 k)) i (iZ v) = fun k => iZ (mU M 9 i v 9 k) := by
    funext k
    by_cases hk : k = i <;> simp [upd, mU, hk]
  rw [e]
  simp [mW, mF, mU, List.set]
theorem mG_10 (C : mC) (h : Nat) (a : Nat → Nat) (M : Nat → Nat → Int) : (mW C h a M)[10]? = some (a 10, .inl (C.1, 12, .inl (fun k => iZ (M 10 k)))) := rfl
theorem mS_10 (C : mC) (h : Nat) (a : Nat → Nat) (M : Nat → Nat → Int) (i : Nat) (v : Int) : (mW C h a M).set 10 (a 10, .inl (C.1, 12, .inl (upd (fun k => iZ (M 10 k)) i (iZ v)))) = mW C h a (mU M 10 i v) := by
  have e : upd (fun k => iZ (M 10 k)) i (iZ v) = fun k => iZ (mU M 10 i v 10 k) := by
    funext k
    by_cases hk : k = i <;> simp [upd, mU, hk]
  rw [e]
  simp [mW, mF, mU, List.set]
theorem mG_11 (C : mC) (h : Nat) (a : Nat → Nat) (M : Nat → Nat → Int) : (mW C h a M)[11]? = some (a 11, .inl (C.1, 4, .inl (fun k => iZ (M 11 k)))) := rfl
theorem mS_11 (C : mC) (h : Nat) (a : Nat → Nat) (M : Nat → Nat → Int) (i : Nat) (v : Int) : (mW C h a M).set 11 (a 11, .inl (C.1, 4, .inl (upd (fun k => iZ (M 11 k)) i (iZ v)))) = mW C h a (mU M 11 i v) := by
  have e : upd (fun k => iZ (M 11 k)) i (iZ v) = fun k => iZ (mU M 11 i v 11 k) := by
    funext k
    by_cases hk : k = i <;> simp [upd, mU, hk]
  rw [e]
  simp [mW, mF, mU, List.set]
theorem mG_19 (C : mC) (h : Nat) (a : Nat → Nat) (M : Nat → Nat → Int) : (mW C h a M)[12]? = some (a 19, .inl (C.1, 29, .inl (fun k => iZ (M 19 k)))) := rfl
theorem mS_19 (C : mC) (h : Nat) (a : Nat → Nat) (M : Nat → Nat → Int) (i : Nat) (v : Int) : (mW C h a M).set 12 (a 19, .inl (C.1, 29, .inl (upd (fun k => iZ (M 19 k)) i (iZ v)))) = mW C h a (mU M 19 i v) := by
  have e : upd (fun k => iZ (M 19 k)) i (iZ v) = fun k => iZ (mU M 19 i v 19 k) := by
    funext k
    by_cases hk : k = i <;> simp [upd, mU, hk]
  rw [e]
  simp [mW, mF, mU, List.set]
theorem mG_20 (C : mC) (h : Nat) (a : Nat → Nat) (M : Nat → Nat → Int) : (mW C h a M)[13]? = some (a 20, .inl (C.1, 3, .inl (fun k => iZ (M 20 k)))) := rfl
theorem mS_20 (C : mC) (h : Nat) (a : Nat → Nat) (M : Nat → Nat → Int) (i : Nat) (v : Int) : (mW C h a M).set 13 (a 20, .inl (C.1, 3, .inl (upd (fun k => iZ (M 20 k)) i (iZ v)))) = mW C h a (mU M 20 i v) := by
  have e : upd (fun k => iZ (M 20 k)) i (iZ v) = fun k => iZ (mU M 20 i v 20 k) := by
    funext k
    by_cases hk : k = i <;> simp [upd, mU, hk]
  rw [e]
  simp [mW, mF, mU, List.set]
theorem mG_21 (C : mC) (h : Nat) (a : Nat → Nat) (M : Nat → Nat → Int) : (mW C h a M)[14]? = some (a 21, .inl (C.1, 870, .inl (fun k => iZ (M 21 k)))) := rfl
theorem mS_21 (C : mC) (h : Nat) (a : Nat → Nat) (M : Nat → Nat → Int) (i : Nat) (v : Int) : (mW C h a M).set 14 (a 21, .inl (C.1, 870, .inl (upd (fun k => iZ (M 21 k)) i (iZ v)))) = mW C h a (mU M 21 i v) := by
  have e : upd (fun k => iZ (M 21 k)) i (iZ v) = fun k => iZ (mU M 21 i v 21 k) := by
    funext k
    by_cases hk : k = i <;> simp [upd, mU, hk]
  rw [e]
  simp [mW, mF, mU, List.set]
theorem mG_22 (C : mC) (h : Nat) (a : Nat → Nat) (M : Nat → Nat → Int) : (mW C h a M)[15]? = some (a 22, .inl (C.1, 58, .inl (fun k => iZ (M 22 k)))) := rfl
theorem mS_22 (C : mC) (h : Nat) (a : Nat → Nat) (M : Nat → Nat → Int) (i : Nat) (v : Int) : (mW C h a M).set 15 (a 22, .inl (C.1, 58, .inl (upd (fun k => iZ (M 22 k)) i (iZ v)))) = mW C h a (mU M 22 i v) := by
  have e : upd (fun k => iZ (M 22 k)) i (iZ v) = fun k => iZ (mU M 22 i v 22 k) := by
    funext k
    by_cases hk : k = i <;> simp [upd, mU, hk]
  rw [e]
  simp [mW, mF, mU, List.set]
theorem mG_23 (C : mC) (h : Nat) (a : Nat → Nat) (M : Nat → Nat → Int) : (mW C h a M)[16]? = some (a 23, .inl (C.2.2, 2, .inl (fun k => iZ (M 23 k)))) := rfl
theorem mS_23 (C : mC) (h : Nat) (a : Nat → Nat) (M : Nat → Nat → Int) (i : Nat) (v : Int) : (mW C h a M).set 16 (a 23, .inl (C.2.2, 2, .inl (upd (fun k => iZ (M 23 k)) i (iZ v)))) = mW C h a (mU M 23 i v) := by
  have e : upd (fun k => iZ (M 23 k)) i (iZ v) = fun k => iZ (mU M 23 i v 23 k) := by
    funext k
    by_cases hk : k = i <;> simp [upd, mU, hk]
  rw [e]
  simp [mW, mF, mU, List.set]
theorem mG_24 (C : mC) (h : Nat) (a : Nat → Nat) (M : Nat → Nat → Int) : (mW C h a M)[17]? = some (a 24, .inl (C.1, 64, .inl (fun k => iZ (M 24 k)))) := rfl
theorem mS_24 (C : mC) (h : Nat) (a : Nat → Nat) (M : Nat → Nat → Int) (i : Nat) (v : Int) : (mW C h a M).set 17 (a 24, .inl (C.1, 64, .inl (upd (fun k => iZ (M 24 k)) i (iZ v)))) = mW C h a (mU M 24 i v) := by
  have e : upd (fun k => iZ (M 24 k)) i (iZ v) = fun k => iZ (mU M 24 i v 24 k) := by
    funext k
    by_cases hk : k = i <;> simp [upd, mU, hk]
  rw [e]
  simp [mW, mF, mU, List.set]
theorem mG_25 (C : mC) (h : Nat) (a : Nat → Nat) (M : Nat → Nat → Int) : (mW C h a M)[18]? = some (a 25, .inl (C.1, 24, .inl (fun k => iZ (M 25 k)))) := rfl
theorem mS_25 (C : mC) (h : Nat) (a : Nat → Nat) (M : Nat → Nat → Int) (i : Nat) (v : Int) : (mW C h a M).set 18 (a 25, .inl (C.1, 24, .inl (upd (fun k => iZ (M 25 k)) i (iZ v)))) = mW C h a (mU M 25 i v) := by
  have e : upd (fun k => iZ (M 25 k)) i (iZ v) = fun k => iZ (mU M 25 i v 25 k) := by
    funext k
    by_cases hk : k = i <;> simp [upd, mU, hk]
  rw [e]
  simp [mW, mF, mU, List.set]
theorem mG_26 (C : mC) (h : Nat) (a : Nat → Nat) (M : Nat → Nat → Int) : (mW C h a M)[19]? = some (a 26, .inl (C.1, 4, .inl (fun k => iZ (M 26 k)))) := rfl
theorem mS_26 (C : mC) (h : Nat) (a : Nat → Nat) (M : Nat → Nat → Int) (i : Nat) (v : Int) : (mW C h a M).set 19 (a 26, .inl (C.1, 4, .inl (upd (fun k => iZ (M 26 k)) i (iZ v)))) = mW C h a (mU M 26 i v) := by
  have e : upd (fun k => iZ (M 26 k)) i (iZ v) = fun k => iZ (mU M 26 i v 26 k) := by
    funext k
    by_cases hk : k = i <;> simp [upd, mU, hk]
  rw [e]
  simp [mW, mF, mU, List.set]
theorem mG_27 (C : mC) (h : Nat) (a : Nat → Nat) (M : Nat → Nat → Int) : (mW C h a M)[20]? = some (a 27, .inl (C.1, 4, .inl (fun k => iZ (M 27 k)))) := rfl
theorem mS_27 (C : mC) (h : Nat) (a : Nat → Nat) (M : Nat → Nat → Int) (i : Nat) (v : Int) : (mW C h a M).set 20 (a 27, .inl (C.1, 4, .inl (upd (fun k => iZ (M 27 k)) i (iZ v)))) = mW C h a (mU M 27 i v) := by
  have e : upd (fun k => iZ (M 27 k)) i (iZ v) = fun k => iZ (mU M 27 i v 27 k) := by
    funext k
    by_cases hk : k = i <;> simp [upd, mU, hk]
  rw [e]
  simp [mW, mF, mU, List.set]
theorem mS_1 (C : mC) (h : Nat) (a : Nat → Nat) (M : Nat → Nat → Int) (v : Int) : (mW C h a M).set 0 (h, .inr (8, (mF a M).set 1 (.int (iZ v)))) = mW C h a (mU M 1 0 v) := by
  simp [mW, mF, mU, List.set]
theorem mS_12 (C : mC) (h : Nat) (a : Nat → Nat) (M : Nat → Nat → Int) (v : Int) : (mW C h a M).set 0 (h, .inr (8, (mF a M).set 12 (.int (iZ v)))) = mW C h a (mU M 12 0 v) := by
  simp [mW, mF, mU, List.set]
theorem mS_13 (C : mC) (h : Nat) (a : Nat → Nat) (M : Nat → Nat → Int) (v : Int) : (mW C h a M).set 0 (h, .inr (8, (mF a M).set 13 (.int (iZ v)))) = mW C h a (mU M 13 0 v) := by
  simp [mW, mF, mU, List.set]
theorem mS_14 (C : mC) (h : Nat) (a : Nat → Nat) (M : Nat → Nat → Int) (v : Int) : (mW C h a M).set 0 (h, .inr (8, (mF a M).set 14 (.int (iZ v)))) = mW C h a (mU M 14 0 v) := by
  simp [mW, mF, mU, List.set]
theorem mS_15 (C : mC) (h : Nat) (a : Nat → Nat) (M : Nat → Nat → Int) (v : Int) : (mW C h a M).set 0 (h, .inr (8, (mF a M).set 15 (.int (iZ v)))) = mW C h a (mU M 15 0 v) := by
  simp [mW, mF, mU, List.set]
theorem mS_16 (C : mC) (h : Nat) (a : Nat → Nat) (M : Nat → Nat → Int) (v : Int) : (mW C h a M).set 0 (h, .inr (8, (mF a M).set 16 (.int (iZ v)))) = mW C h a (mU M 16 0 v) := by
  simp [mW, mF, mU, List.set]
theorem mS_17 (C : mC) (h : Nat) (a : Nat → Nat) (M : Nat → Nat → Int) (v : Int) : (mW C h a M).set 0 (h, .inr (8, (mF a M).set 17 (.int (iZ v)))) = mW C h a (mU M 17 0 v) := by
  simp [mW, mF, mU, List.set]
theorem mS_18 (C : mC) (h : Nat) (a : Nat → Nat) (M : Nat → Nat → Int) (v : Int) : (mW C h a M).set 0 (h, .inr (8, (mF a M).set 18 (.int (iZ v)))) = mW C h a (mU M 18 0 v) := by
  simp [mW, mF, mU, List.set]
theorem mS_28 (C : mC) (h : Nat) (a : Nat → Nat) (M : Nat → Nat → Int) (v : Int) : (mW C h a M).set 0 (h, .inr (8, (mF a M).set 28 (.int (iZ v)))) = mW C h a (mU M 28 0 v) := by
  simp [mW, mF, mU, List.set]
theorem mS_29 (C : mC) (h : Nat) (a : Nat → Nat) (M : Nat → Nat → Int) (v : Int) : (mW C h a M).set 0 (h, .inr (8, (mF a M).set 29 (.long (iL v)))) = mW C h a (mU M 29 0 v) := by
  simp [mW, mF, mU, List.set]
section MROWS
variable {p : Program} {l : Launch} {e : Env} {R : Room} {s : State} {m : MethodId} {args : Array Value} {below : List Frame} {meth : Method} {c : Code} {H : Heap} {locs : List Loc} {cells slots : Nat} {Q : State → Prop}
variable {cc : ByteArray} {pc : Nat} {ls : Array Slot} {rest : List Value} {D : va_G} {C : mC} {h : Nat} {a : Nat → Nat} {M : Nat → Nat → Int} {A : Nat → Prop} {H0 : Heap}
theorem mq_get (hexec : p.tables.exec = Jvm.exec) (hb : c.code = cc) {Ts : List Cond} (hts : ∀ w ∈ Ts, w.before args s = true) (hin : ∀ w ∈ wsX80, w ∈ Ts) (hown : s.vm.findClass RX8 = some m.cls) (hK : va_K D vwCl (mT C) s) (hP : va_P D vwCl (mW C h a M) H) (k : Nat) (hk : k < 30) {index : Nat} (hlink : (Cond.fieldLink RX8 index (TX8 k).1 (TX8 k).2.1 (TX8 k).2.2.1).before args s = true) {v : Value} (hv : (mF a M)[k]? = some v) (hdg : decode cc pc = .ok (.getfield index, 3)) (kk : W p l e R s m args below meth c H locs cells slots Q (F0 m (pc + 3) ls (v :: rest))) : W p l e R s m args below meth c H locs cells slots Q (F0 m pc ls (.ref h :: rest)) :=
  va_get (D := D) (ci := 8) (C := RX8) (T := TX8) (N := 30) hexec hb hts hin hown hK hP 0 rfl rfl k hk hlink (fun _ h9 => h9) hv hdg kk
theorem mq_put (hexec : p.tables.exec = Jvm.exec) (hb : c.code = cc) {Ts : List Cond} (hts : ∀ w ∈ Ts, w.before args s = true) (hin : ∀ w ∈ wsX80, w ∈ Ts) (hown : s.vm.findClass RX8 = some m.cls) (hK : va_K D vwCl (mT C) s) (hP : va_P D vwCl (mW C h a M) H) (hD : va_D A (mW C h a M)) (hS : va_S A H0 H locs) (k : Nat) (hk : k < 30) {index : Nat} (hlink : (Cond.fieldLink RX8 index (TX8 k).1 (TX8 k).2.1 (TX8 k).2.2.1).before args s = true) (hfin : (TX8 k).2.2.2 = false) {ty : FieldType} {v : Int} (hd : parseFieldDescriptor (TX8 k).2.2.1 = some ty) (hn : narrow ty (.int (iZ v)) = .int (iZ v)) (hfit : fits ty (.int (iZ v)) = true) (hs : (mW C h a M).set 0 (h, .inr (8, (mF a M).set k (.int (iZ v)))) = mW C h a (mU M k 0 v)) (hdg : decode cc pc = .ok (.putfield index, 3)) (kk : ∀ (H1 : Heap) (locs1 : List Loc), va_P D vwCl (mW C h a (mU M k 0 v)) H1 → va_D A (mW C h a (mU M k 0 v)) → va_S A H0 H1 locs1 → W p l e R s m args below meth c H1 locs1 cells slots Q (F0 m (pc + 3) ls rest)) : W p l e R s m args below meth c H locs cells slots Q (F0 m pc ls (.int (iZ v) :: .ref h :: rest)) :=
  va_put (D := D) (ci := 8) (C := RX8) (T := TX8) (N := 30) hexec hb hts hin tyX8 tyX8_ok nmX8 hown hK hP hD hS 0 rfl rfl k hk hlink (fun _ h9 => h9) hfin hd hn hfit hk hdg (fun H1 locs1 hP1 hD1 hS1 => kk H1 locs1 (hs ▸ hP1) (hs ▸ hD1) hS1)
theorem mq_putL (hexec : p.tables.exec = Jvm.exec) (hb : c.code = cc) {Ts : List Cond} (hts : ∀ w ∈ Ts, w.before args s = true) (hin : ∀ w ∈ wsX80, w ∈ Ts) (hown : s.vm.findClass RX8 = some m.cls) (hK : va_K D vwCl (mT C) s) (hP : va_P D vwCl (mW C h a M) H) (hD : va_D A (mW C h a M)) (hS : va_S A H0 H locs) {index : Nat} (hlink : (Cond.fieldLink RX8 index (TX8 29).1 (TX8 29).2.1 (TX8 29).2.2.1).before args s = true) {v : Int} (hdg : decode cc pc = .ok (.putfield index, 3)) (kk : ∀ (H1 : Heap) (locs1 : List Loc), va_P D vwCl (mW C h a (mU M 29 0 v)) H1 → va_D A (mW C h a (mU M 29 0 v)) → va_S A H0 H1 locs1 → W p l e R s m args below meth c H1 locs1 cells slots Q (F0 m (pc + 3) ls rest)) : W p l e R s m args below meth c H locs cells slots Q (F0 m pc ls (.long (iL v) :: .ref h :: rest)) :=
  va_put (D := D) (ci := 8) (C := RX8) (T := TX8) (N := 30) (ty := .long) hexec hb hts hin tyX8 tyX8_ok nmX8 hown hK hP hD hS 0 rfl rfl 29 (by decide) hlink (fun _ h9 => h9) rfl (by decide +kernel) rfl rfl (Nat.le_of_ble_eq_true rfl) hdg (fun H1 locs1 hP1 hD1 hS1 => kk H1 locs1 ((mS_29 C h a M v) ▸ hP1) ((mS_29 C h a M v) ▸ hD1) hS1)
theorem mq_iald (hexec : p.tables.exec = Jvm.exec) (hb : c.code = cc) (hK : va_K D vwCl (mT C) s) (hP : va_P D vwCl (mW C h a M) H) (f q0 : Nat) {n : Nat} (ha : (mW C h a M)[q0]? = some (a f, .inl (C.1, n, .inl (fun k => iZ (M f k))))) (hn : n < 2147483648) {i : Int} (k : Nat) (hk : i.toNat = k) (hi : 0 ≤ i ∧ i < (n : Int)) (hdg : decode cc pc = .ok (.iaload, 1)) (kk : W p l e R s m args below meth c H locs cells slots Q (F0 m (pc + 1) ls (.int (iZ (M f k)) :: rest))) : W p l e R s m args below meth c H locs cells slots Q (F0 m pc ls (.int (iZ i) :: .ref (a f) :: rest)) := by
  refine va_iald hexec hb hK hP q0 0 ha rfl (iZ_in hi hn) hdg ?_
  rw [iZ_cl ⟨hi.1, by omega⟩, hk]
  exact kk
theorem mq_bald (hexec : p.tables.exec = Jvm.exec) (hb : c.code = cc) (hK : va_K D vwCl (mT C) s) (hP : va_P D vwCl (mW C h a M) H) (f q0 : Nat) {n : Nat} (ha : (mW C h a M)[q0]? = some (a f, .inl (C.2.1, n, .inl (fun k => iZ (M f k))))) (hn : n < 2147483648) {i : Int} (k : Nat) (hk : i.toNat = k) (hi : 0 ≤ i ∧ i < (n : Int)) (hdg : decode cc pc = .ok (.baload, 1)) (kk : W p l e R s m args below meth c H locs cells slots Q (F0 m (pc + 1) ls (.int (iZ (M f k)) :: rest))) : W p l e R s m args below meth c H locs cells slots Q (F0 m pc ls (.int (iZ i) :: .ref (a f) :: rest)) := by
  refine va_bald hexec hb hK hP q0 1 ha rfl (iZ_in hi hn) hdg ?_
  rw [iZ_cl ⟨hi.1, by omega⟩, hk]
  exact kk
theorem mq_zald (hexec : p.tables.exec = Jvm.exec) (hb : c.code = cc) (hK : va_K D vwCl (mT C) s) (hP : va_P D vwCl (mW C h a M) H) (f q0 : Nat) {n : Nat} (ha : (mW C h a M)[q0]? = some (a f, .inl (C.2.2, n, .inl (fun k => iZ (M f k))))) (hn : n < 2147483648) {i : Int} (k : Nat) (hk : i.toNat = k) (hi : 0 ≤ i ∧ i < (n : Int)) (hdg : decode cc pc = .ok (.baload, 1)) (kk : W p l e R s m args below meth c H locs cells slots Q (F0 m (pc + 1) ls (.int (iZ (M f k)) :: rest))) : W p l e R s m args below meth c H locs cells slots Q (F0 m pc ls (.int (iZ i) :: .ref (a f) :: rest)) := by
  refine va_zald hexec hb hK hP q0 2 ha rfl (iZ_in hi hn) hdg ?_
  rw [iZ_cl ⟨hi.1, by omega⟩, hk]
  exact kk
theorem mq_iast (hexec : p.tables.exec = Jvm.exec) (hb : c.code = cc) (hK : va_K D vwCl (mT C) s) (hP : va_P D vwCl (mW C h a M) H) (hD : va_D A (mW C h a M)) (hS : va_S A H0 H locs) (f q0 : Nat) {n : Nat} (ha : (mW C h a M)[q0]? = some (a f, .inl (C.1, n, .inl (fun k => iZ (M f k))))) {i v : Int} (hs : ∀ k : Nat, (mW C h a M).set q0 (a f, .inl (C.1, n, .inl (upd (fun k => iZ (M f k)) k (iZ v)))) = mW C h a (mU M f k v)) (hn : n < 2147483648) (k : Nat) (hk : i.toNat = k) (hi : 0 ≤ i ∧ i < (n : Int)) (hdg : decode cc pc = .ok (.iastore, 1)) (kk : ∀ (H1 : Heap) (locs1 : List Loc), va_P D vwCl (mW C h a (mU M f k v)) H1 → va_D A (mW C h a (mU M f k v)) → va_S A H0 H1 locs1 → W p l e R s m args below meth c H1 locs1 cells slots Q (F0 m (pc + 1) ls rest)) : W p l e R s m args below meth c H locs cells slots Q (F0 m pc ls (.int (iZ v) :: .int (iZ i) :: .ref (a f) :: rest)) := by
  refine va_iast hexec hb hK hP hD hS q0 0 ha rfl (iZ_in hi hn) hdg (fun H1 locs1 hP1 hD1 hS1 => ?_)
  rw [iZ_cl ⟨hi.1, by omega⟩, hk, hs k] at hP1 hD1
  exact kk H1 locs1 hP1 hD1 hS1
theorem mq_bast (hexec : p.tables.exec = Jvm.exec) (hb : c.code = cc) (hK : va_K D vwCl (mT C) s) (hP : va_P D vwCl (mW C h a M) H) (hD : va_D A (mW C h a M)) (hS : va_S A H0 H locs) (f q0 : Nat) {n : Nat} (ha : (mW C h a M)[q0]? = some (a f, .inl (C.2.1, n, .inl (fun k => iZ (M f k))))) {i v : Int} (hs : ∀ k : Nat, (mW C h a M).set q0 (a f, .inl (C.2.1, n, .inl (upd (fun k => iZ (M f k)) k (iZ v)))) = mW C h a (mU M f k v)) (hn : n < 2147483648) (k : Nat) (hk : i.toNat = k) (hi : 0 ≤ i ∧ i < (n : Int)) (hnar : vp_nar .byte (iZ v) = iZ v) (hdg : decode cc pc = .ok (.bastore, 1)) (kk : ∀ (H1 : Heap) (locs1 : List Loc), va_P D vwCl (mW C h a (mU M f k v)) H1 → va_D A (mW C h a (mU M f k v)) → va_S A H0 H1 locs1 → W p l e R s m args below meth c H1 locs1 cells slots Q (F0 m (pc + 1) ls rest)) : W p l e R s m args below meth c H locs cells slots Q (F0 m pc ls (.int (iZ v) :: .int (iZ i) :: .ref (a f) :: rest)) := by
  refine va_bast hexec hb hK hP hD hS q0 1 ha rfl (iZ_in hi hn) hdg (fun H1 locs1 hP1 hD1 hS1 => ?_)
  rw [iZ_cl ⟨hi.1, by omega⟩, hk, hnar, hs k] at hP1 hD1
  exact kk H1 locs1 hP1 hD1 hS1
theorem mq_zast (hexec : p.tables.exec = Jvm.exec) (hb : c.code = cc) (hK : va_K D vwCl (mT C) s) (hP : va_P D vwCl (mW C h a M) H) (hD : va_D A (mW C h a M)) (hS : va_S A H0 H locs) (f q0 : Nat) {n : Nat} (ha : (mW C h a M)[q0]? = some (a f, .inl (C.2.2, n, .inl (fun k => iZ (M f k))))) {i v : Int} (hs : ∀ k : Nat, (mW C h a M).set q0 (a f, .inl (C.2.2, n, .inl (upd (fun k => iZ (M f k)) k (iZ v)))) = mW C h a (mU M f k v)) (hn : n < 2147483648) (k : Nat) (hk : i.toNat = k) (hi : 0 ≤ i ∧ i < (n : Int)) (hnar : vp_nar .boolean (iZ v) = iZ v) (hdg : decode cc pc = .ok (.bastore, 1)) (kk : ∀ (H1 : Heap) (locs1 : List Loc), va_P D vwCl (mW C h a (mU M f k v)) H1 → va_D A (mW C h a (mU M f k v)) → va_S A H0 H1 locs1 → W p l e R s m args below meth c H1 locs1 cells slots Q (F0 m (pc + 1) ls rest)) : W p l e R s m args below meth c H locs cells slots Q (F0 m pc ls (.int (iZ v) :: .int (iZ i) :: .ref (a f) :: rest)) := by
  refine va_zast hexec hb hK hP hD hS q0 2 ha rfl (iZ_in hi hn) hdg (fun H1 locs1 hP1 hD1 hS1 => ?_)
  rw [iZ_cl ⟨hi.1, by omega⟩, hk, hnar, hs k] at hP1 hD1
  exact kk H1 locs1 hP1 hD1 hS1
theorem mq_ci {y : MethodName} {bytes : ByteArray} {maxL nL n index : Nat} {ret : Option FieldType} {ws Ts : List Cond} {rm : Room} {As st0 : List Value} {v : Int} (S : CallFix p m c cc nL s args Ts RX8) (hK : va_K D vwCl (mT C) s) (hP : va_P D vwCl (mW C h a M) H) (hM : Met l y ws rm (va_Pc (.ref h :: As) (mOk D C h a M)) (vp_Si (fun r => r = iZ v)) 0 0 (fun _ => False)) (cw : CallW R s args RX8 RX8 index y bytes maxL ret ws rm 0 0 n) (hst : st0 = As.reverse ++ .ref h :: rest) (hn : As.length = n) (hsize : ls.size = nL) (hW : (rest.map fun v => v.category).sum ≤ 8) (hf : cells ≤ R.cells ∧ slots ≤ R.slots) (hdg : decode cc pc = .ok (.invokevirtual index, 3)) (kk : W p l e R s m args below meth c H locs cells slots Q (F0 m (pc + 3) ls (.int (iZ v) :: rest))) : W p l e R s m args below meth c H locs cells slots Q (F0 m pc ls st0) :=
  vp_callSi (W.runV S hM cw ⟨mOk_blind, va_recv hK hP (ci := 8) (q0 := 0) rfl rfl, fun U hU hW => ⟨rfl, by rw [hU]; exact hP, va_K.moved hW.alike hK⟩⟩ rfl hn hsize hst (lv_room hW) hdg hf) (fun r hr => by rw [hr]; exact kk)
theorem mq_cs {y : MethodName} {bytes : ByteArray} {maxL nL n index : Nat} {ret : Option FieldType} {ws Ts : List Cond} {rm : Room} {As st0 : List Value} {v : Int} (S : CallFix p m c cc nL s args Ts RX8) (hM : Met l y ws rm (va_Pc As (fun _ => True)) (vp_Si (fun r => r = iZ v)) 0 0 (fun _ => False)) (cw : CallB R s args RX8 index y bytes maxL ret ws rm 0 0 n ∧ (Cond.static y).before args s = true) (hst : st0 = As.reverse ++ rest) (hn : As.length = n) (hsize : ls.size = nL) (hW : (rest.map fun v => v.category).sum ≤ 8) (hf : cells ≤ R.cells ∧ slots ≤ R.slots) (hdg : decode cc pc = .ok (.invokestatic index, 3)) (kk : W p l e R s m args below meth c H locs cells slots Q (F0 m (pc + 3) ls (.int (iZ v) :: rest))) : W p l e R s m args below meth c H locs cells slots Q (F0 m pc ls st0) :=
  vp_callSi (W.runS S hM cw ⟨fun b U g mk q => q, fun U hU hW => ⟨rfl, trivial⟩⟩ rfl hn hsize hst (lv_room hW) hdg hf) (fun r hr => by rw [hr]; exact kk)
theorem mq_cm {y : MethodName} {bytes : ByteArray} {maxL nL n index : Nat} {ret : Option FieldType} {ws Ts : List Cond} {rm : Room} {As st0 : List Value} {v : Int} {M2 : Nat → Nat → Int} (S : CallFix p m c cc nL s args Ts RX8) (hK : va_K D vwCl (mT C) s) (hP : va_P D vwCl (mW C h a M) H) (hD : va_D A (mW C h a M)) (hS : va_S A H0 H locs) (hA : ∀ q, mA h a q → A q) (hM : Met l y ws rm (va_Pc (.ref h :: As) (mOk D C h a M)) (va_Qi (fun r (_ : Unit) => r = iZ v) (fun _ t => mOk D C h a M2 t) (mA h a)) 0 0 (mA h a)) (cw : CallW R s args RX8 RX8 index y bytes maxL ret ws rm 0 0 n) (hst : st0 = As.reverse ++ .ref h :: rest) (hn : As.length = n) (hsize : ls.size = nL) (hW : (rest.map fun v => v.category).sum ≤ 8) (hf : cells ≤ R.cells ∧ slots ≤ R.slots) (hdg : decode cc pc = .ok (.invokevirtual index, 3)) (kk : ∀ (H1 : Heap) (locs1 : List Loc), va_P D vwCl (mW C h a (M2)) H1 → va_D A (mW C h a (M2)) → va_S A H0 H1 locs1 → W p l e R s m args below meth c H1 locs1 cells slots Q (F0 m (pc + 3) ls (.int (iZ v) :: rest))) : W p l e R s m args below meth c H locs cells slots Q (F0 m pc ls st0) :=
  va_calli (va_runV S hM cw ⟨mOk_blind, va_recv hK hP (ci := 8) (q0 := 0) rfl rfl, fun U hU hW => ⟨rfl, by rw [hU]; exact hP, va_K.moved hW.alike hK⟩⟩ rfl hn hsize hst (lv_room hW) hdg hf) hS (fun q _ h9 => hA q h9) hA (fun r u t H1 locs1 ht hvm hr hB hz hk hS1 => by
    rw [hr]
    exact kk H1 locs1 (ht ▸ hB.1) (mD_re hD) hS1)
theorem mq_cv {y : MethodName} {bytes : ByteArray} {maxL nL n index : Nat} {ret : Option FieldType} {ws Ts : List Cond} {rm : Room} {As st0 : List Value} {M2 : Nat → Nat → Int} (S : CallFix p m c cc nL s args Ts RX8) (hK : va_K D vwCl (mT C) s) (hP : va_P D vwCl (mW C h a M) H) (hD : va_D A (mW C h a M)) (hS : va_S A H0 H locs) (hA : ∀ q, mA h a q → A q) (hM : Met l y ws rm (va_Pc (.ref h :: As) (mOk D C h a M)) (va_Qv (fun (_ : Unit) => True) (fun _ t => mOk D C h a M2 t) (mA h a)) 0 0 (mA h a)) (cw : CallW R s args RX8 RX8 index y bytes maxL ret ws rm 0 0 n) (hst : st0 = As.reverse ++ .ref h :: rest) (hn : As.length = n) (hsize : ls.size = nL) (hW : (rest.map fun v => v.category).sum ≤ 8) (hf : cells ≤ R.cells ∧ slots ≤ R.slots) (hdg : decode cc pc = .ok (.invokevirtual index, 3)) (kk : ∀ (H1 : Heap) (locs1 : List Loc), va_P D vwCl (mW C h a (M2)) H1 → va_D A (mW C h a (M2)) → va_S A H0 H1 locs1 → W p l e R s m args below meth c H1 locs1 cells slots Q (F0 m (pc + 3) ls rest)) : W p l e R s m args below meth c H locs cells slots Q (F0 m pc ls st0) :=
  va_callv (va_runV S hM cw ⟨mOk_blind, va_recv hK hP (ci := 8) (q0 := 0) rfl rfl, fun U hU hW => ⟨rfl, by rw [hU]; exact hP, va_K.moved hW.alike hK⟩⟩ rfl hn hsize hst (lv_room hW) hdg hf) hS (fun q _ h9 => hA q h9) hA (fun u t H1 locs1 ht hvm hr hB hz hk hS1 => kk H1 locs1 (ht ▸ hB.1) (mD_re hD) hS1)
/-- ends -/
theorem mq_ret {v w : Int} {ret : FieldType} (hexec : p.tables.exec = Jvm.exec) (hb : c.code = cc) (hr : meth.sig.returnType = some ret) (hn : narrow ret (.int (iZ v)) = .int (iZ v)) (hv : v = w) (hdg : decode cc pc = .ok (.ireturn, 1)) (hlocks : meth.locks = false) (hH : H = s.heap) : W p l e R s m args below meth c H [] cells slots (MQ below (vp_Si (fun r => r = iZ w)) args s cells slots (fun _ => False)) (F0 m pc ls [.int (iZ v)]) :=
  W.zret hexec hb hr hn (fun t ht hW => ⟨_, rfl, by rw [hv], ht.trans hH⟩) (fun q hq => nomatch hq) hdg hlocks
theorem mq_retM {v w : Int} {M2 : Nat → Nat → Int} {ret : FieldType} (hexec : p.tables.exec = Jvm.exec) (hb : c.code = cc) (hK : va_K D vwCl (mT C) s) (hP : va_P D vwCl (mW C h a M) H) (hS : va_S (mA h a) s.heap H locs) (hr : meth.sig.returnType = some ret) (hn : narrow ret (.int (iZ v)) = .int (iZ v)) (hv : v = w) (hM2 : M = M2) (hdg : decode cc pc = .ok (.ireturn, 1)) (hlocks : meth.locks = false) : W p l e R s m args below meth c H locs cells slots (MQ below (va_Qi (fun r (_ : Unit) => r = iZ w) (fun _ t => mOk D C h a M2 t) (mA h a)) args s cells slots (mA h a)) (F0 m pc ls [.int (iZ v)]) :=
  W.zret hexec hb hr hn (fun t ht hW => ⟨⟨_, (), rfl, by rw [hv], by rw [ht, ← hM2]; exact hP, va_K.moved hW.alike hK⟩, hS.F ht⟩) hS.2.2 hdg hlocks
theorem mq_retV {M2 : Nat → Nat → Int} (hexec : p.tables.exec = Jvm.exec) (hb : c.code = cc) (hK : va_K D vwCl (mT C) s) (hP : va_P D vwCl (mW C h a M) H) (hS : va_S (mA h a) s.heap H locs) (hr : meth.sig.returnType = none) (hM2 : M = M2) (hdg : decode cc pc = .ok (.return_, 1)) (hlocks : meth.locks = false) : W p l e R s m args below meth c H locs cells slots (MQ below (va_Qv (fun (_ : Unit) => True) (fun _ t => mOk D C h a M2 t) (mA h a)) args s cells slots (mA h a)) (F0 m pc ls []) :=
  W.vret hexec hb hr (fun t ht hW => ⟨⟨(), rfl, trivial, by rw [ht, ← hM2]; exact hP, va_K.moved hW.alike hK⟩, hS.F ht⟩) hS.2.2 hdg hlocks
end MROWS
end
section
/-! What the reference answers, in numbers. -/
theorem zp_nn (k : Int) : 0 ≤ zp k := Int.natCast_nonneg _
theorem zp_pos (k : Int) : 0 < zp k := by
  unfold zp
  exact_mod_cast Nat.pos_of_ne_zero (by simp)
theorem z_mod {x y : Int} (hy : 0 < y) : 0 ≤ x % y ∧ x % y < y := ⟨Int.emod_nonneg _ (by omega), Int.emod_lt_of_pos _ hy⟩
def s_lift (f : Int) : Int := if f = 0 then 3 else if f = 1 then 6 else if f = 2 then 4 else 2
theorem s_lift_bd (f : Int) : 2 ≤ s_lift f ∧ s_lift f ≤ 6 := by unfold s_lift; omega
theorem s_lift_mul {n : Int} (f : Int) (h : 0 ≤ n ∧ n ≤ 3) : 0 ≤ n * s_lift f ∧ n * s_lift f ≤ 18 := by
  have q := s_lift_bd f
  rcases (show n = 0 ∨ n = 1 ∨ n = 2 ∨ n = 3 by omega) with rfl | rfl | rfl | rfl <;> omega
abbrev s_hear (pl ea sp : Int) : Prop := sp ≠ -9 ∧ pl - sp ≤ ea ∧ sp - pl ≤ ea
def s_fly (tw we dm fe nn : Int) : Int := if nn = 0 then tw else if nn * s_lift fe + tw - we - (if fe = 2 then 0 else dm) < 0 then 0 else nn * s_lift fe + tw - we - (if fe = 2 then 0 else dm)
def s_to (pl fl fe nn sd bw : Int) : Int := pl + (if (nn = 0 ∧ sd = 0) ∨ (nn ≠ 0 ∧ sd = 1) then fl else -fl) + (if 0 < fl ∧ (nn = 0 ∨ fe ≠ 3) then bw else 0)
def s_land (pl tw we dm fe nn sd bw : Int) : Int := if 0 ≤ s_to pl (s_fly tw we dm fe nn) fe nn sd bw ∧ s_to pl (s_fly tw we dm fe nn) fe nn sd bw ≤ 30 then s_to pl (s_fly tw we dm fe nn) fe nn sd bw else -9
theorem s_land_bd (pl tw we dm fe nn sd bw : Int) : -9 ≤ s_land pl tw we dm fe nn sd bw ∧ s_land pl tw we dm fe nn sd bw ≤ 30 := by unfold s_land; omega
/-- who of the first k hears what lands there, but one -/
def s_heN (pl ea : Nat → Int) (sp but : Int) : Nat → Int
  | 0 => 0
  | k + 1 => zor (s_heN pl ea sp but k) (if (k : Int) ≠ but ∧ s_hear (pl k) (ea k) sp then zp k else 0)
theorem s_heN_succ (pl ea : Nat → Int) (sp but : Int) {k : Int} (h : 0 ≤ k) : s_heN pl ea sp but (k + 1).toNat = zor (s_heN pl ea sp but k.toNat) (if k ≠ but ∧ s_hear (pl k.toNat) (ea k.toNat) sp then zp k else 0) := by
  obtain ⟨n, rfl⟩ := Int.eq_ofNat_of_zero_le h
  rfl
theorem zor_lt {a b : Int} {k : Nat} (ha : 0 ≤ a ∧ a < ((2 ^ k : Nat) : Int)) (hb : 0 ≤ b ∧ b < ((2 ^ k : Nat) : Int)) : 0 ≤ zor a b ∧ zor a b < ((2 ^ k : Nat) : Int) := by
  obtain ⟨n, rfl⟩ := Int.eq_ofNat_of_zero_le ha.1
  obtain ⟨j, rfl⟩ := Int.eq_ofNat_of_zero_le hb.1
  refine ⟨Int.natCast_nonneg _, ?_⟩
  have h1 : n < 2 ^ k := by exact_mod_cast ha.2
  have h2 : j < 2 ^ k := by exact_mod_cast hb.2
  have h3 : n ||| j < 2 ^ k := Nat.or_lt_two_pow h1 h2
  show (((n ||| j : Nat)) : Int) < _
  exact_mod_cast h3
theorem s_heN_bd (pl ea : Nat → Int) (sp but : Int) : ∀ (k N : Nat), k ≤ N → 0 ≤ s_heN pl ea sp but k ∧ s_heN pl ea sp but k < ((2 ^ N : Nat) : Int)
  | 0, N, _ => ⟨Int.le_refl _, by show (0 : Int) < _; exact_mod_cast Nat.pos_of_ne_zero (by simp)⟩
  | k + 1, N, h => by
    have h1 := s_heN_bd pl ea sp but k N (by omega)
    refine zor_lt h1 ?_
    have h2 : (2 : Nat) ^ k < 2 ^ N := Nat.pow_lt_pow_right (by omega) (by omega)
    have h3 : zp (k : Int) = ((2 ^ k : Nat) : Int) := rfl
    split
    · rw [h3]
      exact ⟨Int.natCast_nonneg _, by exact_mod_cast h2⟩
    · exact ⟨Int.le_refl _, by omega⟩
def s_hearers (M : Nat → Nat → Int) (sp but : Int) : Int := s_heN (M 3) (M 4) sp but (M 2 0).toNat
/-- how many bits -/
def s_bitsN (st : Int) : Nat → Int
  | 0 => 0
  | k + 1 => s_bitsN st k + st / zp k % 2
theorem s_bitsN_succ (st : Int) {k : Int} (h : 0 ≤ k) : s_bitsN st (k + 1).toNat = s_bitsN st k.toNat + st / zp k % 2 := by
  obtain ⟨n, rfl⟩ := Int.eq_ofNat_of_zero_le h
  rfl
theorem s_bitsN_bd (st : Int) : ∀ k : Nat, 0 ≤ s_bitsN st k ∧ s_bitsN st k ≤ k
  | 0 => ⟨Int.le_refl _, Int.le_refl _⟩
  | k + 1 => by
    have h1 := s_bitsN_bd st k
    have h2 : 0 ≤ st / zp k % 2 ∧ st / zp k % 2 < 2 := z_mod (by omega)
    show 0 ≤ s_bitsN st k + st / zp k % 2 ∧ s_bitsN st k + st / zp k % 2 ≤ _
    omega
def s_bits (st : Int) : Int := s_bitsN st 31
/-- which sayings one knows, of the first k -/
def s_knN (kn : Nat → Int) (pe : Int) : Nat → Int
  | 0 => 0
  | k + 1 => zor (s_knN kn pe k) (if kn (6 + k) / zp pe % 2 = 1 then zp k else 0)
theorem s_knN_succ (kn : Nat → Int) (pe : Int) {k : Int} (h : 0 ≤ k) : s_knN kn pe (k + 1).toNat = zor (s_knN kn pe k.toNat) (if kn (Int.toNat (6 + k)) / zp pe % 2 = 1 then zp k else 0) := by
  obtain ⟨n, rfl⟩ := Int.eq_ofNat_of_zero_le h
  rfl
theorem zor_nn (a b : Int) : 0 ≤ zor a b := Int.natCast_nonneg _
theorem s_knN_nn (kn : Nat → Int) (pe : Int) : ∀ k : Nat, 0 ≤ s_knN kn pe k
  | 0 => Int.le_refl _
  | k + 1 => zor_nn _ _
def s_wind (M : Nat → Nat → Int) (n : Int) : Int := M 10 (Int.toNat ((M 19 0 + n) % M 9 0))
/-- what a row of now may hold -/
def vI (P S : Int) (v : Nat → Int) : Prop := (0 ≤ v 0 ∧ v 0 ≤ 999) ∧ (0 ≤ v 1 ∧ v 1 ≤ 5) ∧ (∀ k : Nat, k < 4 → 0 ≤ v (2 + k) ∧ v (2 + k) ≤ 20) ∧ (∀ k : Nat, k < 6 → 0 ≤ v (6 + k) ∧ v (6 + k) < 64) ∧ (0 ≤ v 12 ∧ v 12 ≤ 8) ∧ (∀ k : Nat, (k : Int) < v 12 → (0 ≤ v (13 + k) ∧ v (13 + k) < S) ∧ (0 ≤ v (21 + k) ∧ v (21 + k) ≤ 30)) ∧ (∀ k : Nat, (k : Int) < S → 0 < v (6 + k))
/-- what holds between calls -/
def mI (M : Nat → Nat → Int) : Prop :=
  (0 ≤ M 1 0 ∧ M 1 0 ≤ 120) ∧ (∀ k : Nat, k < 120 → -128 ≤ M 0 k ∧ M 0 k < 128) ∧
  (0 ≤ M 2 0 ∧ M 2 0 ≤ 6) ∧ (0 ≤ M 5 0 ∧ M 5 0 ≤ 6) ∧ (1 ≤ M 9 0 ∧ M 9 0 ≤ 6) ∧
  (∀ k : Nat, (k : Int) < M 2 0 → (0 ≤ M 3 k ∧ M 3 k ≤ 30) ∧ (0 ≤ M 4 k ∧ M 4 k ≤ 5)) ∧
  (∀ k : Nat, (k : Int) < M 5 0 → (1 ≤ M 6 k ∧ M 6 k ≤ 9) ∧ (0 ≤ M 7 k ∧ M 7 k ≤ 3) ∧ (0 ≤ M 8 k ∧ M 8 k < M 2 0)) ∧
  (∀ k : Nat, (k : Int) < M 9 0 → -4 ≤ M 10 k ∧ M 10 k ≤ 4) ∧
  vI (M 2 0) (M 5 0) (M 19) ∧
  (0 ≤ M 20 0 ∧ M 20 0 ≤ 10) ∧ (∀ j : Nat, (j : Int) < M 20 0 → vI (M 2 0) (M 5 0) (fun k => M 21 (29 * j + k))) ∧
  (∀ i : Nat, i < 2 → (M 23 i = 0 ∨ M 23 i = 1) ∧ (M 23 i = 1 → vI (M 2 0) (M 5 0) (fun k => M 22 (29 * i + k)) ∧ (0 ≤ M 20 (1 + i) ∧ M 20 (1 + i) ≤ 10) ∧ (∀ j : Nat, (j : Int) < M 20 (1 + i) → vI (M 2 0) (M 5 0) (fun k => M 21 (290 * (1 + i) + 29 * j + k))))) ∧
  (0 ≤ M 28 0 ∧ M 28 0 ≤ 4) ∧ (∀ k : Nat, (k : Int) < M 28 0 → (0 ≤ M 26 k ∧ M 26 k < M 5 0) ∧ (0 ≤ M 27 k ∧ M 27 k ≤ 30))
theorem mI_now {M : Nat → Nat → Int} (hI : mI M) : (0 ≤ M 1 0 ∧ M 1 0 ≤ 120) ∧ (0 ≤ M 2 0 ∧ M 2 0 ≤ 6) ∧ (0 ≤ M 5 0 ∧ M 5 0 ≤ 6) ∧ (1 ≤ M 9 0 ∧ M 9 0 ≤ 6) ∧ (0 ≤ M 19 0 ∧ M 19 0 ≤ 999) ∧ (0 ≤ M 19 1 ∧ M 19 1 ≤ 5) ∧ (0 ≤ M 19 12 ∧ M 19 12 ≤ 8) ∧ (0 ≤ M 20 0 ∧ M 20 0 ≤ 10) ∧ (0 ≤ M 28 0 ∧ M 28 0 ≤ 4) := by
  obtain ⟨h1, h2, h3, h4, h5, h6, h7, h8, h9, h10, h11, h12, h13, h14⟩ := hI
  obtain ⟨v1, v2, v3, v4, v5, v6, v7⟩ := h9
  exact ⟨h1, h3, h4, h5, v1, v2, v5, h10, h13⟩
theorem mI_pe {M : Nat → Nat → Int} (hI : mI M) {k : Int} (h : 0 ≤ k ∧ k < M 2 0) : (0 ≤ M 3 (Int.toNat k) ∧ M 3 (Int.toNat k) ≤ 30) ∧ (0 ≤ M 4 (Int.toNat k) ∧ M 4 (Int.toNat k) ≤ 5) := by
  obtain ⟨n, rfl⟩ := Int.eq_ofNat_of_zero_le h.1
  exact hI.2.2.2.2.2.1 n h.2
theorem mI_sy {M : Nat → Nat → Int} (hI : mI M) {k : Int} (h : 0 ≤ k ∧ k < M 5 0) : (1 ≤ M 6 (Int.toNat k) ∧ M 6 (Int.toNat k) ≤ 9) ∧ (0 ≤ M 7 (Int.toNat k) ∧ M 7 (Int.toNat k) ≤ 3) ∧ (0 ≤ M 8 (Int.toNat k) ∧ M 8 (Int.toNat k) < M 2 0) := by
  obtain ⟨n, rfl⟩ := Int.eq_ofNat_of_zero_le h.1
  exact hI.2.2.2.2.2.2.1 n h.2
theorem mI_wd {M : Nat → Nat → Int} (hI : mI M) (n : Int) : -4 ≤ s_wind M n ∧ s_wind M n ≤ 4 := by
  have h5 := hI.2.2.2.2.1
  have q : 0 ≤ (M 19 0 + n) % M 9 0 ∧ (M 19 0 + n) % M 9 0 < M 9 0 := z_mod (by omega)
  unfold s_wind
  obtain ⟨j, hj⟩ := Int.eq_ofNat_of_zero_le q.1
  rw [hj]
  exact hI.2.2.2.2.2.2.2.1 j (by omega)
theorem mI_wk {M : Nat → Nat → Int} (hI : mI M) {k : Int} (h : 0 ≤ k ∧ k < M 9 0) : -4 ≤ M 10 (Int.toNat k) ∧ M 10 (Int.toNat k) ≤ 4 := by
  obtain ⟨n, rfl⟩ := Int.eq_ofNat_of_zero_le h.1
  exact hI.2.2.2.2.2.2.2.1 n h.2
theorem mI_kn {M : Nat → Nat → Int} (hI : mI M) {k : Int} (h : 0 ≤ k ∧ k < 6) : 0 ≤ M 19 (Int.toNat (6 + k)) ∧ M 19 (Int.toNat (6 + k)) < 64 := by
  obtain ⟨n, rfl⟩ := Int.eq_ofNat_of_zero_le h.1
  exact hI.2.2.2.2.2.2.2.2.1.2.2.2.1 n (by omega)
theorem mI_fe {M : Nat → Nat → Int} (hI : mI M) {k : Int} (h : 0 ≤ k ∧ k < 4) : 0 ≤ M 19 (Int.toNat (2 + k)) ∧ M 19 (Int.toNat (2 + k)) ≤ 20 := by
  obtain ⟨n, rfl⟩ := Int.eq_ofNat_of_zero_le h.1
  exact hI.2.2.2.2.2.2.2.2.1.2.2.1 n (by omega)
end
section
/-! More answers of the reference. -/
def s_kn (M : Nat → Nat → Int) (pe : Int) : Int := s_knN (M 19) pe (M 5 0).toNat
def s_one (M : Nat → Nat → Int) (pe wh : Int) : Int := if ¬ (0 ≤ pe ∧ pe < M 2 0) then -1 else if wh = 0 then M 3 (Int.toNat pe) else if wh = 1 then M 4 (Int.toNat pe) else if wh = 2 then s_kn M pe else -1
def s_saying (M : Nat → Nat → Int) (sy wh : Int) : Int := if ¬ (0 ≤ sy ∧ sy < M 5 0) then -1 else if wh = 0 then M 6 (Int.toNat sy) else if wh = 1 then M 7 (Int.toNat sy) else if wh = 2 then M 8 (Int.toNat sy) else if wh = 3 then M 19 (Int.toNat (6 + sy)) else -1
def s_stray (M : Nat → Nat → Int) (ii wh : Int) : Int := if ¬ (0 ≤ ii ∧ ii ≤ 7) ∨ ¬ (0 ≤ wh ∧ wh ≤ 1) then -1 else if M 19 12 ≤ ii then -9 else if wh = 0 then M 19 (Int.toNat (13 + ii)) else M 19 (Int.toNat (21 + ii))
def s_now (M : Nat → Nat → Int) (wh : Int) : Int := if 0 ≤ wh ∧ wh ≤ 5 then M 19 (Int.toNat wh) else if wh = 6 then M 19 12 else -1
def s_ln (M : Nat → Nat → Int) (pe sy fe nn sd : Int) : Int := s_land (M 3 (Int.toNat pe)) (M 7 (Int.toNat sy)) (M 6 (Int.toNat sy)) (M 19 1) fe nn sd (s_wind M 0)
def s_lands (M : Nat → Nat → Int) (pe sy fe nn sd : Int) : Int := if (0 ≤ pe ∧ pe < M 2 0) ∧ (0 ≤ sy ∧ sy < M 5 0) ∧ (0 ≤ fe ∧ fe ≤ 3) ∧ (0 ≤ nn ∧ nn ≤ 3) ∧ (0 ≤ sd ∧ sd ≤ 1) then s_ln M pe sy fe nn sd else -1
abbrev s_hrd (M : Nat → Nat → Int) (pe ot sy sh bw : Int) : Prop := s_hear (M 3 (Int.toNat ot)) (M 4 (Int.toNat ot)) (s_land (M 3 (Int.toNat pe)) (M 7 (Int.toNat sy)) (M 6 (Int.toNat sy)) (M 19 1) (sh / 100) (sh / 10 % 10) (sh % 10) bw)
/-- the first from i on, so many tried -/
def zfind (b : Int → Bool) : Nat → Int → Int
  | 0, _ => -9
  | f + 1, i => if b i then i else zfind b f (i + 1)
theorem zfind_step (b : Int → Bool) (N i : Int) (h : i < N) : zfind b (N - i).toNat i = if b i then i else zfind b (N - (i + 1)).toNat (i + 1) := by
  obtain ⟨k, hk⟩ : ∃ k : Nat, (N - i).toNat = k + 1 := ⟨(N - i - 1).toNat, by omega⟩
  have e : (N - (i + 1)).toNat = k := by omega
  rw [hk, e]
  rfl
def zfindL (b : Int → Bool) : List Int → Int
  | [] => -9
  | x :: xs => if b x then x else zfindL b xs
/-- the shots, fewest feathers first -/
def shN : List Int := [0, 1, 10, 11, 110, 111, 210, 211, 310, 311, 20, 21, 120, 121, 220, 221, 320, 321, 30, 31, 130, 131, 230, 231, 330, 331]
def s_pos (nn kd sd : Int) : Nat := ((if nn = 0 then 0 else 2 + 8 * (nn - 1)) + 2 * kd + sd).toNat
theorem s_call_step (b : Int → Bool) {nn kd sd : Int} (h1 : 0 ≤ nn ∧ nn ≤ 3) (h2 : 0 ≤ kd ∧ kd ≤ 3 ∧ (nn = 0 → kd ≤ 0)) (h3 : 0 ≤ sd ∧ sd ≤ 1) : zfindL b (shN.drop (s_pos nn kd sd)) = if b (100 * kd + 10 * nn + sd) then 100 * kd + 10 * nn + sd else zfindL b (shN.drop (s_pos nn kd (sd + 1))) := by
  rcases (show nn = 0 ∨ nn = 1 ∨ nn = 2 ∨ nn = 3 by omega) with rfl | rfl | rfl | rfl
  · obtain rfl : kd = 0 := by omega
    rcases (show sd = 0 ∨ sd = 1 by omega) with rfl | rfl <;> rfl
  all_goals
    rcases (show kd = 0 ∨ kd = 1 ∨ kd = 2 ∨ kd = 3 by omega) with rfl | rfl | rfl | rfl <;> rcases (show sd = 0 ∨ sd = 1 by omega) with rfl | rfl <;> rfl
def s_waits (M : Nat → Nat → Int) (pe ot sy sh : Int) : Int := if ((0 ≤ pe ∧ pe < M 2 0) ∧ (0 ≤ ot ∧ ot < M 2 0) ∧ ¬ (pe = ot)) ∧ (0 ≤ sy ∧ sy < M 5 0) ∧ (0 ≤ sh ∧ sh / 100 ≤ 3 ∧ sh / 10 % 10 ≤ 3 ∧ sh % 10 ≤ 1) then zfind (fun q => decide (s_hrd M pe ot sy sh (s_wind M q))) 13 0 else -1
def s_call (M : Nat → Nat → Int) (pe ot sy : Int) : Int := if ((0 ≤ pe ∧ pe < M 2 0) ∧ (0 ≤ ot ∧ ot < M 2 0) ∧ ¬ (pe = ot)) ∧ (0 ≤ sy ∧ sy < M 5 0) then zfindL (fun q => decide (s_hrd M pe ot sy q (s_wind M 0))) shN else -1
theorem s_hearers_bd (M : Nat → Nat → Int) (sp but : Int) (hP : M 2 0 ≤ 6) : 0 ≤ s_hearers M sp but ∧ s_hearers M sp but < 64 := s_heN_bd (M 3) (M 4) sp but (M 2 0).toNat 6 (by omega)
theorem s_beh_bd (M : Nat → Nat → Int) (sp but st : Int) (h : 0 ≤ st ∧ st < 64) (hP : M 2 0 ≤ 6) : 0 ≤ zor st (s_hearers M sp but) ∧ zor st (s_hearers M sp but) < 64 := by
  have h1 := s_heN_bd (M 3) (M 4) sp but (M 2 0).toNat 6 (by omega)
  exact zor_lt (k := 6) (by omega) h1
def s_bodies (kd : Int) : Int := if kd = 0 then 1 else if kd = 1 then 3 else if kd = 2 then 5 else if kd = 3 then 11 else if kd = 4 then 21 else 33
def s_count (M : Nat → Nat → Int) (wh : Int) : Int := if wh = 0 then M 2 0 else if wh = 1 then M 5 0 else if wh = 2 then M 9 0 else if wh = 3 then M 28 0 else if wh = 4 then M 20 0 else if wh = 5 then M 1 0 else -1
end
section
set_option maxHeartbeats 4000000 in
set_option maxRecDepth 100000 in
theorem C_in (l : Launch) (vv lo hi : Int) (h1 : -2147483648 ≤ vv ∧ vv < 2147483648) (h2 : -2147483648 ≤ lo ∧ lo < 2147483648) (h3 : -2147483648 ≤ hi ∧ hi < 2147483648) : Met l yX8_in wsX8_in ({ frames := 0, cells := 0, slots := 0, locals := 0 }) (va_Pc [.int (iZ vv), .int (iZ lo), .int (iZ hi)] (fun _ => True)) (vp_Si (fun r => r = iZ (if (lo ≤ vv ∧ vv ≤ hi) then 1 else 0))) 0 0 (fun _ => False) := by
  refine Met.ofW (cc := cX8_in) (maxL := 3) (ret := (some .boolean)) (by decide) rfl ?_
  intro p e s m args below meth c s₁ B hml hv
  obtain ⟨rfl, -⟩ := hv
  have hx := B.exec
  have hb := B.bytes
  have hr := B.returns
  have hts := atoms_spec (ws := wsX8_in) B.pre
  have hown : s.vm.findClass RX8 = some m.cls := findClass_of_methodNamed B.named
  have hlocks := B.notSynchronized
  have hl := lv_entry ([.int (iZ vv), .int (iZ lo), .int (iZ hi)]) (n := 3) (Nat.le_of_ble_eq_true rfl)
  rw [lg_entry_eq]
  generalize (lg_sl ([.int (iZ vv), .int (iZ lo), .int (iZ hi)]) ++ List.replicate (3 - (lg_sl ([.int (iZ vv), .int (iZ lo), .int (iZ hi)])).length) Slot.unset).toArray = ls at hl ⊢
  replace hl : lv_has ls 3 [(0, .int (iZ vv)), (1, .int (iZ lo)), (2, .int (iZ hi))] := hl
  refine lv_iload_n hx hb dX8_in_0 rfl (lv_at hl 0 rfl) ?_
  refine lv_iload_n hx hb dX8_in_1 rfl (lv_at hl 1 rfl) ?_
  have K4 : ∀ (v3 : Int), (v3 = (if vv < lo then 0 else (if hi < vv then 0 else 1))) → ∀ ls : Array Slot, lv_has ls 3 [] → W p l e ((headSpec wsX8_in ({ frames := 0, cells := 0, slots := 0, locals := 0 })).room) s m (([.int (iZ vv), .int (iZ lo), .int (iZ hi)] : List Value).toArray) below meth c s.heap [] 0 0 (MQ below (vp_Si (fun r => r = iZ (if (lo ≤ vv ∧ vv ≤ hi) then 1 else 0))) (([.int (iZ vv), .int (iZ lo), .int (iZ hi)] : List Value).toArray) s 0 0 (fun _ => False)) (F0 m 15 ls [.int (iZ v3)]) := by
    intro v3 hv3 ls hl
    exact mq_ret hx hb hr (z_nbool (by first | omega | (split <;> omega))) (by first | omega | ((repeat' split) <;> first | rfl | omega)) dX8_in_15 hlocks rfl
  refine z_icmp_lt (x := vv) (y := lo) (tgt := 14) hx hb (by omega) (by omega) dX8_in_2 (by decide) (fun c1 => ?_) (fun c1 => ?_)
  · refine lv_iconst (v := iZ 0) hx hb dX8_in_14 (by decide) ?_
    exact K4 0 (by first | rfl | (rw [if_pos c1]; done) | omega | (subst_vars; first | rfl | (rw [if_pos c1]; done) | omega)) ls (lv_sub hl [] rfl)
  · refine lv_iload_n hx hb dX8_in_5 rfl (lv_at hl 0 rfl) ?_
    refine lv_iload_n hx hb dX8_in_6 rfl (lv_at hl 2 rfl) ?_
    refine z_icmp_gt (x := vv) (y := hi) (tgt := 14) hx hb (by omega) (by omega) dX8_in_7 (by decide) (fun c2 => ?_) (fun c2 => ?_)
    · refine lv_iconst (v := iZ 0) hx hb dX8_in_14 (by decide) ?_
      exact K4 0 (by first | rfl | (rw [if_neg c1, if_pos c2]; done) | omega | (subst_vars; first | rfl | (rw [if_neg c1, if_pos c2]; done) | omega)) ls (lv_sub hl [] rfl)
    · refine lv_iconst (v := iZ 1) hx hb dX8_in_10 (by decide) ?_
      refine lv_goto (tgt := 15) hx hb dX8_in_11 (by decide) ?_
      exact K4 1 (by first | rfl | (rw [if_neg c1, if_neg c2]; done) | omega | (subst_vars; first | rfl | (rw [if_neg c1, if_neg c2]; done) | omega)) ls (lv_sub hl [] rfl)
set_option maxHeartbeats 4000000 in
set_option maxRecDepth 100000 in
theorem C_has (l : Launch) (st kk : Int) (h1 : 0 ≤ st ∧ st < 2147483648) (h2 : 0 ≤ kk ∧ kk ≤ 30) : Met l yX8_has wsX8_has ({ frames := 0, cells := 0, slots := 0, locals := 0 }) (va_Pc [.int (iZ st), .int (iZ kk)] (fun _ => True)) (vp_Si (fun r => r = iZ (if (st / zp kk % 2 = 1) then 1 else 0))) 0 0 (fun _ => False) := by
  refine Met.ofW (cc := cX8_has) (maxL := 2) (ret := (some .boolean)) (by decide) rfl ?_
  intro p e s m args below meth c s₁ B hml hv
  obtain ⟨rfl, -⟩ := hv
  have hx := B.exec
  have hb := B.bytes
  have hr := B.returns
  have hts := atoms_spec (ws := wsX8_has) B.pre
  have hown : s.vm.findClass RX8 = some m.cls := findClass_of_methodNamed B.named
  have hlocks := B.notSynchronized
  have hl := lv_entry ([.int (iZ st), .int (iZ kk)]) (n := 2) (Nat.le_of_ble_eq_true rfl)
  rw [lg_entry_eq]
  generalize (lg_sl ([.int (iZ st), .int (iZ kk)]) ++ List.replicate (2 - (lg_sl ([.int (iZ st), .int (iZ kk)])).length) Slot.unset).toArray = ls at hl ⊢
  replace hl : lv_has ls 2 [(0, .int (iZ st)), (1, .int (iZ kk))] := hl
  refine W.eq (g2 := F0 m 0 ls []) rfl ?_
  refine lv_iload_n hx hb dX8_has_0 rfl (lv_at hl 0 rfl) ?_
  refine lv_iload_n hx hb dX8_has_1 rfl (lv_at hl 1 rfl) ?_
  refine z_ishr hx hb (by omega) (by omega) dX8_has_2 ?_
  refine lv_iconst (v := iZ 1) hx hb dX8_has_3 (by decide) ?_
  refine z_iand1 hx hb dX8_has_4 ?_
  refine lv_iconst (v := iZ 1) hx hb dX8_has_5 (by decide) ?_
  have K3 : ∀ (v2 : Int), (v2 = (if ((st / zp kk) % 2) = 1 then 1 else 0)) → ∀ ls : Array Slot, lv_has ls 2 [] → W p l e ((headSpec wsX8_has ({ frames := 0, cells := 0, slots := 0, locals := 0 })).room) s m (([.int (iZ st), .int (iZ kk)] : List Value).toArray) below meth c s.heap [] 0 0 (MQ below (vp_Si (fun r => r = iZ (if (st / zp kk % 2 = 1) then 1 else 0))) (([.int (iZ st), .int (iZ kk)] : List Value).toArray) s 0 0 (fun _ => False)) (F0 m 14 ls [.int (iZ v2)]) := by
    intro v2 hv2 ls hl
    exact mq_ret hx hb hr (z_nbool (by first | omega | (split <;> omega))) (by first | omega | ((repeat' split) <;> first | rfl | omega)) dX8_has_14 hlocks rfl
  refine z_icmp_ne (x := ((st / zp kk) % 2)) (y := 1) (tgt := 13) hx hb (by omega) (by omega) dX8_has_6 (by decide) (fun c1 => ?_) (fun c1 => ?_)
  · refine lv_iconst (v := iZ 0) hx hb dX8_has_13 (by decide) ?_
    exact K3 0 (by first | rfl | (rw [if_neg c1]; done) | omega | (subst_vars; first | rfl | (rw [if_neg c1]; done) | omega)) ls (lv_sub hl [] rfl)
  · refine lv_iconst (v := iZ 1) hx hb dX8_has_9 (by decide) ?_
    refine lv_goto (tgt := 14) hx hb dX8_has_10 (by decide) ?_
    exact K3 1 (by first | rfl | (rw [if_pos c1]; done) | omega | (subst_vars; first | rfl | (rw [if_pos c1]; done) | omega)) ls (lv_sub hl [] rfl)
set_option maxHeartbeats 4000000 in
set_option maxRecDepth 100000 in
theorem C_bitsOf (l : Launch) (st : Int) (h1 : 0 ≤ st ∧ st < 2147483648) : Met l yX8_bitsOf wsX8_bitsOf ({ frames := 0, cells := 0, slots := 0, locals := 0 }) (va_Pc [.int (iZ st)] (fun _ => True)) (vp_Si (fun r => r = iZ (s_bits st))) 0 0 (fun _ => False) := by
  refine Met.ofW (cc := cX8_bitsOf) (maxL := 3) (ret := (some .int)) (by decide) rfl ?_
  intro p e s m args below meth c s₁ B hml hv
  obtain ⟨rfl, -⟩ := hv
  have hx := B.exec
  have hb := B.bytes
  have hr := B.returns
  have hts := atoms_spec (ws := wsX8_bitsOf) B.pre
  have hown : s.vm.findClass RX8 = some m.cls := findClass_of_methodNamed B.named
  have hlocks := B.notSynchronized
  have hl := lv_entry ([.int (iZ st)]) (n := 3) (Nat.le_of_ble_eq_true rfl)
  rw [lg_entry_eq]
  generalize (lg_sl ([.int (iZ st)]) ++ List.replicate (3 - (lg_sl ([.int (iZ st)])).length) Slot.unset).toArray = ls at hl ⊢
  replace hl : lv_has ls 3 [(0, .int (iZ st))] := hl
  refine lv_iconst (v := iZ 0) hx hb dX8_bitsOf_0 (by decide) ?_
  refine W.eq (g2 := F0 m 1 ls [.int (iZ 0)]) rfl ?_
  refine lv_istore_n (lv' := [(1, .int (iZ 0)), (0, .int (iZ st))]) hx hb dX8_bitsOf_1 rfl hl (by decide) rfl (fun ls hl => ?_)
  refine lv_iconst (v := iZ 0) hx hb dX8_bitsOf_2 (by decide) ?_
  refine lv_istore_n (lv' := [(2, .int (iZ 0)), (1, .int (iZ 0)), (0, .int (iZ st))]) hx hb dX8_bitsOf_3 rfl hl (by decide) rfl (fun ls hl => ?_)
  replace hl : lv_has ls 3 [(2, .int (iZ (0 : Int))), (1, .int (iZ (0 : Int))), (0, .int (iZ st))] := lv_sub hl [0, 1, 2] rfl
  revert ls
  refine z_loop (σ := Int × Int) (fun x9 => (0 ≤ x9.2 ∧ x9.2 ≤ 31) ∧ (x9.1 = s_bitsN st (Int.toNat x9.2))) (fun x9 => [(2, .int (iZ (x9.2))), (1, .int (iZ (x9.1))), (0, .int (iZ st))]) 3 (fun x9 => (31 - x9.2).toNat) ((0 : Int), (0 : Int)) ⟨(by show 0 ≤ (0 : Int) ∧ (0 : Int) ≤ 31; omega), (by show (0 : Int) = s_bitsN st (Int.toNat (0 : Int)); rfl)⟩ ?_
  rintro ⟨nn, kk⟩ hI9 ih4 ls hl
  obtain ⟨i1, i2⟩ := hI9
  replace i1 : 0 ≤ kk ∧ kk ≤ 31 := i1
  replace i2 : nn = s_bitsN st (Int.toNat kk) := i2
  replace hl : lv_has ls 3 [(2, .int (iZ kk)), (1, .int (iZ nn)), (0, .int (iZ st))] := hl
  have hbd := s_bitsN_bd st (Int.toNat kk)
  refine lv_iload_n hx hb dX8_bitsOf_4 rfl (lv_at hl 0 rfl) ?_
  refine lv_bipush (v := iZ 31) hx hb dX8_bitsOf_5 (by decide) ?_
  refine z_icmp_ge (x := kk) (y := 31) (tgt := 24) hx hb (by omega) (by omega) dX8_bitsOf_7 (by decide) (fun c1 => ?_) (fun c1 => ?_)
  · refine lv_iload_n hx hb dX8_bitsOf_24 rfl (lv_at hl 1 rfl) ?_
    exact mq_ret hx hb hr rfl (by have q : kk = 31 := (by omega); subst q; rw [i2]; rfl) dX8_bitsOf_25 hlocks rfl
  · refine lv_iload_n hx hb dX8_bitsOf_10 rfl (lv_at hl 1 rfl) ?_
    refine lv_iload_n hx hb dX8_bitsOf_11 rfl (lv_at hl 2 rfl) ?_
    refine lv_iload_n hx hb dX8_bitsOf_12 rfl (lv_at hl 0 rfl) ?_
    refine z_ishr hx hb (by omega) (by omega) dX8_bitsOf_13 ?_
    refine lv_iconst (v := iZ 1) hx hb dX8_bitsOf_14 (by decide) ?_
    refine z_iand1 hx hb dX8_bitsOf_15 ?_
    refine W.eq (g2 := F0 m 16 ls [.int (iZ ((st / zp kk) % 2)), .int (iZ nn)]) rfl ?_
    refine z_iadd hx hb dX8_bitsOf_16 ?_
    refine lv_istore_n (lv' := [(1, .int (iZ (nn + ((st / zp kk) % 2)))), (2, .int (iZ kk)), (0, .int (iZ st))]) hx hb dX8_bitsOf_17 rfl hl (by decide) rfl (fun ls hl => ?_)
    refine lv_iinc (v := iZ (kk + 1)) (lv' := [(2, .int (iZ (kk + 1))), (1, .int (iZ (nn + ((st / zp kk) % 2)))), (0, .int (iZ st))]) hx hb dX8_bitsOf_18 hl (k := 1) rfl (iZ_add _ _) (by decide) rfl (fun ls hl => ?_)
    refine lv_goto (tgt := 4) hx hb dX8_bitsOf_21 (by decide) ?_
    exact ih4 ((nn + ((st / zp kk) % 2)), (kk + 1)) ⟨(by show 0 ≤ (kk + 1) ∧ (kk + 1) ≤ 31; omega), (by show (nn + ((st / zp kk) % 2)) = s_bitsN st (Int.toNat (kk + 1)); rw [s_bitsN_succ _ (by omega), ← i2])⟩ (by show (31 - (kk + 1)).toNat < (31 - kk).toNat; omega) ls (lv_sub hl [0, 1, 2] rfl)
set_option maxHeartbeats 4000000 in
set_option maxRecDepth 100000 in
theorem C_liftOf (l : Launch) (fe : Int) (h1 : -2147483648 ≤ fe ∧ fe < 2147483648) : Met l yX8_liftOf wsX8_liftOf ({ frames := 0, cells := 0, slots := 0, locals := 0 }) (va_Pc [.int (iZ fe)] (fun _ => True)) (vp_Si (fun r => r = iZ (s_lift fe))) 0 0 (fun _ => False) := by
  refine Met.ofW (cc := cX8_liftOf) (maxL := 1) (ret := (some .int)) (by decide) rfl ?_
  intro p e s m args below meth c s₁ B hml hv
  obtain ⟨rfl, -⟩ := hv
  have hx := B.exec
  have hb := B.bytes
  have hr := B.returns
  have hts := atoms_spec (ws := wsX8_liftOf) B.pre
  have hown : s.vm.findClass RX8 = some m.cls := findClass_of_methodNamed B.named
  have hlocks := B.notSynchronized
  have hl := lv_entry ([.int (iZ fe)]) (n := 1) (Nat.le_of_ble_eq_true rfl)
  rw [lg_entry_eq]
  generalize (lg_sl ([.int (iZ fe)]) ++ List.replicate (1 - (lg_sl ([.int (iZ fe)])).length) Slot.unset).toArray = ls at hl ⊢
  replace hl : lv_has ls 1 [(0, .int (iZ fe))] := hl
  refine lv_iload_n hx hb dX8_liftOf_0 rfl (lv_at hl 0 rfl) ?_
  have K5 : ∀ (v4 : Int), (v4 = (if fe = 0 then 3 else (if fe = 1 then 6 else (if fe = 2 then 4 else 2)))) → ∀ ls : Array Slot, lv_has ls 1 [] → W p l e ((headSpec wsX8_liftOf ({ frames := 0, cells := 0, slots := 0, locals := 0 })).room) s m (([.int (iZ fe)] : List Value).toArray) below meth c s.heap [] 0 0 (MQ below (vp_Si (fun r => r = iZ (s_lift fe))) (([.int (iZ fe)] : List Value).toArray) s 0 0 (fun _ => False)) (F0 m 28 ls [.int (iZ v4)]) := by
    intro v4 hv4 ls hl
    exact mq_ret hx hb hr rfl (by unfold s_lift; omega) dX8_liftOf_28 hlocks rfl
  refine z_if_ne (x := fe) (tgt := 8) hx hb (by omega) dX8_liftOf_1 (by decide) (fun c1 => ?_) (fun c1 => ?_)
  · refine lv_iload_n hx hb dX8_liftOf_8 rfl (lv_at hl 0 rfl) ?_
    refine lv_iconst (v := iZ 1) hx hb dX8_liftOf_9 (by decide) ?_
    refine z_icmp_ne (x := fe) (y := 1) (tgt := 18) hx hb (by omega) (by omega) dX8_liftOf_10 (by decide) (fun c2 => ?_) (fun c2 => ?_)
    · refine lv_iload_n hx hb dX8_liftOf_18 rfl (lv_at hl 0 rfl) ?_
      refine lv_iconst (v := iZ 2) hx hb dX8_liftOf_19 (by decide) ?_
      refine z_icmp_ne (x := fe) (y := 2) (tgt := 27) hx hb (by omega) (by omega) dX8_liftOf_20 (by decide) (fun c3 => ?_) (fun c3 => ?_)
      · refine W.eq (g2 := F0 m 27 ls []) rfl ?_
        refine lv_iconst (v := iZ 2) hx hb dX8_liftOf_27 (by decide) ?_
        exact K5 2 (by first | rfl | (rw [if_neg c1, if_neg c2, if_neg c3]; done) | omega | (subst_vars; first | rfl | (rw [if_neg c1, if_neg c2, if_neg c3]; done) | omega)) ls (lv_sub hl [] rfl)
      · refine lv_iconst (v := iZ 4) hx hb dX8_liftOf_23 (by decide) ?_
        refine lv_goto (tgt := 28) hx hb dX8_liftOf_24 (by decide) ?_
        exact K5 4 (by first | rfl | (rw [if_neg c1, if_neg c2, if_pos c3]; done) | omega | (subst_vars; first | rfl | (rw [if_neg c1, if_neg c2, if_pos c3]; done) | omega)) ls (lv_sub hl [] rfl)
    · refine lv_bipush (v := iZ 6) hx hb dX8_liftOf_13 (by decide) ?_
      refine lv_goto (tgt := 28) hx hb dX8_liftOf_15 (by decide) ?_
      exact K5 6 (by first | rfl | (rw [if_neg c1, if_pos c2]; done) | omega | (subst_vars; first | rfl | (rw [if_neg c1, if_pos c2]; done) | omega)) ls (lv_sub hl [] rfl)
  · refine lv_iconst (v := iZ 3) hx hb dX8_liftOf_4 (by decide) ?_
    refine lv_goto (tgt := 28) hx hb dX8_liftOf_5 (by decide) ?_
    exact K5 3 (by first | rfl | (rw [if_pos c1]; done) | omega | (subst_vars; first | rfl | (rw [if_pos c1]; done) | omega)) ls (lv_sub hl [] rfl)
set_option maxHeartbeats 4000000 in
set_option maxRecDepth 100000 in
theorem C_isOne (l : Launch) (D : va_G) (C : mC) (h : Nat) (a : Nat → Nat) (M : Nat → Nat → Int) (pe : Int) (hI : mI M) (h1 : -2147483648 ≤ pe ∧ pe < 2147483648) : Met l yX8_isOne wsX8_isOne ({ frames := 1, cells := 0, slots := 0, locals := 22 }) (va_Pc [.ref h, .int (iZ pe)] (mOk D C h a M)) (vp_Si (fun r => r = iZ (if (0 ≤ pe ∧ pe < M 2 0) then 1 else 0))) 0 0 (fun _ => False) := by
  refine Met.ofW (cc := cX8_isOne) (maxL := 2) (ret := (some .boolean)) (by decide) rfl ?_
  intro p e s m args below meth c s₁ B hml hv
  obtain ⟨rfl, hP, hK⟩ := hv
  have hx := B.exec
  have hb := B.bytes
  have hr := B.returns
  have hts := atoms_spec (ws := wsX8_isOne) B.pre
  have hown : s.vm.findClass RX8 = some m.cls := findClass_of_methodNamed B.named
  have hlocks := B.notSynchronized
  have hin : ∀ w ∈ wsX80, w ∈ wsX8_isOne := fun _ w_h => (List.mem_cons_of_mem _ (List.mem_append_right _ w_h))
  have hl := lv_entry ([.ref h, .int (iZ pe)]) (n := 2) (Nat.le_of_ble_eq_true rfl)
  rw [lg_entry_eq]
  generalize (lg_sl ([.ref h, .int (iZ pe)]) ++ List.replicate (2 - (lg_sl ([.ref h, .int (iZ pe)])).length) Slot.unset).toArray = ls at hl ⊢
  replace hl : lv_has ls 2 [(0, .ref h), (1, .int (iZ pe))] := hl
  have hnw := mI_now hI
  refine lv_iload_n hx hb dX8_isOne_0 rfl (lv_at hl 1 rfl) ?_
  refine lv_iconst (v := iZ 0) hx hb dX8_isOne_1 (by decide) ?_
  refine lv_aload_n hx hb dX8_isOne_2 rfl (lv_at hl 0 rfl) ?_
  refine mq_get hx hb hts hin hown hK hP 2 (by decide) (hts (.fieldLink RX8 13 "WordFletchersModel" "people" "[I") (List.mem_cons_of_mem _ (List.mem_append_left _ (List.mem_of_getElem? (i := 0) rfl)))) rfl dX8_isOne_3 ?_
  refine W.eq (g2 := F0 m 6 ls [.ref (a 2), .int (iZ 0), .int (iZ pe)]) rfl ?_
  refine lv_iconst (v := iZ 0) hx hb dX8_isOne_6 (by decide) ?_
  refine mq_iald hx hb hK hP 2 2 (n := 2) rfl (by decide) 0 rfl (by omega) dX8_isOne_7 ?_
  refine lv_iconst (v := iZ 1) hx hb dX8_isOne_8 (by decide) ?_
  refine z_isub hx hb dX8_isOne_9 ?_
  refine mq_cs (As := [.int (iZ pe), .int (iZ 0), .int (iZ ((M 2 0) - 1))]) (rest := []) ⟨hx, hb, hml, hown, hts⟩ (C_in l pe 0 ((M 2 0) - 1) (by omega) (by omega) (by omega)) (va_cwS 3 hts gX8_isOne_X8_in rfl rfl rfl (by decide +kernel) ⟨Nat.le_of_ble_eq_true rfl, Nat.le_of_ble_eq_true rfl⟩) rfl rfl hl.1 (Nat.le_of_ble_eq_true rfl) ⟨Nat.le_of_ble_eq_true rfl, Nat.le_of_ble_eq_true rfl⟩ dX8_isOne_10 ?_
  exact mq_ret hx hb hr (z_nbool (by first | omega | (split <;> omega))) (by first | omega | ((repeat' split) <;> first | rfl | omega)) dX8_isOne_13 hlocks rfl
set_option maxHeartbeats 4000000 in
set_option maxRecDepth 100000 in
theorem C_isSaying (l : Launch) (D : va_G) (C : mC) (h : Nat) (a : Nat → Nat) (M : Nat → Nat → Int) (sy : Int) (hI : mI M) (h1 : -2147483648 ≤ sy ∧ sy < 2147483648) : Met l yX8_isSaying wsX8_isSaying ({ frames := 1, cells := 0, slots := 0, locals := 22 }) (va_Pc [.ref h, .int (iZ sy)] (mOk D C h a M)) (vp_Si (fun r => r = iZ (if (0 ≤ sy ∧ sy < M 5 0) then 1 else 0))) 0 0 (fun _ => False) := by
  refine Met.ofW (cc := cX8_isSaying) (maxL := 2) (ret := (some .boolean)) (by decide) rfl ?_
  intro p e s m args below meth c s₁ B hml hv
  obtain ⟨rfl, hP, hK⟩ := hv
  have hx := B.exec
  have hb := B.bytes
  have hr := B.returns
  have hts := atoms_spec (ws := wsX8_isSaying) B.pre
  have hown : s.vm.findClass RX8 = some m.cls := findClass_of_methodNamed B.named
  have hlocks := B.notSynchronized
  have hin : ∀ w ∈ wsX80, w ∈ wsX8_isSaying := fun _ w_h => (List.mem_cons_of_mem _ (List.mem_append_right _ w_h))
  have hl := lv_entry ([.ref h, .int (iZ sy)]) (n := 2) (Nat.le_of_ble_eq_true rfl)
  rw [lg_entry_eq]
  generalize (lg_sl ([.ref h, .int (iZ sy)]) ++ List.replicate (2 - (lg_sl ([.ref h, .int (iZ sy)])).length) Slot.unset).toArray = ls at hl ⊢
  replace hl : lv_has ls 2 [(0, .ref h), (1, .int (iZ sy))] := hl
  have hnw := mI_now hI
  refine lv_iload_n hx hb dX8_isSaying_0 rfl (lv_at hl 1 rfl) ?_
  refine lv_iconst (v := iZ 0) hx hb dX8_isSaying_1 (by decide) ?_
  refine lv_aload_n hx hb dX8_isSaying_2 rfl (lv_at hl 0 rfl) ?_
  refine mq_get hx hb hts hin hown hK hP 5 (by decide) (hts (.fieldLink RX8 23 "WordFletchersModel" "sayings" "[I") (List.mem_cons_of_mem _ (List.mem_append_left _ (List.mem_of_getElem? (i := 0) rfl)))) rfl dX8_isSaying_3 ?_
  refine lv_iconst (v := iZ 0) hx hb dX8_isSaying_6 (by decide) ?_
  refine mq_iald hx hb hK hP 5 5 (n := 2) rfl (by decide) 0 rfl (by omega) dX8_isSaying_7 ?_
  refine W.eq (g2 := F0 m 8 ls [.int (iZ (M 5 0)), .int (iZ 0), .int (iZ sy)]) rfl ?_
  refine lv_iconst (v := iZ 1) hx hb dX8_isSaying_8 (by decide) ?_
  refine z_isub hx hb dX8_isSaying_9 ?_
  refine mq_cs (As := [.int (iZ sy), .int (iZ 0), .int (iZ ((M 5 0) - 1))]) (rest := []) ⟨hx, hb, hml, hown, hts⟩ (C_in l sy 0 ((M 5 0) - 1) (by omega) (by omega) (by omega)) (va_cwS 3 hts gX8_isSaying_X8_in rfl rfl rfl (by decide +kernel) ⟨Nat.le_of_ble_eq_true rfl, Nat.le_of_ble_eq_true rfl⟩) rfl rfl hl.1 (Nat.le_of_ble_eq_true rfl) ⟨Nat.le_of_ble_eq_true rfl, Nat.le_of_ble_eq_true rfl⟩ dX8_isSaying_10 ?_
  exact mq_ret hx hb hr (z_nbool (by first | omega | (split <;> omega))) (by first | omega | ((repeat' split) <;> first | rfl | omega)) dX8_isSaying_13 hlocks rfl
set_option maxHeartbeats 4000000 in
set_option maxRecDepth 100000 in
theorem C_isShot (l : Launch) (fe nn sd : Int) (h1 : -2147483648 ≤ fe ∧ fe < 2147483648) (h2 : -2147483648 ≤ nn ∧ nn < 2147483648) (h3 : -2147483648 ≤ sd ∧ sd < 2147483648) : Met l yX8_isShot wsX8_isShot ({ frames := 1, cells := 0, slots := 0, locals := 22 }) (va_Pc [.int (iZ fe), .int (iZ nn), .int (iZ sd)] (fun _ => True)) (vp_Si (fun r => r = iZ (if ((0 ≤ fe ∧ fe ≤ 3) ∧ (0 ≤ nn ∧ nn ≤ 3) ∧ (0 ≤ sd ∧ sd ≤ 1)) then 1 else 0))) 0 0 (fun _ => False) := by
  refine Met.ofW (cc := cX8_isShot) (maxL := 3) (ret := (some .boolean)) (by decide) rfl ?_
  intro p e s m args below meth c s₁ B hml hv
  obtain ⟨rfl, -⟩ := hv
  have hx := B.exec
  have hb := B.bytes
  have hr := B.returns
  have hts := atoms_spec (ws := wsX8_isShot) B.pre
  have hown : s.vm.findClass RX8 = some m.cls := findClass_of_methodNamed B.named
  have hlocks := B.notSynchronized
  have hl := lv_entry ([.int (iZ fe), .int (iZ nn), .int (iZ sd)]) (n := 3) (Nat.le_of_ble_eq_true rfl)
  rw [lg_entry_eq]
  generalize (lg_sl ([.int (iZ fe), .int (iZ nn), .int (iZ sd)]) ++ List.replicate (3 - (lg_sl ([.int (iZ fe), .int (iZ nn), .int (iZ sd)])).length) Slot.unset).toArray = ls at hl ⊢
  replace hl : lv_has ls 3 [(0, .int (iZ fe)), (1, .int (iZ nn)), (2, .int (iZ sd))] := hl
  refine lv_iload_n hx hb dX8_isShot_0 rfl (lv_at hl 0 rfl) ?_
  refine lv_iconst (v := iZ 0) hx hb dX8_isShot_1 (by decide) ?_
  refine lv_iconst (v := iZ 3) hx hb dX8_isShot_2 (by decide) ?_
  refine mq_cs (As := [.int (iZ fe), .int (iZ 0), .int (iZ 3)]) (rest := []) ⟨hx, hb, hml, hown, hts⟩ (C_in l fe 0 3 (by omega) (by omega) (by omega)) (va_cwS 3 hts gX8_isShot_X8_in rfl rfl rfl (by decide +kernel) ⟨Nat.le_of_ble_eq_true rfl, Nat.le_of_ble_eq_true rfl⟩) rfl rfl hl.1 (Nat.le_of_ble_eq_true rfl) ⟨Nat.le_of_ble_eq_true rfl, Nat.le_of_ble_eq_true rfl⟩ dX8_isShot_3 ?_
  have K5 : ∀ (v4 : Int), (v4 = (if (0 ≤ fe ∧ fe ≤ 3) then (if (0 ≤ nn ∧ nn ≤ 3) then (if (0 ≤ sd ∧ sd ≤ 1) then 1 else 0) else 0) else 0)) → ∀ ls : Array Slot, lv_has ls 3 [] → W p l e ((headSpec wsX8_isShot ({ frames := 1, cells := 0, slots := 0, locals := 22 })).room) s m (([.int (iZ fe), .int (iZ nn), .int (iZ sd)] : List Value).toArray) below meth c s.heap [] 0 0 (MQ below (vp_Si (fun r => r = iZ (if ((0 ≤ fe ∧ fe ≤ 3) ∧ (0 ≤ nn ∧ nn ≤ 3) ∧ (0 ≤ sd ∧ sd ≤ 1)) then 1 else 0))) (([.int (iZ fe), .int (iZ nn), .int (iZ sd)] : List Value).toArray) s 0 0 (fun _ => False)) (F0 m 32 ls [.int (iZ v4)]) := by
    intro v4 hv4 ls hl
    refine W.eq (g2 := F0 m 32 ls [.int (iZ v4)]) rfl ?_
    exact mq_ret hx hb hr (z_nbool (by first | omega | (split <;> omega))) (by first | omega | ((repeat' split) <;> first | rfl | omega)) dX8_isShot_32 hlocks rfl
  refine z_ifb_eq (P := (0 ≤ fe ∧ fe ≤ 3)) (tgt := 31) hx hb dX8_isShot_6 (by decide) (fun c1 => ?_) (fun c1 => ?_)
  · refine lv_iconst (v := iZ 0) hx hb dX8_isShot_31 (by decide) ?_
    exact K5 0 (by first | rfl | (rw [if_neg c1]; done) | omega | (subst_vars; first | rfl | (rw [if_neg c1]; done) | omega)) ls (lv_sub hl [] rfl)
  · refine lv_iload_n hx hb dX8_isShot_9 rfl (lv_at hl 1 rfl) ?_
    refine lv_iconst (v := iZ 0) hx hb dX8_isShot_10 (by decide) ?_
    refine W.eq (g2 := F0 m 11 ls [.int (iZ 0), .int (iZ nn)]) rfl ?_
    refine lv_iconst (v := iZ 3) hx hb dX8_isShot_11 (by decide) ?_
    refine mq_cs (As := [.int (iZ nn), .int (iZ 0), .int (iZ 3)]) (rest := []) ⟨hx, hb, hml, hown, hts⟩ (C_in l nn 0 3 (by omega) (by omega) (by omega)) (va_cwS 3 hts gX8_isShot_X8_in rfl rfl rfl (by decide +kernel) ⟨Nat.le_of_ble_eq_true rfl, Nat.le_of_ble_eq_true rfl⟩) rfl rfl hl.1 (Nat.le_of_ble_eq_true rfl) ⟨Nat.le_of_ble_eq_true rfl, Nat.le_of_ble_eq_true rfl⟩ dX8_isShot_12 ?_
    refine z_ifb_eq (P := (0 ≤ nn ∧ nn ≤ 3)) (tgt := 31) hx hb dX8_isShot_15 (by decide) (fun c2 => ?_) (fun c2 => ?_)
    · refine lv_iconst (v := iZ 0) hx hb dX8_isShot_31 (by decide) ?_
      exact K5 0 (by first | rfl | (rw [if_pos c1, if_neg c2]; done) | omega | (subst_vars; first | rfl | (rw [if_pos c1, if_neg c2]; done) | omega)) ls (lv_sub hl [] rfl)
    · refine lv_iload_n hx hb dX8_isShot_18 rfl (lv_at hl 2 rfl) ?_
      refine lv_iconst (v := iZ 0) hx hb dX8_isShot_19 (by decide) ?_
      refine lv_iconst (v := iZ 1) hx hb dX8_isShot_20 (by decide) ?_
      refine mq_cs (As := [.int (iZ sd), .int (iZ 0), .int (iZ 1)]) (rest := []) ⟨hx, hb, hml, hown, hts⟩ (C_in l sd 0 1 (by omega) (by omega) (by omega)) (va_cwS 3 hts gX8_isShot_X8_in rfl rfl rfl (by decide +kernel) ⟨Nat.le_of_ble_eq_true rfl, Nat.le_of_ble_eq_true rfl⟩) rfl rfl hl.1 (Nat.le_of_ble_eq_true rfl) ⟨Nat.le_of_ble_eq_true rfl, Nat.le_of_ble_eq_true rfl⟩ dX8_isShot_21 ?_
      refine z_ifb_eq (P := (0 ≤ sd ∧ sd ≤ 1)) (tgt := 31) hx hb dX8_isShot_24 (by decide) (fun c3 => ?_) (fun c3 => ?_)
      · refine lv_iconst (v := iZ 0) hx hb dX8_isShot_31 (by decide) ?_
        exact K5 0 (by first | rfl | (rw [if_pos c1, if_pos c2, if_neg c3]; done) | omega | (subst_vars; first | rfl | (rw [if_pos c1, if_pos c2, if_neg c3]; done) | omega)) ls (lv_sub hl [] rfl)
      · refine lv_iconst (v := iZ 1) hx hb dX8_isShot_27 (by decide) ?_
        refine lv_goto (tgt := 32) hx hb dX8_isShot_28 (by decide) ?_
        exact K5 1 (by first | rfl | (rw [if_pos c1, if_pos c2, if_pos c3]; done) | omega | (subst_vars; first | rfl | (rw [if_pos c1, if_pos c2, if_pos c3]; done) | omega)) ls (lv_sub hl [] rfl)
set_option maxHeartbeats 4000000 in
set_option maxRecDepth 100000 in
theorem C_landsBy (l : Launch) (D : va_G) (C : mC) (h : Nat) (a : Nat → Nat) (M : Nat → Nat → Int) (pe sy fe nn sd bw : Int) (hI : mI M) (h1 : 0 ≤ pe ∧ pe < M 2 0) (h2 : 0 ≤ sy ∧ sy < M 5 0) (h3 : 0 ≤ fe ∧ fe ≤ 3) (h4 : 0 ≤ nn ∧ nn ≤ 3) (h5 : 0 ≤ sd ∧ sd ≤ 1) (h6 : -4 ≤ bw ∧ bw ≤ 4) : Met l yX8_landsBy wsX8_landsBy ({ frames := 1, cells := 0, slots := 0, locals := 22 }) (va_Pc [.ref h, .int (iZ pe), .int (iZ sy), .int (iZ fe), .int (iZ nn), .int (iZ sd), .int (iZ bw)] (mOk D C h a M)) (vp_Si (fun r => r = iZ (s_land (M 3 (Int.toNat pe)) (M 7 (Int.toNat sy)) (M 6 (Int.toNat sy)) (M 19 1) fe nn sd bw))) 0 0 (fun _ => False) := by
  refine Met.ofW (cc := cX8_landsBy) (maxL := 11) (ret := (some .int)) (by decide) rfl ?_
  intro p e s m args below meth c s₁ B hml hv
  obtain ⟨rfl, hP, hK⟩ := hv
  have hx := B.exec
  have hb := B.bytes
  have hr := B.returns
  have hts := atoms_spec (ws := wsX8_landsBy) B.pre
  have hown : s.vm.findClass RX8 = some m.cls := findClass_of_methodNamed B.named
  have hlocks := B.notSynchronized
  have hin : ∀ w ∈ wsX80, w ∈ wsX8_landsBy := fun _ w_h => (List.mem_cons_of_mem _ (List.mem_append_right _ w_h))
  have hl := lv_entry ([.ref h, .int (iZ pe), .int (iZ sy), .int (iZ fe), .int (iZ nn), .int (iZ sd), .int (iZ bw)]) (n := 11) (Nat.le_of_ble_eq_true rfl)
  rw [lg_entry_eq]
  generalize (lg_sl ([.ref h, .int (iZ pe), .int (iZ sy), .int (iZ fe), .int (iZ nn), .int (iZ sd), .int (iZ bw)]) ++ List.replicate (11 - (lg_sl ([.ref h, .int (iZ pe), .int (iZ sy), .int (iZ fe), .int (iZ nn), .int (iZ sd), .int (iZ bw)])).length) Slot.unset).toArray = ls at hl ⊢
  replace hl : lv_has ls 11 [(0, .ref h), (1, .int (iZ pe)), (2, .int (iZ sy)), (3, .int (iZ fe)), (4, .int (iZ nn)), (5, .int (iZ sd)), (6, .int (iZ bw))] := hl
  have hnw := mI_now hI
  have hq1 := mI_pe hI h1
  have hq2 := mI_sy hI h2
  have hq3 := s_lift_mul fe h4
  refine lv_iload hx hb dX8_landsBy_0 (lv_at hl 4 rfl) ?_
  refine lv_iload_n hx hb dX8_landsBy_2 rfl (lv_at hl 3 rfl) ?_
  refine mq_cs (As := [.int (iZ fe)]) (rest := [.int (iZ nn)]) ⟨hx, hb, hml, hown, hts⟩ (C_liftOf l fe (by omega)) (va_cwS 1 hts gX8_landsBy_X8_liftOf rfl rfl rfl (by decide +kernel) ⟨Nat.le_of_ble_eq_true rfl, Nat.le_of_ble_eq_true rfl⟩) rfl rfl hl.1 (Nat.le_of_ble_eq_true rfl) ⟨Nat.le_of_ble_eq_true rfl, Nat.le_of_ble_eq_true rfl⟩ dX8_landsBy_3 ?_
  have hlf := s_lift_bd fe
  refine z_imul hx hb dX8_landsBy_6 ?_
  refine lv_aload_n hx hb dX8_landsBy_7 rfl (lv_at hl 0 rfl) ?_
  refine mq_get hx hb hts hin hown hK hP 7 (by decide) (hts (.fieldLink RX8 29 "WordFletchersModel" "twist" "[I") (List.mem_cons_of_mem _ (List.mem_append_left _ (List.mem_of_getElem? (i := 0) rfl)))) rfl dX8_landsBy_8 ?_
  refine lv_iload_n hx hb dX8_landsBy_11 rfl (lv_at hl 2 rfl) ?_
  refine mq_iald hx hb hK hP 7 7 (n := 12) rfl (by decide) (Int.toNat sy) rfl (by omega) dX8_landsBy_12 ?_
  refine z_iadd hx hb dX8_landsBy_13 ?_
  refine lv_aload_n hx hb dX8_landsBy_14 rfl (lv_at hl 0 rfl) ?_
  refine mq_get hx hb hts hin hown hK hP 6 (by decide) (hts (.fieldLink RX8 26 "WordFletchersModel" "weight" "[I") (List.mem_cons_of_mem _ (List.mem_append_left _ (List.mem_of_getElem? (i := 1) rfl)))) rfl dX8_landsBy_15 ?_
  refine W.eq (g2 := F0 m 18 ls [.ref (a 6), .int (iZ ((nn * s_lift fe) + (M 7 (Int.toNat sy))))]) rfl ?_
  refine lv_iload_n hx hb dX8_landsBy_18 rfl (lv_at hl 2 rfl) ?_
  refine mq_iald hx hb hK hP 6 6 (n := 12) rfl (by decide) (Int.toNat sy) rfl (by omega) dX8_landsBy_19 ?_
  refine z_isub hx hb dX8_landsBy_20 ?_
  refine lv_iload_n hx hb dX8_landsBy_21 rfl (lv_at hl 3 rfl) ?_
  refine lv_iconst (v := iZ 2) hx hb dX8_landsBy_22 (by decide) ?_
  have K3 : ∀ (v2 : Int), (v2 = (if fe = 2 then 0 else (M 19 1))) → ∀ ls : Array Slot, lv_has ls 11 [(0, .ref h), (1, .int (iZ pe)), (2, .int (iZ sy)), (3, .int (iZ fe)), (4, .int (iZ nn)), (5, .int (iZ sd)), (6, .int (iZ bw))] → W p l e ((headSpec wsX8_landsBy ({ frames := 1, cells := 0, slots := 0, locals := 22 })).room) s m (([.ref h, .int (iZ pe), .int (iZ sy), .int (iZ fe), .int (iZ nn), .int (iZ sd), .int (iZ bw)] : List Value).toArray) below meth c s.heap [] 0 0 (MQ below (vp_Si (fun r => r = iZ (s_land (M 3 (Int.toNat pe)) (M 7 (Int.toNat sy)) (M 6 (Int.toNat sy)) (M 19 1) fe nn sd bw))) (([.ref h, .int (iZ pe), .int (iZ sy), .int (iZ fe), .int (iZ nn), .int (iZ sd), .int (iZ bw)] : List Value).toArray) s 0 0 (fun _ => False)) (F0 m 36 ls [.int (iZ v2), .int (iZ (((nn * s_lift fe) + (M 7 (Int.toNat sy))) - (M 6 (Int.toNat sy))))]) := by
    intro v2 hv2 ls hl
    refine W.eq (g2 := F0 m 36 ls [.int (iZ v2), .int (iZ (((nn * s_lift fe) + (M 7 (Int.toNat sy))) - (M 6 (Int.toNat sy))))]) rfl ?_
    refine z_isub hx hb dX8_landsBy_36 ?_
    refine lv_istore (lv' := [(7, .int (iZ ((((nn * s_lift fe) + (M 7 (Int.toNat sy))) - (M 6 (Int.toNat sy))) - v2))), (0, .ref h), (1, .int (iZ pe)), (2, .int (iZ sy)), (3, .int (iZ fe)), (4, .int (iZ nn)), (5, .int (iZ sd)), (6, .int (iZ bw))]) hx hb dX8_landsBy_37 hl (by decide) rfl (fun ls hl => ?_)
    refine lv_iload hx hb dX8_landsBy_39 (lv_at hl 5 rfl) ?_
    have K7 : ∀ (v6 : Int), (v6 = (if nn = 0 then (M 7 (Int.toNat sy)) else (if 0 ≤ ((((nn * s_lift fe) + (M 7 (Int.toNat sy))) - (M 6 (Int.toNat sy))) - v2) then ((((nn * s_lift fe) + (M 7 (Int.toNat sy))) - (M 6 (Int.toNat sy))) - v2) else 0))) → ∀ ls : Array Slot, lv_has ls 11 [(0, .ref h), (1, .int (iZ pe)), (3, .int (iZ fe)), (4, .int (iZ nn)), (5, .int (iZ sd)), (6, .int (iZ bw))] → W p l e ((headSpec wsX8_landsBy ({ frames := 1, cells := 0, slots := 0, locals := 22 })).room) s m (([.ref h, .int (iZ pe), .int (iZ sy), .int (iZ fe), .int (iZ nn), .int (iZ sd), .int (iZ bw)] : List Value).toArray) below meth c s.heap [] 0 0 (MQ below (vp_Si (fun r => r = iZ (s_land (M 3 (Int.toNat pe)) (M 7 (Int.toNat sy)) (M 6 (Int.toNat sy)) (M 19 1) fe nn sd bw))) (([.ref h, .int (iZ pe), .int (iZ sy), .int (iZ fe), .int (iZ nn), .int (iZ sd), .int (iZ bw)] : List Value).toArray) s 0 0 (fun _ => False)) (F0 m 64 ls [.int (iZ v6)]) := by
      intro v6 hv6 ls hl
      refine lv_istore (lv' := [(7, .int (iZ v6)), (0, .ref h), (1, .int (iZ pe)), (3, .int (iZ fe)), (4, .int (iZ nn)), (5, .int (iZ sd)), (6, .int (iZ bw))]) hx hb dX8_landsBy_64 hl (by decide) rfl (fun ls hl => ?_)
      refine lv_iload hx hb dX8_landsBy_66 (lv_at hl 4 rfl) ?_
      have K12 : ∀ (v11 : Int), (v11 = (if nn = 0 then (if sd = 0 then 1 else 0) else (if sd = 1 then 1 else 0))) → ∀ ls : Array Slot, lv_has ls 11 [(7, .int (iZ v6)), (0, .ref h), (1, .int (iZ pe)), (3, .int (iZ fe)), (4, .int (iZ nn)), (6, .int (iZ bw))] → W p l e ((headSpec wsX8_landsBy ({ frames := 1, cells := 0, slots := 0, locals := 22 })).room) s m (([.ref h, .int (iZ pe), .int (iZ sy), .int (iZ fe), .int (iZ nn), .int (iZ sd), .int (iZ bw)] : List Value).toArray) below meth c s.heap [] 0 0 (MQ below (vp_Si (fun r => r = iZ (s_land (M 3 (Int.toNat pe)) (M 7 (Int.toNat sy)) (M 6 (Int.toNat sy)) (M 19 1) fe nn sd bw))) (([.ref h, .int (iZ pe), .int (iZ sy), .int (iZ fe), .int (iZ nn), .int (iZ sd), .int (iZ bw)] : List Value).toArray) s 0 0 (fun _ => False)) (F0 m 95 ls [.int (iZ v11)]) := by
        intro v11 hv11 ls hl
        refine lv_istore (lv' := [(8, .int (iZ v11)), (7, .int (iZ v6)), (0, .ref h), (1, .int (iZ pe)), (3, .int (iZ fe)), (4, .int (iZ nn)), (6, .int (iZ bw))]) hx hb dX8_landsBy_95 hl (by decide) rfl (fun ls hl => ?_)
        refine lv_iload hx hb dX8_landsBy_97 (lv_at hl 1 rfl) ?_
        have K17 : ∀ (v16 : Int), (v16 = (if v6 ≤ 0 then 0 else (if nn = 0 then 1 else (if fe = 3 then 0 else 1)))) → ∀ ls : Array Slot, lv_has ls 11 [(8, .int (iZ v11)), (7, .int (iZ v6)), (0, .ref h), (1, .int (iZ pe)), (6, .int (iZ bw))] → W p l e ((headSpec wsX8_landsBy ({ frames := 1, cells := 0, slots := 0, locals := 22 })).room) s m (([.ref h, .int (iZ pe), .int (iZ sy), .int (iZ fe), .int (iZ nn), .int (iZ sd), .int (iZ bw)] : List Value).toArray) below meth c s.heap [] 0 0 (MQ below (vp_Si (fun r => r = iZ (s_land (M 3 (Int.toNat pe)) (M 7 (Int.toNat sy)) (M 6 (Int.toNat sy)) (M 19 1) fe nn sd bw))) (([.ref h, .int (iZ pe), .int (iZ sy), .int (iZ fe), .int (iZ nn), .int (iZ sd), .int (iZ bw)] : List Value).toArray) s 0 0 (fun _ => False)) (F0 m 117 ls [.int (iZ v16)]) := by
          intro v16 hv16 ls hl
          refine lv_istore (lv' := [(9, .int (iZ v16)), (8, .int (iZ v11)), (7, .int (iZ v6)), (0, .ref h), (1, .int (iZ pe)), (6, .int (iZ bw))]) hx hb dX8_landsBy_117 hl (by decide) rfl (fun ls hl => ?_)
          refine lv_aload_n hx hb dX8_landsBy_119 rfl (lv_at hl 3 rfl) ?_
          refine mq_get hx hb hts hin hown hK hP 3 (by decide) (hts (.fieldLink RX8 17 "WordFletchersModel" "place" "[I") (List.mem_cons_of_mem _ (List.mem_append_left _ (List.mem_of_getElem? (i := 3) rfl)))) rfl dX8_landsBy_120 ?_
          refine lv_iload_n hx hb dX8_landsBy_123 rfl (lv_at hl 4 rfl) ?_
          refine mq_iald hx hb hK hP 3 3 (n := 12) rfl (by decide) (Int.toNat pe) rfl (by omega) dX8_landsBy_124 ?_
          refine W.eq (g2 := F0 m 125 ls [.int (iZ (M 3 (Int.toNat pe)))]) rfl ?_
          refine lv_iload hx hb dX8_landsBy_125 (lv_at hl 1 rfl) ?_
          have K20 : ∀ (v19 : Int), (v19 = (if v11 = 0 then (-v6) else v6)) → ∀ ls : Array Slot, lv_has ls 11 [(9, .int (iZ v16)), (6, .int (iZ bw))] → W p l e ((headSpec wsX8_landsBy ({ frames := 1, cells := 0, slots := 0, locals := 22 })).room) s m (([.ref h, .int (iZ pe), .int (iZ sy), .int (iZ fe), .int (iZ nn), .int (iZ sd), .int (iZ bw)] : List Value).toArray) below meth c s.heap [] 0 0 (MQ below (vp_Si (fun r => r = iZ (s_land (M 3 (Int.toNat pe)) (M 7 (Int.toNat sy)) (M 6 (Int.toNat sy)) (M 19 1) fe nn sd bw))) (([.ref h, .int (iZ pe), .int (iZ sy), .int (iZ fe), .int (iZ nn), .int (iZ sd), .int (iZ bw)] : List Value).toArray) s 0 0 (fun _ => False)) (F0 m 138 ls [.int (iZ v19), .int (iZ (M 3 (Int.toNat pe)))]) := by
            intro v19 hv19 ls hl
            refine z_iadd hx hb dX8_landsBy_138 ?_
            refine lv_iload hx hb dX8_landsBy_139 (lv_at hl 0 rfl) ?_
            have K23 : ∀ (v22 : Int), (v22 = (if v16 = 0 then 0 else bw)) → ∀ ls : Array Slot, lv_has ls 11 [] → W p l e ((headSpec wsX8_landsBy ({ frames := 1, cells := 0, slots := 0, locals := 22 })).room) s m (([.ref h, .int (iZ pe), .int (iZ sy), .int (iZ fe), .int (iZ nn), .int (iZ sd), .int (iZ bw)] : List Value).toArray) below meth c s.heap [] 0 0 (MQ below (vp_Si (fun r => r = iZ (s_land (M 3 (Int.toNat pe)) (M 7 (Int.toNat sy)) (M 6 (Int.toNat sy)) (M 19 1) fe nn sd bw))) (([.ref h, .int (iZ pe), .int (iZ sy), .int (iZ fe), .int (iZ nn), .int (iZ sd), .int (iZ bw)] : List Value).toArray) s 0 0 (fun _ => False)) (F0 m 150 ls [.int (iZ v22), .int (iZ ((M 3 (Int.toNat pe)) + v19))]) := by
              intro v22 hv22 ls hl
              refine W.eq (g2 := F0 m 150 ls [.int (iZ v22), .int (iZ ((M 3 (Int.toNat pe)) + v19))]) rfl ?_
              refine z_iadd hx hb dX8_landsBy_150 ?_
              refine lv_istore (lv' := [(10, .int (iZ (((M 3 (Int.toNat pe)) + v19) + v22)))]) hx hb dX8_landsBy_151 hl (by decide) rfl (fun ls hl => ?_)
              refine lv_iload hx hb dX8_landsBy_153 (lv_at hl 0 rfl) ?_
              refine lv_iconst (v := iZ 0) hx hb dX8_landsBy_155 (by decide) ?_
              refine lv_bipush (v := iZ 30) hx hb dX8_landsBy_156 (by decide) ?_
              refine mq_cs (As := [.int (iZ (((M 3 (Int.toNat pe)) + v19) + v22)), .int (iZ 0), .int (iZ 30)]) (rest := []) ⟨hx, hb, hml, hown, hts⟩ (C_in l (((M 3 (Int.toNat pe)) + v19) + v22) 0 30 (by omega) (by omega) (by omega)) (va_cwS 3 hts gX8_landsBy_X8_in rfl rfl rfl (by decide +kernel) ⟨Nat.le_of_ble_eq_true rfl, Nat.le_of_ble_eq_true rfl⟩) rfl rfl hl.1 (Nat.le_of_ble_eq_true rfl) ⟨Nat.le_of_ble_eq_true rfl, Nat.le_of_ble_eq_true rfl⟩ dX8_landsBy_158 ?_
              have K26 : ∀ (v25 : Int), (v25 = (if (0 ≤ (((M 3 (Int.toNat pe)) + v19) + v22) ∧ (((M 3 (Int.toNat pe)) + v19) + v22) ≤ 30) then (((M 3 (Int.toNat pe)) + v19) + v22) else (-9))) → ∀ ls : Array Slot, lv_has ls 11 [] → W p l e ((headSpec wsX8_landsBy ({ frames := 1, cells := 0, slots := 0, locals := 22 })).room) s m (([.ref h, .int (iZ pe), .int (iZ sy), .int (iZ fe), .int (iZ nn), .int (iZ sd), .int (iZ bw)] : List Value).toArray) below meth c s.heap [] 0 0 (MQ below (vp_Si (fun r => r = iZ (s_land (M 3 (Int.toNat pe)) (M 7 (Int.toNat sy)) (M 6 (Int.toNat sy)) (M 19 1) fe nn sd bw))) (([.ref h, .int (iZ pe), .int (iZ sy), .int (iZ fe), .int (iZ nn), .int (iZ sd), .int (iZ bw)] : List Value).toArray) s 0 0 (fun _ => False)) (F0 m 171 ls [.int (iZ v25)]) := by
                intro v25 hv25 ls hl
                exact mq_ret hx hb hr rfl (by unfold s_land s_to s_fly; first | omega | ((repeat' split) <;> first | rfl | omega)) dX8_landsBy_171 hlocks rfl
              refine z_ifb_eq (P := (0 ≤ (((M 3 (Int.toNat pe)) + v19) + v22) ∧ (((M 3 (Int.toNat pe)) + v19) + v22) ≤ 30)) (tgt := 169) hx hb dX8_landsBy_161 (by decide) (fun c24 => ?_) (fun c24 => ?_)
              · refine lv_bipush (v := iZ (-9)) hx hb dX8_landsBy_169 (by decide) ?_
                exact K26 (-9) (by first | rfl | (rw [if_neg c24]; done) | omega | (subst_vars; first | rfl | (rw [if_neg c24]; done) | omega)) ls (lv_sub hl [] rfl)
              · refine lv_iload hx hb dX8_landsBy_164 (lv_at hl 0 rfl) ?_
                refine lv_goto (tgt := 171) hx hb dX8_landsBy_166 (by decide) ?_
                exact K26 (((M 3 (Int.toNat pe)) + v19) + v22) (by first | rfl | (rw [if_pos c24]; done) | omega | (subst_vars; first | rfl | (rw [if_pos c24]; done) | omega)) ls (lv_sub hl [] rfl)
            refine z_if_eq (x := v16) (tgt := 149) hx hb (by omega) dX8_landsBy_141 (by decide) (fun c21 => ?_) (fun c21 => ?_)
            · refine lv_iconst (v := iZ 0) hx hb dX8_landsBy_149 (by decide) ?_
              exact K23 0 (by first | rfl | (rw [if_pos c21]; done) | omega | (subst_vars; first | rfl | (rw [if_pos c21]; done) | omega)) ls (lv_sub hl [] rfl)
            · refine lv_iload hx hb dX8_landsBy_144 (lv_at hl 1 rfl) ?_
              refine lv_goto (tgt := 150) hx hb dX8_landsBy_146 (by decide) ?_
              exact K23 bw (by first | rfl | (rw [if_neg c21]; done) | omega | (subst_vars; first | rfl | (rw [if_neg c21]; done) | omega)) ls (lv_sub hl [] rfl)
          refine z_if_eq (x := v11) (tgt := 135) hx hb (by omega) dX8_landsBy_127 (by decide) (fun c18 => ?_) (fun c18 => ?_)
          · refine lv_iload hx hb dX8_landsBy_135 (lv_at hl 2 rfl) ?_
            refine z_ineg hx hb dX8_landsBy_137 ?_
            exact K20 (-v6) (by first | rfl | (rw [if_pos c18]; done) | omega | (subst_vars; first | rfl | (rw [if_pos c18]; done) | omega)) ls (lv_sub hl [0, 5] rfl)
          · refine lv_iload hx hb dX8_landsBy_130 (lv_at hl 2 rfl) ?_
            refine lv_goto (tgt := 138) hx hb dX8_landsBy_132 (by decide) ?_
            exact K20 v6 (by first | rfl | (rw [if_neg c18]; done) | omega | (subst_vars; first | rfl | (rw [if_neg c18]; done) | omega)) ls (lv_sub hl [0, 5] rfl)
        refine z_if_le (x := v6) (tgt := 116) hx hb (by omega) dX8_landsBy_99 (by decide) (fun c13 => ?_) (fun c13 => ?_)
        · refine lv_iconst (v := iZ 0) hx hb dX8_landsBy_116 (by decide) ?_
          exact K17 0 (by first | rfl | (rw [if_pos c13]; done) | omega | (subst_vars; first | rfl | (rw [if_pos c13]; done) | omega)) ls (lv_sub hl [0, 1, 2, 3, 6] rfl)
        · refine lv_iload hx hb dX8_landsBy_102 (lv_at hl 5 rfl) ?_
          refine z_if_eq (x := nn) (tgt := 112) hx hb (by omega) dX8_landsBy_104 (by decide) (fun c14 => ?_) (fun c14 => ?_)
          · refine lv_iconst (v := iZ 1) hx hb dX8_landsBy_112 (by decide) ?_
            refine W.eq (g2 := F0 m 113 ls [.int (iZ 1)]) rfl ?_
            refine lv_goto (tgt := 117) hx hb dX8_landsBy_113 (by decide) ?_
            exact K17 1 (by first | rfl | (rw [if_neg c13, if_pos c14]; done) | omega | (subst_vars; first | rfl | (rw [if_neg c13, if_pos c14]; done) | omega)) ls (lv_sub hl [0, 1, 2, 3, 6] rfl)
          · refine lv_iload_n hx hb dX8_landsBy_107 rfl (lv_at hl 4 rfl) ?_
            refine lv_iconst (v := iZ 3) hx hb dX8_landsBy_108 (by decide) ?_
            refine z_icmp_eq (x := fe) (y := 3) (tgt := 116) hx hb (by omega) (by omega) dX8_landsBy_109 (by decide) (fun c15 => ?_) (fun c15 => ?_)
            · refine lv_iconst (v := iZ 0) hx hb dX8_landsBy_116 (by decide) ?_
              exact K17 0 (by first | rfl | (rw [if_neg c13, if_neg c14, if_pos c15]; done) | omega | (subst_vars; first | rfl | (rw [if_neg c13, if_neg c14, if_pos c15]; done) | omega)) ls (lv_sub hl [0, 1, 2, 3, 6] rfl)
            · refine lv_iconst (v := iZ 1) hx hb dX8_landsBy_112 (by decide) ?_
              refine lv_goto (tgt := 117) hx hb dX8_landsBy_113 (by decide) ?_
              exact K17 1 (by first | rfl | (rw [if_neg c13, if_neg c14, if_neg c15]; done) | omega | (subst_vars; first | rfl | (rw [if_neg c13, if_neg c14, if_neg c15]; done) | omega)) ls (lv_sub hl [0, 1, 2, 3, 6] rfl)
      refine z_if_ne (x := nn) (tgt := 84) hx hb (by omega) dX8_landsBy_68 (by decide) (fun c8 => ?_) (fun c8 => ?_)
      · refine lv_iload hx hb dX8_landsBy_84 (lv_at hl 5 rfl) ?_
        refine lv_iconst (v := iZ 1) hx hb dX8_landsBy_86 (by decide) ?_
        refine z_icmp_ne (x := sd) (y := 1) (tgt := 94) hx hb (by omega) (by omega) dX8_landsBy_87 (by decide) (fun c9 => ?_) (fun c9 => ?_)
        · refine lv_iconst (v := iZ 0) hx hb dX8_landsBy_94 (by decide) ?_
          exact K12 0 (by first | rfl | (rw [if_neg c8, if_neg c9]; done) | omega | (subst_vars; first | rfl | (rw [if_neg c8, if_neg c9]; done) | omega)) ls (lv_sub hl [0, 1, 2, 3, 4, 6] rfl)
        · refine lv_iconst (v := iZ 1) hx hb dX8_landsBy_90 (by decide) ?_
          refine lv_goto (tgt := 95) hx hb dX8_landsBy_91 (by decide) ?_
          exact K12 1 (by first | rfl | (rw [if_neg c8, if_pos c9]; done) | omega | (subst_vars; first | rfl | (rw [if_neg c8, if_pos c9]; done) | omega)) ls (lv_sub hl [0, 1, 2, 3, 4, 6] rfl)
      · refine lv_iload hx hb dX8_landsBy_71 (lv_at hl 5 rfl) ?_
        refine W.eq (g2 := F0 m 73 ls [.int (iZ sd)]) rfl ?_
        refine z_if_ne (x := sd) (tgt := 80) hx hb (by omega) dX8_landsBy_73 (by decide) (fun c10 => ?_) (fun c10 => ?_)
        · refine lv_iconst (v := iZ 0) hx hb dX8_landsBy_80 (by decide) ?_
          refine lv_goto (tgt := 95) hx hb dX8_landsBy_81 (by decide) ?_
          exact K12 0 (by first | rfl | (rw [if_pos c8, if_neg c10]; done) | omega | (subst_vars; first | rfl | (rw [if_pos c8, if_neg c10]; done) | omega)) ls (lv_sub hl [0, 1, 2, 3, 4, 6] rfl)
        · refine lv_iconst (v := iZ 1) hx hb dX8_landsBy_76 (by decide) ?_
          refine lv_goto (tgt := 95) hx hb dX8_landsBy_77 (by decide) ?_
          exact K12 1 (by first | rfl | (rw [if_pos c8, if_pos c10]; done) | omega | (subst_vars; first | rfl | (rw [if_pos c8, if_pos c10]; done) | omega)) ls (lv_sub hl [0, 1, 2, 3, 4, 6] rfl)
    refine z_if_ne (x := nn) (tgt := 53) hx hb (by omega) dX8_landsBy_41 (by decide) (fun c4 => ?_) (fun c4 => ?_)
    · refine lv_iload hx hb dX8_landsBy_53 (lv_at hl 0 rfl) ?_
      refine z_if_ge (x := ((((nn * s_lift fe) + (M 7 (Int.toNat sy))) - (M 6 (Int.toNat sy))) - v2)) (tgt := 62) hx hb (by omega) dX8_landsBy_55 (by decide) (fun c5 => ?_) (fun c5 => ?_)
      · refine lv_iload hx hb dX8_landsBy_62 (lv_at hl 0 rfl) ?_
        exact K7 ((((nn * s_lift fe) + (M 7 (Int.toNat sy))) - (M 6 (Int.toNat sy))) - v2) (by first | rfl | (rw [if_neg c4, if_pos c5]; done) | omega | (subst_vars; first | rfl | (rw [if_neg c4, if_pos c5]; done) | omega)) ls (lv_sub hl [1, 2, 4, 5, 6, 7] rfl)
      · refine lv_iconst (v := iZ 0) hx hb dX8_landsBy_58 (by decide) ?_
        refine lv_goto (tgt := 64) hx hb dX8_landsBy_59 (by decide) ?_
        exact K7 0 (by first | rfl | (rw [if_neg c4, if_neg c5]; done) | omega | (subst_vars; first | rfl | (rw [if_neg c4, if_neg c5]; done) | omega)) ls (lv_sub hl [1, 2, 4, 5, 6, 7] rfl)
    · refine lv_aload_n hx hb dX8_landsBy_44 rfl (lv_at hl 1 rfl) ?_
      refine mq_get hx hb hts hin hown hK hP 7 (by decide) (hts (.fieldLink RX8 29 "WordFletchersModel" "twist" "[I") (List.mem_cons_of_mem _ (List.mem_append_left _ (List.mem_of_getElem? (i := 0) rfl)))) rfl dX8_landsBy_45 ?_
      refine lv_iload_n hx hb dX8_landsBy_48 rfl (lv_at hl 3 rfl) ?_
      refine W.eq (g2 := F0 m 49 ls [.int (iZ sy), .ref (a 7)]) rfl ?_
      refine mq_iald hx hb hK hP 7 7 (n := 12) rfl (by decide) (Int.toNat sy) rfl (by omega) dX8_landsBy_49 ?_
      refine lv_goto (tgt := 64) hx hb dX8_landsBy_50 (by decide) ?_
      exact K7 (M 7 (Int.toNat sy)) (by first | rfl | (rw [if_pos c4]; done) | omega | (subst_vars; first | rfl | (rw [if_pos c4]; done) | omega)) ls (lv_sub hl [1, 2, 4, 5, 6, 7] rfl)
  refine z_icmp_ne (x := fe) (y := 2) (tgt := 30) hx hb (by omega) (by omega) dX8_landsBy_23 (by decide) (fun c1 => ?_) (fun c1 => ?_)
  · refine lv_aload_n hx hb dX8_landsBy_30 rfl (lv_at hl 0 rfl) ?_
    refine mq_get hx hb hts hin hown hK hP 19 (by decide) (hts (.fieldLink RX8 44 "WordFletchersModel" "now" "[I") (List.mem_cons_of_mem _ (List.mem_append_left _ (List.mem_of_getElem? (i := 2) rfl)))) rfl dX8_landsBy_31 ?_
    refine lv_iconst (v := iZ 1) hx hb dX8_landsBy_34 (by decide) ?_
    refine mq_iald hx hb hK hP 19 12 (n := 29) rfl (by decide) 1 rfl (by omega) dX8_landsBy_35 ?_
    exact K3 (M 19 1) (by first | rfl | (rw [if_neg c1]; done) | omega | (subst_vars; first | rfl | (rw [if_neg c1]; done) | omega)) ls (lv_sub hl [0, 1, 2, 3, 4, 5, 6] rfl)
  · refine lv_iconst (v := iZ 0) hx hb dX8_landsBy_26 (by decide) ?_
    refine lv_goto (tgt := 36) hx hb dX8_landsBy_27 (by decide) ?_
    exact K3 0 (by first | rfl | (rw [if_pos c1]; done) | omega | (subst_vars; first | rfl | (rw [if_pos c1]; done) | omega)) ls (lv_sub hl [0, 1, 2, 3, 4, 5, 6] rfl)
set_option maxHeartbeats 4000000 in
set_option maxRecDepth 100000 in
theorem C_windIn (l : Launch) (D : va_G) (C : mC) (h : Nat) (a : Nat → Nat) (M : Nat → Nat → Int) (nn : Int) (hI : mI M) (h1 : 0 ≤ nn ∧ nn ≤ 99) : Met l yX8_windIn wsX8_windIn ({ frames := 0, cells := 0, slots := 0, locals := 0 }) (va_Pc [.ref h, .int (iZ nn)] (mOk D C h a M)) (vp_Si (fun r => r = iZ (s_wind M nn))) 0 0 (fun _ => False) := by
  refine Met.ofW (cc := cX8_windIn) (maxL := 2) (ret := (some .int)) (by decide) rfl ?_
  intro p e s m args below meth c s₁ B hml hv
  obtain ⟨rfl, hP, hK⟩ := hv
  have hx := B.exec
  have hb := B.bytes
  have hr := B.returns
  have hts := atoms_spec (ws := wsX8_windIn) B.pre
  have hown : s.vm.findClass RX8 = some m.cls := findClass_of_methodNamed B.named
  have hlocks := B.notSynchronized
  have hin : ∀ w ∈ wsX80, w ∈ wsX8_windIn := fun _ w_h => (List.mem_cons_of_mem _ (List.mem_append_right _ w_h))
  have hl := lv_entry ([.ref h, .int (iZ nn)]) (n := 2) (Nat.le_of_ble_eq_true rfl)
  rw [lg_entry_eq]
  generalize (lg_sl ([.ref h, .int (iZ nn)]) ++ List.replicate (2 - (lg_sl ([.ref h, .int (iZ nn)])).length) Slot.unset).toArray = ls at hl ⊢
  replace hl : lv_has ls 2 [(0, .ref h), (1, .int (iZ nn))] := hl
  have hnw := mI_now hI
  have hmd := z_mod (x := M 19 0 + nn) (y := M 9 0) (by omega)
  refine lv_aload_n hx hb dX8_windIn_0 rfl (lv_at hl 0 rfl) ?_
  refine W.eq (g2 := F0 m 1 ls [.ref h]) rfl ?_
  refine mq_get hx hb hts hin hown hK hP 10 (by decide) (hts (.fieldLink RX8 38 "WordFletchersModel" "wind" "[I") (List.mem_cons_of_mem _ (List.mem_append_left _ (List.mem_of_getElem? (i := 0) rfl)))) rfl dX8_windIn_1 ?_
  refine lv_aload_n hx hb dX8_windIn_4 rfl (lv_at hl 0 rfl) ?_
  refine mq_get hx hb hts hin hown hK hP 19 (by decide) (hts (.fieldLink RX8 44 "WordFletchersModel" "now" "[I") (List.mem_cons_of_mem _ (List.mem_append_left _ (List.mem_of_getElem? (i := 1) rfl)))) rfl dX8_windIn_5 ?_
  refine lv_iconst (v := iZ 0) hx hb dX8_windIn_8 (by decide) ?_
  refine mq_iald hx hb hK hP 19 12 (n := 29) rfl (by decide) 0 rfl (by omega) dX8_windIn_9 ?_
  refine lv_iload_n hx hb dX8_windIn_10 rfl (lv_at hl 1 rfl) ?_
  refine z_iadd hx hb dX8_windIn_11 ?_
  refine lv_aload_n hx hb dX8_windIn_12 rfl (lv_at hl 0 rfl) ?_
  refine mq_get hx hb hts hin hown hK hP 9 (by decide) (hts (.fieldLink RX8 35 "WordFletchersModel" "winds" "[I") (List.mem_cons_of_mem _ (List.mem_append_left _ (List.mem_of_getElem? (i := 2) rfl)))) rfl dX8_windIn_13 ?_
  refine lv_iconst (v := iZ 0) hx hb dX8_windIn_16 (by decide) ?_
  refine mq_iald hx hb hK hP 9 9 (n := 2) rfl (by decide) 0 rfl (by omega) dX8_windIn_17 ?_
  refine z_irem hx hb (by omega) (by omega) dX8_windIn_18 ?_
  refine W.eq (g2 := F0 m 19 ls [.int (iZ (((M 19 0) + nn) % (M 9 0))), .ref (a 10)]) rfl ?_
  refine mq_iald hx hb hK hP 10 10 (n := 12) rfl (by decide) (Int.toNat (((M 19 0) + nn) % (M 9 0))) rfl (by omega) dX8_windIn_19 ?_
  exact mq_ret hx hb hr rfl rfl dX8_windIn_20 hlocks rfl
set_option maxHeartbeats 4000000 in
set_option maxRecDepth 100000 in
theorem C_doesHear (l : Launch) (D : va_G) (C : mC) (h : Nat) (a : Nat → Nat) (M : Nat → Nat → Int) (pe sp : Int) (hI : mI M) (h1 : 0 ≤ pe ∧ pe < M 2 0) (h2 : -9 ≤ sp ∧ sp ≤ 30) : Met l yX8_doesHear wsX8_doesHear ({ frames := 0, cells := 0, slots := 0, locals := 0 }) (va_Pc [.ref h, .int (iZ pe), .int (iZ sp)] (mOk D C h a M)) (vp_Si (fun r => r = iZ (if (s_hear (M 3 (Int.toNat pe)) (M 4 (Int.toNat pe)) sp) then 1 else 0))) 0 0 (fun _ => False) := by
  refine Met.ofW (cc := cX8_doesHear) (maxL := 4) (ret := (some .boolean)) (by decide) rfl ?_
  intro p e s m args below meth c s₁ B hml hv
  obtain ⟨rfl, hP, hK⟩ := hv
  have hx := B.exec
  have hb := B.bytes
  have hr := B.returns
  have hts := atoms_spec (ws := wsX8_doesHear) B.pre
  have hown : s.vm.findClass RX8 = some m.cls := findClass_of_methodNamed B.named
  have hlocks := B.notSynchronized
  have hin : ∀ w ∈ wsX80, w ∈ wsX8_doesHear := fun _ w_h => (List.mem_cons_of_mem _ (List.mem_append_right _ w_h))
  have hl := lv_entry ([.ref h, .int (iZ pe), .int (iZ sp)]) (n := 4) (Nat.le_of_ble_eq_true rfl)
  rw [lg_entry_eq]
  generalize (lg_sl ([.ref h, .int (iZ pe), .int (iZ sp)]) ++ List.replicate (4 - (lg_sl ([.ref h, .int (iZ pe), .int (iZ sp)])).length) Slot.unset).toArray = ls at hl ⊢
  replace hl : lv_has ls 4 [(0, .ref h), (1, .int (iZ pe)), (2, .int (iZ sp))] := hl
  have hnw := mI_now hI
  have hq1 := mI_pe hI h1
  refine lv_aload_n hx hb dX8_doesHear_0 rfl (lv_at hl 0 rfl) ?_
  refine mq_get hx hb hts hin hown hK hP 3 (by decide) (hts (.fieldLink RX8 17 "WordFletchersModel" "place" "[I") (List.mem_cons_of_mem _ (List.mem_append_left _ (List.mem_of_getElem? (i := 0) rfl)))) rfl dX8_doesHear_1 ?_
  refine lv_iload_n hx hb dX8_doesHear_4 rfl (lv_at hl 1 rfl) ?_
  refine mq_iald hx hb hK hP 3 3 (n := 12) rfl (by decide) (Int.toNat pe) rfl (by omega) dX8_doesHear_5 ?_
  refine lv_iload_n hx hb dX8_doesHear_6 rfl (lv_at hl 2 rfl) ?_
  have K3 : ∀ (v2 : Int), (v2 = (if (M 3 (Int.toNat pe)) ≤ sp then (sp - (M 3 (Int.toNat pe))) else ((M 3 (Int.toNat pe)) - sp))) → ∀ ls : Array Slot, lv_has ls 4 [(0, .ref h), (1, .int (iZ pe)), (2, .int (iZ sp))] → W p l e ((headSpec wsX8_doesHear ({ frames := 0, cells := 0, slots := 0, locals := 0 })).room) s m (([.ref h, .int (iZ pe), .int (iZ sp)] : List Value).toArray) below meth c s.heap [] 0 0 (MQ below (vp_Si (fun r => r = iZ (if (s_hear (M 3 (Int.toNat pe)) (M 4 (Int.toNat pe)) sp) then 1 else 0))) (([.ref h, .int (iZ pe), .int (iZ sp)] : List Value).toArray) s 0 0 (fun _ => False)) (F0 m 29 ls [.int (iZ v2)]) := by
    intro v2 hv2 ls hl
    refine lv_istore_n (lv' := [(3, .int (iZ v2)), (0, .ref h), (1, .int (iZ pe)), (2, .int (iZ sp))]) hx hb dX8_doesHear_29 rfl hl (by decide) rfl (fun ls hl => ?_)
    refine lv_iload_n hx hb dX8_doesHear_30 rfl (lv_at hl 3 rfl) ?_
    refine lv_bipush (v := iZ (-9)) hx hb dX8_doesHear_31 (by decide) ?_
    refine W.eq (g2 := F0 m 33 ls [.int (iZ (-9)), .int (iZ sp)]) rfl ?_
    have K7 : ∀ (v6 : Int), (v6 = (if sp = (-9) then 0 else (if (M 4 (Int.toNat pe)) < v2 then 0 else 1))) → ∀ ls : Array Slot, lv_has ls 4 [] → W p l e ((headSpec wsX8_doesHear ({ frames := 0, cells := 0, slots := 0, locals := 0 })).room) s m (([.ref h, .int (iZ pe), .int (iZ sp)] : List Value).toArray) below meth c s.heap [] 0 0 (MQ below (vp_Si (fun r => r = iZ (if (s_hear (M 3 (Int.toNat pe)) (M 4 (Int.toNat pe)) sp) then 1 else 0))) (([.ref h, .int (iZ pe), .int (iZ sp)] : List Value).toArray) s 0 0 (fun _ => False)) (F0 m 51 ls [.int (iZ v6)]) := by
      intro v6 hv6 ls hl
      exact mq_ret hx hb hr (z_nbool (by first | omega | (split <;> omega))) (by first | omega | ((repeat' split) <;> first | rfl | omega)) dX8_doesHear_51 hlocks rfl
    refine z_icmp_eq (x := sp) (y := (-9)) (tgt := 50) hx hb (by omega) (by omega) dX8_doesHear_33 (by decide) (fun c4 => ?_) (fun c4 => ?_)
    · refine lv_iconst (v := iZ 0) hx hb dX8_doesHear_50 (by decide) ?_
      exact K7 0 (by first | rfl | (rw [if_pos c4]; done) | omega | (subst_vars; first | rfl | (rw [if_pos c4]; done) | omega)) ls (lv_sub hl [] rfl)
    · refine lv_iload_n hx hb dX8_doesHear_36 rfl (lv_at hl 0 rfl) ?_
      refine lv_aload_n hx hb dX8_doesHear_37 rfl (lv_at hl 1 rfl) ?_
      refine mq_get hx hb hts hin hown hK hP 4 (by decide) (hts (.fieldLink RX8 20 "WordFletchersModel" "ear" "[I") (List.mem_cons_of_mem _ (List.mem_append_left _ (List.mem_of_getElem? (i := 1) rfl)))) rfl dX8_doesHear_38 ?_
      refine lv_iload_n hx hb dX8_doesHear_41 rfl (lv_at hl 2 rfl) ?_
      refine mq_iald hx hb hK hP 4 4 (n := 12) rfl (by decide) (Int.toNat pe) rfl (by omega) dX8_doesHear_42 ?_
      refine z_icmp_gt (x := v2) (y := (M 4 (Int.toNat pe))) (tgt := 50) hx hb (by omega) (by omega) dX8_doesHear_43 (by decide) (fun c5 => ?_) (fun c5 => ?_)
      · refine lv_iconst (v := iZ 0) hx hb dX8_doesHear_50 (by decide) ?_
        exact K7 0 (by first | rfl | (rw [if_neg c4, if_pos c5]; done) | omega | (subst_vars; first | rfl | (rw [if_neg c4, if_pos c5]; done) | omega)) ls (lv_sub hl [] rfl)
      · refine lv_iconst (v := iZ 1) hx hb dX8_doesHear_46 (by decide) ?_
        refine lv_goto (tgt := 51) hx hb dX8_doesHear_47 (by decide) ?_
        exact K7 1 (by first | rfl | (rw [if_neg c4, if_neg c5]; done) | omega | (subst_vars; first | rfl | (rw [if_neg c4, if_neg c5]; done) | omega)) ls (lv_sub hl [] rfl)
  refine z_icmp_le (x := (M 3 (Int.toNat pe))) (y := sp) (tgt := 21) hx hb (by omega) (by omega) dX8_doesHear_7 (by decide) (fun c1 => ?_) (fun c1 => ?_)
  · refine lv_iload_n hx hb dX8_doesHear_21 rfl (lv_at hl 2 rfl) ?_
    refine lv_aload_n hx hb dX8_doesHear_22 rfl (lv_at hl 0 rfl) ?_
    refine mq_get hx hb hts hin hown hK hP 3 (by decide) (hts (.fieldLink RX8 17 "WordFletchersModel" "place" "[I") (List.mem_cons_of_mem _ (List.mem_append_left _ (List.mem_of_getElem? (i := 0) rfl)))) rfl dX8_doesHear_23 ?_
    refine lv_iload_n hx hb dX8_doesHear_26 rfl (lv_at hl 1 rfl) ?_
    refine W.eq (g2 := F0 m 27 ls [.int (iZ pe), .ref (a 3), .int (iZ sp)]) rfl ?_
    refine mq_iald hx hb hK hP 3 3 (n := 12) rfl (by decide) (Int.toNat pe) rfl (by omega) dX8_doesHear_27 ?_
    refine z_isub hx hb dX8_doesHear_28 ?_
    exact K3 (sp - (M 3 (Int.toNat pe))) (by first | rfl | (rw [if_pos c1]; done) | omega | (subst_vars; first | rfl | (rw [if_pos c1]; done) | omega)) ls (lv_sub hl [0, 1, 2] rfl)
  · refine lv_aload_n hx hb dX8_doesHear_10 rfl (lv_at hl 0 rfl) ?_
    refine mq_get hx hb hts hin hown hK hP 3 (by decide) (hts (.fieldLink RX8 17 "WordFletchersModel" "place" "[I") (List.mem_cons_of_mem _ (List.mem_append_left _ (List.mem_of_getElem? (i := 0) rfl)))) rfl dX8_doesHear_11 ?_
    refine lv_iload_n hx hb dX8_doesHear_14 rfl (lv_at hl 1 rfl) ?_
    refine mq_iald hx hb hK hP 3 3 (n := 12) rfl (by decide) (Int.toNat pe) rfl (by omega) dX8_doesHear_15 ?_
    refine lv_iload_n hx hb dX8_doesHear_16 rfl (lv_at hl 2 rfl) ?_
    refine z_isub hx hb dX8_doesHear_17 ?_
    refine lv_goto (tgt := 29) hx hb dX8_doesHear_18 (by decide) ?_
    exact K3 ((M 3 (Int.toNat pe)) - sp) (by first | rfl | (rw [if_neg c1]; done) | omega | (subst_vars; first | rfl | (rw [if_neg c1]; done) | omega)) ls (lv_sub hl [0, 1, 2] rfl)
set_option maxHeartbeats 4000000 in
set_option maxRecDepth 100000 in
theorem C_hearersOf (l : Launch) (D : va_G) (C : mC) (h : Nat) (a : Nat → Nat) (M : Nat → Nat → Int) (sp but : Int) (hI : mI M) (h1 : -9 ≤ sp ∧ sp ≤ 30) (h2 : -2147483648 ≤ but ∧ but < 2147483648) : Met l yX8_hearersOf wsX8_hearersOf ({ frames := 1, cells := 0, slots := 0, locals := 23 }) (va_Pc [.ref h, .int (iZ sp), .int (iZ but)] (mOk D C h a M)) (vp_Si (fun r => r = iZ (s_hearers M sp but))) 0 0 (fun _ => False) := by
  refine Met.ofW (cc := cX8_hearersOf) (maxL := 5) (ret := (some .int)) (by decide) rfl ?_
  intro p e s m args below meth c s₁ B hml hv
  obtain ⟨rfl, hP, hK⟩ := hv
  have hx := B.exec
  have hb := B.bytes
  have hr := B.returns
  have hts := atoms_spec (ws := wsX8_hearersOf) B.pre
  have hown : s.vm.findClass RX8 = some m.cls := findClass_of_methodNamed B.named
  have hlocks := B.notSynchronized
  have hin : ∀ w ∈ wsX80, w ∈ wsX8_hearersOf := fun _ w_h => (List.mem_cons_of_mem _ (List.mem_append_right _ w_h))
  have hl := lv_entry ([.ref h, .int (iZ sp), .int (iZ but)]) (n := 5) (Nat.le_of_ble_eq_true rfl)
  rw [lg_entry_eq]
  generalize (lg_sl ([.ref h, .int (iZ sp), .int (iZ but)]) ++ List.replicate (5 - (lg_sl ([.ref h, .int (iZ sp), .int (iZ but)])).length) Slot.unset).toArray = ls at hl ⊢
  replace hl : lv_has ls 5 [(0, .ref h), (1, .int (iZ sp)), (2, .int (iZ but))] := hl
  have hnw := mI_now hI
  refine W.eq (g2 := F0 m 0 ls []) rfl ?_
  refine lv_iconst (v := iZ 0) hx hb dX8_hearersOf_0 (by decide) ?_
  refine lv_istore_n (lv' := [(3, .int (iZ 0)), (0, .ref h), (1, .int (iZ sp)), (2, .int (iZ but))]) hx hb dX8_hearersOf_1 rfl hl (by decide) rfl (fun ls hl => ?_)
  refine lv_iconst (v := iZ 0) hx hb dX8_hearersOf_2 (by decide) ?_
  refine lv_istore (lv' := [(4, .int (iZ 0)), (3, .int (iZ 0)), (0, .ref h), (1, .int (iZ sp)), (2, .int (iZ but))]) hx hb dX8_hearersOf_3 hl (by decide) rfl (fun ls hl => ?_)
  replace hl : lv_has ls 5 [(4, .int (iZ (0 : Int))), (3, .int (iZ (0 : Int))), (0, .ref h), (1, .int (iZ sp)), (2, .int (iZ but))] := lv_sub hl [0, 1, 2, 3, 4] rfl
  revert ls
  refine z_loop (σ := Int × Int) (fun x9 => (0 ≤ x9.2 ∧ x9.2 ≤ M 2 0) ∧ (x9.1 = s_heN (M 3) (M 4) sp but (Int.toNat x9.2))) (fun x9 => [(4, .int (iZ (x9.2))), (3, .int (iZ (x9.1))), (0, .ref h), (1, .int (iZ sp)), (2, .int (iZ but))]) 5 (fun x9 => (M 2 0 - x9.2).toNat) ((0 : Int), (0 : Int)) ⟨(by show 0 ≤ (0 : Int) ∧ (0 : Int) ≤ M 2 0; omega), (by show (0 : Int) = s_heN (M 3) (M 4) sp but (Int.toNat (0 : Int)); rfl)⟩ ?_
  rintro ⟨st, kk⟩ hI9 ih5 ls hl
  obtain ⟨i1, i2⟩ := hI9
  replace i1 : 0 ≤ kk ∧ kk ≤ M 2 0 := i1
  replace i2 : st = s_heN (M 3) (M 4) sp but (Int.toNat kk) := i2
  replace hl : lv_has ls 5 [(4, .int (iZ kk)), (3, .int (iZ st)), (0, .ref h), (1, .int (iZ sp)), (2, .int (iZ but))] := hl
  have hbd := s_heN_bd (M 3) (M 4) sp but (Int.toNat kk) 6 (by omega)
  have hzp := zp_nn kk
  refine lv_iload hx hb dX8_hearersOf_5 (lv_at hl 0 rfl) ?_
  refine lv_aload_n hx hb dX8_hearersOf_7 rfl (lv_at hl 2 rfl) ?_
  refine mq_get hx hb hts hin hown hK hP 2 (by decide) (hts (.fieldLink RX8 13 "WordFletchersModel" "people" "[I") (List.mem_cons_of_mem _ (List.mem_append_left _ (List.mem_of_getElem? (i := 0) rfl)))) rfl dX8_hearersOf_8 ?_
  refine lv_iconst (v := iZ 0) hx hb dX8_hearersOf_11 (by decide) ?_
  refine mq_iald hx hb hK hP 2 2 (n := 2) rfl (by decide) 0 rfl (by omega) dX8_hearersOf_12 ?_
  refine z_icmp_ge (x := kk) (y := (M 2 0)) (tgt := 49) hx hb (by omega) (by omega) dX8_hearersOf_13 (by decide) (fun c1 => ?_) (fun c1 => ?_)
  · refine lv_iload_n hx hb dX8_hearersOf_49 rfl (lv_at hl 1 rfl) ?_
    exact mq_ret hx hb hr rfl (by have q : kk = M 2 0 := (by omega); rw [i2, q]; rfl) dX8_hearersOf_50 hlocks rfl
  · refine lv_iload_n hx hb dX8_hearersOf_16 rfl (lv_at hl 1 rfl) ?_
    refine lv_iload hx hb dX8_hearersOf_17 (lv_at hl 0 rfl) ?_
    refine lv_iload_n hx hb dX8_hearersOf_19 rfl (lv_at hl 4 rfl) ?_
    have K9 : ∀ (v8 : Int), (v8 = (if kk = but then 0 else (if (s_hear (M 3 (Int.toNat kk)) (M 4 (Int.toNat kk)) sp) then (zp kk) else 0))) → ∀ ls : Array Slot, lv_has ls 5 [(4, .int (iZ kk)), (0, .ref h), (1, .int (iZ sp)), (2, .int (iZ but))] → W p l e ((headSpec wsX8_hearersOf ({ frames := 1, cells := 0, slots := 0, locals := 23 })).room) s m (([.ref h, .int (iZ sp), .int (iZ but)] : List Value).toArray) below meth c s.heap [] 0 0 (MQ below (vp_Si (fun r => r = iZ (s_hearers M sp but))) (([.ref h, .int (iZ sp), .int (iZ but)] : List Value).toArray) s 0 0 (fun _ => False)) (F0 m 41 ls [.int (iZ v8), .int (iZ st)]) := by
      intro v8 hv8 ls hl
      refine z_ior hx hb (by omega) (by omega) dX8_hearersOf_41 ?_
      refine lv_istore_n (lv' := [(3, .int (iZ (zor st v8))), (4, .int (iZ kk)), (0, .ref h), (1, .int (iZ sp)), (2, .int (iZ but))]) hx hb dX8_hearersOf_42 rfl hl (by decide) rfl (fun ls hl => ?_)
      refine W.eq (g2 := F0 m 43 ls []) rfl ?_
      refine lv_iinc (v := iZ (kk + 1)) (lv' := [(4, .int (iZ (kk + 1))), (3, .int (iZ (zor st v8))), (0, .ref h), (1, .int (iZ sp)), (2, .int (iZ but))]) hx hb dX8_hearersOf_43 hl (k := 1) rfl (iZ_add _ _) (by decide) rfl (fun ls hl => ?_)
      refine lv_goto (tgt := 5) hx hb dX8_hearersOf_46 (by decide) ?_
      exact ih5 ((zor st v8), (kk + 1)) ⟨(by show 0 ≤ (kk + 1) ∧ (kk + 1) ≤ M 2 0; omega), (by show (zor st v8) = s_heN (M 3) (M 4) sp but (Int.toNat (kk + 1)); rw [s_heN_succ _ _ _ _ (by omega), ← i2]; congr 1; omega)⟩ (by show (M 2 0 - (kk + 1)).toNat < (M 2 0 - kk).toNat; omega) ls (lv_sub hl [0, 1, 2, 3, 4] rfl)
    refine z_icmp_eq (x := kk) (y := but) (tgt := 40) hx hb (by omega) (by omega) dX8_hearersOf_20 (by decide) (fun c6 => ?_) (fun c6 => ?_)
    · refine lv_iconst (v := iZ 0) hx hb dX8_hearersOf_40 (by decide) ?_
      exact K9 0 (by first | rfl | (rw [if_pos c6]; done) | omega | (subst_vars; first | rfl | (rw [if_pos c6]; done) | omega)) ls (lv_sub hl [0, 2, 3, 4] rfl)
    · refine W.eq (g2 := F0 m 23 ls [.int (iZ st)]) rfl ?_
      refine lv_aload_n hx hb dX8_hearersOf_23 rfl (lv_at hl 2 rfl) ?_
      refine lv_iload hx hb dX8_hearersOf_24 (lv_at hl 0 rfl) ?_
      refine lv_iload_n hx hb dX8_hearersOf_26 rfl (lv_at hl 3 rfl) ?_
      refine mq_ci (As := [.int (iZ kk), .int (iZ sp)]) (rest := [.int (iZ st)]) ⟨hx, hb, hml, hown, hts⟩ hK hP (C_doesHear l D C h a M kk sp hI (by omega) (by omega)) (cwV 2 hts gX8_hearersOf_X8_doesHear rfl rfl rfl (by decide +kernel) ⟨Nat.le_of_ble_eq_true rfl, Nat.le_of_ble_eq_true rfl⟩) rfl rfl hl.1 (Nat.le_of_ble_eq_true rfl) ⟨Nat.le_of_ble_eq_true rfl, Nat.le_of_ble_eq_true rfl⟩ dX8_hearersOf_27 ?_
      refine z_ifb_eq (P := (s_hear (M 3 (Int.toNat kk)) (M 4 (Int.toNat kk)) sp)) (tgt := 40) hx hb dX8_hearersOf_30 (by decide) (fun c7 => ?_) (fun c7 => ?_)
      · refine lv_iconst (v := iZ 0) hx hb dX8_hearersOf_40 (by decide) ?_
        exact K9 0 (by first | rfl | (rw [if_neg c6, if_neg c7]; done) | omega | (subst_vars; first | rfl | (rw [if_neg c6, if_neg c7]; done) | omega)) ls (lv_sub hl [0, 2, 3, 4] rfl)
      · refine lv_iconst (v := iZ 1) hx hb dX8_hearersOf_33 (by decide) ?_
        refine lv_iload hx hb dX8_hearersOf_34 (lv_at hl 0 rfl) ?_
        refine z_ishl1 hx hb (by omega) dX8_hearersOf_36 ?_
        refine lv_goto (tgt := 41) hx hb dX8_hearersOf_37 (by decide) ?_
        exact K9 (zp kk) (by first | rfl | (rw [if_neg c6, if_pos c7]; done) | omega | (subst_vars; first | rfl | (rw [if_neg c6, if_pos c7]; done) | omega)) ls (lv_sub hl [0, 2, 3, 4] rfl)
end
section
set_option maxHeartbeats 4000000 in
set_option maxRecDepth 100000 in
theorem C_one (l : Launch) (D : va_G) (C : mC) (h : Nat) (a : Nat → Nat) (M : Nat → Nat → Int) (pe wh : Int) (hI : mI M) (h1 : -2147483648 ≤ pe ∧ pe < 2147483648) (h2 : -2147483648 ≤ wh ∧ wh < 2147483648) : Met l yX8_one wsX8_one ({ frames := 2, cells := 0, slots := 0, locals := 43 }) (va_Pc [.ref h, .int (iZ pe), .int (iZ wh)] (mOk D C h a M)) (vp_Si (fun r => r = iZ (s_one M pe wh))) 0 0 (fun _ => False) := by
  refine Met.ofW (cc := cX8_one) (maxL := 5) (ret := (some .int)) (by decide) rfl ?_
  intro p e s m args below meth c s₁ B hml hv
  obtain ⟨rfl, hP, hK⟩ := hv
  have hx := B.exec
  have hb := B.bytes
  have hr := B.returns
  have hts := atoms_spec (ws := wsX8_one) B.pre
  have hown : s.vm.findClass RX8 = some m.cls := findClass_of_methodNamed B.named
  have hlocks := B.notSynchronized
  have hin : ∀ w ∈ wsX80, w ∈ wsX8_one := fun _ w_h => (List.mem_cons_of_mem _ (List.mem_append_right _ w_h))
  have hl := lv_entry ([.ref h, .int (iZ pe), .int (iZ wh)]) (n := 5) (Nat.le_of_ble_eq_true rfl)
  rw [lg_entry_eq]
  generalize (lg_sl ([.ref h, .int (iZ pe), .int (iZ wh)]) ++ List.replicate (5 - (lg_sl ([.ref h, .int (iZ pe), .int (iZ wh)])).length) Slot.unset).toArray = ls at hl ⊢
  replace hl : lv_has ls 5 [(0, .ref h), (1, .int (iZ pe)), (2, .int (iZ wh))] := hl
  have hnw := mI_now hI
  refine lv_aload_n hx hb dX8_one_0 rfl (lv_at hl 0 rfl) ?_
  refine lv_iload_n hx hb dX8_one_1 rfl (lv_at hl 1 rfl) ?_
  refine mq_ci (As := [.int (iZ pe)]) (rest := []) ⟨hx, hb, hml, hown, hts⟩ hK hP (C_isOne l D C h a M pe hI (by omega)) (cwV 1 hts gX8_one_X8_isOne rfl rfl rfl (by decide +kernel) ⟨Nat.le_of_ble_eq_true rfl, Nat.le_of_ble_eq_true rfl⟩) rfl rfl hl.1 (Nat.le_of_ble_eq_true rfl) ⟨Nat.le_of_ble_eq_true rfl, Nat.le_of_ble_eq_true rfl⟩ dX8_one_2 ?_
  refine z_ifb_ne (P := (0 ≤ pe ∧ pe < M 2 0)) (tgt := 10) hx hb dX8_one_5 (by decide) (fun c1 => ?_) (fun c1 => ?_)
  · refine lv_iconst (v := iZ 0) hx hb dX8_one_10 (by decide) ?_
    refine lv_istore_n (lv' := [(3, .int (iZ 0)), (0, .ref h), (1, .int (iZ pe)), (2, .int (iZ wh))]) hx hb dX8_one_11 rfl hl (by decide) rfl (fun ls hl => ?_)
    refine lv_iload_n hx hb dX8_one_12 rfl (lv_at hl 3 rfl) ?_
    by_cases c2 : wh = 0
    · refine lv_tableIn (off := 27) (tgt := 40) hx hb dX8_one_13 (by rw [iZ_toInt (by omega)]; omega) (by rw [iZ_toInt (by omega)]; omega) (by rw [iZ_toInt (by omega), c2]; rfl) (by decide) ?_
      refine lv_aload_n hx hb dX8_one_40 rfl (lv_at hl 1 rfl) ?_
      refine mq_get hx hb hts hin hown hK hP 3 (by decide) (hts (.fieldLink RX8 17 "WordFletchersModel" "place" "[I") (List.mem_cons_of_mem _ (List.mem_append_left _ (List.mem_of_getElem? (i := 0) rfl)))) rfl dX8_one_41 ?_
      refine W.eq (g2 := F0 m 44 ls [.ref (a 3)]) rfl ?_
      refine lv_iload_n hx hb dX8_one_44 rfl (lv_at hl 2 rfl) ?_
      refine mq_iald hx hb hK hP 3 3 (n := 12) rfl (by decide) (Int.toNat pe) rfl (by omega) dX8_one_45 ?_
      exact mq_ret hx hb hr rfl (by first | (have q : kk = M 5 0 := (by omega); have q2 : st = s_kn M pe := (by rw [i2, q]; rfl); unfold s_one; omega) | (unfold s_one; (repeat' split) <;> first | rfl | omega)) dX8_one_46 hlocks rfl
    by_cases c3 : wh = 1
    · refine lv_tableIn (off := 34) (tgt := 47) hx hb dX8_one_13 (by rw [iZ_toInt (by omega)]; omega) (by rw [iZ_toInt (by omega)]; omega) (by rw [iZ_toInt (by omega), c3]; rfl) (by decide) ?_
      refine lv_aload_n hx hb dX8_one_47 rfl (lv_at hl 1 rfl) ?_
      refine mq_get hx hb hts hin hown hK hP 4 (by decide) (hts (.fieldLink RX8 20 "WordFletchersModel" "ear" "[I") (List.mem_cons_of_mem _ (List.mem_append_left _ (List.mem_of_getElem? (i := 1) rfl)))) rfl dX8_one_48 ?_
      refine lv_iload_n hx hb dX8_one_51 rfl (lv_at hl 2 rfl) ?_
      refine mq_iald hx hb hK hP 4 4 (n := 12) rfl (by decide) (Int.toNat pe) rfl (by omega) dX8_one_52 ?_
      exact mq_ret hx hb hr rfl (by first | (have q : kk = M 5 0 := (by omega); have q2 : st = s_kn M pe := (by rw [i2, q]; rfl); unfold s_one; omega) | (unfold s_one; (repeat' split) <;> first | rfl | omega)) dX8_one_53 hlocks rfl
    by_cases c4 : wh = 2
    · refine lv_tableIn (off := 41) (tgt := 54) hx hb dX8_one_13 (by rw [iZ_toInt (by omega)]; omega) (by rw [iZ_toInt (by omega)]; omega) (by rw [iZ_toInt (by omega), c4]; rfl) (by decide) ?_
      refine lv_iconst (v := iZ 0) hx hb dX8_one_54 (by decide) ?_
      refine lv_istore (lv' := [(4, .int (iZ 0)), (3, .int (iZ 0)), (0, .ref h), (1, .int (iZ pe)), (2, .int (iZ wh))]) hx hb dX8_one_55 hl (by decide) rfl (fun ls hl => ?_)
      replace hl : lv_has ls 5 [(4, .int (iZ (0 : Int))), (3, .int (iZ (0 : Int))), (0, .ref h), (1, .int (iZ pe))] := lv_sub hl [0, 1, 2, 3] rfl
      revert ls
      refine z_loop (σ := Int × Int) (fun x9 => (0 ≤ x9.2 ∧ x9.2 ≤ M 5 0) ∧ (x9.1 = s_knN (M 19) pe (Int.toNat x9.2))) (fun x9 => [(4, .int (iZ (x9.2))), (3, .int (iZ (x9.1))), (0, .ref h), (1, .int (iZ pe))]) 5 (fun x9 => (M 5 0 - x9.2).toNat) ((0 : Int), (0 : Int)) ⟨(by show 0 ≤ (0 : Int) ∧ (0 : Int) ≤ M 5 0; omega), (by show (0 : Int) = s_knN (M 19) pe (Int.toNat (0 : Int)); rfl)⟩ ?_
      rintro ⟨st, kk⟩ hI9 ih57 ls hl
      obtain ⟨i1, i2⟩ := hI9
      replace i1 : 0 ≤ kk ∧ kk ≤ M 5 0 := i1
      replace i2 : st = s_knN (M 19) pe (Int.toNat kk) := i2
      replace hl : lv_has ls 5 [(4, .int (iZ kk)), (3, .int (iZ st)), (0, .ref h), (1, .int (iZ pe))] := hl
      have hbd := s_knN_nn (M 19) pe (Int.toNat kk)
      have hzp := zp_nn kk
      have hkn : kk < M 5 0 → 0 ≤ M 19 (Int.toNat (6 + kk)) ∧ M 19 (Int.toNat (6 + kk)) < 64 := fun q => mI_kn hI ⟨by omega, by omega⟩
      refine lv_iload hx hb dX8_one_57 (lv_at hl 0 rfl) ?_
      refine lv_aload_n hx hb dX8_one_59 rfl (lv_at hl 2 rfl) ?_
      refine W.eq (g2 := F0 m 60 ls [.ref h, .int (iZ kk)]) rfl ?_
      refine mq_get hx hb hts hin hown hK hP 5 (by decide) (hts (.fieldLink RX8 23 "WordFletchersModel" "sayings" "[I") (List.mem_cons_of_mem _ (List.mem_append_left _ (List.mem_of_getElem? (i := 2) rfl)))) rfl dX8_one_60 ?_
      refine lv_iconst (v := iZ 0) hx hb dX8_one_63 (by decide) ?_
      refine mq_iald hx hb hK hP 5 5 (n := 2) rfl (by decide) 0 rfl (by omega) dX8_one_64 ?_
      refine z_icmp_ge (x := kk) (y := (M 5 0)) (tgt := 102) hx hb (by omega) (by omega) dX8_one_65 (by decide) (fun c5 => ?_) (fun c5 => ?_)
      · refine lv_iload_n hx hb dX8_one_102 rfl (lv_at hl 1 rfl) ?_
        refine W.eq (g2 := F0 m 103 ls [.int (iZ st)]) rfl ?_
        exact mq_ret hx hb hr rfl (by first | (have q : kk = M 5 0 := (by omega); have q2 : st = s_kn M pe := (by rw [i2, q]; rfl); unfold s_one; omega) | (unfold s_one; (repeat' split) <;> first | rfl | omega)) dX8_one_103 hlocks rfl
      · refine lv_iload_n hx hb dX8_one_68 rfl (lv_at hl 1 rfl) ?_
        refine lv_aload_n hx hb dX8_one_69 rfl (lv_at hl 2 rfl) ?_
        refine mq_get hx hb hts hin hown hK hP 19 (by decide) (hts (.fieldLink RX8 44 "WordFletchersModel" "now" "[I") (List.mem_cons_of_mem _ (List.mem_append_left _ (List.mem_of_getElem? (i := 3) rfl)))) rfl dX8_one_70 ?_
        refine lv_bipush (v := iZ 6) hx hb dX8_one_73 (by decide) ?_
        refine lv_iload hx hb dX8_one_75 (lv_at hl 0 rfl) ?_
        refine z_iadd hx hb dX8_one_77 ?_
        refine mq_iald hx hb hK hP 19 12 (n := 29) rfl (by decide) (Int.toNat (6 + kk)) rfl (by omega) dX8_one_78 ?_
        refine lv_iload_n hx hb dX8_one_79 rfl (lv_at hl 3 rfl) ?_
        refine mq_cs (As := [.int (iZ (M 19 (Int.toNat (6 + kk)))), .int (iZ pe)]) (rest := [.int (iZ st)]) ⟨hx, hb, hml, hown, hts⟩ (C_has l (M 19 (Int.toNat (6 + kk))) pe (by omega) (by omega)) (va_cwS 2 hts gX8_one_X8_has rfl rfl rfl (by decide +kernel) ⟨Nat.le_of_ble_eq_true rfl, Nat.le_of_ble_eq_true rfl⟩) rfl rfl hl.1 (Nat.le_of_ble_eq_true rfl) ⟨Nat.le_of_ble_eq_true rfl, Nat.le_of_ble_eq_true rfl⟩ dX8_one_80 ?_
        have K11 : ∀ (v10 : Int), (v10 = (if ((M 19 (Int.toNat (6 + kk))) / zp pe % 2 = 1) then (zp kk) else 0)) → ∀ ls : Array Slot, lv_has ls 5 [(4, .int (iZ kk)), (0, .ref h), (1, .int (iZ pe))] → W p l e ((headSpec wsX8_one ({ frames := 2, cells := 0, slots := 0, locals := 43 })).room) s m (([.ref h, .int (iZ pe), .int (iZ wh)] : List Value).toArray) below meth c s.heap [] 0 0 (MQ below (vp_Si (fun r => r = iZ (s_one M pe wh))) (([.ref h, .int (iZ pe), .int (iZ wh)] : List Value).toArray) s 0 0 (fun _ => False)) (F0 m 94 ls [.int (iZ v10), .int (iZ st)]) := by
          intro v10 hv10 ls hl
          refine z_ior hx hb (by omega) (by omega) dX8_one_94 ?_
          refine lv_istore_n (lv' := [(3, .int (iZ (zor st v10))), (4, .int (iZ kk)), (0, .ref h), (1, .int (iZ pe))]) hx hb dX8_one_95 rfl hl (by decide) rfl (fun ls hl => ?_)
          refine lv_iinc (v := iZ (kk + 1)) (lv' := [(4, .int (iZ (kk + 1))), (3, .int (iZ (zor st v10))), (0, .ref h), (1, .int (iZ pe))]) hx hb dX8_one_96 hl (k := 1) rfl (iZ_add _ _) (by decide) rfl (fun ls hl => ?_)
          refine lv_goto (tgt := 57) hx hb dX8_one_99 (by decide) ?_
          exact ih57 ((zor st v10), (kk + 1)) ⟨(by show 0 ≤ (kk + 1) ∧ (kk + 1) ≤ M 5 0; omega), (by show (zor st v10) = s_knN (M 19) pe (Int.toNat (kk + 1)); rw [s_knN_succ _ _ (by omega), ← i2]; congr 1)⟩ (by show (M 5 0 - (kk + 1)).toNat < (M 5 0 - kk).toNat; omega) ls (lv_sub hl [0, 1, 2, 3] rfl)
        refine z_ifb_eq (P := ((M 19 (Int.toNat (6 + kk))) / zp pe % 2 = 1)) (tgt := 93) hx hb dX8_one_83 (by decide) (fun c9 => ?_) (fun c9 => ?_)
        · refine lv_iconst (v := iZ 0) hx hb dX8_one_93 (by decide) ?_
          exact K11 0 (by first | rfl | (rw [if_neg c9]; done) | omega | (subst_vars; first | rfl | (rw [if_neg c9]; done) | omega)) ls (lv_sub hl [0, 2, 3] rfl)
        · refine W.eq (g2 := F0 m 86 ls [.int (iZ st)]) rfl ?_
          refine lv_iconst (v := iZ 1) hx hb dX8_one_86 (by decide) ?_
          refine lv_iload hx hb dX8_one_87 (lv_at hl 0 rfl) ?_
          refine z_ishl1 hx hb (by omega) dX8_one_89 ?_
          refine lv_goto (tgt := 94) hx hb dX8_one_90 (by decide) ?_
          exact K11 (zp kk) (by first | rfl | (rw [if_pos c9]; done) | omega | (subst_vars; first | rfl | (rw [if_pos c9]; done) | omega)) ls (lv_sub hl [0, 2, 3] rfl)
    refine lv_tableOut (tgt := 104) hx hb dX8_one_13 (by rw [iZ_toInt (by omega)]; omega) (by decide) ?_
    refine lv_iconst (v := iZ (-1)) hx hb dX8_one_104 (by decide) ?_
    exact mq_ret hx hb hr rfl (by first | (have q : kk = M 5 0 := (by omega); have q2 : st = s_kn M pe := (by rw [i2, q]; rfl); unfold s_one; omega) | (unfold s_one; (repeat' split) <;> first | rfl | omega)) dX8_one_105 hlocks rfl
  · refine lv_iconst (v := iZ (-1)) hx hb dX8_one_8 (by decide) ?_
    exact mq_ret hx hb hr rfl (by first | (have q : kk = M 5 0 := (by omega); have q2 : st = s_kn M pe := (by rw [i2, q]; rfl); unfold s_one; omega) | (unfold s_one; (repeat' split) <;> first | rfl | omega)) dX8_one_9 hlocks rfl
set_option maxHeartbeats 4000000 in
set_option maxRecDepth 100000 in
theorem C_saying (l : Launch) (D : va_G) (C : mC) (h : Nat) (a : Nat → Nat) (M : Nat → Nat → Int) (sy wh : Int) (hI : mI M) (h1 : -2147483648 ≤ sy ∧ sy < 2147483648) (h2 : -2147483648 ≤ wh ∧ wh < 2147483648) : Met l yX8_saying wsX8_saying ({ frames := 2, cells := 0, slots := 0, locals := 43 }) (va_Pc [.ref h, .int (iZ sy), .int (iZ wh)] (mOk D C h a M)) (vp_Si (fun r => r = iZ (s_saying M sy wh))) 0 0 (fun _ => False) := by
  refine Met.ofW (cc := cX8_saying) (maxL := 3) (ret := (some .int)) (by decide) rfl ?_
  intro p e s m args below meth c s₁ B hml hv
  obtain ⟨rfl, hP, hK⟩ := hv
  have hx := B.exec
  have hb := B.bytes
  have hr := B.returns
  have hts := atoms_spec (ws := wsX8_saying) B.pre
  have hown : s.vm.findClass RX8 = some m.cls := findClass_of_methodNamed B.named
  have hlocks := B.notSynchronized
  have hin : ∀ w ∈ wsX80, w ∈ wsX8_saying := fun _ w_h => (List.mem_cons_of_mem _ (List.mem_append_right _ w_h))
  have hl := lv_entry ([.ref h, .int (iZ sy), .int (iZ wh)]) (n := 3) (Nat.le_of_ble_eq_true rfl)
  rw [lg_entry_eq]
  generalize (lg_sl ([.ref h, .int (iZ sy), .int (iZ wh)]) ++ List.replicate (3 - (lg_sl ([.ref h, .int (iZ sy), .int (iZ wh)])).length) Slot.unset).toArray = ls at hl ⊢
  replace hl : lv_has ls 3 [(0, .ref h), (1, .int (iZ sy)), (2, .int (iZ wh))] := hl
  have hnw := mI_now hI
  refine W.eq (g2 := F0 m 0 ls []) rfl ?_
  refine lv_aload_n hx hb dX8_saying_0 rfl (lv_at hl 0 rfl) ?_
  refine lv_iload_n hx hb dX8_saying_1 rfl (lv_at hl 1 rfl) ?_
  refine mq_ci (As := [.int (iZ sy)]) (rest := []) ⟨hx, hb, hml, hown, hts⟩ hK hP (C_isSaying l D C h a M sy hI (by omega)) (cwV 1 hts gX8_saying_X8_isSaying rfl rfl rfl (by decide +kernel) ⟨Nat.le_of_ble_eq_true rfl, Nat.le_of_ble_eq_true rfl⟩) rfl rfl hl.1 (Nat.le_of_ble_eq_true rfl) ⟨Nat.le_of_ble_eq_true rfl, Nat.le_of_ble_eq_true rfl⟩ dX8_saying_2 ?_
  refine z_ifb_ne (P := (0 ≤ sy ∧ sy < M 5 0)) (tgt := 10) hx hb dX8_saying_5 (by decide) (fun c1 => ?_) (fun c1 => ?_)
  · refine lv_iload_n hx hb dX8_saying_10 rfl (lv_at hl 2 rfl) ?_
    by_cases c2 : wh = 0
    · refine lv_tableIn (off := 29) (tgt := 40) hx hb dX8_saying_11 (by rw [iZ_toInt (by omega)]; omega) (by rw [iZ_toInt (by omega)]; omega) (by rw [iZ_toInt (by omega), c2]; rfl) (by decide) ?_
      refine lv_aload_n hx hb dX8_saying_40 rfl (lv_at hl 0 rfl) ?_
      refine mq_get hx hb hts hin hown hK hP 6 (by decide) (hts (.fieldLink RX8 26 "WordFletchersModel" "weight" "[I") (List.mem_cons_of_mem _ (List.mem_append_left _ (List.mem_of_getElem? (i := 0) rfl)))) rfl dX8_saying_41 ?_
      refine lv_iload_n hx hb dX8_saying_44 rfl (lv_at hl 1 rfl) ?_
      refine mq_iald hx hb hK hP 6 6 (n := 12) rfl (by decide) (Int.toNat sy) rfl (by omega) dX8_saying_45 ?_
      exact mq_ret hx hb hr rfl (by unfold s_saying; (repeat' split) <;> first | rfl | omega) dX8_saying_46 hlocks rfl
    by_cases c3 : wh = 1
    · refine lv_tableIn (off := 36) (tgt := 47) hx hb dX8_saying_11 (by rw [iZ_toInt (by omega)]; omega) (by rw [iZ_toInt (by omega)]; omega) (by rw [iZ_toInt (by omega), c3]; rfl) (by decide) ?_
      refine lv_aload_n hx hb dX8_saying_47 rfl (lv_at hl 0 rfl) ?_
      refine W.eq (g2 := F0 m 48 ls [.ref h]) rfl ?_
      refine mq_get hx hb hts hin hown hK hP 7 (by decide) (hts (.fieldLink RX8 29 "WordFletchersModel" "twist" "[I") (List.mem_cons_of_mem _ (List.mem_append_left _ (List.mem_of_getElem? (i := 1) rfl)))) rfl dX8_saying_48 ?_
      refine lv_iload_n hx hb dX8_saying_51 rfl (lv_at hl 1 rfl) ?_
      refine mq_iald hx hb hK hP 7 7 (n := 12) rfl (by decide) (Int.toNat sy) rfl (by omega) dX8_saying_52 ?_
      exact mq_ret hx hb hr rfl (by unfold s_saying; (repeat' split) <;> first | rfl | omega) dX8_saying_53 hlocks rfl
    by_cases c4 : wh = 2
    · refine lv_tableIn (off := 43) (tgt := 54) hx hb dX8_saying_11 (by rw [iZ_toInt (by omega)]; omega) (by rw [iZ_toInt (by omega)]; omega) (by rw [iZ_toInt (by omega), c4]; rfl) (by decide) ?_
      refine lv_aload_n hx hb dX8_saying_54 rfl (lv_at hl 0 rfl) ?_
      refine mq_get hx hb hts hin hown hK hP 8 (by decide) (hts (.fieldLink RX8 32 "WordFletchersModel" "first" "[I") (List.mem_cons_of_mem _ (List.mem_append_left _ (List.mem_of_getElem? (i := 2) rfl)))) rfl dX8_saying_55 ?_
      refine lv_iload_n hx hb dX8_saying_58 rfl (lv_at hl 1 rfl) ?_
      refine mq_iald hx hb hK hP 8 8 (n := 12) rfl (by decide) (Int.toNat sy) rfl (by omega) dX8_saying_59 ?_
      exact mq_ret hx hb hr rfl (by unfold s_saying; (repeat' split) <;> first | rfl | omega) dX8_saying_60 hlocks rfl
    by_cases c5 : wh = 3
    · refine lv_tableIn (off := 50) (tgt := 61) hx hb dX8_saying_11 (by rw [iZ_toInt (by omega)]; omega) (by rw [iZ_toInt (by omega)]; omega) (by rw [iZ_toInt (by omega), c5]; rfl) (by decide) ?_
      refine lv_aload_n hx hb dX8_saying_61 rfl (lv_at hl 0 rfl) ?_
      refine mq_get hx hb hts hin hown hK hP 19 (by decide) (hts (.fieldLink RX8 44 "WordFletchersModel" "now" "[I") (List.mem_cons_of_mem _ (List.mem_append_left _ (List.mem_of_getElem? (i := 3) rfl)))) rfl dX8_saying_62 ?_
      refine lv_bipush (v := iZ 6) hx hb dX8_saying_65 (by decide) ?_
      refine W.eq (g2 := F0 m 67 ls [.int (iZ 6), .ref (a 19)]) rfl ?_
      refine lv_iload_n hx hb dX8_saying_67 rfl (lv_at hl 1 rfl) ?_
      refine z_iadd hx hb dX8_saying_68 ?_
      refine mq_iald hx hb hK hP 19 12 (n := 29) rfl (by decide) (Int.toNat (6 + sy)) rfl (by omega) dX8_saying_69 ?_
      exact mq_ret hx hb hr rfl (by unfold s_saying; (repeat' split) <;> first | rfl | omega) dX8_saying_70 hlocks rfl
    refine lv_tableOut (tgt := 71) hx hb dX8_saying_11 (by rw [iZ_toInt (by omega)]; omega) (by decide) ?_
    refine lv_iconst (v := iZ (-1)) hx hb dX8_saying_71 (by decide) ?_
    exact mq_ret hx hb hr rfl (by unfold s_saying; (repeat' split) <;> first | rfl | omega) dX8_saying_72 hlocks rfl
  · refine lv_iconst (v := iZ (-1)) hx hb dX8_saying_8 (by decide) ?_
    exact mq_ret hx hb hr rfl (by unfold s_saying; (repeat' split) <;> first | rfl | omega) dX8_saying_9 hlocks rfl
set_option maxHeartbeats 4000000 in
set_option maxRecDepth 100000 in
theorem C_wind (l : Launch) (D : va_G) (C : mC) (h : Nat) (a : Nat → Nat) (M : Nat → Nat → Int) (nn : Int) (hI : mI M) (h1 : -2147483648 ≤ nn ∧ nn < 2147483648) : Met l yX8_wind wsX8_wind ({ frames := 1, cells := 0, slots := 0, locals := 22 }) (va_Pc [.ref h, .int (iZ nn)] (mOk D C h a M)) (vp_Si (fun r => r = iZ (if (0 ≤ nn ∧ nn ≤ 99) then s_wind M nn else -1000000))) 0 0 (fun _ => False) := by
  refine Met.ofW (cc := cX8_wind) (maxL := 2) (ret := (some .int)) (by decide) rfl ?_
  intro p e s m args below meth c s₁ B hml hv
  obtain ⟨rfl, hP, hK⟩ := hv
  have hx := B.exec
  have hb := B.bytes
  have hr := B.returns
  have hts := atoms_spec (ws := wsX8_wind) B.pre
  have hown : s.vm.findClass RX8 = some m.cls := findClass_of_methodNamed B.named
  have hlocks := B.notSynchronized
  have hin : ∀ w ∈ wsX80, w ∈ wsX8_wind := fun _ w_h => (List.mem_cons_of_mem _ (List.mem_append_right _ w_h))
  have hl := lv_entry ([.ref h, .int (iZ nn)]) (n := 2) (Nat.le_of_ble_eq_true rfl)
  rw [lg_entry_eq]
  generalize (lg_sl ([.ref h, .int (iZ nn)]) ++ List.replicate (2 - (lg_sl ([.ref h, .int (iZ nn)])).length) Slot.unset).toArray = ls at hl ⊢
  replace hl : lv_has ls 2 [(0, .ref h), (1, .int (iZ nn))] := hl
  have hnw := mI_now hI
  refine lv_iload_n hx hb dX8_wind_0 rfl (lv_at hl 1 rfl) ?_
  refine lv_iconst (v := iZ 0) hx hb dX8_wind_1 (by decide) ?_
  refine lv_bipush (v := iZ 99) hx hb dX8_wind_2 (by decide) ?_
  refine mq_cs (As := [.int (iZ nn), .int (iZ 0), .int (iZ 99)]) (rest := []) ⟨hx, hb, hml, hown, hts⟩ (C_in l nn 0 99 (by omega) (by omega) (by omega)) (va_cwS 3 hts gX8_wind_X8_in rfl rfl rfl (by decide +kernel) ⟨Nat.le_of_ble_eq_true rfl, Nat.le_of_ble_eq_true rfl⟩) rfl rfl hl.1 (Nat.le_of_ble_eq_true rfl) ⟨Nat.le_of_ble_eq_true rfl, Nat.le_of_ble_eq_true rfl⟩ dX8_wind_4 ?_
  refine W.eq (g2 := F0 m 7 ls [.int (iZ (if (0 ≤ nn ∧ nn ≤ 99) then 1 else 0))]) rfl ?_
  have K3 : ∀ (v2 : Int), (v2 = (if (0 ≤ nn ∧ nn ≤ 99) then s_wind M nn else (-1000000))) → ∀ ls : Array Slot, lv_has ls 2 [] → W p l e ((headSpec wsX8_wind ({ frames := 1, cells := 0, slots := 0, locals := 22 })).room) s m (([.ref h, .int (iZ nn)] : List Value).toArray) below meth c s.heap [] 0 0 (MQ below (vp_Si (fun r => r = iZ (if (0 ≤ nn ∧ nn ≤ 99) then s_wind M nn else -1000000))) (([.ref h, .int (iZ nn)] : List Value).toArray) s 0 0 (fun _ => False)) (F0 m 20 ls [.int (iZ v2)]) := by
    intro v2 hv2 ls hl
    exact mq_ret hx hb hr rfl (by first | omega | ((repeat' split) <;> first | rfl | omega)) dX8_wind_20 hlocks rfl
  refine z_ifb_eq (P := (0 ≤ nn ∧ nn ≤ 99)) (tgt := 18) hx hb dX8_wind_7 (by decide) (fun c1 => ?_) (fun c1 => ?_)
  · refine z_ldc (n := (-1000000)) hx hb hown (hts (.constant RX8 154 (-1000000)) (List.mem_cons_of_mem _ (List.mem_append_left _ (List.mem_of_getElem? (i := 0) rfl)))) (by decide) dX8_wind_18 ?_
    exact K3 (-1000000) (by first | rfl | (rw [if_neg c1]; done) | omega | (subst_vars; first | rfl | (rw [if_neg c1]; done) | omega)) ls (lv_sub hl [] rfl)
  · refine lv_aload_n hx hb dX8_wind_10 rfl (lv_at hl 0 rfl) ?_
    refine lv_iload_n hx hb dX8_wind_11 rfl (lv_at hl 1 rfl) ?_
    refine mq_ci (As := [.int (iZ nn)]) (rest := []) ⟨hx, hb, hml, hown, hts⟩ hK hP (C_windIn l D C h a M nn hI (by omega)) (cwV 1 hts gX8_wind_X8_windIn rfl rfl rfl (by decide +kernel) ⟨Nat.le_of_ble_eq_true rfl, Nat.le_of_ble_eq_true rfl⟩) rfl rfl hl.1 (Nat.le_of_ble_eq_true rfl) ⟨Nat.le_of_ble_eq_true rfl, Nat.le_of_ble_eq_true rfl⟩ dX8_wind_12 ?_
    have hwi := mI_wd hI nn
    refine lv_goto (tgt := 20) hx hb dX8_wind_15 (by decide) ?_
    exact K3 (s_wind M nn) (by first | rfl | (rw [if_pos c1]; done) | omega | (subst_vars; first | rfl | (rw [if_pos c1]; done) | omega)) ls (lv_sub hl [] rfl)
set_option maxHeartbeats 4000000 in
set_option maxRecDepth 100000 in
theorem C_stray (l : Launch) (D : va_G) (C : mC) (h : Nat) (a : Nat → Nat) (M : Nat → Nat → Int) (ii wh : Int) (hI : mI M) (h1 : -2147483648 ≤ ii ∧ ii < 2147483648) (h2 : -2147483648 ≤ wh ∧ wh < 2147483648) : Met l yX8_stray wsX8_stray ({ frames := 1, cells := 0, slots := 0, locals := 22 }) (va_Pc [.ref h, .int (iZ ii), .int (iZ wh)] (mOk D C h a M)) (vp_Si (fun r => r = iZ (s_stray M ii wh))) 0 0 (fun _ => False) := by
  refine Met.ofW (cc := cX8_stray) (maxL := 3) (ret := (some .int)) (by decide) rfl ?_
  intro p e s m args below meth c s₁ B hml hv
  obtain ⟨rfl, hP, hK⟩ := hv
  have hx := B.exec
  have hb := B.bytes
  have hr := B.returns
  have hts := atoms_spec (ws := wsX8_stray) B.pre
  have hown : s.vm.findClass RX8 = some m.cls := findClass_of_methodNamed B.named
  have hlocks := B.notSynchronized
  have hin : ∀ w ∈ wsX80, w ∈ wsX8_stray := fun _ w_h => (List.mem_cons_of_mem _ (List.mem_append_right _ w_h))
  have hl := lv_entry ([.ref h, .int (iZ ii), .int (iZ wh)]) (n := 3) (Nat.le_of_ble_eq_true rfl)
  rw [lg_entry_eq]
  generalize (lg_sl ([.ref h, .int (iZ ii), .int (iZ wh)]) ++ List.replicate (3 - (lg_sl ([.ref h, .int (iZ ii), .int (iZ wh)])).length) Slot.unset).toArray = ls at hl ⊢
  replace hl : lv_has ls 3 [(0, .ref h), (1, .int (iZ ii)), (2, .int (iZ wh))] := hl
  have hnw := mI_now hI
  refine lv_iload_n hx hb dX8_stray_0 rfl (lv_at hl 1 rfl) ?_
  refine lv_iconst (v := iZ 0) hx hb dX8_stray_1 (by decide) ?_
  refine lv_bipush (v := iZ 7) hx hb dX8_stray_2 (by decide) ?_
  refine mq_cs (As := [.int (iZ ii), .int (iZ 0), .int (iZ 7)]) (rest := []) ⟨hx, hb, hml, hown, hts⟩ (C_in l ii 0 7 (by omega) (by omega) (by omega)) (va_cwS 3 hts gX8_stray_X8_in rfl rfl rfl (by decide +kernel) ⟨Nat.le_of_ble_eq_true rfl, Nat.le_of_ble_eq_true rfl⟩) rfl rfl hl.1 (Nat.le_of_ble_eq_true rfl) ⟨Nat.le_of_ble_eq_true rfl, Nat.le_of_ble_eq_true rfl⟩ dX8_stray_4 ?_
  refine z_ifb_eq (P := (0 ≤ ii ∧ ii ≤ 7)) (tgt := 19) hx hb dX8_stray_7 (by decide) (fun c1 => ?_) (fun c1 => ?_)
  · refine W.eq (g2 := F0 m 19 ls []) rfl ?_
    refine lv_iconst (v := iZ (-1)) hx hb dX8_stray_19 (by decide) ?_
    exact mq_ret hx hb hr rfl (by unfold s_stray; subst_vars; (repeat' split) <;> first | rfl | omega) dX8_stray_20 hlocks rfl
  · refine lv_iload_n hx hb dX8_stray_10 rfl (lv_at hl 2 rfl) ?_
    refine lv_iconst (v := iZ 0) hx hb dX8_stray_11 (by decide) ?_
    refine lv_iconst (v := iZ 1) hx hb dX8_stray_12 (by decide) ?_
    refine mq_cs (As := [.int (iZ wh), .int (iZ 0), .int (iZ 1)]) (rest := []) ⟨hx, hb, hml, hown, hts⟩ (C_in l wh 0 1 (by omega) (by omega) (by omega)) (va_cwS 3 hts gX8_stray_X8_in rfl rfl rfl (by decide +kernel) ⟨Nat.le_of_ble_eq_true rfl, Nat.le_of_ble_eq_true rfl⟩) rfl rfl hl.1 (Nat.le_of_ble_eq_true rfl) ⟨Nat.le_of_ble_eq_true rfl, Nat.le_of_ble_eq_true rfl⟩ dX8_stray_13 ?_
    refine z_ifb_ne (P := (0 ≤ wh ∧ wh ≤ 1)) (tgt := 21) hx hb dX8_stray_16 (by decide) (fun c2 => ?_) (fun c2 => ?_)
    · refine lv_iload_n hx hb dX8_stray_21 rfl (lv_at hl 1 rfl) ?_
      refine lv_aload_n hx hb dX8_stray_22 rfl (lv_at hl 0 rfl) ?_
      refine mq_get hx hb hts hin hown hK hP 19 (by decide) (hts (.fieldLink RX8 44 "WordFletchersModel" "now" "[I") (List.mem_cons_of_mem _ (List.mem_append_left _ (List.mem_of_getElem? (i := 0) rfl)))) rfl dX8_stray_23 ?_
      refine lv_bipush (v := iZ 12) hx hb dX8_stray_26 (by decide) ?_
      refine mq_iald hx hb hK hP 19 12 (n := 29) rfl (by decide) 12 rfl (by omega) dX8_stray_28 ?_
      refine W.eq (g2 := F0 m 29 ls [.int (iZ (M 19 12)), .int (iZ ii)]) rfl ?_
      have K8 : ∀ (v7 : Int), (v7 = (if ii < (M 19 12) then (M 19 (Int.toNat ((if wh = 0 then 13 else 21) + ii))) else (-9))) → ∀ ls : Array Slot, lv_has ls 3 [] → W p l e ((headSpec wsX8_stray ({ frames := 1, cells := 0, slots := 0, locals := 22 })).room) s m (([.ref h, .int (iZ ii), .int (iZ wh)] : List Value).toArray) below meth c s.heap [] 0 0 (MQ below (vp_Si (fun r => r = iZ (s_stray M ii wh))) (([.ref h, .int (iZ ii), .int (iZ wh)] : List Value).toArray) s 0 0 (fun _ => False)) (F0 m 55 ls [.int (iZ v7)]) := by
        intro v7 hv7 ls hl
        exact mq_ret hx hb hr rfl (by unfold s_stray; subst_vars; (repeat' split) <;> first | rfl | omega) dX8_stray_55 hlocks rfl
      refine z_icmp_lt (x := ii) (y := (M 19 12)) (tgt := 37) hx hb (by omega) (by omega) dX8_stray_29 (by decide) (fun c3 => ?_) (fun c3 => ?_)
      · refine lv_aload_n hx hb dX8_stray_37 rfl (lv_at hl 0 rfl) ?_
        refine mq_get hx hb hts hin hown hK hP 19 (by decide) (hts (.fieldLink RX8 44 "WordFletchersModel" "now" "[I") (List.mem_cons_of_mem _ (List.mem_append_left _ (List.mem_of_getElem? (i := 0) rfl)))) rfl dX8_stray_38 ?_
        refine lv_iload_n hx hb dX8_stray_41 rfl (lv_at hl 2 rfl) ?_
        have K6 : ∀ (v5 : Int), (v5 = (if wh = 0 then 13 else 21)) → ∀ ls : Array Slot, lv_has ls 3 [(1, .int (iZ ii))] → W p l e ((headSpec wsX8_stray ({ frames := 1, cells := 0, slots := 0, locals := 22 })).room) s m (([.ref h, .int (iZ ii), .int (iZ wh)] : List Value).toArray) below meth c s.heap [] 0 0 (MQ below (vp_Si (fun r => r = iZ (s_stray M ii wh))) (([.ref h, .int (iZ ii), .int (iZ wh)] : List Value).toArray) s 0 0 (fun _ => False)) (F0 m 52 ls [.int (iZ v5), .ref (a 19)]) := by
          intro v5 hv5 ls hl
          refine lv_iload_n hx hb dX8_stray_52 rfl (lv_at hl 0 rfl) ?_
          refine z_iadd hx hb dX8_stray_53 ?_
          refine mq_iald hx hb hK hP 19 12 (n := 29) rfl (by decide) (Int.toNat (v5 + ii)) rfl (by omega) dX8_stray_54 ?_
          exact K8 (M 19 (Int.toNat (v5 + ii))) (by first | rfl | (rw [if_pos c3]; done) | omega | (subst_vars; first | rfl | (rw [if_pos c3]; done) | omega)) ls (lv_sub hl [] rfl)
        refine z_if_ne (x := wh) (tgt := 50) hx hb (by omega) dX8_stray_42 (by decide) (fun c4 => ?_) (fun c4 => ?_)
        · refine lv_bipush (v := iZ 21) hx hb dX8_stray_50 (by decide) ?_
          exact K6 21 (by first | rfl | (rw [if_neg c4]; done) | omega | (subst_vars; first | rfl | (rw [if_neg c4]; done) | omega)) ls (lv_sub hl [1] rfl)
        · refine lv_bipush (v := iZ 13) hx hb dX8_stray_45 (by decide) ?_
          refine lv_goto (tgt := 52) hx hb dX8_stray_47 (by decide) ?_
          exact K6 13 (by first | rfl | (rw [if_pos c4]; done) | omega | (subst_vars; first | rfl | (rw [if_pos c4]; done) | omega)) ls (lv_sub hl [1] rfl)
      · refine lv_bipush (v := iZ (-9)) hx hb dX8_stray_32 (by decide) ?_
        refine W.eq (g2 := F0 m 34 ls [.int (iZ (-9))]) rfl ?_
        refine lv_goto (tgt := 55) hx hb dX8_stray_34 (by decide) ?_
        exact K8 (-9) (by first | rfl | (rw [if_neg c3]; done) | omega | (subst_vars; first | rfl | (rw [if_neg c3]; done) | omega)) ls (lv_sub hl [] rfl)
    · refine lv_iconst (v := iZ (-1)) hx hb dX8_stray_19 (by decide) ?_
      exact mq_ret hx hb hr rfl (by unfold s_stray; subst_vars; (repeat' split) <;> first | rfl | omega) dX8_stray_20 hlocks rfl
set_option maxHeartbeats 4000000 in
set_option maxRecDepth 100000 in
theorem C_now (l : Launch) (D : va_G) (C : mC) (h : Nat) (a : Nat → Nat) (M : Nat → Nat → Int) (wh : Int) (hI : mI M) (h1 : -2147483648 ≤ wh ∧ wh < 2147483648) : Met l yX8_now wsX8_now ({ frames := 0, cells := 0, slots := 0, locals := 0 }) (va_Pc [.ref h, .int (iZ wh)] (mOk D C h a M)) (vp_Si (fun r => r = iZ (s_now M wh))) 0 0 (fun _ => False) := by
  refine Met.ofW (cc := cX8_now) (maxL := 2) (ret := (some .int)) (by decide) rfl ?_
  intro p e s m args below meth c s₁ B hml hv
  obtain ⟨rfl, hP, hK⟩ := hv
  have hx := B.exec
  have hb := B.bytes
  have hr := B.returns
  have hts := atoms_spec (ws := wsX8_now) B.pre
  have hown : s.vm.findClass RX8 = some m.cls := findClass_of_methodNamed B.named
  have hlocks := B.notSynchronized
  have hin : ∀ w ∈ wsX80, w ∈ wsX8_now := fun _ w_h => (List.mem_cons_of_mem _ (List.mem_append_right _ w_h))
  have hl := lv_entry ([.ref h, .int (iZ wh)]) (n := 2) (Nat.le_of_ble_eq_true rfl)
  rw [lg_entry_eq]
  generalize (lg_sl ([.ref h, .int (iZ wh)]) ++ List.replicate (2 - (lg_sl ([.ref h, .int (iZ wh)])).length) Slot.unset).toArray = ls at hl ⊢
  replace hl : lv_has ls 2 [(0, .ref h), (1, .int (iZ wh))] := hl
  have hnw := mI_now hI
  refine lv_iload_n hx hb dX8_now_0 rfl (lv_at hl 1 rfl) ?_
  by_cases c1 : wh = 0
  · refine lv_tableIn (off := 43) (tgt := 44) hx hb dX8_now_1 (by rw [iZ_toInt (by omega)]; omega) (by rw [iZ_toInt (by omega)]; omega) (by rw [iZ_toInt (by omega), c1]; rfl) (by decide) ?_
    refine lv_aload_n hx hb dX8_now_44 rfl (lv_at hl 0 rfl) ?_
    refine mq_get hx hb hts hin hown hK hP 19 (by decide) (hts (.fieldLink RX8 44 "WordFletchersModel" "now" "[I") (List.mem_cons_of_mem _ (List.mem_append_left _ (List.mem_of_getElem? (i := 0) rfl)))) rfl dX8_now_45 ?_
    refine lv_iload_n hx hb dX8_now_48 rfl (lv_at hl 1 rfl) ?_
    refine mq_iald hx hb hK hP 19 12 (n := 29) rfl (by decide) (Int.toNat wh) rfl (by omega) dX8_now_49 ?_
    exact mq_ret hx hb hr rfl (by unfold s_now; subst_vars; (repeat' split) <;> first | rfl | omega) dX8_now_50 hlocks rfl
  by_cases c2 : wh = 1
  · refine lv_tableIn (off := 43) (tgt := 44) hx hb dX8_now_1 (by rw [iZ_toInt (by omega)]; omega) (by rw [iZ_toInt (by omega)]; omega) (by rw [iZ_toInt (by omega), c2]; rfl) (by decide) ?_
    refine lv_aload_n hx hb dX8_now_44 rfl (lv_at hl 0 rfl) ?_
    refine W.eq (g2 := F0 m 45 ls [.ref h]) rfl ?_
    refine mq_get hx hb hts hin hown hK hP 19 (by decide) (hts (.fieldLink RX8 44 "WordFletchersModel" "now" "[I") (List.mem_cons_of_mem _ (List.mem_append_left _ (List.mem_of_getElem? (i := 0) rfl)))) rfl dX8_now_45 ?_
    refine lv_iload_n hx hb dX8_now_48 rfl (lv_at hl 1 rfl) ?_
    refine mq_iald hx hb hK hP 19 12 (n := 29) rfl (by decide) (Int.toNat wh) rfl (by omega) dX8_now_49 ?_
    exact mq_ret hx hb hr rfl (by unfold s_now; subst_vars; (repeat' split) <;> first | rfl | omega) dX8_now_50 hlocks rfl
  by_cases c3 : wh = 2
  · refine lv_tableIn (off := 43) (tgt := 44) hx hb dX8_now_1 (by rw [iZ_toInt (by omega)]; omega) (by rw [iZ_toInt (by omega)]; omega) (by rw [iZ_toInt (by omega), c3]; rfl) (by decide) ?_
    refine lv_aload_n hx hb dX8_now_44 rfl (lv_at hl 0 rfl) ?_
    refine mq_get hx hb hts hin hown hK hP 19 (by decide) (hts (.fieldLink RX8 44 "WordFletchersModel" "now" "[I") (List.mem_cons_of_mem _ (List.mem_append_left _ (List.mem_of_getElem? (i := 0) rfl)))) rfl dX8_now_45 ?_
    refine lv_iload_n hx hb dX8_now_48 rfl (lv_at hl 1 rfl) ?_
    refine mq_iald hx hb hK hP 19 12 (n := 29) rfl (by decide) (Int.toNat wh) rfl (by omega) dX8_now_49 ?_
    exact mq_ret hx hb hr rfl (by unfold s_now; subst_vars; (repeat' split) <;> first | rfl | omega) dX8_now_50 hlocks rfl
  by_cases c4 : wh = 3
  · refine lv_tableIn (off := 43) (tgt := 44) hx hb dX8_now_1 (by rw [iZ_toInt (by omega)]; omega) (by rw [iZ_toInt (by omega)]; omega) (by rw [iZ_toInt (by omega), c4]; rfl) (by decide) ?_
    refine lv_aload_n hx hb dX8_now_44 rfl (lv_at hl 0 rfl) ?_
    refine mq_get hx hb hts hin hown hK hP 19 (by decide) (hts (.fieldLink RX8 44 "WordFletchersModel" "now" "[I") (List.mem_cons_of_mem _ (List.mem_append_left _ (List.mem_of_getElem? (i := 0) rfl)))) rfl dX8_now_45 ?_
    refine lv_iload_n hx hb dX8_now_48 rfl (lv_at hl 1 rfl) ?_
    refine W.eq (g2 := F0 m 49 ls [.int (iZ wh), .ref (a 19)]) rfl ?_
    refine mq_iald hx hb hK hP 19 12 (n := 29) rfl (by decide) (Int.toNat wh) rfl (by omega) dX8_now_49 ?_
    exact mq_ret hx hb hr rfl (by unfold s_now; subst_vars; (repeat' split) <;> first | rfl | omega) dX8_now_50 hlocks rfl
  by_cases c5 : wh = 4
  · refine lv_tableIn (off := 43) (tgt := 44) hx hb dX8_now_1 (by rw [iZ_toInt (by omega)]; omega) (by rw [iZ_toInt (by omega)]; omega) (by rw [iZ_toInt (by omega), c5]; rfl) (by decide) ?_
    refine lv_aload_n hx hb dX8_now_44 rfl (lv_at hl 0 rfl) ?_
    refine mq_get hx hb hts hin hown hK hP 19 (by decide) (hts (.fieldLink RX8 44 "WordFletchersModel" "now" "[I") (List.mem_cons_of_mem _ (List.mem_append_left _ (List.mem_of_getElem? (i := 0) rfl)))) rfl dX8_now_45 ?_
    refine lv_iload_n hx hb dX8_now_48 rfl (lv_at hl 1 rfl) ?_
    refine mq_iald hx hb hK hP 19 12 (n := 29) rfl (by decide) (Int.toNat wh) rfl (by omega) dX8_now_49 ?_
    exact mq_ret hx hb hr rfl (by unfold s_now; subst_vars; (repeat' split) <;> first | rfl | omega) dX8_now_50 hlocks rfl
  by_cases c6 : wh = 5
  · refine lv_tableIn (off := 43) (tgt := 44) hx hb dX8_now_1 (by rw [iZ_toInt (by omega)]; omega) (by rw [iZ_toInt (by omega)]; omega) (by rw [iZ_toInt (by omega), c6]; rfl) (by decide) ?_
    refine lv_aload_n hx hb dX8_now_44 rfl (lv_at hl 0 rfl) ?_
    refine mq_get hx hb hts hin hown hK hP 19 (by decide) (hts (.fieldLink RX8 44 "WordFletchersModel" "now" "[I") (List.mem_cons_of_mem _ (List.mem_append_left _ (List.mem_of_getElem? (i := 0) rfl)))) rfl dX8_now_45 ?_
    refine lv_iload_n hx hb dX8_now_48 rfl (lv_at hl 1 rfl) ?_
    refine mq_iald hx hb hK hP 19 12 (n := 29) rfl (by decide) (Int.toNat wh) rfl (by omega) dX8_now_49 ?_
    exact mq_ret hx hb hr rfl (by unfold s_now; subst_vars; (repeat' split) <;> first | rfl | omega) dX8_now_50 hlocks rfl
  by_cases c7 : wh = 6
  · refine lv_tableIn (off := 50) (tgt := 51) hx hb dX8_now_1 (by rw [iZ_toInt (by omega)]; omega) (by rw [iZ_toInt (by omega)]; omega) (by rw [iZ_toInt (by omega), c7]; rfl) (by decide) ?_
    refine W.eq (g2 := F0 m 51 ls []) rfl ?_
    refine lv_aload_n hx hb dX8_now_51 rfl (lv_at hl 0 rfl) ?_
    refine mq_get hx hb hts hin hown hK hP 19 (by decide) (hts (.fieldLink RX8 44 "WordFletchersModel" "now" "[I") (List.mem_cons_of_mem _ (List.mem_append_left _ (List.mem_of_getElem? (i := 0) rfl)))) rfl dX8_now_52 ?_
    refine lv_bipush (v := iZ 12) hx hb dX8_now_55 (by decide) ?_
    refine mq_iald hx hb hK hP 19 12 (n := 29) rfl (by decide) 12 rfl (by omega) dX8_now_57 ?_
    exact mq_ret hx hb hr rfl (by unfold s_now; subst_vars; (repeat' split) <;> first | rfl | omega) dX8_now_58 hlocks rfl
  refine lv_tableOut (tgt := 59) hx hb dX8_now_1 (by rw [iZ_toInt (by omega)]; omega) (by decide) ?_
  refine lv_iconst (v := iZ (-1)) hx hb dX8_now_59 (by decide) ?_
  exact mq_ret hx hb hr rfl (by unfold s_now; subst_vars; (repeat' split) <;> first | rfl | omega) dX8_now_60 hlocks rfl
set_option maxHeartbeats 4000000 in
set_option maxRecDepth 100000 in
theorem C_lands (l : Launch) (D : va_G) (C : mC) (h : Nat) (a : Nat → Nat) (M : Nat → Nat → Int) (pe sy fe nn sd : Int) (hI : mI M) (h0 : -2147483648 ≤ pe ∧ pe < 2147483648) (h1 : -2147483648 ≤ sy ∧ sy < 2147483648) (h2 : -2147483648 ≤ fe ∧ fe < 2147483648) (h3 : -2147483648 ≤ nn ∧ nn < 2147483648) (h4 : -2147483648 ≤ sd ∧ sd < 2147483648) : Met l yX8_lands wsX8_lands ({ frames := 2, cells := 0, slots := 0, locals := 52 }) (va_Pc [.ref h, .int (iZ pe), .int (iZ sy), .int (iZ fe), .int (iZ nn), .int (iZ sd)] (mOk D C h a M)) (vp_Si (fun r => r = iZ (s_lands M pe sy fe nn sd))) 0 0 (fun _ => False) := by
  refine Met.ofW (cc := cX8_lands) (maxL := 6) (ret := (some .int)) (by decide) rfl ?_
  intro p e s m args below meth c s₁ B hml hv
  obtain ⟨rfl, hP, hK⟩ := hv
  have hx := B.exec
  have hb := B.bytes
  have hr := B.returns
  have hts := atoms_spec (ws := wsX8_lands) B.pre
  have hown : s.vm.findClass RX8 = some m.cls := findClass_of_methodNamed B.named
  have hlocks := B.notSynchronized
  have hin : ∀ w ∈ wsX80, w ∈ wsX8_lands := fun _ w_h => (List.mem_cons_of_mem _ (List.mem_append_right _ w_h))
  have hl := lv_entry ([.ref h, .int (iZ pe), .int (iZ sy), .int (iZ fe), .int (iZ nn), .int (iZ sd)]) (n := 6) (Nat.le_of_ble_eq_true rfl)
  rw [lg_entry_eq]
  generalize (lg_sl ([.ref h, .int (iZ pe), .int (iZ sy), .int (iZ fe), .int (iZ nn), .int (iZ sd)]) ++ List.replicate (6 - (lg_sl ([.ref h, .int (iZ pe), .int (iZ sy), .int (iZ fe), .int (iZ nn), .int (iZ sd)])).length) Slot.unset).toArray = ls at hl ⊢
  replace hl : lv_has ls 6 [(0, .ref h), (1, .int (iZ pe)), (2, .int (iZ sy)), (3, .int (iZ fe)), (4, .int (iZ nn)), (5, .int (iZ sd))] := hl
  have hnw := mI_now hI
  refine lv_aload_n hx hb dX8_lands_0 rfl (lv_at hl 0 rfl) ?_
  refine lv_iload_n hx hb dX8_lands_1 rfl (lv_at hl 1 rfl) ?_
  refine mq_ci (As := [.int (iZ pe)]) (rest := []) ⟨hx, hb, hml, hown, hts⟩ hK hP (C_isOne l D C h a M pe hI (by omega)) (cwV 1 hts gX8_lands_X8_isOne rfl rfl rfl (by decide +kernel) ⟨Nat.le_of_ble_eq_true rfl, Nat.le_of_ble_eq_true rfl⟩) rfl rfl hl.1 (Nat.le_of_ble_eq_true rfl) ⟨Nat.le_of_ble_eq_true rfl, Nat.le_of_ble_eq_true rfl⟩ dX8_lands_2 ?_
  refine z_ifb_eq (P := (0 ≤ pe ∧ pe < M 2 0)) (tgt := 27) hx hb dX8_lands_5 (by decide) (fun c1 => ?_) (fun c1 => ?_)
  · refine lv_iconst (v := iZ (-1)) hx hb dX8_lands_27 (by decide) ?_
    refine W.eq (g2 := F0 m 28 ls [.int (iZ (-1))]) rfl ?_
    exact mq_ret hx hb hr rfl (by unfold s_lands; (repeat' split) <;> first | rfl | omega) dX8_lands_28 hlocks rfl
  · refine lv_aload_n hx hb dX8_lands_8 rfl (lv_at hl 0 rfl) ?_
    refine lv_iload_n hx hb dX8_lands_9 rfl (lv_at hl 2 rfl) ?_
    refine mq_ci (As := [.int (iZ sy)]) (rest := []) ⟨hx, hb, hml, hown, hts⟩ hK hP (C_isSaying l D C h a M sy hI (by omega)) (cwV 1 hts gX8_lands_X8_isSaying rfl rfl rfl (by decide +kernel) ⟨Nat.le_of_ble_eq_true rfl, Nat.le_of_ble_eq_true rfl⟩) rfl rfl hl.1 (Nat.le_of_ble_eq_true rfl) ⟨Nat.le_of_ble_eq_true rfl, Nat.le_of_ble_eq_true rfl⟩ dX8_lands_10 ?_
    refine z_ifb_eq (P := (0 ≤ sy ∧ sy < M 5 0)) (tgt := 27) hx hb dX8_lands_13 (by decide) (fun c2 => ?_) (fun c2 => ?_)
    · refine lv_iconst (v := iZ (-1)) hx hb dX8_lands_27 (by decide) ?_
      exact mq_ret hx hb hr rfl (by unfold s_lands; (repeat' split) <;> first | rfl | omega) dX8_lands_28 hlocks rfl
    · refine lv_iload_n hx hb dX8_lands_16 rfl (lv_at hl 3 rfl) ?_
      refine lv_iload hx hb dX8_lands_17 (lv_at hl 4 rfl) ?_
      refine lv_iload hx hb dX8_lands_19 (lv_at hl 5 rfl) ?_
      refine mq_cs (As := [.int (iZ fe), .int (iZ nn), .int (iZ sd)]) (rest := []) ⟨hx, hb, hml, hown, hts⟩ (C_isShot l fe nn sd (by omega) (by omega) (by omega)) (va_cwS 3 hts gX8_lands_X8_isShot rfl rfl rfl (by decide +kernel) ⟨Nat.le_of_ble_eq_true rfl, Nat.le_of_ble_eq_true rfl⟩) rfl rfl hl.1 (Nat.le_of_ble_eq_true rfl) ⟨Nat.le_of_ble_eq_true rfl, Nat.le_of_ble_eq_true rfl⟩ dX8_lands_21 ?_
      refine z_ifb_ne (P := ((0 ≤ fe ∧ fe ≤ 3) ∧ (0 ≤ nn ∧ nn ≤ 3) ∧ (0 ≤ sd ∧ sd ≤ 1))) (tgt := 29) hx hb dX8_lands_24 (by decide) (fun c3 => ?_) (fun c3 => ?_)
      · refine W.eq (g2 := F0 m 29 ls []) rfl ?_
        refine lv_aload_n hx hb dX8_lands_29 rfl (lv_at hl 0 rfl) ?_
        refine lv_iload_n hx hb dX8_lands_30 rfl (lv_at hl 1 rfl) ?_
        refine lv_iload_n hx hb dX8_lands_31 rfl (lv_at hl 2 rfl) ?_
        refine lv_iload_n hx hb dX8_lands_32 rfl (lv_at hl 3 rfl) ?_
        refine lv_iload hx hb dX8_lands_33 (lv_at hl 4 rfl) ?_
        refine lv_iload hx hb dX8_lands_35 (lv_at hl 5 rfl) ?_
        refine lv_aload_n hx hb dX8_lands_37 rfl (lv_at hl 0 rfl) ?_
        refine lv_iconst (v := iZ 0) hx hb dX8_lands_38 (by decide) ?_
        refine mq_ci (As := [.int (iZ 0)]) (rest := [.int (iZ sd), .int (iZ nn), .int (iZ fe), .int (iZ sy), .int (iZ pe), .ref h]) ⟨hx, hb, hml, hown, hts⟩ hK hP (C_windIn l D C h a M 0 hI (by omega)) (cwV 1 hts gX8_lands_X8_windIn rfl rfl rfl (by decide +kernel) ⟨Nat.le_of_ble_eq_true rfl, Nat.le_of_ble_eq_true rfl⟩) rfl rfl hl.1 (Nat.le_of_ble_eq_true rfl) ⟨Nat.le_of_ble_eq_true rfl, Nat.le_of_ble_eq_true rfl⟩ dX8_lands_39 ?_
        have hwi := mI_wd hI 0
        refine mq_ci (As := [.int (iZ pe), .int (iZ sy), .int (iZ fe), .int (iZ nn), .int (iZ sd), .int (iZ (s_wind M 0))]) (rest := []) ⟨hx, hb, hml, hown, hts⟩ hK hP (C_landsBy l D C h a M pe sy fe nn sd (s_wind M 0) hI (by omega) (by omega) (by omega) (by omega) (by omega) (by omega)) (cwV 6 hts gX8_lands_X8_landsBy rfl rfl rfl (by decide +kernel) ⟨Nat.le_of_ble_eq_true rfl, Nat.le_of_ble_eq_true rfl⟩) rfl rfl hl.1 (Nat.le_of_ble_eq_true rfl) ⟨Nat.le_of_ble_eq_true rfl, Nat.le_of_ble_eq_true rfl⟩ dX8_lands_42 ?_
        have hld := s_land_bd (M 3 (Int.toNat pe)) (M 7 (Int.toNat sy)) (M 6 (Int.toNat sy)) (M 19 1) fe nn sd (s_wind M 0)
        exact mq_ret hx hb hr rfl (by unfold s_lands; (repeat' split) <;> first | rfl | omega) dX8_lands_45 hlocks rfl
      · refine lv_iconst (v := iZ (-1)) hx hb dX8_lands_27 (by decide) ?_
        refine W.eq (g2 := F0 m 28 ls [.int (iZ (-1))]) rfl ?_
        exact mq_ret hx hb hr rfl (by unfold s_lands; (repeat' split) <;> first | rfl | omega) dX8_lands_28 hlocks rfl
set_option maxHeartbeats 4000000 in
set_option maxRecDepth 100000 in
theorem C_areUnlike (l : Launch) (D : va_G) (C : mC) (h : Nat) (a : Nat → Nat) (M : Nat → Nat → Int) (pe ot : Int) (hI : mI M) (h1 : -2147483648 ≤ pe ∧ pe < 2147483648) (h2 : -2147483648 ≤ ot ∧ ot < 2147483648) : Met l yX8_areUnlike wsX8_areUnlike ({ frames := 2, cells := 0, slots := 0, locals := 43 }) (va_Pc [.ref h, .int (iZ pe), .int (iZ ot)] (mOk D C h a M)) (vp_Si (fun r => r = iZ (if ((0 ≤ pe ∧ pe < M 2 0) ∧ (0 ≤ ot ∧ ot < M 2 0) ∧ ¬ (pe = ot)) then 1 else 0))) 0 0 (fun _ => False) := by
  refine Met.ofW (cc := cX8_areUnlike) (maxL := 3) (ret := (some .boolean)) (by decide) rfl ?_
  intro p e s m args below meth c s₁ B hml hv
  obtain ⟨rfl, hP, hK⟩ := hv
  have hx := B.exec
  have hb := B.bytes
  have hr := B.returns
  have hts := atoms_spec (ws := wsX8_areUnlike) B.pre
  have hown : s.vm.findClass RX8 = some m.cls := findClass_of_methodNamed B.named
  have hlocks := B.notSynchronized
  have hin : ∀ w ∈ wsX80, w ∈ wsX8_areUnlike := fun _ w_h => (List.mem_cons_of_mem _ (List.mem_append_right _ w_h))
  have hl := lv_entry ([.ref h, .int (iZ pe), .int (iZ ot)]) (n := 3) (Nat.le_of_ble_eq_true rfl)
  rw [lg_entry_eq]
  generalize (lg_sl ([.ref h, .int (iZ pe), .int (iZ ot)]) ++ List.replicate (3 - (lg_sl ([.ref h, .int (iZ pe), .int (iZ ot)])).length) Slot.unset).toArray = ls at hl ⊢
  replace hl : lv_has ls 3 [(0, .ref h), (1, .int (iZ pe)), (2, .int (iZ ot))] := hl
  have hnw := mI_now hI
  refine lv_aload_n hx hb dX8_areUnlike_0 rfl (lv_at hl 0 rfl) ?_
  refine lv_iload_n hx hb dX8_areUnlike_1 rfl (lv_at hl 1 rfl) ?_
  refine mq_ci (As := [.int (iZ pe)]) (rest := []) ⟨hx, hb, hml, hown, hts⟩ hK hP (C_isOne l D C h a M pe hI (by omega)) (cwV 1 hts gX8_areUnlike_X8_isOne rfl rfl rfl (by decide +kernel) ⟨Nat.le_of_ble_eq_true rfl, Nat.le_of_ble_eq_true rfl⟩) rfl rfl hl.1 (Nat.le_of_ble_eq_true rfl) ⟨Nat.le_of_ble_eq_true rfl, Nat.le_of_ble_eq_true rfl⟩ dX8_areUnlike_2 ?_
  have K5 : ∀ (v4 : Int), (v4 = (if (0 ≤ pe ∧ pe < M 2 0) then (if (0 ≤ ot ∧ ot < M 2 0) then (if pe = ot then 0 else 1) else 0) else 0)) → ∀ ls : Array Slot, lv_has ls 3 [] → W p l e ((headSpec wsX8_areUnlike ({ frames := 2, cells := 0, slots := 0, locals := 43 })).room) s m (([.ref h, .int (iZ pe), .int (iZ ot)] : List Value).toArray) below meth c s.heap [] 0 0 (MQ below (vp_Si (fun r => r = iZ (if ((0 ≤ pe ∧ pe < M 2 0) ∧ (0 ≤ ot ∧ ot < M 2 0) ∧ ¬ (pe = ot)) then 1 else 0))) (([.ref h, .int (iZ pe), .int (iZ ot)] : List Value).toArray) s 0 0 (fun _ => False)) (F0 m 26 ls [.int (iZ v4)]) := by
    intro v4 hv4 ls hl
    exact mq_ret hx hb hr (z_nbool (by first | omega | (split <;> omega))) (by first | omega | ((repeat' split) <;> first | rfl | omega)) dX8_areUnlike_26 hlocks rfl
  refine z_ifb_eq (P := (0 ≤ pe ∧ pe < M 2 0)) (tgt := 25) hx hb dX8_areUnlike_5 (by decide) (fun c1 => ?_) (fun c1 => ?_)
  · refine lv_iconst (v := iZ 0) hx hb dX8_areUnlike_25 (by decide) ?_
    exact K5 0 (by first | rfl | (rw [if_neg c1]; done) | omega | (subst_vars; first | rfl | (rw [if_neg c1]; done) | omega)) ls (lv_sub hl [] rfl)
  · refine lv_aload_n hx hb dX8_areUnlike_8 rfl (lv_at hl 0 rfl) ?_
    refine lv_iload_n hx hb dX8_areUnlike_9 rfl (lv_at hl 2 rfl) ?_
    refine mq_ci (As := [.int (iZ ot)]) (rest := []) ⟨hx, hb, hml, hown, hts⟩ hK hP (C_isOne l D C h a M ot hI (by omega)) (cwV 1 hts gX8_areUnlike_X8_isOne rfl rfl rfl (by decide +kernel) ⟨Nat.le_of_ble_eq_true rfl, Nat.le_of_ble_eq_true rfl⟩) rfl rfl hl.1 (Nat.le_of_ble_eq_true rfl) ⟨Nat.le_of_ble_eq_true rfl, Nat.le_of_ble_eq_true rfl⟩ dX8_areUnlike_10 ?_
    refine z_ifb_eq (P := (0 ≤ ot ∧ ot < M 2 0)) (tgt := 25) hx hb dX8_areUnlike_13 (by decide) (fun c2 => ?_) (fun c2 => ?_)
    · refine lv_iconst (v := iZ 0) hx hb dX8_areUnlike_25 (by decide) ?_
      exact K5 0 (by first | rfl | (rw [if_pos c1, if_neg c2]; done) | omega | (subst_vars; first | rfl | (rw [if_pos c1, if_neg c2]; done) | omega)) ls (lv_sub hl [] rfl)
    · refine lv_iload_n hx hb dX8_areUnlike_16 rfl (lv_at hl 1 rfl) ?_
      refine W.eq (g2 := F0 m 17 ls [.int (iZ pe)]) rfl ?_
      refine lv_iload_n hx hb dX8_areUnlike_17 rfl (lv_at hl 2 rfl) ?_
      refine z_icmp_eq (x := pe) (y := ot) (tgt := 25) hx hb (by omega) (by omega) dX8_areUnlike_18 (by decide) (fun c3 => ?_) (fun c3 => ?_)
      · refine lv_iconst (v := iZ 0) hx hb dX8_areUnlike_25 (by decide) ?_
        exact K5 0 (by first | rfl | (rw [if_pos c1, if_pos c2, if_pos c3]; done) | omega | (subst_vars; first | rfl | (rw [if_pos c1, if_pos c2, if_pos c3]; done) | omega)) ls (lv_sub hl [] rfl)
      · refine lv_iconst (v := iZ 1) hx hb dX8_areUnlike_21 (by decide) ?_
        refine lv_goto (tgt := 26) hx hb dX8_areUnlike_22 (by decide) ?_
        exact K5 1 (by first | rfl | (rw [if_pos c1, if_pos c2, if_neg c3]; done) | omega | (subst_vars; first | rfl | (rw [if_pos c1, if_pos c2, if_neg c3]; done) | omega)) ls (lv_sub hl [] rfl)
set_option maxHeartbeats 4000000 in
set_option maxRecDepth 100000 in
theorem C_isHeard (l : Launch) (D : va_G) (C : mC) (h : Nat) (a : Nat → Nat) (M : Nat → Nat → Int) (pe ot sy sh bw : Int) (hI : mI M) (h1 : 0 ≤ pe ∧ pe < M 2 0) (h2 : 0 ≤ ot ∧ ot < M 2 0) (h3 : 0 ≤ sy ∧ sy < M 5 0) (h4 : 0 ≤ sh ∧ sh / 100 ≤ 3 ∧ sh / 10 % 10 ≤ 3 ∧ sh % 10 ≤ 1) (h5 : -2147483648 ≤ sh ∧ sh < 2147483648) (h6 : -4 ≤ bw ∧ bw ≤ 4) : Met l yX8_isHeard wsX8_isHeard ({ frames := 2, cells := 0, slots := 0, locals := 52 }) (va_Pc [.ref h, .int (iZ pe), .int (iZ ot), .int (iZ sy), .int (iZ sh), .int (iZ bw)] (mOk D C h a M)) (vp_Si (fun r => r = iZ (if (s_hrd M pe ot sy sh bw) then 1 else 0))) 0 0 (fun _ => False) := by
  refine Met.ofW (cc := cX8_isHeard) (maxL := 6) (ret := (some .boolean)) (by decide) rfl ?_
  intro p e s m args below meth c s₁ B hml hv
  obtain ⟨rfl, hP, hK⟩ := hv
  have hx := B.exec
  have hb := B.bytes
  have hr := B.returns
  have hts := atoms_spec (ws := wsX8_isHeard) B.pre
  have hown : s.vm.findClass RX8 = some m.cls := findClass_of_methodNamed B.named
  have hlocks := B.notSynchronized
  have hin : ∀ w ∈ wsX80, w ∈ wsX8_isHeard := fun _ w_h => (List.mem_cons_of_mem _ (List.mem_append_right _ w_h))
  have hl := lv_entry ([.ref h, .int (iZ pe), .int (iZ ot), .int (iZ sy), .int (iZ sh), .int (iZ bw)]) (n := 6) (Nat.le_of_ble_eq_true rfl)
  rw [lg_entry_eq]
  generalize (lg_sl ([.ref h, .int (iZ pe), .int (iZ ot), .int (iZ sy), .int (iZ sh), .int (iZ bw)]) ++ List.replicate (6 - (lg_sl ([.ref h, .int (iZ pe), .int (iZ ot), .int (iZ sy), .int (iZ sh), .int (iZ bw)])).length) Slot.unset).toArray = ls at hl ⊢
  replace hl : lv_has ls 6 [(0, .ref h), (1, .int (iZ pe)), (2, .int (iZ ot)), (3, .int (iZ sy)), (4, .int (iZ sh)), (5, .int (iZ bw))] := hl
  have hnw := mI_now hI
  refine lv_aload_n hx hb dX8_isHeard_0 rfl (lv_at hl 0 rfl) ?_
  refine lv_iload_n hx hb dX8_isHeard_1 rfl (lv_at hl 2 rfl) ?_
  refine lv_aload_n hx hb dX8_isHeard_2 rfl (lv_at hl 0 rfl) ?_
  refine lv_iload_n hx hb dX8_isHeard_3 rfl (lv_at hl 1 rfl) ?_
  refine lv_iload_n hx hb dX8_isHeard_4 rfl (lv_at hl 3 rfl) ?_
  refine lv_iload hx hb dX8_isHeard_5 (lv_at hl 4 rfl) ?_
  refine W.eq (g2 := F0 m 7 ls [.int (iZ sh), .int (iZ sy), .int (iZ pe), .ref h, .int (iZ ot), .ref h]) rfl ?_
  refine lv_bipush (v := iZ 100) hx hb dX8_isHeard_7 (by decide) ?_
  refine z_idiv hx hb (by omega) (by omega) dX8_isHeard_9 ?_
  refine lv_iload hx hb dX8_isHeard_10 (lv_at hl 4 rfl) ?_
  refine lv_bipush (v := iZ 10) hx hb dX8_isHeard_12 (by decide) ?_
  refine z_idiv hx hb (by omega) (by omega) dX8_isHeard_14 ?_
  refine lv_bipush (v := iZ 10) hx hb dX8_isHeard_15 (by decide) ?_
  refine z_irem hx hb (by omega) (by omega) dX8_isHeard_17 ?_
  refine lv_iload hx hb dX8_isHeard_18 (lv_at hl 4 rfl) ?_
  refine lv_bipush (v := iZ 10) hx hb dX8_isHeard_20 (by decide) ?_
  refine z_irem hx hb (by omega) (by omega) dX8_isHeard_22 ?_
  refine lv_iload hx hb dX8_isHeard_23 (lv_at hl 5 rfl) ?_
  refine mq_ci (As := [.int (iZ pe), .int (iZ sy), .int (iZ (sh / 100)), .int (iZ ((sh / 10) % 10)), .int (iZ (sh % 10)), .int (iZ bw)]) (rest := [.int (iZ ot), .ref h]) ⟨hx, hb, hml, hown, hts⟩ hK hP (C_landsBy l D C h a M pe sy (sh / 100) ((sh / 10) % 10) (sh % 10) bw hI (by omega) (by omega) (by omega) (by omega) (by omega) (by omega)) (cwV 6 hts gX8_isHeard_X8_landsBy rfl rfl rfl (by decide +kernel) ⟨Nat.le_of_ble_eq_true rfl, Nat.le_of_ble_eq_true rfl⟩) rfl rfl hl.1 (Nat.le_of_ble_eq_true rfl) ⟨Nat.le_of_ble_eq_true rfl, Nat.le_of_ble_eq_true rfl⟩ dX8_isHeard_25 ?_
  have hld := s_land_bd (M 3 (Int.toNat pe)) (M 7 (Int.toNat sy)) (M 6 (Int.toNat sy)) (M 19 1) (sh / 100) ((sh / 10) % 10) (sh % 10) bw
  refine W.eq (g2 := F0 m 28 ls [.int (iZ (s_land (M 3 (Int.toNat pe)) (M 7 (Int.toNat sy)) (M 6 (Int.toNat sy)) (M 19 1) (sh / 100) ((sh / 10) % 10) (sh % 10) bw)), .int (iZ ot), .ref h]) rfl ?_
  refine mq_ci (As := [.int (iZ ot), .int (iZ (s_land (M 3 (Int.toNat pe)) (M 7 (Int.toNat sy)) (M 6 (Int.toNat sy)) (M 19 1) (sh / 100) ((sh / 10) % 10) (sh % 10) bw))]) (rest := []) ⟨hx, hb, hml, hown, hts⟩ hK hP (C_doesHear l D C h a M ot (s_land (M 3 (Int.toNat pe)) (M 7 (Int.toNat sy)) (M 6 (Int.toNat sy)) (M 19 1) (sh / 100) ((sh / 10) % 10) (sh % 10) bw) hI (by omega) (by omega)) (cwV 2 hts gX8_isHeard_X8_doesHear rfl rfl rfl (by decide +kernel) ⟨Nat.le_of_ble_eq_true rfl, Nat.le_of_ble_eq_true rfl⟩) rfl rfl hl.1 (Nat.le_of_ble_eq_true rfl) ⟨Nat.le_of_ble_eq_true rfl, Nat.le_of_ble_eq_true rfl⟩ dX8_isHeard_28 ?_
  exact mq_ret hx hb hr (z_nbool (by first | omega | (split <;> omega))) rfl dX8_isHeard_31 hlocks rfl
set_option maxHeartbeats 4000000 in
set_option maxRecDepth 100000 in
theorem C_isShotBy (l : Launch) (sh : Int) (h1 : -2147483648 ≤ sh ∧ sh < 2147483648) : Met l yX8_isShotBy wsX8_isShotBy ({ frames := 2, cells := 0, slots := 0, locals := 44 }) (va_Pc [.int (iZ sh)] (fun _ => True)) (vp_Si (fun r => r = iZ (if (0 ≤ sh ∧ sh / 100 ≤ 3 ∧ sh / 10 % 10 ≤ 3 ∧ sh % 10 ≤ 1) then 1 else 0))) 0 0 (fun _ => False) := by
  refine Met.ofW (cc := cX8_isShotBy) (maxL := 1) (ret := (some .boolean)) (by decide) rfl ?_
  intro p e s m args below meth c s₁ B hml hv
  obtain ⟨rfl, -⟩ := hv
  have hx := B.exec
  have hb := B.bytes
  have hr := B.returns
  have hts := atoms_spec (ws := wsX8_isShotBy) B.pre
  have hown : s.vm.findClass RX8 = some m.cls := findClass_of_methodNamed B.named
  have hlocks := B.notSynchronized
  have hl := lv_entry ([.int (iZ sh)]) (n := 1) (Nat.le_of_ble_eq_true rfl)
  rw [lg_entry_eq]
  generalize (lg_sl ([.int (iZ sh)]) ++ List.replicate (1 - (lg_sl ([.int (iZ sh)])).length) Slot.unset).toArray = ls at hl ⊢
  replace hl : lv_has ls 1 [(0, .int (iZ sh))] := hl
  refine lv_iload_n hx hb dX8_isShotBy_0 rfl (lv_at hl 0 rfl) ?_
  have K4 : ∀ (v3 : Int), (v3 = (if sh < 0 then 0 else (if ((0 ≤ (sh / 100) ∧ (sh / 100) ≤ 3) ∧ (0 ≤ ((sh / 10) % 10) ∧ ((sh / 10) % 10) ≤ 3) ∧ (0 ≤ (sh % 10) ∧ (sh % 10) ≤ 1)) then 1 else 0))) → ∀ ls : Array Slot, lv_has ls 1 [] → W p l e ((headSpec wsX8_isShotBy ({ frames := 2, cells := 0, slots := 0, locals := 44 })).room) s m (([.int (iZ sh)] : List Value).toArray) below meth c s.heap [] 0 0 (MQ below (vp_Si (fun r => r = iZ (if (0 ≤ sh ∧ sh / 100 ≤ 3 ∧ sh / 10 % 10 ≤ 3 ∧ sh % 10 ≤ 1) then 1 else 0))) (([.int (iZ sh)] : List Value).toArray) s 0 0 (fun _ => False)) (F0 m 30 ls [.int (iZ v3)]) := by
    intro v3 hv3 ls hl
    exact mq_ret hx hb hr (z_nbool (by first | omega | (split <;> omega))) (by first | omega | ((repeat' split) <;> first | rfl | omega)) dX8_isShotBy_30 hlocks rfl
  refine z_if_lt (x := sh) (tgt := 29) hx hb (by omega) dX8_isShotBy_1 (by decide) (fun c1 => ?_) (fun c1 => ?_)
  · refine lv_iconst (v := iZ 0) hx hb dX8_isShotBy_29 (by decide) ?_
    exact K4 0 (by first | rfl | (rw [if_pos c1]; done) | omega | (subst_vars; first | rfl | (rw [if_pos c1]; done) | omega)) ls (lv_sub hl [] rfl)
  · refine lv_iload_n hx hb dX8_isShotBy_4 rfl (lv_at hl 0 rfl) ?_
    refine lv_bipush (v := iZ 100) hx hb dX8_isShotBy_5 (by decide) ?_
    refine z_idiv hx hb (by omega) (by omega) dX8_isShotBy_7 ?_
    refine lv_iload_n hx hb dX8_isShotBy_8 rfl (lv_at hl 0 rfl) ?_
    refine lv_bipush (v := iZ 10) hx hb dX8_isShotBy_9 (by decide) ?_
    refine z_idiv hx hb (by omega) (by omega) dX8_isShotBy_11 ?_
    refine lv_bipush (v := iZ 10) hx hb dX8_isShotBy_12 (by decide) ?_
    refine W.eq (g2 := F0 m 14 ls [.int (iZ 10), .int (iZ (sh / 10)), .int (iZ (sh / 100))]) rfl ?_
    refine z_irem hx hb (by omega) (by omega) dX8_isShotBy_14 ?_
    refine lv_iload_n hx hb dX8_isShotBy_15 rfl (lv_at hl 0 rfl) ?_
    refine lv_bipush (v := iZ 10) hx hb dX8_isShotBy_16 (by decide) ?_
    refine z_irem hx hb (by omega) (by omega) dX8_isShotBy_18 ?_
    refine mq_cs (As := [.int (iZ (sh / 100)), .int (iZ ((sh / 10) % 10)), .int (iZ (sh % 10))]) (rest := []) ⟨hx, hb, hml, hown, hts⟩ (C_isShot l (sh / 100) ((sh / 10) % 10) (sh % 10) (by omega) (by omega) (by omega)) (va_cwS 3 hts gX8_isShotBy_X8_isShot rfl rfl rfl (by decide +kernel) ⟨Nat.le_of_ble_eq_true rfl, Nat.le_of_ble_eq_true rfl⟩) rfl rfl hl.1 (Nat.le_of_ble_eq_true rfl) ⟨Nat.le_of_ble_eq_true rfl, Nat.le_of_ble_eq_true rfl⟩ dX8_isShotBy_19 ?_
    refine z_ifb_eq (P := ((0 ≤ (sh / 100) ∧ (sh / 100) ≤ 3) ∧ (0 ≤ ((sh / 10) % 10) ∧ ((sh / 10) % 10) ≤ 3) ∧ (0 ≤ (sh % 10) ∧ (sh % 10) ≤ 1))) (tgt := 29) hx hb dX8_isShotBy_22 (by decide) (fun c2 => ?_) (fun c2 => ?_)
    · refine lv_iconst (v := iZ 0) hx hb dX8_isShotBy_29 (by decide) ?_
      exact K4 0 (by first | rfl | (rw [if_neg c1, if_neg c2]; done) | omega | (subst_vars; first | rfl | (rw [if_neg c1, if_neg c2]; done) | omega)) ls (lv_sub hl [] rfl)
    · refine lv_iconst (v := iZ 1) hx hb dX8_isShotBy_25 (by decide) ?_
      refine lv_goto (tgt := 30) hx hb dX8_isShotBy_26 (by decide) ?_
      exact K4 1 (by first | rfl | (rw [if_neg c1, if_pos c2]; done) | omega | (subst_vars; first | rfl | (rw [if_neg c1, if_pos c2]; done) | omega)) ls (lv_sub hl [] rfl)
set_option maxHeartbeats 4000000 in
set_option maxRecDepth 100000 in
theorem C_waits (l : Launch) (D : va_G) (C : mC) (h : Nat) (a : Nat → Nat) (M : Nat → Nat → Int) (pe ot sy sh : Int) (hI : mI M) (h0 : -2147483648 ≤ pe ∧ pe < 2147483648) (h1 : -2147483648 ≤ ot ∧ ot < 2147483648) (h2 : -2147483648 ≤ sy ∧ sy < 2147483648) (h3 : -2147483648 ≤ sh ∧ sh < 2147483648) : Met l yX8_waits wsX8_waits ({ frames := 3, cells := 0, slots := 0, locals := 77 }) (va_Pc [.ref h, .int (iZ pe), .int (iZ ot), .int (iZ sy), .int (iZ sh)] (mOk D C h a M)) (vp_Si (fun r => r = iZ (s_waits M pe ot sy sh))) 0 0 (fun _ => False) := by
  refine Met.ofW (cc := cX8_waits) (maxL := 6) (ret := (some .int)) (by decide) rfl ?_
  intro p e s m args below meth c s₁ B hml hv
  obtain ⟨rfl, hP, hK⟩ := hv
  have hx := B.exec
  have hb := B.bytes
  have hr := B.returns
  have hts := atoms_spec (ws := wsX8_waits) B.pre
  have hown : s.vm.findClass RX8 = some m.cls := findClass_of_methodNamed B.named
  have hlocks := B.notSynchronized
  have hin : ∀ w ∈ wsX80, w ∈ wsX8_waits := fun _ w_h => (List.mem_cons_of_mem _ (List.mem_append_right _ w_h))
  have hl := lv_entry ([.ref h, .int (iZ pe), .int (iZ ot), .int (iZ sy), .int (iZ sh)]) (n := 6) (Nat.le_of_ble_eq_true rfl)
  rw [lg_entry_eq]
  generalize (lg_sl ([.ref h, .int (iZ pe), .int (iZ ot), .int (iZ sy), .int (iZ sh)]) ++ List.replicate (6 - (lg_sl ([.ref h, .int (iZ pe), .int (iZ ot), .int (iZ sy), .int (iZ sh)])).length) Slot.unset).toArray = ls at hl ⊢
  replace hl : lv_has ls 6 [(0, .ref h), (1, .int (iZ pe)), (2, .int (iZ ot)), (3, .int (iZ sy)), (4, .int (iZ sh))] := hl
  have hnw := mI_now hI
  refine lv_aload_n hx hb dX8_waits_0 rfl (lv_at hl 0 rfl) ?_
  refine lv_iload_n hx hb dX8_waits_1 rfl (lv_at hl 1 rfl) ?_
  refine W.eq (g2 := F0 m 2 ls [.int (iZ pe), .ref h]) rfl ?_
  refine lv_iload_n hx hb dX8_waits_2 rfl (lv_at hl 2 rfl) ?_
  refine mq_ci (As := [.int (iZ pe), .int (iZ ot)]) (rest := []) ⟨hx, hb, hml, hown, hts⟩ hK hP (C_areUnlike l D C h a M pe ot hI (by omega) (by omega)) (cwV 2 hts gX8_waits_X8_areUnlike rfl rfl rfl (by decide +kernel) ⟨Nat.le_of_ble_eq_true rfl, Nat.le_of_ble_eq_true rfl⟩) rfl rfl hl.1 (Nat.le_of_ble_eq_true rfl) ⟨Nat.le_of_ble_eq_true rfl, Nat.le_of_ble_eq_true rfl⟩ dX8_waits_3 ?_
  refine z_ifb_eq (P := ((0 ≤ pe ∧ pe < M 2 0) ∧ (0 ≤ ot ∧ ot < M 2 0) ∧ ¬ (pe = ot))) (tgt := 25) hx hb dX8_waits_6 (by decide) (fun c1 => ?_) (fun c1 => ?_)
  · refine lv_iconst (v := iZ (-1)) hx hb dX8_waits_25 (by decide) ?_
    exact mq_ret hx hb hr rfl (by first | (have q : nn = 13 := (by omega); rw [i2, q]; rfl) | (rw [i2, zfind_step _ 13 _ (by omega)]; exact (if_pos (decide_eq_true (by assumption))).symm) | (unfold s_waits; rw [if_neg (by omega)])) dX8_waits_26 hlocks rfl
  · refine lv_aload_n hx hb dX8_waits_9 rfl (lv_at hl 0 rfl) ?_
    refine lv_iload_n hx hb dX8_waits_10 rfl (lv_at hl 3 rfl) ?_
    refine mq_ci (As := [.int (iZ sy)]) (rest := []) ⟨hx, hb, hml, hown, hts⟩ hK hP (C_isSaying l D C h a M sy hI (by omega)) (cwV 1 hts gX8_waits_X8_isSaying rfl rfl rfl (by decide +kernel) ⟨Nat.le_of_ble_eq_true rfl, Nat.le_of_ble_eq_true rfl⟩) rfl rfl hl.1 (Nat.le_of_ble_eq_true rfl) ⟨Nat.le_of_ble_eq_true rfl, Nat.le_of_ble_eq_true rfl⟩ dX8_waits_11 ?_
    refine z_ifb_eq (P := (0 ≤ sy ∧ sy < M 5 0)) (tgt := 25) hx hb dX8_waits_14 (by decide) (fun c2 => ?_) (fun c2 => ?_)
    · refine lv_iconst (v := iZ (-1)) hx hb dX8_waits_25 (by decide) ?_
      exact mq_ret hx hb hr rfl (by first | (have q : nn = 13 := (by omega); rw [i2, q]; rfl) | (rw [i2, zfind_step _ 13 _ (by omega)]; exact (if_pos (decide_eq_true (by assumption))).symm) | (unfold s_waits; rw [if_neg (by omega)])) dX8_waits_26 hlocks rfl
    · refine lv_iload hx hb dX8_waits_17 (lv_at hl 4 rfl) ?_
      refine W.eq (g2 := F0 m 19 ls [.int (iZ sh)]) rfl ?_
      refine mq_cs (As := [.int (iZ sh)]) (rest := []) ⟨hx, hb, hml, hown, hts⟩ (C_isShotBy l sh (by omega)) (va_cwS 1 hts gX8_waits_X8_isShotBy rfl rfl rfl (by decide +kernel) ⟨Nat.le_of_ble_eq_true rfl, Nat.le_of_ble_eq_true rfl⟩) rfl rfl hl.1 (Nat.le_of_ble_eq_true rfl) ⟨Nat.le_of_ble_eq_true rfl, Nat.le_of_ble_eq_true rfl⟩ dX8_waits_19 ?_
      refine z_ifb_ne (P := (0 ≤ sh ∧ sh / 100 ≤ 3 ∧ sh / 10 % 10 ≤ 3 ∧ sh % 10 ≤ 1)) (tgt := 27) hx hb dX8_waits_22 (by decide) (fun c3 => ?_) (fun c3 => ?_)
      · refine lv_iconst (v := iZ 0) hx hb dX8_waits_27 (by decide) ?_
        refine lv_istore (lv' := [(5, .int (iZ 0)), (0, .ref h), (1, .int (iZ pe)), (2, .int (iZ ot)), (3, .int (iZ sy)), (4, .int (iZ sh))]) hx hb dX8_waits_28 hl (by decide) rfl (fun ls hl => ?_)
        replace hl : lv_has ls 6 [(5, .int (iZ (0 : Int))), (0, .ref h), (1, .int (iZ pe)), (2, .int (iZ ot)), (3, .int (iZ sy)), (4, .int (iZ sh))] := lv_sub hl [0, 1, 2, 3, 4, 5] rfl
        revert ls
        refine z_loop (σ := Int) (fun x9 => (0 ≤ x9 ∧ x9 ≤ 13) ∧ (s_waits M pe ot sy sh = zfind (fun q => decide (s_hrd M pe ot sy sh (s_wind M q))) (13 - x9).toNat x9)) (fun x9 => [(5, .int (iZ x9)), (0, .ref h), (1, .int (iZ pe)), (2, .int (iZ ot)), (3, .int (iZ sy)), (4, .int (iZ sh))]) 6 (fun x9 => (13 - x9).toNat) (0 : Int) ⟨(by show 0 ≤ (0 : Int) ∧ (0 : Int) ≤ 13; omega), (by show s_waits M pe ot sy sh = zfind (fun q => decide (s_hrd M pe ot sy sh (s_wind M q))) (13 - (0 : Int)).toNat (0 : Int); unfold s_waits; rw [if_pos (by omega)]; rfl)⟩ ?_
        rintro nn hI9 ih30 ls hl
        obtain ⟨i1, i2⟩ := hI9
        replace i1 : 0 ≤ nn ∧ nn ≤ 13 := i1
        replace i2 : s_waits M pe ot sy sh = zfind (fun q => decide (s_hrd M pe ot sy sh (s_wind M q))) (13 - nn).toNat nn := i2
        replace hl : lv_has ls 6 [(5, .int (iZ nn)), (0, .ref h), (1, .int (iZ pe)), (2, .int (iZ ot)), (3, .int (iZ sy)), (4, .int (iZ sh))] := hl
        refine lv_iload hx hb dX8_waits_30 (lv_at hl 0 rfl) ?_
        refine lv_bipush (v := iZ 12) hx hb dX8_waits_32 (by decide) ?_
        refine z_icmp_gt (x := nn) (y := 12) (tgt := 64) hx hb (by omega) (by omega) dX8_waits_34 (by decide) (fun c4 => ?_) (fun c4 => ?_)
        · refine lv_bipush (v := iZ (-9)) hx hb dX8_waits_64 (by decide) ?_
          exact mq_ret hx hb hr rfl (by first | (have q : nn = 13 := (by omega); rw [i2, q]; rfl) | (rw [i2, zfind_step _ 13 _ (by omega)]; exact (if_pos (decide_eq_true (by assumption))).symm) | (unfold s_waits; rw [if_neg (by omega)])) dX8_waits_66 hlocks rfl
        · refine lv_aload_n hx hb dX8_waits_37 rfl (lv_at hl 1 rfl) ?_
          refine lv_iload_n hx hb dX8_waits_38 rfl (lv_at hl 2 rfl) ?_
          refine lv_iload_n hx hb dX8_waits_39 rfl (lv_at hl 3 rfl) ?_
          refine W.eq (g2 := F0 m 40 ls [.int (iZ ot), .int (iZ pe), .ref h]) rfl ?_
          refine lv_iload_n hx hb dX8_waits_40 rfl (lv_at hl 4 rfl) ?_
          refine lv_iload hx hb dX8_waits_41 (lv_at hl 5 rfl) ?_
          refine lv_aload_n hx hb dX8_waits_43 rfl (lv_at hl 1 rfl) ?_
          refine lv_iload hx hb dX8_waits_44 (lv_at hl 0 rfl) ?_
          refine mq_ci (As := [.int (iZ nn)]) (rest := [.int (iZ sh), .int (iZ sy), .int (iZ ot), .int (iZ pe), .ref h]) ⟨hx, hb, hml, hown, hts⟩ hK hP (C_windIn l D C h a M nn hI (by omega)) (cwV 1 hts gX8_waits_X8_windIn rfl rfl rfl (by decide +kernel) ⟨Nat.le_of_ble_eq_true rfl, Nat.le_of_ble_eq_true rfl⟩) rfl rfl hl.1 (Nat.le_of_ble_eq_true rfl) ⟨Nat.le_of_ble_eq_true rfl, Nat.le_of_ble_eq_true rfl⟩ dX8_waits_46 ?_
          have hwi := mI_wd hI nn
          refine mq_ci (As := [.int (iZ pe), .int (iZ ot), .int (iZ sy), .int (iZ sh), .int (iZ (s_wind M nn))]) (rest := []) ⟨hx, hb, hml, hown, hts⟩ hK hP (C_isHeard l D C h a M pe ot sy sh (s_wind M nn) hI (by omega) (by omega) (by omega) (by omega) (by omega) (by omega)) (cwV 5 hts gX8_waits_X8_isHeard rfl rfl rfl (by decide +kernel) ⟨Nat.le_of_ble_eq_true rfl, Nat.le_of_ble_eq_true rfl⟩) rfl rfl hl.1 (Nat.le_of_ble_eq_true rfl) ⟨Nat.le_of_ble_eq_true rfl, Nat.le_of_ble_eq_true rfl⟩ dX8_waits_49 ?_
          refine z_ifb_eq (P := (s_hrd M pe ot sy sh (s_wind M nn))) (tgt := 58) hx hb dX8_waits_52 (by decide) (fun c5 => ?_) (fun c5 => ?_)
          · refine lv_iinc (v := iZ (nn + 1)) (lv' := [(5, .int (iZ (nn + 1))), (0, .ref h), (1, .int (iZ pe)), (2, .int (iZ ot)), (3, .int (iZ sy)), (4, .int (iZ sh))]) hx hb dX8_waits_58 hl (k := 0) rfl (iZ_add _ _) (by decide) rfl (fun ls hl => ?_)
            refine lv_goto (tgt := 30) hx hb dX8_waits_61 (by decide) ?_
            exact ih30 (nn + 1) ⟨(by show 0 ≤ (nn + 1) ∧ (nn + 1) ≤ 13; omega), (by show s_waits M pe ot sy sh = zfind (fun q => decide (s_hrd M pe ot sy sh (s_wind M q))) (13 - (nn + 1)).toNat (nn + 1); rw [i2, zfind_step _ 13 _ (by omega)]; exact if_neg (fun h9 => absurd (of_decide_eq_true h9) (by assumption)))⟩ (by show (13 - (nn + 1)).toNat < (13 - nn).toNat; omega) ls (lv_sub hl [0, 1, 2, 3, 4, 5] rfl)
          · refine lv_iload hx hb dX8_waits_55 (lv_at hl 0 rfl) ?_
            exact mq_ret hx hb hr rfl (by first | (have q : nn = 13 := (by omega); rw [i2, q]; rfl) | (rw [i2, zfind_step _ 13 _ (by omega)]; exact (if_pos (decide_eq_true (by assumption))).symm) | (unfold s_waits; rw [if_neg (by omega)])) dX8_waits_57 hlocks rfl
      · refine lv_iconst (v := iZ (-1)) hx hb dX8_waits_25 (by decide) ?_
        refine W.eq (g2 := F0 m 26 ls [.int (iZ (-1))]) rfl ?_
        exact mq_ret hx hb hr rfl (by first | (have q : nn = 13 := (by omega); rw [i2, q]; rfl) | (rw [i2, zfind_step _ 13 _ (by omega)]; exact (if_pos (decide_eq_true (by assumption))).symm) | (unfold s_waits; rw [if_neg (by omega)])) dX8_waits_26 hlocks rfl
set_option maxHeartbeats 4000000 in
set_option maxRecDepth 100000 in
theorem C_call (l : Launch) (D : va_G) (C : mC) (h : Nat) (a : Nat → Nat) (M : Nat → Nat → Int) (pe ot sy : Int) (hI : mI M) (h0 : -2147483648 ≤ pe ∧ pe < 2147483648) (h1 : -2147483648 ≤ ot ∧ ot < 2147483648) (h2 : -2147483648 ≤ sy ∧ sy < 2147483648) : Met l yX8_call wsX8_call ({ frames := 3, cells := 0, slots := 0, locals := 77 }) (va_Pc [.ref h, .int (iZ pe), .int (iZ ot), .int (iZ sy)] (mOk D C h a M)) (vp_Si (fun r => r = iZ (s_call M pe ot sy))) 0 0 (fun _ => False) := by
  refine Met.ofW (cc := cX8_call) (maxL := 8) (ret := (some .int)) (by decide) rfl ?_
  intro p e s m args below meth c s₁ B hml hv
  obtain ⟨rfl, hP, hK⟩ := hv
  have hx := B.exec
  have hb := B.bytes
  have hr := B.returns
  have hts := atoms_spec (ws := wsX8_call) B.pre
  have hown : s.vm.findClass RX8 = some m.cls := findClass_of_methodNamed B.named
  have hlocks := B.notSynchronized
  have hin : ∀ w ∈ wsX80, w ∈ wsX8_call := fun _ w_h => (List.mem_cons_of_mem _ (List.mem_append_right _ w_h))
  have hl := lv_entry ([.ref h, .int (iZ pe), .int (iZ ot), .int (iZ sy)]) (n := 8) (Nat.le_of_ble_eq_true rfl)
  rw [lg_entry_eq]
  generalize (lg_sl ([.ref h, .int (iZ pe), .int (iZ ot), .int (iZ sy)]) ++ List.replicate (8 - (lg_sl ([.ref h, .int (iZ pe), .int (iZ ot), .int (iZ sy)])).length) Slot.unset).toArray = ls at hl ⊢
  replace hl : lv_has ls 8 [(0, .ref h), (1, .int (iZ pe)), (2, .int (iZ ot)), (3, .int (iZ sy))] := hl
  have hnw := mI_now hI
  refine lv_aload_n hx hb dX8_call_0 rfl (lv_at hl 0 rfl) ?_
  refine lv_iload_n hx hb dX8_call_1 rfl (lv_at hl 1 rfl) ?_
  refine lv_iload_n hx hb dX8_call_2 rfl (lv_at hl 2 rfl) ?_
  refine mq_ci (As := [.int (iZ pe), .int (iZ ot)]) (rest := []) ⟨hx, hb, hml, hown, hts⟩ hK hP (C_areUnlike l D C h a M pe ot hI (by omega) (by omega)) (cwV 2 hts gX8_call_X8_areUnlike rfl rfl rfl (by decide +kernel) ⟨Nat.le_of_ble_eq_true rfl, Nat.le_of_ble_eq_true rfl⟩) rfl rfl hl.1 (Nat.le_of_ble_eq_true rfl) ⟨Nat.le_of_ble_eq_true rfl, Nat.le_of_ble_eq_true rfl⟩ dX8_call_3 ?_
  refine z_ifb_eq (P := ((0 ≤ pe ∧ pe < M 2 0) ∧ (0 ≤ ot ∧ ot < M 2 0) ∧ ¬ (pe = ot))) (tgt := 17) hx hb dX8_call_6 (by decide) (fun c1 => ?_) (fun c1 => ?_)
  · refine lv_iconst (v := iZ (-1)) hx hb dX8_call_17 (by decide) ?_
    exact mq_ret hx hb hr rfl (by first | (rw [i5, s_call_step _ (by omega) (by omega) (by omega)]; exact (if_pos (decide_eq_true (by assumption))).symm) | (have q : nn = 4 := (by omega); rw [i2, q]; rfl) | (unfold s_call; rw [if_neg (by omega)])) dX8_call_18 hlocks rfl
  · refine lv_aload_n hx hb dX8_call_9 rfl (lv_at hl 0 rfl) ?_
    refine lv_iload_n hx hb dX8_call_10 rfl (lv_at hl 3 rfl) ?_
    refine mq_ci (As := [.int (iZ sy)]) (rest := []) ⟨hx, hb, hml, hown, hts⟩ hK hP (C_isSaying l D C h a M sy hI (by omega)) (cwV 1 hts gX8_call_X8_isSaying rfl rfl rfl (by decide +kernel) ⟨Nat.le_of_ble_eq_true rfl, Nat.le_of_ble_eq_true rfl⟩) rfl rfl hl.1 (Nat.le_of_ble_eq_true rfl) ⟨Nat.le_of_ble_eq_true rfl, Nat.le_of_ble_eq_true rfl⟩ dX8_call_11 ?_
    refine z_ifb_ne (P := (0 ≤ sy ∧ sy < M 5 0)) (tgt := 19) hx hb dX8_call_14 (by decide) (fun c2 => ?_) (fun c2 => ?_)
    · refine W.eq (g2 := F0 m 19 ls []) rfl ?_
      refine lv_iconst (v := iZ 0) hx hb dX8_call_19 (by decide) ?_
      refine lv_istore (lv' := [(4, .int (iZ 0)), (0, .ref h), (1, .int (iZ pe)), (2, .int (iZ ot)), (3, .int (iZ sy))]) hx hb dX8_call_20 hl (by decide) rfl (fun ls hl => ?_)
      replace hl : lv_has ls 8 [(4, .int (iZ (0 : Int))), (0, .ref h), (1, .int (iZ pe)), (2, .int (iZ ot)), (3, .int (iZ sy))] := lv_sub hl [0, 1, 2, 3, 4] rfl
      revert ls
      refine z_loop (σ := Int) (fun x9 => (0 ≤ x9 ∧ x9 ≤ 4) ∧ (s_call M pe ot sy = zfindL (fun q => decide (s_hrd M pe ot sy q (s_wind M 0))) (shN.drop (s_pos x9 0 0)))) (fun x9 => [(4, .int (iZ x9)), (0, .ref h), (1, .int (iZ pe)), (2, .int (iZ ot)), (3, .int (iZ sy))]) 8 (fun x9 => (4 - x9).toNat) (0 : Int) ⟨(by show 0 ≤ (0 : Int) ∧ (0 : Int) ≤ 4; omega), (by show s_call M pe ot sy = zfindL (fun q => decide (s_hrd M pe ot sy q (s_wind M 0))) (shN.drop (s_pos (0 : Int) 0 0)); unfold s_call; rw [if_pos (by omega)]; rfl)⟩ ?_
      rintro nn hI9 ih22 ls hl
      obtain ⟨i1, i2⟩ := hI9
      replace i1 : 0 ≤ nn ∧ nn ≤ 4 := i1
      replace i2 : s_call M pe ot sy = zfindL (fun q => decide (s_hrd M pe ot sy q (s_wind M 0))) (shN.drop (s_pos nn 0 0)) := i2
      replace hl : lv_has ls 8 [(4, .int (iZ nn)), (0, .ref h), (1, .int (iZ pe)), (2, .int (iZ ot)), (3, .int (iZ sy))] := hl
      refine lv_iload hx hb dX8_call_22 (lv_at hl 0 rfl) ?_
      refine lv_iconst (v := iZ 3) hx hb dX8_call_24 (by decide) ?_
      refine z_icmp_gt (x := nn) (y := 3) (tgt := 109) hx hb (by omega) (by omega) dX8_call_25 (by decide) (fun c3 => ?_) (fun c3 => ?_)
      · refine lv_bipush (v := iZ (-9)) hx hb dX8_call_109 (by decide) ?_
        exact mq_ret hx hb hr rfl (by first | (rw [i5, s_call_step _ (by omega) (by omega) (by omega)]; exact (if_pos (decide_eq_true (by assumption))).symm) | (have q : nn = 4 := (by omega); rw [i2, q]; rfl) | (unfold s_call; rw [if_neg (by omega)])) dX8_call_111 hlocks rfl
      · refine lv_iconst (v := iZ 0) hx hb dX8_call_28 (by decide) ?_
        refine lv_istore (lv' := [(5, .int (iZ 0)), (4, .int (iZ nn)), (0, .ref h), (1, .int (iZ pe)), (2, .int (iZ ot)), (3, .int (iZ sy))]) hx hb dX8_call_29 hl (by decide) rfl (fun ls hl => ?_)
        replace hl : lv_has ls 8 [(5, .int (iZ (0 : Int))), (4, .int (iZ nn)), (0, .ref h), (1, .int (iZ pe)), (2, .int (iZ ot)), (3, .int (iZ sy))] := lv_sub hl [0, 1, 2, 3, 4, 5] rfl
        revert ls
        refine z_loop (σ := Int) (fun x9 => (0 ≤ x9 ∧ x9 ≤ 4 ∧ (nn = 0 → x9 ≤ 1)) ∧ (s_call M pe ot sy = zfindL (fun q => decide (s_hrd M pe ot sy q (s_wind M 0))) (shN.drop (s_pos nn x9 0)))) (fun x9 => [(5, .int (iZ x9)), (4, .int (iZ nn)), (0, .ref h), (1, .int (iZ pe)), (2, .int (iZ ot)), (3, .int (iZ sy))]) 8 (fun x9 => (4 - x9).toNat) (0 : Int) ⟨(by show 0 ≤ (0 : Int) ∧ (0 : Int) ≤ 4 ∧ (nn = 0 → (0 : Int) ≤ 1); omega), (by show s_call M pe ot sy = zfindL (fun q => decide (s_hrd M pe ot sy q (s_wind M 0))) (shN.drop (s_pos nn (0 : Int) 0)); exact i2)⟩ ?_
        rintro kd hI9 ih31 ls hl
        obtain ⟨i4, i3⟩ := hI9
        replace i4 : 0 ≤ kd ∧ kd ≤ 4 ∧ (nn = 0 → kd ≤ 1) := i4
        replace i3 : s_call M pe ot sy = zfindL (fun q => decide (s_hrd M pe ot sy q (s_wind M 0))) (shN.drop (s_pos nn kd 0)) := i3
        replace hl : lv_has ls 8 [(5, .int (iZ kd)), (4, .int (iZ nn)), (0, .ref h), (1, .int (iZ pe)), (2, .int (iZ ot)), (3, .int (iZ sy))] := hl
        refine lv_iload hx hb dX8_call_31 (lv_at hl 0 rfl) ?_
        refine lv_iload hx hb dX8_call_33 (lv_at hl 1 rfl) ?_
        have K6 : ∀ (v5 : Int), (v5 = (if nn = 0 then 1 else 4)) → ∀ ls : Array Slot, lv_has ls 8 [(5, .int (iZ kd)), (4, .int (iZ nn)), (0, .ref h), (1, .int (iZ pe)), (2, .int (iZ ot)), (3, .int (iZ sy))] → W p l e ((headSpec wsX8_call ({ frames := 3, cells := 0, slots := 0, locals := 77 })).room) s m (([.ref h, .int (iZ pe), .int (iZ ot), .int (iZ sy)] : List Value).toArray) below meth c s.heap [] 0 0 (MQ below (vp_Si (fun r => r = iZ (s_call M pe ot sy))) (([.ref h, .int (iZ pe), .int (iZ ot), .int (iZ sy)] : List Value).toArray) s 0 0 (fun _ => False)) (F0 m 43 ls [.int (iZ v5), .int (iZ kd)]) := by
          intro v5 hv5 ls hl
          refine z_icmp_ge (x := kd) (y := v5) (tgt := 103) hx hb (by omega) (by omega) dX8_call_43 (by decide) (fun c7 => ?_) (fun c7 => ?_)
          · refine lv_iinc (v := iZ (nn + 1)) (lv' := [(4, .int (iZ (nn + 1))), (5, .int (iZ kd)), (0, .ref h), (1, .int (iZ pe)), (2, .int (iZ ot)), (3, .int (iZ sy))]) hx hb dX8_call_103 hl (k := 1) rfl (iZ_add _ _) (by decide) rfl (fun ls hl => ?_)
            refine lv_goto (tgt := 22) hx hb dX8_call_106 (by decide) ?_
            exact ih22 (nn + 1) ⟨(by show 0 ≤ (nn + 1) ∧ (nn + 1) ≤ 4; omega), (by show s_call M pe ot sy = zfindL (fun q => decide (s_hrd M pe ot sy q (s_wind M 0))) (shN.drop (s_pos (nn + 1) 0 0)); rw [i3]; congr 2; unfold s_pos; omega)⟩ (by show (4 - (nn + 1)).toNat < (4 - nn).toNat; omega) ls (lv_sub hl [0, 2, 3, 4, 5] rfl)
          · refine lv_iconst (v := iZ 0) hx hb dX8_call_46 (by decide) ?_
            refine lv_istore (lv' := [(6, .int (iZ 0)), (5, .int (iZ kd)), (4, .int (iZ nn)), (0, .ref h), (1, .int (iZ pe)), (2, .int (iZ ot)), (3, .int (iZ sy))]) hx hb dX8_call_47 hl (by decide) rfl (fun ls hl => ?_)
            replace hl : lv_has ls 8 [(6, .int (iZ (0 : Int))), (5, .int (iZ kd)), (4, .int (iZ nn)), (0, .ref h), (1, .int (iZ pe)), (2, .int (iZ ot)), (3, .int (iZ sy))] := lv_sub hl [0, 1, 2, 3, 4, 5, 6] rfl
            revert ls
            refine z_loop (σ := Int) (fun x9 => (0 ≤ x9 ∧ x9 ≤ 2) ∧ (s_call M pe ot sy = zfindL (fun q => decide (s_hrd M pe ot sy q (s_wind M 0))) (shN.drop (s_pos nn kd x9)))) (fun x9 => [(6, .int (iZ x9)), (5, .int (iZ kd)), (4, .int (iZ nn)), (0, .ref h), (1, .int (iZ pe)), (2, .int (iZ ot)), (3, .int (iZ sy))]) 8 (fun x9 => (2 - x9).toNat) (0 : Int) ⟨(by show 0 ≤ (0 : Int) ∧ (0 : Int) ≤ 2; omega), (by show s_call M pe ot sy = zfindL (fun q => decide (s_hrd M pe ot sy q (s_wind M 0))) (shN.drop (s_pos nn kd (0 : Int))); exact i3)⟩ ?_
            rintro sd hI9 ih49 ls hl
            obtain ⟨i6, i5⟩ := hI9
            replace i6 : 0 ≤ sd ∧ sd ≤ 2 := i6
            replace i5 : s_call M pe ot sy = zfindL (fun q => decide (s_hrd M pe ot sy q (s_wind M 0))) (shN.drop (s_pos nn kd sd)) := i5
            replace hl : lv_has ls 8 [(6, .int (iZ sd)), (5, .int (iZ kd)), (4, .int (iZ nn)), (0, .ref h), (1, .int (iZ pe)), (2, .int (iZ ot)), (3, .int (iZ sy))] := hl
            refine lv_iload hx hb dX8_call_49 (lv_at hl 0 rfl) ?_
            refine lv_iconst (v := iZ 1) hx hb dX8_call_51 (by decide) ?_
            refine z_icmp_gt (x := sd) (y := 1) (tgt := 97) hx hb (by omega) (by omega) dX8_call_52 (by decide) (fun c8 => ?_) (fun c8 => ?_)
            · refine lv_iinc (v := iZ (kd + 1)) (lv' := [(5, .int (iZ (kd + 1))), (6, .int (iZ sd)), (4, .int (iZ nn)), (0, .ref h), (1, .int (iZ pe)), (2, .int (iZ ot)), (3, .int (iZ sy))]) hx hb dX8_call_97 hl (k := 1) rfl (iZ_add _ _) (by decide) rfl (fun ls hl => ?_)
              refine W.eq (g2 := F0 m 100 ls []) rfl ?_
              refine lv_goto (tgt := 31) hx hb dX8_call_100 (by decide) ?_
              exact ih31 (kd + 1) ⟨(by show 0 ≤ (kd + 1) ∧ (kd + 1) ≤ 4 ∧ (nn = 0 → (kd + 1) ≤ 1); omega), (by show s_call M pe ot sy = zfindL (fun q => decide (s_hrd M pe ot sy q (s_wind M 0))) (shN.drop (s_pos nn (kd + 1) 0)); rw [i5]; congr 2; unfold s_pos; omega)⟩ (by show (4 - (kd + 1)).toNat < (4 - kd).toNat; omega) ls (lv_sub hl [0, 2, 3, 4, 5, 6] rfl)
            · refine lv_bipush (v := iZ 100) hx hb dX8_call_55 (by decide) ?_
              refine lv_iload hx hb dX8_call_57 (lv_at hl 1 rfl) ?_
              refine z_imul hx hb dX8_call_59 ?_
              refine lv_bipush (v := iZ 10) hx hb dX8_call_60 (by decide) ?_
              refine lv_iload hx hb dX8_call_62 (lv_at hl 2 rfl) ?_
              refine z_imul hx hb dX8_call_64 ?_
              refine z_iadd hx hb dX8_call_65 ?_
              refine lv_iload hx hb dX8_call_66 (lv_at hl 0 rfl) ?_
              refine z_iadd hx hb dX8_call_68 ?_
              refine lv_istore (lv' := [(7, .int (iZ (((100 * kd) + (10 * nn)) + sd))), (6, .int (iZ sd)), (5, .int (iZ kd)), (4, .int (iZ nn)), (0, .ref h), (1, .int (iZ pe)), (2, .int (iZ ot)), (3, .int (iZ sy))]) hx hb dX8_call_69 hl (by decide) rfl (fun ls hl => ?_)
              refine lv_aload_n hx hb dX8_call_71 rfl (lv_at hl 4 rfl) ?_
              refine W.eq (g2 := F0 m 72 ls [.ref h]) rfl ?_
              refine lv_iload_n hx hb dX8_call_72 rfl (lv_at hl 5 rfl) ?_
              refine lv_iload_n hx hb dX8_call_73 rfl (lv_at hl 6 rfl) ?_
              refine lv_iload_n hx hb dX8_call_74 rfl (lv_at hl 7 rfl) ?_
              refine lv_iload hx hb dX8_call_75 (lv_at hl 0 rfl) ?_
              refine lv_aload_n hx hb dX8_call_77 rfl (lv_at hl 4 rfl) ?_
              refine lv_iconst (v := iZ 0) hx hb dX8_call_78 (by decide) ?_
              refine mq_ci (As := [.int (iZ 0)]) (rest := [.int (iZ (((100 * kd) + (10 * nn)) + sd)), .int (iZ sy), .int (iZ ot), .int (iZ pe), .ref h]) ⟨hx, hb, hml, hown, hts⟩ hK hP (C_windIn l D C h a M 0 hI (by omega)) (cwV 1 hts gX8_call_X8_windIn rfl rfl rfl (by decide +kernel) ⟨Nat.le_of_ble_eq_true rfl, Nat.le_of_ble_eq_true rfl⟩) rfl rfl hl.1 (Nat.le_of_ble_eq_true rfl) ⟨Nat.le_of_ble_eq_true rfl, Nat.le_of_ble_eq_true rfl⟩ dX8_call_79 ?_
              have hwi := mI_wd hI 0
              refine mq_ci (As := [.int (iZ pe), .int (iZ ot), .int (iZ sy), .int (iZ (((100 * kd) + (10 * nn)) + sd)), .int (iZ (s_wind M 0))]) (rest := []) ⟨hx, hb, hml, hown, hts⟩ hK hP (C_isHeard l D C h a M pe ot sy (((100 * kd) + (10 * nn)) + sd) (s_wind M 0) hI (by omega) (by omega) (by omega) (by omega) (by omega) (by omega)) (cwV 5 hts gX8_call_X8_isHeard rfl rfl rfl (by decide +kernel) ⟨Nat.le_of_ble_eq_true rfl, Nat.le_of_ble_eq_true rfl⟩) rfl rfl hl.1 (Nat.le_of_ble_eq_true rfl) ⟨Nat.le_of_ble_eq_true rfl, Nat.le_of_ble_eq_true rfl⟩ dX8_call_82 ?_
              refine z_ifb_eq (P := (s_hrd M pe ot sy (((100 * kd) + (10 * nn)) + sd) (s_wind M 0))) (tgt := 91) hx hb dX8_call_85 (by decide) (fun c9 => ?_) (fun c9 => ?_)
              · refine lv_iinc (v := iZ (sd + 1)) (lv' := [(6, .int (iZ (sd + 1))), (7, .int (iZ (((100 * kd) + (10 * nn)) + sd))), (5, .int (iZ kd)), (4, .int (iZ nn)), (0, .ref h), (1, .int (iZ pe)), (2, .int (iZ ot)), (3, .int (iZ sy))]) hx hb dX8_call_91 hl (k := 1) rfl (iZ_add _ _) (by decide) rfl (fun ls hl => ?_)
                refine lv_goto (tgt := 49) hx hb dX8_call_94 (by decide) ?_
                exact ih49 (sd + 1) ⟨(by show 0 ≤ (sd + 1) ∧ (sd + 1) ≤ 2; omega), (by show s_call M pe ot sy = zfindL (fun q => decide (s_hrd M pe ot sy q (s_wind M 0))) (shN.drop (s_pos nn kd (sd + 1))); rw [i5, s_call_step _ (by omega) (by omega) (by omega)]; exact if_neg (fun h9 => absurd (of_decide_eq_true h9) (by assumption)))⟩ (by show (2 - (sd + 1)).toNat < (2 - sd).toNat; omega) ls (lv_sub hl [0, 2, 3, 4, 5, 6, 7] rfl)
              · refine lv_iload hx hb dX8_call_88 (lv_at hl 0 rfl) ?_
                refine W.eq (g2 := F0 m 90 ls [.int (iZ (((100 * kd) + (10 * nn)) + sd))]) rfl ?_
                exact mq_ret hx hb hr rfl (by first | (rw [i5, s_call_step _ (by omega) (by omega) (by omega)]; exact (if_pos (decide_eq_true (by assumption))).symm) | (have q : nn = 4 := (by omega); rw [i2, q]; rfl) | (unfold s_call; rw [if_neg (by omega)])) dX8_call_90 hlocks rfl
        refine z_if_ne (x := nn) (tgt := 42) hx hb (by omega) dX8_call_35 (by decide) (fun c4 => ?_) (fun c4 => ?_)
        · refine W.eq (g2 := F0 m 42 ls [.int (iZ kd)]) rfl ?_
          refine lv_iconst (v := iZ 4) hx hb dX8_call_42 (by decide) ?_
          exact K6 4 (by first | rfl | (rw [if_neg c4]; done) | omega | (subst_vars; first | rfl | (rw [if_neg c4]; done) | omega)) ls (lv_sub hl [0, 1, 2, 3, 4, 5] rfl)
        · refine lv_iconst (v := iZ 1) hx hb dX8_call_38 (by decide) ?_
          refine lv_goto (tgt := 43) hx hb dX8_call_39 (by decide) ?_
          exact K6 1 (by first | rfl | (rw [if_pos c4]; done) | omega | (subst_vars; first | rfl | (rw [if_pos c4]; done) | omega)) ls (lv_sub hl [0, 1, 2, 3, 4, 5] rfl)
    · refine lv_iconst (v := iZ (-1)) hx hb dX8_call_17 (by decide) ?_
      exact mq_ret hx hb hr rfl (by first | (rw [i5, s_call_step _ (by omega) (by omega) (by omega)]; exact (if_pos (decide_eq_true (by assumption))).symm) | (have q : nn = 4 := (by omega); rw [i2, q]; rfl) | (unfold s_call; rw [if_neg (by omega)])) dX8_call_18 hlocks rfl
set_option maxHeartbeats 4000000 in
set_option maxRecDepth 100000 in
theorem C_behind (l : Launch) (D : va_G) (C : mC) (h : Nat) (a : Nat → Nat) (M : Nat → Nat → Int) (st pe sy fe nn sd : Int) (hI : mI M) (h0 : 0 ≤ st ∧ st < 64) (h1 : 0 ≤ pe ∧ pe < M 2 0) (h2 : 0 ≤ sy ∧ sy < M 5 0) (h3 : 0 ≤ fe ∧ fe ≤ 3) (h4 : 0 ≤ nn ∧ nn ≤ 3) (h5 : 0 ≤ sd ∧ sd ≤ 1) : Met l yX8_behind wsX8_behind ({ frames := 2, cells := 0, slots := 0, locals := 52 }) (va_Pc [.ref h, .int (iZ st), .int (iZ pe), .int (iZ sy), .int (iZ fe), .int (iZ nn), .int (iZ sd)] (mOk D C h a M)) (vp_Si (fun r => r = iZ (zor st (s_hearers M (s_ln M pe sy fe nn sd) pe)))) 0 0 (fun _ => False) := by
  refine Met.ofW (cc := cX8_behind) (maxL := 7) (ret := (some .int)) (by decide) rfl ?_
  intro p e s m args below meth c s₁ B hml hv
  obtain ⟨rfl, hP, hK⟩ := hv
  have hx := B.exec
  have hb := B.bytes
  have hr := B.returns
  have hts := atoms_spec (ws := wsX8_behind) B.pre
  have hown : s.vm.findClass RX8 = some m.cls := findClass_of_methodNamed B.named
  have hlocks := B.notSynchronized
  have hin : ∀ w ∈ wsX80, w ∈ wsX8_behind := fun _ w_h => (List.mem_cons_of_mem _ (List.mem_append_right _ w_h))
  have hl := lv_entry ([.ref h, .int (iZ st), .int (iZ pe), .int (iZ sy), .int (iZ fe), .int (iZ nn), .int (iZ sd)]) (n := 7) (Nat.le_of_ble_eq_true rfl)
  rw [lg_entry_eq]
  generalize (lg_sl ([.ref h, .int (iZ st), .int (iZ pe), .int (iZ sy), .int (iZ fe), .int (iZ nn), .int (iZ sd)]) ++ List.replicate (7 - (lg_sl ([.ref h, .int (iZ st), .int (iZ pe), .int (iZ sy), .int (iZ fe), .int (iZ nn), .int (iZ sd)])).length) Slot.unset).toArray = ls at hl ⊢
  replace hl : lv_has ls 7 [(0, .ref h), (1, .int (iZ st)), (2, .int (iZ pe)), (3, .int (iZ sy)), (4, .int (iZ fe)), (5, .int (iZ nn)), (6, .int (iZ sd))] := hl
  have hnw := mI_now hI
  refine lv_iload_n hx hb dX8_behind_0 rfl (lv_at hl 1 rfl) ?_
  refine lv_aload_n hx hb dX8_behind_1 rfl (lv_at hl 0 rfl) ?_
  refine lv_aload_n hx hb dX8_behind_2 rfl (lv_at hl 0 rfl) ?_
  refine lv_iload_n hx hb dX8_behind_3 rfl (lv_at hl 2 rfl) ?_
  refine lv_iload_n hx hb dX8_behind_4 rfl (lv_at hl 3 rfl) ?_
  refine lv_iload hx hb dX8_behind_5 (lv_at hl 4 rfl) ?_
  refine lv_iload hx hb dX8_behind_7 (lv_at hl 5 rfl) ?_
  refine lv_iload hx hb dX8_behind_9 (lv_at hl 6 rfl) ?_
  refine lv_aload_n hx hb dX8_behind_11 rfl (lv_at hl 0 rfl) ?_
  refine W.eq (g2 := F0 m 12 ls [.ref h, .int (iZ sd), .int (iZ nn), .int (iZ fe), .int (iZ sy), .int (iZ pe), .ref h, .ref h, .int (iZ st)]) rfl ?_
  refine lv_iconst (v := iZ 0) hx hb dX8_behind_12 (by decide) ?_
  refine mq_ci (As := [.int (iZ 0)]) (rest := [.int (iZ sd), .int (iZ nn), .int (iZ fe), .int (iZ sy), .int (iZ pe), .ref h, .ref h, .int (iZ st)]) ⟨hx, hb, hml, hown, hts⟩ hK hP (C_windIn l D C h a M 0 hI (by omega)) (cwV 1 hts gX8_behind_X8_windIn rfl rfl rfl (by decide +kernel) ⟨Nat.le_of_ble_eq_true rfl, Nat.le_of_ble_eq_true rfl⟩) rfl rfl hl.1 (Nat.le_of_ble_eq_true rfl) ⟨Nat.le_of_ble_eq_true rfl, Nat.le_of_ble_eq_true rfl⟩ dX8_behind_13 ?_
  have hwi := mI_wd hI 0
  refine mq_ci (As := [.int (iZ pe), .int (iZ sy), .int (iZ fe), .int (iZ nn), .int (iZ sd), .int (iZ (s_wind M 0))]) (rest := [.ref h, .int (iZ st)]) ⟨hx, hb, hml, hown, hts⟩ hK hP (C_landsBy l D C h a M pe sy fe nn sd (s_wind M 0) hI (by omega) (by omega) (by omega) (by omega) (by omega) (by omega)) (cwV 6 hts gX8_behind_X8_landsBy rfl rfl rfl (by decide +kernel) ⟨Nat.le_of_ble_eq_true rfl, Nat.le_of_ble_eq_true rfl⟩) rfl rfl hl.1 (Nat.le_of_ble_eq_true rfl) ⟨Nat.le_of_ble_eq_true rfl, Nat.le_of_ble_eq_true rfl⟩ dX8_behind_16 ?_
  have hld := s_land_bd (M 3 (Int.toNat pe)) (M 7 (Int.toNat sy)) (M 6 (Int.toNat sy)) (M 19 1) fe nn sd (s_wind M 0)
  refine lv_iload_n hx hb dX8_behind_19 rfl (lv_at hl 2 rfl) ?_
  refine mq_ci (As := [.int (iZ (s_land (M 3 (Int.toNat pe)) (M 7 (Int.toNat sy)) (M 6 (Int.toNat sy)) (M 19 1) fe nn sd (s_wind M 0))), .int (iZ pe)]) (rest := [.int (iZ st)]) ⟨hx, hb, hml, hown, hts⟩ hK hP (C_hearersOf l D C h a M (s_land (M 3 (Int.toNat pe)) (M 7 (Int.toNat sy)) (M 6 (Int.toNat sy)) (M 19 1) fe nn sd (s_wind M 0)) pe hI (by omega) (by omega)) (cwV 2 hts gX8_behind_X8_hearersOf rfl rfl rfl (by decide +kernel) ⟨Nat.le_of_ble_eq_true rfl, Nat.le_of_ble_eq_true rfl⟩) rfl rfl hl.1 (Nat.le_of_ble_eq_true rfl) ⟨Nat.le_of_ble_eq_true rfl, Nat.le_of_ble_eq_true rfl⟩ dX8_behind_20 ?_
  have hhe := s_hearers_bd M (s_land (M 3 (Int.toNat pe)) (M 7 (Int.toNat sy)) (M 6 (Int.toNat sy)) (M 19 1) fe nn sd (s_wind M 0)) pe (by omega)
  refine z_ior hx hb (by omega) (by omega) dX8_behind_23 ?_
  exact mq_ret hx hb hr rfl rfl dX8_behind_24 hlocks rfl
set_option maxHeartbeats 4000000 in
set_option maxRecDepth 100000 in
theorem C_bodiesOf (l : Launch) (kd : Int) (h1 : -2147483648 ≤ kd ∧ kd < 2147483648) : Met l yX8_bodiesOf wsX8_bodiesOf ({ frames := 0, cells := 0, slots := 0, locals := 0 }) (va_Pc [.int (iZ kd)] (fun _ => True)) (vp_Si (fun r => r = iZ (s_bodies kd))) 0 0 (fun _ => False) := by
  refine Met.ofW (cc := cX8_bodiesOf) (maxL := 1) (ret := (some .int)) (by decide) rfl ?_
  intro p e s m args below meth c s₁ B hml hv
  obtain ⟨rfl, -⟩ := hv
  have hx := B.exec
  have hb := B.bytes
  have hr := B.returns
  have hts := atoms_spec (ws := wsX8_bodiesOf) B.pre
  have hown : s.vm.findClass RX8 = some m.cls := findClass_of_methodNamed B.named
  have hlocks := B.notSynchronized
  have hl := lv_entry ([.int (iZ kd)]) (n := 1) (Nat.le_of_ble_eq_true rfl)
  rw [lg_entry_eq]
  generalize (lg_sl ([.int (iZ kd)]) ++ List.replicate (1 - (lg_sl ([.int (iZ kd)])).length) Slot.unset).toArray = ls at hl ⊢
  replace hl : lv_has ls 1 [(0, .int (iZ kd))] := hl
  refine lv_iload_n hx hb dX8_bodiesOf_0 rfl (lv_at hl 0 rfl) ?_
  by_cases c1 : kd = 0
  · refine lv_tableIn (off := 35) (tgt := 36) hx hb dX8_bodiesOf_1 (by rw [iZ_toInt (by omega)]; omega) (by rw [iZ_toInt (by omega)]; omega) (by rw [iZ_toInt (by omega), c1]; rfl) (by decide) ?_
    refine lv_iconst (v := iZ 1) hx hb dX8_bodiesOf_36 (by decide) ?_
    exact mq_ret hx hb hr rfl (by unfold s_bodies; subst_vars; (repeat' split) <;> first | rfl | omega) dX8_bodiesOf_37 hlocks rfl
  by_cases c2 : kd = 1
  · refine lv_tableIn (off := 37) (tgt := 38) hx hb dX8_bodiesOf_1 (by rw [iZ_toInt (by omega)]; omega) (by rw [iZ_toInt (by omega)]; omega) (by rw [iZ_toInt (by omega), c2]; rfl) (by decide) ?_
    refine lv_iconst (v := iZ 3) hx hb dX8_bodiesOf_38 (by decide) ?_
    refine W.eq (g2 := F0 m 39 ls [.int (iZ 3)]) rfl ?_
    exact mq_ret hx hb hr rfl (by unfold s_bodies; subst_vars; (repeat' split) <;> first | rfl | omega) dX8_bodiesOf_39 hlocks rfl
  by_cases c3 : kd = 2
  · refine lv_tableIn (off := 39) (tgt := 40) hx hb dX8_bodiesOf_1 (by rw [iZ_toInt (by omega)]; omega) (by rw [iZ_toInt (by omega)]; omega) (by rw [iZ_toInt (by omega), c3]; rfl) (by decide) ?_
    refine lv_iconst (v := iZ 5) hx hb dX8_bodiesOf_40 (by decide) ?_
    exact mq_ret hx hb hr rfl (by unfold s_bodies; subst_vars; (repeat' split) <;> first | rfl | omega) dX8_bodiesOf_41 hlocks rfl
  by_cases c4 : kd = 3
  · refine lv_tableIn (off := 41) (tgt := 42) hx hb dX8_bodiesOf_1 (by rw [iZ_toInt (by omega)]; omega) (by rw [iZ_toInt (by omega)]; omega) (by rw [iZ_toInt (by omega), c4]; rfl) (by decide) ?_
    refine lv_bipush (v := iZ 11) hx hb dX8_bodiesOf_42 (by decide) ?_
    exact mq_ret hx hb hr rfl (by unfold s_bodies; subst_vars; (repeat' split) <;> first | rfl | omega) dX8_bodiesOf_44 hlocks rfl
  by_cases c5 : kd = 4
  · refine lv_tableIn (off := 44) (tgt := 45) hx hb dX8_bodiesOf_1 (by rw [iZ_toInt (by omega)]; omega) (by rw [iZ_toInt (by omega)]; omega) (by rw [iZ_toInt (by omega), c5]; rfl) (by decide) ?_
    refine lv_bipush (v := iZ 21) hx hb dX8_bodiesOf_45 (by decide) ?_
    exact mq_ret hx hb hr rfl (by unfold s_bodies; subst_vars; (repeat' split) <;> first | rfl | omega) dX8_bodiesOf_47 hlocks rfl
  refine lv_tableOut (tgt := 48) hx hb dX8_bodiesOf_1 (by rw [iZ_toInt (by omega)]; omega) (by decide) ?_
  refine lv_bipush (v := iZ 33) hx hb dX8_bodiesOf_48 (by decide) ?_
  exact mq_ret hx hb hr rfl (by unfold s_bodies; subst_vars; (repeat' split) <;> first | rfl | omega) dX8_bodiesOf_50 hlocks rfl
set_option maxHeartbeats 4000000 in
set_option maxRecDepth 100000 in
theorem C_count (l : Launch) (D : va_G) (C : mC) (h : Nat) (a : Nat → Nat) (M : Nat → Nat → Int) (wh : Int) (hI : mI M) (h1 : -2147483648 ≤ wh ∧ wh < 2147483648) : Met l yX8_count wsX8_count ({ frames := 0, cells := 0, slots := 0, locals := 0 }) (va_Pc [.ref h, .int (iZ wh)] (mOk D C h a M)) (vp_Si (fun r => r = iZ (s_count M wh))) 0 0 (fun _ => False) := by
  refine Met.ofW (cc := cX8_count) (maxL := 2) (ret := (some .int)) (by decide) rfl ?_
  intro p e s m args below meth c s₁ B hml hv
  obtain ⟨rfl, hP, hK⟩ := hv
  have hx := B.exec
  have hb := B.bytes
  have hr := B.returns
  have hts := atoms_spec (ws := wsX8_count) B.pre
  have hown : s.vm.findClass RX8 = some m.cls := findClass_of_methodNamed B.named
  have hlocks := B.notSynchronized
  have hin : ∀ w ∈ wsX80, w ∈ wsX8_count := fun _ w_h => (List.mem_cons_of_mem _ (List.mem_append_right _ w_h))
  have hl := lv_entry ([.ref h, .int (iZ wh)]) (n := 2) (Nat.le_of_ble_eq_true rfl)
  rw [lg_entry_eq]
  generalize (lg_sl ([.ref h, .int (iZ wh)]) ++ List.replicate (2 - (lg_sl ([.ref h, .int (iZ wh)])).length) Slot.unset).toArray = ls at hl ⊢
  replace hl : lv_has ls 2 [(0, .ref h), (1, .int (iZ wh))] := hl
  have hnw := mI_now hI
  refine lv_iload_n hx hb dX8_count_0 rfl (lv_at hl 1 rfl) ?_
  by_cases c1 : wh = 0
  · refine lv_tableIn (off := 39) (tgt := 40) hx hb dX8_count_1 (by rw [iZ_toInt (by omega)]; omega) (by rw [iZ_toInt (by omega)]; omega) (by rw [iZ_toInt (by omega), c1]; rfl) (by decide) ?_
    refine lv_aload_n hx hb dX8_count_40 rfl (lv_at hl 0 rfl) ?_
    refine W.eq (g2 := F0 m 41 ls [.ref h]) rfl ?_
    refine mq_get hx hb hts hin hown hK hP 2 (by decide) (hts (.fieldLink RX8 13 "WordFletchersModel" "people" "[I") (List.mem_cons_of_mem _ (List.mem_append_left _ (List.mem_of_getElem? (i := 0) rfl)))) rfl dX8_count_41 ?_
    refine lv_iconst (v := iZ 0) hx hb dX8_count_44 (by decide) ?_
    refine mq_iald hx hb hK hP 2 2 (n := 2) rfl (by decide) 0 rfl (by omega) dX8_count_45 ?_
    exact mq_ret hx hb hr rfl (by unfold s_count; subst_vars; (repeat' split) <;> first | rfl | omega) dX8_count_46 hlocks rfl
  by_cases c2 : wh = 1
  · refine lv_tableIn (off := 46) (tgt := 47) hx hb dX8_count_1 (by rw [iZ_toInt (by omega)]; omega) (by rw [iZ_toInt (by omega)]; omega) (by rw [iZ_toInt (by omega), c2]; rfl) (by decide) ?_
    refine lv_aload_n hx hb dX8_count_47 rfl (lv_at hl 0 rfl) ?_
    refine mq_get hx hb hts hin hown hK hP 5 (by decide) (hts (.fieldLink RX8 23 "WordFletchersModel" "sayings" "[I") (List.mem_cons_of_mem _ (List.mem_append_left _ (List.mem_of_getElem? (i := 1) rfl)))) rfl dX8_count_48 ?_
    refine lv_iconst (v := iZ 0) hx hb dX8_count_51 (by decide) ?_
    refine mq_iald hx hb hK hP 5 5 (n := 2) rfl (by decide) 0 rfl (by omega) dX8_count_52 ?_
    exact mq_ret hx hb hr rfl (by unfold s_count; subst_vars; (repeat' split) <;> first | rfl | omega) dX8_count_53 hlocks rfl
  by_cases c3 : wh = 2
  · refine lv_tableIn (off := 53) (tgt := 54) hx hb dX8_count_1 (by rw [iZ_toInt (by omega)]; omega) (by rw [iZ_toInt (by omega)]; omega) (by rw [iZ_toInt (by omega), c3]; rfl) (by decide) ?_
    refine lv_aload_n hx hb dX8_count_54 rfl (lv_at hl 0 rfl) ?_
    refine mq_get hx hb hts hin hown hK hP 9 (by decide) (hts (.fieldLink RX8 35 "WordFletchersModel" "winds" "[I") (List.mem_cons_of_mem _ (List.mem_append_left _ (List.mem_of_getElem? (i := 2) rfl)))) rfl dX8_count_55 ?_
    refine lv_iconst (v := iZ 0) hx hb dX8_count_58 (by decide) ?_
    refine W.eq (g2 := F0 m 59 ls [.int (iZ 0), .ref (a 9)]) rfl ?_
    refine mq_iald hx hb hK hP 9 9 (n := 2) rfl (by decide) 0 rfl (by omega) dX8_count_59 ?_
    exact mq_ret hx hb hr rfl (by unfold s_count; subst_vars; (repeat' split) <;> first | rfl | omega) dX8_count_60 hlocks rfl
  by_cases c4 : wh = 3
  · refine lv_tableIn (off := 60) (tgt := 61) hx hb dX8_count_1 (by rw [iZ_toInt (by omega)]; omega) (by rw [iZ_toInt (by omega)]; omega) (by rw [iZ_toInt (by omega), c4]; rfl) (by decide) ?_
    refine lv_aload_n hx hb dX8_count_61 rfl (lv_at hl 0 rfl) ?_
    refine mq_get hx hb hts hin hown hK hP 28 (by decide) (hts (.fieldLink RX8 131 "WordFletchersModel" "sights" "I") (List.mem_cons_of_mem _ (List.mem_append_left _ (List.mem_of_getElem? (i := 3) rfl)))) rfl dX8_count_62 ?_
    exact mq_ret hx hb hr rfl (by unfold s_count; subst_vars; (repeat' split) <;> first | rfl | omega) dX8_count_65 hlocks rfl
  by_cases c5 : wh = 4
  · refine lv_tableIn (off := 65) (tgt := 66) hx hb dX8_count_1 (by rw [iZ_toInt (by omega)]; omega) (by rw [iZ_toInt (by omega)]; omega) (by rw [iZ_toInt (by omega), c5]; rfl) (by decide) ?_
    refine lv_aload_n hx hb dX8_count_66 rfl (lv_at hl 0 rfl) ?_
    refine mq_get hx hb hts hin hown hK hP 20 (by decide) (hts (.fieldLink RX8 47 "WordFletchersModel" "known" "[I") (List.mem_cons_of_mem _ (List.mem_append_left _ (List.mem_of_getElem? (i := 4) rfl)))) rfl dX8_count_67 ?_
    refine lv_iconst (v := iZ 0) hx hb dX8_count_70 (by decide) ?_
    refine mq_iald hx hb hK hP 20 13 (n := 3) rfl (by decide) 0 rfl (by omega) dX8_count_71 ?_
    exact mq_ret hx hb hr rfl (by unfold s_count; subst_vars; (repeat' split) <;> first | rfl | omega) dX8_count_72 hlocks rfl
  by_cases c6 : wh = 5
  · refine lv_tableIn (off := 72) (tgt := 73) hx hb dX8_count_1 (by rw [iZ_toInt (by omega)]; omega) (by rw [iZ_toInt (by omega)]; omega) (by rw [iZ_toInt (by omega), c6]; rfl) (by decide) ?_
    refine lv_aload_n hx hb dX8_count_73 rfl (lv_at hl 0 rfl) ?_
    refine mq_get hx hb hts hin hown hK hP 1 (by decide) (hts (.fieldLink RX8 76 "WordFletchersModel" "typed" "I") (List.mem_cons_of_mem _ (List.mem_append_left _ (List.mem_of_getElem? (i := 5) rfl)))) rfl dX8_count_74 ?_
    refine W.eq (g2 := F0 m 77 ls [.int (iZ (M 1 0))]) rfl ?_
    exact mq_ret hx hb hr rfl (by unfold s_count; subst_vars; (repeat' split) <;> first | rfl | omega) dX8_count_77 hlocks rfl
  refine lv_tableOut (tgt := 78) hx hb dX8_count_1 (by rw [iZ_toInt (by omega)]; omega) (by decide) ?_
  refine lv_iconst (v := iZ (-1)) hx hb dX8_count_78 (by decide) ?_
  exact mq_ret hx hb hr rfl (by unfold s_count; subst_vars; (repeat' split) <;> first | rfl | omega) dX8_count_79 hlocks rfl
end
section
/-! What the reference's calls make of its state. -/
def f_type (M : Nat → Nat → Int) (cc : Int) : Nat → Nat → Int := if ¬ (0 ≤ cc ∧ cc ≤ 255) then M else if M 1 0 = 120 then M else mU (mU M 0 (M 1 0).toNat (zsb cc)) 1 0 (M 1 0 + 1)
def s_type (M : Nat → Nat → Int) (cc : Int) : Int := if ¬ (0 ≤ cc ∧ cc ≤ 255) then -1 else if M 1 0 = 120 then -3 else M 1 0 + 1
/-- a row copied: places d, d + 1 .. of field F get what stood in field G from s on -/
def f_blk (M : Nat → Nat → Int) (F G d s k : Nat) : Nat → Nat → Int := fun f j => if f = F ∧ d ≤ j ∧ j < d + k then M G (s + (j - d)) else M f j
theorem f_blk_0 (M : Nat → Nat → Int) (F G d s : Nat) : f_blk M F G d s 0 = M := by
  funext f j
  exact if_neg (by omega)
theorem f_blk_o (M : Nat → Nat → Int) {F f : Nat} (G d s k : Nat) (h : f ≠ F) : f_blk M F G d s k f = M f := by
  funext j
  exact if_neg (fun q => h q.1)
theorem f_blk_rd (M : Nat → Nat → Int) {F G d s k i : Nat} (h : G ≠ F ∨ s + i < d ∨ d + k ≤ s + i) : f_blk M F G d s k G (s + i) = M G (s + i) := if_neg (by omega)
theorem f_blk_step (M : Nat → Nat → Int) (F G d s : Nat) {kk : Int} (h : 0 ≤ kk) : f_blk M F G d s (Int.toNat (kk + 1)) = mU (f_blk M F G d s (Int.toNat kk)) F (d + Int.toNat kk) (M G (s + Int.toNat kk)) := by
  obtain ⟨n, rfl⟩ := Int.eq_ofNat_of_zero_le h
  have e1 : Int.toNat ((n : Int) + 1) = n + 1 := by omega
  rw [e1, Int.toNat_natCast]
  funext f j
  by_cases hf : f = F
  · subst hf
    by_cases hj : j = d + n
    · subst hj
      simp only [f_blk, mU, true_and]
      rw [if_pos (by omega), if_pos trivial]
      congr 1; omega
    · simp only [f_blk, mU, true_and]
      rw [if_neg hj]
      by_cases h2 : d ≤ j ∧ j < d + n
      · rw [if_pos h2, if_pos (by omega)]
      · rw [if_neg h2, if_neg (by omega)]
  · simp [f_blk, mU, hf]
def f_kn1 (M : Nat → Nat → Int) : Nat → Nat → Int := if M 20 0 = 10 then mU (f_blk M 21 21 0 29 261) 20 0 (f_blk M 21 21 0 29 261 20 0 - 1) else M
def f_kn2 (M : Nat → Nat → Int) : Nat → Nat → Int := mU (f_blk M 21 19 (29 * (M 20 0).toNat) 0 29) 20 0 (f_blk M 21 19 (29 * (M 20 0).toNat) 0 29 20 0 + 1)
def f_know (M : Nat → Nat → Int) : Nat → Nat → Int := f_kn2 (f_kn1 M)
theorem f_know_o (M : Nat → Nat → Int) {f : Nat} (h1 : f ≠ 20) (h2 : f ≠ 21) : f_know M f = M f := by
  have q1 : f_kn1 M f = M f := by
    unfold f_kn1
    split
    · funext j; simp [mU, f_blk, h1, h2]
    · rfl
  rw [← q1]
  funext j
  simp [f_know, f_kn2, mU, f_blk, h1, h2]
def f_tk (M : Nat → Nat → Int) (i k : Nat) : Nat → Nat → Int := fun f j => if f = 19 ∧ 13 + i ≤ j ∧ j < 13 + k then M 19 (j + 1) else if f = 19 ∧ 21 + i ≤ j ∧ j < 21 + k then M 19 (j + 1) else M f j
theorem f_tk_step (M : Nat → Nat → Int) (i : Nat) {kk : Int} (h : 0 ≤ kk) (h7 : kk < 7) (hi : i ≤ Int.toNat kk) : mU (mU (f_tk M i (Int.toNat kk)) 19 (Int.toNat (13 + kk)) (f_tk M i (Int.toNat kk) 19 (Int.toNat ((13 + kk) + 1)))) 19 (Int.toNat (21 + kk)) (mU (f_tk M i (Int.toNat kk)) 19 (Int.toNat (13 + kk)) (f_tk M i (Int.toNat kk) 19 (Int.toNat ((13 + kk) + 1))) 19 (Int.toNat ((21 + kk) + 1))) = f_tk M i (Int.toNat (kk + 1)) := by
  obtain ⟨n, rfl⟩ := Int.eq_ofNat_of_zero_le h
  have e1 : Int.toNat ((n : Int) + 1) = n + 1 := by omega
  have e2 : Int.toNat (13 + (n : Int)) = 13 + n := by omega
  have e3 : Int.toNat (13 + (n : Int) + 1) = 13 + n + 1 := by omega
  have e4 : Int.toNat (21 + (n : Int)) = 21 + n := by omega
  have e5 : Int.toNat (21 + (n : Int) + 1) = 21 + n + 1 := by omega
  rw [Int.toNat_natCast] at hi
  rw [e1, e2, e3, e4, e5, Int.toNat_natCast]
  have v1 : f_tk M i n 19 (13 + n + 1) = M 19 (13 + n + 1) := by
    simp only [f_tk]; rw [if_neg (by omega), if_neg (by omega)]
  have v2 : mU (f_tk M i n) 19 (13 + n) (M 19 (13 + n + 1)) 19 (21 + n + 1) = M 19 (21 + n + 1) := by
    simp only [mU, f_tk]; rw [if_neg (by omega), if_neg (by omega), if_neg (by omega)]
  rw [v1, v2]
  funext f j
  by_cases hf : f = 19
  · subst hf
    by_cases hj : j = 13 + n
    · subst hj
      simp only [f_tk, mU, true_and]
      rw [if_neg (by omega), if_pos trivial, if_pos (by omega)]
    · by_cases hj2 : j = 21 + n
      · subst hj2
        simp only [f_tk, mU, true_and]
        rw [if_pos trivial, if_neg (by omega), if_pos (by omega)]
      · simp only [f_tk, mU, true_and]
        rw [if_neg hj2, if_neg hj]
        have c1 : (13 + i ≤ j ∧ j < 13 + (n + 1)) ↔ (13 + i ≤ j ∧ j < 13 + n) := by omega
        have c2 : (21 + i ≤ j ∧ j < 21 + (n + 1)) ↔ (21 + i ≤ j ∧ j < 21 + n) := by omega
        simp only [c1, c2]
  · simp [f_tk, mU, hf]
def f_take1 (M : Nat → Nat → Int) (ii : Int) : Nat → Nat → Int := mU (mU (f_tk M (Int.toNat ii) 7) 19 20 0) 19 28 0
def f_take (M : Nat → Nat → Int) (ii : Int) : Nat → Nat → Int := mU (f_take1 M ii) 19 12 (f_take1 M ii 19 12 - 1)
/-- the invariant, where now alone has changed -/
theorem mI_now19 {M M2 : Nat → Nat → Int} (hI : mI M) (h : ∀ f, f ≠ 19 → M2 f = M f) (hv : vI (M 2 0) (M 5 0) (M2 19)) : mI M2 := by
  obtain ⟨h1, h2, h3, h4, h5, h6, h7, h8, h9, h10, h11, h12, h13, h14⟩ := hI
  unfold mI
  rw [h 0 (by decide), h 1 (by decide), h 2 (by decide), h 3 (by decide), h 4 (by decide), h 5 (by decide), h 6 (by decide), h 7 (by decide), h 8 (by decide), h 9 (by decide), h 10 (by decide), h 20 (by decide), h 21 (by decide), h 22 (by decide), h 23 (by decide), h 26 (by decide), h 27 (by decide), h 28 (by decide)]
  exact ⟨h1, h2, h3, h4, h5, h6, h7, h8, hv, h10, h11, h12, h13, h14⟩
theorem mU_f19 (M : Nat → Nat → Int) (i : Nat) (v : Int) : ∀ f, f ≠ 19 → mU M 19 i v f = M f := fun f hf => by
  funext j; simp [mU, hf]
theorem mI_v {M : Nat → Nat → Int} (hI : mI M) : vI (M 2 0) (M 5 0) (M 19) := hI.2.2.2.2.2.2.2.2.1
theorem vI_hour {P S : Int} {v : Nat → Int} (h : vI P S v) {M : Nat → Nat → Int} (e : M 19 = v) {x : Int} (hx : 0 ≤ x ∧ x ≤ 999) : vI P S (mU M 19 0 x 19) := by
  subst e
  obtain ⟨v1, v2, v3, v4, v5, v6, v7⟩ := h
  have q : ∀ j, mU M 19 0 x 19 j = if j = 0 then x else M 19 j := fun j => by simp [mU]
  refine ⟨by rw [q]; exact hx, by rw [q]; exact v2, fun k hk => ?_, fun k hk => ?_, by rw [q]; exact v5, fun k hk => ?_, fun k hk => ?_⟩
  · rw [q, if_neg (by omega)]; exact v3 k hk
  · rw [q, if_neg (by omega)]; exact v4 k hk
  · rw [q, if_neg (by omega)] at hk; rw [q, q, if_neg (by omega), if_neg (by omega)]; exact v6 k hk
  · rw [q, if_neg (by omega)]; exact v7 k hk
theorem vI_damp {P S : Int} {v : Nat → Int} (h : vI P S v) {M : Nat → Nat → Int} (e : M 19 = v) {x : Int} (hx : 0 ≤ x ∧ x ≤ 5) : vI P S (mU M 19 1 x 19) := by
  subst e
  obtain ⟨v1, v2, v3, v4, v5, v6, v7⟩ := h
  have q : ∀ j, mU M 19 1 x 19 j = if j = 1 then x else M 19 j := fun j => by simp [mU]
  refine ⟨by rw [q]; exact v1, by rw [q]; exact hx, fun k hk => ?_, fun k hk => ?_, by rw [q]; exact v5, fun k hk => ?_, fun k hk => ?_⟩
  · rw [q, if_neg (by omega)]; exact v3 k hk
  · rw [q, if_neg (by omega)]; exact v4 k hk
  · rw [q, if_neg (by omega)] at hk; rw [q, q, if_neg (by omega), if_neg (by omega)]; exact v6 k hk
  · rw [q, if_neg (by omega)]; exact v7 k hk
theorem vI_fea {P S : Int} {v : Nat → Int} (h : vI P S v) {M : Nat → Nat → Int} (e : M 19 = v) {x fe : Int} (hf : 0 ≤ fe ∧ fe < 4) (hx : 0 ≤ x ∧ x ≤ 20) : vI P S (mU M 19 (Int.toNat (2 + fe)) x 19) := by
  subst e
  obtain ⟨v1, v2, v3, v4, v5, v6, v7⟩ := h
  have q : ∀ j, mU M 19 (Int.toNat (2 + fe)) x 19 j = if j = Int.toNat (2 + fe) then x else M 19 j := fun j => by simp [mU]
  refine ⟨by rw [q, if_neg (by omega)]; exact v1, by rw [q, if_neg (by omega)]; exact v2, fun k hk => ?_, fun k hk => ?_, by rw [q, if_neg (by omega)]; exact v5, fun k hk => ?_, fun k hk => ?_⟩
  · rw [q]; split
    · exact hx
    · exact v3 k hk
  · rw [q, if_neg (by omega)]; exact v4 k hk
  · rw [q, if_neg (by omega)] at hk; rw [q, q, if_neg (by omega), if_neg (by omega)]; exact v6 k hk
  · rw [q, if_neg (by omega)]
    exact v7 k hk

def f_hours (M : Nat → Nat → Int) (nn : Int) : Nat → Nat → Int := if ¬ (1 ≤ nn ∧ nn ≤ 9) then M else if 999 < M 19 0 + nn then M else mU (f_know M) 19 0 (f_know M 19 0 + nn)
def s_hours (M : Nat → Nat → Int) (nn : Int) : Int := if ¬ (1 ≤ nn ∧ nn ≤ 9) then -1 else if 999 < M 19 0 + nn then -2 else M 19 0 + nn
def f_damps (M : Nat → Nat → Int) (nn : Int) : Nat → Nat → Int := if ¬ (0 ≤ nn ∧ nn ≤ 5) then M else if M 19 1 = nn then M else mU (f_know M) 19 1 nn
def s_damps (M : Nat → Nat → Int) (nn : Int) : Int := if ¬ (0 ≤ nn ∧ nn ≤ 5) then -1 else if M 19 1 = nn then -2 else M 19 1
def s_plv (M : Nat → Nat → Int) (fe nn : Int) : Int := if 20 < M 19 (Int.toNat (2 + fe)) + nn then 20 else M 19 (Int.toNat (2 + fe)) + nn
def f_plucks (M : Nat → Nat → Int) (fe nn : Int) : Nat → Nat → Int := if ¬ ((0 ≤ fe ∧ fe ≤ 3) ∧ (1 ≤ nn ∧ nn ≤ 9)) then M else if M 19 (Int.toNat (2 + fe)) = 20 then M else mU (f_know M) 19 (Int.toNat (2 + fe)) (s_plv M fe nn)
def s_plucks (M : Nat → Nat → Int) (fe nn : Int) : Int := if ¬ ((0 ≤ fe ∧ fe ≤ 3) ∧ (1 ≤ nn ∧ nn ≤ 9)) then -1 else if M 19 (Int.toNat (2 + fe)) = 20 then -2 else s_plv M fe nn
def f_undo1 (M : Nat → Nat → Int) : Nat → Nat → Int := mU M 20 0 (M 20 0 - 1)
def f_undo (M : Nat → Nat → Int) : Nat → Nat → Int := if M 20 0 = 0 then M else f_blk (f_undo1 M) 19 21 0 (29 * (M 20 0 - 1).toNat) 29
def s_undo (M : Nat → Nat → Int) : Int := if M 20 0 = 0 then -2 else M 20 0 - 1
def f_saw (M : Nat → Nat → Int) (sy sp : Int) : Nat → Nat → Int := if ¬ ((0 ≤ sy ∧ sy < M 5 0) ∧ (0 ≤ sp ∧ sp ≤ 30)) then M else if M 28 0 = 4 then M else mU (mU (mU M 26 (M 28 0).toNat sy) 27 (M 28 0).toNat sp) 28 0 (M 28 0 + 1)
def s_saw (M : Nat → Nat → Int) (sy sp : Int) : Int := if ¬ ((0 ≤ sy ∧ sy < M 5 0) ∧ (0 ≤ sp ∧ sp ≤ 30)) then -1 else if M 28 0 = 4 then -3 else M 28 0 + 1
def f_kp1 (M : Nat → Nat → Int) (im : Int) : Nat → Nat → Int := f_blk M 22 19 (Int.toNat (29 * im)) 0 29
def f_kp2 (M : Nat → Nat → Int) (im : Int) : Nat → Nat → Int := f_blk (f_kp1 M im) 21 21 (Int.toNat (290 * (1 + im))) 0 290
def f_keep (M : Nat → Nat → Int) (im : Int) : Nat → Nat → Int := if ¬ (0 ≤ im ∧ im ≤ 1) then M else mU (mU (f_kp2 M im) 20 (Int.toNat (1 + im)) (M 20 0)) 23 (Int.toNat im) 1
def s_keep (M : Nat → Nat → Int) (im : Int) : Int := if ¬ (0 ≤ im ∧ im ≤ 1) then -1 else M 19 0
def f_bk1 (M : Nat → Nat → Int) (im : Int) : Nat → Nat → Int := f_blk M 19 22 0 (Int.toNat (29 * im)) 29
def f_bk2 (M : Nat → Nat → Int) (im : Int) : Nat → Nat → Int := f_blk (f_bk1 M im) 21 21 0 (Int.toNat (290 * (1 + im))) 290
def f_back (M : Nat → Nat → Int) (im : Int) : Nat → Nat → Int := if ¬ (0 ≤ im ∧ im ≤ 1) then M else if M 23 (Int.toNat im) = 0 then M else mU (f_bk2 M im) 20 0 (M 20 (Int.toNat (1 + im)))
def s_back (M : Nat → Nat → Int) (im : Int) : Int := if ¬ (0 ≤ im ∧ im ≤ 1) then -1 else if M 23 (Int.toNat im) = 0 then -2 else M 22 (Int.toNat (29 * im))
theorem mI_kp {M : Nat → Nat → Int} (hI : mI M) {k : Int} (h : 0 ≤ k ∧ k ≤ 1) : M 23 (Int.toNat k) = 0 ∨ M 23 (Int.toNat k) = 1 := by
  obtain ⟨n, rfl⟩ := Int.eq_ofNat_of_zero_le h.1
  exact (hI.2.2.2.2.2.2.2.2.2.2.2.1 n (by omega)).1
theorem mI_ly {M : Nat → Nat → Int} (hI : mI M) {k : Int} (h : 0 ≤ k ∧ k < M 19 12) : (0 ≤ M 19 (Int.toNat (13 + k)) ∧ M 19 (Int.toNat (13 + k)) < M 5 0) ∧ (0 ≤ M 19 (Int.toNat (21 + k)) ∧ M 19 (Int.toNat (21 + k)) ≤ 30) := by
  obtain ⟨n, rfl⟩ := Int.eq_ofNat_of_zero_le h.1
  exact hI.2.2.2.2.2.2.2.2.1.2.2.2.2.2.1 n h.2
theorem zfind_bd (b : Int → Bool) : ∀ (n : Nat) (i : Int), zfind b n i = -9 ∨ (i ≤ zfind b n i ∧ zfind b n i < i + n)
  | 0, i => Or.inl rfl
  | n + 1, i => by
    show (if b i then i else zfind b n (i + 1)) = -9 ∨ (i ≤ (if b i then i else zfind b n (i + 1)) ∧ (if b i then i else zfind b n (i + 1)) < i + ((n + 1 : Nat) : Int))
    have h := zfind_bd b n (i + 1)
    split <;> omega
def s_fnd (M : Nat → Nat → Int) (pe : Int) : Int := zfind (fun q => decide (M 19 (Int.toNat (21 + q)) = M 3 (Int.toNat pe))) (M 19 12 - 0).toNat 0
def s_picks (M : Nat → Nat → Int) (pe : Int) : Int := if ¬ (0 ≤ pe ∧ pe < M 2 0) then -1 else if s_fnd M pe = -9 then -2 else M 19 (Int.toNat (13 + s_fnd M pe))
def f_pk (K : Nat → Nat → Int) (sy pe fd : Int) : Nat → Nat → Int := f_take (mU K 19 (Int.toNat (6 + sy)) (zor (K 19 (Int.toNat (6 + sy))) (zp pe))) fd
def f_picks (M : Nat → Nat → Int) (pe : Int) : Nat → Nat → Int := if ¬ (0 ≤ pe ∧ pe < M 2 0) then M else if s_fnd M pe = -9 then M else f_pk (f_know M) (f_know M 19 (Int.toNat (13 + s_fnd M pe))) pe (s_fnd M pe)
end
section
set_option maxHeartbeats 4000000 in
set_option maxRecDepth 100000 in
theorem C_type (l : Launch) (D : va_G) (C : mC) (h : Nat) (a : Nat → Nat) (M : Nat → Nat → Int) (cc : Int) (hI : mI M) (h1 : -2147483648 ≤ cc ∧ cc < 2147483648) (hN : va_D (fun _ => True) (mW C h a M)) : Met l yX8_type wsX8_type ({ frames := 1, cells := 0, slots := 0, locals := 22 }) (va_Pc [.ref h, .int (iZ cc)] (mOk D C h a M)) (va_Qi (fun r (_ : Unit) => r = iZ (s_type M cc)) (fun _ t => mOk D C h a (f_type M cc) t) (mA h a)) 0 0 (mA h a) := by
  refine Met.ofW (cc := cX8_type) (maxL := 2) (ret := (some .int)) (by decide) rfl ?_
  intro p e s m args below meth c s₁ B hml hv
  obtain ⟨rfl, hP, hK⟩ := hv
  have hx := B.exec
  have hb := B.bytes
  have hr := B.returns
  have hts := atoms_spec (ws := wsX8_type) B.pre
  have hown : s.vm.findClass RX8 = some m.cls := findClass_of_methodNamed B.named
  have hlocks := B.notSynchronized
  have hin : ∀ w ∈ wsX80, w ∈ wsX8_type := fun _ w_h => (List.mem_cons_of_mem _ (List.mem_append_right _ w_h))
  have hl := lv_entry ([.ref h, .int (iZ cc)]) (n := 2) (Nat.le_of_ble_eq_true rfl)
  rw [lg_entry_eq]
  generalize (lg_sl ([.ref h, .int (iZ cc)]) ++ List.replicate (2 - (lg_sl ([.ref h, .int (iZ cc)])).length) Slot.unset).toArray = ls at hl ⊢
  replace hl : lv_has ls 2 [(0, .ref h), (1, .int (iZ cc))] := hl
  have hD : va_D (mA h a) (mW C h a M) := mD_own hN
  have hA : ∀ q, mA h a q → mA h a q := fun _ h9 => h9
  generalize hHe : s.heap = H at hP ⊢
  have hS : va_S (mA h a) s.heap H [] := by rw [hHe]; exact va_S.rf
  generalize hlo : ([] : List Loc) = locs at hS ⊢
  clear hHe hlo
  have hnw := mI_now hI
  refine lv_iload_n hx hb dX8_type_0 rfl (lv_at hl 1 rfl) ?_
  refine lv_iconst (v := iZ 0) hx hb dX8_type_1 (by decide) ?_
  refine lv_sipush (v := iZ 255) hx hb dX8_type_2 (by decide) ?_
  refine mq_cs (As := [.int (iZ cc), .int (iZ 0), .int (iZ 255)]) (rest := []) ⟨hx, hb, hml, hown, hts⟩ (C_in l cc 0 255 (by omega) (by omega) (by omega)) (va_cwS 3 hts gX8_type_X8_in rfl rfl rfl (by decide +kernel) ⟨Nat.le_of_ble_eq_true rfl, Nat.le_of_ble_eq_true rfl⟩) rfl rfl hl.1 (Nat.le_of_ble_eq_true rfl) ⟨Nat.le_of_ble_eq_true rfl, Nat.le_of_ble_eq_true rfl⟩ dX8_type_5 ?_
  refine z_ifb_ne (P := (0 ≤ cc ∧ cc ≤ 255)) (tgt := 13) hx hb dX8_type_8 (by decide) (fun c1 => ?_) (fun c1 => ?_)
  · refine lv_aload_n hx hb dX8_type_13 rfl (lv_at hl 0 rfl) ?_
    refine mq_get hx hb hts hin hown hK hP 1 (by decide) (hts (.fieldLink RX8 76 "WordFletchersModel" "typed" "I") (List.mem_cons_of_mem _ (List.mem_append_left _ (List.mem_of_getElem? (i := 0) rfl)))) rfl dX8_type_14 ?_
    refine lv_bipush (v := iZ 120) hx hb dX8_type_17 (by decide) ?_
    refine z_icmp_ne (x := (M 1 0)) (y := 120) (tgt := 25) hx hb (by omega) (by omega) dX8_type_19 (by decide) (fun c2 => ?_) (fun c2 => ?_)
    · refine W.eq (g2 := F0 m 25 ls []) rfl ?_
      refine lv_aload_n hx hb dX8_type_25 rfl (lv_at hl 0 rfl) ?_
      refine mq_get hx hb hts hin hown hK hP 0 (by decide) (hts (.fieldLink RX8 7 "WordFletchersModel" "text" "[B") (List.mem_cons_of_mem _ (List.mem_append_left _ (List.mem_of_getElem? (i := 1) rfl)))) rfl dX8_type_26 ?_
      refine lv_aload_n hx hb dX8_type_29 rfl (lv_at hl 0 rfl) ?_
      refine mq_get hx hb hts hin hown hK hP 1 (by decide) (hts (.fieldLink RX8 76 "WordFletchersModel" "typed" "I") (List.mem_cons_of_mem _ (List.mem_append_left _ (List.mem_of_getElem? (i := 0) rfl)))) rfl dX8_type_30 ?_
      refine lv_iload_n hx hb dX8_type_33 rfl (lv_at hl 1 rfl) ?_
      refine z_i2b hx hb (by omega) dX8_type_34 ?_
      refine mq_bast hx hb hK hP hD hS 0 1 (n := 120) rfl (fun k9 => mS_0 C h a _ k9 _) (by decide) (Int.toNat (M 1 0)) rfl (by omega) (iZ_nb (by (try unfold zsb); (try split); all_goals omega)) dX8_type_35 (fun H locs hP hD hS => ?_)
      obtain ⟨M3, hM3⟩ : ∃ z : Nat → Nat → Int, z = (mU M 0 (Int.toNat (M 1 0)) (zsb cc)) := ⟨_, rfl⟩
      rw [← hM3] at hP hD
      refine lv_aload_n hx hb dX8_type_36 rfl (lv_at hl 0 rfl) ?_
      refine lv_dup hx hb dX8_type_37 rfl ?_
      refine mq_get hx hb hts hin hown hK hP 1 (by decide) (hts (.fieldLink RX8 76 "WordFletchersModel" "typed" "I") (List.mem_cons_of_mem _ (List.mem_append_left _ (List.mem_of_getElem? (i := 0) rfl)))) rfl dX8_type_38 ?_
      refine lv_iconst (v := iZ 1) hx hb dX8_type_41 (by decide) ?_
      refine z_iadd hx hb dX8_type_42 ?_
      refine W.eq (g2 := F0 m 43 ls [.int (iZ ((M3 1 0) + 1)), .ref h]) rfl ?_
      refine mq_put (ty := .int) hx hb hts hin hown hK hP hD hS 1 (by decide) (hts (.fieldLink RX8 76 "WordFletchersModel" "typed" "I") (List.mem_cons_of_mem _ (List.mem_append_left _ (List.mem_of_getElem? (i := 0) rfl)))) rfl (by decide +kernel) rfl rfl (mS_1 C h a _ _) dX8_type_43 (fun H locs hP hD hS => ?_)
      obtain ⟨M4, hM4⟩ : ∃ z : Nat → Nat → Int, z = (mU M3 1 0 ((M3 1 0) + 1)) := ⟨_, rfl⟩
      rw [← hM4] at hP hD
      refine lv_aload_n hx hb dX8_type_46 rfl (lv_at hl 0 rfl) ?_
      refine mq_get hx hb hts hin hown hK hP 1 (by decide) (hts (.fieldLink RX8 76 "WordFletchersModel" "typed" "I") (List.mem_cons_of_mem _ (List.mem_append_left _ (List.mem_of_getElem? (i := 0) rfl)))) rfl dX8_type_47 ?_
      exact mq_retM hx hb hK hP hS hr rfl (by subst_vars; unfold s_type; first | rfl | omega | (rw [if_pos (by omega)] <;> (first | rfl | omega | (rw [if_pos (by omega)] <;> (first | rfl | omega)) | (rw [if_neg (by omega)] <;> (first | rfl | omega)))) | (rw [if_neg (by omega)] <;> (first | rfl | omega | (rw [if_pos (by omega)] <;> (first | rfl | omega)) | (rw [if_neg (by omega)] <;> (first | rfl | omega))))) (by subst_vars; unfold f_type; first | rfl | omega | (rw [if_pos (by omega)] <;> (first | rfl | omega | (rw [if_pos (by omega)] <;> (first | rfl | omega)) | (rw [if_neg (by omega)] <;> (first | rfl | omega)))) | (rw [if_neg (by omega)] <;> (first | rfl | omega | (rw [if_pos (by omega)] <;> (first | rfl | omega)) | (rw [if_neg (by omega)] <;> (first | rfl | omega))))) dX8_type_50 hlocks
    · refine lv_bipush (v := iZ (-3)) hx hb dX8_type_22 (by decide) ?_
      exact mq_retM hx hb hK hP hS hr rfl (by subst_vars; unfold s_type; first | rfl | omega | (rw [if_pos (by omega)] <;> (first | rfl | omega | (rw [if_pos (by omega)] <;> (first | rfl | omega)) | (rw [if_neg (by omega)] <;> (first | rfl | omega)))) | (rw [if_neg (by omega)] <;> (first | rfl | omega | (rw [if_pos (by omega)] <;> (first | rfl | omega)) | (rw [if_neg (by omega)] <;> (first | rfl | omega))))) (by subst_vars; unfold f_type; first | rfl | omega | (rw [if_pos (by omega)] <;> (first | rfl | omega | (rw [if_pos (by omega)] <;> (first | rfl | omega)) | (rw [if_neg (by omega)] <;> (first | rfl | omega)))) | (rw [if_neg (by omega)] <;> (first | rfl | omega | (rw [if_pos (by omega)] <;> (first | rfl | omega)) | (rw [if_neg (by omega)] <;> (first | rfl | omega))))) dX8_type_24 hlocks
  · refine lv_iconst (v := iZ (-1)) hx hb dX8_type_11 (by decide) ?_
    exact mq_retM hx hb hK hP hS hr rfl (by subst_vars; unfold s_type; first | rfl | omega | (rw [if_pos (by omega)] <;> (first | rfl | omega | (rw [if_pos (by omega)] <;> (first | rfl | omega)) | (rw [if_neg (by omega)] <;> (first | rfl | omega)))) | (rw [if_neg (by omega)] <;> (first | rfl | omega | (rw [if_pos (by omega)] <;> (first | rfl | omega)) | (rw [if_neg (by omega)] <;> (first | rfl | omega))))) (by subst_vars; unfold f_type; first | rfl | omega | (rw [if_pos (by omega)] <;> (first | rfl | omega | (rw [if_pos (by omega)] <;> (first | rfl | omega)) | (rw [if_neg (by omega)] <;> (first | rfl | omega)))) | (rw [if_neg (by omega)] <;> (first | rfl | omega | (rw [if_pos (by omega)] <;> (first | rfl | omega)) | (rw [if_neg (by omega)] <;> (first | rfl | omega))))) dX8_type_12 hlocks
set_option maxHeartbeats 4000000 in
set_option maxRecDepth 100000 in
theorem C_clear (l : Launch) (D : va_G) (C : mC) (h : Nat) (a : Nat → Nat) (M : Nat → Nat → Int) (hN : va_D (fun _ => True) (mW C h a M)) : Met l yX8_clear wsX8_clear ({ frames := 0, cells := 0, slots := 0, locals := 0 }) (va_Pc [.ref h] (mOk D C h a M)) (va_Qi (fun r (_ : Unit) => r = iZ (M 1 0)) (fun _ t => mOk D C h a (mU M 1 0 0) t) (mA h a)) 0 0 (mA h a) := by
  refine Met.ofW (cc := cX8_clear) (maxL := 2) (ret := (some .int)) (by decide) rfl ?_
  intro p e s m args below meth c s₁ B hml hv
  obtain ⟨rfl, hP, hK⟩ := hv
  have hx := B.exec
  have hb := B.bytes
  have hr := B.returns
  have hts := atoms_spec (ws := wsX8_clear) B.pre
  have hown : s.vm.findClass RX8 = some m.cls := findClass_of_methodNamed B.named
  have hlocks := B.notSynchronized
  have hin : ∀ w ∈ wsX80, w ∈ wsX8_clear := fun _ w_h => (List.mem_cons_of_mem _ (List.mem_append_right _ w_h))
  have hl := lv_entry ([.ref h]) (n := 2) (Nat.le_of_ble_eq_true rfl)
  rw [lg_entry_eq]
  generalize (lg_sl ([.ref h]) ++ List.replicate (2 - (lg_sl ([.ref h])).length) Slot.unset).toArray = ls at hl ⊢
  replace hl : lv_has ls 2 [(0, .ref h)] := hl
  have hD : va_D (mA h a) (mW C h a M) := mD_own hN
  have hA : ∀ q, mA h a q → mA h a q := fun _ h9 => h9
  generalize hHe : s.heap = H at hP ⊢
  have hS : va_S (mA h a) s.heap H [] := by rw [hHe]; exact va_S.rf
  generalize hlo : ([] : List Loc) = locs at hS ⊢
  clear hHe hlo
  refine lv_aload_n hx hb dX8_clear_0 rfl (lv_at hl 0 rfl) ?_
  refine mq_get hx hb hts hin hown hK hP 1 (by decide) (hts (.fieldLink RX8 76 "WordFletchersModel" "typed" "I") (List.mem_cons_of_mem _ (List.mem_append_left _ (List.mem_of_getElem? (i := 0) rfl)))) rfl dX8_clear_1 ?_
  refine lv_istore_n (lv' := [(1, .int (iZ (M 1 0))), (0, .ref h)]) hx hb dX8_clear_4 rfl hl (by decide) rfl (fun ls hl => ?_)
  refine lv_aload_n hx hb dX8_clear_5 rfl (lv_at hl 1 rfl) ?_
  refine W.eq (g2 := F0 m 6 ls [.ref h]) rfl ?_
  refine lv_iconst (v := iZ 0) hx hb dX8_clear_6 (by decide) ?_
  refine mq_put (ty := .int) hx hb hts hin hown hK hP hD hS 1 (by decide) (hts (.fieldLink RX8 76 "WordFletchersModel" "typed" "I") (List.mem_cons_of_mem _ (List.mem_append_left _ (List.mem_of_getElem? (i := 0) rfl)))) rfl (by decide +kernel) rfl rfl (mS_1 C h a _ _) dX8_clear_7 (fun H locs hP hD hS => ?_)
  obtain ⟨M1, hM1⟩ : ∃ z : Nat → Nat → Int, z = (mU M 1 0 0) := ⟨_, rfl⟩
  rw [← hM1] at hP hD
  refine lv_iload_n hx hb dX8_clear_10 rfl (lv_at hl 0 rfl) ?_
  exact mq_retM hx hb hK hP hS hr rfl rfl (by subst_vars; rfl) dX8_clear_11 hlocks
set_option maxHeartbeats 4000000 in
set_option maxRecDepth 100000 in
theorem C_know (l : Launch) (D : va_G) (C : mC) (h : Nat) (a : Nat → Nat) (M : Nat → Nat → Int) (hI : mI M) (hN : va_D (fun _ => True) (mW C h a M)) : Met l yX8_know wsX8_know ({ frames := 0, cells := 0, slots := 0, locals := 0 }) (va_Pc [.ref h] (mOk D C h a M)) (va_Qv (fun (_ : Unit) => True) (fun _ t => mOk D C h a (f_know M) t) (mA h a)) 0 0 (mA h a) := by
  refine Met.ofW (cc := cX8_know) (maxL := 2) (ret := none) (by decide) rfl ?_
  intro p e s m args below meth c s₁ B hml hv
  obtain ⟨rfl, hP, hK⟩ := hv
  have hx := B.exec
  have hb := B.bytes
  have hr := B.returns
  have hts := atoms_spec (ws := wsX8_know) B.pre
  have hown : s.vm.findClass RX8 = some m.cls := findClass_of_methodNamed B.named
  have hlocks := B.notSynchronized
  have hin : ∀ w ∈ wsX80, w ∈ wsX8_know := fun _ w_h => (List.mem_cons_of_mem _ (List.mem_append_right _ w_h))
  have hl := lv_entry ([.ref h]) (n := 2) (Nat.le_of_ble_eq_true rfl)
  rw [lg_entry_eq]
  generalize (lg_sl ([.ref h]) ++ List.replicate (2 - (lg_sl ([.ref h])).length) Slot.unset).toArray = ls at hl ⊢
  replace hl : lv_has ls 2 [(0, .ref h)] := hl
  have hD : va_D (mA h a) (mW C h a M) := mD_own hN
  have hA : ∀ q, mA h a q → mA h a q := fun _ h9 => h9
  generalize hHe : s.heap = H at hP ⊢
  have hS : va_S (mA h a) s.heap H [] := by rw [hHe]; exact va_S.rf
  generalize hlo : ([] : List Loc) = locs at hS ⊢
  clear hHe hlo
  have hnw := mI_now hI
  refine lv_aload_n hx hb dX8_know_0 rfl (lv_at hl 0 rfl) ?_
  refine mq_get hx hb hts hin hown hK hP 20 (by decide) (hts (.fieldLink RX8 47 "WordFletchersModel" "known" "[I") (List.mem_cons_of_mem _ (List.mem_append_left _ (List.mem_of_getElem? (i := 0) rfl)))) rfl dX8_know_1 ?_
  refine lv_iconst (v := iZ 0) hx hb dX8_know_4 (by decide) ?_
  refine mq_iald hx hb hK hP 20 13 (n := 3) rfl (by decide) 0 rfl (by omega) dX8_know_5 ?_
  refine lv_bipush (v := iZ 10) hx hb dX8_know_6 (by decide) ?_
  refine z_icmp_ne (x := (M 20 0)) (y := 10) (tgt := 51) hx hb (by omega) (by omega) dX8_know_8 (by decide) (fun c1 => ?_) (fun c1 => ?_)
  · refine lv_iconst (v := iZ 0) hx hb dX8_know_51 (by decide) ?_
    refine W.eq (g2 := F0 m 52 ls [.int (iZ 0)]) rfl ?_
    refine lv_istore_n (lv' := [(1, .int (iZ 0)), (0, .ref h)]) hx hb dX8_know_52 rfl hl (by decide) rfl (fun ls hl => ?_)
    replace hl : lv_has ls 2 [(1, .int (iZ (0 : Int))), (0, .ref h)] := lv_sub hl [0, 1] rfl
    replace hP := And.intro hP hS
    clear hS
    revert ls
    revert hP
    revert H locs
    refine z_loopH (σ := (Nat → Nat → Int) × Int) (fun x9 => (0 ≤ x9.2 ∧ x9.2 ≤ 29) ∧ (x9.1 = f_blk M 21 19 (29 * (M 20 0).toNat) (0) (Int.toNat x9.2))) (fun x9 H9 locs9 => va_P D vwCl (mW C h a (x9.1)) H9 ∧ va_S (mA h a) s.heap H9 locs9) (fun x9 => [(1, .int (iZ (x9.2))), (0, .ref h)]) 2 (fun x9 => (29 - x9.2).toNat) (M, (0 : Int)) ⟨(by show 0 ≤ (0 : Int) ∧ (0 : Int) ≤ 29; omega), (by show M = f_blk M 21 19 (29 * (M 20 0).toNat) (0) (Int.toNat (0 : Int)); exact (f_blk_0 _ _ _ _ _).symm)⟩ ?_
    rintro ⟨Mb, kk2⟩ hI9 ih53 H locs hPS ls hl
    have hP : va_P D vwCl (mW C h a Mb) H := hPS.1
    have hS : va_S (mA h a) s.heap H locs := hPS.2
    have hD : va_D (mA h a) (mW C h a Mb) := mD_re hD
    obtain ⟨kba, kbb⟩ := hI9
    replace kba : 0 ≤ kk2 ∧ kk2 ≤ 29 := kba
    replace kbb : Mb = f_blk M 21 19 (29 * (M 20 0).toNat) (0) (Int.toNat kk2) := kbb
    replace hl : lv_has ls 2 [(1, .int (iZ kk2)), (0, .ref h)] := hl
    have e5 : Mb 20 0 = M 20 0 := by rw [kbb]; rfl
    refine lv_iload_n hx hb dX8_know_53 rfl (lv_at hl 0 rfl) ?_
    refine lv_bipush (v := iZ 29) hx hb dX8_know_54 (by decide) ?_
    refine z_icmp_ge (x := kk2) (y := 29) (tgt := 87) hx hb (by omega) (by omega) dX8_know_56 (by decide) (fun c6 => ?_) (fun c6 => ?_)
    · refine lv_aload_n hx hb dX8_know_87 rfl (lv_at hl 1 rfl) ?_
      refine mq_get hx hb hts hin hown hK hP 20 (by decide) (hts (.fieldLink RX8 47 "WordFletchersModel" "known" "[I") (List.mem_cons_of_mem _ (List.mem_append_left _ (List.mem_of_getElem? (i := 0) rfl)))) rfl dX8_know_88 ?_
      refine lv_iconst (v := iZ 0) hx hb dX8_know_91 (by decide) ?_
      refine W.eq (g2 := F0 m 92 ls [.int (iZ 0), .ref (a 20)]) rfl ?_
      refine lv_dup2_11 hx hb dX8_know_92 rfl rfl ?_
      refine mq_iald hx hb hK hP 20 13 (n := 3) rfl (by decide) 0 rfl (by omega) dX8_know_93 ?_
      refine lv_iconst (v := iZ 1) hx hb dX8_know_94 (by decide) ?_
      refine z_iadd hx hb dX8_know_95 ?_
      refine mq_iast hx hb hK hP hD hS 20 13 (n := 3) rfl (fun k9 => mS_20 C h a _ k9 _) (by decide) 0 rfl (by omega) dX8_know_96 (fun H locs hP hD hS => ?_)
      obtain ⟨M8, hM8⟩ : ∃ z : Nat → Nat → Int, z = (mU Mb 20 0 ((Mb 20 0) + 1)) := ⟨_, rfl⟩
      rw [← hM8] at hP hD
      exact mq_retV hx hb hK hP hS hr (by have q : kk2 = 29 := (by omega); subst q; unfold f_know; first | (have e : f_kn1 M = M := (if_neg (by omega)); rw [e]; subst_vars; rfl) | (have q2 : kk = 261 := (by omega); subst q2; have e : f_kn1 M = mU (f_blk M 21 21 0 29 261) 20 0 (f_blk M 21 21 0 29 261 20 0 - 1) := if_pos (by omega); rw [e]; subst_vars; rfl)) dX8_know_97 hlocks
    · refine lv_aload_n hx hb dX8_know_59 rfl (lv_at hl 1 rfl) ?_
      refine mq_get hx hb hts hin hown hK hP 21 (by decide) (hts (.fieldLink RX8 50 "WordFletchersModel" "before" "[I") (List.mem_cons_of_mem _ (List.mem_append_left _ (List.mem_of_getElem? (i := 1) rfl)))) rfl dX8_know_60 ?_
      refine lv_bipush (v := iZ 29) hx hb dX8_know_63 (by decide) ?_
      refine lv_aload_n hx hb dX8_know_65 rfl (lv_at hl 1 rfl) ?_
      refine mq_get hx hb hts hin hown hK hP 20 (by decide) (hts (.fieldLink RX8 47 "WordFletchersModel" "known" "[I") (List.mem_cons_of_mem _ (List.mem_append_left _ (List.mem_of_getElem? (i := 0) rfl)))) rfl dX8_know_66 ?_
      refine lv_iconst (v := iZ 0) hx hb dX8_know_69 (by decide) ?_
      refine W.eq (g2 := F0 m 70 ls [.int (iZ 0), .ref (a 20), .int (iZ 29), .ref (a 21)]) rfl ?_
      refine mq_iald hx hb hK hP 20 13 (n := 3) rfl (by decide) 0 rfl (by omega) dX8_know_70 ?_
      refine z_imul hx hb dX8_know_71 ?_
      refine lv_iload_n hx hb dX8_know_72 rfl (lv_at hl 0 rfl) ?_
      refine z_iadd hx hb dX8_know_73 ?_
      refine lv_aload_n hx hb dX8_know_74 rfl (lv_at hl 1 rfl) ?_
      refine mq_get hx hb hts hin hown hK hP 19 (by decide) (hts (.fieldLink RX8 44 "WordFletchersModel" "now" "[I") (List.mem_cons_of_mem _ (List.mem_append_left _ (List.mem_of_getElem? (i := 2) rfl)))) rfl dX8_know_75 ?_
      refine lv_iload_n hx hb dX8_know_78 rfl (lv_at hl 0 rfl) ?_
      refine mq_iald hx hb hK hP 19 12 (n := 29) rfl (by decide) (Int.toNat kk2) rfl (by omega) dX8_know_79 ?_
      refine mq_iast hx hb hK hP hD hS 21 14 (n := 870) rfl (fun k9 => mS_21 C h a _ k9 _) (by decide) (Int.toNat ((29 * (Mb 20 0)) + kk2)) rfl (by omega) dX8_know_80 (fun H locs hP hD hS => ?_)
      obtain ⟨M9, hM9⟩ : ∃ z : Nat → Nat → Int, z = (mU Mb 21 (Int.toNat ((29 * (Mb 20 0)) + kk2)) (Mb 19 (Int.toNat kk2))) := ⟨_, rfl⟩
      rw [← hM9] at hP hD
      refine lv_iinc (v := iZ (kk2 + 1)) (lv' := [(1, .int (iZ (kk2 + 1))), (0, .ref h)]) hx hb dX8_know_81 hl (k := 0) rfl (iZ_add _ _) (by decide) rfl (fun ls hl => ?_)
      refine lv_goto (tgt := 53) hx hb dX8_know_84 (by decide) ?_
      exact ih53 (M9, (kk2 + 1)) ⟨(by show 0 ≤ (kk2 + 1) ∧ (kk2 + 1) ≤ 29; omega), (by show M9 = f_blk M 21 19 (29 * (M 20 0).toNat) (0) (Int.toNat (kk2 + 1)); rw [f_blk_step _ _ _ _ _ (by omega), ← kbb]; have q9 : Int.toNat (29 * Mb 20 0 + kk2) = (29 * (M 20 0).toNat) + Int.toNat kk2 := (by omega); have q7 : Int.toNat (kk2) = (0) + Int.toNat kk2 := (by omega); have q8 : Mb 19 (Int.toNat (kk2)) = M 19 ((0) + Int.toNat kk2) := (by have r9 := f_blk_rd (M := M) (F := 21) (G := 19) (d := 29 * (M 20 0).toNat) (s := 0) (k := Int.toNat kk2) (i := Int.toNat kk2) (by omega); rw [← kbb] at r9; exact (congrArg (Mb 19) q7).trans r9); rw [← q9, ← q8]; assumption)⟩ (by show (29 - (kk2 + 1)).toNat < (29 - kk2).toNat; omega) H locs ⟨hP, hS⟩ ls (lv_sub hl [0, 1] rfl)
  · refine lv_iconst (v := iZ 0) hx hb dX8_know_11 (by decide) ?_
    refine W.eq (g2 := F0 m 12 ls [.int (iZ 0)]) rfl ?_
    refine lv_istore_n (lv' := [(1, .int (iZ 0)), (0, .ref h)]) hx hb dX8_know_12 rfl hl (by decide) rfl (fun ls hl => ?_)
    replace hl : lv_has ls 2 [(1, .int (iZ (0 : Int))), (0, .ref h)] := lv_sub hl [0, 1] rfl
    replace hP := And.intro hP hS
    clear hS
    revert ls
    revert hP
    revert H locs
    refine z_loopH (σ := (Nat → Nat → Int) × Int) (fun x9 => (0 ≤ x9.2 ∧ x9.2 ≤ 261) ∧ (x9.1 = f_blk M 21 21 (0) (29) (Int.toNat x9.2))) (fun x9 H9 locs9 => va_P D vwCl (mW C h a (x9.1)) H9 ∧ va_S (mA h a) s.heap H9 locs9) (fun x9 => [(1, .int (iZ (x9.2))), (0, .ref h)]) 2 (fun x9 => (261 - x9.2).toNat) (M, (0 : Int)) ⟨(by show 0 ≤ (0 : Int) ∧ (0 : Int) ≤ 261; omega), (by show M = f_blk M 21 21 (0) (29) (Int.toNat (0 : Int)); exact (f_blk_0 _ _ _ _ _).symm)⟩ ?_
    rintro ⟨Ma, kk⟩ hI9 ih13 H locs hPS ls hl
    have hP : va_P D vwCl (mW C h a Ma) H := hPS.1
    have hS : va_S (mA h a) s.heap H locs := hPS.2
    have hD : va_D (mA h a) (mW C h a Ma) := mD_re hD
    obtain ⟨kaa, kab⟩ := hI9
    replace kaa : 0 ≤ kk ∧ kk ≤ 261 := kaa
    replace kab : Ma = f_blk M 21 21 (0) (29) (Int.toNat kk) := kab
    replace hl : lv_has ls 2 [(1, .int (iZ kk)), (0, .ref h)] := hl
    refine lv_iload_n hx hb dX8_know_13 rfl (lv_at hl 0 rfl) ?_
    refine lv_sipush (v := iZ 261) hx hb dX8_know_14 (by decide) ?_
    refine z_icmp_ge (x := kk) (y := 261) (tgt := 41) hx hb (by omega) (by omega) dX8_know_17 (by decide) (fun c10 => ?_) (fun c10 => ?_)
    · refine lv_aload_n hx hb dX8_know_41 rfl (lv_at hl 1 rfl) ?_
      refine mq_get hx hb hts hin hown hK hP 20 (by decide) (hts (.fieldLink RX8 47 "WordFletchersModel" "known" "[I") (List.mem_cons_of_mem _ (List.mem_append_left _ (List.mem_of_getElem? (i := 0) rfl)))) rfl dX8_know_42 ?_
      refine lv_iconst (v := iZ 0) hx hb dX8_know_45 (by decide) ?_
      refine lv_dup2_11 hx hb dX8_know_46 rfl rfl ?_
      refine mq_iald hx hb hK hP 20 13 (n := 3) rfl (by decide) 0 rfl (by omega) dX8_know_47 ?_
      refine lv_iconst (v := iZ 1) hx hb dX8_know_48 (by decide) ?_
      refine z_isub hx hb dX8_know_49 ?_
      refine mq_iast hx hb hK hP hD hS 20 13 (n := 3) rfl (fun k9 => mS_20 C h a _ k9 _) (by decide) 0 rfl (by omega) dX8_know_50 (fun H locs hP hD hS => ?_)
      obtain ⟨M12, hM12⟩ : ∃ z : Nat → Nat → Int, z = (mU Ma 20 0 ((Ma 20 0) - 1)) := ⟨_, rfl⟩
      rw [← hM12] at hP hD
      have e4 : M12 20 0 = 9 := by rw [hM12]; show Ma 20 0 - 1 = 9; rw [kab]; show M 20 0 - 1 = 9; omega
      refine W.eq (g2 := F0 m 51 ls []) rfl ?_
      refine lv_iconst (v := iZ 0) hx hb dX8_know_51 (by decide) ?_
      refine lv_istore_n (lv' := [(1, .int (iZ 0)), (0, .ref h)]) hx hb dX8_know_52 rfl hl (by decide) rfl (fun ls hl => ?_)
      replace hl : lv_has ls 2 [(1, .int (iZ (0 : Int))), (0, .ref h)] := lv_sub hl [0, 1] rfl
      replace hP := And.intro hP hS
      clear hS
      revert ls
      revert hP
      revert H locs
      refine z_loopH (σ := (Nat → Nat → Int) × Int) (fun x9 => (0 ≤ x9.2 ∧ x9.2 ≤ 29) ∧ (x9.1 = f_blk M12 21 19 (29 * (M12 20 0).toNat) (0) (Int.toNat x9.2))) (fun x9 H9 locs9 => va_P D vwCl (mW C h a (x9.1)) H9 ∧ va_S (mA h a) s.heap H9 locs9) (fun x9 => [(1, .int (iZ (x9.2))), (0, .ref h)]) 2 (fun x9 => (29 - x9.2).toNat) (M12, (0 : Int)) ⟨(by show 0 ≤ (0 : Int) ∧ (0 : Int) ≤ 29; omega), (by show M12 = f_blk M12 21 19 (29 * (M12 20 0).toNat) (0) (Int.toNat (0 : Int)); exact (f_blk_0 _ _ _ _ _).symm)⟩ ?_
      rintro ⟨Mb, kk2⟩ hI9 ih53 H locs hPS ls hl
      have hP : va_P D vwCl (mW C h a Mb) H := hPS.1
      have hS : va_S (mA h a) s.heap H locs := hPS.2
      have hD : va_D (mA h a) (mW C h a Mb) := mD_re hD
      obtain ⟨kba, kbb⟩ := hI9
      replace kba : 0 ≤ kk2 ∧ kk2 ≤ 29 := kba
      replace kbb : Mb = f_blk M12 21 19 (29 * (M12 20 0).toNat) (0) (Int.toNat kk2) := kbb
      replace hl : lv_has ls 2 [(1, .int (iZ kk2)), (0, .ref h)] := hl
      have e5 : Mb 20 0 = M12 20 0 := by rw [kbb]; rfl
      refine lv_iload_n hx hb dX8_know_53 rfl (lv_at hl 0 rfl) ?_
      refine lv_bipush (v := iZ 29) hx hb dX8_know_54 (by decide) ?_
      refine z_icmp_ge (x := kk2) (y := 29) (tgt := 87) hx hb (by omega) (by omega) dX8_know_56 (by decide) (fun c13 => ?_) (fun c13 => ?_)
      · refine lv_aload_n hx hb dX8_know_87 rfl (lv_at hl 1 rfl) ?_
        refine mq_get hx hb hts hin hown hK hP 20 (by decide) (hts (.fieldLink RX8 47 "WordFletchersModel" "known" "[I") (List.mem_cons_of_mem _ (List.mem_append_left _ (List.mem_of_getElem? (i := 0) rfl)))) rfl dX8_know_88 ?_
        refine W.eq (g2 := F0 m 91 ls [.ref (a 20)]) rfl ?_
        refine lv_iconst (v := iZ 0) hx hb dX8_know_91 (by decide) ?_
        refine lv_dup2_11 hx hb dX8_know_92 rfl rfl ?_
        refine mq_iald hx hb hK hP 20 13 (n := 3) rfl (by decide) 0 rfl (by omega) dX8_know_93 ?_
        refine lv_iconst (v := iZ 1) hx hb dX8_know_94 (by decide) ?_
        refine z_iadd hx hb dX8_know_95 ?_
        refine mq_iast hx hb hK hP hD hS 20 13 (n := 3) rfl (fun k9 => mS_20 C h a _ k9 _) (by decide) 0 rfl (by omega) dX8_know_96 (fun H locs hP hD hS => ?_)
        obtain ⟨M15, hM15⟩ : ∃ z : Nat → Nat → Int, z = (mU Mb 20 0 ((Mb 20 0) + 1)) := ⟨_, rfl⟩
        rw [← hM15] at hP hD
        exact mq_retV hx hb hK hP hS hr (by have q : kk2 = 29 := (by omega); subst q; unfold f_know; first | (have e : f_kn1 M = M := (if_neg (by omega)); rw [e]; subst_vars; rfl) | (have q2 : kk = 261 := (by omega); subst q2; have e : f_kn1 M = mU (f_blk M 21 21 0 29 261) 20 0 (f_blk M 21 21 0 29 261 20 0 - 1) := if_pos (by omega); rw [e]; subst_vars; rfl)) dX8_know_97 hlocks
      · refine lv_aload_n hx hb dX8_know_59 rfl (lv_at hl 1 rfl) ?_
        refine mq_get hx hb hts hin hown hK hP 21 (by decide) (hts (.fieldLink RX8 50 "WordFletchersModel" "before" "[I") (List.mem_cons_of_mem _ (List.mem_append_left _ (List.mem_of_getElem? (i := 1) rfl)))) rfl dX8_know_60 ?_
        refine lv_bipush (v := iZ 29) hx hb dX8_know_63 (by decide) ?_
        refine lv_aload_n hx hb dX8_know_65 rfl (lv_at hl 1 rfl) ?_
        refine mq_get hx hb hts hin hown hK hP 20 (by decide) (hts (.fieldLink RX8 47 "WordFletchersModel" "known" "[I") (List.mem_cons_of_mem _ (List.mem_append_left _ (List.mem_of_getElem? (i := 0) rfl)))) rfl dX8_know_66 ?_
        refine W.eq (g2 := F0 m 69 ls [.ref (a 20), .int (iZ 29), .ref (a 21)]) rfl ?_
        refine lv_iconst (v := iZ 0) hx hb dX8_know_69 (by decide) ?_
        refine mq_iald hx hb hK hP 20 13 (n := 3) rfl (by decide) 0 rfl (by omega) dX8_know_70 ?_
        refine z_imul hx hb dX8_know_71 ?_
        refine lv_iload_n hx hb dX8_know_72 rfl (lv_at hl 0 rfl) ?_
        refine z_iadd hx hb dX8_know_73 ?_
        refine lv_aload_n hx hb dX8_know_74 rfl (lv_at hl 1 rfl) ?_
        refine mq_get hx hb hts hin hown hK hP 19 (by decide) (hts (.fieldLink RX8 44 "WordFletchersModel" "now" "[I") (List.mem_cons_of_mem _ (List.mem_append_left _ (List.mem_of_getElem? (i := 2) rfl)))) rfl dX8_know_75 ?_
        refine lv_iload_n hx hb dX8_know_78 rfl (lv_at hl 0 rfl) ?_
        refine mq_iald hx hb hK hP 19 12 (n := 29) rfl (by decide) (Int.toNat kk2) rfl (by omega) dX8_know_79 ?_
        refine mq_iast hx hb hK hP hD hS 21 14 (n := 870) rfl (fun k9 => mS_21 C h a _ k9 _) (by decide) (Int.toNat ((29 * (Mb 20 0)) + kk2)) rfl (by omega) dX8_know_80 (fun H locs hP hD hS => ?_)
        obtain ⟨M16, hM16⟩ : ∃ z : Nat → Nat → Int, z = (mU Mb 21 (Int.toNat ((29 * (Mb 20 0)) + kk2)) (Mb 19 (Int.toNat kk2))) := ⟨_, rfl⟩
        rw [← hM16] at hP hD
        refine lv_iinc (v := iZ (kk2 + 1)) (lv' := [(1, .int (iZ (kk2 + 1))), (0, .ref h)]) hx hb dX8_know_81 hl (k := 0) rfl (iZ_add _ _) (by decide) rfl (fun ls hl => ?_)
        refine lv_goto (tgt := 53) hx hb dX8_know_84 (by decide) ?_
        exact ih53 (M16, (kk2 + 1)) ⟨(by show 0 ≤ (kk2 + 1) ∧ (kk2 + 1) ≤ 29; omega), (by show M16 = f_blk M12 21 19 (29 * (M12 20 0).toNat) (0) (Int.toNat (kk2 + 1)); rw [f_blk_step _ _ _ _ _ (by omega), ← kbb]; have q9 : Int.toNat (29 * Mb 20 0 + kk2) = (29 * (M12 20 0).toNat) + Int.toNat kk2 := (by omega); have q7 : Int.toNat (kk2) = (0) + Int.toNat kk2 := (by omega); have q8 : Mb 19 (Int.toNat (kk2)) = M12 19 ((0) + Int.toNat kk2) := (by have r9 := f_blk_rd (M := M12) (F := 21) (G := 19) (d := 29 * (M12 20 0).toNat) (s := 0) (k := Int.toNat kk2) (i := Int.toNat kk2) (by omega); rw [← kbb] at r9; exact (congrArg (Mb 19) q7).trans r9); rw [← q9, ← q8]; assumption)⟩ (by show (29 - (kk2 + 1)).toNat < (29 - kk2).toNat; omega) H locs ⟨hP, hS⟩ ls (lv_sub hl [0, 1] rfl)
    · refine W.eq (g2 := F0 m 20 ls []) rfl ?_
      refine lv_aload_n hx hb dX8_know_20 rfl (lv_at hl 1 rfl) ?_
      refine mq_get hx hb hts hin hown hK hP 21 (by decide) (hts (.fieldLink RX8 50 "WordFletchersModel" "before" "[I") (List.mem_cons_of_mem _ (List.mem_append_left _ (List.mem_of_getElem? (i := 1) rfl)))) rfl dX8_know_21 ?_
      refine lv_iload_n hx hb dX8_know_24 rfl (lv_at hl 0 rfl) ?_
      refine lv_aload_n hx hb dX8_know_25 rfl (lv_at hl 1 rfl) ?_
      refine mq_get hx hb hts hin hown hK hP 21 (by decide) (hts (.fieldLink RX8 50 "WordFletchersModel" "before" "[I") (List.mem_cons_of_mem _ (List.mem_append_left _ (List.mem_of_getElem? (i := 1) rfl)))) rfl dX8_know_26 ?_
      refine lv_bipush (v := iZ 29) hx hb dX8_know_29 (by decide) ?_
      refine lv_iload_n hx hb dX8_know_31 rfl (lv_at hl 0 rfl) ?_
      refine z_iadd hx hb dX8_know_32 ?_
      refine mq_iald hx hb hK hP 21 14 (n := 870) rfl (by decide) (Int.toNat (29 + kk)) rfl (by omega) dX8_know_33 ?_
      refine mq_iast hx hb hK hP hD hS 21 14 (n := 870) rfl (fun k9 => mS_21 C h a _ k9 _) (by decide) (Int.toNat kk) rfl (by omega) dX8_know_34 (fun H locs hP hD hS => ?_)
      obtain ⟨M17, hM17⟩ : ∃ z : Nat → Nat → Int, z = (mU Ma 21 (Int.toNat kk) (Ma 21 (Int.toNat (29 + kk)))) := ⟨_, rfl⟩
      rw [← hM17] at hP hD
      refine lv_iinc (v := iZ (kk + 1)) (lv' := [(1, .int (iZ (kk + 1))), (0, .ref h)]) hx hb dX8_know_35 hl (k := 0) rfl (iZ_add _ _) (by decide) rfl (fun ls hl => ?_)
      refine lv_goto (tgt := 13) hx hb dX8_know_38 (by decide) ?_
      exact ih13 (M17, (kk + 1)) ⟨(by show 0 ≤ (kk + 1) ∧ (kk + 1) ≤ 261; omega), (by show M17 = f_blk M 21 21 (0) (29) (Int.toNat (kk + 1)); rw [f_blk_step _ _ _ _ _ (by omega), ← kab]; have q9 : Int.toNat (kk) = (0) + Int.toNat kk := (by omega); have q7 : Int.toNat (29 + kk) = (29) + Int.toNat kk := (by omega); have q8 : Ma 21 (Int.toNat (29 + kk)) = M 21 ((29) + Int.toNat kk) := (by have r9 := f_blk_rd (M := M) (F := 21) (G := 21) (d := 0) (s := 29) (k := Int.toNat kk) (i := Int.toNat kk) (by omega); rw [← kab] at r9; exact (congrArg (Ma 21) q7).trans r9); rw [← q9, ← q8]; assumption)⟩ (by show (261 - (kk + 1)).toNat < (261 - kk).toNat; omega) H locs ⟨hP, hS⟩ ls (lv_sub hl [0, 1] rfl)
set_option maxHeartbeats 4000000 in
set_option maxRecDepth 100000 in
theorem C_takeUp (l : Launch) (D : va_G) (C : mC) (h : Nat) (a : Nat → Nat) (M : Nat → Nat → Int) (ii : Int) (h1 : 0 ≤ ii ∧ ii ≤ 7) (hN : va_D (fun _ => True) (mW C h a M)) : Met l yX8_takeUp wsX8_takeUp ({ frames := 0, cells := 0, slots := 0, locals := 0 }) (va_Pc [.ref h, .int (iZ ii)] (mOk D C h a M)) (va_Qv (fun (_ : Unit) => True) (fun _ t => mOk D C h a (f_take M ii) t) (mA h a)) 0 0 (mA h a) := by
  refine Met.ofW (cc := cX8_takeUp) (maxL := 3) (ret := none) (by decide) rfl ?_
  intro p e s m args below meth c s₁ B hml hv
  obtain ⟨rfl, hP, hK⟩ := hv
  have hx := B.exec
  have hb := B.bytes
  have hr := B.returns
  have hts := atoms_spec (ws := wsX8_takeUp) B.pre
  have hown : s.vm.findClass RX8 = some m.cls := findClass_of_methodNamed B.named
  have hlocks := B.notSynchronized
  have hin : ∀ w ∈ wsX80, w ∈ wsX8_takeUp := fun _ w_h => (List.mem_cons_of_mem _ (List.mem_append_right _ w_h))
  have hl := lv_entry ([.ref h, .int (iZ ii)]) (n := 3) (Nat.le_of_ble_eq_true rfl)
  rw [lg_entry_eq]
  generalize (lg_sl ([.ref h, .int (iZ ii)]) ++ List.replicate (3 - (lg_sl ([.ref h, .int (iZ ii)])).length) Slot.unset).toArray = ls at hl ⊢
  replace hl : lv_has ls 3 [(0, .ref h), (1, .int (iZ ii))] := hl
  have hD : va_D (mA h a) (mW C h a M) := mD_own hN
  have hA : ∀ q, mA h a q → mA h a q := fun _ h9 => h9
  generalize hHe : s.heap = H at hP ⊢
  have hS : va_S (mA h a) s.heap H [] := by rw [hHe]; exact va_S.rf
  generalize hlo : ([] : List Loc) = locs at hS ⊢
  clear hHe hlo
  refine W.eq (g2 := F0 m 0 ls []) rfl ?_
  refine lv_iload_n hx hb dX8_takeUp_0 rfl (lv_at hl 1 rfl) ?_
  refine lv_istore_n (lv' := [(2, .int (iZ ii)), (0, .ref h), (1, .int (iZ ii))]) hx hb dX8_takeUp_1 rfl hl (by decide) rfl (fun ls hl => ?_)
  replace hl : lv_has ls 3 [(2, .int (iZ ii)), (0, .ref h)] := lv_sub hl [0, 1] rfl
  replace hP := And.intro hP hS
  clear hS
  revert ls
  revert hP
  revert H locs
  refine z_loopH (σ := (Nat → Nat → Int) × Int) (fun x9 => (ii ≤ x9.2 ∧ x9.2 ≤ 7) ∧ (x9.1 = f_tk M (Int.toNat ii) (Int.toNat x9.2))) (fun x9 H9 locs9 => va_P D vwCl (mW C h a (x9.1)) H9 ∧ va_S (mA h a) s.heap H9 locs9) (fun x9 => [(2, .int (iZ (x9.2))), (0, .ref h)]) 3 (fun x9 => (7 - x9.2).toNat) (M, ii) ⟨(by show ii ≤ ii ∧ ii ≤ 7; omega), (by show M = f_tk M (Int.toNat ii) (Int.toNat ii); funext f9 j9; unfold f_tk; rw [if_neg (by omega), if_neg (by omega)])⟩ ?_
  rintro ⟨Ma, kk⟩ hI9 ih2 H locs hPS ls hl
  have hP : va_P D vwCl (mW C h a Ma) H := hPS.1
  have hS : va_S (mA h a) s.heap H locs := hPS.2
  have hD : va_D (mA h a) (mW C h a Ma) := mD_re hD
  obtain ⟨i1, i2⟩ := hI9
  replace i1 : ii ≤ kk ∧ kk ≤ 7 := i1
  replace i2 : Ma = f_tk M (Int.toNat ii) (Int.toNat kk) := i2
  replace hl : lv_has ls 3 [(2, .int (iZ kk)), (0, .ref h)] := hl
  refine lv_iload_n hx hb dX8_takeUp_2 rfl (lv_at hl 0 rfl) ?_
  refine lv_iconst (v := iZ 1) hx hb dX8_takeUp_3 (by decide) ?_
  refine z_iadd hx hb dX8_takeUp_4 ?_
  refine lv_bipush (v := iZ 8) hx hb dX8_takeUp_5 (by decide) ?_
  refine z_icmp_ge (x := (kk + 1)) (y := 8) (tgt := 56) hx hb (by omega) (by omega) dX8_takeUp_7 (by decide) (fun c1 => ?_) (fun c1 => ?_)
  · refine lv_aload_n hx hb dX8_takeUp_56 rfl (lv_at hl 1 rfl) ?_
    refine mq_get hx hb hts hin hown hK hP 19 (by decide) (hts (.fieldLink RX8 44 "WordFletchersModel" "now" "[I") (List.mem_cons_of_mem _ (List.mem_append_left _ (List.mem_of_getElem? (i := 0) rfl)))) rfl dX8_takeUp_57 ?_
    refine lv_bipush (v := iZ 20) hx hb dX8_takeUp_60 (by decide) ?_
    refine lv_iconst (v := iZ 0) hx hb dX8_takeUp_62 (by decide) ?_
    refine mq_iast hx hb hK hP hD hS 19 12 (n := 29) rfl (fun k9 => mS_19 C h a _ k9 _) (by decide) 20 rfl (by omega) dX8_takeUp_63 (fun H locs hP hD hS => ?_)
    obtain ⟨M4, hM4⟩ : ∃ z : Nat → Nat → Int, z = (mU Ma 19 20 0) := ⟨_, rfl⟩
    rw [← hM4] at hP hD
    refine lv_aload_n hx hb dX8_takeUp_64 rfl (lv_at hl 1 rfl) ?_
    refine mq_get hx hb hts hin hown hK hP 19 (by decide) (hts (.fieldLink RX8 44 "WordFletchersModel" "now" "[I") (List.mem_cons_of_mem _ (List.mem_append_left _ (List.mem_of_getElem? (i := 0) rfl)))) rfl dX8_takeUp_65 ?_
    refine lv_bipush (v := iZ 28) hx hb dX8_takeUp_68 (by decide) ?_
    refine lv_iconst (v := iZ 0) hx hb dX8_takeUp_70 (by decide) ?_
    refine mq_iast hx hb hK hP hD hS 19 12 (n := 29) rfl (fun k9 => mS_19 C h a _ k9 _) (by decide) 28 rfl (by omega) dX8_takeUp_71 (fun H locs hP hD hS => ?_)
    obtain ⟨M5, hM5⟩ : ∃ z : Nat → Nat → Int, z = (mU M4 19 28 0) := ⟨_, rfl⟩
    rw [← hM5] at hP hD
    refine lv_aload_n hx hb dX8_takeUp_72 rfl (lv_at hl 1 rfl) ?_
    refine W.eq (g2 := F0 m 73 ls [.ref h]) rfl ?_
    refine mq_get hx hb hts hin hown hK hP 19 (by decide) (hts (.fieldLink RX8 44 "WordFletchersModel" "now" "[I") (List.mem_cons_of_mem _ (List.mem_append_left _ (List.mem_of_getElem? (i := 0) rfl)))) rfl dX8_takeUp_73 ?_
    refine lv_bipush (v := iZ 12) hx hb dX8_takeUp_76 (by decide) ?_
    refine lv_dup2_11 hx hb dX8_takeUp_78 rfl rfl ?_
    refine mq_iald hx hb hK hP 19 12 (n := 29) rfl (by decide) 12 rfl (by omega) dX8_takeUp_79 ?_
    refine lv_iconst (v := iZ 1) hx hb dX8_takeUp_80 (by decide) ?_
    refine z_isub hx hb dX8_takeUp_81 ?_
    refine mq_iast hx hb hK hP hD hS 19 12 (n := 29) rfl (fun k9 => mS_19 C h a _ k9 _) (by decide) 12 rfl (by omega) dX8_takeUp_82 (fun H locs hP hD hS => ?_)
    obtain ⟨M6, hM6⟩ : ∃ z : Nat → Nat → Int, z = (mU M5 19 12 ((M5 19 12) - 1)) := ⟨_, rfl⟩
    rw [← hM6] at hP hD
    exact mq_retV hx hb hK hP hS hr (by have q : kk = 7 := (by omega); subst q; subst_vars; rfl) dX8_takeUp_83 hlocks
  · refine lv_aload_n hx hb dX8_takeUp_10 rfl (lv_at hl 1 rfl) ?_
    refine mq_get hx hb hts hin hown hK hP 19 (by decide) (hts (.fieldLink RX8 44 "WordFletchersModel" "now" "[I") (List.mem_cons_of_mem _ (List.mem_append_left _ (List.mem_of_getElem? (i := 0) rfl)))) rfl dX8_takeUp_11 ?_
    refine lv_bipush (v := iZ 13) hx hb dX8_takeUp_14 (by decide) ?_
    refine lv_iload_n hx hb dX8_takeUp_16 rfl (lv_at hl 0 rfl) ?_
    refine W.eq (g2 := F0 m 17 ls [.int (iZ kk), .int (iZ 13), .ref (a 19)]) rfl ?_
    refine z_iadd hx hb dX8_takeUp_17 ?_
    refine lv_aload_n hx hb dX8_takeUp_18 rfl (lv_at hl 1 rfl) ?_
    refine mq_get hx hb hts hin hown hK hP 19 (by decide) (hts (.fieldLink RX8 44 "WordFletchersModel" "now" "[I") (List.mem_cons_of_mem _ (List.mem_append_left _ (List.mem_of_getElem? (i := 0) rfl)))) rfl dX8_takeUp_19 ?_
    refine lv_bipush (v := iZ 13) hx hb dX8_takeUp_22 (by decide) ?_
    refine lv_iload_n hx hb dX8_takeUp_24 rfl (lv_at hl 0 rfl) ?_
    refine z_iadd hx hb dX8_takeUp_25 ?_
    refine lv_iconst (v := iZ 1) hx hb dX8_takeUp_26 (by decide) ?_
    refine z_iadd hx hb dX8_takeUp_27 ?_
    refine mq_iald hx hb hK hP 19 12 (n := 29) rfl (by decide) (Int.toNat ((13 + kk) + 1)) rfl (by omega) dX8_takeUp_28 ?_
    refine mq_iast hx hb hK hP hD hS 19 12 (n := 29) rfl (fun k9 => mS_19 C h a _ k9 _) (by decide) (Int.toNat (13 + kk)) rfl (by omega) dX8_takeUp_29 (fun H locs hP hD hS => ?_)
    obtain ⟨M7, hM7⟩ : ∃ z : Nat → Nat → Int, z = (mU Ma 19 (Int.toNat (13 + kk)) (Ma 19 (Int.toNat ((13 + kk) + 1)))) := ⟨_, rfl⟩
    rw [← hM7] at hP hD
    refine lv_aload_n hx hb dX8_takeUp_30 rfl (lv_at hl 1 rfl) ?_
    refine mq_get hx hb hts hin hown hK hP 19 (by decide) (hts (.fieldLink RX8 44 "WordFletchersModel" "now" "[I") (List.mem_cons_of_mem _ (List.mem_append_left _ (List.mem_of_getElem? (i := 0) rfl)))) rfl dX8_takeUp_31 ?_
    refine W.eq (g2 := F0 m 34 ls [.ref (a 19)]) rfl ?_
    refine lv_bipush (v := iZ 21) hx hb dX8_takeUp_34 (by decide) ?_
    refine lv_iload_n hx hb dX8_takeUp_36 rfl (lv_at hl 0 rfl) ?_
    refine z_iadd hx hb dX8_takeUp_37 ?_
    refine lv_aload_n hx hb dX8_takeUp_38 rfl (lv_at hl 1 rfl) ?_
    refine mq_get hx hb hts hin hown hK hP 19 (by decide) (hts (.fieldLink RX8 44 "WordFletchersModel" "now" "[I") (List.mem_cons_of_mem _ (List.mem_append_left _ (List.mem_of_getElem? (i := 0) rfl)))) rfl dX8_takeUp_39 ?_
    refine lv_bipush (v := iZ 21) hx hb dX8_takeUp_42 (by decide) ?_
    refine lv_iload_n hx hb dX8_takeUp_44 rfl (lv_at hl 0 rfl) ?_
    refine z_iadd hx hb dX8_takeUp_45 ?_
    refine lv_iconst (v := iZ 1) hx hb dX8_takeUp_46 (by decide) ?_
    refine z_iadd hx hb dX8_takeUp_47 ?_
    refine mq_iald hx hb hK hP 19 12 (n := 29) rfl (by decide) (Int.toNat ((21 + kk) + 1)) rfl (by omega) dX8_takeUp_48 ?_
    refine mq_iast hx hb hK hP hD hS 19 12 (n := 29) rfl (fun k9 => mS_19 C h a _ k9 _) (by decide) (Int.toNat (21 + kk)) rfl (by omega) dX8_takeUp_49 (fun H locs hP hD hS => ?_)
    obtain ⟨M8, hM8⟩ : ∃ z : Nat → Nat → Int, z = (mU M7 19 (Int.toNat (21 + kk)) (M7 19 (Int.toNat ((21 + kk) + 1)))) := ⟨_, rfl⟩
    rw [← hM8] at hP hD
    refine W.eq (g2 := F0 m 50 ls []) rfl ?_
    refine lv_iinc (v := iZ (kk + 1)) (lv' := [(2, .int (iZ (kk + 1))), (0, .ref h)]) hx hb dX8_takeUp_50 hl (k := 0) rfl (iZ_add _ _) (by decide) rfl (fun ls hl => ?_)
    refine lv_goto (tgt := 2) hx hb dX8_takeUp_53 (by decide) ?_
    exact ih2 (M8, (kk + 1)) ⟨(by show ii ≤ (kk + 1) ∧ (kk + 1) ≤ 7; omega), (by show M8 = f_tk M (Int.toNat ii) (Int.toNat (kk + 1)); rw [← f_tk_step _ _ (by omega) (by omega) (by omega), ← i2]; subst_vars; rfl)⟩ (by show (7 - (kk + 1)).toNat < (7 - kk).toNat; omega) H locs ⟨hP, hS⟩ ls (lv_sub hl [0, 1] rfl)
set_option maxHeartbeats 4000000 in
set_option maxRecDepth 100000 in
theorem C_hours (l : Launch) (D : va_G) (C : mC) (h : Nat) (a : Nat → Nat) (M : Nat → Nat → Int) (nn : Int) (hI : mI M) (h1 : -2147483648 ≤ nn ∧ nn < 2147483648) (hN : va_D (fun _ => True) (mW C h a M)) : Met l yX8_hours wsX8_hours ({ frames := 1, cells := 0, slots := 0, locals := 22 }) (va_Pc [.ref h, .int (iZ nn)] (mOk D C h a M)) (va_Qi (fun r (_ : Unit) => r = iZ (s_hours M nn)) (fun _ t => mOk D C h a (f_hours M nn) t) (mA h a)) 0 0 (mA h a) := by
  refine Met.ofW (cc := cX8_hours) (maxL := 2) (ret := (some .int)) (by decide) rfl ?_
  intro p e s m args below meth c s₁ B hml hv
  obtain ⟨rfl, hP, hK⟩ := hv
  have hx := B.exec
  have hb := B.bytes
  have hr := B.returns
  have hts := atoms_spec (ws := wsX8_hours) B.pre
  have hown : s.vm.findClass RX8 = some m.cls := findClass_of_methodNamed B.named
  have hlocks := B.notSynchronized
  have hin : ∀ w ∈ wsX80, w ∈ wsX8_hours := fun _ w_h => (List.mem_cons_of_mem _ (List.mem_append_right _ w_h))
  have hl := lv_entry ([.ref h, .int (iZ nn)]) (n := 2) (Nat.le_of_ble_eq_true rfl)
  rw [lg_entry_eq]
  generalize (lg_sl ([.ref h, .int (iZ nn)]) ++ List.replicate (2 - (lg_sl ([.ref h, .int (iZ nn)])).length) Slot.unset).toArray = ls at hl ⊢
  replace hl : lv_has ls 2 [(0, .ref h), (1, .int (iZ nn))] := hl
  have hD : va_D (mA h a) (mW C h a M) := mD_own hN
  have hA : ∀ q, mA h a q → mA h a q := fun _ h9 => h9
  generalize hHe : s.heap = H at hP ⊢
  have hS : va_S (mA h a) s.heap H [] := by rw [hHe]; exact va_S.rf
  generalize hlo : ([] : List Loc) = locs at hS ⊢
  clear hHe hlo
  have hnw := mI_now hI
  refine lv_iload_n hx hb dX8_hours_0 rfl (lv_at hl 1 rfl) ?_
  refine lv_iconst (v := iZ 1) hx hb dX8_hours_1 (by decide) ?_
  refine lv_bipush (v := iZ 9) hx hb dX8_hours_2 (by decide) ?_
  refine mq_cs (As := [.int (iZ nn), .int (iZ 1), .int (iZ 9)]) (rest := []) ⟨hx, hb, hml, hown, hts⟩ (C_in l nn 1 9 (by omega) (by omega) (by omega)) (va_cwS 3 hts gX8_hours_X8_in rfl rfl rfl (by decide +kernel) ⟨Nat.le_of_ble_eq_true rfl, Nat.le_of_ble_eq_true rfl⟩) rfl rfl hl.1 (Nat.le_of_ble_eq_true rfl) ⟨Nat.le_of_ble_eq_true rfl, Nat.le_of_ble_eq_true rfl⟩ dX8_hours_4 ?_
  refine z_ifb_ne (P := (1 ≤ nn ∧ nn ≤ 9)) (tgt := 12) hx hb dX8_hours_7 (by decide) (fun c1 => ?_) (fun c1 => ?_)
  · refine lv_aload_n hx hb dX8_hours_12 rfl (lv_at hl 0 rfl) ?_
    refine mq_get hx hb hts hin hown hK hP 19 (by decide) (hts (.fieldLink RX8 44 "WordFletchersModel" "now" "[I") (List.mem_cons_of_mem _ (List.mem_append_left _ (List.mem_of_getElem? (i := 0) rfl)))) rfl dX8_hours_13 ?_
    refine lv_iconst (v := iZ 0) hx hb dX8_hours_16 (by decide) ?_
    refine mq_iald hx hb hK hP 19 12 (n := 29) rfl (by decide) 0 rfl (by omega) dX8_hours_17 ?_
    refine lv_iload_n hx hb dX8_hours_18 rfl (lv_at hl 1 rfl) ?_
    refine W.eq (g2 := F0 m 19 ls [.int (iZ nn), .int (iZ (M 19 0))]) rfl ?_
    refine z_iadd hx hb dX8_hours_19 ?_
    refine lv_sipush (v := iZ 999) hx hb dX8_hours_20 (by decide) ?_
    refine z_icmp_le (x := ((M 19 0) + nn)) (y := 999) (tgt := 29) hx hb (by omega) (by omega) dX8_hours_23 (by decide) (fun c2 => ?_) (fun c2 => ?_)
    · refine lv_aload_n hx hb dX8_hours_29 rfl (lv_at hl 0 rfl) ?_
      refine mq_cv (As := []) (rest := []) ⟨hx, hb, hml, hown, hts⟩ hK hP hD hS hA (C_know l D C h a M  hI (hD.weaken (fun _ _ _ _ => trivial))) (cwV 0 hts gX8_hours_X8_know rfl rfl rfl (by decide +kernel) ⟨Nat.le_of_ble_eq_true rfl, Nat.le_of_ble_eq_true rfl⟩) rfl rfl hl.1 (Nat.le_of_ble_eq_true rfl) ⟨Nat.le_of_ble_eq_true rfl, Nat.le_of_ble_eq_true rfl⟩ dX8_hours_30 (fun H locs hP hD hS => ?_)
      obtain ⟨M3, hM3⟩ : ∃ z : Nat → Nat → Int, z = (f_know M) := ⟨_, rfl⟩
      rw [← hM3] at hP hD
      have e1 : M3 19 = M 19 := by rw [hM3]; exact f_know_o M (by decide) (by decide)
      have e2 := congrFun e1 0
      have e3 := congrFun e1 1
      refine lv_aload_n hx hb dX8_hours_33 rfl (lv_at hl 0 rfl) ?_
      refine mq_get hx hb hts hin hown hK hP 19 (by decide) (hts (.fieldLink RX8 44 "WordFletchersModel" "now" "[I") (List.mem_cons_of_mem _ (List.mem_append_left _ (List.mem_of_getElem? (i := 0) rfl)))) rfl dX8_hours_34 ?_
      refine lv_iconst (v := iZ 0) hx hb dX8_hours_37 (by decide) ?_
      refine lv_dup2_11 hx hb dX8_hours_38 rfl rfl ?_
      refine mq_iald hx hb hK hP 19 12 (n := 29) rfl (by decide) 0 rfl (by omega) dX8_hours_39 ?_
      refine lv_iload_n hx hb dX8_hours_40 rfl (lv_at hl 1 rfl) ?_
      refine z_iadd hx hb dX8_hours_41 ?_
      refine W.eq (g2 := F0 m 42 ls [.int (iZ ((M3 19 0) + nn)), .int (iZ 0), .ref (a 19)]) rfl ?_
      refine mq_iast hx hb hK hP hD hS 19 12 (n := 29) rfl (fun k9 => mS_19 C h a _ k9 _) (by decide) 0 rfl (by omega) dX8_hours_42 (fun H locs hP hD hS => ?_)
      obtain ⟨M4, hM4⟩ : ∃ z : Nat → Nat → Int, z = (mU M3 19 0 ((M3 19 0) + nn)) := ⟨_, rfl⟩
      rw [← hM4] at hP hD
      refine lv_aload_n hx hb dX8_hours_43 rfl (lv_at hl 0 rfl) ?_
      refine mq_get hx hb hts hin hown hK hP 19 (by decide) (hts (.fieldLink RX8 44 "WordFletchersModel" "now" "[I") (List.mem_cons_of_mem _ (List.mem_append_left _ (List.mem_of_getElem? (i := 0) rfl)))) rfl dX8_hours_44 ?_
      refine lv_iconst (v := iZ 0) hx hb dX8_hours_47 (by decide) ?_
      refine mq_iald hx hb hK hP 19 12 (n := 29) rfl (by decide) 0 rfl (by omega) dX8_hours_48 ?_
      exact mq_retM hx hb hK hP hS hr rfl (by subst_vars; unfold s_hours; first | omega | (rw [if_neg (by omega), if_neg (by omega)]; exact congrArg (fun z => z + nn) e2) | omega) (by subst_vars; unfold f_hours; first | rfl | omega | (rw [if_pos (by omega)] <;> (first | rfl | omega | (rw [if_pos (by omega)] <;> (first | rfl | omega)) | (rw [if_neg (by omega)] <;> (first | rfl | omega)))) | (rw [if_neg (by omega)] <;> (first | rfl | omega | (rw [if_pos (by omega)] <;> (first | rfl | omega)) | (rw [if_neg (by omega)] <;> (first | rfl | omega))))) dX8_hours_49 hlocks
    · refine lv_bipush (v := iZ (-2)) hx hb dX8_hours_26 (by decide) ?_
      exact mq_retM hx hb hK hP hS hr rfl (by subst_vars; unfold s_hours; first | omega | (rw [if_neg (by omega), if_neg (by omega)]; exact congrArg (fun z => z + nn) e2) | omega) (by subst_vars; unfold f_hours; first | rfl | omega | (rw [if_pos (by omega)] <;> (first | rfl | omega | (rw [if_pos (by omega)] <;> (first | rfl | omega)) | (rw [if_neg (by omega)] <;> (first | rfl | omega)))) | (rw [if_neg (by omega)] <;> (first | rfl | omega | (rw [if_pos (by omega)] <;> (first | rfl | omega)) | (rw [if_neg (by omega)] <;> (first | rfl | omega))))) dX8_hours_28 hlocks
  · refine lv_iconst (v := iZ (-1)) hx hb dX8_hours_10 (by decide) ?_
    exact mq_retM hx hb hK hP hS hr rfl (by subst_vars; unfold s_hours; first | omega | (rw [if_neg (by omega), if_neg (by omega)]; exact congrArg (fun z => z + nn) e2) | omega) (by subst_vars; unfold f_hours; first | rfl | omega | (rw [if_pos (by omega)] <;> (first | rfl | omega | (rw [if_pos (by omega)] <;> (first | rfl | omega)) | (rw [if_neg (by omega)] <;> (first | rfl | omega)))) | (rw [if_neg (by omega)] <;> (first | rfl | omega | (rw [if_pos (by omega)] <;> (first | rfl | omega)) | (rw [if_neg (by omega)] <;> (first | rfl | omega))))) dX8_hours_11 hlocks
set_option maxHeartbeats 4000000 in
set_option maxRecDepth 100000 in
theorem C_damps (l : Launch) (D : va_G) (C : mC) (h : Nat) (a : Nat → Nat) (M : Nat → Nat → Int) (nn : Int) (hI : mI M) (h1 : -2147483648 ≤ nn ∧ nn < 2147483648) (hN : va_D (fun _ => True) (mW C h a M)) : Met l yX8_damps wsX8_damps ({ frames := 1, cells := 0, slots := 0, locals := 22 }) (va_Pc [.ref h, .int (iZ nn)] (mOk D C h a M)) (va_Qi (fun r (_ : Unit) => r = iZ (s_damps M nn)) (fun _ t => mOk D C h a (f_damps M nn) t) (mA h a)) 0 0 (mA h a) := by
  refine Met.ofW (cc := cX8_damps) (maxL := 3) (ret := (some .int)) (by decide) rfl ?_
  intro p e s m args below meth c s₁ B hml hv
  obtain ⟨rfl, hP, hK⟩ := hv
  have hx := B.exec
  have hb := B.bytes
  have hr := B.returns
  have hts := atoms_spec (ws := wsX8_damps) B.pre
  have hown : s.vm.findClass RX8 = some m.cls := findClass_of_methodNamed B.named
  have hlocks := B.notSynchronized
  have hin : ∀ w ∈ wsX80, w ∈ wsX8_damps := fun _ w_h => (List.mem_cons_of_mem _ (List.mem_append_right _ w_h))
  have hl := lv_entry ([.ref h, .int (iZ nn)]) (n := 3) (Nat.le_of_ble_eq_true rfl)
  rw [lg_entry_eq]
  generalize (lg_sl ([.ref h, .int (iZ nn)]) ++ List.replicate (3 - (lg_sl ([.ref h, .int (iZ nn)])).length) Slot.unset).toArray = ls at hl ⊢
  replace hl : lv_has ls 3 [(0, .ref h), (1, .int (iZ nn))] := hl
  have hD : va_D (mA h a) (mW C h a M) := mD_own hN
  have hA : ∀ q, mA h a q → mA h a q := fun _ h9 => h9
  generalize hHe : s.heap = H at hP ⊢
  have hS : va_S (mA h a) s.heap H [] := by rw [hHe]; exact va_S.rf
  generalize hlo : ([] : List Loc) = locs at hS ⊢
  clear hHe hlo
  have hnw := mI_now hI
  refine lv_iload_n hx hb dX8_damps_0 rfl (lv_at hl 1 rfl) ?_
  refine lv_iconst (v := iZ 0) hx hb dX8_damps_1 (by decide) ?_
  refine W.eq (g2 := F0 m 2 ls [.int (iZ 0), .int (iZ nn)]) rfl ?_
  refine lv_iconst (v := iZ 5) hx hb dX8_damps_2 (by decide) ?_
  refine mq_cs (As := [.int (iZ nn), .int (iZ 0), .int (iZ 5)]) (rest := []) ⟨hx, hb, hml, hown, hts⟩ (C_in l nn 0 5 (by omega) (by omega) (by omega)) (va_cwS 3 hts gX8_damps_X8_in rfl rfl rfl (by decide +kernel) ⟨Nat.le_of_ble_eq_true rfl, Nat.le_of_ble_eq_true rfl⟩) rfl rfl hl.1 (Nat.le_of_ble_eq_true rfl) ⟨Nat.le_of_ble_eq_true rfl, Nat.le_of_ble_eq_true rfl⟩ dX8_damps_3 ?_
  refine z_ifb_ne (P := (0 ≤ nn ∧ nn ≤ 5)) (tgt := 11) hx hb dX8_damps_6 (by decide) (fun c1 => ?_) (fun c1 => ?_)
  · refine lv_aload_n hx hb dX8_damps_11 rfl (lv_at hl 0 rfl) ?_
    refine mq_get hx hb hts hin hown hK hP 19 (by decide) (hts (.fieldLink RX8 44 "WordFletchersModel" "now" "[I") (List.mem_cons_of_mem _ (List.mem_append_left _ (List.mem_of_getElem? (i := 0) rfl)))) rfl dX8_damps_12 ?_
    refine lv_iconst (v := iZ 1) hx hb dX8_damps_15 (by decide) ?_
    refine mq_iald hx hb hK hP 19 12 (n := 29) rfl (by decide) 1 rfl (by omega) dX8_damps_16 ?_
    refine lv_istore_n (lv' := [(2, .int (iZ (M 19 1))), (0, .ref h), (1, .int (iZ nn))]) hx hb dX8_damps_17 rfl hl (by decide) rfl (fun ls hl => ?_)
    refine lv_iload_n hx hb dX8_damps_18 rfl (lv_at hl 0 rfl) ?_
    refine lv_iload_n hx hb dX8_damps_19 rfl (lv_at hl 2 rfl) ?_
    refine z_icmp_ne (x := (M 19 1)) (y := nn) (tgt := 26) hx hb (by omega) (by omega) dX8_damps_20 (by decide) (fun c2 => ?_) (fun c2 => ?_)
    · refine lv_aload_n hx hb dX8_damps_26 rfl (lv_at hl 1 rfl) ?_
      refine W.eq (g2 := F0 m 27 ls [.ref h]) rfl ?_
      refine mq_cv (As := []) (rest := []) ⟨hx, hb, hml, hown, hts⟩ hK hP hD hS hA (C_know l D C h a M  hI (hD.weaken (fun _ _ _ _ => trivial))) (cwV 0 hts gX8_damps_X8_know rfl rfl rfl (by decide +kernel) ⟨Nat.le_of_ble_eq_true rfl, Nat.le_of_ble_eq_true rfl⟩) rfl rfl hl.1 (Nat.le_of_ble_eq_true rfl) ⟨Nat.le_of_ble_eq_true rfl, Nat.le_of_ble_eq_true rfl⟩ dX8_damps_27 (fun H locs hP hD hS => ?_)
      obtain ⟨M3, hM3⟩ : ∃ z : Nat → Nat → Int, z = (f_know M) := ⟨_, rfl⟩
      rw [← hM3] at hP hD
      refine lv_aload_n hx hb dX8_damps_30 rfl (lv_at hl 1 rfl) ?_
      refine mq_get hx hb hts hin hown hK hP 19 (by decide) (hts (.fieldLink RX8 44 "WordFletchersModel" "now" "[I") (List.mem_cons_of_mem _ (List.mem_append_left _ (List.mem_of_getElem? (i := 0) rfl)))) rfl dX8_damps_31 ?_
      refine lv_iconst (v := iZ 1) hx hb dX8_damps_34 (by decide) ?_
      refine lv_iload_n hx hb dX8_damps_35 rfl (lv_at hl 2 rfl) ?_
      refine mq_iast hx hb hK hP hD hS 19 12 (n := 29) rfl (fun k9 => mS_19 C h a _ k9 _) (by decide) 1 rfl (by omega) dX8_damps_36 (fun H locs hP hD hS => ?_)
      obtain ⟨M4, hM4⟩ : ∃ z : Nat → Nat → Int, z = (mU M3 19 1 nn) := ⟨_, rfl⟩
      rw [← hM4] at hP hD
      refine lv_iload_n hx hb dX8_damps_37 rfl (lv_at hl 0 rfl) ?_
      exact mq_retM hx hb hK hP hS hr rfl (by subst_vars; unfold s_damps; first | rfl | omega | (rw [if_pos (by omega)] <;> (first | rfl | omega | (rw [if_pos (by omega)] <;> (first | rfl | omega)) | (rw [if_neg (by omega)] <;> (first | rfl | omega)))) | (rw [if_neg (by omega)] <;> (first | rfl | omega | (rw [if_pos (by omega)] <;> (first | rfl | omega)) | (rw [if_neg (by omega)] <;> (first | rfl | omega))))) (by subst_vars; unfold f_damps; first | (rw [if_pos (by omega)]; done) | (rw [if_neg (by omega), if_pos (by omega)]; done) | (rw [if_neg (by omega), if_neg (by omega)]; done)) dX8_damps_38 hlocks
    · refine lv_bipush (v := iZ (-2)) hx hb dX8_damps_23 (by decide) ?_
      exact mq_retM hx hb hK hP hS hr rfl (by subst_vars; unfold s_damps; first | rfl | omega | (rw [if_pos (by omega)] <;> (first | rfl | omega | (rw [if_pos (by omega)] <;> (first | rfl | omega)) | (rw [if_neg (by omega)] <;> (first | rfl | omega)))) | (rw [if_neg (by omega)] <;> (first | rfl | omega | (rw [if_pos (by omega)] <;> (first | rfl | omega)) | (rw [if_neg (by omega)] <;> (first | rfl | omega))))) (by subst_vars; unfold f_damps; first | (rw [if_pos (by omega)]; done) | (rw [if_neg (by omega), if_pos (by omega)]; done) | (rw [if_neg (by omega), if_neg (by omega)]; done)) dX8_damps_25 hlocks
  · refine lv_iconst (v := iZ (-1)) hx hb dX8_damps_9 (by decide) ?_
    exact mq_retM hx hb hK hP hS hr rfl (by subst_vars; unfold s_damps; first | rfl | omega | (rw [if_pos (by omega)] <;> (first | rfl | omega | (rw [if_pos (by omega)] <;> (first | rfl | omega)) | (rw [if_neg (by omega)] <;> (first | rfl | omega)))) | (rw [if_neg (by omega)] <;> (first | rfl | omega | (rw [if_pos (by omega)] <;> (first | rfl | omega)) | (rw [if_neg (by omega)] <;> (first | rfl | omega))))) (by subst_vars; unfold f_damps; first | (rw [if_pos (by omega)]; done) | (rw [if_neg (by omega), if_pos (by omega)]; done) | (rw [if_neg (by omega), if_neg (by omega)]; done)) dX8_damps_10 hlocks
set_option maxHeartbeats 4000000 in
set_option maxRecDepth 100000 in
theorem C_forget (l : Launch) (D : va_G) (C : mC) (h : Nat) (a : Nat → Nat) (M : Nat → Nat → Int) (hN : va_D (fun _ => True) (mW C h a M)) : Met l yX8_forget wsX8_forget ({ frames := 0, cells := 0, slots := 0, locals := 0 }) (va_Pc [.ref h] (mOk D C h a M)) (va_Qi (fun r (_ : Unit) => r = iZ (M 28 0)) (fun _ t => mOk D C h a (mU M 28 0 0) t) (mA h a)) 0 0 (mA h a) := by
  refine Met.ofW (cc := cX8_forget) (maxL := 2) (ret := (some .int)) (by decide) rfl ?_
  intro p e s m args below meth c s₁ B hml hv
  obtain ⟨rfl, hP, hK⟩ := hv
  have hx := B.exec
  have hb := B.bytes
  have hr := B.returns
  have hts := atoms_spec (ws := wsX8_forget) B.pre
  have hown : s.vm.findClass RX8 = some m.cls := findClass_of_methodNamed B.named
  have hlocks := B.notSynchronized
  have hin : ∀ w ∈ wsX80, w ∈ wsX8_forget := fun _ w_h => (List.mem_cons_of_mem _ (List.mem_append_right _ w_h))
  have hl := lv_entry ([.ref h]) (n := 2) (Nat.le_of_ble_eq_true rfl)
  rw [lg_entry_eq]
  generalize (lg_sl ([.ref h]) ++ List.replicate (2 - (lg_sl ([.ref h])).length) Slot.unset).toArray = ls at hl ⊢
  replace hl : lv_has ls 2 [(0, .ref h)] := hl
  have hD : va_D (mA h a) (mW C h a M) := mD_own hN
  have hA : ∀ q, mA h a q → mA h a q := fun _ h9 => h9
  generalize hHe : s.heap = H at hP ⊢
  have hS : va_S (mA h a) s.heap H [] := by rw [hHe]; exact va_S.rf
  generalize hlo : ([] : List Loc) = locs at hS ⊢
  clear hHe hlo
  refine W.eq (g2 := F0 m 0 ls []) rfl ?_
  refine lv_aload_n hx hb dX8_forget_0 rfl (lv_at hl 0 rfl) ?_
  refine mq_get hx hb hts hin hown hK hP 28 (by decide) (hts (.fieldLink RX8 131 "WordFletchersModel" "sights" "I") (List.mem_cons_of_mem _ (List.mem_append_left _ (List.mem_of_getElem? (i := 0) rfl)))) rfl dX8_forget_1 ?_
  refine lv_istore_n (lv' := [(1, .int (iZ (M 28 0))), (0, .ref h)]) hx hb dX8_forget_4 rfl hl (by decide) rfl (fun ls hl => ?_)
  refine lv_aload_n hx hb dX8_forget_5 rfl (lv_at hl 1 rfl) ?_
  refine lv_iconst (v := iZ 0) hx hb dX8_forget_6 (by decide) ?_
  refine mq_put (ty := .int) hx hb hts hin hown hK hP hD hS 28 (by decide) (hts (.fieldLink RX8 131 "WordFletchersModel" "sights" "I") (List.mem_cons_of_mem _ (List.mem_append_left _ (List.mem_of_getElem? (i := 0) rfl)))) rfl (by decide +kernel) rfl rfl (mS_28 C h a _ _) dX8_forget_7 (fun H locs hP hD hS => ?_)
  obtain ⟨M1, hM1⟩ : ∃ z : Nat → Nat → Int, z = (mU M 28 0 0) := ⟨_, rfl⟩
  rw [← hM1] at hP hD
  refine lv_iload_n hx hb dX8_forget_10 rfl (lv_at hl 0 rfl) ?_
  exact mq_retM hx hb hK hP hS hr rfl rfl (by subst_vars; rfl) dX8_forget_11 hlocks
set_option maxHeartbeats 4000000 in
set_option maxRecDepth 100000 in
theorem C_saw (l : Launch) (D : va_G) (C : mC) (h : Nat) (a : Nat → Nat) (M : Nat → Nat → Int) (sy sp : Int) (hI : mI M) (h1 : -2147483648 ≤ sy ∧ sy < 2147483648) (h2 : -2147483648 ≤ sp ∧ sp < 2147483648) (hN : va_D (fun _ => True) (mW C h a M)) : Met l yX8_saw wsX8_saw ({ frames := 2, cells := 0, slots := 0, locals := 43 }) (va_Pc [.ref h, .int (iZ sy), .int (iZ sp)] (mOk D C h a M)) (va_Qi (fun r (_ : Unit) => r = iZ (s_saw M sy sp)) (fun _ t => mOk D C h a (f_saw M sy sp) t) (mA h a)) 0 0 (mA h a) := by
  refine Met.ofW (cc := cX8_saw) (maxL := 3) (ret := (some .int)) (by decide) rfl ?_
  intro p e s m args below meth c s₁ B hml hv
  obtain ⟨rfl, hP, hK⟩ := hv
  have hx := B.exec
  have hb := B.bytes
  have hr := B.returns
  have hts := atoms_spec (ws := wsX8_saw) B.pre
  have hown : s.vm.findClass RX8 = some m.cls := findClass_of_methodNamed B.named
  have hlocks := B.notSynchronized
  have hin : ∀ w ∈ wsX80, w ∈ wsX8_saw := fun _ w_h => (List.mem_cons_of_mem _ (List.mem_append_right _ w_h))
  have hl := lv_entry ([.ref h, .int (iZ sy), .int (iZ sp)]) (n := 3) (Nat.le_of_ble_eq_true rfl)
  rw [lg_entry_eq]
  generalize (lg_sl ([.ref h, .int (iZ sy), .int (iZ sp)]) ++ List.replicate (3 - (lg_sl ([.ref h, .int (iZ sy), .int (iZ sp)])).length) Slot.unset).toArray = ls at hl ⊢
  replace hl : lv_has ls 3 [(0, .ref h), (1, .int (iZ sy)), (2, .int (iZ sp))] := hl
  have hD : va_D (mA h a) (mW C h a M) := mD_own hN
  have hA : ∀ q, mA h a q → mA h a q := fun _ h9 => h9
  generalize hHe : s.heap = H at hP ⊢
  have hS : va_S (mA h a) s.heap H [] := by rw [hHe]; exact va_S.rf
  generalize hlo : ([] : List Loc) = locs at hS ⊢
  clear hHe hlo
  have hnw := mI_now hI
  refine lv_aload_n hx hb dX8_saw_0 rfl (lv_at hl 0 rfl) ?_
  refine lv_iload_n hx hb dX8_saw_1 rfl (lv_at hl 1 rfl) ?_
  refine mq_ci (As := [.int (iZ sy)]) (rest := []) ⟨hx, hb, hml, hown, hts⟩ hK hP (C_isSaying l D C h a M sy hI (by omega)) (cwV 1 hts gX8_saw_X8_isSaying rfl rfl rfl (by decide +kernel) ⟨Nat.le_of_ble_eq_true rfl, Nat.le_of_ble_eq_true rfl⟩) rfl rfl hl.1 (Nat.le_of_ble_eq_true rfl) ⟨Nat.le_of_ble_eq_true rfl, Nat.le_of_ble_eq_true rfl⟩ dX8_saw_2 ?_
  refine z_ifb_eq (P := (0 ≤ sy ∧ sy < M 5 0)) (tgt := 18) hx hb dX8_saw_5 (by decide) (fun c1 => ?_) (fun c1 => ?_)
  · refine W.eq (g2 := F0 m 18 ls []) rfl ?_
    refine lv_iconst (v := iZ (-1)) hx hb dX8_saw_18 (by decide) ?_
    exact mq_retM hx hb hK hP hS hr rfl (by subst_vars; unfold s_saw; first | rfl | omega | (rw [if_pos (by omega)] <;> (first | rfl | omega | (rw [if_pos (by omega)] <;> (first | rfl | omega)) | (rw [if_neg (by omega)] <;> (first | rfl | omega)))) | (rw [if_neg (by omega)] <;> (first | rfl | omega | (rw [if_pos (by omega)] <;> (first | rfl | omega)) | (rw [if_neg (by omega)] <;> (first | rfl | omega))))) (by subst_vars; unfold f_saw; first | rfl | omega | (rw [if_pos (by omega)] <;> (first | rfl | omega | (rw [if_pos (by omega)] <;> (first | rfl | omega)) | (rw [if_neg (by omega)] <;> (first | rfl | omega)))) | (rw [if_neg (by omega)] <;> (first | rfl | omega | (rw [if_pos (by omega)] <;> (first | rfl | omega)) | (rw [if_neg (by omega)] <;> (first | rfl | omega))))) dX8_saw_19 hlocks
  · refine lv_iload_n hx hb dX8_saw_8 rfl (lv_at hl 2 rfl) ?_
    refine lv_iconst (v := iZ 0) hx hb dX8_saw_9 (by decide) ?_
    refine lv_bipush (v := iZ 30) hx hb dX8_saw_10 (by decide) ?_
    refine mq_cs (As := [.int (iZ sp), .int (iZ 0), .int (iZ 30)]) (rest := []) ⟨hx, hb, hml, hown, hts⟩ (C_in l sp 0 30 (by omega) (by omega) (by omega)) (va_cwS 3 hts gX8_saw_X8_in rfl rfl rfl (by decide +kernel) ⟨Nat.le_of_ble_eq_true rfl, Nat.le_of_ble_eq_true rfl⟩) rfl rfl hl.1 (Nat.le_of_ble_eq_true rfl) ⟨Nat.le_of_ble_eq_true rfl, Nat.le_of_ble_eq_true rfl⟩ dX8_saw_12 ?_
    refine z_ifb_ne (P := (0 ≤ sp ∧ sp ≤ 30)) (tgt := 20) hx hb dX8_saw_15 (by decide) (fun c2 => ?_) (fun c2 => ?_)
    · refine lv_aload_n hx hb dX8_saw_20 rfl (lv_at hl 0 rfl) ?_
      refine mq_get hx hb hts hin hown hK hP 28 (by decide) (hts (.fieldLink RX8 131 "WordFletchersModel" "sights" "I") (List.mem_cons_of_mem _ (List.mem_append_left _ (List.mem_of_getElem? (i := 0) rfl)))) rfl dX8_saw_21 ?_
      refine lv_iconst (v := iZ 4) hx hb dX8_saw_24 (by decide) ?_
      refine z_icmp_ne (x := (M 28 0)) (y := 4) (tgt := 31) hx hb (by omega) (by omega) dX8_saw_25 (by decide) (fun c3 => ?_) (fun c3 => ?_)
      · refine lv_aload_n hx hb dX8_saw_31 rfl (lv_at hl 0 rfl) ?_
        refine W.eq (g2 := F0 m 32 ls [.ref h]) rfl ?_
        refine mq_get hx hb hts hin hown hK hP 26 (by decide) (hts (.fieldLink RX8 66 "WordFletchersModel" "sightOf" "[I") (List.mem_cons_of_mem _ (List.mem_append_left _ (List.mem_of_getElem? (i := 1) rfl)))) rfl dX8_saw_32 ?_
        refine lv_aload_n hx hb dX8_saw_35 rfl (lv_at hl 0 rfl) ?_
        refine mq_get hx hb hts hin hown hK hP 28 (by decide) (hts (.fieldLink RX8 131 "WordFletchersModel" "sights" "I") (List.mem_cons_of_mem _ (List.mem_append_left _ (List.mem_of_getElem? (i := 0) rfl)))) rfl dX8_saw_36 ?_
        refine lv_iload_n hx hb dX8_saw_39 rfl (lv_at hl 1 rfl) ?_
        refine mq_iast hx hb hK hP hD hS 26 19 (n := 4) rfl (fun k9 => mS_26 C h a _ k9 _) (by decide) (Int.toNat (M 28 0)) rfl (by omega) dX8_saw_40 (fun H locs hP hD hS => ?_)
        obtain ⟨M4, hM4⟩ : ∃ z : Nat → Nat → Int, z = (mU M 26 (Int.toNat (M 28 0)) sy) := ⟨_, rfl⟩
        rw [← hM4] at hP hD
        have e1 : M4 28 0 = M 28 0 := by rw [hM4]; rfl
        refine lv_aload_n hx hb dX8_saw_41 rfl (lv_at hl 0 rfl) ?_
        refine mq_get hx hb hts hin hown hK hP 27 (by decide) (hts (.fieldLink RX8 69 "WordFletchersModel" "sightAt" "[I") (List.mem_cons_of_mem _ (List.mem_append_left _ (List.mem_of_getElem? (i := 2) rfl)))) rfl dX8_saw_42 ?_
        refine lv_aload_n hx hb dX8_saw_45 rfl (lv_at hl 0 rfl) ?_
        refine mq_get hx hb hts hin hown hK hP 28 (by decide) (hts (.fieldLink RX8 131 "WordFletchersModel" "sights" "I") (List.mem_cons_of_mem _ (List.mem_append_left _ (List.mem_of_getElem? (i := 0) rfl)))) rfl dX8_saw_46 ?_
        refine lv_iload_n hx hb dX8_saw_49 rfl (lv_at hl 2 rfl) ?_
        refine mq_iast hx hb hK hP hD hS 27 20 (n := 4) rfl (fun k9 => mS_27 C h a _ k9 _) (by decide) (Int.toNat (M4 28 0)) rfl (by omega) dX8_saw_50 (fun H locs hP hD hS => ?_)
        obtain ⟨M5, hM5⟩ : ∃ z : Nat → Nat → Int, z = (mU M4 27 (Int.toNat (M4 28 0)) sp) := ⟨_, rfl⟩
        rw [← hM5] at hP hD
        have e1 : M5 28 0 = M 28 0 := by rw [hM5]; exact e1
        refine lv_aload_n hx hb dX8_saw_51 rfl (lv_at hl 0 rfl) ?_
        refine W.eq (g2 := F0 m 52 ls [.ref h]) rfl ?_
        refine lv_dup hx hb dX8_saw_52 rfl ?_
        refine mq_get hx hb hts hin hown hK hP 28 (by decide) (hts (.fieldLink RX8 131 "WordFletchersModel" "sights" "I") (List.mem_cons_of_mem _ (List.mem_append_left _ (List.mem_of_getElem? (i := 0) rfl)))) rfl dX8_saw_53 ?_
        refine lv_iconst (v := iZ 1) hx hb dX8_saw_56 (by decide) ?_
        refine z_iadd hx hb dX8_saw_57 ?_
        refine mq_put (ty := .int) hx hb hts hin hown hK hP hD hS 28 (by decide) (hts (.fieldLink RX8 131 "WordFletchersModel" "sights" "I") (List.mem_cons_of_mem _ (List.mem_append_left _ (List.mem_of_getElem? (i := 0) rfl)))) rfl (by decide +kernel) rfl rfl (mS_28 C h a _ _) dX8_saw_58 (fun H locs hP hD hS => ?_)
        obtain ⟨M6, hM6⟩ : ∃ z : Nat → Nat → Int, z = (mU M5 28 0 ((M5 28 0) + 1)) := ⟨_, rfl⟩
        rw [← hM6] at hP hD
        refine lv_aload_n hx hb dX8_saw_61 rfl (lv_at hl 0 rfl) ?_
        refine mq_get hx hb hts hin hown hK hP 28 (by decide) (hts (.fieldLink RX8 131 "WordFletchersModel" "sights" "I") (List.mem_cons_of_mem _ (List.mem_append_left _ (List.mem_of_getElem? (i := 0) rfl)))) rfl dX8_saw_62 ?_
        exact mq_retM hx hb hK hP hS hr rfl (by subst_vars; unfold s_saw; first | rfl | omega | (rw [if_pos (by omega)] <;> (first | rfl | omega | (rw [if_pos (by omega)] <;> (first | rfl | omega)) | (rw [if_neg (by omega)] <;> (first | rfl | omega)))) | (rw [if_neg (by omega)] <;> (first | rfl | omega | (rw [if_pos (by omega)] <;> (first | rfl | omega)) | (rw [if_neg (by omega)] <;> (first | rfl | omega))))) (by subst_vars; unfold f_saw; first | rfl | omega | (rw [if_pos (by omega)] <;> (first | rfl | omega | (rw [if_pos (by omega)] <;> (first | rfl | omega)) | (rw [if_neg (by omega)] <;> (first | rfl | omega)))) | (rw [if_neg (by omega)] <;> (first | rfl | omega | (rw [if_pos (by omega)] <;> (first | rfl | omega)) | (rw [if_neg (by omega)] <;> (first | rfl | omega))))) dX8_saw_65 hlocks
      · refine lv_bipush (v := iZ (-3)) hx hb dX8_saw_28 (by decide) ?_
        exact mq_retM hx hb hK hP hS hr rfl (by subst_vars; unfold s_saw; first | rfl | omega | (rw [if_pos (by omega)] <;> (first | rfl | omega | (rw [if_pos (by omega)] <;> (first | rfl | omega)) | (rw [if_neg (by omega)] <;> (first | rfl | omega)))) | (rw [if_neg (by omega)] <;> (first | rfl | omega | (rw [if_pos (by omega)] <;> (first | rfl | omega)) | (rw [if_neg (by omega)] <;> (first | rfl | omega))))) (by subst_vars; unfold f_saw; first | rfl | omega | (rw [if_pos (by omega)] <;> (first | rfl | omega | (rw [if_pos (by omega)] <;> (first | rfl | omega)) | (rw [if_neg (by omega)] <;> (first | rfl | omega)))) | (rw [if_neg (by omega)] <;> (first | rfl | omega | (rw [if_pos (by omega)] <;> (first | rfl | omega)) | (rw [if_neg (by omega)] <;> (first | rfl | omega))))) dX8_saw_30 hlocks
    · refine lv_iconst (v := iZ (-1)) hx hb dX8_saw_18 (by decide) ?_
      exact mq_retM hx hb hK hP hS hr rfl (by subst_vars; unfold s_saw; first | rfl | omega | (rw [if_pos (by omega)] <;> (first | rfl | omega | (rw [if_pos (by omega)] <;> (first | rfl | omega)) | (rw [if_neg (by omega)] <;> (first | rfl | omega)))) | (rw [if_neg (by omega)] <;> (first | rfl | omega | (rw [if_pos (by omega)] <;> (first | rfl | omega)) | (rw [if_neg (by omega)] <;> (first | rfl | omega))))) (by subst_vars; unfold f_saw; first | rfl | omega | (rw [if_pos (by omega)] <;> (first | rfl | omega | (rw [if_pos (by omega)] <;> (first | rfl | omega)) | (rw [if_neg (by omega)] <;> (first | rfl | omega)))) | (rw [if_neg (by omega)] <;> (first | rfl | omega | (rw [if_pos (by omega)] <;> (first | rfl | omega)) | (rw [if_neg (by omega)] <;> (first | rfl | omega))))) dX8_saw_19 hlocks
end
section
set_option maxHeartbeats 4000000 in
set_option maxRecDepth 100000 in
theorem C_plucks (l : Launch) (D : va_G) (C : mC) (h : Nat) (a : Nat → Nat) (M : Nat → Nat → Int) (fe nn : Int) (hI : mI M) (h1 : -2147483648 ≤ fe ∧ fe < 2147483648) (h2 : -2147483648 ≤ nn ∧ nn < 2147483648) (hN : va_D (fun _ => True) (mW C h a M)) : Met l yX8_plucks wsX8_plucks ({ frames := 1, cells := 0, slots := 0, locals := 22 }) (va_Pc [.ref h, .int (iZ fe), .int (iZ nn)] (mOk D C h a M)) (va_Qi (fun r (_ : Unit) => r = iZ (s_plucks M fe nn)) (fun _ t => mOk D C h a (f_plucks M fe nn) t) (mA h a)) 0 0 (mA h a) := by
  refine Met.ofW (cc := cX8_plucks) (maxL := 4) (ret := (some .int)) (by decide) rfl ?_
  intro p e s m args below meth c s₁ B hml hv
  obtain ⟨rfl, hP, hK⟩ := hv
  have hx := B.exec
  have hb := B.bytes
  have hr := B.returns
  have hts := atoms_spec (ws := wsX8_plucks) B.pre
  have hown : s.vm.findClass RX8 = some m.cls := findClass_of_methodNamed B.named
  have hlocks := B.notSynchronized
  have hin : ∀ w ∈ wsX80, w ∈ wsX8_plucks := fun _ w_h => (List.mem_cons_of_mem _ (List.mem_append_right _ w_h))
  have hl := lv_entry ([.ref h, .int (iZ fe), .int (iZ nn)]) (n := 4) (Nat.le_of_ble_eq_true rfl)
  rw [lg_entry_eq]
  generalize (lg_sl ([.ref h, .int (iZ fe), .int (iZ nn)]) ++ List.replicate (4 - (lg_sl ([.ref h, .int (iZ fe), .int (iZ nn)])).length) Slot.unset).toArray = ls at hl ⊢
  replace hl : lv_has ls 4 [(0, .ref h), (1, .int (iZ fe)), (2, .int (iZ nn))] := hl
  have hD : va_D (mA h a) (mW C h a M) := mD_own hN
  have hA : ∀ q, mA h a q → mA h a q := fun _ h9 => h9
  generalize hHe : s.heap = H at hP ⊢
  have hS : va_S (mA h a) s.heap H [] := by rw [hHe]; exact va_S.rf
  generalize hlo : ([] : List Loc) = locs at hS ⊢
  clear hHe hlo
  have hnw := mI_now hI
  have hfe : 0 ≤ fe ∧ fe ≤ 3 → 0 ≤ M 19 (Int.toNat (2 + fe)) ∧ M 19 (Int.toNat (2 + fe)) ≤ 20 := fun q => mI_fe hI ⟨q.1, by omega⟩
  refine W.eq (g2 := F0 m 0 ls []) rfl ?_
  refine lv_iload_n hx hb dX8_plucks_0 rfl (lv_at hl 1 rfl) ?_
  refine lv_iconst (v := iZ 0) hx hb dX8_plucks_1 (by decide) ?_
  refine lv_iconst (v := iZ 3) hx hb dX8_plucks_2 (by decide) ?_
  refine mq_cs (As := [.int (iZ fe), .int (iZ 0), .int (iZ 3)]) (rest := []) ⟨hx, hb, hml, hown, hts⟩ (C_in l fe 0 3 (by omega) (by omega) (by omega)) (va_cwS 3 hts gX8_plucks_X8_in rfl rfl rfl (by decide +kernel) ⟨Nat.le_of_ble_eq_true rfl, Nat.le_of_ble_eq_true rfl⟩) rfl rfl hl.1 (Nat.le_of_ble_eq_true rfl) ⟨Nat.le_of_ble_eq_true rfl, Nat.le_of_ble_eq_true rfl⟩ dX8_plucks_3 ?_
  refine z_ifb_eq (P := (0 ≤ fe ∧ fe ≤ 3)) (tgt := 19) hx hb dX8_plucks_6 (by decide) (fun c1 => ?_) (fun c1 => ?_)
  · refine lv_iconst (v := iZ (-1)) hx hb dX8_plucks_19 (by decide) ?_
    exact mq_retM hx hb hK hP hS hr rfl (by unfold s_plucks; first | omega | (rw [if_neg (by omega), if_neg (by omega)]; subst_vars; rw [mU_eq]; unfold s_plv; omega) | omega) (by unfold f_plucks; first | (rw [if_pos (by omega)]; done) | (rw [if_neg (by omega), if_pos (by omega)]; done) | (rw [if_neg (by omega), if_neg (by omega)]; subst_vars; congr 1; unfold s_plv; omega) | omega) dX8_plucks_20 hlocks
  · refine lv_iload_n hx hb dX8_plucks_9 rfl (lv_at hl 2 rfl) ?_
    refine lv_iconst (v := iZ 1) hx hb dX8_plucks_10 (by decide) ?_
    refine lv_bipush (v := iZ 9) hx hb dX8_plucks_11 (by decide) ?_
    refine mq_cs (As := [.int (iZ nn), .int (iZ 1), .int (iZ 9)]) (rest := []) ⟨hx, hb, hml, hown, hts⟩ (C_in l nn 1 9 (by omega) (by omega) (by omega)) (va_cwS 3 hts gX8_plucks_X8_in rfl rfl rfl (by decide +kernel) ⟨Nat.le_of_ble_eq_true rfl, Nat.le_of_ble_eq_true rfl⟩) rfl rfl hl.1 (Nat.le_of_ble_eq_true rfl) ⟨Nat.le_of_ble_eq_true rfl, Nat.le_of_ble_eq_true rfl⟩ dX8_plucks_13 ?_
    refine z_ifb_ne (P := (1 ≤ nn ∧ nn ≤ 9)) (tgt := 21) hx hb dX8_plucks_16 (by decide) (fun c2 => ?_) (fun c2 => ?_)
    · refine W.eq (g2 := F0 m 21 ls []) rfl ?_
      refine lv_aload_n hx hb dX8_plucks_21 rfl (lv_at hl 0 rfl) ?_
      refine mq_get hx hb hts hin hown hK hP 19 (by decide) (hts (.fieldLink RX8 44 "WordFletchersModel" "now" "[I") (List.mem_cons_of_mem _ (List.mem_append_left _ (List.mem_of_getElem? (i := 0) rfl)))) rfl dX8_plucks_22 ?_
      refine lv_iconst (v := iZ 2) hx hb dX8_plucks_25 (by decide) ?_
      refine lv_iload_n hx hb dX8_plucks_26 rfl (lv_at hl 1 rfl) ?_
      refine z_iadd hx hb dX8_plucks_27 ?_
      refine mq_iald hx hb hK hP 19 12 (n := 29) rfl (by decide) (Int.toNat (2 + fe)) rfl (by omega) dX8_plucks_28 ?_
      refine lv_bipush (v := iZ 20) hx hb dX8_plucks_29 (by decide) ?_
      refine z_icmp_ne (x := (M 19 (Int.toNat (2 + fe)))) (y := 20) (tgt := 37) hx hb (by omega) (by omega) dX8_plucks_31 (by decide) (fun c3 => ?_) (fun c3 => ?_)
      · refine lv_aload_n hx hb dX8_plucks_37 rfl (lv_at hl 0 rfl) ?_
        refine mq_cv (As := []) (rest := []) ⟨hx, hb, hml, hown, hts⟩ hK hP hD hS hA (C_know l D C h a M  hI (hD.weaken (fun _ _ _ _ => trivial))) (cwV 0 hts gX8_plucks_X8_know rfl rfl rfl (by decide +kernel) ⟨Nat.le_of_ble_eq_true rfl, Nat.le_of_ble_eq_true rfl⟩) rfl rfl hl.1 (Nat.le_of_ble_eq_true rfl) ⟨Nat.le_of_ble_eq_true rfl, Nat.le_of_ble_eq_true rfl⟩ dX8_plucks_38 (fun H locs hP hD hS => ?_)
        obtain ⟨M4, hM4⟩ : ∃ z : Nat → Nat → Int, z = (f_know M) := ⟨_, rfl⟩
        rw [← hM4] at hP hD
        have e1 : M4 19 = M 19 := by rw [hM4]; exact f_know_o M (by decide) (by decide)
        have k2 : M4 2 0 = M 2 0 := by rw [hM4, f_know_o M (by decide) (by decide)]
        have k5 : M4 5 0 = M 5 0 := by rw [hM4, f_know_o M (by decide) (by decide)]
        have e4 := congrFun e1 (Int.toNat (2 + fe))
        refine lv_aload_n hx hb dX8_plucks_41 rfl (lv_at hl 0 rfl) ?_
        refine mq_get hx hb hts hin hown hK hP 19 (by decide) (hts (.fieldLink RX8 44 "WordFletchersModel" "now" "[I") (List.mem_cons_of_mem _ (List.mem_append_left _ (List.mem_of_getElem? (i := 0) rfl)))) rfl dX8_plucks_42 ?_
        refine W.eq (g2 := F0 m 45 ls [.ref (a 19)]) rfl ?_
        refine lv_iconst (v := iZ 2) hx hb dX8_plucks_45 (by decide) ?_
        refine lv_iload_n hx hb dX8_plucks_46 rfl (lv_at hl 1 rfl) ?_
        refine z_iadd hx hb dX8_plucks_47 ?_
        refine mq_iald hx hb hK hP 19 12 (n := 29) rfl (by decide) (Int.toNat (2 + fe)) rfl (by omega) dX8_plucks_48 ?_
        refine lv_iload_n hx hb dX8_plucks_49 rfl (lv_at hl 2 rfl) ?_
        refine z_iadd hx hb dX8_plucks_50 ?_
        refine lv_istore_n (lv' := [(3, .int (iZ ((M4 19 (Int.toNat (2 + fe))) + nn))), (0, .ref h), (1, .int (iZ fe)), (2, .int (iZ nn))]) hx hb dX8_plucks_51 rfl hl (by decide) rfl (fun ls hl => ?_)
        refine lv_aload_n hx hb dX8_plucks_52 rfl (lv_at hl 1 rfl) ?_
        refine mq_get hx hb hts hin hown hK hP 19 (by decide) (hts (.fieldLink RX8 44 "WordFletchersModel" "now" "[I") (List.mem_cons_of_mem _ (List.mem_append_left _ (List.mem_of_getElem? (i := 0) rfl)))) rfl dX8_plucks_53 ?_
        refine lv_iconst (v := iZ 2) hx hb dX8_plucks_56 (by decide) ?_
        refine lv_iload_n hx hb dX8_plucks_57 rfl (lv_at hl 2 rfl) ?_
        refine z_iadd hx hb dX8_plucks_58 ?_
        refine W.eq (g2 := F0 m 59 ls [.int (iZ (2 + fe)), .ref (a 19)]) rfl ?_
        refine lv_iload_n hx hb dX8_plucks_59 rfl (lv_at hl 0 rfl) ?_
        refine lv_bipush (v := iZ 20) hx hb dX8_plucks_60 (by decide) ?_
        have K7 : ∀ (v6 : Int), (v6 = (if ((M4 19 (Int.toNat (2 + fe))) + nn) ≤ 20 then ((M4 19 (Int.toNat (2 + fe))) + nn) else 20)) → ∀ (H : Heap) (locs : List Loc), va_P D vwCl (mW C h a M4) H → va_S (mA h a) s.heap H locs → ∀ ls : Array Slot, lv_has ls 4 [(0, .ref h), (1, .int (iZ fe))] → W p l e ((headSpec wsX8_plucks ({ frames := 1, cells := 0, slots := 0, locals := 22 })).room) s m (([.ref h, .int (iZ fe), .int (iZ nn)] : List Value).toArray) below meth c H locs 0 0 (MQ below (va_Qi (fun r (_ : Unit) => r = iZ (s_plucks M fe nn)) (fun _ t => mOk D C h a (f_plucks M fe nn) t) (mA h a)) (([.ref h, .int (iZ fe), .int (iZ nn)] : List Value).toArray) s 0 0 (mA h a)) (F0 m 71 ls [.int (iZ v6), .int (iZ (2 + fe)), .ref (a 19)]) := by
          intro v6 hv6 H locs hP hS ls hl
          refine mq_iast hx hb hK hP hD hS 19 12 (n := 29) rfl (fun k9 => mS_19 C h a _ k9 _) (by decide) (Int.toNat (2 + fe)) rfl (by omega) dX8_plucks_71 (fun H locs hP hD hS => ?_)
          obtain ⟨M8, hM8⟩ : ∃ z : Nat → Nat → Int, z = (mU M4 19 (Int.toNat (2 + fe)) v6) := ⟨_, rfl⟩
          rw [← hM8] at hP hD
          refine lv_aload_n hx hb dX8_plucks_72 rfl (lv_at hl 0 rfl) ?_
          refine mq_get hx hb hts hin hown hK hP 19 (by decide) (hts (.fieldLink RX8 44 "WordFletchersModel" "now" "[I") (List.mem_cons_of_mem _ (List.mem_append_left _ (List.mem_of_getElem? (i := 0) rfl)))) rfl dX8_plucks_73 ?_
          refine lv_iconst (v := iZ 2) hx hb dX8_plucks_76 (by decide) ?_
          refine lv_iload_n hx hb dX8_plucks_77 rfl (lv_at hl 1 rfl) ?_
          refine z_iadd hx hb dX8_plucks_78 ?_
          refine W.eq (g2 := F0 m 79 ls [.int (iZ (2 + fe)), .ref (a 19)]) rfl ?_
          refine mq_iald hx hb hK hP 19 12 (n := 29) rfl (by decide) (Int.toNat (2 + fe)) rfl (by omega) dX8_plucks_79 ?_
          exact mq_retM hx hb hK hP hS hr rfl (by unfold s_plucks; first | omega | (rw [if_neg (by omega), if_neg (by omega)]; subst_vars; rw [mU_eq]; unfold s_plv; omega) | omega) (by unfold f_plucks; first | (rw [if_pos (by omega)]; done) | (rw [if_neg (by omega), if_pos (by omega)]; done) | (rw [if_neg (by omega), if_neg (by omega)]; subst_vars; congr 1; unfold s_plv; omega) | omega) dX8_plucks_80 hlocks
        refine z_icmp_le (x := ((M4 19 (Int.toNat (2 + fe))) + nn)) (y := 20) (tgt := 70) hx hb (by omega) (by omega) dX8_plucks_62 (by decide) (fun c5 => ?_) (fun c5 => ?_)
        · refine lv_iload_n hx hb dX8_plucks_70 rfl (lv_at hl 0 rfl) ?_
          exact K7 ((M4 19 (Int.toNat (2 + fe))) + nn) (by first | rfl | (rw [if_pos c5]; done) | omega | (subst_vars; first | rfl | (rw [if_pos c5]; done) | omega)) H locs hP hS ls (lv_sub hl [1, 2] rfl)
        · refine lv_bipush (v := iZ 20) hx hb dX8_plucks_65 (by decide) ?_
          refine lv_goto (tgt := 71) hx hb dX8_plucks_67 (by decide) ?_
          exact K7 20 (by first | rfl | (rw [if_neg c5]; done) | omega | (subst_vars; first | rfl | (rw [if_neg c5]; done) | omega)) H locs hP hS ls (lv_sub hl [1, 2] rfl)
      · refine lv_bipush (v := iZ (-2)) hx hb dX8_plucks_34 (by decide) ?_
        exact mq_retM hx hb hK hP hS hr rfl (by unfold s_plucks; first | omega | (rw [if_neg (by omega), if_neg (by omega)]; subst_vars; rw [mU_eq]; unfold s_plv; omega) | omega) (by unfold f_plucks; first | (rw [if_pos (by omega)]; done) | (rw [if_neg (by omega), if_pos (by omega)]; done) | (rw [if_neg (by omega), if_neg (by omega)]; subst_vars; congr 1; unfold s_plv; omega) | omega) dX8_plucks_36 hlocks
    · refine lv_iconst (v := iZ (-1)) hx hb dX8_plucks_19 (by decide) ?_
      exact mq_retM hx hb hK hP hS hr rfl (by unfold s_plucks; first | omega | (rw [if_neg (by omega), if_neg (by omega)]; subst_vars; rw [mU_eq]; unfold s_plv; omega) | omega) (by unfold f_plucks; first | (rw [if_pos (by omega)]; done) | (rw [if_neg (by omega), if_pos (by omega)]; done) | (rw [if_neg (by omega), if_neg (by omega)]; subst_vars; congr 1; unfold s_plv; omega) | omega) dX8_plucks_20 hlocks
set_option maxHeartbeats 4000000 in
set_option maxRecDepth 100000 in
theorem C_undo (l : Launch) (D : va_G) (C : mC) (h : Nat) (a : Nat → Nat) (M : Nat → Nat → Int) (hI : mI M) (hN : va_D (fun _ => True) (mW C h a M)) : Met l yX8_undo wsX8_undo ({ frames := 0, cells := 0, slots := 0, locals := 0 }) (va_Pc [.ref h] (mOk D C h a M)) (va_Qi (fun r (_ : Unit) => r = iZ (s_undo M)) (fun _ t => mOk D C h a (f_undo M) t) (mA h a)) 0 0 (mA h a) := by
  refine Met.ofW (cc := cX8_undo) (maxL := 2) (ret := (some .int)) (by decide) rfl ?_
  intro p e s m args below meth c s₁ B hml hv
  obtain ⟨rfl, hP, hK⟩ := hv
  have hx := B.exec
  have hb := B.bytes
  have hr := B.returns
  have hts := atoms_spec (ws := wsX8_undo) B.pre
  have hown : s.vm.findClass RX8 = some m.cls := findClass_of_methodNamed B.named
  have hlocks := B.notSynchronized
  have hin : ∀ w ∈ wsX80, w ∈ wsX8_undo := fun _ w_h => (List.mem_cons_of_mem _ (List.mem_append_right _ w_h))
  have hl := lv_entry ([.ref h]) (n := 2) (Nat.le_of_ble_eq_true rfl)
  rw [lg_entry_eq]
  generalize (lg_sl ([.ref h]) ++ List.replicate (2 - (lg_sl ([.ref h])).length) Slot.unset).toArray = ls at hl ⊢
  replace hl : lv_has ls 2 [(0, .ref h)] := hl
  have hD : va_D (mA h a) (mW C h a M) := mD_own hN
  have hA : ∀ q, mA h a q → mA h a q := fun _ h9 => h9
  generalize hHe : s.heap = H at hP ⊢
  have hS : va_S (mA h a) s.heap H [] := by rw [hHe]; exact va_S.rf
  generalize hlo : ([] : List Loc) = locs at hS ⊢
  clear hHe hlo
  have hnw := mI_now hI
  refine lv_aload_n hx hb dX8_undo_0 rfl (lv_at hl 0 rfl) ?_
  refine mq_get hx hb hts hin hown hK hP 20 (by decide) (hts (.fieldLink RX8 47 "WordFletchersModel" "known" "[I") (List.mem_cons_of_mem _ (List.mem_append_left _ (List.mem_of_getElem? (i := 0) rfl)))) rfl dX8_undo_1 ?_
  refine lv_iconst (v := iZ 0) hx hb dX8_undo_4 (by decide) ?_
  refine mq_iald hx hb hK hP 20 13 (n := 3) rfl (by decide) 0 rfl (by omega) dX8_undo_5 ?_
  refine z_if_ne (x := (M 20 0)) (tgt := 12) hx hb (by omega) dX8_undo_6 (by decide) (fun c1 => ?_) (fun c1 => ?_)
  · refine lv_aload_n hx hb dX8_undo_12 rfl (lv_at hl 0 rfl) ?_
    refine W.eq (g2 := F0 m 13 ls [.ref h]) rfl ?_
    refine mq_get hx hb hts hin hown hK hP 20 (by decide) (hts (.fieldLink RX8 47 "WordFletchersModel" "known" "[I") (List.mem_cons_of_mem _ (List.mem_append_left _ (List.mem_of_getElem? (i := 0) rfl)))) rfl dX8_undo_13 ?_
    refine lv_iconst (v := iZ 0) hx hb dX8_undo_16 (by decide) ?_
    refine lv_dup2_11 hx hb dX8_undo_17 rfl rfl ?_
    refine mq_iald hx hb hK hP 20 13 (n := 3) rfl (by decide) 0 rfl (by omega) dX8_undo_18 ?_
    refine lv_iconst (v := iZ 1) hx hb dX8_undo_19 (by decide) ?_
    refine z_isub hx hb dX8_undo_20 ?_
    refine mq_iast hx hb hK hP hD hS 20 13 (n := 3) rfl (fun k9 => mS_20 C h a _ k9 _) (by decide) 0 rfl (by omega) dX8_undo_21 (fun H locs hP hD hS => ?_)
    obtain ⟨M2, hM2⟩ : ∃ z : Nat → Nat → Int, z = (mU M 20 0 ((M 20 0) - 1)) := ⟨_, rfl⟩
    rw [← hM2] at hP hD
    have e4 : M2 20 0 = M 20 0 - 1 := by rw [hM2]; rfl
    refine lv_iconst (v := iZ 0) hx hb dX8_undo_22 (by decide) ?_
    refine lv_istore_n (lv' := [(1, .int (iZ 0)), (0, .ref h)]) hx hb dX8_undo_23 rfl hl (by decide) rfl (fun ls hl => ?_)
    replace hl : lv_has ls 2 [(1, .int (iZ (0 : Int))), (0, .ref h)] := lv_sub hl [0, 1] rfl
    replace hP := And.intro hP hS
    clear hS
    revert ls
    revert hP
    revert H locs
    refine z_loopH (σ := (Nat → Nat → Int) × Int) (fun x9 => (0 ≤ x9.2 ∧ x9.2 ≤ 29) ∧ (x9.1 = f_blk M2 19 21 (0) (29 * (M 20 0 - 1).toNat) (Int.toNat x9.2))) (fun x9 H9 locs9 => va_P D vwCl (mW C h a (x9.1)) H9 ∧ va_S (mA h a) s.heap H9 locs9) (fun x9 => [(1, .int (iZ (x9.2))), (0, .ref h)]) 2 (fun x9 => (29 - x9.2).toNat) (M2, (0 : Int)) ⟨(by show 0 ≤ (0 : Int) ∧ (0 : Int) ≤ 29; omega), (by show M2 = f_blk M2 19 21 (0) (29 * (M 20 0 - 1).toNat) (Int.toNat (0 : Int)); exact (f_blk_0 _ _ _ _ _).symm)⟩ ?_
    rintro ⟨Mb, kk⟩ hI9 ih24 H locs hPS ls hl
    have hP : va_P D vwCl (mW C h a Mb) H := hPS.1
    have hS : va_S (mA h a) s.heap H locs := hPS.2
    clear hPS
    have hD : va_D (mA h a) (mW C h a Mb) := mD_re hD
    obtain ⟨kba, kbb⟩ := hI9
    replace kba : 0 ≤ kk ∧ kk ≤ 29 := kba
    replace kbb : Mb = f_blk M2 19 21 (0) (29 * (M 20 0 - 1).toNat) (Int.toNat kk) := kbb
    replace hl : lv_has ls 2 [(1, .int (iZ kk)), (0, .ref h)] := hl
    have e5 : Mb 20 0 = M 20 0 - 1 := by rw [kbb]; exact e4
    refine lv_iload_n hx hb dX8_undo_24 rfl (lv_at hl 0 rfl) ?_
    refine lv_bipush (v := iZ 29) hx hb dX8_undo_25 (by decide) ?_
    refine z_icmp_ge (x := kk) (y := 29) (tgt := 58) hx hb (by omega) (by omega) dX8_undo_27 (by decide) (fun c3 => ?_) (fun c3 => ?_)
    · refine lv_aload_n hx hb dX8_undo_58 rfl (lv_at hl 1 rfl) ?_
      refine mq_get hx hb hts hin hown hK hP 20 (by decide) (hts (.fieldLink RX8 47 "WordFletchersModel" "known" "[I") (List.mem_cons_of_mem _ (List.mem_append_left _ (List.mem_of_getElem? (i := 0) rfl)))) rfl dX8_undo_59 ?_
      refine lv_iconst (v := iZ 0) hx hb dX8_undo_62 (by decide) ?_
      refine mq_iald hx hb hK hP 20 13 (n := 3) rfl (by decide) 0 rfl (by omega) dX8_undo_63 ?_
      exact mq_retM hx hb hK hP hS hr rfl (by unfold s_undo; omega) (by first | (unfold f_undo; rw [if_pos (by omega)]; done) | (have q : kk = 29 := (by omega); subst q; subst_vars; unfold f_undo; rw [if_neg (by omega)]; rfl) | omega) dX8_undo_64 hlocks
    · refine lv_aload_n hx hb dX8_undo_30 rfl (lv_at hl 1 rfl) ?_
      refine mq_get hx hb hts hin hown hK hP 19 (by decide) (hts (.fieldLink RX8 44 "WordFletchersModel" "now" "[I") (List.mem_cons_of_mem _ (List.mem_append_left _ (List.mem_of_getElem? (i := 1) rfl)))) rfl dX8_undo_31 ?_
      refine W.eq (g2 := F0 m 34 ls [.ref (a 19)]) rfl ?_
      refine lv_iload_n hx hb dX8_undo_34 rfl (lv_at hl 0 rfl) ?_
      refine lv_aload_n hx hb dX8_undo_35 rfl (lv_at hl 1 rfl) ?_
      refine mq_get hx hb hts hin hown hK hP 21 (by decide) (hts (.fieldLink RX8 50 "WordFletchersModel" "before" "[I") (List.mem_cons_of_mem _ (List.mem_append_left _ (List.mem_of_getElem? (i := 2) rfl)))) rfl dX8_undo_36 ?_
      refine lv_bipush (v := iZ 29) hx hb dX8_undo_39 (by decide) ?_
      refine lv_aload_n hx hb dX8_undo_41 rfl (lv_at hl 1 rfl) ?_
      refine mq_get hx hb hts hin hown hK hP 20 (by decide) (hts (.fieldLink RX8 47 "WordFletchersModel" "known" "[I") (List.mem_cons_of_mem _ (List.mem_append_left _ (List.mem_of_getElem? (i := 0) rfl)))) rfl dX8_undo_42 ?_
      refine lv_iconst (v := iZ 0) hx hb dX8_undo_45 (by decide) ?_
      refine mq_iald hx hb hK hP 20 13 (n := 3) rfl (by decide) 0 rfl (by omega) dX8_undo_46 ?_
      refine z_imul hx hb dX8_undo_47 ?_
      refine lv_iload_n hx hb dX8_undo_48 rfl (lv_at hl 0 rfl) ?_
      refine z_iadd hx hb dX8_undo_49 ?_
      refine mq_iald hx hb hK hP 21 14 (n := 870) rfl (by decide) (Int.toNat ((29 * (Mb 20 0)) + kk)) rfl (by omega) dX8_undo_50 ?_
      refine W.eq (g2 := F0 m 51 ls [.int (iZ (Mb 21 (Int.toNat ((29 * (Mb 20 0)) + kk)))), .int (iZ kk), .ref (a 19)]) rfl ?_
      refine mq_iast hx hb hK hP hD hS 19 12 (n := 29) rfl (fun k9 => mS_19 C h a _ k9 _) (by decide) (Int.toNat kk) rfl (by omega) dX8_undo_51 (fun H locs hP hD hS => ?_)
      obtain ⟨M5, hM5⟩ : ∃ z : Nat → Nat → Int, z = (mU Mb 19 (Int.toNat kk) (Mb 21 (Int.toNat ((29 * (Mb 20 0)) + kk)))) := ⟨_, rfl⟩
      rw [← hM5] at hP hD
      refine lv_iinc (v := iZ (kk + 1)) (lv' := [(1, .int (iZ (kk + 1))), (0, .ref h)]) hx hb dX8_undo_52 hl (k := 0) rfl (iZ_add _ _) (by decide) rfl (fun ls hl => ?_)
      refine lv_goto (tgt := 24) hx hb dX8_undo_55 (by decide) ?_
      exact ih24 (M5, (kk + 1)) ⟨(by show 0 ≤ (kk + 1) ∧ (kk + 1) ≤ 29; omega), (by show M5 = f_blk M2 19 21 (0) (29 * (M 20 0 - 1).toNat) (Int.toNat (kk + 1)); rw [f_blk_step _ _ _ _ _ (by omega), ← kbb]; have q9 : Int.toNat (kk) = (0) + Int.toNat kk := (by omega); have q7 : Int.toNat (29 * Mb 20 0 + kk) = (29 * (M 20 0 - 1).toNat) + Int.toNat kk := (by omega); have q8 : Mb 21 (Int.toNat (29 * Mb 20 0 + kk)) = M2 21 ((29 * (M 20 0 - 1).toNat) + Int.toNat kk) := (by have r9 := f_blk_rd (M := M2) (F := 19) (G := 21) (d := 0) (s := 29 * (M 20 0 - 1).toNat) (k := Int.toNat kk) (i := Int.toNat kk) (by omega); rw [← kbb] at r9; exact (congrArg (Mb 21) q7).trans r9); rw [← q9, ← q8]; assumption)⟩ (by show (29 - (kk + 1)).toNat < (29 - kk).toNat; omega) H locs ⟨hP, hS⟩ ls (lv_sub hl [0, 1] rfl)
  · refine lv_bipush (v := iZ (-2)) hx hb dX8_undo_9 (by decide) ?_
    exact mq_retM hx hb hK hP hS hr rfl (by unfold s_undo; omega) (by first | (unfold f_undo; rw [if_pos (by omega)]; done) | (have q : kk = 29 := (by omega); subst q; subst_vars; unfold f_undo; rw [if_neg (by omega)]; rfl) | omega) dX8_undo_11 hlocks
set_option maxHeartbeats 4000000 in
set_option maxRecDepth 100000 in
theorem C_keep (l : Launch) (D : va_G) (C : mC) (h : Nat) (a : Nat → Nat) (M : Nat → Nat → Int) (im : Int) (hI : mI M) (h1 : -2147483648 ≤ im ∧ im < 2147483648) (hN : va_D (fun _ => True) (mW C h a M)) : Met l yX8_keep wsX8_keep ({ frames := 1, cells := 0, slots := 0, locals := 22 }) (va_Pc [.ref h, .int (iZ im)] (mOk D C h a M)) (va_Qi (fun r (_ : Unit) => r = iZ (s_keep M im)) (fun _ t => mOk D C h a (f_keep M im) t) (mA h a)) 0 0 (mA h a) := by
  refine Met.ofW (cc := cX8_keep) (maxL := 3) (ret := (some .int)) (by decide) rfl ?_
  intro p e s m args below meth c s₁ B hml hv
  obtain ⟨rfl, hP, hK⟩ := hv
  have hx := B.exec
  have hb := B.bytes
  have hr := B.returns
  have hts := atoms_spec (ws := wsX8_keep) B.pre
  have hown : s.vm.findClass RX8 = some m.cls := findClass_of_methodNamed B.named
  have hlocks := B.notSynchronized
  have hin : ∀ w ∈ wsX80, w ∈ wsX8_keep := fun _ w_h => (List.mem_cons_of_mem _ (List.mem_append_right _ w_h))
  have hl := lv_entry ([.ref h, .int (iZ im)]) (n := 3) (Nat.le_of_ble_eq_true rfl)
  rw [lg_entry_eq]
  generalize (lg_sl ([.ref h, .int (iZ im)]) ++ List.replicate (3 - (lg_sl ([.ref h, .int (iZ im)])).length) Slot.unset).toArray = ls at hl ⊢
  replace hl : lv_has ls 3 [(0, .ref h), (1, .int (iZ im))] := hl
  have hD : va_D (mA h a) (mW C h a M) := mD_own hN
  have hA : ∀ q, mA h a q → mA h a q := fun _ h9 => h9
  generalize hHe : s.heap = H at hP ⊢
  have hS : va_S (mA h a) s.heap H [] := by rw [hHe]; exact va_S.rf
  generalize hlo : ([] : List Loc) = locs at hS ⊢
  clear hHe hlo
  have hnw := mI_now hI
  refine lv_iload_n hx hb dX8_keep_0 rfl (lv_at hl 1 rfl) ?_
  refine lv_iconst (v := iZ 0) hx hb dX8_keep_1 (by decide) ?_
  refine lv_iconst (v := iZ 1) hx hb dX8_keep_2 (by decide) ?_
  refine mq_cs (As := [.int (iZ im), .int (iZ 0), .int (iZ 1)]) (rest := []) ⟨hx, hb, hml, hown, hts⟩ (C_in l im 0 1 (by omega) (by omega) (by omega)) (va_cwS 3 hts gX8_keep_X8_in rfl rfl rfl (by decide +kernel) ⟨Nat.le_of_ble_eq_true rfl, Nat.le_of_ble_eq_true rfl⟩) rfl rfl hl.1 (Nat.le_of_ble_eq_true rfl) ⟨Nat.le_of_ble_eq_true rfl, Nat.le_of_ble_eq_true rfl⟩ dX8_keep_3 ?_
  refine z_ifb_ne (P := (0 ≤ im ∧ im ≤ 1)) (tgt := 11) hx hb dX8_keep_6 (by decide) (fun c1 => ?_) (fun c1 => ?_)
  · refine lv_iconst (v := iZ 0) hx hb dX8_keep_11 (by decide) ?_
    refine lv_istore_n (lv' := [(2, .int (iZ 0)), (0, .ref h), (1, .int (iZ im))]) hx hb dX8_keep_12 rfl hl (by decide) rfl (fun ls hl => ?_)
    replace hl : lv_has ls 3 [(2, .int (iZ (0 : Int))), (0, .ref h), (1, .int (iZ im))] := lv_sub hl [0, 1, 2] rfl
    replace hP := And.intro hP hS
    clear hS
    revert ls
    revert hP
    revert H locs
    refine z_loopH (σ := (Nat → Nat → Int) × Int) (fun x9 => (0 ≤ x9.2 ∧ x9.2 ≤ 29) ∧ (x9.1 = f_blk M 22 19 (Int.toNat (29 * im)) (0) (Int.toNat x9.2))) (fun x9 H9 locs9 => va_P D vwCl (mW C h a (x9.1)) H9 ∧ va_S (mA h a) s.heap H9 locs9) (fun x9 => [(2, .int (iZ (x9.2))), (0, .ref h), (1, .int (iZ im))]) 3 (fun x9 => (29 - x9.2).toNat) (M, (0 : Int)) ⟨(by show 0 ≤ (0 : Int) ∧ (0 : Int) ≤ 29; omega), (by show M = f_blk M 22 19 (Int.toNat (29 * im)) (0) (Int.toNat (0 : Int)); exact (f_blk_0 _ _ _ _ _).symm)⟩ ?_
    rintro ⟨Ma, kk⟩ hI9 ih13 H locs hPS ls hl
    have hP : va_P D vwCl (mW C h a Ma) H := hPS.1
    have hS : va_S (mA h a) s.heap H locs := hPS.2
    clear hPS
    have hD : va_D (mA h a) (mW C h a Ma) := mD_re hD
    obtain ⟨kaa, kab⟩ := hI9
    replace kaa : 0 ≤ kk ∧ kk ≤ 29 := kaa
    replace kab : Ma = f_blk M 22 19 (Int.toNat (29 * im)) (0) (Int.toNat kk) := kab
    replace hl : lv_has ls 3 [(2, .int (iZ kk)), (0, .ref h), (1, .int (iZ im))] := hl
    refine W.eq (g2 := F0 m 13 ls []) rfl ?_
    refine lv_iload_n hx hb dX8_keep_13 rfl (lv_at hl 0 rfl) ?_
    refine lv_bipush (v := iZ 29) hx hb dX8_keep_14 (by decide) ?_
    refine z_icmp_ge (x := kk) (y := 29) (tgt := 42) hx hb (by omega) (by omega) dX8_keep_16 (by decide) (fun c2 => ?_) (fun c2 => ?_)
    · refine lv_iconst (v := iZ 0) hx hb dX8_keep_42 (by decide) ?_
      refine lv_istore_n (lv' := [(2, .int (iZ 0)), (0, .ref h), (1, .int (iZ im))]) hx hb dX8_keep_43 rfl hl (by decide) rfl (fun ls hl => ?_)
      replace hl : lv_has ls 3 [(2, .int (iZ (0 : Int))), (0, .ref h), (1, .int (iZ im))] := lv_sub hl [0, 1, 2] rfl
      replace hP := And.intro hP hS
      clear hS
      revert ls
      revert hP
      revert H locs
      refine z_loopH (σ := (Nat → Nat → Int) × Int) (fun x9 => (0 ≤ x9.2 ∧ x9.2 ≤ 290) ∧ (x9.1 = f_blk Ma 21 21 (Int.toNat (290 * (1 + im))) (0) (Int.toNat x9.2))) (fun x9 H9 locs9 => va_P D vwCl (mW C h a (x9.1)) H9 ∧ va_S (mA h a) s.heap H9 locs9) (fun x9 => [(2, .int (iZ (x9.2))), (0, .ref h), (1, .int (iZ im))]) 3 (fun x9 => (290 - x9.2).toNat) (Ma, (0 : Int)) ⟨(by show 0 ≤ (0 : Int) ∧ (0 : Int) ≤ 290; omega), (by show Ma = f_blk Ma 21 21 (Int.toNat (290 * (1 + im))) (0) (Int.toNat (0 : Int)); exact (f_blk_0 _ _ _ _ _).symm)⟩ ?_
      rintro ⟨Mb, kk2⟩ hI9 ih44 H locs hPS ls hl
      have hP : va_P D vwCl (mW C h a Mb) H := hPS.1
      have hS : va_S (mA h a) s.heap H locs := hPS.2
      clear hPS
      have hD : va_D (mA h a) (mW C h a Mb) := mD_re hD
      obtain ⟨kba, kbb⟩ := hI9
      replace kba : 0 ≤ kk2 ∧ kk2 ≤ 290 := kba
      replace kbb : Mb = f_blk Ma 21 21 (Int.toNat (290 * (1 + im))) (0) (Int.toNat kk2) := kbb
      replace hl : lv_has ls 3 [(2, .int (iZ kk2)), (0, .ref h), (1, .int (iZ im))] := hl
      refine lv_iload_n hx hb dX8_keep_44 rfl (lv_at hl 0 rfl) ?_
      refine lv_sipush (v := iZ 290) hx hb dX8_keep_45 (by decide) ?_
      refine z_icmp_ge (x := kk2) (y := 290) (tgt := 77) hx hb (by omega) (by omega) dX8_keep_48 (by decide) (fun c4 => ?_) (fun c4 => ?_)
      · refine lv_aload_n hx hb dX8_keep_77 rfl (lv_at hl 1 rfl) ?_
        refine mq_get hx hb hts hin hown hK hP 20 (by decide) (hts (.fieldLink RX8 47 "WordFletchersModel" "known" "[I") (List.mem_cons_of_mem _ (List.mem_append_left _ (List.mem_of_getElem? (i := 3) rfl)))) rfl dX8_keep_78 ?_
        refine lv_iconst (v := iZ 1) hx hb dX8_keep_81 (by decide) ?_
        refine lv_iload_n hx hb dX8_keep_82 rfl (lv_at hl 2 rfl) ?_
        refine z_iadd hx hb dX8_keep_83 ?_
        refine lv_aload_n hx hb dX8_keep_84 rfl (lv_at hl 1 rfl) ?_
        refine mq_get hx hb hts hin hown hK hP 20 (by decide) (hts (.fieldLink RX8 47 "WordFletchersModel" "known" "[I") (List.mem_cons_of_mem _ (List.mem_append_left _ (List.mem_of_getElem? (i := 3) rfl)))) rfl dX8_keep_85 ?_
        refine lv_iconst (v := iZ 0) hx hb dX8_keep_88 (by decide) ?_
        refine mq_iald hx hb hK hP 20 13 (n := 3) rfl (by decide) 0 rfl (by omega) dX8_keep_89 ?_
        refine mq_iast hx hb hK hP hD hS 20 13 (n := 3) rfl (fun k9 => mS_20 C h a _ k9 _) (by decide) (Int.toNat (1 + im)) rfl (by omega) dX8_keep_90 (fun H locs hP hD hS => ?_)
        obtain ⟨M6, hM6⟩ : ∃ z : Nat → Nat → Int, z = (mU Mb 20 (Int.toNat (1 + im)) (Mb 20 0)) := ⟨_, rfl⟩
        rw [← hM6] at hP hD
        refine W.eq (g2 := F0 m 91 ls []) rfl ?_
        refine lv_aload_n hx hb dX8_keep_91 rfl (lv_at hl 1 rfl) ?_
        refine mq_get hx hb hts hin hown hK hP 23 (by decide) (hts (.fieldLink RX8 56 "WordFletchersModel" "isKept" "[Z") (List.mem_cons_of_mem _ (List.mem_append_left _ (List.mem_of_getElem? (i := 4) rfl)))) rfl dX8_keep_92 ?_
        refine lv_iload_n hx hb dX8_keep_95 rfl (lv_at hl 2 rfl) ?_
        refine lv_iconst (v := iZ 1) hx hb dX8_keep_96 (by decide) ?_
        refine mq_zast hx hb hK hP hD hS 23 16 (n := 2) rfl (fun k9 => mS_23 C h a _ k9 _) (by decide) (Int.toNat im) rfl (by omega) (by rfl) dX8_keep_97 (fun H locs hP hD hS => ?_)
        obtain ⟨M7, hM7⟩ : ∃ z : Nat → Nat → Int, z = (mU M6 23 (Int.toNat im) 1) := ⟨_, rfl⟩
        rw [← hM7] at hP hD
        refine lv_aload_n hx hb dX8_keep_98 rfl (lv_at hl 1 rfl) ?_
        refine mq_get hx hb hts hin hown hK hP 19 (by decide) (hts (.fieldLink RX8 44 "WordFletchersModel" "now" "[I") (List.mem_cons_of_mem _ (List.mem_append_left _ (List.mem_of_getElem? (i := 1) rfl)))) rfl dX8_keep_99 ?_
        refine lv_iconst (v := iZ 0) hx hb dX8_keep_102 (by decide) ?_
        refine mq_iald hx hb hK hP 19 12 (n := 29) rfl (by decide) 0 rfl (by omega) dX8_keep_103 ?_
        exact mq_retM hx hb hK hP hS hr rfl (by unfold s_keep; first | omega | (subst_vars; rw [if_neg (by omega)]; rfl) | omega) (by first | (unfold f_keep; rw [if_pos (by omega)]; done) | (have q : kk = 29 := (by omega); have q2 : kk2 = 290 := (by omega); subst q q2; subst_vars; unfold f_keep; rw [if_neg (by omega)]; rfl) | omega) dX8_keep_104 hlocks
      · refine lv_aload_n hx hb dX8_keep_51 rfl (lv_at hl 1 rfl) ?_
        refine mq_get hx hb hts hin hown hK hP 21 (by decide) (hts (.fieldLink RX8 50 "WordFletchersModel" "before" "[I") (List.mem_cons_of_mem _ (List.mem_append_left _ (List.mem_of_getElem? (i := 2) rfl)))) rfl dX8_keep_52 ?_
        refine W.eq (g2 := F0 m 55 ls [.ref (a 21)]) rfl ?_
        refine lv_sipush (v := iZ 290) hx hb dX8_keep_55 (by decide) ?_
        refine lv_iconst (v := iZ 1) hx hb dX8_keep_58 (by decide) ?_
        refine lv_iload_n hx hb dX8_keep_59 rfl (lv_at hl 2 rfl) ?_
        refine z_iadd hx hb dX8_keep_60 ?_
        refine z_imul hx hb dX8_keep_61 ?_
        refine lv_iload_n hx hb dX8_keep_62 rfl (lv_at hl 0 rfl) ?_
        refine z_iadd hx hb dX8_keep_63 ?_
        refine lv_aload_n hx hb dX8_keep_64 rfl (lv_at hl 1 rfl) ?_
        refine mq_get hx hb hts hin hown hK hP 21 (by decide) (hts (.fieldLink RX8 50 "WordFletchersModel" "before" "[I") (List.mem_cons_of_mem _ (List.mem_append_left _ (List.mem_of_getElem? (i := 2) rfl)))) rfl dX8_keep_65 ?_
        refine lv_iload_n hx hb dX8_keep_68 rfl (lv_at hl 0 rfl) ?_
        refine mq_iald hx hb hK hP 21 14 (n := 870) rfl (by decide) (Int.toNat kk2) rfl (by omega) dX8_keep_69 ?_
        refine mq_iast hx hb hK hP hD hS 21 14 (n := 870) rfl (fun k9 => mS_21 C h a _ k9 _) (by decide) (Int.toNat ((290 * (1 + im)) + kk2)) rfl (by omega) dX8_keep_70 (fun H locs hP hD hS => ?_)
        obtain ⟨M8, hM8⟩ : ∃ z : Nat → Nat → Int, z = (mU Mb 21 (Int.toNat ((290 * (1 + im)) + kk2)) (Mb 21 (Int.toNat kk2))) := ⟨_, rfl⟩
        rw [← hM8] at hP hD
        refine W.eq (g2 := F0 m 71 ls []) rfl ?_
        refine lv_iinc (v := iZ (kk2 + 1)) (lv' := [(2, .int (iZ (kk2 + 1))), (0, .ref h), (1, .int (iZ im))]) hx hb dX8_keep_71 hl (k := 0) rfl (iZ_add _ _) (by decide) rfl (fun ls hl => ?_)
        refine lv_goto (tgt := 44) hx hb dX8_keep_74 (by decide) ?_
        exact ih44 (M8, (kk2 + 1)) ⟨(by show 0 ≤ (kk2 + 1) ∧ (kk2 + 1) ≤ 290; omega), (by show M8 = f_blk Ma 21 21 (Int.toNat (290 * (1 + im))) (0) (Int.toNat (kk2 + 1)); rw [f_blk_step _ _ _ _ _ (by omega), ← kbb]; have q9 : Int.toNat (290 * (1 + im) + kk2) = (Int.toNat (290 * (1 + im))) + Int.toNat kk2 := (by omega); have q7 : Int.toNat (kk2) = (0) + Int.toNat kk2 := (by omega); have q8 : Mb 21 (Int.toNat (kk2)) = Ma 21 ((0) + Int.toNat kk2) := (by have r9 := f_blk_rd (M := Ma) (F := 21) (G := 21) (d := Int.toNat (290 * (1 + im))) (s := 0) (k := Int.toNat kk2) (i := Int.toNat kk2) (by omega); rw [← kbb] at r9; exact (congrArg (Mb 21) q7).trans r9); rw [← q9, ← q8]; assumption)⟩ (by show (290 - (kk2 + 1)).toNat < (290 - kk2).toNat; omega) H locs ⟨hP, hS⟩ ls (lv_sub hl [0, 1, 2] rfl)
    · refine lv_aload_n hx hb dX8_keep_19 rfl (lv_at hl 1 rfl) ?_
      refine mq_get hx hb hts hin hown hK hP 22 (by decide) (hts (.fieldLink RX8 53 "WordFletchersModel" "store" "[I") (List.mem_cons_of_mem _ (List.mem_append_left _ (List.mem_of_getElem? (i := 0) rfl)))) rfl dX8_keep_20 ?_
      refine lv_bipush (v := iZ 29) hx hb dX8_keep_23 (by decide) ?_
      refine lv_iload_n hx hb dX8_keep_25 rfl (lv_at hl 2 rfl) ?_
      refine z_imul hx hb dX8_keep_26 ?_
      refine lv_iload_n hx hb dX8_keep_27 rfl (lv_at hl 0 rfl) ?_
      refine z_iadd hx hb dX8_keep_28 ?_
      refine lv_aload_n hx hb dX8_keep_29 rfl (lv_at hl 1 rfl) ?_
      refine mq_get hx hb hts hin hown hK hP 19 (by decide) (hts (.fieldLink RX8 44 "WordFletchersModel" "now" "[I") (List.mem_cons_of_mem _ (List.mem_append_left _ (List.mem_of_getElem? (i := 1) rfl)))) rfl dX8_keep_30 ?_
      refine lv_iload_n hx hb dX8_keep_33 rfl (lv_at hl 0 rfl) ?_
      refine W.eq (g2 := F0 m 34 ls [.int (iZ kk), .ref (a 19), .int (iZ ((29 * im) + kk)), .ref (a 22)]) rfl ?_
      refine mq_iald hx hb hK hP 19 12 (n := 29) rfl (by decide) (Int.toNat kk) rfl (by omega) dX8_keep_34 ?_
      refine mq_iast hx hb hK hP hD hS 22 15 (n := 58) rfl (fun k9 => mS_22 C h a _ k9 _) (by decide) (Int.toNat ((29 * im) + kk)) rfl (by omega) dX8_keep_35 (fun H locs hP hD hS => ?_)
      obtain ⟨M9, hM9⟩ : ∃ z : Nat → Nat → Int, z = (mU Ma 22 (Int.toNat ((29 * im) + kk)) (Ma 19 (Int.toNat kk))) := ⟨_, rfl⟩
      rw [← hM9] at hP hD
      refine lv_iinc (v := iZ (kk + 1)) (lv' := [(2, .int (iZ (kk + 1))), (0, .ref h), (1, .int (iZ im))]) hx hb dX8_keep_36 hl (k := 0) rfl (iZ_add _ _) (by decide) rfl (fun ls hl => ?_)
      refine lv_goto (tgt := 13) hx hb dX8_keep_39 (by decide) ?_
      exact ih13 (M9, (kk + 1)) ⟨(by show 0 ≤ (kk + 1) ∧ (kk + 1) ≤ 29; omega), (by show M9 = f_blk M 22 19 (Int.toNat (29 * im)) (0) (Int.toNat (kk + 1)); rw [f_blk_step _ _ _ _ _ (by omega), ← kab]; have q9 : Int.toNat (29 * im + kk) = (Int.toNat (29 * im)) + Int.toNat kk := (by omega); have q7 : Int.toNat (kk) = (0) + Int.toNat kk := (by omega); have q8 : Ma 19 (Int.toNat (kk)) = M 19 ((0) + Int.toNat kk) := (by have r9 := f_blk_rd (M := M) (F := 22) (G := 19) (d := Int.toNat (29 * im)) (s := 0) (k := Int.toNat kk) (i := Int.toNat kk) (by omega); rw [← kab] at r9; exact (congrArg (Ma 19) q7).trans r9); rw [← q9, ← q8]; assumption)⟩ (by show (29 - (kk + 1)).toNat < (29 - kk).toNat; omega) H locs ⟨hP, hS⟩ ls (lv_sub hl [0, 1, 2] rfl)
  · refine lv_iconst (v := iZ (-1)) hx hb dX8_keep_9 (by decide) ?_
    exact mq_retM hx hb hK hP hS hr rfl (by unfold s_keep; first | omega | (subst_vars; rw [if_neg (by omega)]; rfl) | omega) (by first | (unfold f_keep; rw [if_pos (by omega)]; done) | (have q : kk = 29 := (by omega); have q2 : kk2 = 290 := (by omega); subst q q2; subst_vars; unfold f_keep; rw [if_neg (by omega)]; rfl) | omega) dX8_keep_10 hlocks
set_option maxHeartbeats 4000000 in
set_option maxRecDepth 100000 in
theorem C_back (l : Launch) (D : va_G) (C : mC) (h : Nat) (a : Nat → Nat) (M : Nat → Nat → Int) (im : Int) (hI : mI M) (h1 : -2147483648 ≤ im ∧ im < 2147483648) (hN : va_D (fun _ => True) (mW C h a M)) : Met l yX8_back wsX8_back ({ frames := 1, cells := 0, slots := 0, locals := 22 }) (va_Pc [.ref h, .int (iZ im)] (mOk D C h a M)) (va_Qi (fun r (_ : Unit) => r = iZ (s_back M im)) (fun _ t => mOk D C h a (f_back M im) t) (mA h a)) 0 0 (mA h a) := by
  refine Met.ofW (cc := cX8_back) (maxL := 3) (ret := (some .int)) (by decide) rfl ?_
  intro p e s m args below meth c s₁ B hml hv
  obtain ⟨rfl, hP, hK⟩ := hv
  have hx := B.exec
  have hb := B.bytes
  have hr := B.returns
  have hts := atoms_spec (ws := wsX8_back) B.pre
  have hown : s.vm.findClass RX8 = some m.cls := findClass_of_methodNamed B.named
  have hlocks := B.notSynchronized
  have hin : ∀ w ∈ wsX80, w ∈ wsX8_back := fun _ w_h => (List.mem_cons_of_mem _ (List.mem_append_right _ w_h))
  have hl := lv_entry ([.ref h, .int (iZ im)]) (n := 3) (Nat.le_of_ble_eq_true rfl)
  rw [lg_entry_eq]
  generalize (lg_sl ([.ref h, .int (iZ im)]) ++ List.replicate (3 - (lg_sl ([.ref h, .int (iZ im)])).length) Slot.unset).toArray = ls at hl ⊢
  replace hl : lv_has ls 3 [(0, .ref h), (1, .int (iZ im))] := hl
  have hD : va_D (mA h a) (mW C h a M) := mD_own hN
  have hA : ∀ q, mA h a q → mA h a q := fun _ h9 => h9
  generalize hHe : s.heap = H at hP ⊢
  have hS : va_S (mA h a) s.heap H [] := by rw [hHe]; exact va_S.rf
  generalize hlo : ([] : List Loc) = locs at hS ⊢
  clear hHe hlo
  have hnw := mI_now hI
  refine lv_iload_n hx hb dX8_back_0 rfl (lv_at hl 1 rfl) ?_
  refine lv_iconst (v := iZ 0) hx hb dX8_back_1 (by decide) ?_
  refine lv_iconst (v := iZ 1) hx hb dX8_back_2 (by decide) ?_
  refine mq_cs (As := [.int (iZ im), .int (iZ 0), .int (iZ 1)]) (rest := []) ⟨hx, hb, hml, hown, hts⟩ (C_in l im 0 1 (by omega) (by omega) (by omega)) (va_cwS 3 hts gX8_back_X8_in rfl rfl rfl (by decide +kernel) ⟨Nat.le_of_ble_eq_true rfl, Nat.le_of_ble_eq_true rfl⟩) rfl rfl hl.1 (Nat.le_of_ble_eq_true rfl) ⟨Nat.le_of_ble_eq_true rfl, Nat.le_of_ble_eq_true rfl⟩ dX8_back_3 ?_
  refine z_ifb_ne (P := (0 ≤ im ∧ im ≤ 1)) (tgt := 11) hx hb dX8_back_6 (by decide) (fun c1 => ?_) (fun c1 => ?_)
  · refine lv_aload_n hx hb dX8_back_11 rfl (lv_at hl 0 rfl) ?_
    refine W.eq (g2 := F0 m 12 ls [.ref h]) rfl ?_
    refine mq_get hx hb hts hin hown hK hP 23 (by decide) (hts (.fieldLink RX8 56 "WordFletchersModel" "isKept" "[Z") (List.mem_cons_of_mem _ (List.mem_append_left _ (List.mem_of_getElem? (i := 0) rfl)))) rfl dX8_back_12 ?_
    refine lv_iload_n hx hb dX8_back_15 rfl (lv_at hl 1 rfl) ?_
    refine mq_zald hx hb hK hP 23 16 (n := 2) rfl (by decide) (Int.toNat im) rfl (by omega) dX8_back_16 ?_
    have hk9 := mI_kp hI (k := im) (by omega)
    refine z_if_ne (x := (M 23 (Int.toNat im))) (tgt := 23) hx hb (by omega) dX8_back_17 (by decide) (fun c2 => ?_) (fun c2 => ?_)
    · refine lv_iconst (v := iZ 0) hx hb dX8_back_23 (by decide) ?_
      refine lv_istore_n (lv' := [(2, .int (iZ 0)), (0, .ref h), (1, .int (iZ im))]) hx hb dX8_back_24 rfl hl (by decide) rfl (fun ls hl => ?_)
      replace hl : lv_has ls 3 [(2, .int (iZ (0 : Int))), (0, .ref h), (1, .int (iZ im))] := lv_sub hl [0, 1, 2] rfl
      replace hP := And.intro hP hS
      clear hS
      revert ls
      revert hP
      revert H locs
      refine z_loopH (σ := (Nat → Nat → Int) × Int) (fun x9 => (0 ≤ x9.2 ∧ x9.2 ≤ 29) ∧ (x9.1 = f_blk M 19 22 (0) (Int.toNat (29 * im)) (Int.toNat x9.2))) (fun x9 H9 locs9 => va_P D vwCl (mW C h a (x9.1)) H9 ∧ va_S (mA h a) s.heap H9 locs9) (fun x9 => [(2, .int (iZ (x9.2))), (0, .ref h), (1, .int (iZ im))]) 3 (fun x9 => (29 - x9.2).toNat) (M, (0 : Int)) ⟨(by show 0 ≤ (0 : Int) ∧ (0 : Int) ≤ 29; omega), (by show M = f_blk M 19 22 (0) (Int.toNat (29 * im)) (Int.toNat (0 : Int)); exact (f_blk_0 _ _ _ _ _).symm)⟩ ?_
      rintro ⟨Ma, kk⟩ hI9 ih25 H locs hPS ls hl
      have hP : va_P D vwCl (mW C h a Ma) H := hPS.1
      have hS : va_S (mA h a) s.heap H locs := hPS.2
      clear hPS
      have hD : va_D (mA h a) (mW C h a Ma) := mD_re hD
      obtain ⟨kaa, kab⟩ := hI9
      replace kaa : 0 ≤ kk ∧ kk ≤ 29 := kaa
      replace kab : Ma = f_blk M 19 22 (0) (Int.toNat (29 * im)) (Int.toNat kk) := kab
      replace hl : lv_has ls 3 [(2, .int (iZ kk)), (0, .ref h), (1, .int (iZ im))] := hl
      refine lv_iload_n hx hb dX8_back_25 rfl (lv_at hl 0 rfl) ?_
      refine lv_bipush (v := iZ 29) hx hb dX8_back_26 (by decide) ?_
      refine z_icmp_ge (x := kk) (y := 29) (tgt := 54) hx hb (by omega) (by omega) dX8_back_28 (by decide) (fun c3 => ?_) (fun c3 => ?_)
      · refine lv_iconst (v := iZ 0) hx hb dX8_back_54 (by decide) ?_
        refine W.eq (g2 := F0 m 55 ls [.int (iZ 0)]) rfl ?_
        refine lv_istore_n (lv' := [(2, .int (iZ 0)), (0, .ref h), (1, .int (iZ im))]) hx hb dX8_back_55 rfl hl (by decide) rfl (fun ls hl => ?_)
        replace hl : lv_has ls 3 [(2, .int (iZ (0 : Int))), (0, .ref h), (1, .int (iZ im))] := lv_sub hl [0, 1, 2] rfl
        replace hP := And.intro hP hS
        clear hS
        revert ls
        revert hP
        revert H locs
        refine z_loopH (σ := (Nat → Nat → Int) × Int) (fun x9 => (0 ≤ x9.2 ∧ x9.2 ≤ 290) ∧ (x9.1 = f_blk Ma 21 21 (0) (Int.toNat (290 * (1 + im))) (Int.toNat x9.2))) (fun x9 H9 locs9 => va_P D vwCl (mW C h a (x9.1)) H9 ∧ va_S (mA h a) s.heap H9 locs9) (fun x9 => [(2, .int (iZ (x9.2))), (0, .ref h), (1, .int (iZ im))]) 3 (fun x9 => (290 - x9.2).toNat) (Ma, (0 : Int)) ⟨(by show 0 ≤ (0 : Int) ∧ (0 : Int) ≤ 290; omega), (by show Ma = f_blk Ma 21 21 (0) (Int.toNat (290 * (1 + im))) (Int.toNat (0 : Int)); exact (f_blk_0 _ _ _ _ _).symm)⟩ ?_
        rintro ⟨Mb, kk2⟩ hI9 ih56 H locs hPS ls hl
        have hP : va_P D vwCl (mW C h a Mb) H := hPS.1
        have hS : va_S (mA h a) s.heap H locs := hPS.2
        clear hPS
        have hD : va_D (mA h a) (mW C h a Mb) := mD_re hD
        obtain ⟨kba, kbb⟩ := hI9
        replace kba : 0 ≤ kk2 ∧ kk2 ≤ 290 := kba
        replace kbb : Mb = f_blk Ma 21 21 (0) (Int.toNat (290 * (1 + im))) (Int.toNat kk2) := kbb
        replace hl : lv_has ls 3 [(2, .int (iZ kk2)), (0, .ref h), (1, .int (iZ im))] := hl
        refine lv_iload_n hx hb dX8_back_56 rfl (lv_at hl 0 rfl) ?_
        refine lv_sipush (v := iZ 290) hx hb dX8_back_57 (by decide) ?_
        refine z_icmp_ge (x := kk2) (y := 290) (tgt := 89) hx hb (by omega) (by omega) dX8_back_60 (by decide) (fun c5 => ?_) (fun c5 => ?_)
        · refine lv_aload_n hx hb dX8_back_89 rfl (lv_at hl 1 rfl) ?_
          refine mq_get hx hb hts hin hown hK hP 20 (by decide) (hts (.fieldLink RX8 47 "WordFletchersModel" "known" "[I") (List.mem_cons_of_mem _ (List.mem_append_left _ (List.mem_of_getElem? (i := 4) rfl)))) rfl dX8_back_90 ?_
          refine lv_iconst (v := iZ 0) hx hb dX8_back_93 (by decide) ?_
          refine lv_aload_n hx hb dX8_back_94 rfl (lv_at hl 1 rfl) ?_
          refine W.eq (g2 := F0 m 95 ls [.ref h, .int (iZ 0), .ref (a 20)]) rfl ?_
          refine mq_get hx hb hts hin hown hK hP 20 (by decide) (hts (.fieldLink RX8 47 "WordFletchersModel" "known" "[I") (List.mem_cons_of_mem _ (List.mem_append_left _ (List.mem_of_getElem? (i := 4) rfl)))) rfl dX8_back_95 ?_
          refine lv_iconst (v := iZ 1) hx hb dX8_back_98 (by decide) ?_
          refine lv_iload_n hx hb dX8_back_99 rfl (lv_at hl 2 rfl) ?_
          refine z_iadd hx hb dX8_back_100 ?_
          refine mq_iald hx hb hK hP 20 13 (n := 3) rfl (by decide) (Int.toNat (1 + im)) rfl (by omega) dX8_back_101 ?_
          refine mq_iast hx hb hK hP hD hS 20 13 (n := 3) rfl (fun k9 => mS_20 C h a _ k9 _) (by decide) 0 rfl (by omega) dX8_back_102 (fun H locs hP hD hS => ?_)
          obtain ⟨M7, hM7⟩ : ∃ z : Nat → Nat → Int, z = (mU Mb 20 0 (Mb 20 (Int.toNat (1 + im)))) := ⟨_, rfl⟩
          rw [← hM7] at hP hD
          refine lv_aload_n hx hb dX8_back_103 rfl (lv_at hl 1 rfl) ?_
          refine mq_get hx hb hts hin hown hK hP 19 (by decide) (hts (.fieldLink RX8 44 "WordFletchersModel" "now" "[I") (List.mem_cons_of_mem _ (List.mem_append_left _ (List.mem_of_getElem? (i := 1) rfl)))) rfl dX8_back_104 ?_
          refine lv_iconst (v := iZ 0) hx hb dX8_back_107 (by decide) ?_
          refine mq_iald hx hb hK hP 19 12 (n := 29) rfl (by decide) 0 rfl (by omega) dX8_back_108 ?_
          exact mq_retM hx hb hK hP hS hr rfl (by unfold s_back; first | omega | (subst_vars; rw [if_neg (by omega), if_neg (by omega)]; have q : kk = 29 := (by omega); subst q; rfl) | omega) (by first | (unfold f_back; rw [if_pos (by omega)]; done) | (unfold f_back; rw [if_neg (by omega), if_pos (by omega)]; done) | (have q : kk = 29 := (by omega); have q2 : kk2 = 290 := (by omega); subst q q2; subst_vars; unfold f_back; rw [if_neg (by omega), if_neg (by omega)]; rfl) | omega) dX8_back_109 hlocks
        · refine lv_aload_n hx hb dX8_back_63 rfl (lv_at hl 1 rfl) ?_
          refine W.eq (g2 := F0 m 64 ls [.ref h]) rfl ?_
          refine mq_get hx hb hts hin hown hK hP 21 (by decide) (hts (.fieldLink RX8 50 "WordFletchersModel" "before" "[I") (List.mem_cons_of_mem _ (List.mem_append_left _ (List.mem_of_getElem? (i := 3) rfl)))) rfl dX8_back_64 ?_
          refine lv_iload_n hx hb dX8_back_67 rfl (lv_at hl 0 rfl) ?_
          refine lv_aload_n hx hb dX8_back_68 rfl (lv_at hl 1 rfl) ?_
          refine mq_get hx hb hts hin hown hK hP 21 (by decide) (hts (.fieldLink RX8 50 "WordFletchersModel" "before" "[I") (List.mem_cons_of_mem _ (List.mem_append_left _ (List.mem_of_getElem? (i := 3) rfl)))) rfl dX8_back_69 ?_
          refine lv_sipush (v := iZ 290) hx hb dX8_back_72 (by decide) ?_
          refine lv_iconst (v := iZ 1) hx hb dX8_back_75 (by decide) ?_
          refine lv_iload_n hx hb dX8_back_76 rfl (lv_at hl 2 rfl) ?_
          refine z_iadd hx hb dX8_back_77 ?_
          refine z_imul hx hb dX8_back_78 ?_
          refine lv_iload_n hx hb dX8_back_79 rfl (lv_at hl 0 rfl) ?_
          refine z_iadd hx hb dX8_back_80 ?_
          refine mq_iald hx hb hK hP 21 14 (n := 870) rfl (by decide) (Int.toNat ((290 * (1 + im)) + kk2)) rfl (by omega) dX8_back_81 ?_
          refine W.eq (g2 := F0 m 82 ls [.int (iZ (Mb 21 (Int.toNat ((290 * (1 + im)) + kk2)))), .int (iZ kk2), .ref (a 21)]) rfl ?_
          refine mq_iast hx hb hK hP hD hS 21 14 (n := 870) rfl (fun k9 => mS_21 C h a _ k9 _) (by decide) (Int.toNat kk2) rfl (by omega) dX8_back_82 (fun H locs hP hD hS => ?_)
          obtain ⟨M8, hM8⟩ : ∃ z : Nat → Nat → Int, z = (mU Mb 21 (Int.toNat kk2) (Mb 21 (Int.toNat ((290 * (1 + im)) + kk2)))) := ⟨_, rfl⟩
          rw [← hM8] at hP hD
          refine lv_iinc (v := iZ (kk2 + 1)) (lv' := [(2, .int (iZ (kk2 + 1))), (0, .ref h), (1, .int (iZ im))]) hx hb dX8_back_83 hl (k := 0) rfl (iZ_add _ _) (by decide) rfl (fun ls hl => ?_)
          refine lv_goto (tgt := 56) hx hb dX8_back_86 (by decide) ?_
          exact ih56 (M8, (kk2 + 1)) ⟨(by show 0 ≤ (kk2 + 1) ∧ (kk2 + 1) ≤ 290; omega), (by show M8 = f_blk Ma 21 21 (0) (Int.toNat (290 * (1 + im))) (Int.toNat (kk2 + 1)); rw [f_blk_step _ _ _ _ _ (by omega), ← kbb]; have q9 : Int.toNat (kk2) = (0) + Int.toNat kk2 := (by omega); have q7 : Int.toNat (290 * (1 + im) + kk2) = (Int.toNat (290 * (1 + im))) + Int.toNat kk2 := (by omega); have q8 : Mb 21 (Int.toNat (290 * (1 + im) + kk2)) = Ma 21 ((Int.toNat (290 * (1 + im))) + Int.toNat kk2) := (by have r9 := f_blk_rd (M := Ma) (F := 21) (G := 21) (d := 0) (s := Int.toNat (290 * (1 + im))) (k := Int.toNat kk2) (i := Int.toNat kk2) (by omega); rw [← kbb] at r9; exact (congrArg (Mb 21) q7).trans r9); rw [← q9, ← q8]; assumption)⟩ (by show (290 - (kk2 + 1)).toNat < (290 - kk2).toNat; omega) H locs ⟨hP, hS⟩ ls (lv_sub hl [0, 1, 2] rfl)
      · refine lv_aload_n hx hb dX8_back_31 rfl (lv_at hl 1 rfl) ?_
        refine mq_get hx hb hts hin hown hK hP 19 (by decide) (hts (.fieldLink RX8 44 "WordFletchersModel" "now" "[I") (List.mem_cons_of_mem _ (List.mem_append_left _ (List.mem_of_getElem? (i := 1) rfl)))) rfl dX8_back_32 ?_
        refine lv_iload_n hx hb dX8_back_35 rfl (lv_at hl 0 rfl) ?_
        refine lv_aload_n hx hb dX8_back_36 rfl (lv_at hl 1 rfl) ?_
        refine mq_get hx hb hts hin hown hK hP 22 (by decide) (hts (.fieldLink RX8 53 "WordFletchersModel" "store" "[I") (List.mem_cons_of_mem _ (List.mem_append_left _ (List.mem_of_getElem? (i := 2) rfl)))) rfl dX8_back_37 ?_
        refine lv_bipush (v := iZ 29) hx hb dX8_back_40 (by decide) ?_
        refine lv_iload_n hx hb dX8_back_42 rfl (lv_at hl 2 rfl) ?_
        refine z_imul hx hb dX8_back_43 ?_
        refine lv_iload_n hx hb dX8_back_44 rfl (lv_at hl 0 rfl) ?_
        refine W.eq (g2 := F0 m 45 ls [.int (iZ kk), .int (iZ (29 * im)), .ref (a 22), .int (iZ kk), .ref (a 19)]) rfl ?_
        refine z_iadd hx hb dX8_back_45 ?_
        refine mq_iald hx hb hK hP 22 15 (n := 58) rfl (by decide) (Int.toNat ((29 * im) + kk)) rfl (by omega) dX8_back_46 ?_
        refine mq_iast hx hb hK hP hD hS 19 12 (n := 29) rfl (fun k9 => mS_19 C h a _ k9 _) (by decide) (Int.toNat kk) rfl (by omega) dX8_back_47 (fun H locs hP hD hS => ?_)
        obtain ⟨M9, hM9⟩ : ∃ z : Nat → Nat → Int, z = (mU Ma 19 (Int.toNat kk) (Ma 22 (Int.toNat ((29 * im) + kk)))) := ⟨_, rfl⟩
        rw [← hM9] at hP hD
        refine lv_iinc (v := iZ (kk + 1)) (lv' := [(2, .int (iZ (kk + 1))), (0, .ref h), (1, .int (iZ im))]) hx hb dX8_back_48 hl (k := 0) rfl (iZ_add _ _) (by decide) rfl (fun ls hl => ?_)
        refine lv_goto (tgt := 25) hx hb dX8_back_51 (by decide) ?_
        exact ih25 (M9, (kk + 1)) ⟨(by show 0 ≤ (kk + 1) ∧ (kk + 1) ≤ 29; omega), (by show M9 = f_blk M 19 22 (0) (Int.toNat (29 * im)) (Int.toNat (kk + 1)); rw [f_blk_step _ _ _ _ _ (by omega), ← kab]; have q9 : Int.toNat (kk) = (0) + Int.toNat kk := (by omega); have q7 : Int.toNat (29 * im + kk) = (Int.toNat (29 * im)) + Int.toNat kk := (by omega); have q8 : Ma 22 (Int.toNat (29 * im + kk)) = M 22 ((Int.toNat (29 * im)) + Int.toNat kk) := (by have r9 := f_blk_rd (M := M) (F := 19) (G := 22) (d := 0) (s := Int.toNat (29 * im)) (k := Int.toNat kk) (i := Int.toNat kk) (by omega); rw [← kab] at r9; exact (congrArg (Ma 22) q7).trans r9); rw [← q9, ← q8]; assumption)⟩ (by show (29 - (kk + 1)).toNat < (29 - kk).toNat; omega) H locs ⟨hP, hS⟩ ls (lv_sub hl [0, 1, 2] rfl)
    · refine lv_bipush (v := iZ (-2)) hx hb dX8_back_20 (by decide) ?_
      exact mq_retM hx hb hK hP hS hr rfl (by unfold s_back; first | omega | (subst_vars; rw [if_neg (by omega), if_neg (by omega)]; have q : kk = 29 := (by omega); subst q; rfl) | omega) (by first | (unfold f_back; rw [if_pos (by omega)]; done) | (unfold f_back; rw [if_neg (by omega), if_pos (by omega)]; done) | (have q : kk = 29 := (by omega); have q2 : kk2 = 290 := (by omega); subst q q2; subst_vars; unfold f_back; rw [if_neg (by omega), if_neg (by omega)]; rfl) | omega) dX8_back_22 hlocks
  · refine lv_iconst (v := iZ (-1)) hx hb dX8_back_9 (by decide) ?_
    exact mq_retM hx hb hK hP hS hr rfl (by unfold s_back; first | omega | (subst_vars; rw [if_neg (by omega), if_neg (by omega)]; have q : kk = 29 := (by omega); subst q; rfl) | omega) (by first | (unfold f_back; rw [if_pos (by omega)]; done) | (unfold f_back; rw [if_neg (by omega), if_pos (by omega)]; done) | (have q : kk = 29 := (by omega); have q2 : kk2 = 290 := (by omega); subst q q2; subst_vars; unfold f_back; rw [if_neg (by omega), if_neg (by omega)]; rfl) | omega) dX8_back_10 hlocks
set_option maxHeartbeats 4000000 in
set_option maxRecDepth 100000 in
theorem C_picks (l : Launch) (D : va_G) (C : mC) (h : Nat) (a : Nat → Nat) (M : Nat → Nat → Int) (pe : Int) (hI : mI M) (h1 : -2147483648 ≤ pe ∧ pe < 2147483648) (hN : va_D (fun _ => True) (mW C h a M)) : Met l yX8_picks wsX8_picks ({ frames := 2, cells := 0, slots := 0, locals := 43 }) (va_Pc [.ref h, .int (iZ pe)] (mOk D C h a M)) (va_Qi (fun r (_ : Unit) => r = iZ (s_picks M pe)) (fun _ t => mOk D C h a (f_picks M pe) t) (mA h a)) 0 0 (mA h a) := by
  refine Met.ofW (cc := cX8_picks) (maxL := 4) (ret := (some .int)) (by decide) rfl ?_
  intro p e s m args below meth c s₁ B hml hv
  obtain ⟨rfl, hP, hK⟩ := hv
  have hx := B.exec
  have hb := B.bytes
  have hr := B.returns
  have hts := atoms_spec (ws := wsX8_picks) B.pre
  have hown : s.vm.findClass RX8 = some m.cls := findClass_of_methodNamed B.named
  have hlocks := B.notSynchronized
  have hin : ∀ w ∈ wsX80, w ∈ wsX8_picks := fun _ w_h => (List.mem_cons_of_mem _ (List.mem_append_right _ w_h))
  have hl := lv_entry ([.ref h, .int (iZ pe)]) (n := 4) (Nat.le_of_ble_eq_true rfl)
  rw [lg_entry_eq]
  generalize (lg_sl ([.ref h, .int (iZ pe)]) ++ List.replicate (4 - (lg_sl ([.ref h, .int (iZ pe)])).length) Slot.unset).toArray = ls at hl ⊢
  replace hl : lv_has ls 4 [(0, .ref h), (1, .int (iZ pe))] := hl
  have hD : va_D (mA h a) (mW C h a M) := mD_own hN
  have hA : ∀ q, mA h a q → mA h a q := fun _ h9 => h9
  generalize hHe : s.heap = H at hP ⊢
  have hS : va_S (mA h a) s.heap H [] := by rw [hHe]; exact va_S.rf
  generalize hlo : ([] : List Loc) = locs at hS ⊢
  clear hHe hlo
  have hnw := mI_now hI
  refine lv_aload_n hx hb dX8_picks_0 rfl (lv_at hl 0 rfl) ?_
  refine lv_iload_n hx hb dX8_picks_1 rfl (lv_at hl 1 rfl) ?_
  refine mq_ci (As := [.int (iZ pe)]) (rest := []) ⟨hx, hb, hml, hown, hts⟩ hK hP (C_isOne l D C h a M pe hI (by omega)) (cwV 1 hts gX8_picks_X8_isOne rfl rfl rfl (by decide +kernel) ⟨Nat.le_of_ble_eq_true rfl, Nat.le_of_ble_eq_true rfl⟩) rfl rfl hl.1 (Nat.le_of_ble_eq_true rfl) ⟨Nat.le_of_ble_eq_true rfl, Nat.le_of_ble_eq_true rfl⟩ dX8_picks_2 ?_
  refine W.eq (g2 := F0 m 5 ls [.int (iZ (if (0 ≤ pe ∧ pe < M 2 0) then 1 else 0))]) rfl ?_
  refine z_ifb_ne (P := (0 ≤ pe ∧ pe < M 2 0)) (tgt := 10) hx hb dX8_picks_5 (by decide) (fun c1 => ?_) (fun c1 => ?_)
  · refine lv_bipush (v := iZ (-9)) hx hb dX8_picks_10 (by decide) ?_
    refine lv_istore_n (lv' := [(2, .int (iZ (-9))), (0, .ref h), (1, .int (iZ pe))]) hx hb dX8_picks_12 rfl hl (by decide) rfl (fun ls hl => ?_)
    refine lv_aload_n hx hb dX8_picks_13 rfl (lv_at hl 1 rfl) ?_
    refine mq_get hx hb hts hin hown hK hP 19 (by decide) (hts (.fieldLink RX8 44 "WordFletchersModel" "now" "[I") (List.mem_cons_of_mem _ (List.mem_append_left _ (List.mem_of_getElem? (i := 0) rfl)))) rfl dX8_picks_14 ?_
    refine lv_bipush (v := iZ 12) hx hb dX8_picks_17 (by decide) ?_
    refine mq_iald hx hb hK hP 19 12 (n := 29) rfl (by decide) 12 rfl (by omega) dX8_picks_19 ?_
    refine lv_iconst (v := iZ 1) hx hb dX8_picks_20 (by decide) ?_
    refine z_isub hx hb dX8_picks_21 ?_
    refine lv_istore_n (lv' := [(3, .int (iZ ((M 19 12) - 1))), (2, .int (iZ (-9))), (0, .ref h), (1, .int (iZ pe))]) hx hb dX8_picks_22 rfl hl (by decide) rfl (fun ls hl => ?_)
    replace hl : lv_has ls 4 [(3, .int (iZ ((M 19 12) - 1))), (2, .int (iZ ((-9) : Int))), (0, .ref h), (1, .int (iZ pe))] := lv_sub hl [0, 1, 2, 3] rfl
    revert ls
    refine z_loop (σ := Int × Int) (fun x9 => (-1 ≤ x9.2 ∧ x9.2 < M 19 12) ∧ (x9.1 = zfind (fun q => decide (M 19 (Int.toNat (21 + q)) = M 3 (Int.toNat pe))) (M 19 12 - (x9.2 + 1)).toNat (x9.2 + 1))) (fun x9 => [(3, .int (iZ (x9.2))), (2, .int (iZ (x9.1))), (0, .ref h), (1, .int (iZ pe))]) 4 (fun x9 => (x9.2 + 1).toNat) (((-9) : Int), ((M 19 12) - 1)) ⟨(by show -1 ≤ ((M 19 12) - 1) ∧ ((M 19 12) - 1) < M 19 12; omega), (by show ((-9) : Int) = zfind (fun q => decide (M 19 (Int.toNat (21 + q)) = M 3 (Int.toNat pe))) (M 19 12 - (((M 19 12) - 1) + 1)).toNat (((M 19 12) - 1) + 1); have q9 : (M 19 12 - (M 19 12 - 1 + 1)).toNat = 0 := (by omega); rw [q9]; rfl)⟩ ?_
    rintro ⟨fd, ii⟩ hI9 ih23 ls hl
    obtain ⟨i1, i2⟩ := hI9
    replace i1 : -1 ≤ ii ∧ ii < M 19 12 := i1
    replace i2 : fd = zfind (fun q => decide (M 19 (Int.toNat (21 + q)) = M 3 (Int.toNat pe))) (M 19 12 - (ii + 1)).toNat (ii + 1) := i2
    replace hl : lv_has ls 4 [(3, .int (iZ ii)), (2, .int (iZ fd)), (0, .ref h), (1, .int (iZ pe))] := hl
    have hbd := zfind_bd (fun q => decide (M 19 (Int.toNat (21 + q)) = M 3 (Int.toNat pe))) (M 19 12 - (ii + 1)).toNat (ii + 1)
    rw [← i2] at hbd
    have hpl := mI_pe hI (k := pe) (by omega)
    have hly : 0 ≤ ii → (0 ≤ M 19 (Int.toNat (13 + ii)) ∧ M 19 (Int.toNat (13 + ii)) < M 5 0) ∧ (0 ≤ M 19 (Int.toNat (21 + ii)) ∧ M 19 (Int.toNat (21 + ii)) ≤ 30) := fun q => mI_ly hI ⟨q, by omega⟩
    refine lv_iload_n hx hb dX8_picks_23 rfl (lv_at hl 0 rfl) ?_
    refine z_if_lt (x := ii) (tgt := 57) hx hb (by omega) dX8_picks_24 (by decide) (fun c2 => ?_) (fun c2 => ?_)
    · refine lv_iload_n hx hb dX8_picks_57 rfl (lv_at hl 1 rfl) ?_
      refine lv_bipush (v := iZ (-9)) hx hb dX8_picks_58 (by decide) ?_
      refine z_icmp_ne (x := fd) (y := (-9)) (tgt := 66) hx hb (by omega) (by omega) dX8_picks_60 (by decide) (fun c6 => ?_) (fun c6 => ?_)
      · refine lv_aload_n hx hb dX8_picks_66 rfl (lv_at hl 2 rfl) ?_
        refine mq_cv (As := []) (rest := []) ⟨hx, hb, hml, hown, hts⟩ hK hP hD hS hA (C_know l D C h a M  hI (hD.weaken (fun _ _ _ _ => trivial))) (cwV 0 hts gX8_picks_X8_know rfl rfl rfl (by decide +kernel) ⟨Nat.le_of_ble_eq_true rfl, Nat.le_of_ble_eq_true rfl⟩) rfl rfl hl.1 (Nat.le_of_ble_eq_true rfl) ⟨Nat.le_of_ble_eq_true rfl, Nat.le_of_ble_eq_true rfl⟩ dX8_picks_67 (fun H locs hP hD hS => ?_)
        obtain ⟨M7, hM7⟩ : ∃ z : Nat → Nat → Int, z = (f_know M) := ⟨_, rfl⟩
        rw [← hM7] at hP hD
        have e1 : M7 19 = M 19 := by rw [hM7]; exact f_know_o M (by decide) (by decide)
        have k2 : M7 2 0 = M 2 0 := by rw [hM7, f_know_o M (by decide) (by decide)]
        have k5 : M7 5 0 = M 5 0 := by rw [hM7, f_know_o M (by decide) (by decide)]
        have hl9 := mI_ly hI (k := fd) (by omega)
        have e4 := congrFun e1 (Int.toNat (13 + fd))
        have hkn := mI_kn hI (k := M 19 (Int.toNat (13 + fd))) (by omega)
        have hkm : 0 ≤ M7 19 (Int.toNat (6 + M7 19 (Int.toNat (13 + fd)))) ∧ M7 19 (Int.toNat (6 + M7 19 (Int.toNat (13 + fd)))) < 64 := by rw [e1]; exact hkn
        have hzp := zp_nn pe
        refine lv_aload_n hx hb dX8_picks_70 rfl (lv_at hl 2 rfl) ?_
        refine mq_get hx hb hts hin hown hK hP 19 (by decide) (hts (.fieldLink RX8 44 "WordFletchersModel" "now" "[I") (List.mem_cons_of_mem _ (List.mem_append_left _ (List.mem_of_getElem? (i := 0) rfl)))) rfl dX8_picks_71 ?_
        refine W.eq (g2 := F0 m 74 ls [.ref (a 19)]) rfl ?_
        refine lv_bipush (v := iZ 13) hx hb dX8_picks_74 (by decide) ?_
        refine lv_iload_n hx hb dX8_picks_76 rfl (lv_at hl 1 rfl) ?_
        refine z_iadd hx hb dX8_picks_77 ?_
        refine mq_iald hx hb hK hP 19 12 (n := 29) rfl (by decide) (Int.toNat (13 + fd)) rfl (by omega) dX8_picks_78 ?_
        refine lv_istore_n (lv' := [(3, .int (iZ (M7 19 (Int.toNat (13 + fd))))), (2, .int (iZ fd)), (0, .ref h), (1, .int (iZ pe))]) hx hb dX8_picks_79 rfl hl (by decide) rfl (fun ls hl => ?_)
        refine lv_aload_n hx hb dX8_picks_80 rfl (lv_at hl 2 rfl) ?_
        refine mq_get hx hb hts hin hown hK hP 19 (by decide) (hts (.fieldLink RX8 44 "WordFletchersModel" "now" "[I") (List.mem_cons_of_mem _ (List.mem_append_left _ (List.mem_of_getElem? (i := 0) rfl)))) rfl dX8_picks_81 ?_
        refine lv_bipush (v := iZ 6) hx hb dX8_picks_84 (by decide) ?_
        refine lv_iload_n hx hb dX8_picks_86 rfl (lv_at hl 0 rfl) ?_
        refine z_iadd hx hb dX8_picks_87 ?_
        refine lv_dup2_11 hx hb dX8_picks_88 rfl rfl ?_
        refine mq_iald hx hb hK hP 19 12 (n := 29) rfl (by decide) (Int.toNat (6 + (M7 19 (Int.toNat (13 + fd))))) rfl (by omega) dX8_picks_89 ?_
        refine W.eq (g2 := F0 m 90 ls [.int (iZ (M7 19 (Int.toNat (6 + (M7 19 (Int.toNat (13 + fd))))))), .int (iZ (6 + (M7 19 (Int.toNat (13 + fd))))), .ref (a 19)]) rfl ?_
        refine lv_iconst (v := iZ 1) hx hb dX8_picks_90 (by decide) ?_
        refine lv_iload_n hx hb dX8_picks_91 rfl (lv_at hl 3 rfl) ?_
        refine z_ishl1 hx hb (by omega) dX8_picks_92 ?_
        refine z_ior hx hb (by omega) (by omega) dX8_picks_93 ?_
        refine mq_iast hx hb hK hP hD hS 19 12 (n := 29) rfl (fun k9 => mS_19 C h a _ k9 _) (by decide) (Int.toNat (6 + (M7 19 (Int.toNat (13 + fd))))) rfl (by omega) dX8_picks_94 (fun H locs hP hD hS => ?_)
        obtain ⟨M8, hM8⟩ : ∃ z : Nat → Nat → Int, z = (mU M7 19 (Int.toNat (6 + (M7 19 (Int.toNat (13 + fd))))) (zor (M7 19 (Int.toNat (6 + (M7 19 (Int.toNat (13 + fd)))))) (zp pe))) := ⟨_, rfl⟩
        rw [← hM8] at hP hD
        refine lv_aload_n hx hb dX8_picks_95 rfl (lv_at hl 2 rfl) ?_
        refine lv_iload_n hx hb dX8_picks_96 rfl (lv_at hl 1 rfl) ?_
        refine mq_cv (As := [.int (iZ fd)]) (rest := []) ⟨hx, hb, hml, hown, hts⟩ hK hP hD hS hA (C_takeUp l D C h a M8 fd (by omega) (hD.weaken (fun _ _ _ _ => trivial))) (cwV 1 hts gX8_picks_X8_takeUp rfl rfl rfl (by decide +kernel) ⟨Nat.le_of_ble_eq_true rfl, Nat.le_of_ble_eq_true rfl⟩) rfl rfl hl.1 (Nat.le_of_ble_eq_true rfl) ⟨Nat.le_of_ble_eq_true rfl, Nat.le_of_ble_eq_true rfl⟩ dX8_picks_97 (fun H locs hP hD hS => ?_)
        obtain ⟨M9, hM9⟩ : ∃ z : Nat → Nat → Int, z = (f_take M8 fd) := ⟨_, rfl⟩
        rw [← hM9] at hP hD
        refine lv_iload_n hx hb dX8_picks_100 rfl (lv_at hl 0 rfl) ?_
        exact mq_retM hx hb hK hP hS hr rfl (by unfold s_picks; first | omega | (have q : ii = -1 := (by omega); have q2 : s_fnd M pe = fd := (by rw [i2, q]; rfl); rw [q2]; first | omega | (rw [if_neg (by omega), if_neg (by omega)]; exact e4)) | omega) (by first | (unfold f_picks; rw [if_pos (by omega)]; done) | (have q : ii = -1 := (by omega); have q2 : s_fnd M pe = fd := (by rw [i2, q]; rfl); unfold f_picks; rw [q2, if_neg (by omega), if_pos (by omega)]; done) | (have q : ii = -1 := (by omega); have q2 : s_fnd M pe = fd := (by rw [i2, q]; rfl); unfold f_picks; rw [q2, if_neg (by omega), if_neg (by omega)]; subst_vars; rfl) | omega) dX8_picks_101 hlocks
      · refine lv_bipush (v := iZ (-2)) hx hb dX8_picks_63 (by decide) ?_
        exact mq_retM hx hb hK hP hS hr rfl (by unfold s_picks; first | omega | (have q : ii = -1 := (by omega); have q2 : s_fnd M pe = fd := (by rw [i2, q]; rfl); rw [q2]; first | omega | (rw [if_neg (by omega), if_neg (by omega)]; exact e4)) | omega) (by first | (unfold f_picks; rw [if_pos (by omega)]; done) | (have q : ii = -1 := (by omega); have q2 : s_fnd M pe = fd := (by rw [i2, q]; rfl); unfold f_picks; rw [q2, if_neg (by omega), if_pos (by omega)]; done) | (have q : ii = -1 := (by omega); have q2 : s_fnd M pe = fd := (by rw [i2, q]; rfl); unfold f_picks; rw [q2, if_neg (by omega), if_neg (by omega)]; subst_vars; rfl) | omega) dX8_picks_65 hlocks
    · refine W.eq (g2 := F0 m 27 ls []) rfl ?_
      refine lv_aload_n hx hb dX8_picks_27 rfl (lv_at hl 2 rfl) ?_
      refine mq_get hx hb hts hin hown hK hP 19 (by decide) (hts (.fieldLink RX8 44 "WordFletchersModel" "now" "[I") (List.mem_cons_of_mem _ (List.mem_append_left _ (List.mem_of_getElem? (i := 0) rfl)))) rfl dX8_picks_28 ?_
      refine lv_bipush (v := iZ 21) hx hb dX8_picks_31 (by decide) ?_
      refine lv_iload_n hx hb dX8_picks_33 rfl (lv_at hl 0 rfl) ?_
      refine z_iadd hx hb dX8_picks_34 ?_
      refine mq_iald hx hb hK hP 19 12 (n := 29) rfl (by decide) (Int.toNat (21 + ii)) rfl (by omega) dX8_picks_35 ?_
      refine lv_aload_n hx hb dX8_picks_36 rfl (lv_at hl 2 rfl) ?_
      refine mq_get hx hb hts hin hown hK hP 3 (by decide) (hts (.fieldLink RX8 17 "WordFletchersModel" "place" "[I") (List.mem_cons_of_mem _ (List.mem_append_left _ (List.mem_of_getElem? (i := 1) rfl)))) rfl dX8_picks_37 ?_
      refine lv_iload_n hx hb dX8_picks_40 rfl (lv_at hl 3 rfl) ?_
      refine mq_iald hx hb hK hP 3 3 (n := 12) rfl (by decide) (Int.toNat pe) rfl (by omega) dX8_picks_41 ?_
      have K12 : ∀ (v11 : Int), (v11 = (if (M 19 (Int.toNat (21 + ii))) = (M 3 (Int.toNat pe)) then ii else fd)) → ∀ ls : Array Slot, lv_has ls 4 [(3, .int (iZ ii)), (0, .ref h), (1, .int (iZ pe))] → W p l e ((headSpec wsX8_picks ({ frames := 2, cells := 0, slots := 0, locals := 43 })).room) s m (([.ref h, .int (iZ pe)] : List Value).toArray) below meth c H locs 0 0 (MQ below (va_Qi (fun r (_ : Unit) => r = iZ (s_picks M pe)) (fun _ t => mOk D C h a (f_picks M pe) t) (mA h a)) (([.ref h, .int (iZ pe)] : List Value).toArray) s 0 0 (mA h a)) (F0 m 50 ls [.int (iZ v11)]) := by
        intro v11 hv11 ls hl
        refine lv_istore_n (lv' := [(2, .int (iZ v11)), (3, .int (iZ ii)), (0, .ref h), (1, .int (iZ pe))]) hx hb dX8_picks_50 rfl hl (by decide) rfl (fun ls hl => ?_)
        refine lv_iinc (v := iZ (ii + (-1))) (lv' := [(3, .int (iZ (ii + (-1)))), (2, .int (iZ v11)), (0, .ref h), (1, .int (iZ pe))]) hx hb dX8_picks_51 hl (k := 1) rfl (iZ_add _ _) (by decide) rfl (fun ls hl => ?_)
        refine lv_goto (tgt := 23) hx hb dX8_picks_54 (by decide) ?_
        exact ih23 (v11, (ii + (-1))) ⟨(by show -1 ≤ (ii + (-1)) ∧ (ii + (-1)) < M 19 12; omega), (by show v11 = zfind (fun q => decide (M 19 (Int.toNat (21 + q)) = M 3 (Int.toNat pe))) (M 19 12 - ((ii + (-1)) + 1)).toNat ((ii + (-1)) + 1); have q9 : ii + (-1) + 1 = ii := (by omega); rw [q9, zfind_step _ _ _ (by omega), ← i2]; first | omega | (simp only [decide_eq_true_eq]; omega))⟩ (by show ((ii + (-1)) + 1).toNat < (ii + 1).toNat; omega) ls (lv_sub hl [0, 1, 2, 3] rfl)
      refine z_icmp_ne (x := (M 19 (Int.toNat (21 + ii)))) (y := (M 3 (Int.toNat pe))) (tgt := 49) hx hb (by omega) (by omega) dX8_picks_42 (by decide) (fun c10 => ?_) (fun c10 => ?_)
      · refine lv_iload_n hx hb dX8_picks_49 rfl (lv_at hl 1 rfl) ?_
        exact K12 fd (by first | rfl | (rw [if_neg c10]; done) | omega | (subst_vars; first | rfl | (rw [if_neg c10]; done) | omega)) ls (lv_sub hl [0, 2, 3] rfl)
      · refine W.eq (g2 := F0 m 45 ls []) rfl ?_
        refine lv_iload_n hx hb dX8_picks_45 rfl (lv_at hl 0 rfl) ?_
        refine lv_goto (tgt := 50) hx hb dX8_picks_46 (by decide) ?_
        exact K12 ii (by first | rfl | (rw [if_pos c10]; done) | omega | (subst_vars; first | rfl | (rw [if_pos c10]; done) | omega)) ls (lv_sub hl [0, 2, 3] rfl)
  · refine lv_iconst (v := iZ (-1)) hx hb dX8_picks_8 (by decide) ?_
    exact mq_retM hx hb hK hP hS hr rfl (by unfold s_picks; first | omega | (have q : ii = -1 := (by omega); have q2 : s_fnd M pe = fd := (by rw [i2, q]; rfl); rw [q2]; first | omega | (rw [if_neg (by omega), if_neg (by omega)]; exact e4)) | omega) (by first | (unfold f_picks; rw [if_pos (by omega)]; done) | (have q : ii = -1 := (by omega); have q2 : s_fnd M pe = fd := (by rw [i2, q]; rfl); unfold f_picks; rw [q2, if_neg (by omega), if_pos (by omega)]; done) | (have q : ii = -1 := (by omega); have q2 : s_fnd M pe = fd := (by rw [i2, q]; rfl); unfold f_picks; rw [q2, if_neg (by omega), if_neg (by omega)]; subst_vars; rfl) | omega) dX8_picks_9 hlocks
end
