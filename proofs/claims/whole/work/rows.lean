section
-- ===== PART A: goes FIRST, ahead of the names: the tables' words, and 'selects' of the private methods out of them =====
/-- a private method of a class that the tables say can be made, by its rows of tables_1 -/
def lw_okq (q : MethodName × Nat) : Prop := (q.1.cls ≠ "java/lang/invoke/MethodHandle" ∧ q.1.cls ≠ "java/lang/invoke/VarHandle") ∧ Cond.instantiable q.1.cls q.2 ∈ tables_1 ∧ Cond.privateMethod q.1 ∈ tables_1 ∧ Cond.instanceMethod q.1 ∈ tables_1
theorem lw_p0 : lw_okq (⟨"WordScales$Shop", "joinRhymes", "(II)V"⟩, 11) := ⟨⟨by decide +kernel, by decide +kernel⟩, List.mem_of_getElem? (i := 18) (by decide +kernel), List.mem_of_getElem? (i := 201) (by decide +kernel), List.mem_of_getElem? (i := 202) (by decide +kernel)⟩
theorem lw_p1 : lw_okq (⟨"WordScales$Shop", "leaveRhymes", "(I)V"⟩, 11) := ⟨⟨by decide +kernel, by decide +kernel⟩, List.mem_of_getElem? (i := 18) (by decide +kernel), List.mem_of_getElem? (i := 219) (by decide +kernel), List.mem_of_getElem? (i := 220) (by decide +kernel)⟩
theorem lw_p2 : lw_okq (⟨"WordScales$Days", "readAll", "([IILWordScales$Shop;)I"⟩, 11) := ⟨⟨by decide +kernel, by decide +kernel⟩, List.mem_of_getElem? (i := 73) (by decide +kernel), List.mem_of_getElem? (i := 245) (by decide +kernel), List.mem_of_getElem? (i := 246) (by decide +kernel)⟩
theorem lw_p3 : lw_okq (⟨"WordScales$Days", "begin", "(LWordScales$Shop;)V"⟩, 11) := ⟨⟨by decide +kernel, by decide +kernel⟩, List.mem_of_getElem? (i := 73) (by decide +kernel), List.mem_of_getElem? (i := 249) (by decide +kernel), List.mem_of_getElem? (i := 250) (by decide +kernel)⟩
theorem lw_p4 : lw_okq (⟨"WordScales$Shop", "copyFrom", "(LWordScales$Shop;)V"⟩, 11) := ⟨⟨by decide +kernel, by decide +kernel⟩, List.mem_of_getElem? (i := 18) (by decide +kernel), List.mem_of_getElem? (i := 253) (by decide +kernel), List.mem_of_getElem? (i := 254) (by decide +kernel)⟩
theorem lw_p5 : lw_okq (⟨"WordScales$ActReader", "begin", "()V"⟩, 5) := ⟨⟨by decide +kernel, by decide +kernel⟩, List.mem_of_getElem? (i := 81) (by decide +kernel), List.mem_of_getElem? (i := 260) (by decide +kernel), List.mem_of_getElem? (i := 261) (by decide +kernel)⟩
theorem lw_p6 : lw_okq (⟨"WordScales$Row", "begin", "()V"⟩, 2) := ⟨⟨by decide +kernel, by decide +kernel⟩, List.mem_of_getElem? (i := 107) (by decide +kernel), List.mem_of_getElem? (i := 264) (by decide +kernel), List.mem_of_getElem? (i := 265) (by decide +kernel)⟩
theorem lw_p7 : lw_okq (⟨"WordScales$ActReader", "take", "(I)Z"⟩, 5) := ⟨⟨by decide +kernel, by decide +kernel⟩, List.mem_of_getElem? (i := 81) (by decide +kernel), List.mem_of_getElem? (i := 268) (by decide +kernel), List.mem_of_getElem? (i := 269) (by decide +kernel)⟩
theorem lw_p8 : lw_okq (⟨"WordScales$ActReader", "takeDot", "(I)Z"⟩, 5) := ⟨⟨by decide +kernel, by decide +kernel⟩, List.mem_of_getElem? (i := 81) (by decide +kernel), List.mem_of_getElem? (i := 272) (by decide +kernel), List.mem_of_getElem? (i := 273) (by decide +kernel)⟩
theorem lw_p9 : lw_okq (⟨"WordScales$ActReader", "takeSpeaker", "(I)Z"⟩, 5) := ⟨⟨by decide +kernel, by decide +kernel⟩, List.mem_of_getElem? (i := 81) (by decide +kernel), List.mem_of_getElem? (i := 276) (by decide +kernel), List.mem_of_getElem? (i := 277) (by decide +kernel)⟩
theorem lw_p10 : lw_okq (⟨"WordScales$ActReader", "takeMark", "(I)Z"⟩, 5) := ⟨⟨by decide +kernel, by decide +kernel⟩, List.mem_of_getElem? (i := 81) (by decide +kernel), List.mem_of_getElem? (i := 281) (by decide +kernel), List.mem_of_getElem? (i := 282) (by decide +kernel)⟩
theorem lw_p11 : lw_okq (⟨"WordScales$ActReader", "takeWord", "(I)Z"⟩, 5) := ⟨⟨by decide +kernel, by decide +kernel⟩, List.mem_of_getElem? (i := 81) (by decide +kernel), List.mem_of_getElem? (i := 285) (by decide +kernel), List.mem_of_getElem? (i := 286) (by decide +kernel)⟩
theorem lw_p12 : lw_okq (⟨"WordScales$ActReader", "takeOther", "(I)Z"⟩, 5) := ⟨⟨by decide +kernel, by decide +kernel⟩, List.mem_of_getElem? (i := 81) (by decide +kernel), List.mem_of_getElem? (i := 290) (by decide +kernel), List.mem_of_getElem? (i := 291) (by decide +kernel)⟩
theorem lw_p13 : lw_okq (⟨"WordScales$ActReader", "isBetweenActs", "()Z"⟩, 5) := ⟨⟨by decide +kernel, by decide +kernel⟩, List.mem_of_getElem? (i := 81) (by decide +kernel), List.mem_of_getElem? (i := 294) (by decide +kernel), List.mem_of_getElem? (i := 295) (by decide +kernel)⟩
theorem lw_p14 : lw_okq (⟨"WordScales$Days", "doAct", "()V"⟩, 11) := ⟨⟨by decide +kernel, by decide +kernel⟩, List.mem_of_getElem? (i := 73) (by decide +kernel), List.mem_of_getElem? (i := 298) (by decide +kernel), List.mem_of_getElem? (i := 299) (by decide +kernel)⟩
theorem lw_p15 : lw_okq (⟨"WordScales$Days", "endSentence", "()I"⟩, 11) := ⟨⟨by decide +kernel, by decide +kernel⟩, List.mem_of_getElem? (i := 73) (by decide +kernel), List.mem_of_getElem? (i := 302) (by decide +kernel), List.mem_of_getElem? (i := 303) (by decide +kernel)⟩
def lw_privs_1 : List (MethodName × Nat) := [(⟨"WordScales$Shop", "joinRhymes", "(II)V"⟩, 11), (⟨"WordScales$Shop", "leaveRhymes", "(I)V"⟩, 11), (⟨"WordScales$Days", "readAll", "([IILWordScales$Shop;)I"⟩, 11), (⟨"WordScales$Days", "begin", "(LWordScales$Shop;)V"⟩, 11), (⟨"WordScales$Shop", "copyFrom", "(LWordScales$Shop;)V"⟩, 11), (⟨"WordScales$ActReader", "begin", "()V"⟩, 5), (⟨"WordScales$Row", "begin", "()V"⟩, 2), (⟨"WordScales$ActReader", "take", "(I)Z"⟩, 5), (⟨"WordScales$ActReader", "takeDot", "(I)Z"⟩, 5), (⟨"WordScales$ActReader", "takeSpeaker", "(I)Z"⟩, 5), (⟨"WordScales$ActReader", "takeMark", "(I)Z"⟩, 5), (⟨"WordScales$ActReader", "takeWord", "(I)Z"⟩, 5), (⟨"WordScales$ActReader", "takeOther", "(I)Z"⟩, 5), (⟨"WordScales$ActReader", "isBetweenActs", "()Z"⟩, 5), (⟨"WordScales$Days", "doAct", "()V"⟩, 11), (⟨"WordScales$Days", "endSentence", "()I"⟩, 11)]
theorem lw_r1 : ∀ q ∈ lw_privs_1, lw_okq q := List.forall_mem_cons.mpr ⟨lw_p0, List.forall_mem_cons.mpr ⟨lw_p1, List.forall_mem_cons.mpr ⟨lw_p2, List.forall_mem_cons.mpr ⟨lw_p3, List.forall_mem_cons.mpr ⟨lw_p4, List.forall_mem_cons.mpr ⟨lw_p5, List.forall_mem_cons.mpr ⟨lw_p6, List.forall_mem_cons.mpr ⟨lw_p7, List.forall_mem_cons.mpr ⟨lw_p8, List.forall_mem_cons.mpr ⟨lw_p9, List.forall_mem_cons.mpr ⟨lw_p10, List.forall_mem_cons.mpr ⟨lw_p11, List.forall_mem_cons.mpr ⟨lw_p12, List.forall_mem_cons.mpr ⟨lw_p13, List.forall_mem_cons.mpr ⟨lw_p14, List.forall_mem_cons.mpr ⟨lw_p15, fun _ h => absurd h List.not_mem_nil⟩⟩⟩⟩⟩⟩⟩⟩⟩⟩⟩⟩⟩⟩⟩⟩
theorem lw_p16 : lw_okq (⟨"WordScales$Row", "isSentence", "()Z"⟩, 2) := ⟨⟨by decide +kernel, by decide +kernel⟩, List.mem_of_getElem? (i := 107) (by decide +kernel), List.mem_of_getElem? (i := 306) (by decide +kernel), List.mem_of_getElem? (i := 307) (by decide +kernel)⟩
theorem lw_p17 : lw_okq (⟨"WordScales$Days", "doWordAct", "(I)I"⟩, 11) := ⟨⟨by decide +kernel, by decide +kernel⟩, List.mem_of_getElem? (i := 73) (by decide +kernel), List.mem_of_getElem? (i := 310) (by decide +kernel), List.mem_of_getElem? (i := 311) (by decide +kernel)⟩
theorem lw_p18 : lw_okq (⟨"WordScales$Shop", "perform", "(IIII)I"⟩, 11) := ⟨⟨by decide +kernel, by decide +kernel⟩, List.mem_of_getElem? (i := 18) (by decide +kernel), List.mem_of_getElem? (i := 315) (by decide +kernel), List.mem_of_getElem? (i := 316) (by decide +kernel)⟩
theorem lw_p19 : lw_okq (⟨"WordScales$Shop", "buy", "(II)I"⟩, 11) := ⟨⟨by decide +kernel, by decide +kernel⟩, List.mem_of_getElem? (i := 18) (by decide +kernel), List.mem_of_getElem? (i := 320) (by decide +kernel), List.mem_of_getElem? (i := 321) (by decide +kernel)⟩
theorem lw_p20 : lw_okq (⟨"WordScales$Shop", "handIn", "(II)I"⟩, 11) := ⟨⟨by decide +kernel, by decide +kernel⟩, List.mem_of_getElem? (i := 18) (by decide +kernel), List.mem_of_getElem? (i := 324) (by decide +kernel), List.mem_of_getElem? (i := 325) (by decide +kernel)⟩
theorem lw_p21 : lw_okq (⟨"WordScales$Shop", "speak", "(II)I"⟩, 11) := ⟨⟨by decide +kernel, by decide +kernel⟩, List.mem_of_getElem? (i := 18) (by decide +kernel), List.mem_of_getElem? (i := 328) (by decide +kernel), List.mem_of_getElem? (i := 329) (by decide +kernel)⟩
theorem lw_p22 : lw_okq (⟨"WordScales$Shop", "give", "(III)I"⟩, 11) := ⟨⟨by decide +kernel, by decide +kernel⟩, List.mem_of_getElem? (i := 18) (by decide +kernel), List.mem_of_getElem? (i := 335) (by decide +kernel), List.mem_of_getElem? (i := 336) (by decide +kernel)⟩
theorem lw_p23 : lw_okq (⟨"WordScales$Days", "noteSpoken", "(II)V"⟩, 11) := ⟨⟨by decide +kernel, by decide +kernel⟩, List.mem_of_getElem? (i := 73) (by decide +kernel), List.mem_of_getElem? (i := 339) (by decide +kernel), List.mem_of_getElem? (i := 340) (by decide +kernel)⟩
theorem lw_p24 : lw_okq (⟨"WordScales$Row", "add", "(I)V"⟩, 2) := ⟨⟨by decide +kernel, by decide +kernel⟩, List.mem_of_getElem? (i := 107) (by decide +kernel), List.mem_of_getElem? (i := 343) (by decide +kernel), List.mem_of_getElem? (i := 344) (by decide +kernel)⟩
theorem lw_p25 : lw_okq (⟨"WordScales$Row", "stageBehind", "(I)I"⟩, 2) := ⟨⟨by decide +kernel, by decide +kernel⟩, List.mem_of_getElem? (i := 107) (by decide +kernel), List.mem_of_getElem? (i := 347) (by decide +kernel), List.mem_of_getElem? (i := 348) (by decide +kernel)⟩
theorem lw_p26 : lw_okq (⟨"WordScales$Shop", "weigh", "(I)I"⟩, 11) := ⟨⟨by decide +kernel, by decide +kernel⟩, List.mem_of_getElem? (i := 18) (by decide +kernel), List.mem_of_getElem? (i := 376) (by decide +kernel), List.mem_of_getElem? (i := 377) (by decide +kernel)⟩
theorem lw_p27 : lw_okq (⟨"WordScales$Shop", "heaviestOf", "(I)I"⟩, 11) := ⟨⟨by decide +kernel, by decide +kernel⟩, List.mem_of_getElem? (i := 18) (by decide +kernel), List.mem_of_getElem? (i := 380) (by decide +kernel), List.mem_of_getElem? (i := 381) (by decide +kernel)⟩
theorem lw_p28 : lw_okq (⟨"WordScales$Shop", "countKind", "(II)I"⟩, 11) := ⟨⟨by decide +kernel, by decide +kernel⟩, List.mem_of_getElem? (i := 18) (by decide +kernel), List.mem_of_getElem? (i := 390) (by decide +kernel), List.mem_of_getElem? (i := 391) (by decide +kernel)⟩
theorem lw_p29 : lw_okq (⟨"WordScales$Shop", "ofKind", "(I)I"⟩, 11) := ⟨⟨by decide +kernel, by decide +kernel⟩, List.mem_of_getElem? (i := 18) (by decide +kernel), List.mem_of_getElem? (i := 394) (by decide +kernel), List.mem_of_getElem? (i := 395) (by decide +kernel)⟩
theorem lw_p30 : lw_okq (⟨"WordScales", "cheapestSentence", "(II)I"⟩, 7) := ⟨⟨by decide +kernel, by decide +kernel⟩, List.mem_of_getElem? (i := 10) (by decide +kernel), List.mem_of_getElem? (i := 406) (by decide +kernel), List.mem_of_getElem? (i := 407) (by decide +kernel)⟩
theorem lw_p31 : lw_okq (⟨"WordScales$Shop", "priceOf", "(I)I"⟩, 11) := ⟨⟨by decide +kernel, by decide +kernel⟩, List.mem_of_getElem? (i := 18) (by decide +kernel), List.mem_of_getElem? (i := 411) (by decide +kernel), List.mem_of_getElem? (i := 412) (by decide +kernel)⟩
def lw_privs_2 : List (MethodName × Nat) := [(⟨"WordScales$Row", "isSentence", "()Z"⟩, 2), (⟨"WordScales$Days", "doWordAct", "(I)I"⟩, 11), (⟨"WordScales$Shop", "perform", "(IIII)I"⟩, 11), (⟨"WordScales$Shop", "buy", "(II)I"⟩, 11), (⟨"WordScales$Shop", "handIn", "(II)I"⟩, 11), (⟨"WordScales$Shop", "speak", "(II)I"⟩, 11), (⟨"WordScales$Shop", "give", "(III)I"⟩, 11), (⟨"WordScales$Days", "noteSpoken", "(II)V"⟩, 11), (⟨"WordScales$Row", "add", "(I)V"⟩, 2), (⟨"WordScales$Row", "stageBehind", "(I)I"⟩, 2), (⟨"WordScales$Shop", "weigh", "(I)I"⟩, 11), (⟨"WordScales$Shop", "heaviestOf", "(I)I"⟩, 11), (⟨"WordScales$Shop", "countKind", "(II)I"⟩, 11), (⟨"WordScales$Shop", "ofKind", "(I)I"⟩, 11), (⟨"WordScales", "cheapestSentence", "(II)I"⟩, 7), (⟨"WordScales$Shop", "priceOf", "(I)I"⟩, 11)]
theorem lw_r2 : ∀ q ∈ lw_privs_2, lw_okq q := List.forall_mem_cons.mpr ⟨lw_p16, List.forall_mem_cons.mpr ⟨lw_p17, List.forall_mem_cons.mpr ⟨lw_p18, List.forall_mem_cons.mpr ⟨lw_p19, List.forall_mem_cons.mpr ⟨lw_p20, List.forall_mem_cons.mpr ⟨lw_p21, List.forall_mem_cons.mpr ⟨lw_p22, List.forall_mem_cons.mpr ⟨lw_p23, List.forall_mem_cons.mpr ⟨lw_p24, List.forall_mem_cons.mpr ⟨lw_p25, List.forall_mem_cons.mpr ⟨lw_p26, List.forall_mem_cons.mpr ⟨lw_p27, List.forall_mem_cons.mpr ⟨lw_p28, List.forall_mem_cons.mpr ⟨lw_p29, List.forall_mem_cons.mpr ⟨lw_p30, List.forall_mem_cons.mpr ⟨lw_p31, fun _ h => absurd h List.not_mem_nil⟩⟩⟩⟩⟩⟩⟩⟩⟩⟩⟩⟩⟩⟩⟩⟩
theorem lw_p32 : lw_okq (⟨"WordScales", "fewestSpeakers", "(I)I"⟩, 7) := ⟨⟨by decide +kernel, by decide +kernel⟩, List.mem_of_getElem? (i := 10) (by decide +kernel), List.mem_of_getElem? (i := 419) (by decide +kernel), List.mem_of_getElem? (i := 420) (by decide +kernel)⟩
theorem lw_p33 : lw_okq (⟨"WordScales$Shop", "heldBy", "(I)I"⟩, 11) := ⟨⟨by decide +kernel, by decide +kernel⟩, List.mem_of_getElem? (i := 18) (by decide +kernel), List.mem_of_getElem? (i := 423) (by decide +kernel), List.mem_of_getElem? (i := 424) (by decide +kernel)⟩
theorem lw_p34 : lw_okq (⟨"WordScales$Shop", "canSayOnce", "(II)Z"⟩, 11) := ⟨⟨by decide +kernel, by decide +kernel⟩, List.mem_of_getElem? (i := 18) (by decide +kernel), List.mem_of_getElem? (i := 427) (by decide +kernel), List.mem_of_getElem? (i := 428) (by decide +kernel)⟩
theorem lw_p35 : lw_okq (⟨"WordScales", "fewestWords", "()I"⟩, 7) := ⟨⟨by decide +kernel, by decide +kernel⟩, List.mem_of_getElem? (i := 10) (by decide +kernel), List.mem_of_getElem? (i := 444) (by decide +kernel), List.mem_of_getElem? (i := 445) (by decide +kernel)⟩
theorem lw_p36 : lw_okq (⟨"WordScales$Shop", "grantsAll", "(I)Z"⟩, 11) := ⟨⟨by decide +kernel, by decide +kernel⟩, List.mem_of_getElem? (i := 18) (by decide +kernel), List.mem_of_getElem? (i := 448) (by decide +kernel), List.mem_of_getElem? (i := 449) (by decide +kernel)⟩
theorem lw_p37 : lw_okq (⟨"WordScales$Shop", "suspects", "()I"⟩, 11) := ⟨⟨by decide +kernel, by decide +kernel⟩, List.mem_of_getElem? (i := 18) (by decide +kernel), List.mem_of_getElem? (i := 464) (by decide +kernel), List.mem_of_getElem? (i := 465) (by decide +kernel)⟩
theorem lw_p38 : lw_okq (⟨"WordScales", "bestMean", "(III)J"⟩, 7) := ⟨⟨by decide +kernel, by decide +kernel⟩, List.mem_of_getElem? (i := 10) (by decide +kernel), List.mem_of_getElem? (i := 487) (by decide +kernel), List.mem_of_getElem? (i := 488) (by decide +kernel)⟩
theorem lw_p39 : lw_okq (⟨"WordScales$Shop", "liveYear", "(II)V"⟩, 11) := ⟨⟨by decide +kernel, by decide +kernel⟩, List.mem_of_getElem? (i := 18) (by decide +kernel), List.mem_of_getElem? (i := 505) (by decide +kernel), List.mem_of_getElem? (i := 506) (by decide +kernel)⟩
theorem lw_p40 : lw_okq (⟨"WordScales$Shop", "countBelongings", "()I"⟩, 11) := ⟨⟨by decide +kernel, by decide +kernel⟩, List.mem_of_getElem? (i := 18) (by decide +kernel), List.mem_of_getElem? (i := 514) (by decide +kernel), List.mem_of_getElem? (i := 515) (by decide +kernel)⟩
theorem lw_p41 : lw_okq (⟨"WordScales", "tellCount", "(I)I"⟩, 7) := ⟨⟨by decide +kernel, by decide +kernel⟩, List.mem_of_getElem? (i := 10) (by decide +kernel), List.mem_of_getElem? (i := 533) (by decide +kernel), List.mem_of_getElem? (i := 534) (by decide +kernel)⟩
theorem lw_p42 : lw_okq (⟨"WordScales", "tellWord", "(II)I"⟩, 7) := ⟨⟨by decide +kernel, by decide +kernel⟩, List.mem_of_getElem? (i := 10) (by decide +kernel), List.mem_of_getElem? (i := 537) (by decide +kernel), List.mem_of_getElem? (i := 538) (by decide +kernel)⟩
theorem lw_p43 : lw_okq (⟨"WordScalesModel", "rhymesOf", "(I)I"⟩, 33) := ⟨⟨by decide +kernel, by decide +kernel⟩, List.mem_of_getElem? (i := 541) (by decide +kernel), List.mem_of_getElem? (i := 665) (by decide +kernel), List.mem_of_getElem? (i := 666) (by decide +kernel)⟩
theorem lw_p44 : lw_okq (⟨"WordScalesModel", "freeRhyme", "(I)I"⟩, 33) := ⟨⟨by decide +kernel, by decide +kernel⟩, List.mem_of_getElem? (i := 541) (by decide +kernel), List.mem_of_getElem? (i := 676) (by decide +kernel), List.mem_of_getElem? (i := 677) (by decide +kernel)⟩
theorem lw_p45 : lw_okq (⟨"WordScalesModel", "readOn", "(II)I"⟩, 33) := ⟨⟨by decide +kernel, by decide +kernel⟩, List.mem_of_getElem? (i := 541) (by decide +kernel), List.mem_of_getElem? (i := 704) (by decide +kernel), List.mem_of_getElem? (i := 705) (by decide +kernel)⟩
theorem lw_p46 : lw_okq (⟨"WordScalesModel", "begin", "(I)I"⟩, 33) := ⟨⟨by decide +kernel, by decide +kernel⟩, List.mem_of_getElem? (i := 541) (by decide +kernel), List.mem_of_getElem? (i := 708) (by decide +kernel), List.mem_of_getElem? (i := 709) (by decide +kernel)⟩
theorem lw_p47 : lw_okq (⟨"WordScalesModel", "close", "()I"⟩, 33) := ⟨⟨by decide +kernel, by decide +kernel⟩, List.mem_of_getElem? (i := 541) (by decide +kernel), List.mem_of_getElem? (i := 714) (by decide +kernel), List.mem_of_getElem? (i := 715) (by decide +kernel)⟩
def lw_privs_3 : List (MethodName × Nat) := [(⟨"WordScales", "fewestSpeakers", "(I)I"⟩, 7), (⟨"WordScales$Shop", "heldBy", "(I)I"⟩, 11), (⟨"WordScales$Shop", "canSayOnce", "(II)Z"⟩, 11), (⟨"WordScales", "fewestWords", "()I"⟩, 7), (⟨"WordScales$Shop", "grantsAll", "(I)Z"⟩, 11), (⟨"WordScales$Shop", "suspects", "()I"⟩, 11), (⟨"WordScales", "bestMean", "(III)J"⟩, 7), (⟨"WordScales$Shop", "liveYear", "(II)V"⟩, 11), (⟨"WordScales$Shop", "countBelongings", "()I"⟩, 11), (⟨"WordScales", "tellCount", "(I)I"⟩, 7), (⟨"WordScales", "tellWord", "(II)I"⟩, 7), (⟨"WordScalesModel", "rhymesOf", "(I)I"⟩, 33), (⟨"WordScalesModel", "freeRhyme", "(I)I"⟩, 33), (⟨"WordScalesModel", "readOn", "(II)I"⟩, 33), (⟨"WordScalesModel", "begin", "(I)I"⟩, 33), (⟨"WordScalesModel", "close", "()I"⟩, 33)]
theorem lw_r3 : ∀ q ∈ lw_privs_3, lw_okq q := List.forall_mem_cons.mpr ⟨lw_p32, List.forall_mem_cons.mpr ⟨lw_p33, List.forall_mem_cons.mpr ⟨lw_p34, List.forall_mem_cons.mpr ⟨lw_p35, List.forall_mem_cons.mpr ⟨lw_p36, List.forall_mem_cons.mpr ⟨lw_p37, List.forall_mem_cons.mpr ⟨lw_p38, List.forall_mem_cons.mpr ⟨lw_p39, List.forall_mem_cons.mpr ⟨lw_p40, List.forall_mem_cons.mpr ⟨lw_p41, List.forall_mem_cons.mpr ⟨lw_p42, List.forall_mem_cons.mpr ⟨lw_p43, List.forall_mem_cons.mpr ⟨lw_p44, List.forall_mem_cons.mpr ⟨lw_p45, List.forall_mem_cons.mpr ⟨lw_p46, List.forall_mem_cons.mpr ⟨lw_p47, fun _ h => absurd h List.not_mem_nil⟩⟩⟩⟩⟩⟩⟩⟩⟩⟩⟩⟩⟩⟩⟩⟩
theorem lw_p48 : lw_okq (⟨"WordScalesModel", "deed", "(I)I"⟩, 33) := ⟨⟨by decide +kernel, by decide +kernel⟩, List.mem_of_getElem? (i := 541) (by decide +kernel), List.mem_of_getElem? (i := 718) (by decide +kernel), List.mem_of_getElem? (i := 719) (by decide +kernel)⟩
theorem lw_p49 : lw_okq (⟨"WordScalesModel", "refusal", "()I"⟩, 33) := ⟨⟨by decide +kernel, by decide +kernel⟩, List.mem_of_getElem? (i := 541) (by decide +kernel), List.mem_of_getElem? (i := 728) (by decide +kernel), List.mem_of_getElem? (i := 729) (by decide +kernel)⟩
theorem lw_p50 : lw_okq (⟨"WordScalesModel", "keepNow", "()V"⟩, 33) := ⟨⟨by decide +kernel, by decide +kernel⟩, List.mem_of_getElem? (i := 541) (by decide +kernel), List.mem_of_getElem? (i := 732) (by decide +kernel), List.mem_of_getElem? (i := 733) (by decide +kernel)⟩
theorem lw_p51 : lw_okq (⟨"WordScalesModel", "goDays", "()V"⟩, 33) := ⟨⟨by decide +kernel, by decide +kernel⟩, List.mem_of_getElem? (i := 541) (by decide +kernel), List.mem_of_getElem? (i := 737) (by decide +kernel), List.mem_of_getElem? (i := 738) (by decide +kernel)⟩
theorem lw_p52 : lw_okq (⟨"WordScalesModel", "beginCount", "()V"⟩, 33) := ⟨⟨by decide +kernel, by decide +kernel⟩, List.mem_of_getElem? (i := 541) (by decide +kernel), List.mem_of_getElem? (i := 741) (by decide +kernel), List.mem_of_getElem? (i := 742) (by decide +kernel)⟩
theorem lw_p53 : lw_okq (⟨"WordScalesModel", "whyNot", "(IIII)I"⟩, 33) := ⟨⟨by decide +kernel, by decide +kernel⟩, List.mem_of_getElem? (i := 541) (by decide +kernel), List.mem_of_getElem? (i := 745) (by decide +kernel), List.mem_of_getElem? (i := 746) (by decide +kernel)⟩
theorem lw_p54 : lw_okq (⟨"WordScalesModel", "hasWord", "(II)Z"⟩, 33) := ⟨⟨by decide +kernel, by decide +kernel⟩, List.mem_of_getElem? (i := 541) (by decide +kernel), List.mem_of_getElem? (i := 749) (by decide +kernel), List.mem_of_getElem? (i := 750) (by decide +kernel)⟩
theorem lw_p55 : lw_okq (⟨"WordScalesModel", "happen", "(IIII)V"⟩, 33) := ⟨⟨by decide +kernel, by decide +kernel⟩, List.mem_of_getElem? (i := 541) (by decide +kernel), List.mem_of_getElem? (i := 753) (by decide +kernel), List.mem_of_getElem? (i := 754) (by decide +kernel)⟩
theorem lw_p56 : lw_okq (⟨"WordScalesModel", "speak", "(I)V"⟩, 33) := ⟨⟨by decide +kernel, by decide +kernel⟩, List.mem_of_getElem? (i := 541) (by decide +kernel), List.mem_of_getElem? (i := 757) (by decide +kernel), List.mem_of_getElem? (i := 758) (by decide +kernel)⟩
theorem lw_p57 : lw_okq (⟨"WordScalesModel", "placeThen", "(I)I"⟩, 33) := ⟨⟨by decide +kernel, by decide +kernel⟩, List.mem_of_getElem? (i := 541) (by decide +kernel), List.mem_of_getElem? (i := 761) (by decide +kernel), List.mem_of_getElem? (i := 762) (by decide +kernel)⟩
theorem lw_p58 : lw_okq (⟨"WordScalesModel", "back", "(I)I"⟩, 33) := ⟨⟨by decide +kernel, by decide +kernel⟩, List.mem_of_getElem? (i := 541) (by decide +kernel), List.mem_of_getElem? (i := 765) (by decide +kernel), List.mem_of_getElem? (i := 766) (by decide +kernel)⟩
theorem lw_p59 : lw_okq (⟨"WordScalesModel", "manyOf", "(II)I"⟩, 33) := ⟨⟨by decide +kernel, by decide +kernel⟩, List.mem_of_getElem? (i := 541) (by decide +kernel), List.mem_of_getElem? (i := 796) (by decide +kernel), List.mem_of_getElem? (i := 797) (by decide +kernel)⟩
theorem lw_p60 : lw_okq (⟨"WordScalesModel", "isSentence", "(II)Z"⟩, 33) := ⟨⟨by decide +kernel, by decide +kernel⟩, List.mem_of_getElem? (i := 541) (by decide +kernel), List.mem_of_getElem? (i := 807) (by decide +kernel), List.mem_of_getElem? (i := 808) (by decide +kernel)⟩
theorem lw_p61 : lw_okq (⟨"WordScalesModel", "costOf", "(I)I"⟩, 33) := ⟨⟨by decide +kernel, by decide +kernel⟩, List.mem_of_getElem? (i := 541) (by decide +kernel), List.mem_of_getElem? (i := 811) (by decide +kernel), List.mem_of_getElem? (i := 812) (by decide +kernel)⟩
theorem lw_p62 : lw_okq (⟨"WordScalesModel", "canSay", "(II)Z"⟩, 33) := ⟨⟨by decide +kernel, by decide +kernel⟩, List.mem_of_getElem? (i := 541) (by decide +kernel), List.mem_of_getElem? (i := 819) (by decide +kernel), List.mem_of_getElem? (i := 820) (by decide +kernel)⟩
theorem lw_p63 : lw_okq (⟨"WordScalesModel", "asksAll", "(I)Z"⟩, 33) := ⟨⟨by decide +kernel, by decide +kernel⟩, List.mem_of_getElem? (i := 541) (by decide +kernel), List.mem_of_getElem? (i := 835) (by decide +kernel), List.mem_of_getElem? (i := 836) (by decide +kernel)⟩
def lw_privs_4 : List (MethodName × Nat) := [(⟨"WordScalesModel", "deed", "(I)I"⟩, 33), (⟨"WordScalesModel", "refusal", "()I"⟩, 33), (⟨"WordScalesModel", "keepNow", "()V"⟩, 33), (⟨"WordScalesModel", "goDays", "()V"⟩, 33), (⟨"WordScalesModel", "beginCount", "()V"⟩, 33), (⟨"WordScalesModel", "whyNot", "(IIII)I"⟩, 33), (⟨"WordScalesModel", "hasWord", "(II)Z"⟩, 33), (⟨"WordScalesModel", "happen", "(IIII)V"⟩, 33), (⟨"WordScalesModel", "speak", "(I)V"⟩, 33), (⟨"WordScalesModel", "placeThen", "(I)I"⟩, 33), (⟨"WordScalesModel", "back", "(I)I"⟩, 33), (⟨"WordScalesModel", "manyOf", "(II)I"⟩, 33), (⟨"WordScalesModel", "isSentence", "(II)Z"⟩, 33), (⟨"WordScalesModel", "costOf", "(I)I"⟩, 33), (⟨"WordScalesModel", "canSay", "(II)Z"⟩, 33), (⟨"WordScalesModel", "asksAll", "(I)Z"⟩, 33)]
theorem lw_r4 : ∀ q ∈ lw_privs_4, lw_okq q := List.forall_mem_cons.mpr ⟨lw_p48, List.forall_mem_cons.mpr ⟨lw_p49, List.forall_mem_cons.mpr ⟨lw_p50, List.forall_mem_cons.mpr ⟨lw_p51, List.forall_mem_cons.mpr ⟨lw_p52, List.forall_mem_cons.mpr ⟨lw_p53, List.forall_mem_cons.mpr ⟨lw_p54, List.forall_mem_cons.mpr ⟨lw_p55, List.forall_mem_cons.mpr ⟨lw_p56, List.forall_mem_cons.mpr ⟨lw_p57, List.forall_mem_cons.mpr ⟨lw_p58, List.forall_mem_cons.mpr ⟨lw_p59, List.forall_mem_cons.mpr ⟨lw_p60, List.forall_mem_cons.mpr ⟨lw_p61, List.forall_mem_cons.mpr ⟨lw_p62, List.forall_mem_cons.mpr ⟨lw_p63, fun _ h => absurd h List.not_mem_nil⟩⟩⟩⟩⟩⟩⟩⟩⟩⟩⟩⟩⟩⟩⟩⟩
theorem lw_p64 : lw_okq (⟨"WordScalesModel", "passAll", "()V"⟩, 33) := ⟨⟨by decide +kernel, by decide +kernel⟩, List.mem_of_getElem? (i := 541) (by decide +kernel), List.mem_of_getElem? (i := 892) (by decide +kernel), List.mem_of_getElem? (i := 893) (by decide +kernel)⟩
theorem lw_p65 : lw_okq (⟨"WordScalesModel", "pass", "(I)I"⟩, 33) := ⟨⟨by decide +kernel, by decide +kernel⟩, List.mem_of_getElem? (i := 541) (by decide +kernel), List.mem_of_getElem? (i := 896) (by decide +kernel), List.mem_of_getElem? (i := 897) (by decide +kernel)⟩
theorem lw_p66 : lw_okq (⟨"WordScalesModel", "passRow", "([II)V"⟩, 33) := ⟨⟨by decide +kernel, by decide +kernel⟩, List.mem_of_getElem? (i := 541) (by decide +kernel), List.mem_of_getElem? (i := 900) (by decide +kernel), List.mem_of_getElem? (i := 901) (by decide +kernel)⟩
theorem lw_p67 : lw_okq (⟨"WordScalesModel", "toldOfWord", "(II)I"⟩, 33) := ⟨⟨by decide +kernel, by decide +kernel⟩, List.mem_of_getElem? (i := 541) (by decide +kernel), List.mem_of_getElem? (i := 914) (by decide +kernel), List.mem_of_getElem? (i := 915) (by decide +kernel)⟩
def lw_privs_5 : List (MethodName × Nat) := [(⟨"WordScalesModel", "passAll", "()V"⟩, 33), (⟨"WordScalesModel", "pass", "(I)I"⟩, 33), (⟨"WordScalesModel", "passRow", "([II)V"⟩, 33), (⟨"WordScalesModel", "toldOfWord", "(II)I"⟩, 33)]
theorem lw_r5 : ∀ q ∈ lw_privs_5, lw_okq q := List.forall_mem_cons.mpr ⟨lw_p64, List.forall_mem_cons.mpr ⟨lw_p65, List.forall_mem_cons.mpr ⟨lw_p66, List.forall_mem_cons.mpr ⟨lw_p67, fun _ h => absurd h List.not_mem_nil⟩⟩⟩⟩
def lw_privs : List (MethodName × Nat) := lw_privs_1 ++ (lw_privs_2 ++ (lw_privs_3 ++ (lw_privs_4 ++ (lw_privs_5))))
def lw_tbl : List Cond := k2_sels lw_privs ++ tables_1
theorem lw_privs_ok : ∀ q ∈ lw_privs, lw_okq q := by
  show ∀ q ∈ lw_privs_1 ++ (lw_privs_2 ++ (lw_privs_3 ++ (lw_privs_4 ++ (lw_privs_5)))), lw_okq q
  exact List.forall_mem_append.mpr ⟨lw_r1, List.forall_mem_append.mpr ⟨lw_r2, List.forall_mem_append.mpr ⟨lw_r3, List.forall_mem_append.mpr ⟨lw_r4, lw_r5⟩⟩⟩⟩
end
section
/-! ===== BEGIN words of one list among another's, by their places ===== -/
theorem goodIn_r {big : List Cond} (ws : List Cond) (ps : List Nat) (hp : ws = ps.filterMap (fun i => big[i]?)) (h : ws.all goodWord = true) : GoodIn big ws := by
  intro w hw
  have h1 := List.all_eq_true.mp h w hw
  rw [hp] at hw
  obtain ⟨i, -, hi⟩ := List.mem_filterMap.mp hw
  have hm : w ∈ big := by first | exact List.mem_of_getElem? hi | exact List.getElem?_mem hi
  exact ⟨hm, good_of_word h1⟩
theorem goodIn_app {big a b : List Cond} (ha : GoodIn big a) (hb : GoodIn big b) : GoodIn big (a ++ b) := fun w h => (List.mem_append.mp h).elim (ha w) (hb w)
theorem goodIn_ca {big a b : List Cond} {c : Cond} (ha : GoodIn big (c :: a)) (hb : GoodIn big b) : GoodIn big (c :: (a ++ b)) := fun w h => (List.mem_cons.mp h).elim (fun e => ha w (List.mem_cons.mpr (Or.inl e))) (fun h => (List.mem_append.mp h).elim (fun h => ha w (List.mem_cons.mpr (Or.inr h))) (hb w))
theorem goodIn_sub {big ws : List Cond} (hm : ∀ w ∈ ws, w ∈ big) (h : ws.all goodWord = true) : GoodIn big ws := fun w hw => ⟨hm w hw, good_of_word (List.all_eq_true.mp h w hw)⟩
/-! ===== END ===== -/

/-! ===== BEGIN printed: names, fields, word lists, decode rows ===== -/
def RX0 : String := "WordScales$ActReader"
def TX0 : u_T := fun k => match k with
  | 0 => ("WordScales$ActReader", "awaited", "I", false)
  | 1 => ("WordScales$ActReader", "act", "I", false)
  | 2 => ("WordScales$ActReader", "speaker", "I", false)
  | 3 => ("WordScales$ActReader", "word", "I", false)
  | _ => ("WordScales$ActReader", "other", "I", false)
def tyX0 : Nat → FieldType := fun k => match k with
  | 0 => .int
  | 1 => .int
  | 2 => .int
  | 3 => .int
  | _ => .int
abbrev wsX00 : List Cond := u_ws RX0 TX0 5
theorem nmX0 : ∀ a, a < 5 → ∀ b, b < 5 → a ≠ b → (TX0 a).2.1 ≠ (TX0 b).2.1 := by decide +kernel
theorem tyX0_ok : ∀ k, k < 5 → parseFieldDescriptor (TX0 k).2.2.1 = some (tyX0 k) := by decide +kernel
abbrev cX0_init : ByteArray := prog_2_method_1_code
def yX0_init : MethodName := ⟨RX0, "<init>", "()V"⟩
abbrev cX0_begin : ByteArray := prog_2_method_2_code
def yX0_begin : MethodName := ⟨RX0, "begin", "()V"⟩
abbrev cX0_isBetweenActs : ByteArray := prog_2_method_3_code
def yX0_isBetweenActs : MethodName := ⟨RX0, "isBetweenActs", "()Z"⟩
abbrev cX0_take : ByteArray := prog_2_method_4_code
def yX0_take : MethodName := ⟨RX0, "take", "(I)Z"⟩
abbrev cX0_takeDot : ByteArray := prog_2_method_5_code
def yX0_takeDot : MethodName := ⟨RX0, "takeDot", "(I)Z"⟩
abbrev cX0_takeSpeaker : ByteArray := prog_2_method_6_code
def yX0_takeSpeaker : MethodName := ⟨RX0, "takeSpeaker", "(I)Z"⟩
abbrev cX0_takeMark : ByteArray := prog_2_method_7_code
def yX0_takeMark : MethodName := ⟨RX0, "takeMark", "(I)Z"⟩
abbrev cX0_takeOther : ByteArray := prog_2_method_8_code
def yX0_takeOther : MethodName := ⟨RX0, "takeOther", "(I)Z"⟩
abbrev cX0_takeWord : ByteArray := prog_2_method_9_code
def yX0_takeWord : MethodName := ⟨RX0, "takeWord", "(I)Z"⟩
def RX1 : String := "WordScales$Days"
def TX1 : u_T := fun k => match k with
  | 0 => ("WordScales$Days", "shop", "LWordScales$Shop;", true)
  | 1 => ("WordScales$Days", "reader", "LWordScales$ActReader;", true)
  | 2 => ("WordScales$Days", "row", "LWordScales$Row;", true)
  | 3 => ("WordScales$Days", "faultPlace", "I", false)
  | 4 => ("WordScales$Days", "acts", "I", false)
  | 5 => ("WordScales$Days", "badAct", "I", false)
  | 6 => ("WordScales$Days", "why", "I", false)
  | 7 => ("WordScales$Days", "sentences", "I", false)
  | 8 => ("WordScales$Days", "spoken", "I", false)
  | 9 => ("WordScales$Days", "heaviest", "I", false)
  | _ => ("WordScales$Days", "heaviestWeight", "I", false)
def tyX1 : Nat → FieldType := fun k => match k with
  | 0 => .object "WordScales$Shop"
  | 1 => .object "WordScales$ActReader"
  | 2 => .object "WordScales$Row"
  | 3 => .int
  | 4 => .int
  | 5 => .int
  | 6 => .int
  | 7 => .int
  | 8 => .int
  | 9 => .int
  | _ => .int
abbrev wsX10 : List Cond := u_ws RX1 TX1 11
theorem nmX1 : ∀ a, a < 11 → ∀ b, b < 11 → a ≠ b → (TX1 a).2.1 ≠ (TX1 b).2.1 := by decide +kernel
theorem tyX1_ok : ∀ k, k < 11 → parseFieldDescriptor (TX1 k).2.2.1 = some (tyX1 k) := by decide +kernel
abbrev cX1_init : ByteArray := prog_3_method_1_code
def yX1_init : MethodName := ⟨RX1, "<init>", "()V"⟩
abbrev cX1_readAll : ByteArray := prog_3_method_2_code
def yX1_readAll : MethodName := ⟨RX1, "readAll", "([IILWordScales$Shop;)I"⟩
abbrev cX1_begin : ByteArray := prog_3_method_3_code
def yX1_begin : MethodName := ⟨RX1, "begin", "(LWordScales$Shop;)V"⟩
abbrev cX1_doAct : ByteArray := prog_3_method_4_code
def yX1_doAct : MethodName := ⟨RX1, "doAct", "()V"⟩
abbrev cX1_endSentence : ByteArray := prog_3_method_5_code
def yX1_endSentence : MethodName := ⟨RX1, "endSentence", "()I"⟩
abbrev cX1_doWordAct : ByteArray := prog_3_method_6_code
def yX1_doWordAct : MethodName := ⟨RX1, "doWordAct", "(I)I"⟩
abbrev cX1_noteSpoken : ByteArray := prog_3_method_7_code
def yX1_noteSpoken : MethodName := ⟨RX1, "noteSpoken", "(II)V"⟩
def RX2 : String := "WordScales$Row"
def TX2 : u_T := fun k => match k with
  | 0 => ("WordScales$Row", "stage", "I", false)
  | _ => ("WordScales$Row", "length", "I", false)
def tyX2 : Nat → FieldType := fun k => match k with
  | 0 => .int
  | _ => .int
abbrev wsX20 : List Cond := u_ws RX2 TX2 2
theorem nmX2 : ∀ a, a < 2 → ∀ b, b < 2 → a ≠ b → (TX2 a).2.1 ≠ (TX2 b).2.1 := by decide +kernel
theorem tyX2_ok : ∀ k, k < 2 → parseFieldDescriptor (TX2 k).2.2.1 = some (tyX2 k) := by decide +kernel
abbrev cX2_init : ByteArray := prog_4_method_1_code
def yX2_init : MethodName := ⟨RX2, "<init>", "()V"⟩
abbrev cX2_begin : ByteArray := prog_4_method_2_code
def yX2_begin : MethodName := ⟨RX2, "begin", "()V"⟩
abbrev cX2_add : ByteArray := prog_4_method_3_code
def yX2_add : MethodName := ⟨RX2, "add", "(I)V"⟩
abbrev cX2_isSentence : ByteArray := prog_4_method_4_code
def yX2_isSentence : MethodName := ⟨RX2, "isSentence", "()Z"⟩
abbrev cX2_stageBehind : ByteArray := prog_4_method_5_code
def yX2_stageBehind : MethodName := ⟨RX2, "stageBehind", "(I)I"⟩
def RX3 : String := "WordScales$Shop"
def TX3 : u_T := fun k => match k with
  | 0 => ("WordScales$Shop", "weights", "[I", true)
  | 1 => ("WordScales$Shop", "kinds", "[I", true)
  | 2 => ("WordScales$Shop", "rhymes", "[I", true)
  | 3 => ("WordScales$Shop", "purses", "[I", true)
  | 4 => ("WordScales$Shop", "belongings", "[I", true)
  | 5 => ("WordScales$Shop", "wishes", "[I", true)
  | 6 => ("WordScales$Shop", "wishCount", "I", false)
  | 7 => ("WordScales$Shop", "lefts", "[I", true)
  | 8 => ("WordScales$Shop", "rights", "[I", true)
  | 9 => ("WordScales$Shop", "outcomes", "[I", true)
  | _ => ("WordScales$Shop", "sightCount", "I", false)
def tyX3 : Nat → FieldType := fun k => match k with
  | 0 => .array .int
  | 1 => .array .int
  | 2 => .array .int
  | 3 => .array .int
  | 4 => .array .int
  | 5 => .array .int
  | 6 => .int
  | 7 => .array .int
  | 8 => .array .int
  | 9 => .array .int
  | _ => .int
abbrev wsX30 : List Cond := u_ws RX3 TX3 11
theorem nmX3 : ∀ a, a < 11 → ∀ b, b < 11 → a ≠ b → (TX3 a).2.1 ≠ (TX3 b).2.1 := by decide +kernel
theorem tyX3_ok : ∀ k, k < 11 → parseFieldDescriptor (TX3 k).2.2.1 = some (tyX3 k) := by decide +kernel
abbrev cX3_init : ByteArray := prog_5_method_1_code
def yX3_init : MethodName := ⟨RX3, "<init>", "()V"⟩
abbrev cX3_copyFrom : ByteArray := prog_5_method_2_code
def yX3_copyFrom : MethodName := ⟨RX3, "copyFrom", "(LWordScales$Shop;)V"⟩
abbrev cX3_joinRhymes : ByteArray := prog_5_method_3_code
def yX3_joinRhymes : MethodName := ⟨RX3, "joinRhymes", "(II)V"⟩
abbrev cX3_leaveRhymes : ByteArray := prog_5_method_4_code
def yX3_leaveRhymes : MethodName := ⟨RX3, "leaveRhymes", "(I)V"⟩
abbrev cX3_weigh : ByteArray := prog_5_method_5_code
def yX3_weigh : MethodName := ⟨RX3, "weigh", "(I)I"⟩
abbrev cX3_heaviestOf : ByteArray := prog_5_method_6_code
def yX3_heaviestOf : MethodName := ⟨RX3, "heaviestOf", "(I)I"⟩
abbrev cX3_priceOf : ByteArray := prog_5_method_7_code
def yX3_priceOf : MethodName := ⟨RX3, "priceOf", "(I)I"⟩
abbrev cX3_ofKind : ByteArray := prog_5_method_8_code
def yX3_ofKind : MethodName := ⟨RX3, "ofKind", "(I)I"⟩
abbrev cX3_countKind : ByteArray := prog_5_method_9_code
def yX3_countKind : MethodName := ⟨RX3, "countKind", "(II)I"⟩
abbrev cX3_heldBy : ByteArray := prog_5_method_10_code
def yX3_heldBy : MethodName := ⟨RX3, "heldBy", "(I)I"⟩
abbrev cX3_countBelongings : ByteArray := prog_5_method_11_code
def yX3_countBelongings : MethodName := ⟨RX3, "countBelongings", "()I"⟩
abbrev cX3_canSayOnce : ByteArray := prog_5_method_12_code
def yX3_canSayOnce : MethodName := ⟨RX3, "canSayOnce", "(II)Z"⟩
abbrev cX3_grantsAll : ByteArray := prog_5_method_13_code
def yX3_grantsAll : MethodName := ⟨RX3, "grantsAll", "(I)Z"⟩
abbrev cX3_suspects : ByteArray := prog_5_method_14_code
def yX3_suspects : MethodName := ⟨RX3, "suspects", "()I"⟩
abbrev cX3_perform : ByteArray := prog_5_method_15_code
def yX3_perform : MethodName := ⟨RX3, "perform", "(IIII)I"⟩
abbrev cX3_buy : ByteArray := prog_5_method_16_code
def yX3_buy : MethodName := ⟨RX3, "buy", "(II)I"⟩
abbrev cX3_handIn : ByteArray := prog_5_method_17_code
def yX3_handIn : MethodName := ⟨RX3, "handIn", "(II)I"⟩
abbrev cX3_speak : ByteArray := prog_5_method_18_code
def yX3_speak : MethodName := ⟨RX3, "speak", "(II)I"⟩
abbrev cX3_give : ByteArray := prog_5_method_19_code
def yX3_give : MethodName := ⟨RX3, "give", "(III)I"⟩
abbrev cX3_liveYear : ByteArray := prog_5_method_20_code
def yX3_liveYear : MethodName := ⟨RX3, "liveYear", "(II)V"⟩
abbrev cX3_drawnAct : ByteArray := prog_5_method_21_code
def yX3_drawnAct : MethodName := ⟨RX3, "drawnAct", "(I)I"⟩
def RX4 : String := "WordScales"
def TX4 : u_T := fun k => match k with
  | 0 => ("WordScales", "shop", "LWordScales$Shop;", true)
  | 1 => ("WordScales", "yearShop", "LWordScales$Shop;", true)
  | 2 => ("WordScales", "images", "[LWordScales$Shop;", true)
  | 3 => ("WordScales", "signs", "[I", true)
  | 4 => ("WordScales", "signCount", "I", false)
  | 5 => ("WordScales", "days", "LWordScales$Days;", true)
  | _ => ("WordScales", "means", "[J", true)
def tyX4 : Nat → FieldType := fun k => match k with
  | 0 => .object "WordScales$Shop"
  | 1 => .object "WordScales$Shop"
  | 2 => .array (.object "WordScales$Shop")
  | 3 => .array .int
  | 4 => .int
  | 5 => .object "WordScales$Days"
  | _ => .array .long
abbrev wsX40 : List Cond := u_ws RX4 TX4 7
theorem nmX4 : ∀ a, a < 7 → ∀ b, b < 7 → a ≠ b → (TX4 a).2.1 ≠ (TX4 b).2.1 := by decide +kernel
theorem tyX4_ok : ∀ k, k < 7 → parseFieldDescriptor (TX4 k).2.2.1 = some (tyX4 k) := by decide +kernel
abbrev cX4_init : ByteArray := prog_1_method_1_code
def yX4_init : MethodName := ⟨RX4, "<init>", "()V"⟩
abbrev cX4_word : ByteArray := prog_1_method_2_code
def yX4_word : MethodName := ⟨RX4, "word", "(III)I"⟩
abbrev cX4_rhyme : ByteArray := prog_1_method_3_code
def yX4_rhyme : MethodName := ⟨RX4, "rhyme", "(II)I"⟩
abbrev cX4_part : ByteArray := prog_1_method_4_code
def yX4_part : MethodName := ⟨RX4, "part", "(I)I"⟩
abbrev cX4_speaker : ByteArray := prog_1_method_5_code
def yX4_speaker : MethodName := ⟨RX4, "speaker", "(III)I"⟩
abbrev cX4_say : ByteArray := prog_1_method_6_code
def yX4_say : MethodName := ⟨RX4, "say", "(I)I"⟩
abbrev cX4_wipe : ByteArray := prog_1_method_7_code
def yX4_wipe : MethodName := ⟨RX4, "wipe", "()I"⟩
abbrev cX4_fault : ByteArray := prog_1_method_8_code
def yX4_fault : MethodName := ⟨RX4, "fault", "()I"⟩
abbrev cX4_judge : ByteArray := prog_1_method_9_code
def yX4_judge : MethodName := ⟨RX4, "judge", "(I)I"⟩
abbrev cX4_behind : ByteArray := prog_1_method_10_code
def yX4_behind : MethodName := ⟨RX4, "behind", "(II)I"⟩
abbrev cX4_worn : ByteArray := prog_1_method_11_code
def yX4_worn : MethodName := ⟨RX4, "worn", "(I)I"⟩
abbrev cX4_said : ByteArray := prog_1_method_12_code
def yX4_said : MethodName := ⟨RX4, "said", "(I)I"⟩
abbrev cX4_done : ByteArray := prog_1_method_13_code
def yX4_done : MethodName := ⟨RX4, "done", "()I"⟩
abbrev cX4_scales : ByteArray := prog_1_method_14_code
def yX4_scales : MethodName := ⟨RX4, "scales", "(I)I"⟩
abbrev cX4_says : ByteArray := prog_1_method_15_code
def yX4_says : MethodName := ⟨RX4, "says", "(II)J"⟩
abbrev cX4_cheap : ByteArray := prog_1_method_16_code
def yX4_cheap : MethodName := ⟨RX4, "cheap", "(III)I"⟩
abbrev cX4_pool : ByteArray := prog_1_method_17_code
def yX4_pool : MethodName := ⟨RX4, "pool", "(II)I"⟩
abbrev cX4_wish : ByteArray := prog_1_method_18_code
def yX4_wish : MethodName := ⟨RX4, "wish", "(I)I"⟩
abbrev cX4_unwish : ByteArray := prog_1_method_19_code
def yX4_unwish : MethodName := ⟨RX4, "unwish", "()I"⟩
abbrev cX4_nine : ByteArray := prog_1_method_20_code
def yX4_nine : MethodName := ⟨RX4, "nine", "(I)I"⟩
abbrev cX4_seen : ByteArray := prog_1_method_21_code
def yX4_seen : MethodName := ⟨RX4, "seen", "(III)I"⟩
abbrev cX4_forget : ByteArray := prog_1_method_22_code
def yX4_forget : MethodName := ⟨RX4, "forget", "()I"⟩
abbrev cX4_hollow : ByteArray := prog_1_method_23_code
def yX4_hollow : MethodName := ⟨RX4, "hollow", "()I"⟩
abbrev cX4_lay : ByteArray := prog_1_method_24_code
def yX4_lay : MethodName := ⟨RX4, "lay", "(I)I"⟩
abbrev cX4_weather : ByteArray := prog_1_method_25_code
def yX4_weather : MethodName := ⟨RX4, "weather", "(IIIII)J"⟩
abbrev cX4_synonyms : ByteArray := prog_1_method_26_code
def yX4_synonyms : MethodName := ⟨RX4, "synonyms", "(IIII)I"⟩
abbrev cX4_year : ByteArray := prog_1_method_27_code
def yX4_year : MethodName := ⟨RX4, "year", "(III)I"⟩
abbrev cX4_image : ByteArray := prog_1_method_28_code
def yX4_image : MethodName := ⟨RX4, "image", "(I)I"⟩
abbrev cX4_restore : ByteArray := prog_1_method_29_code
def yX4_restore : MethodName := ⟨RX4, "restore", "(I)I"⟩
abbrev cX4_told : ByteArray := prog_1_method_30_code
def yX4_told : MethodName := ⟨RX4, "told", "(I)I"⟩
abbrev cX4_tellCount : ByteArray := prog_1_method_31_code
def yX4_tellCount : MethodName := ⟨RX4, "tellCount", "(I)I"⟩
abbrev cX4_tellWord : ByteArray := prog_1_method_32_code
def yX4_tellWord : MethodName := ⟨RX4, "tellWord", "(II)I"⟩
abbrev cX4_cheapestSentence : ByteArray := prog_1_method_33_code
def yX4_cheapestSentence : MethodName := ⟨RX4, "cheapestSentence", "(II)I"⟩
abbrev cX4_fewestSpeakers : ByteArray := prog_1_method_34_code
def yX4_fewestSpeakers : MethodName := ⟨RX4, "fewestSpeakers", "(I)I"⟩
abbrev cX4_fewestWords : ByteArray := prog_1_method_35_code
def yX4_fewestWords : MethodName := ⟨RX4, "fewestWords", "()I"⟩
abbrev cX4_bestEach : ByteArray := prog_1_method_36_code
def yX4_bestEach : MethodName := ⟨RX4, "bestEach", "(I)I"⟩
abbrev cX4_mostLeft : ByteArray := prog_1_method_37_code
def yX4_mostLeft : MethodName := ⟨RX4, "mostLeft", "(II)I"⟩
abbrev cX4_fewestWeighings : ByteArray := prog_1_method_38_code
def yX4_fewestWeighings : MethodName := ⟨RX4, "fewestWeighings", "(I)I"⟩
abbrev cX4_bestMean : ByteArray := prog_1_method_39_code
def yX4_bestMean : MethodName := ⟨RX4, "bestMean", "(III)J"⟩
abbrev cX4_isWithin : ByteArray := prog_1_method_40_code
def yX4_isWithin : MethodName := ⟨RX4, "isWithin", "(III)Z"⟩
abbrev cX4_isWord : ByteArray := prog_1_method_41_code
def yX4_isWord : MethodName := ⟨RX4, "isWord", "(I)Z"⟩
abbrev cX4_isSpeaker : ByteArray := prog_1_method_42_code
def yX4_isSpeaker : MethodName := ⟨RX4, "isSpeaker", "(I)Z"⟩
abbrev cX4_isSet : ByteArray := prog_1_method_43_code
def yX4_isSet : MethodName := ⟨RX4, "isSet", "(I)Z"⟩
abbrev cX4_isIn : ByteArray := prog_1_method_44_code
def yX4_isIn : MethodName := ⟨RX4, "isIn", "(II)Z"⟩
abbrev cX4_power : ByteArray := prog_1_method_45_code
def yX4_power : MethodName := ⟨RX4, "power", "(JI)J"⟩
abbrev cX4_sumOf : ByteArray := prog_1_method_46_code
def yX4_sumOf : MethodName := ⟨RX4, "sumOf", "([I)I"⟩
abbrev cX4_copyRow : ByteArray := prog_1_method_47_code
def yX4_copyRow : MethodName := ⟨RX4, "copyRow", "([I[I)V"⟩
def RX5 : String := "WordScalesModel"
def TX5 : u_T := fun k => match k with
  | 0 => ("WordScalesModel", "weight", "[I", true)
  | 1 => ("WordScalesModel", "kind", "[I", true)
  | 2 => ("WordScalesModel", "rhymes", "[I", true)
  | 3 => ("WordScalesModel", "purse", "[I", true)
  | 4 => ("WordScalesModel", "has", "[I", true)
  | 5 => ("WordScalesModel", "wishes", "[I", true)
  | 6 => ("WordScalesModel", "wishMany", "I", false)
  | 7 => ("WordScalesModel", "sightLeft", "[I", true)
  | 8 => ("WordScalesModel", "sightRight", "[I", true)
  | 9 => ("WordScalesModel", "sightHow", "[I", true)
  | 10 => ("WordScalesModel", "sights", "I", false)
  | 11 => ("WordScalesModel", "pad", "[I", true)
  | 12 => ("WordScalesModel", "padMany", "I", false)
  | 13 => ("WordScalesModel", "act", "[I", true)
  | 14 => ("WordScalesModel", "who", "[I", true)
  | 15 => ("WordScalesModel", "which", "[I", true)
  | 16 => ("WordScalesModel", "whom", "[I", true)
  | 17 => ("WordScalesModel", "acts", "I", false)
  | 18 => ("WordScalesModel", "place", "I", false)
  | 19 => ("WordScalesModel", "openMany", "I", false)
  | 20 => ("WordScalesModel", "ended", "I", false)
  | 21 => ("WordScalesModel", "spoken", "I", false)
  | 22 => ("WordScalesModel", "heaviest", "I", false)
  | 23 => ("WordScalesModel", "heaviestWeight", "I", false)
  | 24 => ("WordScalesModel", "had", "[I", true)
  | 25 => ("WordScalesModel", "badAct", "I", false)
  | 26 => ("WordScalesModel", "badWhy", "I", false)
  | 27 => ("WordScalesModel", "brings", "[J", true)
  | 28 => ("WordScalesModel", "bringsThen", "[J", true)
  | 29 => ("WordScalesModel", "kept", "[I", true)
  | 30 => ("WordScalesModel", "isKept", "[Z", true)
  | 31 => ("WordScalesModel", "keptAt", "I", false)
  | _ => ("WordScalesModel", "isWriting", "Z", false)
def tyX5 : Nat → FieldType := fun k => match k with
  | 0 => .array .int
  | 1 => .array .int
  | 2 => .array .int
  | 3 => .array .int
  | 4 => .array .int
  | 5 => .array .int
  | 6 => .int
  | 7 => .array .int
  | 8 => .array .int
  | 9 => .array .int
  | 10 => .int
  | 11 => .array .int
  | 12 => .int
  | 13 => .array .int
  | 14 => .array .int
  | 15 => .array .int
  | 16 => .array .int
  | 17 => .int
  | 18 => .int
  | 19 => .int
  | 20 => .int
  | 21 => .int
  | 22 => .int
  | 23 => .int
  | 24 => .array .int
  | 25 => .int
  | 26 => .int
  | 27 => .array .long
  | 28 => .array .long
  | 29 => .array .int
  | 30 => .array .boolean
  | 31 => .int
  | _ => .boolean
abbrev wsX50 : List Cond := u_ws RX5 TX5 33
theorem nmX5 : ∀ a, a < 33 → ∀ b, b < 33 → a ≠ b → (TX5 a).2.1 ≠ (TX5 b).2.1 := by decide +kernel
theorem tyX5_ok : ∀ k, k < 33 → parseFieldDescriptor (TX5 k).2.2.1 = some (tyX5 k) := by decide +kernel
abbrev cX5_init : ByteArray := prog_7_method_1_code
def yX5_init : MethodName := ⟨RX5, "<init>", "()V"⟩
abbrev cX5_in : ByteArray := prog_7_method_3_code
def yX5_in : MethodName := ⟨RX5, "in", "(JJJ)Z"⟩
abbrev cX5_ones : ByteArray := prog_7_method_4_code
def yX5_ones : MethodName := ⟨RX5, "ones", "(I)I"⟩
abbrev cX5_isWord : ByteArray := prog_7_method_5_code
def yX5_isWord : MethodName := ⟨RX5, "isWord", "(I)Z"⟩
abbrev cX5_isSpeaker : ByteArray := prog_7_method_6_code
def yX5_isSpeaker : MethodName := ⟨RX5, "isSpeaker", "(I)Z"⟩
abbrev cX5_word : ByteArray := prog_7_method_7_code
def yX5_word : MethodName := ⟨RX5, "word", "(III)I"⟩
abbrev cX5_rhymesOf : ByteArray := prog_7_method_8_code
def yX5_rhymesOf : MethodName := ⟨RX5, "rhymesOf", "(I)I"⟩
abbrev cX5_rhyme : ByteArray := prog_7_method_9_code
def yX5_rhyme : MethodName := ⟨RX5, "rhyme", "(II)I"⟩
abbrev cX5_freeRhyme : ByteArray := prog_7_method_10_code
def yX5_freeRhyme : MethodName := ⟨RX5, "freeRhyme", "(I)I"⟩
abbrev cX5_part : ByteArray := prog_7_method_11_code
def yX5_part : MethodName := ⟨RX5, "part", "(I)I"⟩
abbrev cX5_speaker : ByteArray := prog_7_method_12_code
def yX5_speaker : MethodName := ⟨RX5, "speaker", "(III)I"⟩
abbrev cX5_say : ByteArray := prog_7_method_13_code
def yX5_say : MethodName := ⟨RX5, "say", "(I)I"⟩
abbrev cX5_wipe : ByteArray := prog_7_method_14_code
def yX5_wipe : MethodName := ⟨RX5, "wipe", "()I"⟩
abbrev cX5_close : ByteArray := prog_7_method_15_code
def yX5_close : MethodName := ⟨RX5, "close", "()I"⟩
abbrev cX5_begin : ByteArray := prog_7_method_16_code
def yX5_begin : MethodName := ⟨RX5, "begin", "(I)I"⟩
abbrev cX5_deed : ByteArray := prog_7_method_17_code
def yX5_deed : MethodName := ⟨RX5, "deed", "(I)I"⟩
abbrev cX5_readOn : ByteArray := prog_7_method_18_code
def yX5_readOn : MethodName := ⟨RX5, "readOn", "(II)I"⟩
abbrev cX5_fault : ByteArray := prog_7_method_19_code
def yX5_fault : MethodName := ⟨RX5, "fault", "()I"⟩
abbrev cX5_hasWord : ByteArray := prog_7_method_20_code
def yX5_hasWord : MethodName := ⟨RX5, "hasWord", "(II)Z"⟩
abbrev cX5_placeThen : ByteArray := prog_7_method_21_code
def yX5_placeThen : MethodName := ⟨RX5, "placeThen", "(I)I"⟩
abbrev cX5_whyNot : ByteArray := prog_7_method_22_code
def yX5_whyNot : MethodName := ⟨RX5, "whyNot", "(IIII)I"⟩
abbrev cX5_speak : ByteArray := prog_7_method_23_code
def yX5_speak : MethodName := ⟨RX5, "speak", "(I)V"⟩
abbrev cX5_beginCount : ByteArray := prog_7_method_24_code
def yX5_beginCount : MethodName := ⟨RX5, "beginCount", "()V"⟩
abbrev cX5_happen : ByteArray := prog_7_method_25_code
def yX5_happen : MethodName := ⟨RX5, "happen", "(IIII)V"⟩
abbrev cX5_keepNow : ByteArray := prog_7_method_26_code
def yX5_keepNow : MethodName := ⟨RX5, "keepNow", "()V"⟩
abbrev cX5_back : ByteArray := prog_7_method_27_code
def yX5_back : MethodName := ⟨RX5, "back", "(I)I"⟩
abbrev cX5_goDays : ByteArray := prog_7_method_28_code
def yX5_goDays : MethodName := ⟨RX5, "goDays", "()V"⟩
abbrev cX5_refusal : ByteArray := prog_7_method_29_code
def yX5_refusal : MethodName := ⟨RX5, "refusal", "()I"⟩
abbrev cX5_judge : ByteArray := prog_7_method_30_code
def yX5_judge : MethodName := ⟨RX5, "judge", "(I)I"⟩
abbrev cX5_behind : ByteArray := prog_7_method_31_code
def yX5_behind : MethodName := ⟨RX5, "behind", "(II)I"⟩
abbrev cX5_worn : ByteArray := prog_7_method_32_code
def yX5_worn : MethodName := ⟨RX5, "worn", "(I)I"⟩
abbrev cX5_said : ByteArray := prog_7_method_33_code
def yX5_said : MethodName := ⟨RX5, "said", "(I)I"⟩
abbrev cX5_done : ByteArray := prog_7_method_34_code
def yX5_done : MethodName := ⟨RX5, "done", "()I"⟩
abbrev cX5_scales : ByteArray := prog_7_method_35_code
def yX5_scales : MethodName := ⟨RX5, "scales", "(I)I"⟩
abbrev cX5_manyOf : ByteArray := prog_7_method_36_code
def yX5_manyOf : MethodName := ⟨RX5, "manyOf", "(II)I"⟩
abbrev cX5_times : ByteArray := prog_7_method_37_code
def yX5_times : MethodName := ⟨RX5, "times", "(JI)J"⟩
abbrev cX5_says : ByteArray := prog_7_method_38_code
def yX5_says : MethodName := ⟨RX5, "says", "(II)J"⟩
abbrev cX5_isSentence : ByteArray := prog_7_method_39_code
def yX5_isSentence : MethodName := ⟨RX5, "isSentence", "(II)Z"⟩
abbrev cX5_costOf : ByteArray := prog_7_method_40_code
def yX5_costOf : MethodName := ⟨RX5, "costOf", "(I)I"⟩
abbrev cX5_cheap : ByteArray := prog_7_method_41_code
def yX5_cheap : MethodName := ⟨RX5, "cheap", "(III)I"⟩
abbrev cX5_canSay : ByteArray := prog_7_method_42_code
def yX5_canSay : MethodName := ⟨RX5, "canSay", "(II)Z"⟩
abbrev cX5_pool : ByteArray := prog_7_method_43_code
def yX5_pool : MethodName := ⟨RX5, "pool", "(II)I"⟩
abbrev cX5_wish : ByteArray := prog_7_method_44_code
def yX5_wish : MethodName := ⟨RX5, "wish", "(I)I"⟩
abbrev cX5_unwish : ByteArray := prog_7_method_45_code
def yX5_unwish : MethodName := ⟨RX5, "unwish", "()I"⟩
abbrev cX5_asksAll : ByteArray := prog_7_method_46_code
def yX5_asksAll : MethodName := ⟨RX5, "asksAll", "(I)Z"⟩
abbrev cX5_nine : ByteArray := prog_7_method_47_code
def yX5_nine : MethodName := ⟨RX5, "nine", "(I)I"⟩
abbrev cX5_seen : ByteArray := prog_7_method_48_code
def yX5_seen : MethodName := ⟨RX5, "seen", "(III)I"⟩
abbrev cX5_forget : ByteArray := prog_7_method_49_code
def yX5_forget : MethodName := ⟨RX5, "forget", "()I"⟩
abbrev cX5_hollow : ByteArray := prog_7_method_50_code
def yX5_hollow : MethodName := ⟨RX5, "hollow", "()I"⟩
abbrev cX5_worse : ByteArray := prog_7_method_51_code
def yX5_worse : MethodName := ⟨RX5, "worse", "(II)I"⟩
abbrev cX5_turnsFor : ByteArray := prog_7_method_52_code
def yX5_turnsFor : MethodName := ⟨RX5, "turnsFor", "(I)I"⟩
abbrev cX5_lay : ByteArray := prog_7_method_53_code
def yX5_lay : MethodName := ⟨RX5, "lay", "(I)I"⟩
abbrev cX5_lowest : ByteArray := prog_7_method_54_code
def yX5_lowest : MethodName := ⟨RX5, "lowest", "(JJI)J"⟩
abbrev cX5_weather : ByteArray := prog_7_method_55_code
def yX5_weather : MethodName := ⟨RX5, "weather", "(IIIII)J"⟩
abbrev cX5_synonyms : ByteArray := prog_7_method_56_code
def yX5_synonyms : MethodName := ⟨RX5, "synonyms", "(IIII)I"⟩
abbrev cX5_actBy : ByteArray := prog_7_method_57_code
def yX5_actBy : MethodName := ⟨RX5, "actBy", "(I)I"⟩
abbrev cX5_year : ByteArray := prog_7_method_58_code
def yX5_year : MethodName := ⟨RX5, "year", "(III)I"⟩
abbrev cX5_pass : ByteArray := prog_7_method_59_code
def yX5_pass : MethodName := ⟨RX5, "pass", "(I)I"⟩
abbrev cX5_passRow : ByteArray := prog_7_method_60_code
def yX5_passRow : MethodName := ⟨RX5, "passRow", "([II)V"⟩
abbrev cX5_passAll : ByteArray := prog_7_method_61_code
def yX5_passAll : MethodName := ⟨RX5, "passAll", "()V"⟩
abbrev cX5_image : ByteArray := prog_7_method_62_code
def yX5_image : MethodName := ⟨RX5, "image", "(I)I"⟩
abbrev cX5_restore : ByteArray := prog_7_method_63_code
def yX5_restore : MethodName := ⟨RX5, "restore", "(I)I"⟩
abbrev cX5_toldOfWord : ByteArray := prog_7_method_64_code
def yX5_toldOfWord : MethodName := ⟨RX5, "toldOfWord", "(II)I"⟩
abbrev cX5_told : ByteArray := prog_7_method_65_code
def yX5_told : MethodName := ⟨RX5, "told", "(I)I"⟩
def RJ6 : String := "java/lang/Integer"
def TJ6 : u_T := fun k => match k with
  | _ => ("", "", "", false)
def tyJ6 : Nat → FieldType := fun k => match k with
  | _ => .int
abbrev wsJ60 : List Cond := u_ws RJ6 TJ6 0
theorem nmJ6 : ∀ a, a < 0 → ∀ b, b < 0 → a ≠ b → (TJ6 a).2.1 ≠ (TJ6 b).2.1 := by decide +kernel
theorem tyJ6_ok : ∀ k, k < 0 → parseFieldDescriptor (TJ6 k).2.2.1 = some (tyJ6 k) := by decide +kernel
abbrev cJ6_bitCount_0f7a4 : ByteArray := prog_8_method_49_code
def yJ6_bitCount_0f7a4 : MethodName := ⟨RJ6, "bitCount", "(I)I"⟩
def RJ9 : String := "java/lang/Math"
def TJ9 : u_T := fun k => match k with
  | _ => ("", "", "", false)
def tyJ9 : Nat → FieldType := fun k => match k with
  | _ => .int
abbrev wsJ90 : List Cond := u_ws RJ9 TJ9 0
theorem nmJ9 : ∀ a, a < 0 → ∀ b, b < 0 → a ≠ b → (TJ9 a).2.1 ≠ (TJ9 b).2.1 := by decide +kernel
theorem tyJ9_ok : ∀ k, k < 0 → parseFieldDescriptor (TJ9 k).2.2.1 = some (tyJ9 k) := by decide +kernel
abbrev cJ9_max_7cf53 : ByteArray := prog_9_method_65_code
def yJ9_max_7cf53 : MethodName := ⟨RJ9, "max", "(II)I"⟩
abbrev cJ9_max_f86c9 : ByteArray := prog_9_method_66_code
def yJ9_max_f86c9 : MethodName := ⟨RJ9, "max", "(JJ)J"⟩
def RL : String := "WordScalesLaw"
abbrev cL_law : ByteArray := code
def yL_law : MethodName := ⟨RL, "law", "([I)Z"⟩
def wsX0_init : List Cond := .code yX0_init cX0_init 1 none :: ([.methodLink RX0 3 objectInit, .instanceMethod objectInit, .code objectInit ⟨#[0xb1]⟩ 1 none, .fieldLink RX0 11 "WordScales$ActReader" "awaited" "I", .fieldLink RX0 15 "WordScales$ActReader" "act" "I", .fieldLink RX0 18 "WordScales$ActReader" "speaker" "I", .fieldLink RX0 21 "WordScales$ActReader" "word" "I", .fieldLink RX0 24 "WordScales$ActReader" "other" "I"] ++ wsX00)
def wsX0_begin : List Cond := .code yX0_begin cX0_begin 1 none :: ([.fieldLink RX0 11 "WordScales$ActReader" "awaited" "I"] ++ wsX00)
def wsX0_isBetweenActs : List Cond := .code yX0_isBetweenActs cX0_isBetweenActs 1 (some .boolean) :: ([.fieldLink RX0 11 "WordScales$ActReader" "awaited" "I"] ++ wsX00)
def wsX0_takeDot : List Cond := .code yX0_takeDot cX0_takeDot 2 (some .boolean) :: ([.fieldLink RX0 15 "WordScales$ActReader" "act" "I"] ++ wsX00)
def wsX4_isWithin : List Cond := .code yX4_isWithin cX4_isWithin 3 (some .boolean) :: ([])
def wsX4_isSpeaker : List Cond := .code yX4_isSpeaker cX4_isSpeaker 1 (some .boolean) :: ([.methodLink RX4 46 yX4_isWithin, .static yX4_isWithin, .initialized RX4, .code yX4_isWithin cX4_isWithin 3 (some .boolean)])
def wsX0_takeSpeaker : List Cond := .code yX0_takeSpeaker cX0_takeSpeaker 2 (some .boolean) :: ([.fieldLink RX0 18 "WordScales$ActReader" "speaker" "I", .fieldLink RX0 15 "WordScales$ActReader" "act" "I", .fieldLink RX0 11 "WordScales$ActReader" "awaited" "I", .static yX4_isSpeaker, .initialized RX4, .code yX4_isSpeaker cX4_isSpeaker 1 (some .boolean), .methodLink RX4 46 yX4_isWithin, .static yX4_isWithin, .code yX4_isWithin cX4_isWithin 3 (some .boolean)] ++ wsX00)
def wsX0_takeMark : List Cond := .code yX0_takeMark cX0_takeMark 2 (some .boolean) :: ([.fieldLink RX0 15 "WordScales$ActReader" "act" "I", .fieldLink RX0 11 "WordScales$ActReader" "awaited" "I"] ++ wsX00)
def wsX4_isWord : List Cond := .code yX4_isWord cX4_isWord 1 (some .boolean) :: ([.methodLink RX4 46 yX4_isWithin, .static yX4_isWithin, .initialized RX4, .code yX4_isWithin cX4_isWithin 3 (some .boolean)])
def wsX0_takeWord : List Cond := .code yX0_takeWord cX0_takeWord 2 (some .boolean) :: ([.fieldLink RX0 21 "WordScales$ActReader" "word" "I", .fieldLink RX0 11 "WordScales$ActReader" "awaited" "I", .static yX4_isWord, .initialized RX4, .code yX4_isWord cX4_isWord 1 (some .boolean), .methodLink RX4 46 yX4_isWithin, .static yX4_isWithin, .code yX4_isWithin cX4_isWithin 3 (some .boolean)] ++ wsX00)
def wsX0_takeOther : List Cond := .code yX0_takeOther cX0_takeOther 2 (some .boolean) :: ([.fieldLink RX0 24 "WordScales$ActReader" "other" "I", .fieldLink RX0 11 "WordScales$ActReader" "awaited" "I", .static yX4_isSpeaker, .initialized RX4, .code yX4_isSpeaker cX4_isSpeaker 1 (some .boolean), .methodLink RX4 46 yX4_isWithin, .static yX4_isWithin, .code yX4_isWithin cX4_isWithin 3 (some .boolean)] ++ wsX00)
def wsX0_take_r1 : List Cond := [Cond.fieldLink RX0 11 "WordScales$ActReader" "awaited" "I", Cond.methodLink RX0 27 yX0_takeDot, Cond.instanceMethod yX0_takeDot, Cond.selects RX0 yX0_takeDot yX0_takeDot, Cond.initialized RX0, Cond.code yX0_takeDot cX0_takeDot 2 (some .boolean), Cond.fieldLink RX0 15 "WordScales$ActReader" "act" "I", Cond.methodLink RX0 31 yX0_takeSpeaker, Cond.instanceMethod yX0_takeSpeaker, Cond.selects RX0 yX0_takeSpeaker yX0_takeSpeaker, Cond.code yX0_takeSpeaker cX0_takeSpeaker 2 (some .boolean), Cond.fieldLink RX0 18 "WordScales$ActReader" "speaker" "I", Cond.static yX4_isSpeaker, Cond.initialized RX4, Cond.code yX4_isSpeaker cX4_isSpeaker 1 (some .boolean), Cond.methodLink RX4 46 yX4_isWithin, Cond.static yX4_isWithin, Cond.code yX4_isWithin cX4_isWithin 3 (some .boolean), Cond.methodLink RX0 34 yX0_takeMark, Cond.instanceMethod yX0_takeMark, Cond.selects RX0 yX0_takeMark yX0_takeMark, Cond.code yX0_takeMark cX0_takeMark 2 (some .boolean), Cond.methodLink RX0 37 yX0_takeWord, Cond.instanceMethod yX0_takeWord]
def wsX0_take_r2 : List Cond := [Cond.selects RX0 yX0_takeWord yX0_takeWord, Cond.code yX0_takeWord cX0_takeWord 2 (some .boolean), Cond.fieldLink RX0 21 "WordScales$ActReader" "word" "I", Cond.static yX4_isWord, Cond.code yX4_isWord cX4_isWord 1 (some .boolean), Cond.methodLink RX0 40 yX0_takeOther, Cond.instanceMethod yX0_takeOther, Cond.selects RX0 yX0_takeOther yX0_takeOther, Cond.code yX0_takeOther cX0_takeOther 2 (some .boolean), Cond.fieldLink RX0 24 "WordScales$ActReader" "other" "I"]
def wsX0_take : List Cond := .code yX0_take cX0_take 2 (some .boolean) :: ((wsX0_take_r1 ++ wsX0_take_r2) ++ wsX00)
def wsX3_init : List Cond := .code yX3_init cX3_init 2 none :: ([.methodLink RX3 3 objectInit, .instanceMethod objectInit, .code objectInit ⟨#[0xb1]⟩ 1 none, .arrayClass .int, .fieldLink RX3 9 "WordScales$Shop" "weights" "[I", .fieldLink RX3 15 "WordScales$Shop" "kinds" "[I", .fieldLink RX3 18 "WordScales$Shop" "rhymes" "[I", .fieldLink RX3 21 "WordScales$Shop" "purses" "[I", .fieldLink RX3 24 "WordScales$Shop" "belongings" "[I", .fieldLink RX3 27 "WordScales$Shop" "wishes" "[I", .fieldLink RX3 30 "WordScales$Shop" "wishCount" "I", .fieldLink RX3 34 "WordScales$Shop" "lefts" "[I", .fieldLink RX3 37 "WordScales$Shop" "rights" "[I", .fieldLink RX3 40 "WordScales$Shop" "outcomes" "[I", .fieldLink RX3 43 "WordScales$Shop" "sightCount" "I"] ++ wsX30)
def wsX2_init : List Cond := .code yX2_init cX2_init 1 none :: ([.methodLink RX2 3 objectInit, .instanceMethod objectInit, .code objectInit ⟨#[0xb1]⟩ 1 none, .fieldLink RX2 11 "WordScales$Row" "stage" "I", .fieldLink RX2 15 "WordScales$Row" "length" "I"] ++ wsX20)
def wsX1_init_r1 : List Cond := [Cond.methodLink RX1 3 objectInit, Cond.instanceMethod objectInit, Cond.code objectInit ⟨#[0xb1]⟩ 1 none, Cond.classLink RX1 9 RX3, Cond.instantiable RX3 11, Cond.initialized RX3, Cond.fieldLink RX1 12 "WordScales$Days" "shop" "LWordScales$Shop;", Cond.classLink RX1 18 RX0, Cond.instantiable RX0 5, Cond.initialized RX0, Cond.fieldLink RX1 21 "WordScales$Days" "reader" "LWordScales$ActReader;", Cond.classLink RX1 25 RX2, Cond.instantiable RX2 2, Cond.initialized RX2, Cond.fieldLink RX1 28 "WordScales$Days" "row" "LWordScales$Row;", Cond.fieldLink RX1 32 "WordScales$Days" "faultPlace" "I", Cond.fieldLink RX1 36 "WordScales$Days" "acts" "I", Cond.fieldLink RX1 39 "WordScales$Days" "badAct" "I", Cond.fieldLink RX1 42 "WordScales$Days" "why" "I", Cond.fieldLink RX1 45 "WordScales$Days" "sentences" "I", Cond.fieldLink RX1 48 "WordScales$Days" "spoken" "I", Cond.fieldLink RX1 51 "WordScales$Days" "heaviest" "I", Cond.fieldLink RX1 54 "WordScales$Days" "heaviestWeight" "I", Cond.instanceMethod yX3_init]
def wsX1_init_r2 : List Cond := [Cond.code yX3_init cX3_init 2 none, Cond.methodLink RX3 3 objectInit, Cond.arrayClass .int, Cond.fieldLink RX3 9 "WordScales$Shop" "weights" "[I", Cond.fieldLink RX3 15 "WordScales$Shop" "kinds" "[I", Cond.fieldLink RX3 18 "WordScales$Shop" "rhymes" "[I", Cond.fieldLink RX3 21 "WordScales$Shop" "purses" "[I", Cond.fieldLink RX3 24 "WordScales$Shop" "belongings" "[I", Cond.fieldLink RX3 27 "WordScales$Shop" "wishes" "[I", Cond.fieldLink RX3 30 "WordScales$Shop" "wishCount" "I", Cond.fieldLink RX3 34 "WordScales$Shop" "lefts" "[I", Cond.fieldLink RX3 37 "WordScales$Shop" "rights" "[I", Cond.fieldLink RX3 40 "WordScales$Shop" "outcomes" "[I", Cond.fieldLink RX3 43 "WordScales$Shop" "sightCount" "I", Cond.instanceMethod yX0_init, Cond.code yX0_init cX0_init 1 none, Cond.methodLink RX0 3 objectInit, Cond.fieldLink RX0 11 "WordScales$ActReader" "awaited" "I", Cond.fieldLink RX0 15 "WordScales$ActReader" "act" "I", Cond.fieldLink RX0 18 "WordScales$ActReader" "speaker" "I", Cond.fieldLink RX0 21 "WordScales$ActReader" "word" "I", Cond.fieldLink RX0 24 "WordScales$ActReader" "other" "I", Cond.instanceMethod yX2_init, Cond.code yX2_init cX2_init 1 none]
def wsX1_init_r3 : List Cond := [Cond.methodLink RX2 3 objectInit, Cond.fieldLink RX2 11 "WordScales$Row" "stage" "I", Cond.fieldLink RX2 15 "WordScales$Row" "length" "I"]
def wsX1_init : List Cond := .code yX1_init cX1_init 1 none :: ((wsX1_init_r1 ++ (wsX1_init_r2 ++ wsX1_init_r3)) ++ wsX30 ++ wsX10 ++ wsX00 ++ wsX20)
def wsX4_copyRow : List Cond := .code yX4_copyRow cX4_copyRow 3 none :: ([])
def wsX3_copyFrom : List Cond := .code yX3_copyFrom cX3_copyFrom 2 none :: ([.fieldLink RX3 9 "WordScales$Shop" "weights" "[I", .fieldLink RX3 15 "WordScales$Shop" "kinds" "[I", .fieldLink RX3 18 "WordScales$Shop" "rhymes" "[I", .fieldLink RX3 21 "WordScales$Shop" "purses" "[I", .fieldLink RX3 24 "WordScales$Shop" "belongings" "[I", .fieldLink RX3 27 "WordScales$Shop" "wishes" "[I", .fieldLink RX3 30 "WordScales$Shop" "wishCount" "I", .fieldLink RX3 34 "WordScales$Shop" "lefts" "[I", .fieldLink RX3 37 "WordScales$Shop" "rights" "[I", .fieldLink RX3 40 "WordScales$Shop" "outcomes" "[I", .fieldLink RX3 43 "WordScales$Shop" "sightCount" "I", .static yX4_copyRow, .initialized RX4, .code yX4_copyRow cX4_copyRow 3 none] ++ wsX30)
def wsX2_begin : List Cond := .code yX2_begin cX2_begin 1 none :: ([.fieldLink RX2 11 "WordScales$Row" "stage" "I", .fieldLink RX2 15 "WordScales$Row" "length" "I"] ++ wsX20)
def wsX1_begin_r1 : List Cond := [Cond.fieldLink RX1 12 "WordScales$Days" "shop" "LWordScales$Shop;", Cond.fieldLink RX1 21 "WordScales$Days" "reader" "LWordScales$ActReader;", Cond.fieldLink RX1 28 "WordScales$Days" "row" "LWordScales$Row;", Cond.fieldLink RX1 36 "WordScales$Days" "acts" "I", Cond.fieldLink RX1 42 "WordScales$Days" "why" "I", Cond.fieldLink RX1 45 "WordScales$Days" "sentences" "I", Cond.fieldLink RX1 48 "WordScales$Days" "spoken" "I", Cond.fieldLink RX1 51 "WordScales$Days" "heaviest" "I", Cond.fieldLink RX1 54 "WordScales$Days" "heaviestWeight" "I", Cond.instanceMethod yX3_copyFrom, Cond.initialized RX3, Cond.selects RX3 yX3_copyFrom yX3_copyFrom, Cond.code yX3_copyFrom cX3_copyFrom 2 none, Cond.fieldLink RX3 9 "WordScales$Shop" "weights" "[I", Cond.fieldLink RX3 15 "WordScales$Shop" "kinds" "[I", Cond.fieldLink RX3 18 "WordScales$Shop" "rhymes" "[I", Cond.fieldLink RX3 21 "WordScales$Shop" "purses" "[I", Cond.fieldLink RX3 24 "WordScales$Shop" "belongings" "[I", Cond.fieldLink RX3 27 "WordScales$Shop" "wishes" "[I", Cond.fieldLink RX3 30 "WordScales$Shop" "wishCount" "I", Cond.fieldLink RX3 34 "WordScales$Shop" "lefts" "[I", Cond.fieldLink RX3 37 "WordScales$Shop" "rights" "[I", Cond.fieldLink RX3 40 "WordScales$Shop" "outcomes" "[I", Cond.fieldLink RX3 43 "WordScales$Shop" "sightCount" "I"]
def wsX1_begin_r2 : List Cond := [Cond.static yX4_copyRow, Cond.initialized RX4, Cond.code yX4_copyRow cX4_copyRow 3 none, Cond.instanceMethod yX0_begin, Cond.initialized RX0, Cond.selects RX0 yX0_begin yX0_begin, Cond.code yX0_begin cX0_begin 1 none, Cond.fieldLink RX0 11 "WordScales$ActReader" "awaited" "I", Cond.instanceMethod yX2_begin, Cond.initialized RX2, Cond.selects RX2 yX2_begin yX2_begin, Cond.code yX2_begin cX2_begin 1 none, Cond.fieldLink RX2 11 "WordScales$Row" "stage" "I", Cond.fieldLink RX2 15 "WordScales$Row" "length" "I"]
def wsX1_begin : List Cond := .code yX1_begin cX1_begin 2 none :: ((wsX1_begin_r1 ++ wsX1_begin_r2) ++ wsX10 ++ wsX30 ++ wsX00 ++ wsX20)
def wsX2_isSentence : List Cond := .code yX2_isSentence cX2_isSentence 1 (some .boolean) :: ([.fieldLink RX2 11 "WordScales$Row" "stage" "I"] ++ wsX20)
def wsX1_endSentence : List Cond := .code yX1_endSentence cX1_endSentence 1 (some .int) :: ([.fieldLink RX1 28 "WordScales$Days" "row" "LWordScales$Row;", .fieldLink RX1 45 "WordScales$Days" "sentences" "I", .instanceMethod yX2_isSentence, .initialized RX2, .selects RX2 yX2_isSentence yX2_isSentence, .code yX2_isSentence cX2_isSentence 1 (some .boolean), .fieldLink RX2 11 "WordScales$Row" "stage" "I", .instanceMethod yX2_begin, .selects RX2 yX2_begin yX2_begin, .code yX2_begin cX2_begin 1 none, .fieldLink RX2 15 "WordScales$Row" "length" "I"] ++ wsX10 ++ wsX20)
def wsX4_isIn : List Cond := .code yX4_isIn cX4_isIn 2 (some .boolean) :: ([])
def wsX3_buy : List Cond := .code yX3_buy cX3_buy 3 (some .int) :: ([.fieldLink RX3 24 "WordScales$Shop" "belongings" "[I", .fieldLink RX3 21 "WordScales$Shop" "purses" "[I", .fieldLink RX3 9 "WordScales$Shop" "weights" "[I", .static yX4_isIn, .initialized RX4, .code yX4_isIn cX4_isIn 2 (some .boolean)] ++ wsX30)
def wsX3_handIn : List Cond := .code yX3_handIn cX3_handIn 4 (some .int) :: ([.fieldLink RX3 24 "WordScales$Shop" "belongings" "[I", .fieldLink RX3 21 "WordScales$Shop" "purses" "[I", .fieldLink RX3 9 "WordScales$Shop" "weights" "[I", .static yX4_isIn, .initialized RX4, .code yX4_isIn cX4_isIn 2 (some .boolean)] ++ wsX30)
def wsX3_speak : List Cond := .code yX3_speak cX3_speak 3 (some .int) :: ([.fieldLink RX3 24 "WordScales$Shop" "belongings" "[I", .fieldLink RX3 9 "WordScales$Shop" "weights" "[I", .methodLink RX3 62 Lib.Math.max.name, .static Lib.Math.max.name, .initialized "java/lang/Math", .code Lib.Math.max.name Lib.Math.max.code 2 (some .int), .static yX4_isIn, .initialized RX4, .code yX4_isIn cX4_isIn 2 (some .boolean)] ++ wsX30)
def wsX3_give : List Cond := .code yX3_give cX3_give 4 (some .int) :: ([.fieldLink RX3 24 "WordScales$Shop" "belongings" "[I", .static yX4_isIn, .initialized RX4, .code yX4_isIn cX4_isIn 2 (some .boolean)] ++ wsX30)
def wsX3_perform_r1 : List Cond := [Cond.static yX4_isSpeaker, Cond.initialized RX4, Cond.code yX4_isSpeaker cX4_isSpeaker 1 (some .boolean), Cond.methodLink RX4 46 yX4_isWithin, Cond.static yX4_isWithin, Cond.code yX4_isWithin cX4_isWithin 3 (some .boolean), Cond.static yX4_isWord, Cond.code yX4_isWord cX4_isWord 1 (some .boolean), Cond.methodLink RX3 82 yX3_buy, Cond.instanceMethod yX3_buy, Cond.selects RX3 yX3_buy yX3_buy, Cond.initialized RX3, Cond.code yX3_buy cX3_buy 3 (some .int), Cond.fieldLink RX3 24 "WordScales$Shop" "belongings" "[I", Cond.fieldLink RX3 21 "WordScales$Shop" "purses" "[I", Cond.fieldLink RX3 9 "WordScales$Shop" "weights" "[I", Cond.static yX4_isIn, Cond.code yX4_isIn cX4_isIn 2 (some .boolean), Cond.methodLink RX3 85 yX3_handIn, Cond.instanceMethod yX3_handIn, Cond.selects RX3 yX3_handIn yX3_handIn, Cond.code yX3_handIn cX3_handIn 4 (some .int), Cond.methodLink RX3 88 yX3_speak, Cond.instanceMethod yX3_speak]
def wsX3_perform_r2 : List Cond := [Cond.selects RX3 yX3_speak yX3_speak, Cond.code yX3_speak cX3_speak 3 (some .int), Cond.methodLink RX3 62 Lib.Math.max.name, Cond.static Lib.Math.max.name, Cond.initialized "java/lang/Math", Cond.code Lib.Math.max.name Lib.Math.max.code 2 (some .int), Cond.methodLink RX3 91 yX3_give, Cond.instanceMethod yX3_give, Cond.selects RX3 yX3_give yX3_give, Cond.code yX3_give cX3_give 4 (some .int)]
def wsX3_perform : List Cond := .code yX3_perform cX3_perform 5 (some .int) :: ((wsX3_perform_r1 ++ wsX3_perform_r2) ++ wsX30)
def wsX1_noteSpoken : List Cond := .code yX1_noteSpoken cX1_noteSpoken 3 none :: ([.fieldLink RX1 54 "WordScales$Days" "heaviestWeight" "I", .fieldLink RX1 51 "WordScales$Days" "heaviest" "I", .fieldLink RX1 48 "WordScales$Days" "spoken" "I"] ++ wsX10)
def wsX2_stageBehind : List Cond := .code yX2_stageBehind cX2_stageBehind 2 (some .int) :: ([.fieldLink RX2 11 "WordScales$Row" "stage" "I"] ++ wsX20)
def wsX2_add : List Cond := .code yX2_add cX2_add 2 none :: ([.fieldLink RX2 11 "WordScales$Row" "stage" "I", .fieldLink RX2 15 "WordScales$Row" "length" "I", .methodLink RX2 18 yX2_stageBehind, .instanceMethod yX2_stageBehind, .selects RX2 yX2_stageBehind yX2_stageBehind, .initialized RX2, .code yX2_stageBehind cX2_stageBehind 2 (some .int)] ++ wsX20)
def wsX1_doWordAct_r1 : List Cond := [Cond.fieldLink RX1 12 "WordScales$Days" "shop" "LWordScales$Shop;", Cond.fieldLink RX1 21 "WordScales$Days" "reader" "LWordScales$ActReader;", Cond.fieldLink RX1 28 "WordScales$Days" "row" "LWordScales$Row;", Cond.static yX4_isWord, Cond.initialized RX4, Cond.code yX4_isWord cX4_isWord 1 (some .boolean), Cond.methodLink RX4 46 yX4_isWithin, Cond.static yX4_isWithin, Cond.code yX4_isWithin cX4_isWithin 3 (some .boolean), Cond.instanceMethod yX3_perform, Cond.initialized RX3, Cond.selects RX3 yX3_perform yX3_perform, Cond.code yX3_perform cX3_perform 5 (some .int), Cond.static yX4_isSpeaker, Cond.code yX4_isSpeaker cX4_isSpeaker 1 (some .boolean), Cond.methodLink RX3 82 yX3_buy, Cond.instanceMethod yX3_buy, Cond.selects RX3 yX3_buy yX3_buy, Cond.code yX3_buy cX3_buy 3 (some .int), Cond.fieldLink RX3 24 "WordScales$Shop" "belongings" "[I", Cond.fieldLink RX3 21 "WordScales$Shop" "purses" "[I", Cond.fieldLink RX3 9 "WordScales$Shop" "weights" "[I", Cond.static yX4_isIn, Cond.code yX4_isIn cX4_isIn 2 (some .boolean)]
def wsX1_doWordAct_r2 : List Cond := [Cond.methodLink RX3 85 yX3_handIn, Cond.instanceMethod yX3_handIn, Cond.selects RX3 yX3_handIn yX3_handIn, Cond.code yX3_handIn cX3_handIn 4 (some .int), Cond.methodLink RX3 88 yX3_speak, Cond.instanceMethod yX3_speak, Cond.selects RX3 yX3_speak yX3_speak, Cond.code yX3_speak cX3_speak 3 (some .int), Cond.methodLink RX3 62 Lib.Math.max.name, Cond.static Lib.Math.max.name, Cond.initialized "java/lang/Math", Cond.code Lib.Math.max.name Lib.Math.max.code 2 (some .int), Cond.methodLink RX3 91 yX3_give, Cond.instanceMethod yX3_give, Cond.selects RX3 yX3_give yX3_give, Cond.code yX3_give cX3_give 4 (some .int), Cond.methodLink RX1 112 yX1_noteSpoken, Cond.instanceMethod yX1_noteSpoken, Cond.selects RX1 yX1_noteSpoken yX1_noteSpoken, Cond.initialized RX1, Cond.code yX1_noteSpoken cX1_noteSpoken 3 none, Cond.fieldLink RX1 54 "WordScales$Days" "heaviestWeight" "I", Cond.fieldLink RX1 51 "WordScales$Days" "heaviest" "I", Cond.fieldLink RX1 48 "WordScales$Days" "spoken" "I"]
def wsX1_doWordAct_r3 : List Cond := [Cond.instanceMethod yX2_add, Cond.initialized RX2, Cond.selects RX2 yX2_add yX2_add, Cond.code yX2_add cX2_add 2 none, Cond.fieldLink RX2 11 "WordScales$Row" "stage" "I", Cond.fieldLink RX2 15 "WordScales$Row" "length" "I", Cond.methodLink RX2 18 yX2_stageBehind, Cond.instanceMethod yX2_stageBehind, Cond.selects RX2 yX2_stageBehind yX2_stageBehind, Cond.code yX2_stageBehind cX2_stageBehind 2 (some .int)]
def wsX1_doWordAct : List Cond := .code yX1_doWordAct cX1_doWordAct 4 (some .int) :: ((wsX1_doWordAct_r1 ++ (wsX1_doWordAct_r2 ++ wsX1_doWordAct_r3)) ++ wsX10 ++ wsX30 ++ wsX00 ++ wsX20)
def wsX1_doAct_r1 : List Cond := [Cond.fieldLink RX1 42 "WordScales$Days" "why" "I", Cond.fieldLink RX1 21 "WordScales$Days" "reader" "LWordScales$ActReader;", Cond.fieldLink RX1 36 "WordScales$Days" "acts" "I", Cond.fieldLink RX1 39 "WordScales$Days" "badAct" "I", Cond.methodLink RX1 81 yX1_endSentence, Cond.instanceMethod yX1_endSentence, Cond.selects RX1 yX1_endSentence yX1_endSentence, Cond.initialized RX1, Cond.code yX1_endSentence cX1_endSentence 1 (some .int), Cond.fieldLink RX1 28 "WordScales$Days" "row" "LWordScales$Row;", Cond.fieldLink RX1 45 "WordScales$Days" "sentences" "I", Cond.instanceMethod yX2_isSentence, Cond.initialized RX2, Cond.selects RX2 yX2_isSentence yX2_isSentence, Cond.code yX2_isSentence cX2_isSentence 1 (some .boolean), Cond.fieldLink RX2 11 "WordScales$Row" "stage" "I", Cond.instanceMethod yX2_begin, Cond.selects RX2 yX2_begin yX2_begin, Cond.code yX2_begin cX2_begin 1 none, Cond.fieldLink RX2 15 "WordScales$Row" "length" "I", Cond.methodLink RX1 88 yX1_doWordAct, Cond.instanceMethod yX1_doWordAct, Cond.selects RX1 yX1_doWordAct yX1_doWordAct, Cond.code yX1_doWordAct cX1_doWordAct 4 (some .int)]
def wsX1_doAct_r2 : List Cond := [Cond.fieldLink RX1 12 "WordScales$Days" "shop" "LWordScales$Shop;", Cond.static yX4_isWord, Cond.initialized RX4, Cond.code yX4_isWord cX4_isWord 1 (some .boolean), Cond.methodLink RX4 46 yX4_isWithin, Cond.static yX4_isWithin, Cond.code yX4_isWithin cX4_isWithin 3 (some .boolean), Cond.instanceMethod yX3_perform, Cond.initialized RX3, Cond.selects RX3 yX3_perform yX3_perform, Cond.code yX3_perform cX3_perform 5 (some .int), Cond.static yX4_isSpeaker, Cond.code yX4_isSpeaker cX4_isSpeaker 1 (some .boolean), Cond.methodLink RX3 82 yX3_buy, Cond.instanceMethod yX3_buy, Cond.selects RX3 yX3_buy yX3_buy, Cond.code yX3_buy cX3_buy 3 (some .int), Cond.fieldLink RX3 24 "WordScales$Shop" "belongings" "[I", Cond.fieldLink RX3 21 "WordScales$Shop" "purses" "[I", Cond.fieldLink RX3 9 "WordScales$Shop" "weights" "[I", Cond.static yX4_isIn, Cond.code yX4_isIn cX4_isIn 2 (some .boolean), Cond.methodLink RX3 85 yX3_handIn, Cond.instanceMethod yX3_handIn]
def wsX1_doAct_r3 : List Cond := [Cond.selects RX3 yX3_handIn yX3_handIn, Cond.code yX3_handIn cX3_handIn 4 (some .int), Cond.methodLink RX3 88 yX3_speak, Cond.instanceMethod yX3_speak, Cond.selects RX3 yX3_speak yX3_speak, Cond.code yX3_speak cX3_speak 3 (some .int), Cond.methodLink RX3 62 Lib.Math.max.name, Cond.static Lib.Math.max.name, Cond.initialized "java/lang/Math", Cond.code Lib.Math.max.name Lib.Math.max.code 2 (some .int), Cond.methodLink RX3 91 yX3_give, Cond.instanceMethod yX3_give, Cond.selects RX3 yX3_give yX3_give, Cond.code yX3_give cX3_give 4 (some .int), Cond.methodLink RX1 112 yX1_noteSpoken, Cond.instanceMethod yX1_noteSpoken, Cond.selects RX1 yX1_noteSpoken yX1_noteSpoken, Cond.code yX1_noteSpoken cX1_noteSpoken 3 none, Cond.fieldLink RX1 54 "WordScales$Days" "heaviestWeight" "I", Cond.fieldLink RX1 51 "WordScales$Days" "heaviest" "I", Cond.fieldLink RX1 48 "WordScales$Days" "spoken" "I", Cond.instanceMethod yX2_add, Cond.selects RX2 yX2_add yX2_add, Cond.code yX2_add cX2_add 2 none]
def wsX1_doAct_r4 : List Cond := [Cond.methodLink RX2 18 yX2_stageBehind, Cond.instanceMethod yX2_stageBehind, Cond.selects RX2 yX2_stageBehind yX2_stageBehind, Cond.code yX2_stageBehind cX2_stageBehind 2 (some .int)]
def wsX1_doAct : List Cond := .code yX1_doAct cX1_doAct 1 none :: ((wsX1_doAct_r1 ++ (wsX1_doAct_r2 ++ (wsX1_doAct_r3 ++ wsX1_doAct_r4))) ++ wsX10 ++ wsX00 ++ wsX20 ++ wsX30)
def wsX1_readAll_r1 : List Cond := [Cond.fieldLink RX1 21 "WordScales$Days" "reader" "LWordScales$ActReader;", Cond.fieldLink RX1 32 "WordScales$Days" "faultPlace" "I", Cond.fieldLink RX1 42 "WordScales$Days" "why" "I", Cond.methodLink RX1 57 yX1_begin, Cond.instanceMethod yX1_begin, Cond.selects RX1 yX1_begin yX1_begin, Cond.initialized RX1, Cond.code yX1_begin cX1_begin 2 none, Cond.fieldLink RX1 12 "WordScales$Days" "shop" "LWordScales$Shop;", Cond.fieldLink RX1 28 "WordScales$Days" "row" "LWordScales$Row;", Cond.fieldLink RX1 36 "WordScales$Days" "acts" "I", Cond.fieldLink RX1 45 "WordScales$Days" "sentences" "I", Cond.fieldLink RX1 48 "WordScales$Days" "spoken" "I", Cond.fieldLink RX1 51 "WordScales$Days" "heaviest" "I", Cond.fieldLink RX1 54 "WordScales$Days" "heaviestWeight" "I", Cond.instanceMethod yX3_copyFrom, Cond.initialized RX3, Cond.selects RX3 yX3_copyFrom yX3_copyFrom, Cond.code yX3_copyFrom cX3_copyFrom 2 none, Cond.fieldLink RX3 9 "WordScales$Shop" "weights" "[I", Cond.fieldLink RX3 15 "WordScales$Shop" "kinds" "[I", Cond.fieldLink RX3 18 "WordScales$Shop" "rhymes" "[I", Cond.fieldLink RX3 21 "WordScales$Shop" "purses" "[I", Cond.fieldLink RX3 24 "WordScales$Shop" "belongings" "[I"]
def wsX1_readAll_r2 : List Cond := [Cond.fieldLink RX3 27 "WordScales$Shop" "wishes" "[I", Cond.fieldLink RX3 30 "WordScales$Shop" "wishCount" "I", Cond.fieldLink RX3 34 "WordScales$Shop" "lefts" "[I", Cond.fieldLink RX3 37 "WordScales$Shop" "rights" "[I", Cond.fieldLink RX3 40 "WordScales$Shop" "outcomes" "[I", Cond.fieldLink RX3 43 "WordScales$Shop" "sightCount" "I", Cond.static yX4_copyRow, Cond.initialized RX4, Cond.code yX4_copyRow cX4_copyRow 3 none, Cond.instanceMethod yX0_begin, Cond.initialized RX0, Cond.selects RX0 yX0_begin yX0_begin, Cond.code yX0_begin cX0_begin 1 none, Cond.fieldLink RX0 11 "WordScales$ActReader" "awaited" "I", Cond.instanceMethod yX2_begin, Cond.initialized RX2, Cond.selects RX2 yX2_begin yX2_begin, Cond.code yX2_begin cX2_begin 1 none, Cond.fieldLink RX2 11 "WordScales$Row" "stage" "I", Cond.fieldLink RX2 15 "WordScales$Row" "length" "I", Cond.instanceMethod yX0_take, Cond.selects RX0 yX0_take yX0_take, Cond.code yX0_take cX0_take 2 (some .boolean), Cond.methodLink RX0 27 yX0_takeDot]
def wsX1_readAll_r3 : List Cond := [Cond.instanceMethod yX0_takeDot, Cond.selects RX0 yX0_takeDot yX0_takeDot, Cond.code yX0_takeDot cX0_takeDot 2 (some .boolean), Cond.fieldLink RX0 15 "WordScales$ActReader" "act" "I", Cond.methodLink RX0 31 yX0_takeSpeaker, Cond.instanceMethod yX0_takeSpeaker, Cond.selects RX0 yX0_takeSpeaker yX0_takeSpeaker, Cond.code yX0_takeSpeaker cX0_takeSpeaker 2 (some .boolean), Cond.fieldLink RX0 18 "WordScales$ActReader" "speaker" "I", Cond.static yX4_isSpeaker, Cond.code yX4_isSpeaker cX4_isSpeaker 1 (some .boolean), Cond.methodLink RX4 46 yX4_isWithin, Cond.static yX4_isWithin, Cond.code yX4_isWithin cX4_isWithin 3 (some .boolean), Cond.methodLink RX0 34 yX0_takeMark, Cond.instanceMethod yX0_takeMark, Cond.selects RX0 yX0_takeMark yX0_takeMark, Cond.code yX0_takeMark cX0_takeMark 2 (some .boolean), Cond.methodLink RX0 37 yX0_takeWord, Cond.instanceMethod yX0_takeWord, Cond.selects RX0 yX0_takeWord yX0_takeWord, Cond.code yX0_takeWord cX0_takeWord 2 (some .boolean), Cond.fieldLink RX0 21 "WordScales$ActReader" "word" "I", Cond.static yX4_isWord]
def wsX1_readAll_r4 : List Cond := [Cond.code yX4_isWord cX4_isWord 1 (some .boolean), Cond.methodLink RX0 40 yX0_takeOther, Cond.instanceMethod yX0_takeOther, Cond.selects RX0 yX0_takeOther yX0_takeOther, Cond.code yX0_takeOther cX0_takeOther 2 (some .boolean), Cond.fieldLink RX0 24 "WordScales$ActReader" "other" "I", Cond.instanceMethod yX0_isBetweenActs, Cond.selects RX0 yX0_isBetweenActs yX0_isBetweenActs, Cond.code yX0_isBetweenActs cX0_isBetweenActs 1 (some .boolean), Cond.methodLink RX1 69 yX1_doAct, Cond.instanceMethod yX1_doAct, Cond.selects RX1 yX1_doAct yX1_doAct, Cond.code yX1_doAct cX1_doAct 1 none, Cond.fieldLink RX1 39 "WordScales$Days" "badAct" "I", Cond.methodLink RX1 81 yX1_endSentence, Cond.instanceMethod yX1_endSentence, Cond.selects RX1 yX1_endSentence yX1_endSentence, Cond.code yX1_endSentence cX1_endSentence 1 (some .int), Cond.instanceMethod yX2_isSentence, Cond.selects RX2 yX2_isSentence yX2_isSentence, Cond.code yX2_isSentence cX2_isSentence 1 (some .boolean), Cond.methodLink RX1 88 yX1_doWordAct, Cond.instanceMethod yX1_doWordAct, Cond.selects RX1 yX1_doWordAct yX1_doWordAct]
def wsX1_readAll_r5 : List Cond := [Cond.code yX1_doWordAct cX1_doWordAct 4 (some .int), Cond.instanceMethod yX3_perform, Cond.selects RX3 yX3_perform yX3_perform, Cond.code yX3_perform cX3_perform 5 (some .int), Cond.methodLink RX3 82 yX3_buy, Cond.instanceMethod yX3_buy, Cond.selects RX3 yX3_buy yX3_buy, Cond.code yX3_buy cX3_buy 3 (some .int), Cond.static yX4_isIn, Cond.code yX4_isIn cX4_isIn 2 (some .boolean), Cond.methodLink RX3 85 yX3_handIn, Cond.instanceMethod yX3_handIn, Cond.selects RX3 yX3_handIn yX3_handIn, Cond.code yX3_handIn cX3_handIn 4 (some .int), Cond.methodLink RX3 88 yX3_speak, Cond.instanceMethod yX3_speak, Cond.selects RX3 yX3_speak yX3_speak, Cond.code yX3_speak cX3_speak 3 (some .int), Cond.methodLink RX3 62 Lib.Math.max.name, Cond.static Lib.Math.max.name, Cond.initialized "java/lang/Math", Cond.code Lib.Math.max.name Lib.Math.max.code 2 (some .int), Cond.methodLink RX3 91 yX3_give, Cond.instanceMethod yX3_give]
def wsX1_readAll_r6 : List Cond := [Cond.selects RX3 yX3_give yX3_give, Cond.code yX3_give cX3_give 4 (some .int), Cond.methodLink RX1 112 yX1_noteSpoken, Cond.instanceMethod yX1_noteSpoken, Cond.selects RX1 yX1_noteSpoken yX1_noteSpoken, Cond.code yX1_noteSpoken cX1_noteSpoken 3 none, Cond.instanceMethod yX2_add, Cond.selects RX2 yX2_add yX2_add, Cond.code yX2_add cX2_add 2 none, Cond.methodLink RX2 18 yX2_stageBehind, Cond.instanceMethod yX2_stageBehind, Cond.selects RX2 yX2_stageBehind yX2_stageBehind, Cond.code yX2_stageBehind cX2_stageBehind 2 (some .int)]
def wsX1_readAll : List Cond := .code yX1_readAll cX1_readAll 5 (some .int) :: ((wsX1_readAll_r1 ++ (wsX1_readAll_r2 ++ (wsX1_readAll_r3 ++ (wsX1_readAll_r4 ++ (wsX1_readAll_r5 ++ wsX1_readAll_r6))))) ++ wsX10 ++ wsX30 ++ wsX00 ++ wsX20)
def wsX3_joinRhymes : List Cond := .code yX3_joinRhymes cX3_joinRhymes 5 none :: ([.fieldLink RX3 18 "WordScales$Shop" "rhymes" "[I", .static yX4_isWord, .initialized RX4, .code yX4_isWord cX4_isWord 1 (some .boolean), .methodLink RX4 46 yX4_isWithin, .static yX4_isWithin, .code yX4_isWithin cX4_isWithin 3 (some .boolean), .static yX4_isIn, .code yX4_isIn cX4_isIn 2 (some .boolean)] ++ wsX30)
def wsX3_leaveRhymes : List Cond := .code yX3_leaveRhymes cX3_leaveRhymes 4 none :: ([.fieldLink RX3 18 "WordScales$Shop" "rhymes" "[I", .static yX4_isWord, .initialized RX4, .code yX4_isWord cX4_isWord 1 (some .boolean), .methodLink RX4 46 yX4_isWithin, .static yX4_isWithin, .code yX4_isWithin cX4_isWithin 3 (some .boolean)] ++ wsX30)
def wsX3_heaviestOf : List Cond := .code yX3_heaviestOf cX3_heaviestOf 4 (some .int) :: ([.fieldLink RX3 9 "WordScales$Shop" "weights" "[I", .methodLink RX3 62 Lib.Math.max.name, .static Lib.Math.max.name, .initialized "java/lang/Math", .code Lib.Math.max.name Lib.Math.max.code 2 (some .int), .static yX4_isIn, .initialized RX4, .code yX4_isIn cX4_isIn 2 (some .boolean)] ++ wsX30)
def wsX3_weigh : List Cond := .code yX3_weigh cX3_weigh 5 (some .int) :: ([.fieldLink RX3 18 "WordScales$Shop" "rhymes" "[I", .static yX4_isIn, .initialized RX4, .code yX4_isIn cX4_isIn 2 (some .boolean), .methodLink RX3 58 yX3_heaviestOf, .instanceMethod yX3_heaviestOf, .selects RX3 yX3_heaviestOf yX3_heaviestOf, .initialized RX3, .code yX3_heaviestOf cX3_heaviestOf 4 (some .int), .fieldLink RX3 9 "WordScales$Shop" "weights" "[I", .methodLink RX3 62 Lib.Math.max.name, .static Lib.Math.max.name, .initialized "java/lang/Math", .code Lib.Math.max.name Lib.Math.max.code 2 (some .int)] ++ wsX30)
def wsX3_priceOf : List Cond := .code yX3_priceOf cX3_priceOf 4 (some .int) :: ([.fieldLink RX3 9 "WordScales$Shop" "weights" "[I", .static yX4_isIn, .initialized RX4, .code yX4_isIn cX4_isIn 2 (some .boolean)] ++ wsX30)
def wsX3_ofKind : List Cond := .code yX3_ofKind cX3_ofKind 4 (some .int) :: ([.fieldLink RX3 15 "WordScales$Shop" "kinds" "[I"] ++ wsX30)
def wsJ6_bitCount_0f7a4 : List Cond := .code yJ6_bitCount_0f7a4 cJ6_bitCount_0f7a4 1 (some .int) :: ([.constant RJ6 265 (1431655765), .constant RJ6 266 (858993459), .constant RJ6 267 (252645135)])
def wsX3_countKind : List Cond := .code yX3_countKind cX3_countKind 3 (some .int) :: ([.methodLink RX3 68 yX3_ofKind, .instanceMethod yX3_ofKind, .selects RX3 yX3_ofKind yX3_ofKind, .initialized RX3, .code yX3_ofKind cX3_ofKind 4 (some .int), .fieldLink RX3 15 "WordScales$Shop" "kinds" "[I", .methodLink RX3 71 yJ6_bitCount_0f7a4, .static yJ6_bitCount_0f7a4, .initialized RJ6, .code yJ6_bitCount_0f7a4 cJ6_bitCount_0f7a4 1 (some .int), .constant RJ6 265 (1431655765), .constant RJ6 266 (858993459), .constant RJ6 267 (252645135)] ++ wsX30)
def wsX3_heldBy : List Cond := .code yX3_heldBy cX3_heldBy 4 (some .int) :: ([.fieldLink RX3 24 "WordScales$Shop" "belongings" "[I", .static yX4_isIn, .initialized RX4, .code yX4_isIn cX4_isIn 2 (some .boolean)] ++ wsX30)
def wsX3_countBelongings : List Cond := .code yX3_countBelongings cX3_countBelongings 3 (some .int) :: ([.fieldLink RX3 24 "WordScales$Shop" "belongings" "[I", .methodLink RX3 71 yJ6_bitCount_0f7a4, .static yJ6_bitCount_0f7a4, .initialized RJ6, .code yJ6_bitCount_0f7a4 cJ6_bitCount_0f7a4 1 (some .int), .constant RJ6 265 (1431655765), .constant RJ6 266 (858993459), .constant RJ6 267 (252645135)] ++ wsX30)
def wsX3_canSayOnce : List Cond := .code yX3_canSayOnce cX3_canSayOnce 5 (some .boolean) :: ([.methodLink RX3 76 yX3_countKind, .instanceMethod yX3_countKind, .selects RX3 yX3_countKind yX3_countKind, .initialized RX3, .code yX3_countKind cX3_countKind 3 (some .int), .methodLink RX3 68 yX3_ofKind, .instanceMethod yX3_ofKind, .selects RX3 yX3_ofKind yX3_ofKind, .code yX3_ofKind cX3_ofKind 4 (some .int), .fieldLink RX3 15 "WordScales$Shop" "kinds" "[I", .methodLink RX3 71 yJ6_bitCount_0f7a4, .static yJ6_bitCount_0f7a4, .initialized RJ6, .code yJ6_bitCount_0f7a4 cJ6_bitCount_0f7a4 1 (some .int), .constant RJ6 265 (1431655765), .constant RJ6 266 (858993459), .constant RJ6 267 (252645135)] ++ wsX30)
def wsX3_grantsAll : List Cond := .code yX3_grantsAll cX3_grantsAll 3 (some .boolean) :: ([.fieldLink RX3 30 "WordScales$Shop" "wishCount" "I", .fieldLink RX3 27 "WordScales$Shop" "wishes" "[I"] ++ wsX30)
def wsX3_suspects : List Cond := .code yX3_suspects cX3_suspects 3 (some .int) :: ([.fieldLink RX3 43 "WordScales$Shop" "sightCount" "I", .fieldLink RX3 40 "WordScales$Shop" "outcomes" "[I", .fieldLink RX3 34 "WordScales$Shop" "lefts" "[I", .fieldLink RX3 37 "WordScales$Shop" "rights" "[I"] ++ wsX30)
def wsX3_drawnAct : List Cond := .code yX3_drawnAct cX3_drawnAct 1 (some .int) :: ([])
def wsX3_liveYear_r1 : List Cond := [Cond.constant RX3 95 (65537), Cond.methodLink RX3 96 yX3_drawnAct, Cond.static yX3_drawnAct, Cond.initialized RX3, Cond.code yX3_drawnAct cX3_drawnAct 1 (some .int), Cond.methodLink RX3 99 yX3_perform, Cond.instanceMethod yX3_perform, Cond.selects RX3 yX3_perform yX3_perform, Cond.code yX3_perform cX3_perform 5 (some .int), Cond.static yX4_isSpeaker, Cond.initialized RX4, Cond.code yX4_isSpeaker cX4_isSpeaker 1 (some .boolean), Cond.methodLink RX4 46 yX4_isWithin, Cond.static yX4_isWithin, Cond.code yX4_isWithin cX4_isWithin 3 (some .boolean), Cond.static yX4_isWord, Cond.code yX4_isWord cX4_isWord 1 (some .boolean), Cond.methodLink RX3 82 yX3_buy, Cond.instanceMethod yX3_buy, Cond.selects RX3 yX3_buy yX3_buy, Cond.code yX3_buy cX3_buy 3 (some .int), Cond.fieldLink RX3 24 "WordScales$Shop" "belongings" "[I", Cond.fieldLink RX3 21 "WordScales$Shop" "purses" "[I", Cond.fieldLink RX3 9 "WordScales$Shop" "weights" "[I"]
def wsX3_liveYear_r2 : List Cond := [Cond.static yX4_isIn, Cond.code yX4_isIn cX4_isIn 2 (some .boolean), Cond.methodLink RX3 85 yX3_handIn, Cond.instanceMethod yX3_handIn, Cond.selects RX3 yX3_handIn yX3_handIn, Cond.code yX3_handIn cX3_handIn 4 (some .int), Cond.methodLink RX3 88 yX3_speak, Cond.instanceMethod yX3_speak, Cond.selects RX3 yX3_speak yX3_speak, Cond.code yX3_speak cX3_speak 3 (some .int), Cond.methodLink RX3 62 Lib.Math.max.name, Cond.static Lib.Math.max.name, Cond.initialized "java/lang/Math", Cond.code Lib.Math.max.name Lib.Math.max.code 2 (some .int), Cond.methodLink RX3 91 yX3_give, Cond.instanceMethod yX3_give, Cond.selects RX3 yX3_give yX3_give, Cond.code yX3_give cX3_give 4 (some .int)]
def wsX3_liveYear : List Cond := .code yX3_liveYear cX3_liveYear 5 none :: ((wsX3_liveYear_r1 ++ wsX3_liveYear_r2) ++ wsX30)
def wsX4_init_r1 : List Cond := [Cond.methodLink RX4 1 objectInit, Cond.instanceMethod objectInit, Cond.code objectInit ⟨#[0xb1]⟩ 1 none, Cond.classLink RX4 7 RX3, Cond.instantiable RX3 11, Cond.initialized RX3, Cond.fieldLink RX4 10 "WordScales" "shop" "LWordScales$Shop;", Cond.fieldLink RX4 16 "WordScales" "yearShop" "LWordScales$Shop;", Cond.fieldLink RX4 19 "WordScales" "images" "[LWordScales$Shop;", Cond.arrayClass .int, Cond.fieldLink RX4 23 "WordScales" "signs" "[I", Cond.fieldLink RX4 27 "WordScales" "signCount" "I", Cond.classLink RX4 31 RX1, Cond.instantiable RX1 11, Cond.initialized RX1, Cond.fieldLink RX4 34 "WordScales" "days" "LWordScales$Days;", Cond.arrayClass .long, Cond.fieldLink RX4 38 "WordScales" "means" "[J", Cond.instanceMethod yX3_init, Cond.code yX3_init cX3_init 2 none, Cond.methodLink RX3 3 objectInit, Cond.fieldLink RX3 9 "WordScales$Shop" "weights" "[I", Cond.fieldLink RX3 15 "WordScales$Shop" "kinds" "[I", Cond.fieldLink RX3 18 "WordScales$Shop" "rhymes" "[I"]
def wsX4_init_r2 : List Cond := [Cond.fieldLink RX3 21 "WordScales$Shop" "purses" "[I", Cond.fieldLink RX3 24 "WordScales$Shop" "belongings" "[I", Cond.fieldLink RX3 27 "WordScales$Shop" "wishes" "[I", Cond.fieldLink RX3 30 "WordScales$Shop" "wishCount" "I", Cond.fieldLink RX3 34 "WordScales$Shop" "lefts" "[I", Cond.fieldLink RX3 37 "WordScales$Shop" "rights" "[I", Cond.fieldLink RX3 40 "WordScales$Shop" "outcomes" "[I", Cond.fieldLink RX3 43 "WordScales$Shop" "sightCount" "I", Cond.instanceMethod yX1_init, Cond.code yX1_init cX1_init 1 none, Cond.methodLink RX1 3 objectInit, Cond.classLink RX1 9 RX3, Cond.fieldLink RX1 12 "WordScales$Days" "shop" "LWordScales$Shop;", Cond.classLink RX1 18 RX0, Cond.instantiable RX0 5, Cond.initialized RX0, Cond.fieldLink RX1 21 "WordScales$Days" "reader" "LWordScales$ActReader;", Cond.classLink RX1 25 RX2, Cond.instantiable RX2 2, Cond.initialized RX2, Cond.fieldLink RX1 28 "WordScales$Days" "row" "LWordScales$Row;", Cond.fieldLink RX1 32 "WordScales$Days" "faultPlace" "I", Cond.fieldLink RX1 36 "WordScales$Days" "acts" "I", Cond.fieldLink RX1 39 "WordScales$Days" "badAct" "I"]
def wsX4_init_r3 : List Cond := [Cond.fieldLink RX1 42 "WordScales$Days" "why" "I", Cond.fieldLink RX1 45 "WordScales$Days" "sentences" "I", Cond.fieldLink RX1 48 "WordScales$Days" "spoken" "I", Cond.fieldLink RX1 51 "WordScales$Days" "heaviest" "I", Cond.fieldLink RX1 54 "WordScales$Days" "heaviestWeight" "I", Cond.instanceMethod yX0_init, Cond.code yX0_init cX0_init 1 none, Cond.methodLink RX0 3 objectInit, Cond.fieldLink RX0 11 "WordScales$ActReader" "awaited" "I", Cond.fieldLink RX0 15 "WordScales$ActReader" "act" "I", Cond.fieldLink RX0 18 "WordScales$ActReader" "speaker" "I", Cond.fieldLink RX0 21 "WordScales$ActReader" "word" "I", Cond.fieldLink RX0 24 "WordScales$ActReader" "other" "I", Cond.instanceMethod yX2_init, Cond.code yX2_init cX2_init 1 none, Cond.methodLink RX2 3 objectInit, Cond.fieldLink RX2 11 "WordScales$Row" "stage" "I", Cond.fieldLink RX2 15 "WordScales$Row" "length" "I"]
def wsX4_init : List Cond := .code yX4_init cX4_init 1 none :: ((wsX4_init_r1 ++ (wsX4_init_r2 ++ wsX4_init_r3)) ++ wsX30 ++ wsX40 ++ wsX10 ++ wsX00 ++ wsX20)
def wsX4_word : List Cond := .code yX4_word cX4_word 5 (some .int) :: ([.fieldLink RX4 10 "WordScales" "shop" "LWordScales$Shop;", .methodLink RX4 42 yX4_isWord, .static yX4_isWord, .initialized RX4, .code yX4_isWord cX4_isWord 1 (some .boolean), .methodLink RX4 46 yX4_isWithin, .static yX4_isWithin, .code yX4_isWithin cX4_isWithin 3 (some .boolean)] ++ wsX40 ++ wsX30)
def wsX4_rhyme : List Cond := .code yX4_rhyme cX4_rhyme 3 (some .int) :: ([.fieldLink RX4 10 "WordScales" "shop" "LWordScales$Shop;", .methodLink RX4 42 yX4_isWord, .static yX4_isWord, .initialized RX4, .code yX4_isWord cX4_isWord 1 (some .boolean), .methodLink RX4 46 yX4_isWithin, .static yX4_isWithin, .code yX4_isWithin cX4_isWithin 3 (some .boolean), .instanceMethod yX3_joinRhymes, .initialized RX3, .selects RX3 yX3_joinRhymes yX3_joinRhymes, .code yX3_joinRhymes cX3_joinRhymes 5 none, .fieldLink RX3 18 "WordScales$Shop" "rhymes" "[I", .static yX4_isIn, .code yX4_isIn cX4_isIn 2 (some .boolean), .methodLink RX4 63 yJ6_bitCount_0f7a4, .static yJ6_bitCount_0f7a4, .initialized RJ6, .code yJ6_bitCount_0f7a4 cJ6_bitCount_0f7a4 1 (some .int), .constant RJ6 265 (1431655765), .constant RJ6 266 (858993459), .constant RJ6 267 (252645135)] ++ wsX40 ++ wsX30)
def wsX4_part : List Cond := .code yX4_part cX4_part 3 (some .int) :: ([.fieldLink RX4 10 "WordScales" "shop" "LWordScales$Shop;", .methodLink RX4 42 yX4_isWord, .static yX4_isWord, .initialized RX4, .code yX4_isWord cX4_isWord 1 (some .boolean), .methodLink RX4 46 yX4_isWithin, .static yX4_isWithin, .code yX4_isWithin cX4_isWithin 3 (some .boolean), .methodLink RX4 63 yJ6_bitCount_0f7a4, .static yJ6_bitCount_0f7a4, .initialized RJ6, .code yJ6_bitCount_0f7a4 cJ6_bitCount_0f7a4 1 (some .int), .constant RJ6 265 (1431655765), .constant RJ6 266 (858993459), .constant RJ6 267 (252645135), .instanceMethod yX3_leaveRhymes, .initialized RX3, .selects RX3 yX3_leaveRhymes yX3_leaveRhymes, .code yX3_leaveRhymes cX3_leaveRhymes 4 none, .fieldLink RX3 18 "WordScales$Shop" "rhymes" "[I"] ++ wsX40 ++ wsX30)
def wsX4_isSet : List Cond := .code yX4_isSet cX4_isSet 1 (some .boolean) :: ([.methodLink RX4 46 yX4_isWithin, .static yX4_isWithin, .initialized RX4, .code yX4_isWithin cX4_isWithin 3 (some .boolean)])
def wsX4_speaker : List Cond := .code yX4_speaker cX4_speaker 5 (some .int) :: ([.fieldLink RX4 10 "WordScales" "shop" "LWordScales$Shop;", .methodLink RX4 73 yX4_isSpeaker, .static yX4_isSpeaker, .initialized RX4, .code yX4_isSpeaker cX4_isSpeaker 1 (some .boolean), .methodLink RX4 46 yX4_isWithin, .static yX4_isWithin, .code yX4_isWithin cX4_isWithin 3 (some .boolean), .methodLink RX4 76 yX4_isSet, .static yX4_isSet, .code yX4_isSet cX4_isSet 1 (some .boolean)] ++ wsX40 ++ wsX30)
def wsX4_say : List Cond := .code yX4_say cX4_say 2 (some .int) :: ([.fieldLink RX4 27 "WordScales" "signCount" "I", .fieldLink RX4 23 "WordScales" "signs" "[I", .methodLink RX4 46 yX4_isWithin, .static yX4_isWithin, .initialized RX4, .code yX4_isWithin cX4_isWithin 3 (some .boolean)] ++ wsX40)
def wsX4_wipe : List Cond := .code yX4_wipe cX4_wipe 2 (some .int) :: ([.fieldLink RX4 27 "WordScales" "signCount" "I"] ++ wsX40)
def wsX4_fault_r1 : List Cond := [Cond.fieldLink RX4 34 "WordScales" "days" "LWordScales$Days;", Cond.fieldLink RX4 23 "WordScales" "signs" "[I", Cond.fieldLink RX4 27 "WordScales" "signCount" "I", Cond.fieldLink RX4 10 "WordScales" "shop" "LWordScales$Shop;", Cond.instanceMethod yX1_readAll, Cond.initialized RX1, Cond.selects RX1 yX1_readAll yX1_readAll, Cond.code yX1_readAll cX1_readAll 5 (some .int), Cond.fieldLink RX1 21 "WordScales$Days" "reader" "LWordScales$ActReader;", Cond.fieldLink RX1 32 "WordScales$Days" "faultPlace" "I", Cond.fieldLink RX1 42 "WordScales$Days" "why" "I", Cond.methodLink RX1 57 yX1_begin, Cond.instanceMethod yX1_begin, Cond.selects RX1 yX1_begin yX1_begin, Cond.code yX1_begin cX1_begin 2 none, Cond.fieldLink RX1 12 "WordScales$Days" "shop" "LWordScales$Shop;", Cond.fieldLink RX1 28 "WordScales$Days" "row" "LWordScales$Row;", Cond.fieldLink RX1 36 "WordScales$Days" "acts" "I", Cond.fieldLink RX1 45 "WordScales$Days" "sentences" "I", Cond.fieldLink RX1 48 "WordScales$Days" "spoken" "I", Cond.fieldLink RX1 51 "WordScales$Days" "heaviest" "I", Cond.fieldLink RX1 54 "WordScales$Days" "heaviestWeight" "I", Cond.instanceMethod yX3_copyFrom, Cond.initialized RX3]
def wsX4_fault_r2 : List Cond := [Cond.selects RX3 yX3_copyFrom yX3_copyFrom, Cond.code yX3_copyFrom cX3_copyFrom 2 none, Cond.fieldLink RX3 9 "WordScales$Shop" "weights" "[I", Cond.fieldLink RX3 15 "WordScales$Shop" "kinds" "[I", Cond.fieldLink RX3 18 "WordScales$Shop" "rhymes" "[I", Cond.fieldLink RX3 21 "WordScales$Shop" "purses" "[I", Cond.fieldLink RX3 24 "WordScales$Shop" "belongings" "[I", Cond.fieldLink RX3 27 "WordScales$Shop" "wishes" "[I", Cond.fieldLink RX3 30 "WordScales$Shop" "wishCount" "I", Cond.fieldLink RX3 34 "WordScales$Shop" "lefts" "[I", Cond.fieldLink RX3 37 "WordScales$Shop" "rights" "[I", Cond.fieldLink RX3 40 "WordScales$Shop" "outcomes" "[I", Cond.fieldLink RX3 43 "WordScales$Shop" "sightCount" "I", Cond.static yX4_copyRow, Cond.initialized RX4, Cond.code yX4_copyRow cX4_copyRow 3 none, Cond.instanceMethod yX0_begin, Cond.initialized RX0, Cond.selects RX0 yX0_begin yX0_begin, Cond.code yX0_begin cX0_begin 1 none, Cond.fieldLink RX0 11 "WordScales$ActReader" "awaited" "I", Cond.instanceMethod yX2_begin, Cond.initialized RX2, Cond.selects RX2 yX2_begin yX2_begin]
def wsX4_fault_r3 : List Cond := [Cond.code yX2_begin cX2_begin 1 none, Cond.fieldLink RX2 11 "WordScales$Row" "stage" "I", Cond.fieldLink RX2 15 "WordScales$Row" "length" "I", Cond.instanceMethod yX0_take, Cond.selects RX0 yX0_take yX0_take, Cond.code yX0_take cX0_take 2 (some .boolean), Cond.methodLink RX0 27 yX0_takeDot, Cond.instanceMethod yX0_takeDot, Cond.selects RX0 yX0_takeDot yX0_takeDot, Cond.code yX0_takeDot cX0_takeDot 2 (some .boolean), Cond.fieldLink RX0 15 "WordScales$ActReader" "act" "I", Cond.methodLink RX0 31 yX0_takeSpeaker, Cond.instanceMethod yX0_takeSpeaker, Cond.selects RX0 yX0_takeSpeaker yX0_takeSpeaker, Cond.code yX0_takeSpeaker cX0_takeSpeaker 2 (some .boolean), Cond.fieldLink RX0 18 "WordScales$ActReader" "speaker" "I", Cond.static yX4_isSpeaker, Cond.code yX4_isSpeaker cX4_isSpeaker 1 (some .boolean), Cond.methodLink RX4 46 yX4_isWithin, Cond.static yX4_isWithin, Cond.code yX4_isWithin cX4_isWithin 3 (some .boolean), Cond.methodLink RX0 34 yX0_takeMark, Cond.instanceMethod yX0_takeMark, Cond.selects RX0 yX0_takeMark yX0_takeMark]
def wsX4_fault_r4 : List Cond := [Cond.code yX0_takeMark cX0_takeMark 2 (some .boolean), Cond.methodLink RX0 37 yX0_takeWord, Cond.instanceMethod yX0_takeWord, Cond.selects RX0 yX0_takeWord yX0_takeWord, Cond.code yX0_takeWord cX0_takeWord 2 (some .boolean), Cond.fieldLink RX0 21 "WordScales$ActReader" "word" "I", Cond.static yX4_isWord, Cond.code yX4_isWord cX4_isWord 1 (some .boolean), Cond.methodLink RX0 40 yX0_takeOther, Cond.instanceMethod yX0_takeOther, Cond.selects RX0 yX0_takeOther yX0_takeOther, Cond.code yX0_takeOther cX0_takeOther 2 (some .boolean), Cond.fieldLink RX0 24 "WordScales$ActReader" "other" "I", Cond.instanceMethod yX0_isBetweenActs, Cond.selects RX0 yX0_isBetweenActs yX0_isBetweenActs, Cond.code yX0_isBetweenActs cX0_isBetweenActs 1 (some .boolean), Cond.methodLink RX1 69 yX1_doAct, Cond.instanceMethod yX1_doAct, Cond.selects RX1 yX1_doAct yX1_doAct, Cond.code yX1_doAct cX1_doAct 1 none, Cond.fieldLink RX1 39 "WordScales$Days" "badAct" "I", Cond.methodLink RX1 81 yX1_endSentence, Cond.instanceMethod yX1_endSentence, Cond.selects RX1 yX1_endSentence yX1_endSentence]
def wsX4_fault_r5 : List Cond := [Cond.code yX1_endSentence cX1_endSentence 1 (some .int), Cond.instanceMethod yX2_isSentence, Cond.selects RX2 yX2_isSentence yX2_isSentence, Cond.code yX2_isSentence cX2_isSentence 1 (some .boolean), Cond.methodLink RX1 88 yX1_doWordAct, Cond.instanceMethod yX1_doWordAct, Cond.selects RX1 yX1_doWordAct yX1_doWordAct, Cond.code yX1_doWordAct cX1_doWordAct 4 (some .int), Cond.instanceMethod yX3_perform, Cond.selects RX3 yX3_perform yX3_perform, Cond.code yX3_perform cX3_perform 5 (some .int), Cond.methodLink RX3 82 yX3_buy, Cond.instanceMethod yX3_buy, Cond.selects RX3 yX3_buy yX3_buy, Cond.code yX3_buy cX3_buy 3 (some .int), Cond.static yX4_isIn, Cond.code yX4_isIn cX4_isIn 2 (some .boolean), Cond.methodLink RX3 85 yX3_handIn, Cond.instanceMethod yX3_handIn, Cond.selects RX3 yX3_handIn yX3_handIn, Cond.code yX3_handIn cX3_handIn 4 (some .int), Cond.methodLink RX3 88 yX3_speak, Cond.instanceMethod yX3_speak, Cond.selects RX3 yX3_speak yX3_speak]
def wsX4_fault_r6 : List Cond := [Cond.code yX3_speak cX3_speak 3 (some .int), Cond.methodLink RX3 62 Lib.Math.max.name, Cond.static Lib.Math.max.name, Cond.initialized "java/lang/Math", Cond.code Lib.Math.max.name Lib.Math.max.code 2 (some .int), Cond.methodLink RX3 91 yX3_give, Cond.instanceMethod yX3_give, Cond.selects RX3 yX3_give yX3_give, Cond.code yX3_give cX3_give 4 (some .int), Cond.methodLink RX1 112 yX1_noteSpoken, Cond.instanceMethod yX1_noteSpoken, Cond.selects RX1 yX1_noteSpoken yX1_noteSpoken, Cond.code yX1_noteSpoken cX1_noteSpoken 3 none, Cond.instanceMethod yX2_add, Cond.selects RX2 yX2_add yX2_add, Cond.code yX2_add cX2_add 2 none, Cond.methodLink RX2 18 yX2_stageBehind, Cond.instanceMethod yX2_stageBehind, Cond.selects RX2 yX2_stageBehind yX2_stageBehind, Cond.code yX2_stageBehind cX2_stageBehind 2 (some .int)]
def wsX4_fault : List Cond := .code yX4_fault cX4_fault 1 (some .int) :: ((wsX4_fault_r1 ++ (wsX4_fault_r2 ++ (wsX4_fault_r3 ++ (wsX4_fault_r4 ++ (wsX4_fault_r5 ++ wsX4_fault_r6))))) ++ wsX40 ++ wsX10 ++ wsX30 ++ wsX00 ++ wsX20)
def wsX4_judge_r1 : List Cond := [Cond.fieldLink RX4 34 "WordScales" "days" "LWordScales$Days;", Cond.fieldLink RX4 23 "WordScales" "signs" "[I", Cond.fieldLink RX4 27 "WordScales" "signCount" "I", Cond.fieldLink RX4 10 "WordScales" "shop" "LWordScales$Shop;", Cond.methodLink RX4 46 yX4_isWithin, Cond.static yX4_isWithin, Cond.initialized RX4, Cond.code yX4_isWithin cX4_isWithin 3 (some .boolean), Cond.instanceMethod yX1_readAll, Cond.initialized RX1, Cond.selects RX1 yX1_readAll yX1_readAll, Cond.code yX1_readAll cX1_readAll 5 (some .int), Cond.fieldLink RX1 21 "WordScales$Days" "reader" "LWordScales$ActReader;", Cond.fieldLink RX1 32 "WordScales$Days" "faultPlace" "I", Cond.fieldLink RX1 42 "WordScales$Days" "why" "I", Cond.methodLink RX1 57 yX1_begin, Cond.instanceMethod yX1_begin, Cond.selects RX1 yX1_begin yX1_begin, Cond.code yX1_begin cX1_begin 2 none, Cond.fieldLink RX1 12 "WordScales$Days" "shop" "LWordScales$Shop;", Cond.fieldLink RX1 28 "WordScales$Days" "row" "LWordScales$Row;", Cond.fieldLink RX1 36 "WordScales$Days" "acts" "I", Cond.fieldLink RX1 45 "WordScales$Days" "sentences" "I", Cond.fieldLink RX1 48 "WordScales$Days" "spoken" "I"]
def wsX4_judge_r2 : List Cond := [Cond.fieldLink RX1 51 "WordScales$Days" "heaviest" "I", Cond.fieldLink RX1 54 "WordScales$Days" "heaviestWeight" "I", Cond.instanceMethod yX3_copyFrom, Cond.initialized RX3, Cond.selects RX3 yX3_copyFrom yX3_copyFrom, Cond.code yX3_copyFrom cX3_copyFrom 2 none, Cond.fieldLink RX3 9 "WordScales$Shop" "weights" "[I", Cond.fieldLink RX3 15 "WordScales$Shop" "kinds" "[I", Cond.fieldLink RX3 18 "WordScales$Shop" "rhymes" "[I", Cond.fieldLink RX3 21 "WordScales$Shop" "purses" "[I", Cond.fieldLink RX3 24 "WordScales$Shop" "belongings" "[I", Cond.fieldLink RX3 27 "WordScales$Shop" "wishes" "[I", Cond.fieldLink RX3 30 "WordScales$Shop" "wishCount" "I", Cond.fieldLink RX3 34 "WordScales$Shop" "lefts" "[I", Cond.fieldLink RX3 37 "WordScales$Shop" "rights" "[I", Cond.fieldLink RX3 40 "WordScales$Shop" "outcomes" "[I", Cond.fieldLink RX3 43 "WordScales$Shop" "sightCount" "I", Cond.static yX4_copyRow, Cond.code yX4_copyRow cX4_copyRow 3 none, Cond.instanceMethod yX0_begin, Cond.initialized RX0, Cond.selects RX0 yX0_begin yX0_begin, Cond.code yX0_begin cX0_begin 1 none, Cond.fieldLink RX0 11 "WordScales$ActReader" "awaited" "I"]
def wsX4_judge_r3 : List Cond := [Cond.instanceMethod yX2_begin, Cond.initialized RX2, Cond.selects RX2 yX2_begin yX2_begin, Cond.code yX2_begin cX2_begin 1 none, Cond.fieldLink RX2 11 "WordScales$Row" "stage" "I", Cond.fieldLink RX2 15 "WordScales$Row" "length" "I", Cond.instanceMethod yX0_take, Cond.selects RX0 yX0_take yX0_take, Cond.code yX0_take cX0_take 2 (some .boolean), Cond.methodLink RX0 27 yX0_takeDot, Cond.instanceMethod yX0_takeDot, Cond.selects RX0 yX0_takeDot yX0_takeDot, Cond.code yX0_takeDot cX0_takeDot 2 (some .boolean), Cond.fieldLink RX0 15 "WordScales$ActReader" "act" "I", Cond.methodLink RX0 31 yX0_takeSpeaker, Cond.instanceMethod yX0_takeSpeaker, Cond.selects RX0 yX0_takeSpeaker yX0_takeSpeaker, Cond.code yX0_takeSpeaker cX0_takeSpeaker 2 (some .boolean), Cond.fieldLink RX0 18 "WordScales$ActReader" "speaker" "I", Cond.static yX4_isSpeaker, Cond.code yX4_isSpeaker cX4_isSpeaker 1 (some .boolean), Cond.methodLink RX0 34 yX0_takeMark, Cond.instanceMethod yX0_takeMark, Cond.selects RX0 yX0_takeMark yX0_takeMark]
def wsX4_judge_r4 : List Cond := [Cond.code yX0_takeMark cX0_takeMark 2 (some .boolean), Cond.methodLink RX0 37 yX0_takeWord, Cond.instanceMethod yX0_takeWord, Cond.selects RX0 yX0_takeWord yX0_takeWord, Cond.code yX0_takeWord cX0_takeWord 2 (some .boolean), Cond.fieldLink RX0 21 "WordScales$ActReader" "word" "I", Cond.static yX4_isWord, Cond.code yX4_isWord cX4_isWord 1 (some .boolean), Cond.methodLink RX0 40 yX0_takeOther, Cond.instanceMethod yX0_takeOther, Cond.selects RX0 yX0_takeOther yX0_takeOther, Cond.code yX0_takeOther cX0_takeOther 2 (some .boolean), Cond.fieldLink RX0 24 "WordScales$ActReader" "other" "I", Cond.instanceMethod yX0_isBetweenActs, Cond.selects RX0 yX0_isBetweenActs yX0_isBetweenActs, Cond.code yX0_isBetweenActs cX0_isBetweenActs 1 (some .boolean), Cond.methodLink RX1 69 yX1_doAct, Cond.instanceMethod yX1_doAct, Cond.selects RX1 yX1_doAct yX1_doAct, Cond.code yX1_doAct cX1_doAct 1 none, Cond.fieldLink RX1 39 "WordScales$Days" "badAct" "I", Cond.methodLink RX1 81 yX1_endSentence, Cond.instanceMethod yX1_endSentence, Cond.selects RX1 yX1_endSentence yX1_endSentence]
def wsX4_judge_r5 : List Cond := [Cond.code yX1_endSentence cX1_endSentence 1 (some .int), Cond.instanceMethod yX2_isSentence, Cond.selects RX2 yX2_isSentence yX2_isSentence, Cond.code yX2_isSentence cX2_isSentence 1 (some .boolean), Cond.methodLink RX1 88 yX1_doWordAct, Cond.instanceMethod yX1_doWordAct, Cond.selects RX1 yX1_doWordAct yX1_doWordAct, Cond.code yX1_doWordAct cX1_doWordAct 4 (some .int), Cond.instanceMethod yX3_perform, Cond.selects RX3 yX3_perform yX3_perform, Cond.code yX3_perform cX3_perform 5 (some .int), Cond.methodLink RX3 82 yX3_buy, Cond.instanceMethod yX3_buy, Cond.selects RX3 yX3_buy yX3_buy, Cond.code yX3_buy cX3_buy 3 (some .int), Cond.static yX4_isIn, Cond.code yX4_isIn cX4_isIn 2 (some .boolean), Cond.methodLink RX3 85 yX3_handIn, Cond.instanceMethod yX3_handIn, Cond.selects RX3 yX3_handIn yX3_handIn, Cond.code yX3_handIn cX3_handIn 4 (some .int), Cond.methodLink RX3 88 yX3_speak, Cond.instanceMethod yX3_speak, Cond.selects RX3 yX3_speak yX3_speak]
def wsX4_judge_r6 : List Cond := [Cond.code yX3_speak cX3_speak 3 (some .int), Cond.methodLink RX3 62 Lib.Math.max.name, Cond.static Lib.Math.max.name, Cond.initialized "java/lang/Math", Cond.code Lib.Math.max.name Lib.Math.max.code 2 (some .int), Cond.methodLink RX3 91 yX3_give, Cond.instanceMethod yX3_give, Cond.selects RX3 yX3_give yX3_give, Cond.code yX3_give cX3_give 4 (some .int), Cond.methodLink RX1 112 yX1_noteSpoken, Cond.instanceMethod yX1_noteSpoken, Cond.selects RX1 yX1_noteSpoken yX1_noteSpoken, Cond.code yX1_noteSpoken cX1_noteSpoken 3 none, Cond.instanceMethod yX2_add, Cond.selects RX2 yX2_add yX2_add, Cond.code yX2_add cX2_add 2 none, Cond.methodLink RX2 18 yX2_stageBehind, Cond.instanceMethod yX2_stageBehind, Cond.selects RX2 yX2_stageBehind yX2_stageBehind, Cond.code yX2_stageBehind cX2_stageBehind 2 (some .int)]
def wsX4_judge : List Cond := .code yX4_judge cX4_judge 3 (some .int) :: ((wsX4_judge_r1 ++ (wsX4_judge_r2 ++ (wsX4_judge_r3 ++ (wsX4_judge_r4 ++ (wsX4_judge_r5 ++ wsX4_judge_r6))))) ++ wsX40 ++ wsX10 ++ wsX30 ++ wsX00 ++ wsX20)
def wsX4_behind_r1 : List Cond := [Cond.fieldLink RX4 34 "WordScales" "days" "LWordScales$Days;", Cond.fieldLink RX4 23 "WordScales" "signs" "[I", Cond.fieldLink RX4 27 "WordScales" "signCount" "I", Cond.fieldLink RX4 10 "WordScales" "shop" "LWordScales$Shop;", Cond.methodLink RX4 73 yX4_isSpeaker, Cond.static yX4_isSpeaker, Cond.initialized RX4, Cond.code yX4_isSpeaker cX4_isSpeaker 1 (some .boolean), Cond.methodLink RX4 46 yX4_isWithin, Cond.static yX4_isWithin, Cond.code yX4_isWithin cX4_isWithin 3 (some .boolean), Cond.instanceMethod yX1_readAll, Cond.initialized RX1, Cond.selects RX1 yX1_readAll yX1_readAll, Cond.code yX1_readAll cX1_readAll 5 (some .int), Cond.fieldLink RX1 21 "WordScales$Days" "reader" "LWordScales$ActReader;", Cond.fieldLink RX1 32 "WordScales$Days" "faultPlace" "I", Cond.fieldLink RX1 42 "WordScales$Days" "why" "I", Cond.methodLink RX1 57 yX1_begin, Cond.instanceMethod yX1_begin, Cond.selects RX1 yX1_begin yX1_begin, Cond.code yX1_begin cX1_begin 2 none, Cond.fieldLink RX1 12 "WordScales$Days" "shop" "LWordScales$Shop;", Cond.fieldLink RX1 28 "WordScales$Days" "row" "LWordScales$Row;"]
def wsX4_behind_r2 : List Cond := [Cond.fieldLink RX1 36 "WordScales$Days" "acts" "I", Cond.fieldLink RX1 45 "WordScales$Days" "sentences" "I", Cond.fieldLink RX1 48 "WordScales$Days" "spoken" "I", Cond.fieldLink RX1 51 "WordScales$Days" "heaviest" "I", Cond.fieldLink RX1 54 "WordScales$Days" "heaviestWeight" "I", Cond.instanceMethod yX3_copyFrom, Cond.initialized RX3, Cond.selects RX3 yX3_copyFrom yX3_copyFrom, Cond.code yX3_copyFrom cX3_copyFrom 2 none, Cond.fieldLink RX3 9 "WordScales$Shop" "weights" "[I", Cond.fieldLink RX3 15 "WordScales$Shop" "kinds" "[I", Cond.fieldLink RX3 18 "WordScales$Shop" "rhymes" "[I", Cond.fieldLink RX3 21 "WordScales$Shop" "purses" "[I", Cond.fieldLink RX3 24 "WordScales$Shop" "belongings" "[I", Cond.fieldLink RX3 27 "WordScales$Shop" "wishes" "[I", Cond.fieldLink RX3 30 "WordScales$Shop" "wishCount" "I", Cond.fieldLink RX3 34 "WordScales$Shop" "lefts" "[I", Cond.fieldLink RX3 37 "WordScales$Shop" "rights" "[I", Cond.fieldLink RX3 40 "WordScales$Shop" "outcomes" "[I", Cond.fieldLink RX3 43 "WordScales$Shop" "sightCount" "I", Cond.static yX4_copyRow, Cond.code yX4_copyRow cX4_copyRow 3 none, Cond.instanceMethod yX0_begin, Cond.initialized RX0]
def wsX4_behind_r3 : List Cond := [Cond.selects RX0 yX0_begin yX0_begin, Cond.code yX0_begin cX0_begin 1 none, Cond.fieldLink RX0 11 "WordScales$ActReader" "awaited" "I", Cond.instanceMethod yX2_begin, Cond.initialized RX2, Cond.selects RX2 yX2_begin yX2_begin, Cond.code yX2_begin cX2_begin 1 none, Cond.fieldLink RX2 11 "WordScales$Row" "stage" "I", Cond.fieldLink RX2 15 "WordScales$Row" "length" "I", Cond.instanceMethod yX0_take, Cond.selects RX0 yX0_take yX0_take, Cond.code yX0_take cX0_take 2 (some .boolean), Cond.methodLink RX0 27 yX0_takeDot, Cond.instanceMethod yX0_takeDot, Cond.selects RX0 yX0_takeDot yX0_takeDot, Cond.code yX0_takeDot cX0_takeDot 2 (some .boolean), Cond.fieldLink RX0 15 "WordScales$ActReader" "act" "I", Cond.methodLink RX0 31 yX0_takeSpeaker, Cond.instanceMethod yX0_takeSpeaker, Cond.selects RX0 yX0_takeSpeaker yX0_takeSpeaker, Cond.code yX0_takeSpeaker cX0_takeSpeaker 2 (some .boolean), Cond.fieldLink RX0 18 "WordScales$ActReader" "speaker" "I", Cond.methodLink RX0 34 yX0_takeMark, Cond.instanceMethod yX0_takeMark]
def wsX4_behind_r4 : List Cond := [Cond.selects RX0 yX0_takeMark yX0_takeMark, Cond.code yX0_takeMark cX0_takeMark 2 (some .boolean), Cond.methodLink RX0 37 yX0_takeWord, Cond.instanceMethod yX0_takeWord, Cond.selects RX0 yX0_takeWord yX0_takeWord, Cond.code yX0_takeWord cX0_takeWord 2 (some .boolean), Cond.fieldLink RX0 21 "WordScales$ActReader" "word" "I", Cond.static yX4_isWord, Cond.code yX4_isWord cX4_isWord 1 (some .boolean), Cond.methodLink RX0 40 yX0_takeOther, Cond.instanceMethod yX0_takeOther, Cond.selects RX0 yX0_takeOther yX0_takeOther, Cond.code yX0_takeOther cX0_takeOther 2 (some .boolean), Cond.fieldLink RX0 24 "WordScales$ActReader" "other" "I", Cond.instanceMethod yX0_isBetweenActs, Cond.selects RX0 yX0_isBetweenActs yX0_isBetweenActs, Cond.code yX0_isBetweenActs cX0_isBetweenActs 1 (some .boolean), Cond.methodLink RX1 69 yX1_doAct, Cond.instanceMethod yX1_doAct, Cond.selects RX1 yX1_doAct yX1_doAct, Cond.code yX1_doAct cX1_doAct 1 none, Cond.fieldLink RX1 39 "WordScales$Days" "badAct" "I", Cond.methodLink RX1 81 yX1_endSentence, Cond.instanceMethod yX1_endSentence]
def wsX4_behind_r5 : List Cond := [Cond.selects RX1 yX1_endSentence yX1_endSentence, Cond.code yX1_endSentence cX1_endSentence 1 (some .int), Cond.instanceMethod yX2_isSentence, Cond.selects RX2 yX2_isSentence yX2_isSentence, Cond.code yX2_isSentence cX2_isSentence 1 (some .boolean), Cond.methodLink RX1 88 yX1_doWordAct, Cond.instanceMethod yX1_doWordAct, Cond.selects RX1 yX1_doWordAct yX1_doWordAct, Cond.code yX1_doWordAct cX1_doWordAct 4 (some .int), Cond.instanceMethod yX3_perform, Cond.selects RX3 yX3_perform yX3_perform, Cond.code yX3_perform cX3_perform 5 (some .int), Cond.methodLink RX3 82 yX3_buy, Cond.instanceMethod yX3_buy, Cond.selects RX3 yX3_buy yX3_buy, Cond.code yX3_buy cX3_buy 3 (some .int), Cond.static yX4_isIn, Cond.code yX4_isIn cX4_isIn 2 (some .boolean), Cond.methodLink RX3 85 yX3_handIn, Cond.instanceMethod yX3_handIn, Cond.selects RX3 yX3_handIn yX3_handIn, Cond.code yX3_handIn cX3_handIn 4 (some .int), Cond.methodLink RX3 88 yX3_speak, Cond.instanceMethod yX3_speak]
def wsX4_behind_r6 : List Cond := [Cond.selects RX3 yX3_speak yX3_speak, Cond.code yX3_speak cX3_speak 3 (some .int), Cond.methodLink RX3 62 Lib.Math.max.name, Cond.static Lib.Math.max.name, Cond.initialized "java/lang/Math", Cond.code Lib.Math.max.name Lib.Math.max.code 2 (some .int), Cond.methodLink RX3 91 yX3_give, Cond.instanceMethod yX3_give, Cond.selects RX3 yX3_give yX3_give, Cond.code yX3_give cX3_give 4 (some .int), Cond.methodLink RX1 112 yX1_noteSpoken, Cond.instanceMethod yX1_noteSpoken, Cond.selects RX1 yX1_noteSpoken yX1_noteSpoken, Cond.code yX1_noteSpoken cX1_noteSpoken 3 none, Cond.instanceMethod yX2_add, Cond.selects RX2 yX2_add yX2_add, Cond.code yX2_add cX2_add 2 none, Cond.methodLink RX2 18 yX2_stageBehind, Cond.instanceMethod yX2_stageBehind, Cond.selects RX2 yX2_stageBehind yX2_stageBehind, Cond.code yX2_stageBehind cX2_stageBehind 2 (some .int)]
def wsX4_behind : List Cond := .code yX4_behind cX4_behind 4 (some .int) :: ((wsX4_behind_r1 ++ (wsX4_behind_r2 ++ (wsX4_behind_r3 ++ (wsX4_behind_r4 ++ (wsX4_behind_r5 ++ wsX4_behind_r6))))) ++ wsX40 ++ wsX10 ++ wsX30 ++ wsX00 ++ wsX20)
def wsX4_worn_r1 : List Cond := [Cond.fieldLink RX4 34 "WordScales" "days" "LWordScales$Days;", Cond.fieldLink RX4 23 "WordScales" "signs" "[I", Cond.fieldLink RX4 27 "WordScales" "signCount" "I", Cond.fieldLink RX4 10 "WordScales" "shop" "LWordScales$Shop;", Cond.methodLink RX4 42 yX4_isWord, Cond.static yX4_isWord, Cond.initialized RX4, Cond.code yX4_isWord cX4_isWord 1 (some .boolean), Cond.methodLink RX4 46 yX4_isWithin, Cond.static yX4_isWithin, Cond.code yX4_isWithin cX4_isWithin 3 (some .boolean), Cond.instanceMethod yX1_readAll, Cond.initialized RX1, Cond.selects RX1 yX1_readAll yX1_readAll, Cond.code yX1_readAll cX1_readAll 5 (some .int), Cond.fieldLink RX1 21 "WordScales$Days" "reader" "LWordScales$ActReader;", Cond.fieldLink RX1 32 "WordScales$Days" "faultPlace" "I", Cond.fieldLink RX1 42 "WordScales$Days" "why" "I", Cond.methodLink RX1 57 yX1_begin, Cond.instanceMethod yX1_begin, Cond.selects RX1 yX1_begin yX1_begin, Cond.code yX1_begin cX1_begin 2 none, Cond.fieldLink RX1 12 "WordScales$Days" "shop" "LWordScales$Shop;", Cond.fieldLink RX1 28 "WordScales$Days" "row" "LWordScales$Row;"]
def wsX4_worn_r2 : List Cond := [Cond.fieldLink RX1 36 "WordScales$Days" "acts" "I", Cond.fieldLink RX1 45 "WordScales$Days" "sentences" "I", Cond.fieldLink RX1 48 "WordScales$Days" "spoken" "I", Cond.fieldLink RX1 51 "WordScales$Days" "heaviest" "I", Cond.fieldLink RX1 54 "WordScales$Days" "heaviestWeight" "I", Cond.instanceMethod yX3_copyFrom, Cond.initialized RX3, Cond.selects RX3 yX3_copyFrom yX3_copyFrom, Cond.code yX3_copyFrom cX3_copyFrom 2 none, Cond.fieldLink RX3 9 "WordScales$Shop" "weights" "[I", Cond.fieldLink RX3 15 "WordScales$Shop" "kinds" "[I", Cond.fieldLink RX3 18 "WordScales$Shop" "rhymes" "[I", Cond.fieldLink RX3 21 "WordScales$Shop" "purses" "[I", Cond.fieldLink RX3 24 "WordScales$Shop" "belongings" "[I", Cond.fieldLink RX3 27 "WordScales$Shop" "wishes" "[I", Cond.fieldLink RX3 30 "WordScales$Shop" "wishCount" "I", Cond.fieldLink RX3 34 "WordScales$Shop" "lefts" "[I", Cond.fieldLink RX3 37 "WordScales$Shop" "rights" "[I", Cond.fieldLink RX3 40 "WordScales$Shop" "outcomes" "[I", Cond.fieldLink RX3 43 "WordScales$Shop" "sightCount" "I", Cond.static yX4_copyRow, Cond.code yX4_copyRow cX4_copyRow 3 none, Cond.instanceMethod yX0_begin, Cond.initialized RX0]
def wsX4_worn_r3 : List Cond := [Cond.selects RX0 yX0_begin yX0_begin, Cond.code yX0_begin cX0_begin 1 none, Cond.fieldLink RX0 11 "WordScales$ActReader" "awaited" "I", Cond.instanceMethod yX2_begin, Cond.initialized RX2, Cond.selects RX2 yX2_begin yX2_begin, Cond.code yX2_begin cX2_begin 1 none, Cond.fieldLink RX2 11 "WordScales$Row" "stage" "I", Cond.fieldLink RX2 15 "WordScales$Row" "length" "I", Cond.instanceMethod yX0_take, Cond.selects RX0 yX0_take yX0_take, Cond.code yX0_take cX0_take 2 (some .boolean), Cond.methodLink RX0 27 yX0_takeDot, Cond.instanceMethod yX0_takeDot, Cond.selects RX0 yX0_takeDot yX0_takeDot, Cond.code yX0_takeDot cX0_takeDot 2 (some .boolean), Cond.fieldLink RX0 15 "WordScales$ActReader" "act" "I", Cond.methodLink RX0 31 yX0_takeSpeaker, Cond.instanceMethod yX0_takeSpeaker, Cond.selects RX0 yX0_takeSpeaker yX0_takeSpeaker, Cond.code yX0_takeSpeaker cX0_takeSpeaker 2 (some .boolean), Cond.fieldLink RX0 18 "WordScales$ActReader" "speaker" "I", Cond.static yX4_isSpeaker, Cond.code yX4_isSpeaker cX4_isSpeaker 1 (some .boolean)]
def wsX4_worn_r4 : List Cond := [Cond.methodLink RX0 34 yX0_takeMark, Cond.instanceMethod yX0_takeMark, Cond.selects RX0 yX0_takeMark yX0_takeMark, Cond.code yX0_takeMark cX0_takeMark 2 (some .boolean), Cond.methodLink RX0 37 yX0_takeWord, Cond.instanceMethod yX0_takeWord, Cond.selects RX0 yX0_takeWord yX0_takeWord, Cond.code yX0_takeWord cX0_takeWord 2 (some .boolean), Cond.fieldLink RX0 21 "WordScales$ActReader" "word" "I", Cond.methodLink RX0 40 yX0_takeOther, Cond.instanceMethod yX0_takeOther, Cond.selects RX0 yX0_takeOther yX0_takeOther, Cond.code yX0_takeOther cX0_takeOther 2 (some .boolean), Cond.fieldLink RX0 24 "WordScales$ActReader" "other" "I", Cond.instanceMethod yX0_isBetweenActs, Cond.selects RX0 yX0_isBetweenActs yX0_isBetweenActs, Cond.code yX0_isBetweenActs cX0_isBetweenActs 1 (some .boolean), Cond.methodLink RX1 69 yX1_doAct, Cond.instanceMethod yX1_doAct, Cond.selects RX1 yX1_doAct yX1_doAct, Cond.code yX1_doAct cX1_doAct 1 none, Cond.fieldLink RX1 39 "WordScales$Days" "badAct" "I", Cond.methodLink RX1 81 yX1_endSentence, Cond.instanceMethod yX1_endSentence]
def wsX4_worn_r5 : List Cond := [Cond.selects RX1 yX1_endSentence yX1_endSentence, Cond.code yX1_endSentence cX1_endSentence 1 (some .int), Cond.instanceMethod yX2_isSentence, Cond.selects RX2 yX2_isSentence yX2_isSentence, Cond.code yX2_isSentence cX2_isSentence 1 (some .boolean), Cond.methodLink RX1 88 yX1_doWordAct, Cond.instanceMethod yX1_doWordAct, Cond.selects RX1 yX1_doWordAct yX1_doWordAct, Cond.code yX1_doWordAct cX1_doWordAct 4 (some .int), Cond.instanceMethod yX3_perform, Cond.selects RX3 yX3_perform yX3_perform, Cond.code yX3_perform cX3_perform 5 (some .int), Cond.methodLink RX3 82 yX3_buy, Cond.instanceMethod yX3_buy, Cond.selects RX3 yX3_buy yX3_buy, Cond.code yX3_buy cX3_buy 3 (some .int), Cond.static yX4_isIn, Cond.code yX4_isIn cX4_isIn 2 (some .boolean), Cond.methodLink RX3 85 yX3_handIn, Cond.instanceMethod yX3_handIn, Cond.selects RX3 yX3_handIn yX3_handIn, Cond.code yX3_handIn cX3_handIn 4 (some .int), Cond.methodLink RX3 88 yX3_speak, Cond.instanceMethod yX3_speak]
def wsX4_worn_r6 : List Cond := [Cond.selects RX3 yX3_speak yX3_speak, Cond.code yX3_speak cX3_speak 3 (some .int), Cond.methodLink RX3 62 Lib.Math.max.name, Cond.static Lib.Math.max.name, Cond.initialized "java/lang/Math", Cond.code Lib.Math.max.name Lib.Math.max.code 2 (some .int), Cond.methodLink RX3 91 yX3_give, Cond.instanceMethod yX3_give, Cond.selects RX3 yX3_give yX3_give, Cond.code yX3_give cX3_give 4 (some .int), Cond.methodLink RX1 112 yX1_noteSpoken, Cond.instanceMethod yX1_noteSpoken, Cond.selects RX1 yX1_noteSpoken yX1_noteSpoken, Cond.code yX1_noteSpoken cX1_noteSpoken 3 none, Cond.instanceMethod yX2_add, Cond.selects RX2 yX2_add yX2_add, Cond.code yX2_add cX2_add 2 none, Cond.methodLink RX2 18 yX2_stageBehind, Cond.instanceMethod yX2_stageBehind, Cond.selects RX2 yX2_stageBehind yX2_stageBehind, Cond.code yX2_stageBehind cX2_stageBehind 2 (some .int)]
def wsX4_worn : List Cond := .code yX4_worn cX4_worn 3 (some .int) :: ((wsX4_worn_r1 ++ (wsX4_worn_r2 ++ (wsX4_worn_r3 ++ (wsX4_worn_r4 ++ (wsX4_worn_r5 ++ wsX4_worn_r6))))) ++ wsX40 ++ wsX10 ++ wsX30 ++ wsX00 ++ wsX20)
def wsX4_said_r1 : List Cond := [Cond.fieldLink RX4 34 "WordScales" "days" "LWordScales$Days;", Cond.fieldLink RX4 23 "WordScales" "signs" "[I", Cond.fieldLink RX4 27 "WordScales" "signCount" "I", Cond.fieldLink RX4 10 "WordScales" "shop" "LWordScales$Shop;", Cond.methodLink RX4 46 yX4_isWithin, Cond.static yX4_isWithin, Cond.initialized RX4, Cond.code yX4_isWithin cX4_isWithin 3 (some .boolean), Cond.instanceMethod yX1_readAll, Cond.initialized RX1, Cond.selects RX1 yX1_readAll yX1_readAll, Cond.code yX1_readAll cX1_readAll 5 (some .int), Cond.fieldLink RX1 21 "WordScales$Days" "reader" "LWordScales$ActReader;", Cond.fieldLink RX1 32 "WordScales$Days" "faultPlace" "I", Cond.fieldLink RX1 42 "WordScales$Days" "why" "I", Cond.methodLink RX1 57 yX1_begin, Cond.instanceMethod yX1_begin, Cond.selects RX1 yX1_begin yX1_begin, Cond.code yX1_begin cX1_begin 2 none, Cond.fieldLink RX1 12 "WordScales$Days" "shop" "LWordScales$Shop;", Cond.fieldLink RX1 28 "WordScales$Days" "row" "LWordScales$Row;", Cond.fieldLink RX1 36 "WordScales$Days" "acts" "I", Cond.fieldLink RX1 45 "WordScales$Days" "sentences" "I", Cond.fieldLink RX1 48 "WordScales$Days" "spoken" "I"]
def wsX4_said_r2 : List Cond := [Cond.fieldLink RX1 51 "WordScales$Days" "heaviest" "I", Cond.fieldLink RX1 54 "WordScales$Days" "heaviestWeight" "I", Cond.instanceMethod yX3_copyFrom, Cond.initialized RX3, Cond.selects RX3 yX3_copyFrom yX3_copyFrom, Cond.code yX3_copyFrom cX3_copyFrom 2 none, Cond.fieldLink RX3 9 "WordScales$Shop" "weights" "[I", Cond.fieldLink RX3 15 "WordScales$Shop" "kinds" "[I", Cond.fieldLink RX3 18 "WordScales$Shop" "rhymes" "[I", Cond.fieldLink RX3 21 "WordScales$Shop" "purses" "[I", Cond.fieldLink RX3 24 "WordScales$Shop" "belongings" "[I", Cond.fieldLink RX3 27 "WordScales$Shop" "wishes" "[I", Cond.fieldLink RX3 30 "WordScales$Shop" "wishCount" "I", Cond.fieldLink RX3 34 "WordScales$Shop" "lefts" "[I", Cond.fieldLink RX3 37 "WordScales$Shop" "rights" "[I", Cond.fieldLink RX3 40 "WordScales$Shop" "outcomes" "[I", Cond.fieldLink RX3 43 "WordScales$Shop" "sightCount" "I", Cond.static yX4_copyRow, Cond.code yX4_copyRow cX4_copyRow 3 none, Cond.instanceMethod yX0_begin, Cond.initialized RX0, Cond.selects RX0 yX0_begin yX0_begin, Cond.code yX0_begin cX0_begin 1 none, Cond.fieldLink RX0 11 "WordScales$ActReader" "awaited" "I"]
def wsX4_said_r3 : List Cond := [Cond.instanceMethod yX2_begin, Cond.initialized RX2, Cond.selects RX2 yX2_begin yX2_begin, Cond.code yX2_begin cX2_begin 1 none, Cond.fieldLink RX2 11 "WordScales$Row" "stage" "I", Cond.fieldLink RX2 15 "WordScales$Row" "length" "I", Cond.instanceMethod yX0_take, Cond.selects RX0 yX0_take yX0_take, Cond.code yX0_take cX0_take 2 (some .boolean), Cond.methodLink RX0 27 yX0_takeDot, Cond.instanceMethod yX0_takeDot, Cond.selects RX0 yX0_takeDot yX0_takeDot, Cond.code yX0_takeDot cX0_takeDot 2 (some .boolean), Cond.fieldLink RX0 15 "WordScales$ActReader" "act" "I", Cond.methodLink RX0 31 yX0_takeSpeaker, Cond.instanceMethod yX0_takeSpeaker, Cond.selects RX0 yX0_takeSpeaker yX0_takeSpeaker, Cond.code yX0_takeSpeaker cX0_takeSpeaker 2 (some .boolean), Cond.fieldLink RX0 18 "WordScales$ActReader" "speaker" "I", Cond.static yX4_isSpeaker, Cond.code yX4_isSpeaker cX4_isSpeaker 1 (some .boolean), Cond.methodLink RX0 34 yX0_takeMark, Cond.instanceMethod yX0_takeMark, Cond.selects RX0 yX0_takeMark yX0_takeMark]
def wsX4_said_r4 : List Cond := [Cond.code yX0_takeMark cX0_takeMark 2 (some .boolean), Cond.methodLink RX0 37 yX0_takeWord, Cond.instanceMethod yX0_takeWord, Cond.selects RX0 yX0_takeWord yX0_takeWord, Cond.code yX0_takeWord cX0_takeWord 2 (some .boolean), Cond.fieldLink RX0 21 "WordScales$ActReader" "word" "I", Cond.static yX4_isWord, Cond.code yX4_isWord cX4_isWord 1 (some .boolean), Cond.methodLink RX0 40 yX0_takeOther, Cond.instanceMethod yX0_takeOther, Cond.selects RX0 yX0_takeOther yX0_takeOther, Cond.code yX0_takeOther cX0_takeOther 2 (some .boolean), Cond.fieldLink RX0 24 "WordScales$ActReader" "other" "I", Cond.instanceMethod yX0_isBetweenActs, Cond.selects RX0 yX0_isBetweenActs yX0_isBetweenActs, Cond.code yX0_isBetweenActs cX0_isBetweenActs 1 (some .boolean), Cond.methodLink RX1 69 yX1_doAct, Cond.instanceMethod yX1_doAct, Cond.selects RX1 yX1_doAct yX1_doAct, Cond.code yX1_doAct cX1_doAct 1 none, Cond.fieldLink RX1 39 "WordScales$Days" "badAct" "I", Cond.methodLink RX1 81 yX1_endSentence, Cond.instanceMethod yX1_endSentence, Cond.selects RX1 yX1_endSentence yX1_endSentence]
def wsX4_said_r5 : List Cond := [Cond.code yX1_endSentence cX1_endSentence 1 (some .int), Cond.instanceMethod yX2_isSentence, Cond.selects RX2 yX2_isSentence yX2_isSentence, Cond.code yX2_isSentence cX2_isSentence 1 (some .boolean), Cond.methodLink RX1 88 yX1_doWordAct, Cond.instanceMethod yX1_doWordAct, Cond.selects RX1 yX1_doWordAct yX1_doWordAct, Cond.code yX1_doWordAct cX1_doWordAct 4 (some .int), Cond.instanceMethod yX3_perform, Cond.selects RX3 yX3_perform yX3_perform, Cond.code yX3_perform cX3_perform 5 (some .int), Cond.methodLink RX3 82 yX3_buy, Cond.instanceMethod yX3_buy, Cond.selects RX3 yX3_buy yX3_buy, Cond.code yX3_buy cX3_buy 3 (some .int), Cond.static yX4_isIn, Cond.code yX4_isIn cX4_isIn 2 (some .boolean), Cond.methodLink RX3 85 yX3_handIn, Cond.instanceMethod yX3_handIn, Cond.selects RX3 yX3_handIn yX3_handIn, Cond.code yX3_handIn cX3_handIn 4 (some .int), Cond.methodLink RX3 88 yX3_speak, Cond.instanceMethod yX3_speak, Cond.selects RX3 yX3_speak yX3_speak]
def wsX4_said_r6 : List Cond := [Cond.code yX3_speak cX3_speak 3 (some .int), Cond.methodLink RX3 62 Lib.Math.max.name, Cond.static Lib.Math.max.name, Cond.initialized "java/lang/Math", Cond.code Lib.Math.max.name Lib.Math.max.code 2 (some .int), Cond.methodLink RX3 91 yX3_give, Cond.instanceMethod yX3_give, Cond.selects RX3 yX3_give yX3_give, Cond.code yX3_give cX3_give 4 (some .int), Cond.methodLink RX1 112 yX1_noteSpoken, Cond.instanceMethod yX1_noteSpoken, Cond.selects RX1 yX1_noteSpoken yX1_noteSpoken, Cond.code yX1_noteSpoken cX1_noteSpoken 3 none, Cond.instanceMethod yX2_add, Cond.selects RX2 yX2_add yX2_add, Cond.code yX2_add cX2_add 2 none, Cond.methodLink RX2 18 yX2_stageBehind, Cond.instanceMethod yX2_stageBehind, Cond.selects RX2 yX2_stageBehind yX2_stageBehind, Cond.code yX2_stageBehind cX2_stageBehind 2 (some .int)]
def wsX4_said : List Cond := .code yX4_said cX4_said 3 (some .int) :: ((wsX4_said_r1 ++ (wsX4_said_r2 ++ (wsX4_said_r3 ++ (wsX4_said_r4 ++ (wsX4_said_r5 ++ wsX4_said_r6))))) ++ wsX40 ++ wsX10 ++ wsX20 ++ wsX30 ++ wsX00)
def wsX4_done_r1 : List Cond := [Cond.fieldLink RX4 34 "WordScales" "days" "LWordScales$Days;", Cond.fieldLink RX4 23 "WordScales" "signs" "[I", Cond.fieldLink RX4 27 "WordScales" "signCount" "I", Cond.fieldLink RX4 10 "WordScales" "shop" "LWordScales$Shop;", Cond.instanceMethod yX1_readAll, Cond.initialized RX1, Cond.selects RX1 yX1_readAll yX1_readAll, Cond.code yX1_readAll cX1_readAll 5 (some .int), Cond.fieldLink RX1 21 "WordScales$Days" "reader" "LWordScales$ActReader;", Cond.fieldLink RX1 32 "WordScales$Days" "faultPlace" "I", Cond.fieldLink RX1 42 "WordScales$Days" "why" "I", Cond.methodLink RX1 57 yX1_begin, Cond.instanceMethod yX1_begin, Cond.selects RX1 yX1_begin yX1_begin, Cond.code yX1_begin cX1_begin 2 none, Cond.fieldLink RX1 12 "WordScales$Days" "shop" "LWordScales$Shop;", Cond.fieldLink RX1 28 "WordScales$Days" "row" "LWordScales$Row;", Cond.fieldLink RX1 36 "WordScales$Days" "acts" "I", Cond.fieldLink RX1 45 "WordScales$Days" "sentences" "I", Cond.fieldLink RX1 48 "WordScales$Days" "spoken" "I", Cond.fieldLink RX1 51 "WordScales$Days" "heaviest" "I", Cond.fieldLink RX1 54 "WordScales$Days" "heaviestWeight" "I", Cond.instanceMethod yX3_copyFrom, Cond.initialized RX3]
def wsX4_done_r2 : List Cond := [Cond.selects RX3 yX3_copyFrom yX3_copyFrom, Cond.code yX3_copyFrom cX3_copyFrom 2 none, Cond.fieldLink RX3 9 "WordScales$Shop" "weights" "[I", Cond.fieldLink RX3 15 "WordScales$Shop" "kinds" "[I", Cond.fieldLink RX3 18 "WordScales$Shop" "rhymes" "[I", Cond.fieldLink RX3 21 "WordScales$Shop" "purses" "[I", Cond.fieldLink RX3 24 "WordScales$Shop" "belongings" "[I", Cond.fieldLink RX3 27 "WordScales$Shop" "wishes" "[I", Cond.fieldLink RX3 30 "WordScales$Shop" "wishCount" "I", Cond.fieldLink RX3 34 "WordScales$Shop" "lefts" "[I", Cond.fieldLink RX3 37 "WordScales$Shop" "rights" "[I", Cond.fieldLink RX3 40 "WordScales$Shop" "outcomes" "[I", Cond.fieldLink RX3 43 "WordScales$Shop" "sightCount" "I", Cond.static yX4_copyRow, Cond.initialized RX4, Cond.code yX4_copyRow cX4_copyRow 3 none, Cond.instanceMethod yX0_begin, Cond.initialized RX0, Cond.selects RX0 yX0_begin yX0_begin, Cond.code yX0_begin cX0_begin 1 none, Cond.fieldLink RX0 11 "WordScales$ActReader" "awaited" "I", Cond.instanceMethod yX2_begin, Cond.initialized RX2, Cond.selects RX2 yX2_begin yX2_begin]
def wsX4_done_r3 : List Cond := [Cond.code yX2_begin cX2_begin 1 none, Cond.fieldLink RX2 11 "WordScales$Row" "stage" "I", Cond.fieldLink RX2 15 "WordScales$Row" "length" "I", Cond.instanceMethod yX0_take, Cond.selects RX0 yX0_take yX0_take, Cond.code yX0_take cX0_take 2 (some .boolean), Cond.methodLink RX0 27 yX0_takeDot, Cond.instanceMethod yX0_takeDot, Cond.selects RX0 yX0_takeDot yX0_takeDot, Cond.code yX0_takeDot cX0_takeDot 2 (some .boolean), Cond.fieldLink RX0 15 "WordScales$ActReader" "act" "I", Cond.methodLink RX0 31 yX0_takeSpeaker, Cond.instanceMethod yX0_takeSpeaker, Cond.selects RX0 yX0_takeSpeaker yX0_takeSpeaker, Cond.code yX0_takeSpeaker cX0_takeSpeaker 2 (some .boolean), Cond.fieldLink RX0 18 "WordScales$ActReader" "speaker" "I", Cond.static yX4_isSpeaker, Cond.code yX4_isSpeaker cX4_isSpeaker 1 (some .boolean), Cond.methodLink RX4 46 yX4_isWithin, Cond.static yX4_isWithin, Cond.code yX4_isWithin cX4_isWithin 3 (some .boolean), Cond.methodLink RX0 34 yX0_takeMark, Cond.instanceMethod yX0_takeMark, Cond.selects RX0 yX0_takeMark yX0_takeMark]
def wsX4_done_r4 : List Cond := [Cond.code yX0_takeMark cX0_takeMark 2 (some .boolean), Cond.methodLink RX0 37 yX0_takeWord, Cond.instanceMethod yX0_takeWord, Cond.selects RX0 yX0_takeWord yX0_takeWord, Cond.code yX0_takeWord cX0_takeWord 2 (some .boolean), Cond.fieldLink RX0 21 "WordScales$ActReader" "word" "I", Cond.static yX4_isWord, Cond.code yX4_isWord cX4_isWord 1 (some .boolean), Cond.methodLink RX0 40 yX0_takeOther, Cond.instanceMethod yX0_takeOther, Cond.selects RX0 yX0_takeOther yX0_takeOther, Cond.code yX0_takeOther cX0_takeOther 2 (some .boolean), Cond.fieldLink RX0 24 "WordScales$ActReader" "other" "I", Cond.instanceMethod yX0_isBetweenActs, Cond.selects RX0 yX0_isBetweenActs yX0_isBetweenActs, Cond.code yX0_isBetweenActs cX0_isBetweenActs 1 (some .boolean), Cond.methodLink RX1 69 yX1_doAct, Cond.instanceMethod yX1_doAct, Cond.selects RX1 yX1_doAct yX1_doAct, Cond.code yX1_doAct cX1_doAct 1 none, Cond.fieldLink RX1 39 "WordScales$Days" "badAct" "I", Cond.methodLink RX1 81 yX1_endSentence, Cond.instanceMethod yX1_endSentence, Cond.selects RX1 yX1_endSentence yX1_endSentence]
def wsX4_done_r5 : List Cond := [Cond.code yX1_endSentence cX1_endSentence 1 (some .int), Cond.instanceMethod yX2_isSentence, Cond.selects RX2 yX2_isSentence yX2_isSentence, Cond.code yX2_isSentence cX2_isSentence 1 (some .boolean), Cond.methodLink RX1 88 yX1_doWordAct, Cond.instanceMethod yX1_doWordAct, Cond.selects RX1 yX1_doWordAct yX1_doWordAct, Cond.code yX1_doWordAct cX1_doWordAct 4 (some .int), Cond.instanceMethod yX3_perform, Cond.selects RX3 yX3_perform yX3_perform, Cond.code yX3_perform cX3_perform 5 (some .int), Cond.methodLink RX3 82 yX3_buy, Cond.instanceMethod yX3_buy, Cond.selects RX3 yX3_buy yX3_buy, Cond.code yX3_buy cX3_buy 3 (some .int), Cond.static yX4_isIn, Cond.code yX4_isIn cX4_isIn 2 (some .boolean), Cond.methodLink RX3 85 yX3_handIn, Cond.instanceMethod yX3_handIn, Cond.selects RX3 yX3_handIn yX3_handIn, Cond.code yX3_handIn cX3_handIn 4 (some .int), Cond.methodLink RX3 88 yX3_speak, Cond.instanceMethod yX3_speak, Cond.selects RX3 yX3_speak yX3_speak]
def wsX4_done_r6 : List Cond := [Cond.code yX3_speak cX3_speak 3 (some .int), Cond.methodLink RX3 62 Lib.Math.max.name, Cond.static Lib.Math.max.name, Cond.initialized "java/lang/Math", Cond.code Lib.Math.max.name Lib.Math.max.code 2 (some .int), Cond.methodLink RX3 91 yX3_give, Cond.instanceMethod yX3_give, Cond.selects RX3 yX3_give yX3_give, Cond.code yX3_give cX3_give 4 (some .int), Cond.methodLink RX1 112 yX1_noteSpoken, Cond.instanceMethod yX1_noteSpoken, Cond.selects RX1 yX1_noteSpoken yX1_noteSpoken, Cond.code yX1_noteSpoken cX1_noteSpoken 3 none, Cond.instanceMethod yX2_add, Cond.selects RX2 yX2_add yX2_add, Cond.code yX2_add cX2_add 2 none, Cond.methodLink RX2 18 yX2_stageBehind, Cond.instanceMethod yX2_stageBehind, Cond.selects RX2 yX2_stageBehind yX2_stageBehind, Cond.code yX2_stageBehind cX2_stageBehind 2 (some .int)]
def wsX4_done : List Cond := .code yX4_done cX4_done 2 (some .int) :: ((wsX4_done_r1 ++ (wsX4_done_r2 ++ (wsX4_done_r3 ++ (wsX4_done_r4 ++ (wsX4_done_r5 ++ wsX4_done_r6))))) ++ wsX40 ++ wsX10 ++ wsX30 ++ wsX00 ++ wsX20)
def wsX4_scales : List Cond := .code yX4_scales cX4_scales 2 (some .int) :: ([.fieldLink RX4 10 "WordScales" "shop" "LWordScales$Shop;", .methodLink RX4 76 yX4_isSet, .static yX4_isSet, .initialized RX4, .code yX4_isSet cX4_isSet 1 (some .boolean), .methodLink RX4 46 yX4_isWithin, .static yX4_isWithin, .code yX4_isWithin cX4_isWithin 3 (some .boolean), .instanceMethod yX3_weigh, .initialized RX3, .selects RX3 yX3_weigh yX3_weigh, .code yX3_weigh cX3_weigh 5 (some .int), .fieldLink RX3 18 "WordScales$Shop" "rhymes" "[I", .static yX4_isIn, .code yX4_isIn cX4_isIn 2 (some .boolean), .methodLink RX3 58 yX3_heaviestOf, .instanceMethod yX3_heaviestOf, .selects RX3 yX3_heaviestOf yX3_heaviestOf, .code yX3_heaviestOf cX3_heaviestOf 4 (some .int), .fieldLink RX3 9 "WordScales$Shop" "weights" "[I", .methodLink RX3 62 Lib.Math.max.name, .static Lib.Math.max.name, .initialized "java/lang/Math", .code Lib.Math.max.name Lib.Math.max.code 2 (some .int)] ++ wsX40 ++ wsX30)
def wsX4_power : List Cond := .code yX4_power cX4_power 6 (some .long) :: ([])
def wsX4_says_r1 : List Cond := [Cond.constantLong RX4 127 (-1), Cond.constantLong RX4 129 (-2), Cond.fieldLink RX4 10 "WordScales" "shop" "LWordScales$Shop;", Cond.methodLink RX4 73 yX4_isSpeaker, Cond.static yX4_isSpeaker, Cond.initialized RX4, Cond.code yX4_isSpeaker cX4_isSpeaker 1 (some .boolean), Cond.methodLink RX4 46 yX4_isWithin, Cond.static yX4_isWithin, Cond.code yX4_isWithin cX4_isWithin 3 (some .boolean), Cond.instanceMethod yX3_countKind, Cond.initialized RX3, Cond.selects RX3 yX3_countKind yX3_countKind, Cond.code yX3_countKind cX3_countKind 3 (some .int), Cond.methodLink RX3 68 yX3_ofKind, Cond.instanceMethod yX3_ofKind, Cond.selects RX3 yX3_ofKind yX3_ofKind, Cond.code yX3_ofKind cX3_ofKind 4 (some .int), Cond.fieldLink RX3 15 "WordScales$Shop" "kinds" "[I", Cond.methodLink RX3 71 yJ6_bitCount_0f7a4, Cond.static yJ6_bitCount_0f7a4, Cond.initialized RJ6, Cond.code yJ6_bitCount_0f7a4 cJ6_bitCount_0f7a4 1 (some .int), Cond.constant RJ6 265 (1431655765)]
def wsX4_says_r2 : List Cond := [Cond.constant RJ6 266 (858993459), Cond.constant RJ6 267 (252645135), Cond.methodLink RX4 135 yX4_power, Cond.static yX4_power, Cond.code yX4_power cX4_power 6 (some .long)]
def wsX4_says : List Cond := .code yX4_says cX4_says 14 (some .long) :: ((wsX4_says_r1 ++ wsX4_says_r2) ++ wsX40 ++ wsX30)
def wsX4_cheapestSentence : List Cond := .code yX4_cheapestSentence cX4_cheapestSentence 9 (some .int) :: ([.fieldLink RX4 10 "WordScales" "shop" "LWordScales$Shop;", .instanceMethod yX3_ofKind, .initialized RX3, .selects RX3 yX3_ofKind yX3_ofKind, .code yX3_ofKind cX3_ofKind 4 (some .int), .fieldLink RX3 15 "WordScales$Shop" "kinds" "[I", .methodLink RX4 63 yJ6_bitCount_0f7a4, .static yJ6_bitCount_0f7a4, .initialized RJ6, .code yJ6_bitCount_0f7a4 cJ6_bitCount_0f7a4 1 (some .int), .constant RJ6 265 (1431655765), .constant RJ6 266 (858993459), .constant RJ6 267 (252645135), .methodLink RX4 46 yX4_isWithin, .static yX4_isWithin, .initialized RX4, .code yX4_isWithin cX4_isWithin 3 (some .boolean), .instanceMethod yX3_priceOf, .selects RX3 yX3_priceOf yX3_priceOf, .code yX3_priceOf cX3_priceOf 4 (some .int), .fieldLink RX3 9 "WordScales$Shop" "weights" "[I", .static yX4_isIn, .code yX4_isIn cX4_isIn 2 (some .boolean)] ++ wsX40 ++ wsX30)
def wsX4_cheap_r1 : List Cond := [Cond.fieldLink RX4 10 "WordScales" "shop" "LWordScales$Shop;", Cond.methodLink RX4 73 yX4_isSpeaker, Cond.static yX4_isSpeaker, Cond.initialized RX4, Cond.code yX4_isSpeaker cX4_isSpeaker 1 (some .boolean), Cond.methodLink RX4 46 yX4_isWithin, Cond.static yX4_isWithin, Cond.code yX4_isWithin cX4_isWithin 3 (some .boolean), Cond.methodLink RX4 139 yX4_cheapestSentence, Cond.instanceMethod yX4_cheapestSentence, Cond.selects RX4 yX4_cheapestSentence yX4_cheapestSentence, Cond.code yX4_cheapestSentence cX4_cheapestSentence 9 (some .int), Cond.instanceMethod yX3_ofKind, Cond.initialized RX3, Cond.selects RX3 yX3_ofKind yX3_ofKind, Cond.code yX3_ofKind cX3_ofKind 4 (some .int), Cond.fieldLink RX3 15 "WordScales$Shop" "kinds" "[I", Cond.methodLink RX4 63 yJ6_bitCount_0f7a4, Cond.static yJ6_bitCount_0f7a4, Cond.initialized RJ6, Cond.code yJ6_bitCount_0f7a4 cJ6_bitCount_0f7a4 1 (some .int), Cond.constant RJ6 265 (1431655765), Cond.constant RJ6 266 (858993459), Cond.constant RJ6 267 (252645135)]
def wsX4_cheap_r2 : List Cond := [Cond.instanceMethod yX3_priceOf, Cond.selects RX3 yX3_priceOf yX3_priceOf, Cond.code yX3_priceOf cX3_priceOf 4 (some .int), Cond.fieldLink RX3 9 "WordScales$Shop" "weights" "[I", Cond.static yX4_isIn, Cond.code yX4_isIn cX4_isIn 2 (some .boolean)]
def wsX4_cheap : List Cond := .code yX4_cheap cX4_cheap 6 (some .int) :: ((wsX4_cheap_r1 ++ wsX4_cheap_r2) ++ wsX40 ++ wsX30)
def wsX4_fewestSpeakers_r1 : List Cond := [Cond.fieldLink RX4 10 "WordScales" "shop" "LWordScales$Shop;", Cond.methodLink RX4 63 yJ6_bitCount_0f7a4, Cond.static yJ6_bitCount_0f7a4, Cond.initialized RJ6, Cond.code yJ6_bitCount_0f7a4 cJ6_bitCount_0f7a4 1 (some .int), Cond.constant RJ6 265 (1431655765), Cond.constant RJ6 266 (858993459), Cond.constant RJ6 267 (252645135), Cond.instanceMethod yX3_heldBy, Cond.initialized RX3, Cond.selects RX3 yX3_heldBy yX3_heldBy, Cond.code yX3_heldBy cX3_heldBy 4 (some .int), Cond.fieldLink RX3 24 "WordScales$Shop" "belongings" "[I", Cond.static yX4_isIn, Cond.initialized RX4, Cond.code yX4_isIn cX4_isIn 2 (some .boolean), Cond.instanceMethod yX3_canSayOnce, Cond.selects RX3 yX3_canSayOnce yX3_canSayOnce, Cond.code yX3_canSayOnce cX3_canSayOnce 5 (some .boolean), Cond.methodLink RX3 76 yX3_countKind, Cond.instanceMethod yX3_countKind, Cond.selects RX3 yX3_countKind yX3_countKind, Cond.code yX3_countKind cX3_countKind 3 (some .int), Cond.methodLink RX3 68 yX3_ofKind]
def wsX4_fewestSpeakers_r2 : List Cond := [Cond.instanceMethod yX3_ofKind, Cond.selects RX3 yX3_ofKind yX3_ofKind, Cond.code yX3_ofKind cX3_ofKind 4 (some .int), Cond.fieldLink RX3 15 "WordScales$Shop" "kinds" "[I", Cond.methodLink RX3 71 yJ6_bitCount_0f7a4]
def wsX4_fewestSpeakers : List Cond := .code yX4_fewestSpeakers cX4_fewestSpeakers 6 (some .int) :: ((wsX4_fewestSpeakers_r1 ++ wsX4_fewestSpeakers_r2) ++ wsX40 ++ wsX30)
def wsX4_pool_r1 : List Cond := [Cond.methodLink RX4 46 yX4_isWithin, Cond.static yX4_isWithin, Cond.initialized RX4, Cond.code yX4_isWithin cX4_isWithin 3 (some .boolean), Cond.methodLink RX4 145 yX4_fewestSpeakers, Cond.instanceMethod yX4_fewestSpeakers, Cond.selects RX4 yX4_fewestSpeakers yX4_fewestSpeakers, Cond.code yX4_fewestSpeakers cX4_fewestSpeakers 6 (some .int), Cond.fieldLink RX4 10 "WordScales" "shop" "LWordScales$Shop;", Cond.methodLink RX4 63 yJ6_bitCount_0f7a4, Cond.static yJ6_bitCount_0f7a4, Cond.initialized RJ6, Cond.code yJ6_bitCount_0f7a4 cJ6_bitCount_0f7a4 1 (some .int), Cond.constant RJ6 265 (1431655765), Cond.constant RJ6 266 (858993459), Cond.constant RJ6 267 (252645135), Cond.instanceMethod yX3_heldBy, Cond.initialized RX3, Cond.selects RX3 yX3_heldBy yX3_heldBy, Cond.code yX3_heldBy cX3_heldBy 4 (some .int), Cond.fieldLink RX3 24 "WordScales$Shop" "belongings" "[I", Cond.static yX4_isIn, Cond.code yX4_isIn cX4_isIn 2 (some .boolean), Cond.instanceMethod yX3_canSayOnce]
def wsX4_pool_r2 : List Cond := [Cond.selects RX3 yX3_canSayOnce yX3_canSayOnce, Cond.code yX3_canSayOnce cX3_canSayOnce 5 (some .boolean), Cond.methodLink RX3 76 yX3_countKind, Cond.instanceMethod yX3_countKind, Cond.selects RX3 yX3_countKind yX3_countKind, Cond.code yX3_countKind cX3_countKind 3 (some .int), Cond.methodLink RX3 68 yX3_ofKind, Cond.instanceMethod yX3_ofKind, Cond.selects RX3 yX3_ofKind yX3_ofKind, Cond.code yX3_ofKind cX3_ofKind 4 (some .int), Cond.fieldLink RX3 15 "WordScales$Shop" "kinds" "[I", Cond.methodLink RX3 71 yJ6_bitCount_0f7a4]
def wsX4_pool : List Cond := .code yX4_pool cX4_pool 4 (some .int) :: ((wsX4_pool_r1 ++ wsX4_pool_r2) ++ wsX40 ++ wsX30)
def wsX4_wish : List Cond := .code yX4_wish cX4_wish 2 (some .int) :: ([.fieldLink RX4 10 "WordScales" "shop" "LWordScales$Shop;", .methodLink RX4 76 yX4_isSet, .static yX4_isSet, .initialized RX4, .code yX4_isSet cX4_isSet 1 (some .boolean), .methodLink RX4 46 yX4_isWithin, .static yX4_isWithin, .code yX4_isWithin cX4_isWithin 3 (some .boolean)] ++ wsX40 ++ wsX30)
def wsX4_unwish : List Cond := .code yX4_unwish cX4_unwish 2 (some .int) :: ([.fieldLink RX4 10 "WordScales" "shop" "LWordScales$Shop;"] ++ wsX40 ++ wsX30)
def wsX4_fewestWords : List Cond := .code yX4_fewestWords cX4_fewestWords 5 (some .int) :: ([.fieldLink RX4 10 "WordScales" "shop" "LWordScales$Shop;", .methodLink RX4 63 yJ6_bitCount_0f7a4, .static yJ6_bitCount_0f7a4, .initialized RJ6, .code yJ6_bitCount_0f7a4 cJ6_bitCount_0f7a4 1 (some .int), .constant RJ6 265 (1431655765), .constant RJ6 266 (858993459), .constant RJ6 267 (252645135), .instanceMethod yX3_grantsAll, .initialized RX3, .selects RX3 yX3_grantsAll yX3_grantsAll, .code yX3_grantsAll cX3_grantsAll 3 (some .boolean), .fieldLink RX3 30 "WordScales$Shop" "wishCount" "I", .fieldLink RX3 27 "WordScales$Shop" "wishes" "[I"] ++ wsX40 ++ wsX30)
def wsX4_nine : List Cond := .code yX4_nine cX4_nine 3 (some .int) :: ([.methodLink RX4 46 yX4_isWithin, .static yX4_isWithin, .initialized RX4, .code yX4_isWithin cX4_isWithin 3 (some .boolean), .methodLink RX4 154 yX4_fewestWords, .instanceMethod yX4_fewestWords, .selects RX4 yX4_fewestWords yX4_fewestWords, .code yX4_fewestWords cX4_fewestWords 5 (some .int), .fieldLink RX4 10 "WordScales" "shop" "LWordScales$Shop;", .methodLink RX4 63 yJ6_bitCount_0f7a4, .static yJ6_bitCount_0f7a4, .initialized RJ6, .code yJ6_bitCount_0f7a4 cJ6_bitCount_0f7a4 1 (some .int), .constant RJ6 265 (1431655765), .constant RJ6 266 (858993459), .constant RJ6 267 (252645135), .instanceMethod yX3_grantsAll, .initialized RX3, .selects RX3 yX3_grantsAll yX3_grantsAll, .code yX3_grantsAll cX3_grantsAll 3 (some .boolean), .fieldLink RX3 30 "WordScales$Shop" "wishCount" "I", .fieldLink RX3 27 "WordScales$Shop" "wishes" "[I"] ++ wsX40 ++ wsX30)
def wsX4_seen : List Cond := .code yX4_seen cX4_seen 5 (some .int) :: ([.fieldLink RX4 10 "WordScales" "shop" "LWordScales$Shop;", .methodLink RX4 76 yX4_isSet, .static yX4_isSet, .initialized RX4, .code yX4_isSet cX4_isSet 1 (some .boolean), .methodLink RX4 46 yX4_isWithin, .static yX4_isWithin, .code yX4_isWithin cX4_isWithin 3 (some .boolean), .methodLink RX4 63 yJ6_bitCount_0f7a4, .static yJ6_bitCount_0f7a4, .initialized RJ6, .code yJ6_bitCount_0f7a4 cJ6_bitCount_0f7a4 1 (some .int), .constant RJ6 265 (1431655765), .constant RJ6 266 (858993459), .constant RJ6 267 (252645135)] ++ wsX40 ++ wsX30)
def wsX4_forget : List Cond := .code yX4_forget cX4_forget 2 (some .int) :: ([.fieldLink RX4 10 "WordScales" "shop" "LWordScales$Shop;"] ++ wsX40 ++ wsX30)
def wsX4_hollow : List Cond := .code yX4_hollow cX4_hollow 1 (some .int) :: ([.fieldLink RX4 10 "WordScales" "shop" "LWordScales$Shop;", .instanceMethod yX3_suspects, .initialized RX3, .selects RX3 yX3_suspects yX3_suspects, .code yX3_suspects cX3_suspects 3 (some .int), .fieldLink RX3 43 "WordScales$Shop" "sightCount" "I", .fieldLink RX3 40 "WordScales$Shop" "outcomes" "[I", .fieldLink RX3 34 "WordScales$Shop" "lefts" "[I", .fieldLink RX3 37 "WordScales$Shop" "rights" "[I"] ++ wsX40 ++ wsX30)
def wsX4_fewestWeighings : List Cond := .code yX4_fewestWeighings cX4_fewestWeighings 3 (some .int) :: ([])
def wsX4_mostLeft : List Cond := .code yX4_mostLeft cX4_mostLeft 2 (some .int) :: ([.methodLink RX4 223 Lib.Math.max.name, .static Lib.Math.max.name, .initialized "java/lang/Math", .code Lib.Math.max.name Lib.Math.max.code 2 (some .int)])
def wsX4_bestEach : List Cond := .code yX4_bestEach cX4_bestEach 3 (some .int) :: ([.methodLink RX4 179 yX4_mostLeft, .static yX4_mostLeft, .initialized RX4, .code yX4_mostLeft cX4_mostLeft 2 (some .int), .methodLink RX4 223 Lib.Math.max.name, .static Lib.Math.max.name, .initialized "java/lang/Math", .code Lib.Math.max.name Lib.Math.max.code 2 (some .int)])
def wsX4_lay_r1 : List Cond := [Cond.fieldLink RX4 10 "WordScales" "shop" "LWordScales$Shop;", Cond.methodLink RX4 46 yX4_isWithin, Cond.static yX4_isWithin, Cond.initialized RX4, Cond.code yX4_isWithin cX4_isWithin 3 (some .boolean), Cond.instanceMethod yX3_suspects, Cond.initialized RX3, Cond.selects RX3 yX3_suspects yX3_suspects, Cond.code yX3_suspects cX3_suspects 3 (some .int), Cond.fieldLink RX3 43 "WordScales$Shop" "sightCount" "I", Cond.fieldLink RX3 40 "WordScales$Shop" "outcomes" "[I", Cond.fieldLink RX3 34 "WordScales$Shop" "lefts" "[I", Cond.fieldLink RX3 37 "WordScales$Shop" "rights" "[I", Cond.methodLink RX4 63 yJ6_bitCount_0f7a4, Cond.static yJ6_bitCount_0f7a4, Cond.initialized RJ6, Cond.code yJ6_bitCount_0f7a4 cJ6_bitCount_0f7a4 1 (some .int), Cond.constant RJ6 265 (1431655765), Cond.constant RJ6 266 (858993459), Cond.constant RJ6 267 (252645135), Cond.methodLink RX4 173 yX4_fewestWeighings, Cond.static yX4_fewestWeighings, Cond.code yX4_fewestWeighings cX4_fewestWeighings 3 (some .int), Cond.methodLink RX4 176 yX4_bestEach]
def wsX4_lay_r2 : List Cond := [Cond.static yX4_bestEach, Cond.code yX4_bestEach cX4_bestEach 3 (some .int), Cond.methodLink RX4 179 yX4_mostLeft, Cond.static yX4_mostLeft, Cond.code yX4_mostLeft cX4_mostLeft 2 (some .int), Cond.methodLink RX4 223 Lib.Math.max.name, Cond.static Lib.Math.max.name, Cond.initialized "java/lang/Math", Cond.code Lib.Math.max.name Lib.Math.max.code 2 (some .int)]
def wsX4_lay : List Cond := .code yX4_lay cX4_lay 4 (some .int) :: ((wsX4_lay_r1 ++ wsX4_lay_r2) ++ wsX40 ++ wsX30)
def wsX4_bestMean : List Cond := .code yX4_bestMean cX4_bestMean 14 (some .long) :: ([.fieldLink RX4 38 "WordScales" "means" "[J", .constantLong RX4 188 (10), .methodLink RX4 228 Lib.MathLoose.max_long.x, .static Lib.MathLoose.max_long.x, .initialized "java/lang/Math", .code Lib.MathLoose.max_long.x Lib.MathLoose.max_long.code 4 (some .long), .methodLink RX4 46 yX4_isWithin, .static yX4_isWithin, .initialized RX4, .code yX4_isWithin cX4_isWithin 3 (some .boolean)] ++ wsX40)
def wsX4_weather : List Cond := .code yX4_weather cX4_weather 12 (some .long) :: ([.constantLong RX4 182 (-1000000000000000002), .constantLong RX4 188 (10), .constantLong RX4 190 (2), .constantLong RX4 192 (5), .methodLink RX4 46 yX4_isWithin, .static yX4_isWithin, .initialized RX4, .code yX4_isWithin cX4_isWithin 3 (some .boolean), .methodLink RX4 184 yX4_bestMean, .instanceMethod yX4_bestMean, .selects RX4 yX4_bestMean yX4_bestMean, .code yX4_bestMean cX4_bestMean 14 (some .long), .fieldLink RX4 38 "WordScales" "means" "[J", .methodLink RX4 228 Lib.MathLoose.max_long.x, .static Lib.MathLoose.max_long.x, .initialized "java/lang/Math", .code Lib.MathLoose.max_long.x Lib.MathLoose.max_long.code 4 (some .long), .methodLink RX4 135 yX4_power, .static yX4_power, .code yX4_power cX4_power 6 (some .long)] ++ wsX40)
def wsX4_synonyms : List Cond := .code yX4_synonyms cX4_synonyms 8 (some .int) :: ([.methodLink RX4 46 yX4_isWithin, .static yX4_isWithin, .initialized RX4, .code yX4_isWithin cX4_isWithin 3 (some .boolean)])
def wsX4_sumOf : List Cond := .code yX4_sumOf cX4_sumOf 3 (some .int) :: ([])
def wsX4_year_r1 : List Cond := [Cond.fieldLink RX4 16 "WordScales" "yearShop" "LWordScales$Shop;", Cond.fieldLink RX4 10 "WordScales" "shop" "LWordScales$Shop;", Cond.methodLink RX4 46 yX4_isWithin, Cond.static yX4_isWithin, Cond.initialized RX4, Cond.code yX4_isWithin cX4_isWithin 3 (some .boolean), Cond.instanceMethod yX3_copyFrom, Cond.initialized RX3, Cond.selects RX3 yX3_copyFrom yX3_copyFrom, Cond.code yX3_copyFrom cX3_copyFrom 2 none, Cond.fieldLink RX3 9 "WordScales$Shop" "weights" "[I", Cond.fieldLink RX3 15 "WordScales$Shop" "kinds" "[I", Cond.fieldLink RX3 18 "WordScales$Shop" "rhymes" "[I", Cond.fieldLink RX3 21 "WordScales$Shop" "purses" "[I", Cond.fieldLink RX3 24 "WordScales$Shop" "belongings" "[I", Cond.fieldLink RX3 27 "WordScales$Shop" "wishes" "[I", Cond.fieldLink RX3 30 "WordScales$Shop" "wishCount" "I", Cond.fieldLink RX3 34 "WordScales$Shop" "lefts" "[I", Cond.fieldLink RX3 37 "WordScales$Shop" "rights" "[I", Cond.fieldLink RX3 40 "WordScales$Shop" "outcomes" "[I", Cond.fieldLink RX3 43 "WordScales$Shop" "sightCount" "I", Cond.static yX4_copyRow, Cond.code yX4_copyRow cX4_copyRow 3 none, Cond.instanceMethod yX3_liveYear]
def wsX4_year_r2 : List Cond := [Cond.selects RX3 yX3_liveYear yX3_liveYear, Cond.code yX3_liveYear cX3_liveYear 5 none, Cond.constant RX3 95 (65537), Cond.methodLink RX3 96 yX3_drawnAct, Cond.static yX3_drawnAct, Cond.code yX3_drawnAct cX3_drawnAct 1 (some .int), Cond.methodLink RX3 99 yX3_perform, Cond.instanceMethod yX3_perform, Cond.selects RX3 yX3_perform yX3_perform, Cond.code yX3_perform cX3_perform 5 (some .int), Cond.static yX4_isSpeaker, Cond.code yX4_isSpeaker cX4_isSpeaker 1 (some .boolean), Cond.static yX4_isWord, Cond.code yX4_isWord cX4_isWord 1 (some .boolean), Cond.methodLink RX3 82 yX3_buy, Cond.instanceMethod yX3_buy, Cond.selects RX3 yX3_buy yX3_buy, Cond.code yX3_buy cX3_buy 3 (some .int), Cond.static yX4_isIn, Cond.code yX4_isIn cX4_isIn 2 (some .boolean), Cond.methodLink RX3 85 yX3_handIn, Cond.instanceMethod yX3_handIn, Cond.selects RX3 yX3_handIn yX3_handIn, Cond.code yX3_handIn cX3_handIn 4 (some .int)]
def wsX4_year_r3 : List Cond := [Cond.methodLink RX3 88 yX3_speak, Cond.instanceMethod yX3_speak, Cond.selects RX3 yX3_speak yX3_speak, Cond.code yX3_speak cX3_speak 3 (some .int), Cond.methodLink RX3 62 Lib.Math.max.name, Cond.static Lib.Math.max.name, Cond.initialized "java/lang/Math", Cond.code Lib.Math.max.name Lib.Math.max.code 2 (some .int), Cond.methodLink RX3 91 yX3_give, Cond.instanceMethod yX3_give, Cond.selects RX3 yX3_give yX3_give, Cond.code yX3_give cX3_give 4 (some .int), Cond.instanceMethod yX3_countBelongings, Cond.selects RX3 yX3_countBelongings yX3_countBelongings, Cond.code yX3_countBelongings cX3_countBelongings 3 (some .int), Cond.methodLink RX3 71 yJ6_bitCount_0f7a4, Cond.static yJ6_bitCount_0f7a4, Cond.initialized RJ6, Cond.code yJ6_bitCount_0f7a4 cJ6_bitCount_0f7a4 1 (some .int), Cond.constant RJ6 265 (1431655765), Cond.constant RJ6 266 (858993459), Cond.constant RJ6 267 (252645135), Cond.methodLink RX4 200 yX4_sumOf, Cond.static yX4_sumOf]
def wsX4_year_r4 : List Cond := [Cond.code yX4_sumOf cX4_sumOf 3 (some .int)]
def wsX4_year : List Cond := .code yX4_year cX4_year 4 (some .int) :: ((wsX4_year_r1 ++ (wsX4_year_r2 ++ (wsX4_year_r3 ++ wsX4_year_r4))) ++ wsX40 ++ wsX30)
def wsX4_image_r1 : List Cond := [Cond.fieldLink RX4 19 "WordScales" "images" "[LWordScales$Shop;", Cond.classLink RX4 7 RX3, Cond.instantiable RX3 11, Cond.initialized RX3, Cond.fieldLink RX4 10 "WordScales" "shop" "LWordScales$Shop;", Cond.methodLink RX4 46 yX4_isWithin, Cond.static yX4_isWithin, Cond.initialized RX4, Cond.code yX4_isWithin cX4_isWithin 3 (some .boolean), Cond.instanceMethod yX3_init, Cond.code yX3_init cX3_init 2 none, Cond.methodLink RX3 3 objectInit, Cond.instanceMethod objectInit, Cond.code objectInit ⟨#[0xb1]⟩ 1 none, Cond.arrayClass .int, Cond.fieldLink RX3 9 "WordScales$Shop" "weights" "[I", Cond.fieldLink RX3 15 "WordScales$Shop" "kinds" "[I", Cond.fieldLink RX3 18 "WordScales$Shop" "rhymes" "[I", Cond.fieldLink RX3 21 "WordScales$Shop" "purses" "[I", Cond.fieldLink RX3 24 "WordScales$Shop" "belongings" "[I", Cond.fieldLink RX3 27 "WordScales$Shop" "wishes" "[I", Cond.fieldLink RX3 30 "WordScales$Shop" "wishCount" "I", Cond.fieldLink RX3 34 "WordScales$Shop" "lefts" "[I", Cond.fieldLink RX3 37 "WordScales$Shop" "rights" "[I"]
def wsX4_image_r2 : List Cond := [Cond.fieldLink RX3 40 "WordScales$Shop" "outcomes" "[I", Cond.fieldLink RX3 43 "WordScales$Shop" "sightCount" "I", Cond.instanceMethod yX3_copyFrom, Cond.selects RX3 yX3_copyFrom yX3_copyFrom, Cond.code yX3_copyFrom cX3_copyFrom 2 none, Cond.static yX4_copyRow, Cond.code yX4_copyRow cX4_copyRow 3 none]
def wsX4_image : List Cond := .code yX4_image cX4_image 3 (some .int) :: ((wsX4_image_r1 ++ wsX4_image_r2) ++ wsX40 ++ wsX30)
def wsX4_restore : List Cond := .code yX4_restore cX4_restore 3 (some .int) :: ([.fieldLink RX4 19 "WordScales" "images" "[LWordScales$Shop;", .fieldLink RX4 10 "WordScales" "shop" "LWordScales$Shop;", .methodLink RX4 46 yX4_isWithin, .static yX4_isWithin, .initialized RX4, .code yX4_isWithin cX4_isWithin 3 (some .boolean), .instanceMethod yX3_copyFrom, .initialized RX3, .selects RX3 yX3_copyFrom yX3_copyFrom, .code yX3_copyFrom cX3_copyFrom 2 none, .fieldLink RX3 9 "WordScales$Shop" "weights" "[I", .fieldLink RX3 15 "WordScales$Shop" "kinds" "[I", .fieldLink RX3 18 "WordScales$Shop" "rhymes" "[I", .fieldLink RX3 21 "WordScales$Shop" "purses" "[I", .fieldLink RX3 24 "WordScales$Shop" "belongings" "[I", .fieldLink RX3 27 "WordScales$Shop" "wishes" "[I", .fieldLink RX3 30 "WordScales$Shop" "wishCount" "I", .fieldLink RX3 34 "WordScales$Shop" "lefts" "[I", .fieldLink RX3 37 "WordScales$Shop" "rights" "[I", .fieldLink RX3 40 "WordScales$Shop" "outcomes" "[I", .fieldLink RX3 43 "WordScales$Shop" "sightCount" "I", .static yX4_copyRow, .code yX4_copyRow cX4_copyRow 3 none] ++ wsX40 ++ wsX30)
def wsX4_tellCount : List Cond := .code yX4_tellCount cX4_tellCount 2 (some .int) :: ([.fieldLink RX4 27 "WordScales" "signCount" "I", .fieldLink RX4 10 "WordScales" "shop" "LWordScales$Shop;"] ++ wsX40 ++ wsX30)
def wsX4_tellWord : List Cond := .code yX4_tellWord cX4_tellWord 3 (some .int) :: ([.fieldLink RX4 10 "WordScales" "shop" "LWordScales$Shop;", .methodLink RX4 42 yX4_isWord, .static yX4_isWord, .initialized RX4, .code yX4_isWord cX4_isWord 1 (some .boolean), .methodLink RX4 46 yX4_isWithin, .static yX4_isWithin, .code yX4_isWithin cX4_isWithin 3 (some .boolean)] ++ wsX40 ++ wsX30)
def wsX4_told : List Cond := .code yX4_told cX4_told 2 (some .int) :: ([.fieldLink RX4 10 "WordScales" "shop" "LWordScales$Shop;", .methodLink RX4 46 yX4_isWithin, .static yX4_isWithin, .initialized RX4, .code yX4_isWithin cX4_isWithin 3 (some .boolean), .methodLink RX4 204 yX4_tellCount, .instanceMethod yX4_tellCount, .selects RX4 yX4_tellCount yX4_tellCount, .code yX4_tellCount cX4_tellCount 2 (some .int), .fieldLink RX4 27 "WordScales" "signCount" "I", .methodLink RX4 207 yX4_tellWord, .instanceMethod yX4_tellWord, .selects RX4 yX4_tellWord yX4_tellWord, .code yX4_tellWord cX4_tellWord 3 (some .int), .methodLink RX4 42 yX4_isWord, .static yX4_isWord, .code yX4_isWord cX4_isWord 1 (some .boolean)] ++ wsX40 ++ wsX30)
def wsX5_init_r1 : List Cond := [Cond.methodLink RX5 1 objectInit, Cond.instanceMethod objectInit, Cond.code objectInit ⟨#[0xb1]⟩ 1 none, Cond.arrayClass .int, Cond.fieldLink RX5 7 "WordScalesModel" "weight" "[I", Cond.fieldLink RX5 13 "WordScalesModel" "kind" "[I", Cond.fieldLink RX5 16 "WordScalesModel" "rhymes" "[I", Cond.fieldLink RX5 19 "WordScalesModel" "purse" "[I", Cond.fieldLink RX5 22 "WordScalesModel" "has" "[I", Cond.fieldLink RX5 25 "WordScalesModel" "wishes" "[I", Cond.fieldLink RX5 28 "WordScalesModel" "sightLeft" "[I", Cond.fieldLink RX5 31 "WordScalesModel" "sightRight" "[I", Cond.fieldLink RX5 34 "WordScalesModel" "sightHow" "[I", Cond.fieldLink RX5 37 "WordScalesModel" "pad" "[I", Cond.fieldLink RX5 40 "WordScalesModel" "act" "[I", Cond.fieldLink RX5 43 "WordScalesModel" "who" "[I", Cond.fieldLink RX5 46 "WordScalesModel" "which" "[I", Cond.fieldLink RX5 49 "WordScalesModel" "whom" "[I", Cond.fieldLink RX5 52 "WordScalesModel" "had" "[I", Cond.arrayClass .long, Cond.fieldLink RX5 55 "WordScalesModel" "brings" "[J", Cond.fieldLink RX5 59 "WordScalesModel" "bringsThen" "[J", Cond.fieldLink RX5 62 "WordScalesModel" "kept" "[I", Cond.arrayClass .boolean]
def wsX5_init_r2 : List Cond := [Cond.fieldLink RX5 65 "WordScalesModel" "isKept" "[Z"]
def wsX5_init : List Cond := .code yX5_init cX5_init 2 none :: ((wsX5_init_r1 ++ wsX5_init_r2) ++ wsX50)
def wsX5_in : List Cond := .code yX5_in cX5_in 6 (some .boolean) :: ([])
def wsX5_ones : List Cond := .code yX5_ones cX5_ones 3 (some .int) :: ([])
def wsX5_isWord : List Cond := .code yX5_isWord cX5_isWord 1 (some .boolean) :: ([.constantLong RX5 69 (11), .methodLink RX5 71 yX5_in, .static yX5_in, .initialized RX5, .code yX5_in cX5_in 6 (some .boolean)])
def wsX5_isSpeaker : List Cond := .code yX5_isSpeaker cX5_isSpeaker 1 (some .boolean) :: ([.constantLong RX5 75 (3), .methodLink RX5 71 yX5_in, .static yX5_in, .initialized RX5, .code yX5_in cX5_in 6 (some .boolean)])
def wsX5_word : List Cond := .code yX5_word cX5_word 5 (some .int) :: ([.constantLong RX5 81 (99), .constantLong RX5 83 (2), .fieldLink RX5 7 "WordScalesModel" "weight" "[I", .fieldLink RX5 13 "WordScalesModel" "kind" "[I", .methodLink RX5 77 yX5_isWord, .static yX5_isWord, .initialized RX5, .code yX5_isWord cX5_isWord 1 (some .boolean), .constantLong RX5 69 (11), .methodLink RX5 71 yX5_in, .static yX5_in, .code yX5_in cX5_in 6 (some .boolean)] ++ wsX50)
def wsX5_rhymesOf : List Cond := .code yX5_rhymesOf cX5_rhymesOf 4 (some .int) :: ([.fieldLink RX5 16 "WordScalesModel" "rhymes" "[I"] ++ wsX50)
def wsX5_rhyme : List Cond := .code yX5_rhyme cX5_rhyme 6 (some .int) :: ([.fieldLink RX5 16 "WordScalesModel" "rhymes" "[I", .methodLink RX5 77 yX5_isWord, .static yX5_isWord, .initialized RX5, .code yX5_isWord cX5_isWord 1 (some .boolean), .constantLong RX5 69 (11), .methodLink RX5 71 yX5_in, .static yX5_in, .code yX5_in cX5_in 6 (some .boolean), .methodLink RX5 85 yX5_rhymesOf, .instanceMethod yX5_rhymesOf, .selects RX5 yX5_rhymesOf yX5_rhymesOf, .code yX5_rhymesOf cX5_rhymesOf 4 (some .int), .methodLink RX5 89 yX5_ones, .static yX5_ones, .code yX5_ones cX5_ones 3 (some .int)] ++ wsX50)
def wsX5_freeRhyme : List Cond := .code yX5_freeRhyme cX5_freeRhyme 6 (some .int) :: ([.fieldLink RX5 16 "WordScalesModel" "rhymes" "[I"] ++ wsX50)
def wsX5_part : List Cond := .code yX5_part cX5_part 3 (some .int) :: ([.fieldLink RX5 16 "WordScalesModel" "rhymes" "[I", .methodLink RX5 77 yX5_isWord, .static yX5_isWord, .initialized RX5, .code yX5_isWord cX5_isWord 1 (some .boolean), .constantLong RX5 69 (11), .methodLink RX5 71 yX5_in, .static yX5_in, .code yX5_in cX5_in 6 (some .boolean), .methodLink RX5 85 yX5_rhymesOf, .instanceMethod yX5_rhymesOf, .selects RX5 yX5_rhymesOf yX5_rhymesOf, .code yX5_rhymesOf cX5_rhymesOf 4 (some .int), .methodLink RX5 89 yX5_ones, .static yX5_ones, .code yX5_ones cX5_ones 3 (some .int), .methodLink RX5 92 yX5_freeRhyme, .instanceMethod yX5_freeRhyme, .selects RX5 yX5_freeRhyme yX5_freeRhyme, .code yX5_freeRhyme cX5_freeRhyme 6 (some .int)] ++ wsX50)
def wsX5_speaker : List Cond := .code yX5_speaker cX5_speaker 5 (some .int) :: ([.constantLong RX5 98 (999), .constantLong RX5 100 (4095), .fieldLink RX5 19 "WordScalesModel" "purse" "[I", .fieldLink RX5 22 "WordScalesModel" "has" "[I", .methodLink RX5 95 yX5_isSpeaker, .static yX5_isSpeaker, .initialized RX5, .code yX5_isSpeaker cX5_isSpeaker 1 (some .boolean), .constantLong RX5 75 (3), .methodLink RX5 71 yX5_in, .static yX5_in, .code yX5_in cX5_in 6 (some .boolean)] ++ wsX50)
def wsX5_say : List Cond := .code yX5_say cX5_say 2 (some .int) :: ([.constantLong RX5 102 (33), .constantLong RX5 104 (126), .fieldLink RX5 106 "WordScalesModel" "padMany" "I", .fieldLink RX5 37 "WordScalesModel" "pad" "[I", .methodLink RX5 71 yX5_in, .static yX5_in, .initialized RX5, .code yX5_in cX5_in 6 (some .boolean)] ++ wsX50)
def wsX5_wipe : List Cond := .code yX5_wipe cX5_wipe 2 (some .int) :: ([.fieldLink RX5 106 "WordScalesModel" "padMany" "I"] ++ wsX50)
def wsX5_close : List Cond := .code yX5_close cX5_close 1 (some .int) :: ([.fieldLink RX5 110 "WordScalesModel" "acts" "I"] ++ wsX50)
def wsX5_begin : List Cond := .code yX5_begin cX5_begin 3 (some .int) :: ([.constantLong RX5 113 (65), .constantLong RX5 115 (68), .fieldLink RX5 40 "WordScalesModel" "act" "[I", .fieldLink RX5 110 "WordScalesModel" "acts" "I", .fieldLink RX5 43 "WordScalesModel" "who" "[I", .fieldLink RX5 46 "WordScalesModel" "which" "[I", .fieldLink RX5 49 "WordScalesModel" "whom" "[I", .methodLink RX5 71 yX5_in, .static yX5_in, .initialized RX5, .code yX5_in cX5_in 6 (some .boolean), .methodLink RX5 117 yX5_close, .instanceMethod yX5_close, .selects RX5 yX5_close yX5_close, .code yX5_close cX5_close 1 (some .int)] ++ wsX50)
def wsX5_deed : List Cond := .code yX5_deed cX5_deed 3 (some .int) :: ([.constantLong RX5 121 (97), .constantLong RX5 123 (108), .fieldLink RX5 40 "WordScalesModel" "act" "[I", .fieldLink RX5 110 "WordScalesModel" "acts" "I", .fieldLink RX5 46 "WordScalesModel" "which" "[I", .methodLink RX5 71 yX5_in, .static yX5_in, .initialized RX5, .code yX5_in cX5_in 6 (some .boolean), .methodLink RX5 117 yX5_close, .instanceMethod yX5_close, .selects RX5 yX5_close yX5_close, .code yX5_close cX5_close 1 (some .int)] ++ wsX50)
def wsX5_readOn_r1 : List Cond := [Cond.fieldLink RX5 49 "WordScalesModel" "whom" "[I", Cond.fieldLink RX5 110 "WordScalesModel" "acts" "I", Cond.constantLong RX5 113 (65), Cond.constantLong RX5 115 (68), Cond.fieldLink RX5 46 "WordScalesModel" "which" "[I", Cond.constantLong RX5 121 (97), Cond.constantLong RX5 123 (108), Cond.methodLink RX5 125 yX5_begin, Cond.instanceMethod yX5_begin, Cond.selects RX5 yX5_begin yX5_begin, Cond.initialized RX5, Cond.code yX5_begin cX5_begin 3 (some .int), Cond.fieldLink RX5 40 "WordScalesModel" "act" "[I", Cond.fieldLink RX5 43 "WordScalesModel" "who" "[I", Cond.methodLink RX5 71 yX5_in, Cond.static yX5_in, Cond.code yX5_in cX5_in 6 (some .boolean), Cond.methodLink RX5 117 yX5_close, Cond.instanceMethod yX5_close, Cond.selects RX5 yX5_close yX5_close, Cond.code yX5_close cX5_close 1 (some .int), Cond.methodLink RX5 128 yX5_deed, Cond.instanceMethod yX5_deed, Cond.selects RX5 yX5_deed yX5_deed]
def wsX5_readOn_r2 : List Cond := [Cond.code yX5_deed cX5_deed 3 (some .int)]
def wsX5_readOn : List Cond := .code yX5_readOn cX5_readOn 3 (some .int) :: ((wsX5_readOn_r1 ++ wsX5_readOn_r2) ++ wsX50)
def wsX5_fault_r1 : List Cond := [Cond.fieldLink RX5 110 "WordScalesModel" "acts" "I", Cond.fieldLink RX5 106 "WordScalesModel" "padMany" "I", Cond.fieldLink RX5 37 "WordScalesModel" "pad" "[I", Cond.methodLink RX5 131 yX5_readOn, Cond.instanceMethod yX5_readOn, Cond.selects RX5 yX5_readOn yX5_readOn, Cond.initialized RX5, Cond.code yX5_readOn cX5_readOn 3 (some .int), Cond.fieldLink RX5 49 "WordScalesModel" "whom" "[I", Cond.constantLong RX5 113 (65), Cond.constantLong RX5 115 (68), Cond.fieldLink RX5 46 "WordScalesModel" "which" "[I", Cond.constantLong RX5 121 (97), Cond.constantLong RX5 123 (108), Cond.methodLink RX5 125 yX5_begin, Cond.instanceMethod yX5_begin, Cond.selects RX5 yX5_begin yX5_begin, Cond.code yX5_begin cX5_begin 3 (some .int), Cond.fieldLink RX5 40 "WordScalesModel" "act" "[I", Cond.fieldLink RX5 43 "WordScalesModel" "who" "[I", Cond.methodLink RX5 71 yX5_in, Cond.static yX5_in, Cond.code yX5_in cX5_in 6 (some .boolean), Cond.methodLink RX5 117 yX5_close]
def wsX5_fault_r2 : List Cond := [Cond.instanceMethod yX5_close, Cond.selects RX5 yX5_close yX5_close, Cond.code yX5_close cX5_close 1 (some .int), Cond.methodLink RX5 128 yX5_deed, Cond.instanceMethod yX5_deed, Cond.selects RX5 yX5_deed yX5_deed, Cond.code yX5_deed cX5_deed 3 (some .int)]
def wsX5_fault : List Cond := .code yX5_fault cX5_fault 3 (some .int) :: ((wsX5_fault_r1 ++ wsX5_fault_r2) ++ wsX50)
def wsX5_hasWord : List Cond := .code yX5_hasWord cX5_hasWord 3 (some .boolean) :: ([.fieldLink RX5 22 "WordScalesModel" "has" "[I"] ++ wsX50)
def wsX5_placeThen : List Cond := .code yX5_placeThen cX5_placeThen 2 (some .int) :: ([.fieldLink RX5 135 "WordScalesModel" "place" "I"] ++ wsX50)
def wsX5_whyNot : List Cond := .code yX5_whyNot cX5_whyNot 5 (some .int) :: ([.fieldLink RX5 19 "WordScalesModel" "purse" "[I", .fieldLink RX5 7 "WordScalesModel" "weight" "[I", .fieldLink RX5 135 "WordScalesModel" "place" "I", .methodLink RX5 138 yX5_hasWord, .instanceMethod yX5_hasWord, .selects RX5 yX5_hasWord yX5_hasWord, .initialized RX5, .code yX5_hasWord cX5_hasWord 3 (some .boolean), .fieldLink RX5 22 "WordScalesModel" "has" "[I"] ++ wsX50)
def wsX5_speak : List Cond := .code yX5_speak cX5_speak 2 none :: ([.fieldLink RX5 142 "WordScalesModel" "spoken" "I", .fieldLink RX5 145 "WordScalesModel" "openMany" "I", .fieldLink RX5 13 "WordScalesModel" "kind" "[I", .fieldLink RX5 135 "WordScalesModel" "place" "I", .fieldLink RX5 151 "WordScalesModel" "heaviest" "I", .fieldLink RX5 7 "WordScalesModel" "weight" "[I", .fieldLink RX5 154 "WordScalesModel" "heaviestWeight" "I", .methodLink RX5 148 yX5_placeThen, .instanceMethod yX5_placeThen, .selects RX5 yX5_placeThen yX5_placeThen, .initialized RX5, .code yX5_placeThen cX5_placeThen 2 (some .int)] ++ wsX50)
def wsX5_beginCount : List Cond := .code yX5_beginCount cX5_beginCount 1 none :: ([.fieldLink RX5 157 "WordScalesModel" "ended" "I", .fieldLink RX5 142 "WordScalesModel" "spoken" "I", .fieldLink RX5 151 "WordScalesModel" "heaviest" "I", .fieldLink RX5 154 "WordScalesModel" "heaviestWeight" "I", .fieldLink RX5 135 "WordScalesModel" "place" "I", .fieldLink RX5 145 "WordScalesModel" "openMany" "I"] ++ wsX50)
def wsX5_happen : List Cond := .code yX5_happen cX5_happen 5 none :: ([.fieldLink RX5 19 "WordScalesModel" "purse" "[I", .fieldLink RX5 7 "WordScalesModel" "weight" "[I", .fieldLink RX5 22 "WordScalesModel" "has" "[I", .fieldLink RX5 157 "WordScalesModel" "ended" "I", .fieldLink RX5 135 "WordScalesModel" "place" "I", .fieldLink RX5 145 "WordScalesModel" "openMany" "I", .methodLink RX5 160 yX5_speak, .instanceMethod yX5_speak, .selects RX5 yX5_speak yX5_speak, .initialized RX5, .code yX5_speak cX5_speak 2 none, .fieldLink RX5 142 "WordScalesModel" "spoken" "I", .fieldLink RX5 13 "WordScalesModel" "kind" "[I", .fieldLink RX5 151 "WordScalesModel" "heaviest" "I", .fieldLink RX5 154 "WordScalesModel" "heaviestWeight" "I", .methodLink RX5 148 yX5_placeThen, .instanceMethod yX5_placeThen, .selects RX5 yX5_placeThen yX5_placeThen, .code yX5_placeThen cX5_placeThen 2 (some .int)] ++ wsX50)
def wsX5_keepNow : List Cond := .code yX5_keepNow cX5_keepNow 2 none :: ([.fieldLink RX5 52 "WordScalesModel" "had" "[I", .fieldLink RX5 7 "WordScalesModel" "weight" "[I", .fieldLink RX5 19 "WordScalesModel" "purse" "[I", .fieldLink RX5 22 "WordScalesModel" "has" "[I"] ++ wsX50)
def wsX5_back : List Cond := .code yX5_back cX5_back 3 (some .int) :: ([.fieldLink RX5 7 "WordScalesModel" "weight" "[I", .fieldLink RX5 52 "WordScalesModel" "had" "[I", .fieldLink RX5 19 "WordScalesModel" "purse" "[I", .fieldLink RX5 22 "WordScalesModel" "has" "[I"] ++ wsX50)
def wsX5_goDays_r1 : List Cond := [Cond.fieldLink RX5 167 "WordScalesModel" "badAct" "I", Cond.fieldLink RX5 170 "WordScalesModel" "badWhy" "I", Cond.fieldLink RX5 110 "WordScalesModel" "acts" "I", Cond.fieldLink RX5 40 "WordScalesModel" "act" "[I", Cond.fieldLink RX5 43 "WordScalesModel" "who" "[I", Cond.fieldLink RX5 46 "WordScalesModel" "which" "[I", Cond.fieldLink RX5 49 "WordScalesModel" "whom" "[I", Cond.methodLink RX5 164 yX5_beginCount, Cond.instanceMethod yX5_beginCount, Cond.selects RX5 yX5_beginCount yX5_beginCount, Cond.initialized RX5, Cond.code yX5_beginCount cX5_beginCount 1 none, Cond.fieldLink RX5 157 "WordScalesModel" "ended" "I", Cond.fieldLink RX5 142 "WordScalesModel" "spoken" "I", Cond.fieldLink RX5 151 "WordScalesModel" "heaviest" "I", Cond.fieldLink RX5 154 "WordScalesModel" "heaviestWeight" "I", Cond.fieldLink RX5 135 "WordScalesModel" "place" "I", Cond.fieldLink RX5 145 "WordScalesModel" "openMany" "I", Cond.methodLink RX5 173 yX5_whyNot, Cond.instanceMethod yX5_whyNot, Cond.selects RX5 yX5_whyNot yX5_whyNot, Cond.code yX5_whyNot cX5_whyNot 5 (some .int), Cond.fieldLink RX5 19 "WordScalesModel" "purse" "[I", Cond.fieldLink RX5 7 "WordScalesModel" "weight" "[I"]
def wsX5_goDays_r2 : List Cond := [Cond.methodLink RX5 138 yX5_hasWord, Cond.instanceMethod yX5_hasWord, Cond.selects RX5 yX5_hasWord yX5_hasWord, Cond.code yX5_hasWord cX5_hasWord 3 (some .boolean), Cond.fieldLink RX5 22 "WordScalesModel" "has" "[I", Cond.methodLink RX5 177 yX5_happen, Cond.instanceMethod yX5_happen, Cond.selects RX5 yX5_happen yX5_happen, Cond.code yX5_happen cX5_happen 5 none, Cond.methodLink RX5 160 yX5_speak, Cond.instanceMethod yX5_speak, Cond.selects RX5 yX5_speak yX5_speak, Cond.code yX5_speak cX5_speak 2 none, Cond.fieldLink RX5 13 "WordScalesModel" "kind" "[I", Cond.methodLink RX5 148 yX5_placeThen, Cond.instanceMethod yX5_placeThen, Cond.selects RX5 yX5_placeThen yX5_placeThen, Cond.code yX5_placeThen cX5_placeThen 2 (some .int)]
def wsX5_goDays : List Cond := .code yX5_goDays cX5_goDays 3 none :: ((wsX5_goDays_r1 ++ wsX5_goDays_r2) ++ wsX50)
def wsX5_refusal_r1 : List Cond := [Cond.fieldLink RX5 167 "WordScalesModel" "badAct" "I", Cond.methodLink RX5 181 yX5_keepNow, Cond.instanceMethod yX5_keepNow, Cond.selects RX5 yX5_keepNow yX5_keepNow, Cond.initialized RX5, Cond.code yX5_keepNow cX5_keepNow 2 none, Cond.fieldLink RX5 52 "WordScalesModel" "had" "[I", Cond.fieldLink RX5 7 "WordScalesModel" "weight" "[I", Cond.fieldLink RX5 19 "WordScalesModel" "purse" "[I", Cond.fieldLink RX5 22 "WordScalesModel" "has" "[I", Cond.methodLink RX5 184 yX5_fault, Cond.instanceMethod yX5_fault, Cond.selects RX5 yX5_fault yX5_fault, Cond.code yX5_fault cX5_fault 3 (some .int), Cond.fieldLink RX5 110 "WordScalesModel" "acts" "I", Cond.fieldLink RX5 106 "WordScalesModel" "padMany" "I", Cond.fieldLink RX5 37 "WordScalesModel" "pad" "[I", Cond.methodLink RX5 131 yX5_readOn, Cond.instanceMethod yX5_readOn, Cond.selects RX5 yX5_readOn yX5_readOn, Cond.code yX5_readOn cX5_readOn 3 (some .int), Cond.fieldLink RX5 49 "WordScalesModel" "whom" "[I", Cond.constantLong RX5 113 (65), Cond.constantLong RX5 115 (68)]
def wsX5_refusal_r2 : List Cond := [Cond.fieldLink RX5 46 "WordScalesModel" "which" "[I", Cond.constantLong RX5 121 (97), Cond.constantLong RX5 123 (108), Cond.methodLink RX5 125 yX5_begin, Cond.instanceMethod yX5_begin, Cond.selects RX5 yX5_begin yX5_begin, Cond.code yX5_begin cX5_begin 3 (some .int), Cond.fieldLink RX5 40 "WordScalesModel" "act" "[I", Cond.fieldLink RX5 43 "WordScalesModel" "who" "[I", Cond.methodLink RX5 71 yX5_in, Cond.static yX5_in, Cond.code yX5_in cX5_in 6 (some .boolean), Cond.methodLink RX5 117 yX5_close, Cond.instanceMethod yX5_close, Cond.selects RX5 yX5_close yX5_close, Cond.code yX5_close cX5_close 1 (some .int), Cond.methodLink RX5 128 yX5_deed, Cond.instanceMethod yX5_deed, Cond.selects RX5 yX5_deed yX5_deed, Cond.code yX5_deed cX5_deed 3 (some .int), Cond.methodLink RX5 187 yX5_goDays, Cond.instanceMethod yX5_goDays, Cond.selects RX5 yX5_goDays yX5_goDays, Cond.code yX5_goDays cX5_goDays 3 none]
def wsX5_refusal_r3 : List Cond := [Cond.fieldLink RX5 170 "WordScalesModel" "badWhy" "I", Cond.methodLink RX5 164 yX5_beginCount, Cond.instanceMethod yX5_beginCount, Cond.selects RX5 yX5_beginCount yX5_beginCount, Cond.code yX5_beginCount cX5_beginCount 1 none, Cond.fieldLink RX5 157 "WordScalesModel" "ended" "I", Cond.fieldLink RX5 142 "WordScalesModel" "spoken" "I", Cond.fieldLink RX5 151 "WordScalesModel" "heaviest" "I", Cond.fieldLink RX5 154 "WordScalesModel" "heaviestWeight" "I", Cond.fieldLink RX5 135 "WordScalesModel" "place" "I", Cond.fieldLink RX5 145 "WordScalesModel" "openMany" "I", Cond.methodLink RX5 173 yX5_whyNot, Cond.instanceMethod yX5_whyNot, Cond.selects RX5 yX5_whyNot yX5_whyNot, Cond.code yX5_whyNot cX5_whyNot 5 (some .int), Cond.methodLink RX5 138 yX5_hasWord, Cond.instanceMethod yX5_hasWord, Cond.selects RX5 yX5_hasWord yX5_hasWord, Cond.code yX5_hasWord cX5_hasWord 3 (some .boolean), Cond.methodLink RX5 177 yX5_happen, Cond.instanceMethod yX5_happen, Cond.selects RX5 yX5_happen yX5_happen, Cond.code yX5_happen cX5_happen 5 none, Cond.methodLink RX5 160 yX5_speak]
def wsX5_refusal_r4 : List Cond := [Cond.instanceMethod yX5_speak, Cond.selects RX5 yX5_speak yX5_speak, Cond.code yX5_speak cX5_speak 2 none, Cond.fieldLink RX5 13 "WordScalesModel" "kind" "[I", Cond.methodLink RX5 148 yX5_placeThen, Cond.instanceMethod yX5_placeThen, Cond.selects RX5 yX5_placeThen yX5_placeThen, Cond.code yX5_placeThen cX5_placeThen 2 (some .int)]
def wsX5_refusal : List Cond := .code yX5_refusal cX5_refusal 1 (some .int) :: ((wsX5_refusal_r1 ++ (wsX5_refusal_r2 ++ (wsX5_refusal_r3 ++ wsX5_refusal_r4))) ++ wsX50)
def wsX5_judge_r1 : List Cond := [Cond.constantLong RX5 83 (2), Cond.fieldLink RX5 167 "WordScalesModel" "badAct" "I", Cond.fieldLink RX5 170 "WordScalesModel" "badWhy" "I", Cond.fieldLink RX5 157 "WordScalesModel" "ended" "I", Cond.methodLink RX5 71 yX5_in, Cond.static yX5_in, Cond.initialized RX5, Cond.code yX5_in cX5_in 6 (some .boolean), Cond.methodLink RX5 190 yX5_refusal, Cond.instanceMethod yX5_refusal, Cond.selects RX5 yX5_refusal yX5_refusal, Cond.code yX5_refusal cX5_refusal 1 (some .int), Cond.methodLink RX5 181 yX5_keepNow, Cond.instanceMethod yX5_keepNow, Cond.selects RX5 yX5_keepNow yX5_keepNow, Cond.code yX5_keepNow cX5_keepNow 2 none, Cond.fieldLink RX5 52 "WordScalesModel" "had" "[I", Cond.fieldLink RX5 7 "WordScalesModel" "weight" "[I", Cond.fieldLink RX5 19 "WordScalesModel" "purse" "[I", Cond.fieldLink RX5 22 "WordScalesModel" "has" "[I", Cond.methodLink RX5 184 yX5_fault, Cond.instanceMethod yX5_fault, Cond.selects RX5 yX5_fault yX5_fault, Cond.code yX5_fault cX5_fault 3 (some .int)]
def wsX5_judge_r2 : List Cond := [Cond.fieldLink RX5 110 "WordScalesModel" "acts" "I", Cond.fieldLink RX5 106 "WordScalesModel" "padMany" "I", Cond.fieldLink RX5 37 "WordScalesModel" "pad" "[I", Cond.methodLink RX5 131 yX5_readOn, Cond.instanceMethod yX5_readOn, Cond.selects RX5 yX5_readOn yX5_readOn, Cond.code yX5_readOn cX5_readOn 3 (some .int), Cond.fieldLink RX5 49 "WordScalesModel" "whom" "[I", Cond.constantLong RX5 113 (65), Cond.constantLong RX5 115 (68), Cond.fieldLink RX5 46 "WordScalesModel" "which" "[I", Cond.constantLong RX5 121 (97), Cond.constantLong RX5 123 (108), Cond.methodLink RX5 125 yX5_begin, Cond.instanceMethod yX5_begin, Cond.selects RX5 yX5_begin yX5_begin, Cond.code yX5_begin cX5_begin 3 (some .int), Cond.fieldLink RX5 40 "WordScalesModel" "act" "[I", Cond.fieldLink RX5 43 "WordScalesModel" "who" "[I", Cond.methodLink RX5 117 yX5_close, Cond.instanceMethod yX5_close, Cond.selects RX5 yX5_close yX5_close, Cond.code yX5_close cX5_close 1 (some .int), Cond.methodLink RX5 128 yX5_deed]
def wsX5_judge_r3 : List Cond := [Cond.instanceMethod yX5_deed, Cond.selects RX5 yX5_deed yX5_deed, Cond.code yX5_deed cX5_deed 3 (some .int), Cond.methodLink RX5 187 yX5_goDays, Cond.instanceMethod yX5_goDays, Cond.selects RX5 yX5_goDays yX5_goDays, Cond.code yX5_goDays cX5_goDays 3 none, Cond.methodLink RX5 164 yX5_beginCount, Cond.instanceMethod yX5_beginCount, Cond.selects RX5 yX5_beginCount yX5_beginCount, Cond.code yX5_beginCount cX5_beginCount 1 none, Cond.fieldLink RX5 142 "WordScalesModel" "spoken" "I", Cond.fieldLink RX5 151 "WordScalesModel" "heaviest" "I", Cond.fieldLink RX5 154 "WordScalesModel" "heaviestWeight" "I", Cond.fieldLink RX5 135 "WordScalesModel" "place" "I", Cond.fieldLink RX5 145 "WordScalesModel" "openMany" "I", Cond.methodLink RX5 173 yX5_whyNot, Cond.instanceMethod yX5_whyNot, Cond.selects RX5 yX5_whyNot yX5_whyNot, Cond.code yX5_whyNot cX5_whyNot 5 (some .int), Cond.methodLink RX5 138 yX5_hasWord, Cond.instanceMethod yX5_hasWord, Cond.selects RX5 yX5_hasWord yX5_hasWord, Cond.code yX5_hasWord cX5_hasWord 3 (some .boolean)]
def wsX5_judge_r4 : List Cond := [Cond.methodLink RX5 177 yX5_happen, Cond.instanceMethod yX5_happen, Cond.selects RX5 yX5_happen yX5_happen, Cond.code yX5_happen cX5_happen 5 none, Cond.methodLink RX5 160 yX5_speak, Cond.instanceMethod yX5_speak, Cond.selects RX5 yX5_speak yX5_speak, Cond.code yX5_speak cX5_speak 2 none, Cond.fieldLink RX5 13 "WordScalesModel" "kind" "[I", Cond.methodLink RX5 148 yX5_placeThen, Cond.instanceMethod yX5_placeThen, Cond.selects RX5 yX5_placeThen yX5_placeThen, Cond.code yX5_placeThen cX5_placeThen 2 (some .int), Cond.methodLink RX5 193 yX5_back, Cond.instanceMethod yX5_back, Cond.selects RX5 yX5_back yX5_back, Cond.code yX5_back cX5_back 3 (some .int)]
def wsX5_judge : List Cond := .code yX5_judge cX5_judge 3 (some .int) :: ((wsX5_judge_r1 ++ (wsX5_judge_r2 ++ (wsX5_judge_r3 ++ wsX5_judge_r4))) ++ wsX50)
def wsX5_behind_r1 : List Cond := [Cond.fieldLink RX5 19 "WordScalesModel" "purse" "[I", Cond.fieldLink RX5 22 "WordScalesModel" "has" "[I", Cond.methodLink RX5 95 yX5_isSpeaker, Cond.static yX5_isSpeaker, Cond.initialized RX5, Cond.code yX5_isSpeaker cX5_isSpeaker 1 (some .boolean), Cond.constantLong RX5 75 (3), Cond.methodLink RX5 71 yX5_in, Cond.static yX5_in, Cond.code yX5_in cX5_in 6 (some .boolean), Cond.methodLink RX5 190 yX5_refusal, Cond.instanceMethod yX5_refusal, Cond.selects RX5 yX5_refusal yX5_refusal, Cond.code yX5_refusal cX5_refusal 1 (some .int), Cond.fieldLink RX5 167 "WordScalesModel" "badAct" "I", Cond.methodLink RX5 181 yX5_keepNow, Cond.instanceMethod yX5_keepNow, Cond.selects RX5 yX5_keepNow yX5_keepNow, Cond.code yX5_keepNow cX5_keepNow 2 none, Cond.fieldLink RX5 52 "WordScalesModel" "had" "[I", Cond.fieldLink RX5 7 "WordScalesModel" "weight" "[I", Cond.methodLink RX5 184 yX5_fault, Cond.instanceMethod yX5_fault, Cond.selects RX5 yX5_fault yX5_fault]
def wsX5_behind_r2 : List Cond := [Cond.code yX5_fault cX5_fault 3 (some .int), Cond.fieldLink RX5 110 "WordScalesModel" "acts" "I", Cond.fieldLink RX5 106 "WordScalesModel" "padMany" "I", Cond.fieldLink RX5 37 "WordScalesModel" "pad" "[I", Cond.methodLink RX5 131 yX5_readOn, Cond.instanceMethod yX5_readOn, Cond.selects RX5 yX5_readOn yX5_readOn, Cond.code yX5_readOn cX5_readOn 3 (some .int), Cond.fieldLink RX5 49 "WordScalesModel" "whom" "[I", Cond.constantLong RX5 113 (65), Cond.constantLong RX5 115 (68), Cond.fieldLink RX5 46 "WordScalesModel" "which" "[I", Cond.constantLong RX5 121 (97), Cond.constantLong RX5 123 (108), Cond.methodLink RX5 125 yX5_begin, Cond.instanceMethod yX5_begin, Cond.selects RX5 yX5_begin yX5_begin, Cond.code yX5_begin cX5_begin 3 (some .int), Cond.fieldLink RX5 40 "WordScalesModel" "act" "[I", Cond.fieldLink RX5 43 "WordScalesModel" "who" "[I", Cond.methodLink RX5 117 yX5_close, Cond.instanceMethod yX5_close, Cond.selects RX5 yX5_close yX5_close, Cond.code yX5_close cX5_close 1 (some .int)]
def wsX5_behind_r3 : List Cond := [Cond.methodLink RX5 128 yX5_deed, Cond.instanceMethod yX5_deed, Cond.selects RX5 yX5_deed yX5_deed, Cond.code yX5_deed cX5_deed 3 (some .int), Cond.methodLink RX5 187 yX5_goDays, Cond.instanceMethod yX5_goDays, Cond.selects RX5 yX5_goDays yX5_goDays, Cond.code yX5_goDays cX5_goDays 3 none, Cond.fieldLink RX5 170 "WordScalesModel" "badWhy" "I", Cond.methodLink RX5 164 yX5_beginCount, Cond.instanceMethod yX5_beginCount, Cond.selects RX5 yX5_beginCount yX5_beginCount, Cond.code yX5_beginCount cX5_beginCount 1 none, Cond.fieldLink RX5 157 "WordScalesModel" "ended" "I", Cond.fieldLink RX5 142 "WordScalesModel" "spoken" "I", Cond.fieldLink RX5 151 "WordScalesModel" "heaviest" "I", Cond.fieldLink RX5 154 "WordScalesModel" "heaviestWeight" "I", Cond.fieldLink RX5 135 "WordScalesModel" "place" "I", Cond.fieldLink RX5 145 "WordScalesModel" "openMany" "I", Cond.methodLink RX5 173 yX5_whyNot, Cond.instanceMethod yX5_whyNot, Cond.selects RX5 yX5_whyNot yX5_whyNot, Cond.code yX5_whyNot cX5_whyNot 5 (some .int), Cond.methodLink RX5 138 yX5_hasWord]
def wsX5_behind_r4 : List Cond := [Cond.instanceMethod yX5_hasWord, Cond.selects RX5 yX5_hasWord yX5_hasWord, Cond.code yX5_hasWord cX5_hasWord 3 (some .boolean), Cond.methodLink RX5 177 yX5_happen, Cond.instanceMethod yX5_happen, Cond.selects RX5 yX5_happen yX5_happen, Cond.code yX5_happen cX5_happen 5 none, Cond.methodLink RX5 160 yX5_speak, Cond.instanceMethod yX5_speak, Cond.selects RX5 yX5_speak yX5_speak, Cond.code yX5_speak cX5_speak 2 none, Cond.fieldLink RX5 13 "WordScalesModel" "kind" "[I", Cond.methodLink RX5 148 yX5_placeThen, Cond.instanceMethod yX5_placeThen, Cond.selects RX5 yX5_placeThen yX5_placeThen, Cond.code yX5_placeThen cX5_placeThen 2 (some .int), Cond.methodLink RX5 193 yX5_back, Cond.instanceMethod yX5_back, Cond.selects RX5 yX5_back yX5_back, Cond.code yX5_back cX5_back 3 (some .int)]
def wsX5_behind : List Cond := .code yX5_behind cX5_behind 4 (some .int) :: ((wsX5_behind_r1 ++ (wsX5_behind_r2 ++ (wsX5_behind_r3 ++ wsX5_behind_r4))) ++ wsX50)
def wsX5_worn_r1 : List Cond := [Cond.fieldLink RX5 7 "WordScalesModel" "weight" "[I", Cond.methodLink RX5 77 yX5_isWord, Cond.static yX5_isWord, Cond.initialized RX5, Cond.code yX5_isWord cX5_isWord 1 (some .boolean), Cond.constantLong RX5 69 (11), Cond.methodLink RX5 71 yX5_in, Cond.static yX5_in, Cond.code yX5_in cX5_in 6 (some .boolean), Cond.methodLink RX5 190 yX5_refusal, Cond.instanceMethod yX5_refusal, Cond.selects RX5 yX5_refusal yX5_refusal, Cond.code yX5_refusal cX5_refusal 1 (some .int), Cond.fieldLink RX5 167 "WordScalesModel" "badAct" "I", Cond.methodLink RX5 181 yX5_keepNow, Cond.instanceMethod yX5_keepNow, Cond.selects RX5 yX5_keepNow yX5_keepNow, Cond.code yX5_keepNow cX5_keepNow 2 none, Cond.fieldLink RX5 52 "WordScalesModel" "had" "[I", Cond.fieldLink RX5 19 "WordScalesModel" "purse" "[I", Cond.fieldLink RX5 22 "WordScalesModel" "has" "[I", Cond.methodLink RX5 184 yX5_fault, Cond.instanceMethod yX5_fault, Cond.selects RX5 yX5_fault yX5_fault]
def wsX5_worn_r2 : List Cond := [Cond.code yX5_fault cX5_fault 3 (some .int), Cond.fieldLink RX5 110 "WordScalesModel" "acts" "I", Cond.fieldLink RX5 106 "WordScalesModel" "padMany" "I", Cond.fieldLink RX5 37 "WordScalesModel" "pad" "[I", Cond.methodLink RX5 131 yX5_readOn, Cond.instanceMethod yX5_readOn, Cond.selects RX5 yX5_readOn yX5_readOn, Cond.code yX5_readOn cX5_readOn 3 (some .int), Cond.fieldLink RX5 49 "WordScalesModel" "whom" "[I", Cond.constantLong RX5 113 (65), Cond.constantLong RX5 115 (68), Cond.fieldLink RX5 46 "WordScalesModel" "which" "[I", Cond.constantLong RX5 121 (97), Cond.constantLong RX5 123 (108), Cond.methodLink RX5 125 yX5_begin, Cond.instanceMethod yX5_begin, Cond.selects RX5 yX5_begin yX5_begin, Cond.code yX5_begin cX5_begin 3 (some .int), Cond.fieldLink RX5 40 "WordScalesModel" "act" "[I", Cond.fieldLink RX5 43 "WordScalesModel" "who" "[I", Cond.methodLink RX5 117 yX5_close, Cond.instanceMethod yX5_close, Cond.selects RX5 yX5_close yX5_close, Cond.code yX5_close cX5_close 1 (some .int)]
def wsX5_worn_r3 : List Cond := [Cond.methodLink RX5 128 yX5_deed, Cond.instanceMethod yX5_deed, Cond.selects RX5 yX5_deed yX5_deed, Cond.code yX5_deed cX5_deed 3 (some .int), Cond.methodLink RX5 187 yX5_goDays, Cond.instanceMethod yX5_goDays, Cond.selects RX5 yX5_goDays yX5_goDays, Cond.code yX5_goDays cX5_goDays 3 none, Cond.fieldLink RX5 170 "WordScalesModel" "badWhy" "I", Cond.methodLink RX5 164 yX5_beginCount, Cond.instanceMethod yX5_beginCount, Cond.selects RX5 yX5_beginCount yX5_beginCount, Cond.code yX5_beginCount cX5_beginCount 1 none, Cond.fieldLink RX5 157 "WordScalesModel" "ended" "I", Cond.fieldLink RX5 142 "WordScalesModel" "spoken" "I", Cond.fieldLink RX5 151 "WordScalesModel" "heaviest" "I", Cond.fieldLink RX5 154 "WordScalesModel" "heaviestWeight" "I", Cond.fieldLink RX5 135 "WordScalesModel" "place" "I", Cond.fieldLink RX5 145 "WordScalesModel" "openMany" "I", Cond.methodLink RX5 173 yX5_whyNot, Cond.instanceMethod yX5_whyNot, Cond.selects RX5 yX5_whyNot yX5_whyNot, Cond.code yX5_whyNot cX5_whyNot 5 (some .int), Cond.methodLink RX5 138 yX5_hasWord]
def wsX5_worn_r4 : List Cond := [Cond.instanceMethod yX5_hasWord, Cond.selects RX5 yX5_hasWord yX5_hasWord, Cond.code yX5_hasWord cX5_hasWord 3 (some .boolean), Cond.methodLink RX5 177 yX5_happen, Cond.instanceMethod yX5_happen, Cond.selects RX5 yX5_happen yX5_happen, Cond.code yX5_happen cX5_happen 5 none, Cond.methodLink RX5 160 yX5_speak, Cond.instanceMethod yX5_speak, Cond.selects RX5 yX5_speak yX5_speak, Cond.code yX5_speak cX5_speak 2 none, Cond.fieldLink RX5 13 "WordScalesModel" "kind" "[I", Cond.methodLink RX5 148 yX5_placeThen, Cond.instanceMethod yX5_placeThen, Cond.selects RX5 yX5_placeThen yX5_placeThen, Cond.code yX5_placeThen cX5_placeThen 2 (some .int), Cond.methodLink RX5 193 yX5_back, Cond.instanceMethod yX5_back, Cond.selects RX5 yX5_back yX5_back, Cond.code yX5_back cX5_back 3 (some .int)]
def wsX5_worn : List Cond := .code yX5_worn cX5_worn 3 (some .int) :: ((wsX5_worn_r1 ++ (wsX5_worn_r2 ++ (wsX5_worn_r3 ++ wsX5_worn_r4))) ++ wsX50)
def wsX5_said_r1 : List Cond := [Cond.constantLong RX5 83 (2), Cond.fieldLink RX5 142 "WordScalesModel" "spoken" "I", Cond.fieldLink RX5 145 "WordScalesModel" "openMany" "I", Cond.fieldLink RX5 151 "WordScalesModel" "heaviest" "I", Cond.methodLink RX5 71 yX5_in, Cond.static yX5_in, Cond.initialized RX5, Cond.code yX5_in cX5_in 6 (some .boolean), Cond.methodLink RX5 190 yX5_refusal, Cond.instanceMethod yX5_refusal, Cond.selects RX5 yX5_refusal yX5_refusal, Cond.code yX5_refusal cX5_refusal 1 (some .int), Cond.fieldLink RX5 167 "WordScalesModel" "badAct" "I", Cond.methodLink RX5 181 yX5_keepNow, Cond.instanceMethod yX5_keepNow, Cond.selects RX5 yX5_keepNow yX5_keepNow, Cond.code yX5_keepNow cX5_keepNow 2 none, Cond.fieldLink RX5 52 "WordScalesModel" "had" "[I", Cond.fieldLink RX5 7 "WordScalesModel" "weight" "[I", Cond.fieldLink RX5 19 "WordScalesModel" "purse" "[I", Cond.fieldLink RX5 22 "WordScalesModel" "has" "[I", Cond.methodLink RX5 184 yX5_fault, Cond.instanceMethod yX5_fault, Cond.selects RX5 yX5_fault yX5_fault]
def wsX5_said_r2 : List Cond := [Cond.code yX5_fault cX5_fault 3 (some .int), Cond.fieldLink RX5 110 "WordScalesModel" "acts" "I", Cond.fieldLink RX5 106 "WordScalesModel" "padMany" "I", Cond.fieldLink RX5 37 "WordScalesModel" "pad" "[I", Cond.methodLink RX5 131 yX5_readOn, Cond.instanceMethod yX5_readOn, Cond.selects RX5 yX5_readOn yX5_readOn, Cond.code yX5_readOn cX5_readOn 3 (some .int), Cond.fieldLink RX5 49 "WordScalesModel" "whom" "[I", Cond.constantLong RX5 113 (65), Cond.constantLong RX5 115 (68), Cond.fieldLink RX5 46 "WordScalesModel" "which" "[I", Cond.constantLong RX5 121 (97), Cond.constantLong RX5 123 (108), Cond.methodLink RX5 125 yX5_begin, Cond.instanceMethod yX5_begin, Cond.selects RX5 yX5_begin yX5_begin, Cond.code yX5_begin cX5_begin 3 (some .int), Cond.fieldLink RX5 40 "WordScalesModel" "act" "[I", Cond.fieldLink RX5 43 "WordScalesModel" "who" "[I", Cond.methodLink RX5 117 yX5_close, Cond.instanceMethod yX5_close, Cond.selects RX5 yX5_close yX5_close, Cond.code yX5_close cX5_close 1 (some .int)]
def wsX5_said_r3 : List Cond := [Cond.methodLink RX5 128 yX5_deed, Cond.instanceMethod yX5_deed, Cond.selects RX5 yX5_deed yX5_deed, Cond.code yX5_deed cX5_deed 3 (some .int), Cond.methodLink RX5 187 yX5_goDays, Cond.instanceMethod yX5_goDays, Cond.selects RX5 yX5_goDays yX5_goDays, Cond.code yX5_goDays cX5_goDays 3 none, Cond.fieldLink RX5 170 "WordScalesModel" "badWhy" "I", Cond.methodLink RX5 164 yX5_beginCount, Cond.instanceMethod yX5_beginCount, Cond.selects RX5 yX5_beginCount yX5_beginCount, Cond.code yX5_beginCount cX5_beginCount 1 none, Cond.fieldLink RX5 157 "WordScalesModel" "ended" "I", Cond.fieldLink RX5 154 "WordScalesModel" "heaviestWeight" "I", Cond.fieldLink RX5 135 "WordScalesModel" "place" "I", Cond.methodLink RX5 173 yX5_whyNot, Cond.instanceMethod yX5_whyNot, Cond.selects RX5 yX5_whyNot yX5_whyNot, Cond.code yX5_whyNot cX5_whyNot 5 (some .int), Cond.methodLink RX5 138 yX5_hasWord, Cond.instanceMethod yX5_hasWord, Cond.selects RX5 yX5_hasWord yX5_hasWord, Cond.code yX5_hasWord cX5_hasWord 3 (some .boolean)]
def wsX5_said_r4 : List Cond := [Cond.methodLink RX5 177 yX5_happen, Cond.instanceMethod yX5_happen, Cond.selects RX5 yX5_happen yX5_happen, Cond.code yX5_happen cX5_happen 5 none, Cond.methodLink RX5 160 yX5_speak, Cond.instanceMethod yX5_speak, Cond.selects RX5 yX5_speak yX5_speak, Cond.code yX5_speak cX5_speak 2 none, Cond.fieldLink RX5 13 "WordScalesModel" "kind" "[I", Cond.methodLink RX5 148 yX5_placeThen, Cond.instanceMethod yX5_placeThen, Cond.selects RX5 yX5_placeThen yX5_placeThen, Cond.code yX5_placeThen cX5_placeThen 2 (some .int), Cond.methodLink RX5 193 yX5_back, Cond.instanceMethod yX5_back, Cond.selects RX5 yX5_back yX5_back, Cond.code yX5_back cX5_back 3 (some .int)]
def wsX5_said : List Cond := .code yX5_said cX5_said 3 (some .int) :: ((wsX5_said_r1 ++ (wsX5_said_r2 ++ (wsX5_said_r3 ++ wsX5_said_r4))) ++ wsX50)
def wsX5_done_r1 : List Cond := [Cond.fieldLink RX5 106 "WordScalesModel" "padMany" "I", Cond.fieldLink RX5 110 "WordScalesModel" "acts" "I", Cond.methodLink RX5 190 yX5_refusal, Cond.instanceMethod yX5_refusal, Cond.selects RX5 yX5_refusal yX5_refusal, Cond.initialized RX5, Cond.code yX5_refusal cX5_refusal 1 (some .int), Cond.fieldLink RX5 167 "WordScalesModel" "badAct" "I", Cond.methodLink RX5 181 yX5_keepNow, Cond.instanceMethod yX5_keepNow, Cond.selects RX5 yX5_keepNow yX5_keepNow, Cond.code yX5_keepNow cX5_keepNow 2 none, Cond.fieldLink RX5 52 "WordScalesModel" "had" "[I", Cond.fieldLink RX5 7 "WordScalesModel" "weight" "[I", Cond.fieldLink RX5 19 "WordScalesModel" "purse" "[I", Cond.fieldLink RX5 22 "WordScalesModel" "has" "[I", Cond.methodLink RX5 184 yX5_fault, Cond.instanceMethod yX5_fault, Cond.selects RX5 yX5_fault yX5_fault, Cond.code yX5_fault cX5_fault 3 (some .int), Cond.fieldLink RX5 37 "WordScalesModel" "pad" "[I", Cond.methodLink RX5 131 yX5_readOn, Cond.instanceMethod yX5_readOn, Cond.selects RX5 yX5_readOn yX5_readOn]
def wsX5_done_r2 : List Cond := [Cond.code yX5_readOn cX5_readOn 3 (some .int), Cond.fieldLink RX5 49 "WordScalesModel" "whom" "[I", Cond.constantLong RX5 113 (65), Cond.constantLong RX5 115 (68), Cond.fieldLink RX5 46 "WordScalesModel" "which" "[I", Cond.constantLong RX5 121 (97), Cond.constantLong RX5 123 (108), Cond.methodLink RX5 125 yX5_begin, Cond.instanceMethod yX5_begin, Cond.selects RX5 yX5_begin yX5_begin, Cond.code yX5_begin cX5_begin 3 (some .int), Cond.fieldLink RX5 40 "WordScalesModel" "act" "[I", Cond.fieldLink RX5 43 "WordScalesModel" "who" "[I", Cond.methodLink RX5 71 yX5_in, Cond.static yX5_in, Cond.code yX5_in cX5_in 6 (some .boolean), Cond.methodLink RX5 117 yX5_close, Cond.instanceMethod yX5_close, Cond.selects RX5 yX5_close yX5_close, Cond.code yX5_close cX5_close 1 (some .int), Cond.methodLink RX5 128 yX5_deed, Cond.instanceMethod yX5_deed, Cond.selects RX5 yX5_deed yX5_deed, Cond.code yX5_deed cX5_deed 3 (some .int)]
def wsX5_done_r3 : List Cond := [Cond.methodLink RX5 187 yX5_goDays, Cond.instanceMethod yX5_goDays, Cond.selects RX5 yX5_goDays yX5_goDays, Cond.code yX5_goDays cX5_goDays 3 none, Cond.fieldLink RX5 170 "WordScalesModel" "badWhy" "I", Cond.methodLink RX5 164 yX5_beginCount, Cond.instanceMethod yX5_beginCount, Cond.selects RX5 yX5_beginCount yX5_beginCount, Cond.code yX5_beginCount cX5_beginCount 1 none, Cond.fieldLink RX5 157 "WordScalesModel" "ended" "I", Cond.fieldLink RX5 142 "WordScalesModel" "spoken" "I", Cond.fieldLink RX5 151 "WordScalesModel" "heaviest" "I", Cond.fieldLink RX5 154 "WordScalesModel" "heaviestWeight" "I", Cond.fieldLink RX5 135 "WordScalesModel" "place" "I", Cond.fieldLink RX5 145 "WordScalesModel" "openMany" "I", Cond.methodLink RX5 173 yX5_whyNot, Cond.instanceMethod yX5_whyNot, Cond.selects RX5 yX5_whyNot yX5_whyNot, Cond.code yX5_whyNot cX5_whyNot 5 (some .int), Cond.methodLink RX5 138 yX5_hasWord, Cond.instanceMethod yX5_hasWord, Cond.selects RX5 yX5_hasWord yX5_hasWord, Cond.code yX5_hasWord cX5_hasWord 3 (some .boolean), Cond.methodLink RX5 177 yX5_happen]
def wsX5_done_r4 : List Cond := [Cond.instanceMethod yX5_happen, Cond.selects RX5 yX5_happen yX5_happen, Cond.code yX5_happen cX5_happen 5 none, Cond.methodLink RX5 160 yX5_speak, Cond.instanceMethod yX5_speak, Cond.selects RX5 yX5_speak yX5_speak, Cond.code yX5_speak cX5_speak 2 none, Cond.fieldLink RX5 13 "WordScalesModel" "kind" "[I", Cond.methodLink RX5 148 yX5_placeThen, Cond.instanceMethod yX5_placeThen, Cond.selects RX5 yX5_placeThen yX5_placeThen, Cond.code yX5_placeThen cX5_placeThen 2 (some .int), Cond.methodLink RX5 193 yX5_back, Cond.instanceMethod yX5_back, Cond.selects RX5 yX5_back yX5_back, Cond.code yX5_back cX5_back 3 (some .int)]
def wsX5_done : List Cond := .code yX5_done cX5_done 2 (some .int) :: ((wsX5_done_r1 ++ (wsX5_done_r2 ++ (wsX5_done_r3 ++ wsX5_done_r4))) ++ wsX50)
def wsX5_scales : List Cond := .code yX5_scales cX5_scales 7 (some .int) :: ([.constantLong RX5 100 (4095), .fieldLink RX5 16 "WordScalesModel" "rhymes" "[I", .fieldLink RX5 7 "WordScalesModel" "weight" "[I", .methodLink RX5 71 yX5_in, .static yX5_in, .initialized RX5, .code yX5_in cX5_in 6 (some .boolean)] ++ wsX50)
def wsX5_manyOf : List Cond := .code yX5_manyOf cX5_manyOf 5 (some .int) :: ([.fieldLink RX5 13 "WordScalesModel" "kind" "[I"] ++ wsX50)
def wsX5_times : List Cond := .code yX5_times cX5_times 6 (some .long) :: ([])
def wsX5_says : List Cond := .code yX5_says cX5_says 13 (some .long) :: ([.constantLong RX5 196 (-1), .constantLong RX5 198 (8), .constantLong RX5 200 (-2), .fieldLink RX5 22 "WordScalesModel" "has" "[I", .methodLink RX5 95 yX5_isSpeaker, .static yX5_isSpeaker, .initialized RX5, .code yX5_isSpeaker cX5_isSpeaker 1 (some .boolean), .constantLong RX5 75 (3), .methodLink RX5 71 yX5_in, .static yX5_in, .code yX5_in cX5_in 6 (some .boolean), .methodLink RX5 202 yX5_manyOf, .instanceMethod yX5_manyOf, .selects RX5 yX5_manyOf yX5_manyOf, .code yX5_manyOf cX5_manyOf 5 (some .int), .fieldLink RX5 13 "WordScalesModel" "kind" "[I", .methodLink RX5 205 yX5_times, .static yX5_times, .code yX5_times cX5_times 6 (some .long)] ++ wsX50)
def wsX5_isSentence : List Cond := .code yX5_isSentence cX5_isSentence 4 (some .boolean) :: ([.methodLink RX5 202 yX5_manyOf, .instanceMethod yX5_manyOf, .selects RX5 yX5_manyOf yX5_manyOf, .initialized RX5, .code yX5_manyOf cX5_manyOf 5 (some .int), .fieldLink RX5 13 "WordScalesModel" "kind" "[I", .methodLink RX5 89 yX5_ones, .static yX5_ones, .code yX5_ones cX5_ones 3 (some .int)] ++ wsX50)
def wsX5_costOf : List Cond := .code yX5_costOf cX5_costOf 4 (some .int) :: ([.fieldLink RX5 7 "WordScalesModel" "weight" "[I"] ++ wsX50)
def wsX5_cheap_r1 : List Cond := [Cond.constantLong RX5 198 (8), Cond.fieldLink RX5 22 "WordScalesModel" "has" "[I", Cond.methodLink RX5 95 yX5_isSpeaker, Cond.static yX5_isSpeaker, Cond.initialized RX5, Cond.code yX5_isSpeaker cX5_isSpeaker 1 (some .boolean), Cond.constantLong RX5 75 (3), Cond.methodLink RX5 71 yX5_in, Cond.static yX5_in, Cond.code yX5_in cX5_in 6 (some .boolean), Cond.methodLink RX5 209 yX5_isSentence, Cond.instanceMethod yX5_isSentence, Cond.selects RX5 yX5_isSentence yX5_isSentence, Cond.code yX5_isSentence cX5_isSentence 4 (some .boolean), Cond.methodLink RX5 202 yX5_manyOf, Cond.instanceMethod yX5_manyOf, Cond.selects RX5 yX5_manyOf yX5_manyOf, Cond.code yX5_manyOf cX5_manyOf 5 (some .int), Cond.fieldLink RX5 13 "WordScalesModel" "kind" "[I", Cond.methodLink RX5 89 yX5_ones, Cond.static yX5_ones, Cond.code yX5_ones cX5_ones 3 (some .int), Cond.methodLink RX5 212 yX5_costOf, Cond.instanceMethod yX5_costOf]
def wsX5_cheap_r2 : List Cond := [Cond.selects RX5 yX5_costOf yX5_costOf, Cond.code yX5_costOf cX5_costOf 4 (some .int), Cond.fieldLink RX5 7 "WordScalesModel" "weight" "[I"]
def wsX5_cheap : List Cond := .code yX5_cheap cX5_cheap 8 (some .int) :: ((wsX5_cheap_r1 ++ wsX5_cheap_r2) ++ wsX50)
def wsX5_canSay : List Cond := .code yX5_canSay cX5_canSay 7 (some .boolean) :: ([.methodLink RX5 202 yX5_manyOf, .instanceMethod yX5_manyOf, .selects RX5 yX5_manyOf yX5_manyOf, .initialized RX5, .code yX5_manyOf cX5_manyOf 5 (some .int), .fieldLink RX5 13 "WordScalesModel" "kind" "[I"] ++ wsX50)
def wsX5_pool : List Cond := .code yX5_pool cX5_pool 7 (some .int) :: ([.constantLong RX5 198 (8), .fieldLink RX5 22 "WordScalesModel" "has" "[I", .methodLink RX5 71 yX5_in, .static yX5_in, .initialized RX5, .code yX5_in cX5_in 6 (some .boolean), .methodLink RX5 215 yX5_canSay, .instanceMethod yX5_canSay, .selects RX5 yX5_canSay yX5_canSay, .code yX5_canSay cX5_canSay 7 (some .boolean), .methodLink RX5 202 yX5_manyOf, .instanceMethod yX5_manyOf, .selects RX5 yX5_manyOf yX5_manyOf, .code yX5_manyOf cX5_manyOf 5 (some .int), .fieldLink RX5 13 "WordScalesModel" "kind" "[I", .methodLink RX5 89 yX5_ones, .static yX5_ones, .code yX5_ones cX5_ones 3 (some .int)] ++ wsX50)
def wsX5_wish : List Cond := .code yX5_wish cX5_wish 2 (some .int) :: ([.constantLong RX5 100 (4095), .fieldLink RX5 218 "WordScalesModel" "wishMany" "I", .fieldLink RX5 25 "WordScalesModel" "wishes" "[I", .methodLink RX5 71 yX5_in, .static yX5_in, .initialized RX5, .code yX5_in cX5_in 6 (some .boolean)] ++ wsX50)
def wsX5_unwish : List Cond := .code yX5_unwish cX5_unwish 2 (some .int) :: ([.fieldLink RX5 218 "WordScalesModel" "wishMany" "I"] ++ wsX50)
def wsX5_asksAll : List Cond := .code yX5_asksAll cX5_asksAll 4 (some .boolean) :: ([.fieldLink RX5 218 "WordScalesModel" "wishMany" "I", .fieldLink RX5 25 "WordScalesModel" "wishes" "[I"] ++ wsX50)
def wsX5_nine : List Cond := .code yX5_nine cX5_nine 5 (some .int) :: ([.methodLink RX5 71 yX5_in, .static yX5_in, .initialized RX5, .code yX5_in cX5_in 6 (some .boolean), .methodLink RX5 89 yX5_ones, .static yX5_ones, .code yX5_ones cX5_ones 3 (some .int), .methodLink RX5 221 yX5_asksAll, .instanceMethod yX5_asksAll, .selects RX5 yX5_asksAll yX5_asksAll, .code yX5_asksAll cX5_asksAll 4 (some .boolean), .fieldLink RX5 218 "WordScalesModel" "wishMany" "I", .fieldLink RX5 25 "WordScalesModel" "wishes" "[I"] ++ wsX50)
def wsX5_seen : List Cond := .code yX5_seen cX5_seen 5 (some .int) :: ([.constantLong RX5 100 (4095), .constantLong RX5 83 (2), .fieldLink RX5 224 "WordScalesModel" "sights" "I", .fieldLink RX5 28 "WordScalesModel" "sightLeft" "[I", .fieldLink RX5 31 "WordScalesModel" "sightRight" "[I", .fieldLink RX5 34 "WordScalesModel" "sightHow" "[I", .methodLink RX5 71 yX5_in, .static yX5_in, .initialized RX5, .code yX5_in cX5_in 6 (some .boolean), .methodLink RX5 89 yX5_ones, .static yX5_ones, .code yX5_ones cX5_ones 3 (some .int)] ++ wsX50)
def wsX5_forget : List Cond := .code yX5_forget cX5_forget 2 (some .int) :: ([.fieldLink RX5 224 "WordScalesModel" "sights" "I"] ++ wsX50)
def wsX5_hollow : List Cond := .code yX5_hollow cX5_hollow 4 (some .int) :: ([.fieldLink RX5 224 "WordScalesModel" "sights" "I", .fieldLink RX5 28 "WordScalesModel" "sightLeft" "[I", .fieldLink RX5 31 "WordScalesModel" "sightRight" "[I", .fieldLink RX5 34 "WordScalesModel" "sightHow" "[I"] ++ wsX50)
def wsX5_worse : List Cond := .code yX5_worse cX5_worse 2 (some .int) :: ([])
def wsX5_turnsFor : List Cond := .code yX5_turnsFor cX5_turnsFor 3 (some .int) :: ([])
def wsX5_lay : List Cond := .code yX5_lay cX5_lay 5 (some .int) :: ([.constantLong RX5 83 (2), .methodLink RX5 71 yX5_in, .static yX5_in, .initialized RX5, .code yX5_in cX5_in 6 (some .boolean), .methodLink RX5 227 yX5_hollow, .instanceMethod yX5_hollow, .selects RX5 yX5_hollow yX5_hollow, .code yX5_hollow cX5_hollow 4 (some .int), .fieldLink RX5 224 "WordScalesModel" "sights" "I", .fieldLink RX5 28 "WordScalesModel" "sightLeft" "[I", .fieldLink RX5 31 "WordScalesModel" "sightRight" "[I", .fieldLink RX5 34 "WordScalesModel" "sightHow" "[I", .methodLink RX5 89 yX5_ones, .static yX5_ones, .code yX5_ones cX5_ones 3 (some .int), .methodLink RX5 230 yX5_turnsFor, .static yX5_turnsFor, .code yX5_turnsFor cX5_turnsFor 3 (some .int), .methodLink RX5 233 yX5_worse, .static yX5_worse, .code yX5_worse cX5_worse 2 (some .int)] ++ wsX50)
def wsX5_lowest : List Cond := .code yX5_lowest cX5_lowest 11 (some .long) :: ([])
def wsX5_weather : List Cond := .code yX5_weather cX5_weather 13 (some .long) :: ([.constantLong RX5 236 (40), .constantLong RX5 198 (8), .constantLong RX5 238 (10), .constantLong RX5 240 (-1000000000000000002), .fieldLink RX5 55 "WordScalesModel" "brings" "[J", .fieldLink RX5 59 "WordScalesModel" "bringsThen" "[J", .methodLink RX5 71 yX5_in, .static yX5_in, .initialized RX5, .code yX5_in cX5_in 6 (some .boolean), .methodLink RX5 242 yX5_lowest, .static yX5_lowest, .code yX5_lowest cX5_lowest 11 (some .long)] ++ wsX50)
def wsX5_synonyms : List Cond := .code yX5_synonyms cX5_synonyms 7 (some .int) :: ([.constantLong RX5 236 (40), .constantLong RX5 246 (20), .constantLong RX5 196 (-1), .constantLong RX5 81 (99), .methodLink RX5 71 yX5_in, .static yX5_in, .initialized RX5, .code yX5_in cX5_in 6 (some .boolean)])
def wsX5_actBy : List Cond := .code yX5_actBy cX5_actBy 1 (some .int) :: ([])
def wsX5_year_r1 : List Cond := [Cond.constantLong RX5 248 (9999), Cond.constantLong RX5 81 (99), Cond.constantLong RX5 83 (2), Cond.constantLong RX5 250 (75), Cond.constantLong RX5 252 (74), Cond.constantLong RX5 254 (65537), Cond.fieldLink RX5 19 "WordScalesModel" "purse" "[I", Cond.fieldLink RX5 22 "WordScalesModel" "has" "[I", Cond.methodLink RX5 71 yX5_in, Cond.static yX5_in, Cond.initialized RX5, Cond.code yX5_in cX5_in 6 (some .boolean), Cond.methodLink RX5 181 yX5_keepNow, Cond.instanceMethod yX5_keepNow, Cond.selects RX5 yX5_keepNow yX5_keepNow, Cond.code yX5_keepNow cX5_keepNow 2 none, Cond.fieldLink RX5 52 "WordScalesModel" "had" "[I", Cond.fieldLink RX5 7 "WordScalesModel" "weight" "[I", Cond.methodLink RX5 164 yX5_beginCount, Cond.instanceMethod yX5_beginCount, Cond.selects RX5 yX5_beginCount yX5_beginCount, Cond.code yX5_beginCount cX5_beginCount 1 none, Cond.fieldLink RX5 157 "WordScalesModel" "ended" "I", Cond.fieldLink RX5 142 "WordScalesModel" "spoken" "I"]
def wsX5_year_r2 : List Cond := [Cond.fieldLink RX5 151 "WordScalesModel" "heaviest" "I", Cond.fieldLink RX5 154 "WordScalesModel" "heaviestWeight" "I", Cond.fieldLink RX5 135 "WordScalesModel" "place" "I", Cond.fieldLink RX5 145 "WordScalesModel" "openMany" "I", Cond.methodLink RX5 256 yX5_actBy, Cond.static yX5_actBy, Cond.code yX5_actBy cX5_actBy 1 (some .int), Cond.methodLink RX5 173 yX5_whyNot, Cond.instanceMethod yX5_whyNot, Cond.selects RX5 yX5_whyNot yX5_whyNot, Cond.code yX5_whyNot cX5_whyNot 5 (some .int), Cond.methodLink RX5 138 yX5_hasWord, Cond.instanceMethod yX5_hasWord, Cond.selects RX5 yX5_hasWord yX5_hasWord, Cond.code yX5_hasWord cX5_hasWord 3 (some .boolean), Cond.methodLink RX5 177 yX5_happen, Cond.instanceMethod yX5_happen, Cond.selects RX5 yX5_happen yX5_happen, Cond.code yX5_happen cX5_happen 5 none, Cond.methodLink RX5 160 yX5_speak, Cond.instanceMethod yX5_speak, Cond.selects RX5 yX5_speak yX5_speak, Cond.code yX5_speak cX5_speak 2 none, Cond.fieldLink RX5 13 "WordScalesModel" "kind" "[I"]
def wsX5_year_r3 : List Cond := [Cond.methodLink RX5 148 yX5_placeThen, Cond.instanceMethod yX5_placeThen, Cond.selects RX5 yX5_placeThen yX5_placeThen, Cond.code yX5_placeThen cX5_placeThen 2 (some .int), Cond.methodLink RX5 89 yX5_ones, Cond.static yX5_ones, Cond.code yX5_ones cX5_ones 3 (some .int), Cond.methodLink RX5 212 yX5_costOf, Cond.instanceMethod yX5_costOf, Cond.selects RX5 yX5_costOf yX5_costOf, Cond.code yX5_costOf cX5_costOf 4 (some .int), Cond.methodLink RX5 193 yX5_back, Cond.instanceMethod yX5_back, Cond.selects RX5 yX5_back yX5_back, Cond.code yX5_back cX5_back 3 (some .int)]
def wsX5_year : List Cond := .code yX5_year cX5_year 10 (some .int) :: ((wsX5_year_r1 ++ (wsX5_year_r2 ++ wsX5_year_r3)) ++ wsX50)
def wsX5_pass : List Cond := .code yX5_pass cX5_pass 3 (some .int) :: ([.fieldLink RX5 259 "WordScalesModel" "isWriting" "Z", .fieldLink RX5 62 "WordScalesModel" "kept" "[I", .fieldLink RX5 263 "WordScalesModel" "keptAt" "I"] ++ wsX50)
def wsX5_passRow : List Cond := .code yX5_passRow cX5_passRow 4 none :: ([.methodLink RX5 266 yX5_pass, .instanceMethod yX5_pass, .selects RX5 yX5_pass yX5_pass, .initialized RX5, .code yX5_pass cX5_pass 3 (some .int), .fieldLink RX5 259 "WordScalesModel" "isWriting" "Z", .fieldLink RX5 62 "WordScalesModel" "kept" "[I", .fieldLink RX5 263 "WordScalesModel" "keptAt" "I"] ++ wsX50)
def wsX5_passAll : List Cond := .code yX5_passAll cX5_passAll 1 none :: ([.fieldLink RX5 218 "WordScalesModel" "wishMany" "I", .fieldLink RX5 224 "WordScalesModel" "sights" "I", .fieldLink RX5 7 "WordScalesModel" "weight" "[I", .fieldLink RX5 13 "WordScalesModel" "kind" "[I", .fieldLink RX5 16 "WordScalesModel" "rhymes" "[I", .fieldLink RX5 19 "WordScalesModel" "purse" "[I", .fieldLink RX5 22 "WordScalesModel" "has" "[I", .fieldLink RX5 25 "WordScalesModel" "wishes" "[I", .fieldLink RX5 28 "WordScalesModel" "sightLeft" "[I", .fieldLink RX5 31 "WordScalesModel" "sightRight" "[I", .fieldLink RX5 34 "WordScalesModel" "sightHow" "[I", .methodLink RX5 266 yX5_pass, .instanceMethod yX5_pass, .selects RX5 yX5_pass yX5_pass, .initialized RX5, .code yX5_pass cX5_pass 3 (some .int), .fieldLink RX5 259 "WordScalesModel" "isWriting" "Z", .fieldLink RX5 62 "WordScalesModel" "kept" "[I", .fieldLink RX5 263 "WordScalesModel" "keptAt" "I", .methodLink RX5 269 yX5_passRow, .instanceMethod yX5_passRow, .selects RX5 yX5_passRow yX5_passRow, .code yX5_passRow cX5_passRow 4 none] ++ wsX50)
def wsX5_image_r1 : List Cond := [Cond.fieldLink RX5 263 "WordScalesModel" "keptAt" "I", Cond.fieldLink RX5 259 "WordScalesModel" "isWriting" "Z", Cond.fieldLink RX5 65 "WordScalesModel" "isKept" "[Z", Cond.methodLink RX5 71 yX5_in, Cond.static yX5_in, Cond.initialized RX5, Cond.code yX5_in cX5_in 6 (some .boolean), Cond.methodLink RX5 273 yX5_passAll, Cond.instanceMethod yX5_passAll, Cond.selects RX5 yX5_passAll yX5_passAll, Cond.code yX5_passAll cX5_passAll 1 none, Cond.fieldLink RX5 218 "WordScalesModel" "wishMany" "I", Cond.fieldLink RX5 224 "WordScalesModel" "sights" "I", Cond.fieldLink RX5 7 "WordScalesModel" "weight" "[I", Cond.fieldLink RX5 13 "WordScalesModel" "kind" "[I", Cond.fieldLink RX5 16 "WordScalesModel" "rhymes" "[I", Cond.fieldLink RX5 19 "WordScalesModel" "purse" "[I", Cond.fieldLink RX5 22 "WordScalesModel" "has" "[I", Cond.fieldLink RX5 25 "WordScalesModel" "wishes" "[I", Cond.fieldLink RX5 28 "WordScalesModel" "sightLeft" "[I", Cond.fieldLink RX5 31 "WordScalesModel" "sightRight" "[I", Cond.fieldLink RX5 34 "WordScalesModel" "sightHow" "[I", Cond.methodLink RX5 266 yX5_pass, Cond.instanceMethod yX5_pass]
def wsX5_image_r2 : List Cond := [Cond.selects RX5 yX5_pass yX5_pass, Cond.code yX5_pass cX5_pass 3 (some .int), Cond.fieldLink RX5 62 "WordScalesModel" "kept" "[I", Cond.methodLink RX5 269 yX5_passRow, Cond.instanceMethod yX5_passRow, Cond.selects RX5 yX5_passRow yX5_passRow, Cond.code yX5_passRow cX5_passRow 4 none]
def wsX5_image : List Cond := .code yX5_image cX5_image 2 (some .int) :: ((wsX5_image_r1 ++ wsX5_image_r2) ++ wsX50)
def wsX5_restore_r1 : List Cond := [Cond.fieldLink RX5 65 "WordScalesModel" "isKept" "[Z", Cond.fieldLink RX5 263 "WordScalesModel" "keptAt" "I", Cond.fieldLink RX5 259 "WordScalesModel" "isWriting" "Z", Cond.methodLink RX5 71 yX5_in, Cond.static yX5_in, Cond.initialized RX5, Cond.code yX5_in cX5_in 6 (some .boolean), Cond.methodLink RX5 273 yX5_passAll, Cond.instanceMethod yX5_passAll, Cond.selects RX5 yX5_passAll yX5_passAll, Cond.code yX5_passAll cX5_passAll 1 none, Cond.fieldLink RX5 218 "WordScalesModel" "wishMany" "I", Cond.fieldLink RX5 224 "WordScalesModel" "sights" "I", Cond.fieldLink RX5 7 "WordScalesModel" "weight" "[I", Cond.fieldLink RX5 13 "WordScalesModel" "kind" "[I", Cond.fieldLink RX5 16 "WordScalesModel" "rhymes" "[I", Cond.fieldLink RX5 19 "WordScalesModel" "purse" "[I", Cond.fieldLink RX5 22 "WordScalesModel" "has" "[I", Cond.fieldLink RX5 25 "WordScalesModel" "wishes" "[I", Cond.fieldLink RX5 28 "WordScalesModel" "sightLeft" "[I", Cond.fieldLink RX5 31 "WordScalesModel" "sightRight" "[I", Cond.fieldLink RX5 34 "WordScalesModel" "sightHow" "[I", Cond.methodLink RX5 266 yX5_pass, Cond.instanceMethod yX5_pass]
def wsX5_restore_r2 : List Cond := [Cond.selects RX5 yX5_pass yX5_pass, Cond.code yX5_pass cX5_pass 3 (some .int), Cond.fieldLink RX5 62 "WordScalesModel" "kept" "[I", Cond.methodLink RX5 269 yX5_passRow, Cond.instanceMethod yX5_passRow, Cond.selects RX5 yX5_passRow yX5_passRow, Cond.code yX5_passRow cX5_passRow 4 none]
def wsX5_restore : List Cond := .code yX5_restore cX5_restore 2 (some .int) :: ((wsX5_restore_r1 ++ wsX5_restore_r2) ++ wsX50)
def wsX5_toldOfWord : List Cond := .code yX5_toldOfWord cX5_toldOfWord 3 (some .int) :: ([.fieldLink RX5 7 "WordScalesModel" "weight" "[I", .fieldLink RX5 13 "WordScalesModel" "kind" "[I", .methodLink RX5 85 yX5_rhymesOf, .instanceMethod yX5_rhymesOf, .selects RX5 yX5_rhymesOf yX5_rhymesOf, .initialized RX5, .code yX5_rhymesOf cX5_rhymesOf 4 (some .int), .fieldLink RX5 16 "WordScalesModel" "rhymes" "[I"] ++ wsX50)
def wsX5_told_r1 : List Cond := [Cond.constantLong RX5 276 (100), Cond.constantLong RX5 278 (219), Cond.constantLong RX5 238 (10), Cond.constantLong RX5 283 (13), Cond.fieldLink RX5 19 "WordScalesModel" "purse" "[I", Cond.constantLong RX5 246 (20), Cond.constantLong RX5 285 (23), Cond.fieldLink RX5 22 "WordScalesModel" "has" "[I", Cond.fieldLink RX5 106 "WordScalesModel" "padMany" "I", Cond.fieldLink RX5 218 "WordScalesModel" "wishMany" "I", Cond.fieldLink RX5 224 "WordScalesModel" "sights" "I", Cond.methodLink RX5 71 yX5_in, Cond.static yX5_in, Cond.initialized RX5, Cond.code yX5_in cX5_in 6 (some .boolean), Cond.methodLink RX5 280 yX5_toldOfWord, Cond.instanceMethod yX5_toldOfWord, Cond.selects RX5 yX5_toldOfWord yX5_toldOfWord, Cond.code yX5_toldOfWord cX5_toldOfWord 3 (some .int), Cond.fieldLink RX5 7 "WordScalesModel" "weight" "[I", Cond.fieldLink RX5 13 "WordScalesModel" "kind" "[I", Cond.methodLink RX5 85 yX5_rhymesOf, Cond.instanceMethod yX5_rhymesOf, Cond.selects RX5 yX5_rhymesOf yX5_rhymesOf]
def wsX5_told_r2 : List Cond := [Cond.code yX5_rhymesOf cX5_rhymesOf 4 (some .int), Cond.fieldLink RX5 16 "WordScalesModel" "rhymes" "[I"]
def wsX5_told : List Cond := .code yX5_told cX5_told 2 (some .int) :: ((wsX5_told_r1 ++ wsX5_told_r2) ++ wsX50)
def wsJ9_max_7cf53 : List Cond := .code yJ9_max_7cf53 cJ9_max_7cf53 2 (some .int) :: ([])
def wsJ9_max_f86c9 : List Cond := .code yJ9_max_f86c9 cJ9_max_f86c9 4 (some .long) :: ([])
theorem dX0_init_0 : decode cX0_init 0 = .ok (.aload_n 0, 1) := by decide +kernel
theorem dX0_init_1 : decode cX0_init 1 = .ok (.invokespecial 3, 3) := by decide +kernel
theorem dX0_init_4 : decode cX0_init 4 = .ok (.aload_n 0, 1) := by decide +kernel
end
section
theorem dX0_init_5 : decode cX0_init 5 = .ok (.iconst 0, 1) := by decide +kernel
theorem dX0_init_6 : decode cX0_init 6 = .ok (.putfield 11, 3) := by decide +kernel
theorem dX0_init_9 : decode cX0_init 9 = .ok (.aload_n 0, 1) := by decide +kernel
theorem dX0_init_10 : decode cX0_init 10 = .ok (.iconst 2, 1) := by decide +kernel
theorem dX0_init_11 : decode cX0_init 11 = .ok (.putfield 15, 3) := by decide +kernel
theorem dX0_init_14 : decode cX0_init 14 = .ok (.aload_n 0, 1) := by decide +kernel
theorem dX0_init_15 : decode cX0_init 15 = .ok (.iconst 0, 1) := by decide +kernel
theorem dX0_init_16 : decode cX0_init 16 = .ok (.putfield 18, 3) := by decide +kernel
theorem dX0_init_19 : decode cX0_init 19 = .ok (.aload_n 0, 1) := by decide +kernel
theorem dX0_init_20 : decode cX0_init 20 = .ok (.iconst 0, 1) := by decide +kernel
theorem dX0_init_21 : decode cX0_init 21 = .ok (.putfield 21, 3) := by decide +kernel
theorem dX0_init_24 : decode cX0_init 24 = .ok (.aload_n 0, 1) := by decide +kernel
theorem dX0_init_25 : decode cX0_init 25 = .ok (.iconst 0, 1) := by decide +kernel
theorem dX0_init_26 : decode cX0_init 26 = .ok (.putfield 24, 3) := by decide +kernel
theorem dX0_init_29 : decode cX0_init 29 = .ok (.return_, 1) := by decide +kernel
theorem dX0_begin_0 : decode cX0_begin 0 = .ok (.aload_n 0, 1) := by decide +kernel
theorem dX0_begin_1 : decode cX0_begin 1 = .ok (.iconst 0, 1) := by decide +kernel
theorem dX0_begin_2 : decode cX0_begin 2 = .ok (.putfield 11, 3) := by decide +kernel
theorem dX0_begin_5 : decode cX0_begin 5 = .ok (.return_, 1) := by decide +kernel
theorem dX0_isBetweenActs_0 : decode cX0_isBetweenActs 0 = .ok (.aload_n 0, 1) := by decide +kernel
theorem dX0_isBetweenActs_1 : decode cX0_isBetweenActs 1 = .ok (.getfield 11, 3) := by decide +kernel
theorem dX0_isBetweenActs_4 : decode cX0_isBetweenActs 4 = .ok (.ifCond .ne 7, 3) := by decide +kernel
theorem dX0_isBetweenActs_7 : decode cX0_isBetweenActs 7 = .ok (.iconst 1, 1) := by decide +kernel
theorem dX0_isBetweenActs_8 : decode cX0_isBetweenActs 8 = .ok (.goto 4, 3) := by decide +kernel
theorem dX0_isBetweenActs_11 : decode cX0_isBetweenActs 11 = .ok (.iconst 0, 1) := by decide +kernel
theorem dX0_isBetweenActs_12 : decode cX0_isBetweenActs 12 = .ok (.ireturn, 1) := by decide +kernel
set_option maxRecDepth 20000 in
theorem ggX0_take_X0_takeDot : GoodIn wsX0_take wsX0_takeDot := goodIn_r _ [6, 7, 35, 36, 37, 38, 39] (by decide +kernel) (by decide +kernel)
set_option maxRecDepth 20000 in
theorem gX0_take_X0_takeDot : GoodIn wsX0_take (wsV RX0 27 RX0 yX0_takeDot wsX0_takeDot) := goodIn_app (goodIn_of _ (by decide +kernel)) ggX0_take_X0_takeDot
set_option maxRecDepth 20000 in
theorem ggX0_take_X0_takeSpeaker : GoodIn wsX0_take wsX0_takeSpeaker := goodIn_r _ [11, 12, 7, 1, 13, 14, 15, 16, 17, 18, 35, 36, 37, 38, 39] (by decide +kernel) (by decide +kernel)
set_option maxRecDepth 20000 in
theorem gX0_take_X0_takeSpeaker : GoodIn wsX0_take (wsV RX0 31 RX0 yX0_takeSpeaker wsX0_takeSpeaker) := goodIn_app (goodIn_of _ (by decide +kernel)) ggX0_take_X0_takeSpeaker
set_option maxRecDepth 20000 in
theorem ggX0_take_X0_takeMark : GoodIn wsX0_take wsX0_takeMark := goodIn_r _ [22, 7, 1, 35, 36, 37, 38, 39] (by decide +kernel) (by decide +kernel)
set_option maxRecDepth 20000 in
theorem gX0_take_X0_takeMark : GoodIn wsX0_take (wsV RX0 34 RX0 yX0_takeMark wsX0_takeMark) := goodIn_app (goodIn_of _ (by decide +kernel)) ggX0_take_X0_takeMark
set_option maxRecDepth 20000 in
theorem ggX0_take_X0_takeWord : GoodIn wsX0_take wsX0_takeWord := goodIn_r _ [26, 27, 1, 28, 14, 29, 16, 17, 18, 35, 36, 37, 38, 39] (by decide +kernel) (by decide +kernel)
set_option maxRecDepth 20000 in
theorem gX0_take_X0_takeWord : GoodIn wsX0_take (wsV RX0 37 RX0 yX0_takeWord wsX0_takeWord) := goodIn_app (goodIn_of _ (by decide +kernel)) ggX0_take_X0_takeWord
set_option maxRecDepth 20000 in
theorem ggX0_take_X0_takeOther : GoodIn wsX0_take wsX0_takeOther := goodIn_r _ [33, 34, 1, 13, 14, 15, 16, 17, 18, 35, 36, 37, 38, 39] (by decide +kernel) (by decide +kernel)
set_option maxRecDepth 20000 in
theorem gX0_take_X0_takeOther : GoodIn wsX0_take (wsV RX0 40 RX0 yX0_takeOther wsX0_takeOther) := goodIn_app (goodIn_of _ (by decide +kernel)) ggX0_take_X0_takeOther
theorem dX0_take_0 : decode cX0_take 0 = .ok (.aload_n 0, 1) := by decide +kernel
theorem dX0_take_1 : decode cX0_take 1 = .ok (.getfield 11, 3) := by decide +kernel
theorem dX0_take_4 : decode cX0_take 4 = .ok (.tableswitch 78 0 2 #[28, 50, 72], 28) := by decide +kernel
theorem dX0_take_32 : decode cX0_take 32 = .ok (.aload_n 0, 1) := by decide +kernel
theorem dX0_take_33 : decode cX0_take 33 = .ok (.iload_n 1, 1) := by decide +kernel
theorem dX0_take_34 : decode cX0_take 34 = .ok (.invokevirtual 27, 3) := by decide +kernel
theorem dX0_take_37 : decode cX0_take 37 = .ok (.ifCond .ne 11, 3) := by decide +kernel
theorem dX0_take_40 : decode cX0_take 40 = .ok (.aload_n 0, 1) := by decide +kernel
theorem dX0_take_41 : decode cX0_take 41 = .ok (.iload_n 1, 1) := by decide +kernel
theorem dX0_take_42 : decode cX0_take 42 = .ok (.invokevirtual 31, 3) := by decide +kernel
theorem dX0_take_45 : decode cX0_take 45 = .ok (.ifCond .eq 7, 3) := by decide +kernel
theorem dX0_take_48 : decode cX0_take 48 = .ok (.iconst 1, 1) := by decide +kernel
theorem dX0_take_49 : decode cX0_take 49 = .ok (.goto 4, 3) := by decide +kernel
theorem dX0_take_52 : decode cX0_take 52 = .ok (.iconst 0, 1) := by decide +kernel
theorem dX0_take_53 : decode cX0_take 53 = .ok (.ireturn, 1) := by decide +kernel
theorem dX0_take_54 : decode cX0_take 54 = .ok (.aload_n 0, 1) := by decide +kernel
theorem dX0_take_55 : decode cX0_take 55 = .ok (.iload_n 1, 1) := by decide +kernel
theorem dX0_take_56 : decode cX0_take 56 = .ok (.invokevirtual 34, 3) := by decide +kernel
theorem dX0_take_59 : decode cX0_take 59 = .ok (.ifCond .ne 11, 3) := by decide +kernel
theorem dX0_take_62 : decode cX0_take 62 = .ok (.aload_n 0, 1) := by decide +kernel
theorem dX0_take_63 : decode cX0_take 63 = .ok (.iload_n 1, 1) := by decide +kernel
theorem dX0_take_64 : decode cX0_take 64 = .ok (.invokevirtual 37, 3) := by decide +kernel
theorem dX0_take_67 : decode cX0_take 67 = .ok (.ifCond .eq 7, 3) := by decide +kernel
theorem dX0_take_70 : decode cX0_take 70 = .ok (.iconst 1, 1) := by decide +kernel
theorem dX0_take_71 : decode cX0_take 71 = .ok (.goto 4, 3) := by decide +kernel
theorem dX0_take_74 : decode cX0_take 74 = .ok (.iconst 0, 1) := by decide +kernel
theorem dX0_take_75 : decode cX0_take 75 = .ok (.ireturn, 1) := by decide +kernel
theorem dX0_take_76 : decode cX0_take 76 = .ok (.aload_n 0, 1) := by decide +kernel
theorem dX0_take_77 : decode cX0_take 77 = .ok (.iload_n 1, 1) := by decide +kernel
theorem dX0_take_78 : decode cX0_take 78 = .ok (.invokevirtual 40, 3) := by decide +kernel
theorem dX0_take_81 : decode cX0_take 81 = .ok (.ireturn, 1) := by decide +kernel
theorem dX0_take_82 : decode cX0_take 82 = .ok (.aload_n 0, 1) := by decide +kernel
theorem dX0_take_83 : decode cX0_take 83 = .ok (.iload_n 1, 1) := by decide +kernel
theorem dX0_take_84 : decode cX0_take 84 = .ok (.invokevirtual 37, 3) := by decide +kernel
theorem dX0_take_87 : decode cX0_take 87 = .ok (.ireturn, 1) := by decide +kernel
theorem dX0_takeDot_0 : decode cX0_takeDot 0 = .ok (.iload_n 1, 1) := by decide +kernel
theorem dX0_takeDot_1 : decode cX0_takeDot 1 = .ok (.bipush 46, 2) := by decide +kernel
theorem dX0_takeDot_3 : decode cX0_takeDot 3 = .ok (.if_icmp .eq 5, 3) := by decide +kernel
theorem dX0_takeDot_6 : decode cX0_takeDot 6 = .ok (.iconst 0, 1) := by decide +kernel
theorem dX0_takeDot_7 : decode cX0_takeDot 7 = .ok (.ireturn, 1) := by decide +kernel
theorem dX0_takeDot_8 : decode cX0_takeDot 8 = .ok (.aload_n 0, 1) := by decide +kernel
theorem dX0_takeDot_9 : decode cX0_takeDot 9 = .ok (.iconst 4, 1) := by decide +kernel
theorem dX0_takeDot_10 : decode cX0_takeDot 10 = .ok (.putfield 15, 3) := by decide +kernel
theorem dX0_takeDot_13 : decode cX0_takeDot 13 = .ok (.iconst 1, 1) := by decide +kernel
theorem dX0_takeDot_14 : decode cX0_takeDot 14 = .ok (.ireturn, 1) := by decide +kernel
set_option maxRecDepth 20000 in
theorem ggX0_takeSpeaker_X4_isSpeaker : GoodIn wsX0_takeSpeaker wsX4_isSpeaker := goodIn_r _ [6, 7, 8, 5, 9] (by decide +kernel) (by decide +kernel)
set_option maxRecDepth 20000 in
theorem gX0_takeSpeaker_X4_isSpeaker_n43 : GoodIn wsX0_takeSpeaker (wsX4_isSpeaker) := ggX0_takeSpeaker_X4_isSpeaker
theorem dX0_takeSpeaker_0 : decode cX0_takeSpeaker 0 = .ok (.iload_n 1, 1) := by decide +kernel
theorem dX0_takeSpeaker_1 : decode cX0_takeSpeaker 1 = .ok (.bipush 65, 2) := by decide +kernel
theorem dX0_takeSpeaker_3 : decode cX0_takeSpeaker 3 = .ok (.isub, 1) := by decide +kernel
theorem dX0_takeSpeaker_4 : decode cX0_takeSpeaker 4 = .ok (.invokestatic 43, 3) := by decide +kernel
theorem dX0_takeSpeaker_7 : decode cX0_takeSpeaker 7 = .ok (.ifCond .ne 5, 3) := by decide +kernel
theorem dX0_takeSpeaker_10 : decode cX0_takeSpeaker 10 = .ok (.iconst 0, 1) := by decide +kernel
theorem dX0_takeSpeaker_11 : decode cX0_takeSpeaker 11 = .ok (.ireturn, 1) := by decide +kernel
theorem dX0_takeSpeaker_12 : decode cX0_takeSpeaker 12 = .ok (.aload_n 0, 1) := by decide +kernel
theorem dX0_takeSpeaker_13 : decode cX0_takeSpeaker 13 = .ok (.iload_n 1, 1) := by decide +kernel
theorem dX0_takeSpeaker_14 : decode cX0_takeSpeaker 14 = .ok (.bipush 65, 2) := by decide +kernel
theorem dX0_takeSpeaker_16 : decode cX0_takeSpeaker 16 = .ok (.isub, 1) := by decide +kernel
theorem dX0_takeSpeaker_17 : decode cX0_takeSpeaker 17 = .ok (.putfield 18, 3) := by decide +kernel
theorem dX0_takeSpeaker_20 : decode cX0_takeSpeaker 20 = .ok (.aload_n 0, 1) := by decide +kernel
theorem dX0_takeSpeaker_21 : decode cX0_takeSpeaker 21 = .ok (.iconst 2, 1) := by decide +kernel
theorem dX0_takeSpeaker_22 : decode cX0_takeSpeaker 22 = .ok (.putfield 15, 3) := by decide +kernel
theorem dX0_takeSpeaker_25 : decode cX0_takeSpeaker 25 = .ok (.aload_n 0, 1) := by decide +kernel
theorem dX0_takeSpeaker_26 : decode cX0_takeSpeaker 26 = .ok (.iconst 1, 1) := by decide +kernel
theorem dX0_takeSpeaker_27 : decode cX0_takeSpeaker 27 = .ok (.putfield 11, 3) := by decide +kernel
theorem dX0_takeSpeaker_30 : decode cX0_takeSpeaker 30 = .ok (.iconst 1, 1) := by decide +kernel
theorem dX0_takeSpeaker_31 : decode cX0_takeSpeaker 31 = .ok (.ireturn, 1) := by decide +kernel
theorem dX0_takeMark_0 : decode cX0_takeMark 0 = .ok (.iload_n 1, 1) := by decide +kernel
theorem dX0_takeMark_1 : decode cX0_takeMark 1 = .ok (.lookupswitch 71 #[(43, 35), (45, 47), (62, 59)], 35) := by decide +kernel
theorem dX0_takeMark_36 : decode cX0_takeMark 36 = .ok (.aload_n 0, 1) := by decide +kernel
theorem dX0_takeMark_37 : decode cX0_takeMark 37 = .ok (.iconst 0, 1) := by decide +kernel
theorem dX0_takeMark_38 : decode cX0_takeMark 38 = .ok (.putfield 15, 3) := by decide +kernel
theorem dX0_takeMark_41 : decode cX0_takeMark 41 = .ok (.aload_n 0, 1) := by decide +kernel
theorem dX0_takeMark_42 : decode cX0_takeMark 42 = .ok (.iconst 3, 1) := by decide +kernel
theorem dX0_takeMark_43 : decode cX0_takeMark 43 = .ok (.putfield 11, 3) := by decide +kernel
theorem dX0_takeMark_46 : decode cX0_takeMark 46 = .ok (.iconst 1, 1) := by decide +kernel
theorem dX0_takeMark_47 : decode cX0_takeMark 47 = .ok (.ireturn, 1) := by decide +kernel
theorem dX0_takeMark_48 : decode cX0_takeMark 48 = .ok (.aload_n 0, 1) := by decide +kernel
theorem dX0_takeMark_49 : decode cX0_takeMark 49 = .ok (.iconst 1, 1) := by decide +kernel
theorem dX0_takeMark_50 : decode cX0_takeMark 50 = .ok (.putfield 15, 3) := by decide +kernel
theorem dX0_takeMark_53 : decode cX0_takeMark 53 = .ok (.aload_n 0, 1) := by decide +kernel
theorem dX0_takeMark_54 : decode cX0_takeMark 54 = .ok (.iconst 3, 1) := by decide +kernel
theorem dX0_takeMark_55 : decode cX0_takeMark 55 = .ok (.putfield 11, 3) := by decide +kernel
theorem dX0_takeMark_58 : decode cX0_takeMark 58 = .ok (.iconst 1, 1) := by decide +kernel
theorem dX0_takeMark_59 : decode cX0_takeMark 59 = .ok (.ireturn, 1) := by decide +kernel
theorem dX0_takeMark_60 : decode cX0_takeMark 60 = .ok (.aload_n 0, 1) := by decide +kernel
theorem dX0_takeMark_61 : decode cX0_takeMark 61 = .ok (.iconst 3, 1) := by decide +kernel
theorem dX0_takeMark_62 : decode cX0_takeMark 62 = .ok (.putfield 15, 3) := by decide +kernel
theorem dX0_takeMark_65 : decode cX0_takeMark 65 = .ok (.aload_n 0, 1) := by decide +kernel
theorem dX0_takeMark_66 : decode cX0_takeMark 66 = .ok (.iconst 2, 1) := by decide +kernel
theorem dX0_takeMark_67 : decode cX0_takeMark 67 = .ok (.putfield 11, 3) := by decide +kernel
theorem dX0_takeMark_70 : decode cX0_takeMark 70 = .ok (.iconst 1, 1) := by decide +kernel
theorem dX0_takeMark_71 : decode cX0_takeMark 71 = .ok (.ireturn, 1) := by decide +kernel
theorem dX0_takeMark_72 : decode cX0_takeMark 72 = .ok (.iconst 0, 1) := by decide +kernel
theorem dX0_takeMark_73 : decode cX0_takeMark 73 = .ok (.ireturn, 1) := by decide +kernel
set_option maxRecDepth 20000 in
theorem ggX0_takeOther_X4_isSpeaker : GoodIn wsX0_takeOther wsX4_isSpeaker := goodIn_r _ [5, 6, 7, 4, 8] (by decide +kernel) (by decide +kernel)
set_option maxRecDepth 20000 in
theorem gX0_takeOther_X4_isSpeaker_n43 : GoodIn wsX0_takeOther (wsX4_isSpeaker) := ggX0_takeOther_X4_isSpeaker
theorem dX0_takeOther_0 : decode cX0_takeOther 0 = .ok (.iload_n 1, 1) := by decide +kernel
theorem dX0_takeOther_1 : decode cX0_takeOther 1 = .ok (.bipush 65, 2) := by decide +kernel
theorem dX0_takeOther_3 : decode cX0_takeOther 3 = .ok (.isub, 1) := by decide +kernel
theorem dX0_takeOther_4 : decode cX0_takeOther 4 = .ok (.invokestatic 43, 3) := by decide +kernel
theorem dX0_takeOther_7 : decode cX0_takeOther 7 = .ok (.ifCond .ne 5, 3) := by decide +kernel
theorem dX0_takeOther_10 : decode cX0_takeOther 10 = .ok (.iconst 0, 1) := by decide +kernel
theorem dX0_takeOther_11 : decode cX0_takeOther 11 = .ok (.ireturn, 1) := by decide +kernel
theorem dX0_takeOther_12 : decode cX0_takeOther 12 = .ok (.aload_n 0, 1) := by decide +kernel
theorem dX0_takeOther_13 : decode cX0_takeOther 13 = .ok (.iload_n 1, 1) := by decide +kernel
theorem dX0_takeOther_14 : decode cX0_takeOther 14 = .ok (.bipush 65, 2) := by decide +kernel
theorem dX0_takeOther_16 : decode cX0_takeOther 16 = .ok (.isub, 1) := by decide +kernel
theorem dX0_takeOther_17 : decode cX0_takeOther 17 = .ok (.putfield 24, 3) := by decide +kernel
theorem dX0_takeOther_20 : decode cX0_takeOther 20 = .ok (.aload_n 0, 1) := by decide +kernel
theorem dX0_takeOther_21 : decode cX0_takeOther 21 = .ok (.iconst 3, 1) := by decide +kernel
theorem dX0_takeOther_22 : decode cX0_takeOther 22 = .ok (.putfield 11, 3) := by decide +kernel
theorem dX0_takeOther_25 : decode cX0_takeOther 25 = .ok (.iconst 1, 1) := by decide +kernel
theorem dX0_takeOther_26 : decode cX0_takeOther 26 = .ok (.ireturn, 1) := by decide +kernel
set_option maxRecDepth 20000 in
theorem ggX0_takeWord_X4_isWord : GoodIn wsX0_takeWord wsX4_isWord := goodIn_r _ [5, 6, 7, 4, 8] (by decide +kernel) (by decide +kernel)
set_option maxRecDepth 20000 in
theorem gX0_takeWord_X4_isWord_n46 : GoodIn wsX0_takeWord (wsX4_isWord) := ggX0_takeWord_X4_isWord
theorem dX0_takeWord_0 : decode cX0_takeWord 0 = .ok (.iload_n 1, 1) := by decide +kernel
theorem dX0_takeWord_1 : decode cX0_takeWord 1 = .ok (.bipush 97, 2) := by decide +kernel
theorem dX0_takeWord_3 : decode cX0_takeWord 3 = .ok (.isub, 1) := by decide +kernel
theorem dX0_takeWord_4 : decode cX0_takeWord 4 = .ok (.invokestatic 46, 3) := by decide +kernel
theorem dX0_takeWord_7 : decode cX0_takeWord 7 = .ok (.ifCond .ne 5, 3) := by decide +kernel
theorem dX0_takeWord_10 : decode cX0_takeWord 10 = .ok (.iconst 0, 1) := by decide +kernel
theorem dX0_takeWord_11 : decode cX0_takeWord 11 = .ok (.ireturn, 1) := by decide +kernel
theorem dX0_takeWord_12 : decode cX0_takeWord 12 = .ok (.aload_n 0, 1) := by decide +kernel
theorem dX0_takeWord_13 : decode cX0_takeWord 13 = .ok (.iload_n 1, 1) := by decide +kernel
theorem dX0_takeWord_14 : decode cX0_takeWord 14 = .ok (.bipush 97, 2) := by decide +kernel
theorem dX0_takeWord_16 : decode cX0_takeWord 16 = .ok (.isub, 1) := by decide +kernel
theorem dX0_takeWord_17 : decode cX0_takeWord 17 = .ok (.putfield 21, 3) := by decide +kernel
theorem dX0_takeWord_20 : decode cX0_takeWord 20 = .ok (.aload_n 0, 1) := by decide +kernel
theorem dX0_takeWord_21 : decode cX0_takeWord 21 = .ok (.iconst 0, 1) := by decide +kernel
theorem dX0_takeWord_22 : decode cX0_takeWord 22 = .ok (.putfield 11, 3) := by decide +kernel
theorem dX0_takeWord_25 : decode cX0_takeWord 25 = .ok (.iconst 1, 1) := by decide +kernel
theorem dX0_takeWord_26 : decode cX0_takeWord 26 = .ok (.ireturn, 1) := by decide +kernel
set_option maxRecDepth 20000 in
theorem ggX1_init_X3_init : GoodIn wsX1_init wsX3_init := goodIn_r _ [25, 26, 2, 3, 27, 28, 29, 30, 31, 32, 33, 34, 35, 36, 37, 38, 52, 53, 54, 55, 56, 57, 58, 59, 60, 61, 62] (by decide +kernel) (by decide +kernel)
set_option maxRecDepth 20000 in
theorem gX1_init_X3_init_n11 : GoodIn wsX1_init (wsX3_init) := ggX1_init_X3_init
set_option maxRecDepth 20000 in
theorem ggX1_init_X0_init : GoodIn wsX1_init wsX0_init := goodIn_r _ [40, 41, 2, 3, 42, 43, 44, 45, 46, 74, 75, 76, 77, 78] (by decide +kernel) (by decide +kernel)
set_option maxRecDepth 20000 in
theorem gX1_init_X0_init_n20 : GoodIn wsX1_init (wsX0_init) := ggX1_init_X0_init
set_option maxRecDepth 20000 in
theorem ggX1_init_X2_init : GoodIn wsX1_init wsX2_init := goodIn_r _ [48, 49, 2, 3, 50, 51, 79, 80] (by decide +kernel) (by decide +kernel)
set_option maxRecDepth 20000 in
theorem gX1_init_X2_init_n27 : GoodIn wsX1_init (wsX2_init) := ggX1_init_X2_init
theorem dX1_init_0 : decode cX1_init 0 = .ok (.aload_n 0, 1) := by decide +kernel
theorem dX1_init_1 : decode cX1_init 1 = .ok (.invokespecial 3, 3) := by decide +kernel
theorem dX1_init_4 : decode cX1_init 4 = .ok (.aload_n 0, 1) := by decide +kernel
theorem dX1_init_5 : decode cX1_init 5 = .ok (.new 9, 3) := by decide +kernel
theorem dX1_init_8 : decode cX1_init 8 = .ok (.dup, 1) := by decide +kernel
theorem dX1_init_9 : decode cX1_init 9 = .ok (.invokespecial 11, 3) := by decide +kernel
theorem dX1_init_12 : decode cX1_init 12 = .ok (.putfield 12, 3) := by decide +kernel
theorem dX1_init_15 : decode cX1_init 15 = .ok (.aload_n 0, 1) := by decide +kernel
theorem dX1_init_16 : decode cX1_init 16 = .ok (.new 18, 3) := by decide +kernel
theorem dX1_init_19 : decode cX1_init 19 = .ok (.dup, 1) := by decide +kernel
theorem dX1_init_20 : decode cX1_init 20 = .ok (.invokespecial 20, 3) := by decide +kernel
theorem dX1_init_23 : decode cX1_init 23 = .ok (.putfield 21, 3) := by decide +kernel
theorem dX1_init_26 : decode cX1_init 26 = .ok (.aload_n 0, 1) := by decide +kernel
theorem dX1_init_27 : decode cX1_init 27 = .ok (.new 25, 3) := by decide +kernel
theorem dX1_init_30 : decode cX1_init 30 = .ok (.dup, 1) := by decide +kernel
theorem dX1_init_31 : decode cX1_init 31 = .ok (.invokespecial 27, 3) := by decide +kernel
theorem dX1_init_34 : decode cX1_init 34 = .ok (.putfield 28, 3) := by decide +kernel
theorem dX1_init_37 : decode cX1_init 37 = .ok (.aload_n 0, 1) := by decide +kernel
theorem dX1_init_38 : decode cX1_init 38 = .ok (.iconst 0, 1) := by decide +kernel
theorem dX1_init_39 : decode cX1_init 39 = .ok (.putfield 32, 3) := by decide +kernel
theorem dX1_init_42 : decode cX1_init 42 = .ok (.aload_n 0, 1) := by decide +kernel
theorem dX1_init_43 : decode cX1_init 43 = .ok (.iconst 0, 1) := by decide +kernel
theorem dX1_init_44 : decode cX1_init 44 = .ok (.putfield 36, 3) := by decide +kernel
theorem dX1_init_47 : decode cX1_init 47 = .ok (.aload_n 0, 1) := by decide +kernel
theorem dX1_init_48 : decode cX1_init 48 = .ok (.iconst 0, 1) := by decide +kernel
theorem dX1_init_49 : decode cX1_init 49 = .ok (.putfield 39, 3) := by decide +kernel
theorem dX1_init_52 : decode cX1_init 52 = .ok (.aload_n 0, 1) := by decide +kernel
theorem dX1_init_53 : decode cX1_init 53 = .ok (.iconst 0, 1) := by decide +kernel
theorem dX1_init_54 : decode cX1_init 54 = .ok (.putfield 42, 3) := by decide +kernel
theorem dX1_init_57 : decode cX1_init 57 = .ok (.aload_n 0, 1) := by decide +kernel
theorem dX1_init_58 : decode cX1_init 58 = .ok (.iconst 0, 1) := by decide +kernel
theorem dX1_init_59 : decode cX1_init 59 = .ok (.putfield 45, 3) := by decide +kernel
theorem dX1_init_62 : decode cX1_init 62 = .ok (.aload_n 0, 1) := by decide +kernel
theorem dX1_init_63 : decode cX1_init 63 = .ok (.iconst 0, 1) := by decide +kernel
theorem dX1_init_64 : decode cX1_init 64 = .ok (.putfield 48, 3) := by decide +kernel
theorem dX1_init_67 : decode cX1_init 67 = .ok (.aload_n 0, 1) := by decide +kernel
theorem dX1_init_68 : decode cX1_init 68 = .ok (.bipush (-6), 2) := by decide +kernel
theorem dX1_init_70 : decode cX1_init 70 = .ok (.putfield 51, 3) := by decide +kernel
theorem dX1_init_73 : decode cX1_init 73 = .ok (.aload_n 0, 1) := by decide +kernel
theorem dX1_init_74 : decode cX1_init 74 = .ok (.iconst (-1), 1) := by decide +kernel
theorem dX1_init_75 : decode cX1_init 75 = .ok (.putfield 54, 3) := by decide +kernel
theorem dX1_init_78 : decode cX1_init 78 = .ok (.return_, 1) := by decide +kernel
set_option maxRecDepth 20000 in
theorem ggX1_readAll_X1_begin : GoodIn wsX1_readAll wsX1_begin := goodIn_r _ [8, 9, 1, 10, 11, 3, 12, 13, 14, 15, 16, 17, 18, 19, 20, 21, 22, 23, 24, 25, 26, 27, 28, 29, 30, 31, 32, 33, 34, 35, 36, 37, 38, 39, 40, 41, 42, 43, 44, 134, 135, 136, 137, 138, 139, 140, 141, 142, 143, 144, 145, 146, 147, 148, 149, 150, 151, 152, 153, 154, 155, 156, 157, 158, 159, 160, 161, 162] (by decide +kernel) (by decide +kernel)
set_option maxRecDepth 20000 in
theorem gX1_readAll_X1_begin : GoodIn wsX1_readAll (wsV RX1 57 RX1 yX1_begin wsX1_begin) := goodIn_app (goodIn_of _ (by decide +kernel)) ggX1_readAll_X1_begin
set_option maxRecDepth 20000 in
theorem ggX1_readAll_X0_take : GoodIn wsX1_readAll wsX0_take := goodIn_r _ [47, 38, 48, 49, 50, 35, 51, 52, 53, 54, 55, 56, 57, 58, 32, 59, 60, 61, 62, 63, 64, 65, 66, 67, 68, 69, 70, 71, 72, 73, 74, 75, 76, 77, 78, 156, 157, 158, 159, 160] (by decide +kernel) (by decide +kernel)
set_option maxRecDepth 20000 in
theorem gX1_readAll_X0_take_n61 : GoodIn wsX1_readAll (wsX0_take) := ggX1_readAll_X0_take
set_option maxRecDepth 20000 in
theorem ggX1_readAll_X0_isBetweenActs : GoodIn wsX1_readAll wsX0_isBetweenActs := goodIn_r _ [81, 38, 156, 157, 158, 159, 160] (by decide +kernel) (by decide +kernel)
set_option maxRecDepth 20000 in
theorem gX1_readAll_X0_isBetweenActs_n65 : GoodIn wsX1_readAll (wsX0_isBetweenActs) := ggX1_readAll_X0_isBetweenActs
set_option maxRecDepth 20000 in
theorem ggX1_readAll_X1_doAct : GoodIn wsX1_readAll wsX1_doAct := goodIn_r _ [85, 3, 1, 11, 86, 87, 88, 89, 7, 90, 10, 12, 91, 40, 92, 93, 43, 39, 41, 42, 44, 94, 95, 96, 97, 9, 72, 32, 73, 60, 61, 62, 98, 17, 99, 100, 58, 59, 101, 102, 103, 104, 24, 23, 20, 105, 106, 107, 108, 109, 110, 111, 112, 113, 114, 115, 116, 117, 118, 119, 120, 121, 122, 123, 124, 125, 126, 15, 14, 13, 127, 128, 129, 130, 131, 132, 133, 134, 135, 136, 137, 138, 139, 140, 141, 142, 143, 144, 156, 157, 158, 159, 160, 161, 162, 145, 146, 147, 148, 149, 150, 151, 152, 153, 154, 155] (by decide +kernel) (by decide +kernel)
set_option maxRecDepth 20000 in
theorem gX1_readAll_X1_doAct : GoodIn wsX1_readAll (wsV RX1 69 RX1 yX1_doAct wsX1_doAct) := goodIn_app (goodIn_of _ (by decide +kernel)) ggX1_readAll_X1_doAct
theorem dX1_readAll_0 : decode cX1_readAll 0 = .ok (.aload_n 0, 1) := by decide +kernel
theorem dX1_readAll_1 : decode cX1_readAll 1 = .ok (.aload_n 3, 1) := by decide +kernel
theorem dX1_readAll_2 : decode cX1_readAll 2 = .ok (.invokevirtual 57, 3) := by decide +kernel
theorem dX1_readAll_5 : decode cX1_readAll 5 = .ok (.iconst 0, 1) := by decide +kernel
theorem dX1_readAll_6 : decode cX1_readAll 6 = .ok (.istore 4, 2) := by decide +kernel
theorem dX1_readAll_8 : decode cX1_readAll 8 = .ok (.iload 4, 2) := by decide +kernel
theorem dX1_readAll_10 : decode cX1_readAll 10 = .ok (.iload_n 2, 1) := by decide +kernel
theorem dX1_readAll_11 : decode cX1_readAll 11 = .ok (.if_icmp .ge 53, 3) := by decide +kernel
theorem dX1_readAll_14 : decode cX1_readAll 14 = .ok (.iload 4, 2) := by decide +kernel
theorem dX1_readAll_16 : decode cX1_readAll 16 = .ok (.aload_n 1, 1) := by decide +kernel
theorem dX1_readAll_17 : decode cX1_readAll 17 = .ok (.arraylength, 1) := by decide +kernel
theorem dX1_readAll_18 : decode cX1_readAll 18 = .ok (.if_icmp .ge 46, 3) := by decide +kernel
theorem dX1_readAll_21 : decode cX1_readAll 21 = .ok (.aload_n 0, 1) := by decide +kernel
theorem dX1_readAll_22 : decode cX1_readAll 22 = .ok (.getfield 21, 3) := by decide +kernel
theorem dX1_readAll_25 : decode cX1_readAll 25 = .ok (.aload_n 1, 1) := by decide +kernel
theorem dX1_readAll_26 : decode cX1_readAll 26 = .ok (.iload 4, 2) := by decide +kernel
theorem dX1_readAll_28 : decode cX1_readAll 28 = .ok (.iaload, 1) := by decide +kernel
theorem dX1_readAll_29 : decode cX1_readAll 29 = .ok (.invokevirtual 61, 3) := by decide +kernel
theorem dX1_readAll_32 : decode cX1_readAll 32 = .ok (.ifCond .ne 12, 3) := by decide +kernel
theorem dX1_readAll_35 : decode cX1_readAll 35 = .ok (.aload_n 0, 1) := by decide +kernel
theorem dX1_readAll_36 : decode cX1_readAll 36 = .ok (.iload 4, 2) := by decide +kernel
theorem dX1_readAll_38 : decode cX1_readAll 38 = .ok (.putfield 32, 3) := by decide +kernel
theorem dX1_readAll_41 : decode cX1_readAll 41 = .ok (.bipush (-5), 2) := by decide +kernel
theorem dX1_readAll_43 : decode cX1_readAll 43 = .ok (.ireturn, 1) := by decide +kernel
theorem dX1_readAll_44 : decode cX1_readAll 44 = .ok (.aload_n 0, 1) := by decide +kernel
theorem dX1_readAll_45 : decode cX1_readAll 45 = .ok (.getfield 21, 3) := by decide +kernel
theorem dX1_readAll_48 : decode cX1_readAll 48 = .ok (.invokevirtual 65, 3) := by decide +kernel
theorem dX1_readAll_51 : decode cX1_readAll 51 = .ok (.ifCond .eq 7, 3) := by decide +kernel
theorem dX1_readAll_54 : decode cX1_readAll 54 = .ok (.aload_n 0, 1) := by decide +kernel
theorem dX1_readAll_55 : decode cX1_readAll 55 = .ok (.invokevirtual 69, 3) := by decide +kernel
theorem dX1_readAll_58 : decode cX1_readAll 58 = .ok (.iinc 4 1, 3) := by decide +kernel
theorem dX1_readAll_61 : decode cX1_readAll 61 = .ok (.goto (-53), 3) := by decide +kernel
theorem dX1_readAll_64 : decode cX1_readAll 64 = .ok (.aload_n 0, 1) := by decide +kernel
theorem dX1_readAll_65 : decode cX1_readAll 65 = .ok (.getfield 21, 3) := by decide +kernel
theorem dX1_readAll_68 : decode cX1_readAll 68 = .ok (.invokevirtual 65, 3) := by decide +kernel
theorem dX1_readAll_71 : decode cX1_readAll 71 = .ok (.ifCond .ne 11, 3) := by decide +kernel
theorem dX1_readAll_74 : decode cX1_readAll 74 = .ok (.aload_n 0, 1) := by decide +kernel
theorem dX1_readAll_75 : decode cX1_readAll 75 = .ok (.iload_n 2, 1) := by decide +kernel
theorem dX1_readAll_76 : decode cX1_readAll 76 = .ok (.putfield 32, 3) := by decide +kernel
theorem dX1_readAll_79 : decode cX1_readAll 79 = .ok (.bipush (-5), 2) := by decide +kernel
theorem dX1_readAll_81 : decode cX1_readAll 81 = .ok (.ireturn, 1) := by decide +kernel
theorem dX1_readAll_82 : decode cX1_readAll 82 = .ok (.aload_n 0, 1) := by decide +kernel
theorem dX1_readAll_83 : decode cX1_readAll 83 = .ok (.getfield 42, 3) := by decide +kernel
theorem dX1_readAll_86 : decode cX1_readAll 86 = .ok (.ifCond .ne 7, 3) := by decide +kernel
theorem dX1_readAll_89 : decode cX1_readAll 89 = .ok (.iconst 0, 1) := by decide +kernel
theorem dX1_readAll_90 : decode cX1_readAll 90 = .ok (.goto 5, 3) := by decide +kernel
theorem dX1_readAll_93 : decode cX1_readAll 93 = .ok (.bipush (-3), 2) := by decide +kernel
theorem dX1_readAll_95 : decode cX1_readAll 95 = .ok (.ireturn, 1) := by decide +kernel
set_option maxRecDepth 20000 in
theorem ggX1_begin_X3_copyFrom : GoodIn wsX1_begin wsX3_copyFrom := goodIn_r _ [13, 14, 15, 16, 17, 18, 19, 20, 21, 22, 23, 24, 25, 26, 27, 50, 51, 52, 53, 54, 55, 56, 57, 58, 59, 60] (by decide +kernel) (by decide +kernel)
set_option maxRecDepth 20000 in
theorem gX1_begin_X3_copyFrom_n72 : GoodIn wsX1_begin (wsX3_copyFrom) := ggX1_begin_X3_copyFrom
set_option maxRecDepth 20000 in
theorem ggX1_begin_X0_begin : GoodIn wsX1_begin wsX0_begin := goodIn_r _ [31, 32, 61, 62, 63, 64, 65] (by decide +kernel) (by decide +kernel)
set_option maxRecDepth 20000 in
theorem gX1_begin_X0_begin_n75 : GoodIn wsX1_begin (wsX0_begin) := ggX1_begin_X0_begin
set_option maxRecDepth 20000 in
theorem ggX1_begin_X2_begin : GoodIn wsX1_begin wsX2_begin := goodIn_r _ [36, 37, 38, 66, 67] (by decide +kernel) (by decide +kernel)
set_option maxRecDepth 20000 in
theorem gX1_begin_X2_begin_n77 : GoodIn wsX1_begin (wsX2_begin) := ggX1_begin_X2_begin
theorem dX1_begin_0 : decode cX1_begin 0 = .ok (.aload_n 0, 1) := by decide +kernel
theorem dX1_begin_1 : decode cX1_begin 1 = .ok (.getfield 12, 3) := by decide +kernel
theorem dX1_begin_4 : decode cX1_begin 4 = .ok (.aload_n 1, 1) := by decide +kernel
theorem dX1_begin_5 : decode cX1_begin 5 = .ok (.invokevirtual 72, 3) := by decide +kernel
theorem dX1_begin_8 : decode cX1_begin 8 = .ok (.aload_n 0, 1) := by decide +kernel
theorem dX1_begin_9 : decode cX1_begin 9 = .ok (.getfield 21, 3) := by decide +kernel
theorem dX1_begin_12 : decode cX1_begin 12 = .ok (.invokevirtual 75, 3) := by decide +kernel
theorem dX1_begin_15 : decode cX1_begin 15 = .ok (.aload_n 0, 1) := by decide +kernel
theorem dX1_begin_16 : decode cX1_begin 16 = .ok (.getfield 28, 3) := by decide +kernel
theorem dX1_begin_19 : decode cX1_begin 19 = .ok (.invokevirtual 77, 3) := by decide +kernel
theorem dX1_begin_22 : decode cX1_begin 22 = .ok (.aload_n 0, 1) := by decide +kernel
theorem dX1_begin_23 : decode cX1_begin 23 = .ok (.iconst 0, 1) := by decide +kernel
theorem dX1_begin_24 : decode cX1_begin 24 = .ok (.putfield 36, 3) := by decide +kernel
theorem dX1_begin_27 : decode cX1_begin 27 = .ok (.aload_n 0, 1) := by decide +kernel
theorem dX1_begin_28 : decode cX1_begin 28 = .ok (.iconst 0, 1) := by decide +kernel
theorem dX1_begin_29 : decode cX1_begin 29 = .ok (.putfield 42, 3) := by decide +kernel
theorem dX1_begin_32 : decode cX1_begin 32 = .ok (.aload_n 0, 1) := by decide +kernel
theorem dX1_begin_33 : decode cX1_begin 33 = .ok (.iconst 0, 1) := by decide +kernel
theorem dX1_begin_34 : decode cX1_begin 34 = .ok (.putfield 45, 3) := by decide +kernel
theorem dX1_begin_37 : decode cX1_begin 37 = .ok (.aload_n 0, 1) := by decide +kernel
theorem dX1_begin_38 : decode cX1_begin 38 = .ok (.iconst 0, 1) := by decide +kernel
theorem dX1_begin_39 : decode cX1_begin 39 = .ok (.putfield 48, 3) := by decide +kernel
theorem dX1_begin_42 : decode cX1_begin 42 = .ok (.aload_n 0, 1) := by decide +kernel
theorem dX1_begin_43 : decode cX1_begin 43 = .ok (.bipush (-6), 2) := by decide +kernel
theorem dX1_begin_45 : decode cX1_begin 45 = .ok (.putfield 51, 3) := by decide +kernel
theorem dX1_begin_48 : decode cX1_begin 48 = .ok (.aload_n 0, 1) := by decide +kernel
theorem dX1_begin_49 : decode cX1_begin 49 = .ok (.iconst (-1), 1) := by decide +kernel
theorem dX1_begin_50 : decode cX1_begin 50 = .ok (.putfield 54, 3) := by decide +kernel
theorem dX1_begin_53 : decode cX1_begin 53 = .ok (.return_, 1) := by decide +kernel
set_option maxRecDepth 20000 in
theorem ggX1_doAct_X1_endSentence : GoodIn wsX1_doAct wsX1_endSentence := goodIn_r _ [9, 10, 11, 12, 13, 14, 15, 16, 17, 18, 19, 20, 77, 78, 79, 80, 81, 82, 83, 84, 85, 86, 87, 93, 94] (by decide +kernel) (by decide +kernel)
set_option maxRecDepth 20000 in
theorem gX1_doAct_X1_endSentence : GoodIn wsX1_doAct (wsV RX1 81 RX1 yX1_endSentence wsX1_endSentence) := goodIn_app (goodIn_of _ (by decide +kernel)) ggX1_doAct_X1_endSentence
set_option maxRecDepth 20000 in
theorem ggX1_doAct_X1_doWordAct : GoodIn wsX1_doAct wsX1_doWordAct := goodIn_r _ [24, 25, 2, 10, 26, 27, 28, 29, 30, 31, 32, 33, 34, 35, 36, 37, 38, 39, 40, 41, 42, 43, 44, 45, 46, 47, 48, 49, 50, 51, 52, 53, 54, 55, 56, 57, 58, 59, 60, 61, 62, 63, 64, 65, 8, 66, 67, 68, 69, 70, 13, 71, 72, 16, 20, 73, 74, 75, 76, 77, 78, 79, 80, 81, 82, 83, 84, 85, 86, 87, 95, 96, 97, 98, 99, 100, 101, 102, 103, 104, 105, 88, 89, 90, 91, 92, 93, 94] (by decide +kernel) (by decide +kernel)
set_option maxRecDepth 20000 in
theorem gX1_doAct_X1_doWordAct : GoodIn wsX1_doAct (wsV RX1 88 RX1 yX1_doWordAct wsX1_doWordAct) := goodIn_app (goodIn_of _ (by decide +kernel)) ggX1_doAct_X1_doWordAct
theorem dX1_doAct_0 : decode cX1_doAct 0 = .ok (.aload_n 0, 1) := by decide +kernel
theorem dX1_doAct_1 : decode cX1_doAct 1 = .ok (.getfield 42, 3) := by decide +kernel
theorem dX1_doAct_4 : decode cX1_doAct 4 = .ok (.ifCond .ne 51, 3) := by decide +kernel
theorem dX1_doAct_7 : decode cX1_doAct 7 = .ok (.aload_n 0, 1) := by decide +kernel
theorem dX1_doAct_8 : decode cX1_doAct 8 = .ok (.aload_n 0, 1) := by decide +kernel
theorem dX1_doAct_9 : decode cX1_doAct 9 = .ok (.getfield 21, 3) := by decide +kernel
theorem dX1_doAct_12 : decode cX1_doAct 12 = .ok (.getfield 78, 3) := by decide +kernel
theorem dX1_doAct_15 : decode cX1_doAct 15 = .ok (.iconst 4, 1) := by decide +kernel
theorem dX1_doAct_16 : decode cX1_doAct 16 = .ok (.if_icmp .ne 10, 3) := by decide +kernel
theorem dX1_doAct_19 : decode cX1_doAct 19 = .ok (.aload_n 0, 1) := by decide +kernel
theorem dX1_doAct_20 : decode cX1_doAct 20 = .ok (.invokevirtual 81, 3) := by decide +kernel
theorem dX1_doAct_23 : decode cX1_doAct 23 = .ok (.goto 14, 3) := by decide +kernel
theorem dX1_doAct_26 : decode cX1_doAct 26 = .ok (.aload_n 0, 1) := by decide +kernel
theorem dX1_doAct_27 : decode cX1_doAct 27 = .ok (.aload_n 0, 1) := by decide +kernel
theorem dX1_doAct_28 : decode cX1_doAct 28 = .ok (.getfield 21, 3) := by decide +kernel
theorem dX1_doAct_31 : decode cX1_doAct 31 = .ok (.getfield 85, 3) := by decide +kernel
theorem dX1_doAct_34 : decode cX1_doAct 34 = .ok (.invokevirtual 88, 3) := by decide +kernel
theorem dX1_doAct_37 : decode cX1_doAct 37 = .ok (.putfield 42, 3) := by decide +kernel
theorem dX1_doAct_40 : decode cX1_doAct 40 = .ok (.aload_n 0, 1) := by decide +kernel
theorem dX1_doAct_41 : decode cX1_doAct 41 = .ok (.getfield 42, 3) := by decide +kernel
theorem dX1_doAct_44 : decode cX1_doAct 44 = .ok (.ifCond .eq 11, 3) := by decide +kernel
theorem dX1_doAct_47 : decode cX1_doAct 47 = .ok (.aload_n 0, 1) := by decide +kernel
theorem dX1_doAct_48 : decode cX1_doAct 48 = .ok (.aload_n 0, 1) := by decide +kernel
theorem dX1_doAct_49 : decode cX1_doAct 49 = .ok (.getfield 36, 3) := by decide +kernel
theorem dX1_doAct_52 : decode cX1_doAct 52 = .ok (.putfield 39, 3) := by decide +kernel
theorem dX1_doAct_55 : decode cX1_doAct 55 = .ok (.aload_n 0, 1) := by decide +kernel
theorem dX1_doAct_56 : decode cX1_doAct 56 = .ok (.dup, 1) := by decide +kernel
theorem dX1_doAct_57 : decode cX1_doAct 57 = .ok (.getfield 36, 3) := by decide +kernel
theorem dX1_doAct_60 : decode cX1_doAct 60 = .ok (.iconst 1, 1) := by decide +kernel
theorem dX1_doAct_61 : decode cX1_doAct 61 = .ok (.iadd, 1) := by decide +kernel
theorem dX1_doAct_62 : decode cX1_doAct 62 = .ok (.putfield 36, 3) := by decide +kernel
theorem dX1_doAct_65 : decode cX1_doAct 65 = .ok (.return_, 1) := by decide +kernel
set_option maxRecDepth 20000 in
theorem ggX1_endSentence_X2_isSentence : GoodIn wsX1_endSentence wsX2_isSentence := goodIn_r _ [6, 7, 23, 24] (by decide +kernel) (by decide +kernel)
set_option maxRecDepth 20000 in
theorem gX1_endSentence_X2_isSentence_n92 : GoodIn wsX1_endSentence (wsX2_isSentence) := ggX1_endSentence_X2_isSentence
set_option maxRecDepth 20000 in
theorem ggX1_endSentence_X2_begin : GoodIn wsX1_endSentence wsX2_begin := goodIn_r _ [10, 7, 11, 23, 24] (by decide +kernel) (by decide +kernel)
set_option maxRecDepth 20000 in
theorem gX1_endSentence_X2_begin_n77 : GoodIn wsX1_endSentence (wsX2_begin) := ggX1_endSentence_X2_begin
theorem dX1_endSentence_0 : decode cX1_endSentence 0 = .ok (.aload_n 0, 1) := by decide +kernel
theorem dX1_endSentence_1 : decode cX1_endSentence 1 = .ok (.getfield 28, 3) := by decide +kernel
theorem dX1_endSentence_4 : decode cX1_endSentence 4 = .ok (.invokevirtual 92, 3) := by decide +kernel
theorem dX1_endSentence_7 : decode cX1_endSentence 7 = .ok (.ifCond .ne 5, 3) := by decide +kernel
theorem dX1_endSentence_10 : decode cX1_endSentence 10 = .ok (.iconst 5, 1) := by decide +kernel
theorem dX1_endSentence_11 : decode cX1_endSentence 11 = .ok (.ireturn, 1) := by decide +kernel
theorem dX1_endSentence_12 : decode cX1_endSentence 12 = .ok (.aload_n 0, 1) := by decide +kernel
theorem dX1_endSentence_13 : decode cX1_endSentence 13 = .ok (.dup, 1) := by decide +kernel
theorem dX1_endSentence_14 : decode cX1_endSentence 14 = .ok (.getfield 45, 3) := by decide +kernel
theorem dX1_endSentence_17 : decode cX1_endSentence 17 = .ok (.iconst 1, 1) := by decide +kernel
theorem dX1_endSentence_18 : decode cX1_endSentence 18 = .ok (.iadd, 1) := by decide +kernel
theorem dX1_endSentence_19 : decode cX1_endSentence 19 = .ok (.putfield 45, 3) := by decide +kernel
theorem dX1_endSentence_22 : decode cX1_endSentence 22 = .ok (.aload_n 0, 1) := by decide +kernel
theorem dX1_endSentence_23 : decode cX1_endSentence 23 = .ok (.getfield 28, 3) := by decide +kernel
theorem dX1_endSentence_26 : decode cX1_endSentence 26 = .ok (.invokevirtual 77, 3) := by decide +kernel
theorem dX1_endSentence_29 : decode cX1_endSentence 29 = .ok (.iconst 0, 1) := by decide +kernel
theorem dX1_endSentence_30 : decode cX1_endSentence 30 = .ok (.ireturn, 1) := by decide +kernel
set_option maxRecDepth 20000 in
theorem ggX1_doWordAct_X4_isWord : GoodIn wsX1_doWordAct wsX4_isWord := goodIn_r _ [6, 7, 8, 5, 9] (by decide +kernel) (by decide +kernel)
set_option maxRecDepth 20000 in
theorem gX1_doWordAct_X4_isWord_n95 : GoodIn wsX1_doWordAct (wsX4_isWord) := ggX1_doWordAct_X4_isWord
set_option maxRecDepth 20000 in
theorem ggX1_doWordAct_X3_perform : GoodIn wsX1_doWordAct wsX3_perform := goodIn_r _ [13, 14, 5, 15, 7, 8, 9, 4, 6, 16, 17, 18, 11, 19, 20, 21, 22, 23, 24, 25, 26, 27, 28, 29, 30, 31, 32, 33, 34, 35, 36, 37, 38, 39, 40, 70, 71, 72, 73, 74, 75, 76, 77, 78, 79, 80] (by decide +kernel) (by decide +kernel)
set_option maxRecDepth 20000 in
theorem gX1_doWordAct_X3_perform_n108 : GoodIn wsX1_doWordAct (wsX3_perform) := ggX1_doWordAct_X3_perform
set_option maxRecDepth 20000 in
theorem ggX1_doWordAct_X1_noteSpoken : GoodIn wsX1_doWordAct wsX1_noteSpoken := goodIn_r _ [45, 46, 47, 48, 59, 60, 61, 62, 63, 64, 65, 66, 67, 68, 69] (by decide +kernel) (by decide +kernel)
set_option maxRecDepth 20000 in
theorem gX1_doWordAct_X1_noteSpoken : GoodIn wsX1_doWordAct (wsV RX1 112 RX1 yX1_noteSpoken wsX1_noteSpoken) := goodIn_app (goodIn_of _ (by decide +kernel)) ggX1_doWordAct_X1_noteSpoken
set_option maxRecDepth 20000 in
theorem ggX1_doWordAct_X2_add : GoodIn wsX1_doWordAct wsX2_add := goodIn_r _ [52, 53, 54, 55, 56, 57, 50, 58, 86, 87] (by decide +kernel) (by decide +kernel)
set_option maxRecDepth 20000 in
theorem gX1_doWordAct_X2_add_n119 : GoodIn wsX1_doWordAct (wsX2_add) := ggX1_doWordAct_X2_add
theorem dX1_doWordAct_0 : decode cX1_doWordAct 0 = .ok (.iload_n 1, 1) := by decide +kernel
theorem dX1_doWordAct_1 : decode cX1_doWordAct 1 = .ok (.invokestatic 95, 3) := by decide +kernel
theorem dX1_doWordAct_4 : decode cX1_doWordAct 4 = .ok (.ifCond .ne 5, 3) := by decide +kernel
theorem dX1_doWordAct_7 : decode cX1_doWordAct 7 = .ok (.iconst 2, 1) := by decide +kernel
theorem dX1_doWordAct_8 : decode cX1_doWordAct 8 = .ok (.ireturn, 1) := by decide +kernel
theorem dX1_doWordAct_9 : decode cX1_doWordAct 9 = .ok (.aload_n 0, 1) := by decide +kernel
theorem dX1_doWordAct_10 : decode cX1_doWordAct 10 = .ok (.getfield 12, 3) := by decide +kernel
theorem dX1_doWordAct_13 : decode cX1_doWordAct 13 = .ok (.getfield 98, 3) := by decide +kernel
theorem dX1_doWordAct_16 : decode cX1_doWordAct 16 = .ok (.iload_n 1, 1) := by decide +kernel
theorem dX1_doWordAct_17 : decode cX1_doWordAct 17 = .ok (.iaload, 1) := by decide +kernel
theorem dX1_doWordAct_18 : decode cX1_doWordAct 18 = .ok (.istore_n 2, 1) := by decide +kernel
theorem dX1_doWordAct_19 : decode cX1_doWordAct 19 = .ok (.aload_n 0, 1) := by decide +kernel
theorem dX1_doWordAct_20 : decode cX1_doWordAct 20 = .ok (.getfield 12, 3) := by decide +kernel
theorem dX1_doWordAct_23 : decode cX1_doWordAct 23 = .ok (.aload_n 0, 1) := by decide +kernel
theorem dX1_doWordAct_24 : decode cX1_doWordAct 24 = .ok (.getfield 21, 3) := by decide +kernel
theorem dX1_doWordAct_27 : decode cX1_doWordAct 27 = .ok (.getfield 78, 3) := by decide +kernel
theorem dX1_doWordAct_30 : decode cX1_doWordAct 30 = .ok (.aload_n 0, 1) := by decide +kernel
theorem dX1_doWordAct_31 : decode cX1_doWordAct 31 = .ok (.getfield 21, 3) := by decide +kernel
theorem dX1_doWordAct_34 : decode cX1_doWordAct 34 = .ok (.getfield 102, 3) := by decide +kernel
theorem dX1_doWordAct_37 : decode cX1_doWordAct 37 = .ok (.iload_n 1, 1) := by decide +kernel
theorem dX1_doWordAct_38 : decode cX1_doWordAct 38 = .ok (.aload_n 0, 1) := by decide +kernel
theorem dX1_doWordAct_39 : decode cX1_doWordAct 39 = .ok (.getfield 21, 3) := by decide +kernel
theorem dX1_doWordAct_42 : decode cX1_doWordAct 42 = .ok (.getfield 105, 3) := by decide +kernel
theorem dX1_doWordAct_45 : decode cX1_doWordAct 45 = .ok (.invokevirtual 108, 3) := by decide +kernel
theorem dX1_doWordAct_48 : decode cX1_doWordAct 48 = .ok (.istore_n 3, 1) := by decide +kernel
theorem dX1_doWordAct_49 : decode cX1_doWordAct 49 = .ok (.iload_n 3, 1) := by decide +kernel
theorem dX1_doWordAct_50 : decode cX1_doWordAct 50 = .ok (.ifCond .ne 36, 3) := by decide +kernel
theorem dX1_doWordAct_53 : decode cX1_doWordAct 53 = .ok (.aload_n 0, 1) := by decide +kernel
theorem dX1_doWordAct_54 : decode cX1_doWordAct 54 = .ok (.getfield 21, 3) := by decide +kernel
theorem dX1_doWordAct_57 : decode cX1_doWordAct 57 = .ok (.getfield 78, 3) := by decide +kernel
theorem dX1_doWordAct_60 : decode cX1_doWordAct 60 = .ok (.iconst 2, 1) := by decide +kernel
theorem dX1_doWordAct_61 : decode cX1_doWordAct 61 = .ok (.if_icmp .ne 25, 3) := by decide +kernel
theorem dX1_doWordAct_64 : decode cX1_doWordAct 64 = .ok (.aload_n 0, 1) := by decide +kernel
theorem dX1_doWordAct_65 : decode cX1_doWordAct 65 = .ok (.iload_n 1, 1) := by decide +kernel
theorem dX1_doWordAct_66 : decode cX1_doWordAct 66 = .ok (.iload_n 2, 1) := by decide +kernel
theorem dX1_doWordAct_67 : decode cX1_doWordAct 67 = .ok (.invokevirtual 112, 3) := by decide +kernel
theorem dX1_doWordAct_70 : decode cX1_doWordAct 70 = .ok (.aload_n 0, 1) := by decide +kernel
theorem dX1_doWordAct_71 : decode cX1_doWordAct 71 = .ok (.getfield 28, 3) := by decide +kernel
theorem dX1_doWordAct_74 : decode cX1_doWordAct 74 = .ok (.aload_n 0, 1) := by decide +kernel
theorem dX1_doWordAct_75 : decode cX1_doWordAct 75 = .ok (.getfield 12, 3) := by decide +kernel
theorem dX1_doWordAct_78 : decode cX1_doWordAct 78 = .ok (.getfield 116, 3) := by decide +kernel
theorem dX1_doWordAct_81 : decode cX1_doWordAct 81 = .ok (.iload_n 1, 1) := by decide +kernel
theorem dX1_doWordAct_82 : decode cX1_doWordAct 82 = .ok (.iaload, 1) := by decide +kernel
theorem dX1_doWordAct_83 : decode cX1_doWordAct 83 = .ok (.invokevirtual 119, 3) := by decide +kernel
theorem dX1_doWordAct_86 : decode cX1_doWordAct 86 = .ok (.iload_n 3, 1) := by decide +kernel
theorem dX1_doWordAct_87 : decode cX1_doWordAct 87 = .ok (.ireturn, 1) := by decide +kernel
theorem dX1_noteSpoken_0 : decode cX1_noteSpoken 0 = .ok (.iload_n 2, 1) := by decide +kernel
theorem dX1_noteSpoken_1 : decode cX1_noteSpoken 1 = .ok (.aload_n 0, 1) := by decide +kernel
theorem dX1_noteSpoken_2 : decode cX1_noteSpoken 2 = .ok (.getfield 54, 3) := by decide +kernel
theorem dX1_noteSpoken_5 : decode cX1_noteSpoken 5 = .ok (.if_icmp .le 13, 3) := by decide +kernel
theorem dX1_noteSpoken_8 : decode cX1_noteSpoken 8 = .ok (.aload_n 0, 1) := by decide +kernel
theorem dX1_noteSpoken_9 : decode cX1_noteSpoken 9 = .ok (.iload_n 1, 1) := by decide +kernel
theorem dX1_noteSpoken_10 : decode cX1_noteSpoken 10 = .ok (.putfield 51, 3) := by decide +kernel
theorem dX1_noteSpoken_13 : decode cX1_noteSpoken 13 = .ok (.aload_n 0, 1) := by decide +kernel
theorem dX1_noteSpoken_14 : decode cX1_noteSpoken 14 = .ok (.iload_n 2, 1) := by decide +kernel
theorem dX1_noteSpoken_15 : decode cX1_noteSpoken 15 = .ok (.putfield 54, 3) := by decide +kernel
theorem dX1_noteSpoken_18 : decode cX1_noteSpoken 18 = .ok (.aload_n 0, 1) := by decide +kernel
theorem dX1_noteSpoken_19 : decode cX1_noteSpoken 19 = .ok (.dup, 1) := by decide +kernel
theorem dX1_noteSpoken_20 : decode cX1_noteSpoken 20 = .ok (.getfield 48, 3) := by decide +kernel
theorem dX1_noteSpoken_23 : decode cX1_noteSpoken 23 = .ok (.iconst 1, 1) := by decide +kernel
theorem dX1_noteSpoken_24 : decode cX1_noteSpoken 24 = .ok (.iadd, 1) := by decide +kernel
theorem dX1_noteSpoken_25 : decode cX1_noteSpoken 25 = .ok (.putfield 48, 3) := by decide +kernel
theorem dX1_noteSpoken_28 : decode cX1_noteSpoken 28 = .ok (.return_, 1) := by decide +kernel
theorem dX2_init_0 : decode cX2_init 0 = .ok (.aload_n 0, 1) := by decide +kernel
theorem dX2_init_1 : decode cX2_init 1 = .ok (.invokespecial 3, 3) := by decide +kernel
theorem dX2_init_4 : decode cX2_init 4 = .ok (.aload_n 0, 1) := by decide +kernel
theorem dX2_init_5 : decode cX2_init 5 = .ok (.iconst 0, 1) := by decide +kernel
theorem dX2_init_6 : decode cX2_init 6 = .ok (.putfield 11, 3) := by decide +kernel
theorem dX2_init_9 : decode cX2_init 9 = .ok (.aload_n 0, 1) := by decide +kernel
theorem dX2_init_10 : decode cX2_init 10 = .ok (.iconst 0, 1) := by decide +kernel
theorem dX2_init_11 : decode cX2_init 11 = .ok (.putfield 15, 3) := by decide +kernel
theorem dX2_init_14 : decode cX2_init 14 = .ok (.return_, 1) := by decide +kernel
theorem dX2_begin_0 : decode cX2_begin 0 = .ok (.aload_n 0, 1) := by decide +kernel
theorem dX2_begin_1 : decode cX2_begin 1 = .ok (.iconst 0, 1) := by decide +kernel
theorem dX2_begin_2 : decode cX2_begin 2 = .ok (.putfield 11, 3) := by decide +kernel
theorem dX2_begin_5 : decode cX2_begin 5 = .ok (.aload_n 0, 1) := by decide +kernel
theorem dX2_begin_6 : decode cX2_begin 6 = .ok (.iconst 0, 1) := by decide +kernel
theorem dX2_begin_7 : decode cX2_begin 7 = .ok (.putfield 15, 3) := by decide +kernel
theorem dX2_begin_10 : decode cX2_begin 10 = .ok (.return_, 1) := by decide +kernel
set_option maxRecDepth 20000 in
theorem ggX2_add_X2_stageBehind : GoodIn wsX2_add wsX2_stageBehind := goodIn_r _ [7, 1, 8, 9] (by decide +kernel) (by decide +kernel)
set_option maxRecDepth 20000 in
theorem gX2_add_X2_stageBehind : GoodIn wsX2_add (wsV RX2 18 RX2 yX2_stageBehind wsX2_stageBehind) := goodIn_app (goodIn_of _ (by decide +kernel)) ggX2_add_X2_stageBehind
theorem dX2_add_0 : decode cX2_add 0 = .ok (.aload_n 0, 1) := by decide +kernel
theorem dX2_add_1 : decode cX2_add 1 = .ok (.aload_n 0, 1) := by decide +kernel
theorem dX2_add_2 : decode cX2_add 2 = .ok (.iload_n 1, 1) := by decide +kernel
theorem dX2_add_3 : decode cX2_add 3 = .ok (.invokevirtual 18, 3) := by decide +kernel
theorem dX2_add_6 : decode cX2_add 6 = .ok (.putfield 11, 3) := by decide +kernel
theorem dX2_add_9 : decode cX2_add 9 = .ok (.aload_n 0, 1) := by decide +kernel
theorem dX2_add_10 : decode cX2_add 10 = .ok (.dup, 1) := by decide +kernel
theorem dX2_add_11 : decode cX2_add 11 = .ok (.getfield 15, 3) := by decide +kernel
theorem dX2_add_14 : decode cX2_add 14 = .ok (.iconst 1, 1) := by decide +kernel
theorem dX2_add_15 : decode cX2_add 15 = .ok (.iadd, 1) := by decide +kernel
theorem dX2_add_16 : decode cX2_add 16 = .ok (.putfield 15, 3) := by decide +kernel
theorem dX2_add_19 : decode cX2_add 19 = .ok (.return_, 1) := by decide +kernel
theorem dX2_isSentence_0 : decode cX2_isSentence 0 = .ok (.aload_n 0, 1) := by decide +kernel
theorem dX2_isSentence_1 : decode cX2_isSentence 1 = .ok (.getfield 11, 3) := by decide +kernel
theorem dX2_isSentence_4 : decode cX2_isSentence 4 = .ok (.iconst 2, 1) := by decide +kernel
theorem dX2_isSentence_5 : decode cX2_isSentence 5 = .ok (.if_icmp .eq 11, 3) := by decide +kernel
theorem dX2_isSentence_8 : decode cX2_isSentence 8 = .ok (.aload_n 0, 1) := by decide +kernel
theorem dX2_isSentence_9 : decode cX2_isSentence 9 = .ok (.getfield 11, 3) := by decide +kernel
theorem dX2_isSentence_12 : decode cX2_isSentence 12 = .ok (.iconst 4, 1) := by decide +kernel
theorem dX2_isSentence_13 : decode cX2_isSentence 13 = .ok (.if_icmp .ne 7, 3) := by decide +kernel
theorem dX2_isSentence_16 : decode cX2_isSentence 16 = .ok (.iconst 1, 1) := by decide +kernel
theorem dX2_isSentence_17 : decode cX2_isSentence 17 = .ok (.goto 4, 3) := by decide +kernel
theorem dX2_isSentence_20 : decode cX2_isSentence 20 = .ok (.iconst 0, 1) := by decide +kernel
theorem dX2_isSentence_21 : decode cX2_isSentence 21 = .ok (.ireturn, 1) := by decide +kernel
theorem dX2_stageBehind_0 : decode cX2_stageBehind 0 = .ok (.aload_n 0, 1) := by decide +kernel
theorem dX2_stageBehind_1 : decode cX2_stageBehind 1 = .ok (.getfield 11, 3) := by decide +kernel
theorem dX2_stageBehind_4 : decode cX2_stageBehind 4 = .ok (.tableswitch 77 0 3 #[32, 49, 60, 60], 32) := by decide +kernel
theorem dX2_stageBehind_36 : decode cX2_stageBehind 36 = .ok (.iload_n 1, 1) := by decide +kernel
theorem dX2_stageBehind_37 : decode cX2_stageBehind 37 = .ok (.iconst 2, 1) := by decide +kernel
theorem dX2_stageBehind_38 : decode cX2_stageBehind 38 = .ok (.if_icmp .ne 5, 3) := by decide +kernel
theorem dX2_stageBehind_41 : decode cX2_stageBehind 41 = .ok (.iconst 0, 1) := by decide +kernel
theorem dX2_stageBehind_42 : decode cX2_stageBehind 42 = .ok (.ireturn, 1) := by decide +kernel
theorem dX2_stageBehind_43 : decode cX2_stageBehind 43 = .ok (.iload_n 1, 1) := by decide +kernel
theorem dX2_stageBehind_44 : decode cX2_stageBehind 44 = .ok (.ifCond .ne 7, 3) := by decide +kernel
theorem dX2_stageBehind_47 : decode cX2_stageBehind 47 = .ok (.iconst 1, 1) := by decide +kernel
theorem dX2_stageBehind_48 : decode cX2_stageBehind 48 = .ok (.goto 4, 3) := by decide +kernel
theorem dX2_stageBehind_51 : decode cX2_stageBehind 51 = .ok (.iconst 5, 1) := by decide +kernel
theorem dX2_stageBehind_52 : decode cX2_stageBehind 52 = .ok (.ireturn, 1) := by decide +kernel
theorem dX2_stageBehind_53 : decode cX2_stageBehind 53 = .ok (.iload_n 1, 1) := by decide +kernel
theorem dX2_stageBehind_54 : decode cX2_stageBehind 54 = .ok (.iconst 1, 1) := by decide +kernel
theorem dX2_stageBehind_55 : decode cX2_stageBehind 55 = .ok (.if_icmp .ne 7, 3) := by decide +kernel
theorem dX2_stageBehind_58 : decode cX2_stageBehind 58 = .ok (.iconst 2, 1) := by decide +kernel
theorem dX2_stageBehind_59 : decode cX2_stageBehind 59 = .ok (.goto 4, 3) := by decide +kernel
theorem dX2_stageBehind_62 : decode cX2_stageBehind 62 = .ok (.iconst 5, 1) := by decide +kernel
theorem dX2_stageBehind_63 : decode cX2_stageBehind 63 = .ok (.ireturn, 1) := by decide +kernel
theorem dX2_stageBehind_64 : decode cX2_stageBehind 64 = .ok (.iload_n 1, 1) := by decide +kernel
theorem dX2_stageBehind_65 : decode cX2_stageBehind 65 = .ok (.iconst 2, 1) := by decide +kernel
theorem dX2_stageBehind_66 : decode cX2_stageBehind 66 = .ok (.if_icmp .ne 5, 3) := by decide +kernel
theorem dX2_stageBehind_69 : decode cX2_stageBehind 69 = .ok (.iconst 3, 1) := by decide +kernel
theorem dX2_stageBehind_70 : decode cX2_stageBehind 70 = .ok (.ireturn, 1) := by decide +kernel
theorem dX2_stageBehind_71 : decode cX2_stageBehind 71 = .ok (.iload_n 1, 1) := by decide +kernel
theorem dX2_stageBehind_72 : decode cX2_stageBehind 72 = .ok (.ifCond .ne 7, 3) := by decide +kernel
theorem dX2_stageBehind_75 : decode cX2_stageBehind 75 = .ok (.iconst 4, 1) := by decide +kernel
theorem dX2_stageBehind_76 : decode cX2_stageBehind 76 = .ok (.goto 4, 3) := by decide +kernel
theorem dX2_stageBehind_79 : decode cX2_stageBehind 79 = .ok (.iconst 5, 1) := by decide +kernel
theorem dX2_stageBehind_80 : decode cX2_stageBehind 80 = .ok (.ireturn, 1) := by decide +kernel
theorem dX2_stageBehind_81 : decode cX2_stageBehind 81 = .ok (.iconst 5, 1) := by decide +kernel
theorem dX2_stageBehind_82 : decode cX2_stageBehind 82 = .ok (.ireturn, 1) := by decide +kernel
theorem dX3_init_0 : decode cX3_init 0 = .ok (.aload_n 0, 1) := by decide +kernel
theorem dX3_init_1 : decode cX3_init 1 = .ok (.invokespecial 3, 3) := by decide +kernel
theorem dX3_init_4 : decode cX3_init 4 = .ok (.aload_n 0, 1) := by decide +kernel
theorem dX3_init_5 : decode cX3_init 5 = .ok (.bipush 12, 2) := by decide +kernel
theorem dX3_init_7 : decode cX3_init 7 = .ok (.newarray .int, 2) := by decide +kernel
theorem dX3_init_9 : decode cX3_init 9 = .ok (.putfield 9, 3) := by decide +kernel
theorem dX3_init_12 : decode cX3_init 12 = .ok (.aload_n 0, 1) := by decide +kernel
theorem dX3_init_13 : decode cX3_init 13 = .ok (.bipush 12, 2) := by decide +kernel
theorem dX3_init_15 : decode cX3_init 15 = .ok (.newarray .int, 2) := by decide +kernel
theorem dX3_init_17 : decode cX3_init 17 = .ok (.putfield 15, 3) := by decide +kernel
theorem dX3_init_20 : decode cX3_init 20 = .ok (.aload_n 0, 1) := by decide +kernel
theorem dX3_init_21 : decode cX3_init 21 = .ok (.bipush 12, 2) := by decide +kernel
theorem dX3_init_23 : decode cX3_init 23 = .ok (.newarray .int, 2) := by decide +kernel
theorem dX3_init_25 : decode cX3_init 25 = .ok (.putfield 18, 3) := by decide +kernel
theorem dX3_init_28 : decode cX3_init 28 = .ok (.aload_n 0, 1) := by decide +kernel
theorem dX3_init_29 : decode cX3_init 29 = .ok (.iconst 4, 1) := by decide +kernel
theorem dX3_init_30 : decode cX3_init 30 = .ok (.newarray .int, 2) := by decide +kernel
theorem dX3_init_32 : decode cX3_init 32 = .ok (.putfield 21, 3) := by decide +kernel
theorem dX3_init_35 : decode cX3_init 35 = .ok (.aload_n 0, 1) := by decide +kernel
theorem dX3_init_36 : decode cX3_init 36 = .ok (.iconst 4, 1) := by decide +kernel
theorem dX3_init_37 : decode cX3_init 37 = .ok (.newarray .int, 2) := by decide +kernel
theorem dX3_init_39 : decode cX3_init 39 = .ok (.putfield 24, 3) := by decide +kernel
theorem dX3_init_42 : decode cX3_init 42 = .ok (.aload_n 0, 1) := by decide +kernel
theorem dX3_init_43 : decode cX3_init 43 = .ok (.bipush 8, 2) := by decide +kernel
theorem dX3_init_45 : decode cX3_init 45 = .ok (.newarray .int, 2) := by decide +kernel
theorem dX3_init_47 : decode cX3_init 47 = .ok (.putfield 27, 3) := by decide +kernel
theorem dX3_init_50 : decode cX3_init 50 = .ok (.aload_n 0, 1) := by decide +kernel
theorem dX3_init_51 : decode cX3_init 51 = .ok (.iconst 0, 1) := by decide +kernel
theorem dX3_init_52 : decode cX3_init 52 = .ok (.putfield 30, 3) := by decide +kernel
theorem dX3_init_55 : decode cX3_init 55 = .ok (.aload_n 0, 1) := by decide +kernel
theorem dX3_init_56 : decode cX3_init 56 = .ok (.bipush 6, 2) := by decide +kernel
theorem dX3_init_58 : decode cX3_init 58 = .ok (.newarray .int, 2) := by decide +kernel
theorem dX3_init_60 : decode cX3_init 60 = .ok (.putfield 34, 3) := by decide +kernel
theorem dX3_init_63 : decode cX3_init 63 = .ok (.aload_n 0, 1) := by decide +kernel
theorem dX3_init_64 : decode cX3_init 64 = .ok (.bipush 6, 2) := by decide +kernel
theorem dX3_init_66 : decode cX3_init 66 = .ok (.newarray .int, 2) := by decide +kernel
theorem dX3_init_68 : decode cX3_init 68 = .ok (.putfield 37, 3) := by decide +kernel
theorem dX3_init_71 : decode cX3_init 71 = .ok (.aload_n 0, 1) := by decide +kernel
theorem dX3_init_72 : decode cX3_init 72 = .ok (.bipush 6, 2) := by decide +kernel
theorem dX3_init_74 : decode cX3_init 74 = .ok (.newarray .int, 2) := by decide +kernel
theorem dX3_init_76 : decode cX3_init 76 = .ok (.putfield 40, 3) := by decide +kernel
theorem dX3_init_79 : decode cX3_init 79 = .ok (.aload_n 0, 1) := by decide +kernel
theorem dX3_init_80 : decode cX3_init 80 = .ok (.iconst 0, 1) := by decide +kernel
theorem dX3_init_81 : decode cX3_init 81 = .ok (.putfield 43, 3) := by decide +kernel
theorem dX3_init_84 : decode cX3_init 84 = .ok (.iconst 0, 1) := by decide +kernel
theorem dX3_init_85 : decode cX3_init 85 = .ok (.istore_n 1, 1) := by decide +kernel
theorem dX3_init_86 : decode cX3_init 86 = .ok (.iload_n 1, 1) := by decide +kernel
theorem dX3_init_87 : decode cX3_init 87 = .ok (.bipush 12, 2) := by decide +kernel
theorem dX3_init_89 : decode cX3_init 89 = .ok (.if_icmp .ge 33, 3) := by decide +kernel
theorem dX3_init_92 : decode cX3_init 92 = .ok (.aload_n 0, 1) := by decide +kernel
theorem dX3_init_93 : decode cX3_init 93 = .ok (.getfield 9, 3) := by decide +kernel
theorem dX3_init_96 : decode cX3_init 96 = .ok (.iload_n 1, 1) := by decide +kernel
theorem dX3_init_97 : decode cX3_init 97 = .ok (.bipush 10, 2) := by decide +kernel
theorem dX3_init_99 : decode cX3_init 99 = .ok (.iastore, 1) := by decide +kernel
theorem dX3_init_100 : decode cX3_init 100 = .ok (.aload_n 0, 1) := by decide +kernel
theorem dX3_init_101 : decode cX3_init 101 = .ok (.getfield 15, 3) := by decide +kernel
theorem dX3_init_104 : decode cX3_init 104 = .ok (.iload_n 1, 1) := by decide +kernel
theorem dX3_init_105 : decode cX3_init 105 = .ok (.iconst 0, 1) := by decide +kernel
theorem dX3_init_106 : decode cX3_init 106 = .ok (.iastore, 1) := by decide +kernel
theorem dX3_init_107 : decode cX3_init 107 = .ok (.aload_n 0, 1) := by decide +kernel
theorem dX3_init_108 : decode cX3_init 108 = .ok (.getfield 18, 3) := by decide +kernel
theorem dX3_init_111 : decode cX3_init 111 = .ok (.iload_n 1, 1) := by decide +kernel
theorem dX3_init_112 : decode cX3_init 112 = .ok (.iconst 1, 1) := by decide +kernel
theorem dX3_init_113 : decode cX3_init 113 = .ok (.iload_n 1, 1) := by decide +kernel
theorem dX3_init_114 : decode cX3_init 114 = .ok (.ishl, 1) := by decide +kernel
theorem dX3_init_115 : decode cX3_init 115 = .ok (.iastore, 1) := by decide +kernel
theorem dX3_init_116 : decode cX3_init 116 = .ok (.iinc 1 1, 3) := by decide +kernel
theorem dX3_init_119 : decode cX3_init 119 = .ok (.goto (-33), 3) := by decide +kernel
theorem dX3_init_122 : decode cX3_init 122 = .ok (.iconst 0, 1) := by decide +kernel
theorem dX3_init_123 : decode cX3_init 123 = .ok (.istore_n 1, 1) := by decide +kernel
theorem dX3_init_124 : decode cX3_init 124 = .ok (.iload_n 1, 1) := by decide +kernel
theorem dX3_init_125 : decode cX3_init 125 = .ok (.iconst 4, 1) := by decide +kernel
theorem dX3_init_126 : decode cX3_init 126 = .ok (.if_icmp .ge 17, 3) := by decide +kernel
theorem dX3_init_129 : decode cX3_init 129 = .ok (.aload_n 0, 1) := by decide +kernel
theorem dX3_init_130 : decode cX3_init 130 = .ok (.getfield 21, 3) := by decide +kernel
theorem dX3_init_133 : decode cX3_init 133 = .ok (.iload_n 1, 1) := by decide +kernel
theorem dX3_init_134 : decode cX3_init 134 = .ok (.bipush 50, 2) := by decide +kernel
theorem dX3_init_136 : decode cX3_init 136 = .ok (.iastore, 1) := by decide +kernel
theorem dX3_init_137 : decode cX3_init 137 = .ok (.iinc 1 1, 3) := by decide +kernel
theorem dX3_init_140 : decode cX3_init 140 = .ok (.goto (-16), 3) := by decide +kernel
theorem dX3_init_143 : decode cX3_init 143 = .ok (.return_, 1) := by decide +kernel
set_option maxRecDepth 20000 in
theorem ggX3_copyFrom_X4_copyRow : GoodIn wsX3_copyFrom wsX4_copyRow := goodIn_r _ [14] (by decide +kernel) (by decide +kernel)
set_option maxRecDepth 20000 in
theorem gX3_copyFrom_X4_copyRow_n46 : GoodIn wsX3_copyFrom (wsX4_copyRow) := ggX3_copyFrom_X4_copyRow
theorem dX3_copyFrom_0 : decode cX3_copyFrom 0 = .ok (.aload_n 1, 1) := by decide +kernel
theorem dX3_copyFrom_1 : decode cX3_copyFrom 1 = .ok (.getfield 9, 3) := by decide +kernel
theorem dX3_copyFrom_4 : decode cX3_copyFrom 4 = .ok (.aload_n 0, 1) := by decide +kernel
theorem dX3_copyFrom_5 : decode cX3_copyFrom 5 = .ok (.getfield 9, 3) := by decide +kernel
theorem dX3_copyFrom_8 : decode cX3_copyFrom 8 = .ok (.invokestatic 46, 3) := by decide +kernel
theorem dX3_copyFrom_11 : decode cX3_copyFrom 11 = .ok (.aload_n 1, 1) := by decide +kernel
theorem dX3_copyFrom_12 : decode cX3_copyFrom 12 = .ok (.getfield 15, 3) := by decide +kernel
theorem dX3_copyFrom_15 : decode cX3_copyFrom 15 = .ok (.aload_n 0, 1) := by decide +kernel
theorem dX3_copyFrom_16 : decode cX3_copyFrom 16 = .ok (.getfield 15, 3) := by decide +kernel
theorem dX3_copyFrom_19 : decode cX3_copyFrom 19 = .ok (.invokestatic 46, 3) := by decide +kernel
theorem dX3_copyFrom_22 : decode cX3_copyFrom 22 = .ok (.aload_n 1, 1) := by decide +kernel
theorem dX3_copyFrom_23 : decode cX3_copyFrom 23 = .ok (.getfield 18, 3) := by decide +kernel
theorem dX3_copyFrom_26 : decode cX3_copyFrom 26 = .ok (.aload_n 0, 1) := by decide +kernel
theorem dX3_copyFrom_27 : decode cX3_copyFrom 27 = .ok (.getfield 18, 3) := by decide +kernel
theorem dX3_copyFrom_30 : decode cX3_copyFrom 30 = .ok (.invokestatic 46, 3) := by decide +kernel
theorem dX3_copyFrom_33 : decode cX3_copyFrom 33 = .ok (.aload_n 1, 1) := by decide +kernel
theorem dX3_copyFrom_34 : decode cX3_copyFrom 34 = .ok (.getfield 21, 3) := by decide +kernel
theorem dX3_copyFrom_37 : decode cX3_copyFrom 37 = .ok (.aload_n 0, 1) := by decide +kernel
theorem dX3_copyFrom_38 : decode cX3_copyFrom 38 = .ok (.getfield 21, 3) := by decide +kernel
theorem dX3_copyFrom_41 : decode cX3_copyFrom 41 = .ok (.invokestatic 46, 3) := by decide +kernel
theorem dX3_copyFrom_44 : decode cX3_copyFrom 44 = .ok (.aload_n 1, 1) := by decide +kernel
theorem dX3_copyFrom_45 : decode cX3_copyFrom 45 = .ok (.getfield 24, 3) := by decide +kernel
theorem dX3_copyFrom_48 : decode cX3_copyFrom 48 = .ok (.aload_n 0, 1) := by decide +kernel
theorem dX3_copyFrom_49 : decode cX3_copyFrom 49 = .ok (.getfield 24, 3) := by decide +kernel
theorem dX3_copyFrom_52 : decode cX3_copyFrom 52 = .ok (.invokestatic 46, 3) := by decide +kernel
theorem dX3_copyFrom_55 : decode cX3_copyFrom 55 = .ok (.aload_n 1, 1) := by decide +kernel
theorem dX3_copyFrom_56 : decode cX3_copyFrom 56 = .ok (.getfield 27, 3) := by decide +kernel
theorem dX3_copyFrom_59 : decode cX3_copyFrom 59 = .ok (.aload_n 0, 1) := by decide +kernel
theorem dX3_copyFrom_60 : decode cX3_copyFrom 60 = .ok (.getfield 27, 3) := by decide +kernel
theorem dX3_copyFrom_63 : decode cX3_copyFrom 63 = .ok (.invokestatic 46, 3) := by decide +kernel
theorem dX3_copyFrom_66 : decode cX3_copyFrom 66 = .ok (.aload_n 0, 1) := by decide +kernel
theorem dX3_copyFrom_67 : decode cX3_copyFrom 67 = .ok (.aload_n 1, 1) := by decide +kernel
theorem dX3_copyFrom_68 : decode cX3_copyFrom 68 = .ok (.getfield 30, 3) := by decide +kernel
theorem dX3_copyFrom_71 : decode cX3_copyFrom 71 = .ok (.putfield 30, 3) := by decide +kernel
theorem dX3_copyFrom_74 : decode cX3_copyFrom 74 = .ok (.aload_n 1, 1) := by decide +kernel
theorem dX3_copyFrom_75 : decode cX3_copyFrom 75 = .ok (.getfield 34, 3) := by decide +kernel
theorem dX3_copyFrom_78 : decode cX3_copyFrom 78 = .ok (.aload_n 0, 1) := by decide +kernel
theorem dX3_copyFrom_79 : decode cX3_copyFrom 79 = .ok (.getfield 34, 3) := by decide +kernel
theorem dX3_copyFrom_82 : decode cX3_copyFrom 82 = .ok (.invokestatic 46, 3) := by decide +kernel
theorem dX3_copyFrom_85 : decode cX3_copyFrom 85 = .ok (.aload_n 1, 1) := by decide +kernel
theorem dX3_copyFrom_86 : decode cX3_copyFrom 86 = .ok (.getfield 37, 3) := by decide +kernel
theorem dX3_copyFrom_89 : decode cX3_copyFrom 89 = .ok (.aload_n 0, 1) := by decide +kernel
theorem dX3_copyFrom_90 : decode cX3_copyFrom 90 = .ok (.getfield 37, 3) := by decide +kernel
theorem dX3_copyFrom_93 : decode cX3_copyFrom 93 = .ok (.invokestatic 46, 3) := by decide +kernel
theorem dX3_copyFrom_96 : decode cX3_copyFrom 96 = .ok (.aload_n 1, 1) := by decide +kernel
theorem dX3_copyFrom_97 : decode cX3_copyFrom 97 = .ok (.getfield 40, 3) := by decide +kernel
theorem dX3_copyFrom_100 : decode cX3_copyFrom 100 = .ok (.aload_n 0, 1) := by decide +kernel
theorem dX3_copyFrom_101 : decode cX3_copyFrom 101 = .ok (.getfield 40, 3) := by decide +kernel
theorem dX3_copyFrom_104 : decode cX3_copyFrom 104 = .ok (.invokestatic 46, 3) := by decide +kernel
theorem dX3_copyFrom_107 : decode cX3_copyFrom 107 = .ok (.aload_n 0, 1) := by decide +kernel
theorem dX3_copyFrom_108 : decode cX3_copyFrom 108 = .ok (.aload_n 1, 1) := by decide +kernel
theorem dX3_copyFrom_109 : decode cX3_copyFrom 109 = .ok (.getfield 43, 3) := by decide +kernel
theorem dX3_copyFrom_112 : decode cX3_copyFrom 112 = .ok (.putfield 43, 3) := by decide +kernel
theorem dX3_copyFrom_115 : decode cX3_copyFrom 115 = .ok (.return_, 1) := by decide +kernel
set_option maxRecDepth 20000 in
theorem ggX3_joinRhymes_X4_isWord : GoodIn wsX3_joinRhymes wsX4_isWord := goodIn_r _ [4, 5, 6, 3, 7] (by decide +kernel) (by decide +kernel)
set_option maxRecDepth 20000 in
theorem gX3_joinRhymes_X4_isWord_n50 : GoodIn wsX3_joinRhymes (wsX4_isWord) := ggX3_joinRhymes_X4_isWord
set_option maxRecDepth 20000 in
theorem ggX3_joinRhymes_X4_isIn : GoodIn wsX3_joinRhymes wsX4_isIn := goodIn_r _ [9] (by decide +kernel) (by decide +kernel)
set_option maxRecDepth 20000 in
theorem gX3_joinRhymes_X4_isIn_n54 : GoodIn wsX3_joinRhymes (wsX4_isIn) := ggX3_joinRhymes_X4_isIn
theorem dX3_joinRhymes_0 : decode cX3_joinRhymes 0 = .ok (.iload_n 1, 1) := by decide +kernel
theorem dX3_joinRhymes_1 : decode cX3_joinRhymes 1 = .ok (.invokestatic 50, 3) := by decide +kernel
theorem dX3_joinRhymes_4 : decode cX3_joinRhymes 4 = .ok (.ifCond .eq 10, 3) := by decide +kernel
theorem dX3_joinRhymes_7 : decode cX3_joinRhymes 7 = .ok (.iload_n 2, 1) := by decide +kernel
theorem dX3_joinRhymes_8 : decode cX3_joinRhymes 8 = .ok (.invokestatic 50, 3) := by decide +kernel
theorem dX3_joinRhymes_11 : decode cX3_joinRhymes 11 = .ok (.ifCond .ne 4, 3) := by decide +kernel
theorem dX3_joinRhymes_14 : decode cX3_joinRhymes 14 = .ok (.return_, 1) := by decide +kernel
theorem dX3_joinRhymes_15 : decode cX3_joinRhymes 15 = .ok (.aload_n 0, 1) := by decide +kernel
theorem dX3_joinRhymes_16 : decode cX3_joinRhymes 16 = .ok (.getfield 18, 3) := by decide +kernel
theorem dX3_joinRhymes_19 : decode cX3_joinRhymes 19 = .ok (.iload_n 1, 1) := by decide +kernel
theorem dX3_joinRhymes_20 : decode cX3_joinRhymes 20 = .ok (.iaload, 1) := by decide +kernel
theorem dX3_joinRhymes_21 : decode cX3_joinRhymes 21 = .ok (.aload_n 0, 1) := by decide +kernel
theorem dX3_joinRhymes_22 : decode cX3_joinRhymes 22 = .ok (.getfield 18, 3) := by decide +kernel
theorem dX3_joinRhymes_25 : decode cX3_joinRhymes 25 = .ok (.iload_n 2, 1) := by decide +kernel
theorem dX3_joinRhymes_26 : decode cX3_joinRhymes 26 = .ok (.iaload, 1) := by decide +kernel
theorem dX3_joinRhymes_27 : decode cX3_joinRhymes 27 = .ok (.ior, 1) := by decide +kernel
theorem dX3_joinRhymes_28 : decode cX3_joinRhymes 28 = .ok (.istore_n 3, 1) := by decide +kernel
theorem dX3_joinRhymes_29 : decode cX3_joinRhymes 29 = .ok (.iconst 0, 1) := by decide +kernel
theorem dX3_joinRhymes_30 : decode cX3_joinRhymes 30 = .ok (.istore 4, 2) := by decide +kernel
theorem dX3_joinRhymes_32 : decode cX3_joinRhymes 32 = .ok (.iload 4, 2) := by decide +kernel
theorem dX3_joinRhymes_34 : decode cX3_joinRhymes 34 = .ok (.bipush 12, 2) := by decide +kernel
theorem dX3_joinRhymes_36 : decode cX3_joinRhymes 36 = .ok (.if_icmp .ge 26, 3) := by decide +kernel
theorem dX3_joinRhymes_39 : decode cX3_joinRhymes 39 = .ok (.iload 4, 2) := by decide +kernel
theorem dX3_joinRhymes_41 : decode cX3_joinRhymes 41 = .ok (.iload_n 3, 1) := by decide +kernel
theorem dX3_joinRhymes_42 : decode cX3_joinRhymes 42 = .ok (.invokestatic 54, 3) := by decide +kernel
theorem dX3_joinRhymes_45 : decode cX3_joinRhymes 45 = .ok (.ifCond .eq 11, 3) := by decide +kernel
theorem dX3_joinRhymes_48 : decode cX3_joinRhymes 48 = .ok (.aload_n 0, 1) := by decide +kernel
theorem dX3_joinRhymes_49 : decode cX3_joinRhymes 49 = .ok (.getfield 18, 3) := by decide +kernel
theorem dX3_joinRhymes_52 : decode cX3_joinRhymes 52 = .ok (.iload 4, 2) := by decide +kernel
theorem dX3_joinRhymes_54 : decode cX3_joinRhymes 54 = .ok (.iload_n 3, 1) := by decide +kernel
theorem dX3_joinRhymes_55 : decode cX3_joinRhymes 55 = .ok (.iastore, 1) := by decide +kernel
theorem dX3_joinRhymes_56 : decode cX3_joinRhymes 56 = .ok (.iinc 4 1, 3) := by decide +kernel
theorem dX3_joinRhymes_59 : decode cX3_joinRhymes 59 = .ok (.goto (-27), 3) := by decide +kernel
theorem dX3_joinRhymes_62 : decode cX3_joinRhymes 62 = .ok (.return_, 1) := by decide +kernel
set_option maxRecDepth 20000 in
theorem ggX3_leaveRhymes_X4_isWord : GoodIn wsX3_leaveRhymes wsX4_isWord := goodIn_r _ [4, 5, 6, 3, 7] (by decide +kernel) (by decide +kernel)
set_option maxRecDepth 20000 in
theorem gX3_leaveRhymes_X4_isWord_n50 : GoodIn wsX3_leaveRhymes (wsX4_isWord) := ggX3_leaveRhymes_X4_isWord
theorem dX3_leaveRhymes_0 : decode cX3_leaveRhymes 0 = .ok (.iload_n 1, 1) := by decide +kernel
theorem dX3_leaveRhymes_1 : decode cX3_leaveRhymes 1 = .ok (.invokestatic 50, 3) := by decide +kernel
theorem dX3_leaveRhymes_4 : decode cX3_leaveRhymes 4 = .ok (.ifCond .ne 4, 3) := by decide +kernel
theorem dX3_leaveRhymes_7 : decode cX3_leaveRhymes 7 = .ok (.return_, 1) := by decide +kernel
theorem dX3_leaveRhymes_8 : decode cX3_leaveRhymes 8 = .ok (.iconst 1, 1) := by decide +kernel
theorem dX3_leaveRhymes_9 : decode cX3_leaveRhymes 9 = .ok (.iload_n 1, 1) := by decide +kernel
theorem dX3_leaveRhymes_10 : decode cX3_leaveRhymes 10 = .ok (.ishl, 1) := by decide +kernel
theorem dX3_leaveRhymes_11 : decode cX3_leaveRhymes 11 = .ok (.istore_n 2, 1) := by decide +kernel
theorem dX3_leaveRhymes_12 : decode cX3_leaveRhymes 12 = .ok (.iconst 0, 1) := by decide +kernel
theorem dX3_leaveRhymes_13 : decode cX3_leaveRhymes 13 = .ok (.istore_n 3, 1) := by decide +kernel
theorem dX3_leaveRhymes_14 : decode cX3_leaveRhymes 14 = .ok (.iload_n 3, 1) := by decide +kernel
theorem dX3_leaveRhymes_15 : decode cX3_leaveRhymes 15 = .ok (.bipush 12, 2) := by decide +kernel
theorem dX3_leaveRhymes_17 : decode cX3_leaveRhymes 17 = .ok (.if_icmp .ge 21, 3) := by decide +kernel
theorem dX3_leaveRhymes_20 : decode cX3_leaveRhymes 20 = .ok (.aload_n 0, 1) := by decide +kernel
theorem dX3_leaveRhymes_21 : decode cX3_leaveRhymes 21 = .ok (.getfield 18, 3) := by decide +kernel
theorem dX3_leaveRhymes_24 : decode cX3_leaveRhymes 24 = .ok (.iload_n 3, 1) := by decide +kernel
theorem dX3_leaveRhymes_25 : decode cX3_leaveRhymes 25 = .ok (.dup2, 1) := by decide +kernel
theorem dX3_leaveRhymes_26 : decode cX3_leaveRhymes 26 = .ok (.iaload, 1) := by decide +kernel
theorem dX3_leaveRhymes_27 : decode cX3_leaveRhymes 27 = .ok (.iload_n 2, 1) := by decide +kernel
theorem dX3_leaveRhymes_28 : decode cX3_leaveRhymes 28 = .ok (.iconst (-1), 1) := by decide +kernel
theorem dX3_leaveRhymes_29 : decode cX3_leaveRhymes 29 = .ok (.ixor, 1) := by decide +kernel
theorem dX3_leaveRhymes_30 : decode cX3_leaveRhymes 30 = .ok (.iand, 1) := by decide +kernel
theorem dX3_leaveRhymes_31 : decode cX3_leaveRhymes 31 = .ok (.iastore, 1) := by decide +kernel
theorem dX3_leaveRhymes_32 : decode cX3_leaveRhymes 32 = .ok (.iinc 3 1, 3) := by decide +kernel
theorem dX3_leaveRhymes_35 : decode cX3_leaveRhymes 35 = .ok (.goto (-21), 3) := by decide +kernel
theorem dX3_leaveRhymes_38 : decode cX3_leaveRhymes 38 = .ok (.aload_n 0, 1) := by decide +kernel
theorem dX3_leaveRhymes_39 : decode cX3_leaveRhymes 39 = .ok (.getfield 18, 3) := by decide +kernel
theorem dX3_leaveRhymes_42 : decode cX3_leaveRhymes 42 = .ok (.iload_n 1, 1) := by decide +kernel
theorem dX3_leaveRhymes_43 : decode cX3_leaveRhymes 43 = .ok (.iload_n 2, 1) := by decide +kernel
theorem dX3_leaveRhymes_44 : decode cX3_leaveRhymes 44 = .ok (.iastore, 1) := by decide +kernel
theorem dX3_leaveRhymes_45 : decode cX3_leaveRhymes 45 = .ok (.return_, 1) := by decide +kernel
set_option maxRecDepth 20000 in
theorem ggX3_weigh_X4_isIn : GoodIn wsX3_weigh wsX4_isIn := goodIn_r _ [4] (by decide +kernel) (by decide +kernel)
set_option maxRecDepth 20000 in
theorem gX3_weigh_X4_isIn_n54 : GoodIn wsX3_weigh (wsX4_isIn) := ggX3_weigh_X4_isIn
set_option maxRecDepth 20000 in
theorem ggX3_weigh_X3_heaviestOf : GoodIn wsX3_weigh wsX3_heaviestOf := goodIn_r _ [9, 10, 11, 12, 13, 14, 2, 3, 4, 15, 16, 17, 18, 19, 20, 21, 22, 23, 24, 25] (by decide +kernel) (by decide +kernel)
set_option maxRecDepth 20000 in
theorem gX3_weigh_X3_heaviestOf : GoodIn wsX3_weigh (wsV RX3 58 RX3 yX3_heaviestOf wsX3_heaviestOf) := goodIn_app (goodIn_of _ (by decide +kernel)) ggX3_weigh_X3_heaviestOf
theorem dX3_weigh_0 : decode cX3_weigh 0 = .ok (.iconst 0, 1) := by decide +kernel
theorem dX3_weigh_1 : decode cX3_weigh 1 = .ok (.istore_n 2, 1) := by decide +kernel
theorem dX3_weigh_2 : decode cX3_weigh 2 = .ok (.iload_n 1, 1) := by decide +kernel
theorem dX3_weigh_3 : decode cX3_weigh 3 = .ok (.istore_n 3, 1) := by decide +kernel
theorem dX3_weigh_4 : decode cX3_weigh 4 = .ok (.iconst 0, 1) := by decide +kernel
theorem dX3_weigh_5 : decode cX3_weigh 5 = .ok (.istore 4, 2) := by decide +kernel
theorem dX3_weigh_7 : decode cX3_weigh 7 = .ok (.iload 4, 2) := by decide +kernel
theorem dX3_weigh_9 : decode cX3_weigh 9 = .ok (.bipush 12, 2) := by decide +kernel
theorem dX3_weigh_11 : decode cX3_weigh 11 = .ok (.if_icmp .ge 46, 3) := by decide +kernel
theorem dX3_weigh_14 : decode cX3_weigh 14 = .ok (.iload 4, 2) := by decide +kernel
theorem dX3_weigh_16 : decode cX3_weigh 16 = .ok (.iload_n 3, 1) := by decide +kernel
theorem dX3_weigh_17 : decode cX3_weigh 17 = .ok (.invokestatic 54, 3) := by decide +kernel
theorem dX3_weigh_20 : decode cX3_weigh 20 = .ok (.ifCond .eq 31, 3) := by decide +kernel
theorem dX3_weigh_23 : decode cX3_weigh 23 = .ok (.iload_n 2, 1) := by decide +kernel
theorem dX3_weigh_24 : decode cX3_weigh 24 = .ok (.aload_n 0, 1) := by decide +kernel
theorem dX3_weigh_25 : decode cX3_weigh 25 = .ok (.iload_n 3, 1) := by decide +kernel
theorem dX3_weigh_26 : decode cX3_weigh 26 = .ok (.aload_n 0, 1) := by decide +kernel
theorem dX3_weigh_27 : decode cX3_weigh 27 = .ok (.getfield 18, 3) := by decide +kernel
theorem dX3_weigh_30 : decode cX3_weigh 30 = .ok (.iload 4, 2) := by decide +kernel
theorem dX3_weigh_32 : decode cX3_weigh 32 = .ok (.iaload, 1) := by decide +kernel
theorem dX3_weigh_33 : decode cX3_weigh 33 = .ok (.iand, 1) := by decide +kernel
theorem dX3_weigh_34 : decode cX3_weigh 34 = .ok (.invokevirtual 58, 3) := by decide +kernel
theorem dX3_weigh_37 : decode cX3_weigh 37 = .ok (.iadd, 1) := by decide +kernel
theorem dX3_weigh_38 : decode cX3_weigh 38 = .ok (.istore_n 2, 1) := by decide +kernel
theorem dX3_weigh_39 : decode cX3_weigh 39 = .ok (.iload_n 3, 1) := by decide +kernel
theorem dX3_weigh_40 : decode cX3_weigh 40 = .ok (.aload_n 0, 1) := by decide +kernel
theorem dX3_weigh_41 : decode cX3_weigh 41 = .ok (.getfield 18, 3) := by decide +kernel
theorem dX3_weigh_44 : decode cX3_weigh 44 = .ok (.iload 4, 2) := by decide +kernel
theorem dX3_weigh_46 : decode cX3_weigh 46 = .ok (.iaload, 1) := by decide +kernel
theorem dX3_weigh_47 : decode cX3_weigh 47 = .ok (.iconst (-1), 1) := by decide +kernel
theorem dX3_weigh_48 : decode cX3_weigh 48 = .ok (.ixor, 1) := by decide +kernel
theorem dX3_weigh_49 : decode cX3_weigh 49 = .ok (.iand, 1) := by decide +kernel
theorem dX3_weigh_50 : decode cX3_weigh 50 = .ok (.istore_n 3, 1) := by decide +kernel
theorem dX3_weigh_51 : decode cX3_weigh 51 = .ok (.iinc 4 1, 3) := by decide +kernel
theorem dX3_weigh_54 : decode cX3_weigh 54 = .ok (.goto (-47), 3) := by decide +kernel
theorem dX3_weigh_57 : decode cX3_weigh 57 = .ok (.iload_n 2, 1) := by decide +kernel
theorem dX3_weigh_58 : decode cX3_weigh 58 = .ok (.ireturn, 1) := by decide +kernel
set_option maxRecDepth 20000 in
theorem ggX3_heaviestOf_X4_isIn : GoodIn wsX3_heaviestOf wsX4_isIn := goodIn_r _ [8] (by decide +kernel) (by decide +kernel)
set_option maxRecDepth 20000 in
theorem gX3_heaviestOf_X4_isIn_n54 : GoodIn wsX3_heaviestOf (wsX4_isIn) := ggX3_heaviestOf_X4_isIn
theorem dX3_heaviestOf_0 : decode cX3_heaviestOf 0 = .ok (.iconst 0, 1) := by decide +kernel
theorem dX3_heaviestOf_1 : decode cX3_heaviestOf 1 = .ok (.istore_n 2, 1) := by decide +kernel
theorem dX3_heaviestOf_2 : decode cX3_heaviestOf 2 = .ok (.iconst 0, 1) := by decide +kernel
theorem dX3_heaviestOf_3 : decode cX3_heaviestOf 3 = .ok (.istore_n 3, 1) := by decide +kernel
theorem dX3_heaviestOf_4 : decode cX3_heaviestOf 4 = .ok (.iload_n 3, 1) := by decide +kernel
theorem dX3_heaviestOf_5 : decode cX3_heaviestOf 5 = .ok (.bipush 12, 2) := by decide +kernel
theorem dX3_heaviestOf_7 : decode cX3_heaviestOf 7 = .ok (.if_icmp .ge 28, 3) := by decide +kernel
theorem dX3_heaviestOf_10 : decode cX3_heaviestOf 10 = .ok (.iload_n 3, 1) := by decide +kernel
theorem dX3_heaviestOf_11 : decode cX3_heaviestOf 11 = .ok (.iload_n 1, 1) := by decide +kernel
theorem dX3_heaviestOf_12 : decode cX3_heaviestOf 12 = .ok (.invokestatic 54, 3) := by decide +kernel
theorem dX3_heaviestOf_15 : decode cX3_heaviestOf 15 = .ok (.ifCond .eq 14, 3) := by decide +kernel
theorem dX3_heaviestOf_18 : decode cX3_heaviestOf 18 = .ok (.iload_n 2, 1) := by decide +kernel
theorem dX3_heaviestOf_19 : decode cX3_heaviestOf 19 = .ok (.aload_n 0, 1) := by decide +kernel
theorem dX3_heaviestOf_20 : decode cX3_heaviestOf 20 = .ok (.getfield 9, 3) := by decide +kernel
theorem dX3_heaviestOf_23 : decode cX3_heaviestOf 23 = .ok (.iload_n 3, 1) := by decide +kernel
theorem dX3_heaviestOf_24 : decode cX3_heaviestOf 24 = .ok (.iaload, 1) := by decide +kernel
theorem dX3_heaviestOf_25 : decode cX3_heaviestOf 25 = .ok (.invokestatic 62, 3) := by decide +kernel
theorem dX3_heaviestOf_28 : decode cX3_heaviestOf 28 = .ok (.istore_n 2, 1) := by decide +kernel
theorem dX3_heaviestOf_29 : decode cX3_heaviestOf 29 = .ok (.iinc 3 1, 3) := by decide +kernel
theorem dX3_heaviestOf_32 : decode cX3_heaviestOf 32 = .ok (.goto (-28), 3) := by decide +kernel
theorem dX3_heaviestOf_35 : decode cX3_heaviestOf 35 = .ok (.iload_n 2, 1) := by decide +kernel
theorem dX3_heaviestOf_36 : decode cX3_heaviestOf 36 = .ok (.ireturn, 1) := by decide +kernel
set_option maxRecDepth 20000 in
theorem ggX3_priceOf_X4_isIn : GoodIn wsX3_priceOf wsX4_isIn := goodIn_r _ [4] (by decide +kernel) (by decide +kernel)
set_option maxRecDepth 20000 in
theorem gX3_priceOf_X4_isIn_n54 : GoodIn wsX3_priceOf (wsX4_isIn) := ggX3_priceOf_X4_isIn
theorem dX3_priceOf_0 : decode cX3_priceOf 0 = .ok (.iconst 0, 1) := by decide +kernel
theorem dX3_priceOf_1 : decode cX3_priceOf 1 = .ok (.istore_n 2, 1) := by decide +kernel
theorem dX3_priceOf_2 : decode cX3_priceOf 2 = .ok (.iconst 0, 1) := by decide +kernel
theorem dX3_priceOf_3 : decode cX3_priceOf 3 = .ok (.istore_n 3, 1) := by decide +kernel
theorem dX3_priceOf_4 : decode cX3_priceOf 4 = .ok (.iload_n 3, 1) := by decide +kernel
theorem dX3_priceOf_5 : decode cX3_priceOf 5 = .ok (.bipush 12, 2) := by decide +kernel
theorem dX3_priceOf_7 : decode cX3_priceOf 7 = .ok (.if_icmp .ge 26, 3) := by decide +kernel
theorem dX3_priceOf_10 : decode cX3_priceOf 10 = .ok (.iload_n 3, 1) := by decide +kernel
theorem dX3_priceOf_11 : decode cX3_priceOf 11 = .ok (.iload_n 1, 1) := by decide +kernel
theorem dX3_priceOf_12 : decode cX3_priceOf 12 = .ok (.invokestatic 54, 3) := by decide +kernel
theorem dX3_priceOf_15 : decode cX3_priceOf 15 = .ok (.ifCond .eq 12, 3) := by decide +kernel
theorem dX3_priceOf_18 : decode cX3_priceOf 18 = .ok (.iload_n 2, 1) := by decide +kernel
theorem dX3_priceOf_19 : decode cX3_priceOf 19 = .ok (.aload_n 0, 1) := by decide +kernel
theorem dX3_priceOf_20 : decode cX3_priceOf 20 = .ok (.getfield 9, 3) := by decide +kernel
theorem dX3_priceOf_23 : decode cX3_priceOf 23 = .ok (.iload_n 3, 1) := by decide +kernel
theorem dX3_priceOf_24 : decode cX3_priceOf 24 = .ok (.iaload, 1) := by decide +kernel
theorem dX3_priceOf_25 : decode cX3_priceOf 25 = .ok (.iadd, 1) := by decide +kernel
theorem dX3_priceOf_26 : decode cX3_priceOf 26 = .ok (.istore_n 2, 1) := by decide +kernel
theorem dX3_priceOf_27 : decode cX3_priceOf 27 = .ok (.iinc 3 1, 3) := by decide +kernel
theorem dX3_priceOf_30 : decode cX3_priceOf 30 = .ok (.goto (-26), 3) := by decide +kernel
theorem dX3_priceOf_33 : decode cX3_priceOf 33 = .ok (.iload_n 2, 1) := by decide +kernel
theorem dX3_priceOf_34 : decode cX3_priceOf 34 = .ok (.ireturn, 1) := by decide +kernel
theorem dX3_ofKind_0 : decode cX3_ofKind 0 = .ok (.iconst 0, 1) := by decide +kernel
theorem dX3_ofKind_1 : decode cX3_ofKind 1 = .ok (.istore_n 2, 1) := by decide +kernel
theorem dX3_ofKind_2 : decode cX3_ofKind 2 = .ok (.iconst 0, 1) := by decide +kernel
theorem dX3_ofKind_3 : decode cX3_ofKind 3 = .ok (.istore_n 3, 1) := by decide +kernel
theorem dX3_ofKind_4 : decode cX3_ofKind 4 = .ok (.iload_n 3, 1) := by decide +kernel
theorem dX3_ofKind_5 : decode cX3_ofKind 5 = .ok (.bipush 12, 2) := by decide +kernel
theorem dX3_ofKind_7 : decode cX3_ofKind 7 = .ok (.if_icmp .ge 25, 3) := by decide +kernel
theorem dX3_ofKind_10 : decode cX3_ofKind 10 = .ok (.aload_n 0, 1) := by decide +kernel
theorem dX3_ofKind_11 : decode cX3_ofKind 11 = .ok (.getfield 15, 3) := by decide +kernel
theorem dX3_ofKind_14 : decode cX3_ofKind 14 = .ok (.iload_n 3, 1) := by decide +kernel
theorem dX3_ofKind_15 : decode cX3_ofKind 15 = .ok (.iaload, 1) := by decide +kernel
theorem dX3_ofKind_16 : decode cX3_ofKind 16 = .ok (.iload_n 1, 1) := by decide +kernel
theorem dX3_ofKind_17 : decode cX3_ofKind 17 = .ok (.if_icmp .ne 9, 3) := by decide +kernel
theorem dX3_ofKind_20 : decode cX3_ofKind 20 = .ok (.iload_n 2, 1) := by decide +kernel
theorem dX3_ofKind_21 : decode cX3_ofKind 21 = .ok (.iconst 1, 1) := by decide +kernel
theorem dX3_ofKind_22 : decode cX3_ofKind 22 = .ok (.iload_n 3, 1) := by decide +kernel
theorem dX3_ofKind_23 : decode cX3_ofKind 23 = .ok (.ishl, 1) := by decide +kernel
theorem dX3_ofKind_24 : decode cX3_ofKind 24 = .ok (.ior, 1) := by decide +kernel
theorem dX3_ofKind_25 : decode cX3_ofKind 25 = .ok (.istore_n 2, 1) := by decide +kernel
theorem dX3_ofKind_26 : decode cX3_ofKind 26 = .ok (.iinc 3 1, 3) := by decide +kernel
theorem dX3_ofKind_29 : decode cX3_ofKind 29 = .ok (.goto (-25), 3) := by decide +kernel
theorem dX3_ofKind_32 : decode cX3_ofKind 32 = .ok (.iload_n 2, 1) := by decide +kernel
theorem dX3_ofKind_33 : decode cX3_ofKind 33 = .ok (.ireturn, 1) := by decide +kernel
set_option maxRecDepth 20000 in
theorem ggX3_countKind_X3_ofKind : GoodIn wsX3_countKind wsX3_ofKind := goodIn_r _ [5, 6, 14, 15, 16, 17, 18, 19, 20, 21, 22, 23, 24] (by decide +kernel) (by decide +kernel)
set_option maxRecDepth 20000 in
theorem gX3_countKind_X3_ofKind : GoodIn wsX3_countKind (wsV RX3 68 RX3 yX3_ofKind wsX3_ofKind) := goodIn_app (goodIn_of _ (by decide +kernel)) ggX3_countKind_X3_ofKind
set_option maxRecDepth 20000 in
theorem ggX3_countKind_J6_bitCount_0f7a4 : GoodIn wsX3_countKind wsJ6_bitCount_0f7a4 := goodIn_r _ [10, 11, 12, 13] (by decide +kernel) (by decide +kernel)
set_option maxRecDepth 20000 in
theorem gX3_countKind_J6_bitCount_0f7a4 : GoodIn wsX3_countKind (va_wsS RX3 71 yJ6_bitCount_0f7a4 wsJ6_bitCount_0f7a4) := goodIn_app (goodIn_of _ (by decide +kernel)) ggX3_countKind_J6_bitCount_0f7a4
theorem dX3_countKind_0 : decode cX3_countKind 0 = .ok (.iload_n 1, 1) := by decide +kernel
theorem dX3_countKind_1 : decode cX3_countKind 1 = .ok (.aload_n 0, 1) := by decide +kernel
theorem dX3_countKind_2 : decode cX3_countKind 2 = .ok (.iload_n 2, 1) := by decide +kernel
theorem dX3_countKind_3 : decode cX3_countKind 3 = .ok (.invokevirtual 68, 3) := by decide +kernel
theorem dX3_countKind_6 : decode cX3_countKind 6 = .ok (.iand, 1) := by decide +kernel
theorem dX3_countKind_7 : decode cX3_countKind 7 = .ok (.invokestatic 71, 3) := by decide +kernel
theorem dX3_countKind_10 : decode cX3_countKind 10 = .ok (.ireturn, 1) := by decide +kernel
set_option maxRecDepth 20000 in
theorem ggX3_heldBy_X4_isIn : GoodIn wsX3_heldBy wsX4_isIn := goodIn_r _ [4] (by decide +kernel) (by decide +kernel)
set_option maxRecDepth 20000 in
theorem gX3_heldBy_X4_isIn_n54 : GoodIn wsX3_heldBy (wsX4_isIn) := ggX3_heldBy_X4_isIn
theorem dX3_heldBy_0 : decode cX3_heldBy 0 = .ok (.iconst 0, 1) := by decide +kernel
theorem dX3_heldBy_1 : decode cX3_heldBy 1 = .ok (.istore_n 2, 1) := by decide +kernel
theorem dX3_heldBy_2 : decode cX3_heldBy 2 = .ok (.iconst 0, 1) := by decide +kernel
theorem dX3_heldBy_3 : decode cX3_heldBy 3 = .ok (.istore_n 3, 1) := by decide +kernel
theorem dX3_heldBy_4 : decode cX3_heldBy 4 = .ok (.iload_n 3, 1) := by decide +kernel
theorem dX3_heldBy_5 : decode cX3_heldBy 5 = .ok (.iconst 4, 1) := by decide +kernel
theorem dX3_heldBy_6 : decode cX3_heldBy 6 = .ok (.if_icmp .ge 26, 3) := by decide +kernel
theorem dX3_heldBy_9 : decode cX3_heldBy 9 = .ok (.iload_n 3, 1) := by decide +kernel
theorem dX3_heldBy_10 : decode cX3_heldBy 10 = .ok (.iload_n 1, 1) := by decide +kernel
theorem dX3_heldBy_11 : decode cX3_heldBy 11 = .ok (.invokestatic 54, 3) := by decide +kernel
theorem dX3_heldBy_14 : decode cX3_heldBy 14 = .ok (.ifCond .eq 12, 3) := by decide +kernel
theorem dX3_heldBy_17 : decode cX3_heldBy 17 = .ok (.iload_n 2, 1) := by decide +kernel
theorem dX3_heldBy_18 : decode cX3_heldBy 18 = .ok (.aload_n 0, 1) := by decide +kernel
theorem dX3_heldBy_19 : decode cX3_heldBy 19 = .ok (.getfield 24, 3) := by decide +kernel
theorem dX3_heldBy_22 : decode cX3_heldBy 22 = .ok (.iload_n 3, 1) := by decide +kernel
theorem dX3_heldBy_23 : decode cX3_heldBy 23 = .ok (.iaload, 1) := by decide +kernel
theorem dX3_heldBy_24 : decode cX3_heldBy 24 = .ok (.ior, 1) := by decide +kernel
theorem dX3_heldBy_25 : decode cX3_heldBy 25 = .ok (.istore_n 2, 1) := by decide +kernel
theorem dX3_heldBy_26 : decode cX3_heldBy 26 = .ok (.iinc 3 1, 3) := by decide +kernel
theorem dX3_heldBy_29 : decode cX3_heldBy 29 = .ok (.goto (-25), 3) := by decide +kernel
theorem dX3_heldBy_32 : decode cX3_heldBy 32 = .ok (.iload_n 2, 1) := by decide +kernel
theorem dX3_heldBy_33 : decode cX3_heldBy 33 = .ok (.ireturn, 1) := by decide +kernel
set_option maxRecDepth 20000 in
theorem ggX3_countBelongings_J6_bitCount_0f7a4 : GoodIn wsX3_countBelongings wsJ6_bitCount_0f7a4 := goodIn_r _ [5, 6, 7, 8] (by decide +kernel) (by decide +kernel)
set_option maxRecDepth 20000 in
theorem gX3_countBelongings_J6_bitCount_0f7a4 : GoodIn wsX3_countBelongings (va_wsS RX3 71 yJ6_bitCount_0f7a4 wsJ6_bitCount_0f7a4) := goodIn_app (goodIn_of _ (by decide +kernel)) ggX3_countBelongings_J6_bitCount_0f7a4
theorem dX3_countBelongings_0 : decode cX3_countBelongings 0 = .ok (.iconst 0, 1) := by decide +kernel
theorem dX3_countBelongings_1 : decode cX3_countBelongings 1 = .ok (.istore_n 1, 1) := by decide +kernel
theorem dX3_countBelongings_2 : decode cX3_countBelongings 2 = .ok (.iconst 0, 1) := by decide +kernel
theorem dX3_countBelongings_3 : decode cX3_countBelongings 3 = .ok (.istore_n 2, 1) := by decide +kernel
theorem dX3_countBelongings_4 : decode cX3_countBelongings 4 = .ok (.iload_n 2, 1) := by decide +kernel
theorem dX3_countBelongings_5 : decode cX3_countBelongings 5 = .ok (.iconst 4, 1) := by decide +kernel
theorem dX3_countBelongings_6 : decode cX3_countBelongings 6 = .ok (.if_icmp .ge 21, 3) := by decide +kernel
theorem dX3_countBelongings_9 : decode cX3_countBelongings 9 = .ok (.iload_n 1, 1) := by decide +kernel
theorem dX3_countBelongings_10 : decode cX3_countBelongings 10 = .ok (.aload_n 0, 1) := by decide +kernel
theorem dX3_countBelongings_11 : decode cX3_countBelongings 11 = .ok (.getfield 24, 3) := by decide +kernel
theorem dX3_countBelongings_14 : decode cX3_countBelongings 14 = .ok (.iload_n 2, 1) := by decide +kernel
theorem dX3_countBelongings_15 : decode cX3_countBelongings 15 = .ok (.iaload, 1) := by decide +kernel
theorem dX3_countBelongings_16 : decode cX3_countBelongings 16 = .ok (.invokestatic 71, 3) := by decide +kernel
theorem dX3_countBelongings_19 : decode cX3_countBelongings 19 = .ok (.iadd, 1) := by decide +kernel
theorem dX3_countBelongings_20 : decode cX3_countBelongings 20 = .ok (.istore_n 1, 1) := by decide +kernel
theorem dX3_countBelongings_21 : decode cX3_countBelongings 21 = .ok (.iinc 2 1, 3) := by decide +kernel
theorem dX3_countBelongings_24 : decode cX3_countBelongings 24 = .ok (.goto (-20), 3) := by decide +kernel
theorem dX3_countBelongings_27 : decode cX3_countBelongings 27 = .ok (.iload_n 1, 1) := by decide +kernel
theorem dX3_countBelongings_28 : decode cX3_countBelongings 28 = .ok (.ireturn, 1) := by decide +kernel
set_option maxRecDepth 20000 in
theorem ggX3_canSayOnce_X3_countKind : GoodIn wsX3_canSayOnce wsX3_countKind := goodIn_r _ [5, 6, 7, 8, 4, 9, 10, 11, 12, 13, 14, 15, 16, 17, 18, 19, 20, 21, 22, 23, 24, 25, 26, 27, 28] (by decide +kernel) (by decide +kernel)
set_option maxRecDepth 20000 in
theorem gX3_canSayOnce_X3_countKind : GoodIn wsX3_canSayOnce (wsV RX3 76 RX3 yX3_countKind wsX3_countKind) := goodIn_app (goodIn_of _ (by decide +kernel)) ggX3_canSayOnce_X3_countKind
theorem dX3_canSayOnce_0 : decode cX3_canSayOnce 0 = .ok (.aload_n 0, 1) := by decide +kernel
theorem dX3_canSayOnce_1 : decode cX3_canSayOnce 1 = .ok (.iload_n 1, 1) := by decide +kernel
theorem dX3_canSayOnce_2 : decode cX3_canSayOnce 2 = .ok (.iconst 0, 1) := by decide +kernel
theorem dX3_canSayOnce_3 : decode cX3_canSayOnce 3 = .ok (.invokevirtual 76, 3) := by decide +kernel
theorem dX3_canSayOnce_6 : decode cX3_canSayOnce 6 = .ok (.istore_n 3, 1) := by decide +kernel
theorem dX3_canSayOnce_7 : decode cX3_canSayOnce 7 = .ok (.aload_n 0, 1) := by decide +kernel
theorem dX3_canSayOnce_8 : decode cX3_canSayOnce 8 = .ok (.iload_n 1, 1) := by decide +kernel
theorem dX3_canSayOnce_9 : decode cX3_canSayOnce 9 = .ok (.iconst 2, 1) := by decide +kernel
theorem dX3_canSayOnce_10 : decode cX3_canSayOnce 10 = .ok (.invokevirtual 76, 3) := by decide +kernel
theorem dX3_canSayOnce_13 : decode cX3_canSayOnce 13 = .ok (.istore 4, 2) := by decide +kernel
theorem dX3_canSayOnce_15 : decode cX3_canSayOnce 15 = .ok (.iload_n 2, 1) := by decide +kernel
theorem dX3_canSayOnce_16 : decode cX3_canSayOnce 16 = .ok (.iconst 2, 1) := by decide +kernel
theorem dX3_canSayOnce_17 : decode cX3_canSayOnce 17 = .ok (.if_icmp .lt 18, 3) := by decide +kernel
theorem dX3_canSayOnce_20 : decode cX3_canSayOnce 20 = .ok (.iload_n 3, 1) := by decide +kernel
theorem dX3_canSayOnce_21 : decode cX3_canSayOnce 21 = .ok (.iconst 1, 1) := by decide +kernel
theorem dX3_canSayOnce_22 : decode cX3_canSayOnce 22 = .ok (.if_icmp .lt 13, 3) := by decide +kernel
theorem dX3_canSayOnce_25 : decode cX3_canSayOnce 25 = .ok (.aload_n 0, 1) := by decide +kernel
theorem dX3_canSayOnce_26 : decode cX3_canSayOnce 26 = .ok (.iload_n 1, 1) := by decide +kernel
theorem dX3_canSayOnce_27 : decode cX3_canSayOnce 27 = .ok (.iconst 1, 1) := by decide +kernel
theorem dX3_canSayOnce_28 : decode cX3_canSayOnce 28 = .ok (.invokevirtual 76, 3) := by decide +kernel
theorem dX3_canSayOnce_31 : decode cX3_canSayOnce 31 = .ok (.iconst 1, 1) := by decide +kernel
theorem dX3_canSayOnce_32 : decode cX3_canSayOnce 32 = .ok (.if_icmp .ge 5, 3) := by decide +kernel
theorem dX3_canSayOnce_35 : decode cX3_canSayOnce 35 = .ok (.iconst 0, 1) := by decide +kernel
theorem dX3_canSayOnce_36 : decode cX3_canSayOnce 36 = .ok (.ireturn, 1) := by decide +kernel
theorem dX3_canSayOnce_37 : decode cX3_canSayOnce 37 = .ok (.iload 4, 2) := by decide +kernel
theorem dX3_canSayOnce_39 : decode cX3_canSayOnce 39 = .ok (.iload_n 2, 1) := by decide +kernel
theorem dX3_canSayOnce_40 : decode cX3_canSayOnce 40 = .ok (.iconst 2, 1) := by decide +kernel
theorem dX3_canSayOnce_41 : decode cX3_canSayOnce 41 = .ok (.isub, 1) := by decide +kernel
theorem dX3_canSayOnce_42 : decode cX3_canSayOnce 42 = .ok (.if_icmp .ge 21, 3) := by decide +kernel
theorem dX3_canSayOnce_45 : decode cX3_canSayOnce 45 = .ok (.iload_n 2, 1) := by decide +kernel
theorem dX3_canSayOnce_46 : decode cX3_canSayOnce 46 = .ok (.iconst 3, 1) := by decide +kernel
theorem dX3_canSayOnce_47 : decode cX3_canSayOnce 47 = .ok (.if_icmp .lt 20, 3) := by decide +kernel
theorem dX3_canSayOnce_50 : decode cX3_canSayOnce 50 = .ok (.iload_n 3, 1) := by decide +kernel
theorem dX3_canSayOnce_51 : decode cX3_canSayOnce 51 = .ok (.iconst 2, 1) := by decide +kernel
theorem dX3_canSayOnce_52 : decode cX3_canSayOnce 52 = .ok (.if_icmp .lt 15, 3) := by decide +kernel
theorem dX3_canSayOnce_55 : decode cX3_canSayOnce 55 = .ok (.iload 4, 2) := by decide +kernel
theorem dX3_canSayOnce_57 : decode cX3_canSayOnce 57 = .ok (.iload_n 2, 1) := by decide +kernel
theorem dX3_canSayOnce_58 : decode cX3_canSayOnce 58 = .ok (.iconst 3, 1) := by decide +kernel
theorem dX3_canSayOnce_59 : decode cX3_canSayOnce 59 = .ok (.isub, 1) := by decide +kernel
theorem dX3_canSayOnce_60 : decode cX3_canSayOnce 60 = .ok (.if_icmp .lt 7, 3) := by decide +kernel
theorem dX3_canSayOnce_63 : decode cX3_canSayOnce 63 = .ok (.iconst 1, 1) := by decide +kernel
theorem dX3_canSayOnce_64 : decode cX3_canSayOnce 64 = .ok (.goto 4, 3) := by decide +kernel
theorem dX3_canSayOnce_67 : decode cX3_canSayOnce 67 = .ok (.iconst 0, 1) := by decide +kernel
theorem dX3_canSayOnce_68 : decode cX3_canSayOnce 68 = .ok (.ireturn, 1) := by decide +kernel
theorem dX3_grantsAll_0 : decode cX3_grantsAll 0 = .ok (.iconst 0, 1) := by decide +kernel
theorem dX3_grantsAll_1 : decode cX3_grantsAll 1 = .ok (.istore_n 2, 1) := by decide +kernel
theorem dX3_grantsAll_2 : decode cX3_grantsAll 2 = .ok (.iload_n 2, 1) := by decide +kernel
theorem dX3_grantsAll_3 : decode cX3_grantsAll 3 = .ok (.aload_n 0, 1) := by decide +kernel
theorem dX3_grantsAll_4 : decode cX3_grantsAll 4 = .ok (.getfield 30, 3) := by decide +kernel
theorem dX3_grantsAll_7 : decode cX3_grantsAll 7 = .ok (.if_icmp .ge 28, 3) := by decide +kernel
theorem dX3_grantsAll_10 : decode cX3_grantsAll 10 = .ok (.iload_n 2, 1) := by decide +kernel
theorem dX3_grantsAll_11 : decode cX3_grantsAll 11 = .ok (.bipush 8, 2) := by decide +kernel
theorem dX3_grantsAll_13 : decode cX3_grantsAll 13 = .ok (.if_icmp .ge 22, 3) := by decide +kernel
theorem dX3_grantsAll_16 : decode cX3_grantsAll 16 = .ok (.aload_n 0, 1) := by decide +kernel
theorem dX3_grantsAll_17 : decode cX3_grantsAll 17 = .ok (.getfield 27, 3) := by decide +kernel
theorem dX3_grantsAll_20 : decode cX3_grantsAll 20 = .ok (.iload_n 2, 1) := by decide +kernel
theorem dX3_grantsAll_21 : decode cX3_grantsAll 21 = .ok (.iaload, 1) := by decide +kernel
theorem dX3_grantsAll_22 : decode cX3_grantsAll 22 = .ok (.iload_n 1, 1) := by decide +kernel
theorem dX3_grantsAll_23 : decode cX3_grantsAll 23 = .ok (.iand, 1) := by decide +kernel
theorem dX3_grantsAll_24 : decode cX3_grantsAll 24 = .ok (.ifCond .ne 5, 3) := by decide +kernel
theorem dX3_grantsAll_27 : decode cX3_grantsAll 27 = .ok (.iconst 0, 1) := by decide +kernel
theorem dX3_grantsAll_28 : decode cX3_grantsAll 28 = .ok (.ireturn, 1) := by decide +kernel
theorem dX3_grantsAll_29 : decode cX3_grantsAll 29 = .ok (.iinc 2 1, 3) := by decide +kernel
theorem dX3_grantsAll_32 : decode cX3_grantsAll 32 = .ok (.goto (-30), 3) := by decide +kernel
theorem dX3_grantsAll_35 : decode cX3_grantsAll 35 = .ok (.iconst 1, 1) := by decide +kernel
theorem dX3_grantsAll_36 : decode cX3_grantsAll 36 = .ok (.ireturn, 1) := by decide +kernel
theorem dX3_suspects_0 : decode cX3_suspects 0 = .ok (.sipush 4095, 3) := by decide +kernel
theorem dX3_suspects_3 : decode cX3_suspects 3 = .ok (.istore_n 1, 1) := by decide +kernel
theorem dX3_suspects_4 : decode cX3_suspects 4 = .ok (.iconst 0, 1) := by decide +kernel
theorem dX3_suspects_5 : decode cX3_suspects 5 = .ok (.istore_n 2, 1) := by decide +kernel
theorem dX3_suspects_6 : decode cX3_suspects 6 = .ok (.iload_n 2, 1) := by decide +kernel
theorem dX3_suspects_7 : decode cX3_suspects 7 = .ok (.aload_n 0, 1) := by decide +kernel
theorem dX3_suspects_8 : decode cX3_suspects 8 = .ok (.getfield 43, 3) := by decide +kernel
theorem dX3_suspects_11 : decode cX3_suspects 11 = .ok (.if_icmp .ge 76, 3) := by decide +kernel
theorem dX3_suspects_14 : decode cX3_suspects 14 = .ok (.iload_n 2, 1) := by decide +kernel
theorem dX3_suspects_15 : decode cX3_suspects 15 = .ok (.bipush 6, 2) := by decide +kernel
theorem dX3_suspects_17 : decode cX3_suspects 17 = .ok (.if_icmp .ge 70, 3) := by decide +kernel
theorem dX3_suspects_20 : decode cX3_suspects 20 = .ok (.aload_n 0, 1) := by decide +kernel
theorem dX3_suspects_21 : decode cX3_suspects 21 = .ok (.getfield 40, 3) := by decide +kernel
theorem dX3_suspects_24 : decode cX3_suspects 24 = .ok (.iload_n 2, 1) := by decide +kernel
theorem dX3_suspects_25 : decode cX3_suspects 25 = .ok (.iaload, 1) := by decide +kernel
theorem dX3_suspects_26 : decode cX3_suspects 26 = .ok (.ifCond .ne 15, 3) := by decide +kernel
theorem dX3_suspects_29 : decode cX3_suspects 29 = .ok (.iload_n 1, 1) := by decide +kernel
theorem dX3_suspects_30 : decode cX3_suspects 30 = .ok (.aload_n 0, 1) := by decide +kernel
theorem dX3_suspects_31 : decode cX3_suspects 31 = .ok (.getfield 34, 3) := by decide +kernel
theorem dX3_suspects_34 : decode cX3_suspects 34 = .ok (.iload_n 2, 1) := by decide +kernel
theorem dX3_suspects_35 : decode cX3_suspects 35 = .ok (.iaload, 1) := by decide +kernel
theorem dX3_suspects_36 : decode cX3_suspects 36 = .ok (.iand, 1) := by decide +kernel
theorem dX3_suspects_37 : decode cX3_suspects 37 = .ok (.istore_n 1, 1) := by decide +kernel
theorem dX3_suspects_38 : decode cX3_suspects 38 = .ok (.goto 43, 3) := by decide +kernel
theorem dX3_suspects_41 : decode cX3_suspects 41 = .ok (.aload_n 0, 1) := by decide +kernel
theorem dX3_suspects_42 : decode cX3_suspects 42 = .ok (.getfield 40, 3) := by decide +kernel
theorem dX3_suspects_45 : decode cX3_suspects 45 = .ok (.iload_n 2, 1) := by decide +kernel
theorem dX3_suspects_46 : decode cX3_suspects 46 = .ok (.iaload, 1) := by decide +kernel
theorem dX3_suspects_47 : decode cX3_suspects 47 = .ok (.iconst 1, 1) := by decide +kernel
theorem dX3_suspects_48 : decode cX3_suspects 48 = .ok (.if_icmp .ne 15, 3) := by decide +kernel
theorem dX3_suspects_51 : decode cX3_suspects 51 = .ok (.iload_n 1, 1) := by decide +kernel
theorem dX3_suspects_52 : decode cX3_suspects 52 = .ok (.aload_n 0, 1) := by decide +kernel
theorem dX3_suspects_53 : decode cX3_suspects 53 = .ok (.getfield 37, 3) := by decide +kernel
theorem dX3_suspects_56 : decode cX3_suspects 56 = .ok (.iload_n 2, 1) := by decide +kernel
theorem dX3_suspects_57 : decode cX3_suspects 57 = .ok (.iaload, 1) := by decide +kernel
theorem dX3_suspects_58 : decode cX3_suspects 58 = .ok (.iand, 1) := by decide +kernel
theorem dX3_suspects_59 : decode cX3_suspects 59 = .ok (.istore_n 1, 1) := by decide +kernel
theorem dX3_suspects_60 : decode cX3_suspects 60 = .ok (.goto 21, 3) := by decide +kernel
theorem dX3_suspects_63 : decode cX3_suspects 63 = .ok (.iload_n 1, 1) := by decide +kernel
theorem dX3_suspects_64 : decode cX3_suspects 64 = .ok (.aload_n 0, 1) := by decide +kernel
theorem dX3_suspects_65 : decode cX3_suspects 65 = .ok (.getfield 34, 3) := by decide +kernel
theorem dX3_suspects_68 : decode cX3_suspects 68 = .ok (.iload_n 2, 1) := by decide +kernel
theorem dX3_suspects_69 : decode cX3_suspects 69 = .ok (.iaload, 1) := by decide +kernel
theorem dX3_suspects_70 : decode cX3_suspects 70 = .ok (.aload_n 0, 1) := by decide +kernel
theorem dX3_suspects_71 : decode cX3_suspects 71 = .ok (.getfield 37, 3) := by decide +kernel
theorem dX3_suspects_74 : decode cX3_suspects 74 = .ok (.iload_n 2, 1) := by decide +kernel
theorem dX3_suspects_75 : decode cX3_suspects 75 = .ok (.iaload, 1) := by decide +kernel
theorem dX3_suspects_76 : decode cX3_suspects 76 = .ok (.ior, 1) := by decide +kernel
theorem dX3_suspects_77 : decode cX3_suspects 77 = .ok (.iconst (-1), 1) := by decide +kernel
theorem dX3_suspects_78 : decode cX3_suspects 78 = .ok (.ixor, 1) := by decide +kernel
theorem dX3_suspects_79 : decode cX3_suspects 79 = .ok (.iand, 1) := by decide +kernel
theorem dX3_suspects_80 : decode cX3_suspects 80 = .ok (.istore_n 1, 1) := by decide +kernel
theorem dX3_suspects_81 : decode cX3_suspects 81 = .ok (.iinc 2 1, 3) := by decide +kernel
theorem dX3_suspects_84 : decode cX3_suspects 84 = .ok (.goto (-78), 3) := by decide +kernel
theorem dX3_suspects_87 : decode cX3_suspects 87 = .ok (.iload_n 1, 1) := by decide +kernel
theorem dX3_suspects_88 : decode cX3_suspects 88 = .ok (.ireturn, 1) := by decide +kernel
set_option maxRecDepth 20000 in
theorem ggX3_perform_X4_isSpeaker : GoodIn wsX3_perform wsX4_isSpeaker := goodIn_r _ [3, 4, 5, 2, 6] (by decide +kernel) (by decide +kernel)
set_option maxRecDepth 20000 in
theorem gX3_perform_X4_isSpeaker_n79 : GoodIn wsX3_perform (wsX4_isSpeaker) := ggX3_perform_X4_isSpeaker
set_option maxRecDepth 20000 in
theorem ggX3_perform_X4_isWord : GoodIn wsX3_perform wsX4_isWord := goodIn_r _ [8, 4, 5, 2, 6] (by decide +kernel) (by decide +kernel)
set_option maxRecDepth 20000 in
theorem gX3_perform_X4_isWord_n50 : GoodIn wsX3_perform (wsX4_isWord) := ggX3_perform_X4_isWord
end
section
set_option maxRecDepth 20000 in
theorem ggX3_perform_X3_buy : GoodIn wsX3_perform wsX3_buy := goodIn_r _ [13, 14, 15, 16, 17, 2, 18, 35, 36, 37, 38, 39, 40, 41, 42, 43, 44, 45] (by decide +kernel) (by decide +kernel)
set_option maxRecDepth 20000 in
theorem gX3_perform_X3_buy : GoodIn wsX3_perform (wsV RX3 82 RX3 yX3_buy wsX3_buy) := goodIn_app (goodIn_of _ (by decide +kernel)) ggX3_perform_X3_buy
set_option maxRecDepth 20000 in
theorem ggX3_perform_X3_handIn : GoodIn wsX3_perform wsX3_handIn := goodIn_r _ [22, 14, 15, 16, 17, 2, 18, 35, 36, 37, 38, 39, 40, 41, 42, 43, 44, 45] (by decide +kernel) (by decide +kernel)
set_option maxRecDepth 20000 in
theorem gX3_perform_X3_handIn : GoodIn wsX3_perform (wsV RX3 85 RX3 yX3_handIn wsX3_handIn) := goodIn_app (goodIn_of _ (by decide +kernel)) ggX3_perform_X3_handIn
set_option maxRecDepth 20000 in
theorem ggX3_perform_X3_speak : GoodIn wsX3_perform wsX3_speak := goodIn_r _ [26, 14, 16, 27, 28, 29, 30, 17, 2, 18, 35, 36, 37, 38, 39, 40, 41, 42, 43, 44, 45] (by decide +kernel) (by decide +kernel)
set_option maxRecDepth 20000 in
theorem gX3_perform_X3_speak : GoodIn wsX3_perform (wsV RX3 88 RX3 yX3_speak wsX3_speak) := goodIn_app (goodIn_of _ (by decide +kernel)) ggX3_perform_X3_speak
set_option maxRecDepth 20000 in
theorem ggX3_perform_X3_give : GoodIn wsX3_perform wsX3_give := goodIn_r _ [34, 14, 17, 2, 18, 35, 36, 37, 38, 39, 40, 41, 42, 43, 44, 45] (by decide +kernel) (by decide +kernel)
set_option maxRecDepth 20000 in
theorem gX3_perform_X3_give : GoodIn wsX3_perform (wsV RX3 91 RX3 yX3_give wsX3_give) := goodIn_app (goodIn_of _ (by decide +kernel)) ggX3_perform_X3_give
theorem dX3_perform_0 : decode cX3_perform 0 = .ok (.iload_n 2, 1) := by decide +kernel
theorem dX3_perform_1 : decode cX3_perform 1 = .ok (.invokestatic 79, 3) := by decide +kernel
theorem dX3_perform_4 : decode cX3_perform 4 = .ok (.ifCond .eq 18, 3) := by decide +kernel
theorem dX3_perform_7 : decode cX3_perform 7 = .ok (.iload 4, 2) := by decide +kernel
theorem dX3_perform_9 : decode cX3_perform 9 = .ok (.invokestatic 79, 3) := by decide +kernel
theorem dX3_perform_12 : decode cX3_perform 12 = .ok (.ifCond .eq 10, 3) := by decide +kernel
theorem dX3_perform_15 : decode cX3_perform 15 = .ok (.iload_n 3, 1) := by decide +kernel
theorem dX3_perform_16 : decode cX3_perform 16 = .ok (.invokestatic 50, 3) := by decide +kernel
theorem dX3_perform_19 : decode cX3_perform 19 = .ok (.ifCond .ne 5, 3) := by decide +kernel
theorem dX3_perform_22 : decode cX3_perform 22 = .ok (.iconst 2, 1) := by decide +kernel
theorem dX3_perform_23 : decode cX3_perform 23 = .ok (.ireturn, 1) := by decide +kernel
theorem dX3_perform_24 : decode cX3_perform 24 = .ok (.iload_n 1, 1) := by decide +kernel
theorem dX3_perform_25 : decode cX3_perform 25 = .ok (.tableswitch 48 0 2 #[27, 34, 41], 27) := by decide +kernel
theorem dX3_perform_52 : decode cX3_perform 52 = .ok (.aload_n 0, 1) := by decide +kernel
theorem dX3_perform_53 : decode cX3_perform 53 = .ok (.iload_n 2, 1) := by decide +kernel
theorem dX3_perform_54 : decode cX3_perform 54 = .ok (.iload_n 3, 1) := by decide +kernel
theorem dX3_perform_55 : decode cX3_perform 55 = .ok (.invokevirtual 82, 3) := by decide +kernel
theorem dX3_perform_58 : decode cX3_perform 58 = .ok (.ireturn, 1) := by decide +kernel
theorem dX3_perform_59 : decode cX3_perform 59 = .ok (.aload_n 0, 1) := by decide +kernel
theorem dX3_perform_60 : decode cX3_perform 60 = .ok (.iload_n 2, 1) := by decide +kernel
theorem dX3_perform_61 : decode cX3_perform 61 = .ok (.iload_n 3, 1) := by decide +kernel
theorem dX3_perform_62 : decode cX3_perform 62 = .ok (.invokevirtual 85, 3) := by decide +kernel
theorem dX3_perform_65 : decode cX3_perform 65 = .ok (.ireturn, 1) := by decide +kernel
theorem dX3_perform_66 : decode cX3_perform 66 = .ok (.aload_n 0, 1) := by decide +kernel
theorem dX3_perform_67 : decode cX3_perform 67 = .ok (.iload_n 2, 1) := by decide +kernel
theorem dX3_perform_68 : decode cX3_perform 68 = .ok (.iload_n 3, 1) := by decide +kernel
theorem dX3_perform_69 : decode cX3_perform 69 = .ok (.invokevirtual 88, 3) := by decide +kernel
theorem dX3_perform_72 : decode cX3_perform 72 = .ok (.ireturn, 1) := by decide +kernel
theorem dX3_perform_73 : decode cX3_perform 73 = .ok (.aload_n 0, 1) := by decide +kernel
theorem dX3_perform_74 : decode cX3_perform 74 = .ok (.iload_n 2, 1) := by decide +kernel
theorem dX3_perform_75 : decode cX3_perform 75 = .ok (.iload_n 3, 1) := by decide +kernel
theorem dX3_perform_76 : decode cX3_perform 76 = .ok (.iload 4, 2) := by decide +kernel
theorem dX3_perform_78 : decode cX3_perform 78 = .ok (.invokevirtual 91, 3) := by decide +kernel
theorem dX3_perform_81 : decode cX3_perform 81 = .ok (.ireturn, 1) := by decide +kernel
set_option maxRecDepth 20000 in
theorem ggX3_buy_X4_isIn : GoodIn wsX3_buy wsX4_isIn := goodIn_r _ [6] (by decide +kernel) (by decide +kernel)
set_option maxRecDepth 20000 in
theorem gX3_buy_X4_isIn_n54 : GoodIn wsX3_buy (wsX4_isIn) := ggX3_buy_X4_isIn
theorem dX3_buy_0 : decode cX3_buy 0 = .ok (.iload_n 2, 1) := by decide +kernel
theorem dX3_buy_1 : decode cX3_buy 1 = .ok (.aload_n 0, 1) := by decide +kernel
theorem dX3_buy_2 : decode cX3_buy 2 = .ok (.getfield 24, 3) := by decide +kernel
theorem dX3_buy_5 : decode cX3_buy 5 = .ok (.iload_n 1, 1) := by decide +kernel
theorem dX3_buy_6 : decode cX3_buy 6 = .ok (.iaload, 1) := by decide +kernel
theorem dX3_buy_7 : decode cX3_buy 7 = .ok (.invokestatic 54, 3) := by decide +kernel
theorem dX3_buy_10 : decode cX3_buy 10 = .ok (.ifCond .eq 5, 3) := by decide +kernel
theorem dX3_buy_13 : decode cX3_buy 13 = .ok (.iconst 1, 1) := by decide +kernel
theorem dX3_buy_14 : decode cX3_buy 14 = .ok (.ireturn, 1) := by decide +kernel
theorem dX3_buy_15 : decode cX3_buy 15 = .ok (.aload_n 0, 1) := by decide +kernel
theorem dX3_buy_16 : decode cX3_buy 16 = .ok (.getfield 21, 3) := by decide +kernel
theorem dX3_buy_19 : decode cX3_buy 19 = .ok (.iload_n 1, 1) := by decide +kernel
theorem dX3_buy_20 : decode cX3_buy 20 = .ok (.iaload, 1) := by decide +kernel
theorem dX3_buy_21 : decode cX3_buy 21 = .ok (.aload_n 0, 1) := by decide +kernel
theorem dX3_buy_22 : decode cX3_buy 22 = .ok (.getfield 9, 3) := by decide +kernel
theorem dX3_buy_25 : decode cX3_buy 25 = .ok (.iload_n 2, 1) := by decide +kernel
theorem dX3_buy_26 : decode cX3_buy 26 = .ok (.iaload, 1) := by decide +kernel
theorem dX3_buy_27 : decode cX3_buy 27 = .ok (.if_icmp .ge 5, 3) := by decide +kernel
theorem dX3_buy_30 : decode cX3_buy 30 = .ok (.iconst 3, 1) := by decide +kernel
theorem dX3_buy_31 : decode cX3_buy 31 = .ok (.ireturn, 1) := by decide +kernel
theorem dX3_buy_32 : decode cX3_buy 32 = .ok (.aload_n 0, 1) := by decide +kernel
theorem dX3_buy_33 : decode cX3_buy 33 = .ok (.getfield 21, 3) := by decide +kernel
theorem dX3_buy_36 : decode cX3_buy 36 = .ok (.iload_n 1, 1) := by decide +kernel
theorem dX3_buy_37 : decode cX3_buy 37 = .ok (.dup2, 1) := by decide +kernel
theorem dX3_buy_38 : decode cX3_buy 38 = .ok (.iaload, 1) := by decide +kernel
theorem dX3_buy_39 : decode cX3_buy 39 = .ok (.aload_n 0, 1) := by decide +kernel
theorem dX3_buy_40 : decode cX3_buy 40 = .ok (.getfield 9, 3) := by decide +kernel
theorem dX3_buy_43 : decode cX3_buy 43 = .ok (.iload_n 2, 1) := by decide +kernel
theorem dX3_buy_44 : decode cX3_buy 44 = .ok (.iaload, 1) := by decide +kernel
theorem dX3_buy_45 : decode cX3_buy 45 = .ok (.isub, 1) := by decide +kernel
theorem dX3_buy_46 : decode cX3_buy 46 = .ok (.iastore, 1) := by decide +kernel
theorem dX3_buy_47 : decode cX3_buy 47 = .ok (.aload_n 0, 1) := by decide +kernel
theorem dX3_buy_48 : decode cX3_buy 48 = .ok (.getfield 24, 3) := by decide +kernel
theorem dX3_buy_51 : decode cX3_buy 51 = .ok (.iload_n 1, 1) := by decide +kernel
theorem dX3_buy_52 : decode cX3_buy 52 = .ok (.dup2, 1) := by decide +kernel
theorem dX3_buy_53 : decode cX3_buy 53 = .ok (.iaload, 1) := by decide +kernel
theorem dX3_buy_54 : decode cX3_buy 54 = .ok (.iconst 1, 1) := by decide +kernel
theorem dX3_buy_55 : decode cX3_buy 55 = .ok (.iload_n 2, 1) := by decide +kernel
theorem dX3_buy_56 : decode cX3_buy 56 = .ok (.ishl, 1) := by decide +kernel
theorem dX3_buy_57 : decode cX3_buy 57 = .ok (.ior, 1) := by decide +kernel
theorem dX3_buy_58 : decode cX3_buy 58 = .ok (.iastore, 1) := by decide +kernel
theorem dX3_buy_59 : decode cX3_buy 59 = .ok (.iconst 0, 1) := by decide +kernel
theorem dX3_buy_60 : decode cX3_buy 60 = .ok (.ireturn, 1) := by decide +kernel
set_option maxRecDepth 20000 in
theorem ggX3_handIn_X4_isIn : GoodIn wsX3_handIn wsX4_isIn := goodIn_r _ [6] (by decide +kernel) (by decide +kernel)
set_option maxRecDepth 20000 in
theorem gX3_handIn_X4_isIn_n54 : GoodIn wsX3_handIn (wsX4_isIn) := ggX3_handIn_X4_isIn
theorem dX3_handIn_0 : decode cX3_handIn 0 = .ok (.iload_n 2, 1) := by decide +kernel
theorem dX3_handIn_1 : decode cX3_handIn 1 = .ok (.aload_n 0, 1) := by decide +kernel
theorem dX3_handIn_2 : decode cX3_handIn 2 = .ok (.getfield 24, 3) := by decide +kernel
theorem dX3_handIn_5 : decode cX3_handIn 5 = .ok (.iload_n 1, 1) := by decide +kernel
theorem dX3_handIn_6 : decode cX3_handIn 6 = .ok (.iaload, 1) := by decide +kernel
theorem dX3_handIn_7 : decode cX3_handIn 7 = .ok (.invokestatic 54, 3) := by decide +kernel
theorem dX3_handIn_10 : decode cX3_handIn 10 = .ok (.ifCond .ne 5, 3) := by decide +kernel
theorem dX3_handIn_13 : decode cX3_handIn 13 = .ok (.iconst 2, 1) := by decide +kernel
theorem dX3_handIn_14 : decode cX3_handIn 14 = .ok (.ireturn, 1) := by decide +kernel
theorem dX3_handIn_15 : decode cX3_handIn 15 = .ok (.aload_n 0, 1) := by decide +kernel
theorem dX3_handIn_16 : decode cX3_handIn 16 = .ok (.getfield 21, 3) := by decide +kernel
theorem dX3_handIn_19 : decode cX3_handIn 19 = .ok (.iload_n 1, 1) := by decide +kernel
theorem dX3_handIn_20 : decode cX3_handIn 20 = .ok (.iaload, 1) := by decide +kernel
theorem dX3_handIn_21 : decode cX3_handIn 21 = .ok (.aload_n 0, 1) := by decide +kernel
theorem dX3_handIn_22 : decode cX3_handIn 22 = .ok (.getfield 9, 3) := by decide +kernel
theorem dX3_handIn_25 : decode cX3_handIn 25 = .ok (.iload_n 2, 1) := by decide +kernel
theorem dX3_handIn_26 : decode cX3_handIn 26 = .ok (.iaload, 1) := by decide +kernel
theorem dX3_handIn_27 : decode cX3_handIn 27 = .ok (.iconst 2, 1) := by decide +kernel
theorem dX3_handIn_28 : decode cX3_handIn 28 = .ok (.idiv, 1) := by decide +kernel
theorem dX3_handIn_29 : decode cX3_handIn 29 = .ok (.iadd, 1) := by decide +kernel
theorem dX3_handIn_30 : decode cX3_handIn 30 = .ok (.istore_n 3, 1) := by decide +kernel
theorem dX3_handIn_31 : decode cX3_handIn 31 = .ok (.iload_n 3, 1) := by decide +kernel
theorem dX3_handIn_32 : decode cX3_handIn 32 = .ok (.sipush 999, 3) := by decide +kernel
theorem dX3_handIn_35 : decode cX3_handIn 35 = .ok (.if_icmp .le 5, 3) := by decide +kernel
theorem dX3_handIn_38 : decode cX3_handIn 38 = .ok (.iconst 4, 1) := by decide +kernel
theorem dX3_handIn_39 : decode cX3_handIn 39 = .ok (.ireturn, 1) := by decide +kernel
theorem dX3_handIn_40 : decode cX3_handIn 40 = .ok (.aload_n 0, 1) := by decide +kernel
theorem dX3_handIn_41 : decode cX3_handIn 41 = .ok (.getfield 21, 3) := by decide +kernel
theorem dX3_handIn_44 : decode cX3_handIn 44 = .ok (.iload_n 1, 1) := by decide +kernel
theorem dX3_handIn_45 : decode cX3_handIn 45 = .ok (.iload_n 3, 1) := by decide +kernel
theorem dX3_handIn_46 : decode cX3_handIn 46 = .ok (.iastore, 1) := by decide +kernel
theorem dX3_handIn_47 : decode cX3_handIn 47 = .ok (.aload_n 0, 1) := by decide +kernel
theorem dX3_handIn_48 : decode cX3_handIn 48 = .ok (.getfield 24, 3) := by decide +kernel
theorem dX3_handIn_51 : decode cX3_handIn 51 = .ok (.iload_n 1, 1) := by decide +kernel
theorem dX3_handIn_52 : decode cX3_handIn 52 = .ok (.dup2, 1) := by decide +kernel
theorem dX3_handIn_53 : decode cX3_handIn 53 = .ok (.iaload, 1) := by decide +kernel
theorem dX3_handIn_54 : decode cX3_handIn 54 = .ok (.iconst 1, 1) := by decide +kernel
theorem dX3_handIn_55 : decode cX3_handIn 55 = .ok (.iload_n 2, 1) := by decide +kernel
theorem dX3_handIn_56 : decode cX3_handIn 56 = .ok (.ishl, 1) := by decide +kernel
theorem dX3_handIn_57 : decode cX3_handIn 57 = .ok (.iconst (-1), 1) := by decide +kernel
theorem dX3_handIn_58 : decode cX3_handIn 58 = .ok (.ixor, 1) := by decide +kernel
theorem dX3_handIn_59 : decode cX3_handIn 59 = .ok (.iand, 1) := by decide +kernel
theorem dX3_handIn_60 : decode cX3_handIn 60 = .ok (.iastore, 1) := by decide +kernel
theorem dX3_handIn_61 : decode cX3_handIn 61 = .ok (.iconst 0, 1) := by decide +kernel
theorem dX3_handIn_62 : decode cX3_handIn 62 = .ok (.ireturn, 1) := by decide +kernel
set_option maxRecDepth 20000 in
theorem ggX3_speak_X4_isIn : GoodIn wsX3_speak wsX4_isIn := goodIn_r _ [9] (by decide +kernel) (by decide +kernel)
set_option maxRecDepth 20000 in
theorem gX3_speak_X4_isIn_n54 : GoodIn wsX3_speak (wsX4_isIn) := ggX3_speak_X4_isIn
theorem dX3_speak_0 : decode cX3_speak 0 = .ok (.iload_n 2, 1) := by decide +kernel
theorem dX3_speak_1 : decode cX3_speak 1 = .ok (.aload_n 0, 1) := by decide +kernel
theorem dX3_speak_2 : decode cX3_speak 2 = .ok (.getfield 24, 3) := by decide +kernel
theorem dX3_speak_5 : decode cX3_speak 5 = .ok (.iload_n 1, 1) := by decide +kernel
theorem dX3_speak_6 : decode cX3_speak 6 = .ok (.iaload, 1) := by decide +kernel
theorem dX3_speak_7 : decode cX3_speak 7 = .ok (.invokestatic 54, 3) := by decide +kernel
theorem dX3_speak_10 : decode cX3_speak 10 = .ok (.ifCond .ne 5, 3) := by decide +kernel
theorem dX3_speak_13 : decode cX3_speak 13 = .ok (.iconst 2, 1) := by decide +kernel
theorem dX3_speak_14 : decode cX3_speak 14 = .ok (.ireturn, 1) := by decide +kernel
theorem dX3_speak_15 : decode cX3_speak 15 = .ok (.aload_n 0, 1) := by decide +kernel
theorem dX3_speak_16 : decode cX3_speak 16 = .ok (.getfield 9, 3) := by decide +kernel
theorem dX3_speak_19 : decode cX3_speak 19 = .ok (.iload_n 2, 1) := by decide +kernel
theorem dX3_speak_20 : decode cX3_speak 20 = .ok (.iconst 0, 1) := by decide +kernel
theorem dX3_speak_21 : decode cX3_speak 21 = .ok (.aload_n 0, 1) := by decide +kernel
theorem dX3_speak_22 : decode cX3_speak 22 = .ok (.getfield 9, 3) := by decide +kernel
theorem dX3_speak_25 : decode cX3_speak 25 = .ok (.iload_n 2, 1) := by decide +kernel
theorem dX3_speak_26 : decode cX3_speak 26 = .ok (.iaload, 1) := by decide +kernel
theorem dX3_speak_27 : decode cX3_speak 27 = .ok (.iconst 1, 1) := by decide +kernel
theorem dX3_speak_28 : decode cX3_speak 28 = .ok (.isub, 1) := by decide +kernel
theorem dX3_speak_29 : decode cX3_speak 29 = .ok (.invokestatic 62, 3) := by decide +kernel
theorem dX3_speak_32 : decode cX3_speak 32 = .ok (.iastore, 1) := by decide +kernel
theorem dX3_speak_33 : decode cX3_speak 33 = .ok (.iconst 0, 1) := by decide +kernel
theorem dX3_speak_34 : decode cX3_speak 34 = .ok (.ireturn, 1) := by decide +kernel
set_option maxRecDepth 20000 in
theorem ggX3_give_X4_isIn : GoodIn wsX3_give wsX4_isIn := goodIn_r _ [4] (by decide +kernel) (by decide +kernel)
set_option maxRecDepth 20000 in
theorem gX3_give_X4_isIn_n54 : GoodIn wsX3_give (wsX4_isIn) := ggX3_give_X4_isIn
theorem dX3_give_0 : decode cX3_give 0 = .ok (.iload_n 2, 1) := by decide +kernel
theorem dX3_give_1 : decode cX3_give 1 = .ok (.aload_n 0, 1) := by decide +kernel
theorem dX3_give_2 : decode cX3_give 2 = .ok (.getfield 24, 3) := by decide +kernel
theorem dX3_give_5 : decode cX3_give 5 = .ok (.iload_n 3, 1) := by decide +kernel
theorem dX3_give_6 : decode cX3_give 6 = .ok (.iaload, 1) := by decide +kernel
theorem dX3_give_7 : decode cX3_give 7 = .ok (.invokestatic 54, 3) := by decide +kernel
theorem dX3_give_10 : decode cX3_give 10 = .ok (.ifCond .eq 5, 3) := by decide +kernel
theorem dX3_give_13 : decode cX3_give 13 = .ok (.iconst 1, 1) := by decide +kernel
theorem dX3_give_14 : decode cX3_give 14 = .ok (.ireturn, 1) := by decide +kernel
theorem dX3_give_15 : decode cX3_give 15 = .ok (.iload_n 2, 1) := by decide +kernel
theorem dX3_give_16 : decode cX3_give 16 = .ok (.aload_n 0, 1) := by decide +kernel
theorem dX3_give_17 : decode cX3_give 17 = .ok (.getfield 24, 3) := by decide +kernel
theorem dX3_give_20 : decode cX3_give 20 = .ok (.iload_n 1, 1) := by decide +kernel
theorem dX3_give_21 : decode cX3_give 21 = .ok (.iaload, 1) := by decide +kernel
theorem dX3_give_22 : decode cX3_give 22 = .ok (.invokestatic 54, 3) := by decide +kernel
theorem dX3_give_25 : decode cX3_give 25 = .ok (.ifCond .ne 5, 3) := by decide +kernel
theorem dX3_give_28 : decode cX3_give 28 = .ok (.iconst 2, 1) := by decide +kernel
theorem dX3_give_29 : decode cX3_give 29 = .ok (.ireturn, 1) := by decide +kernel
theorem dX3_give_30 : decode cX3_give 30 = .ok (.aload_n 0, 1) := by decide +kernel
theorem dX3_give_31 : decode cX3_give 31 = .ok (.getfield 24, 3) := by decide +kernel
theorem dX3_give_34 : decode cX3_give 34 = .ok (.iload_n 1, 1) := by decide +kernel
theorem dX3_give_35 : decode cX3_give 35 = .ok (.dup2, 1) := by decide +kernel
theorem dX3_give_36 : decode cX3_give 36 = .ok (.iaload, 1) := by decide +kernel
theorem dX3_give_37 : decode cX3_give 37 = .ok (.iconst 1, 1) := by decide +kernel
theorem dX3_give_38 : decode cX3_give 38 = .ok (.iload_n 2, 1) := by decide +kernel
theorem dX3_give_39 : decode cX3_give 39 = .ok (.ishl, 1) := by decide +kernel
theorem dX3_give_40 : decode cX3_give 40 = .ok (.iconst (-1), 1) := by decide +kernel
theorem dX3_give_41 : decode cX3_give 41 = .ok (.ixor, 1) := by decide +kernel
theorem dX3_give_42 : decode cX3_give 42 = .ok (.iand, 1) := by decide +kernel
theorem dX3_give_43 : decode cX3_give 43 = .ok (.iastore, 1) := by decide +kernel
theorem dX3_give_44 : decode cX3_give 44 = .ok (.aload_n 0, 1) := by decide +kernel
theorem dX3_give_45 : decode cX3_give 45 = .ok (.getfield 24, 3) := by decide +kernel
theorem dX3_give_48 : decode cX3_give 48 = .ok (.iload_n 3, 1) := by decide +kernel
theorem dX3_give_49 : decode cX3_give 49 = .ok (.dup2, 1) := by decide +kernel
theorem dX3_give_50 : decode cX3_give 50 = .ok (.iaload, 1) := by decide +kernel
theorem dX3_give_51 : decode cX3_give 51 = .ok (.iconst 1, 1) := by decide +kernel
theorem dX3_give_52 : decode cX3_give 52 = .ok (.iload_n 2, 1) := by decide +kernel
theorem dX3_give_53 : decode cX3_give 53 = .ok (.ishl, 1) := by decide +kernel
theorem dX3_give_54 : decode cX3_give 54 = .ok (.ior, 1) := by decide +kernel
theorem dX3_give_55 : decode cX3_give 55 = .ok (.iastore, 1) := by decide +kernel
theorem dX3_give_56 : decode cX3_give 56 = .ok (.iconst 0, 1) := by decide +kernel
theorem dX3_give_57 : decode cX3_give 57 = .ok (.ireturn, 1) := by decide +kernel
set_option maxRecDepth 20000 in
theorem ggX3_liveYear_X3_drawnAct : GoodIn wsX3_liveYear wsX3_drawnAct := goodIn_r _ [5] (by decide +kernel) (by decide +kernel)
set_option maxRecDepth 20000 in
theorem gX3_liveYear_X3_drawnAct : GoodIn wsX3_liveYear (va_wsS RX3 96 yX3_drawnAct wsX3_drawnAct) := goodIn_app (goodIn_of _ (by decide +kernel)) ggX3_liveYear_X3_drawnAct
set_option maxRecDepth 20000 in
theorem ggX3_liveYear_X3_perform : GoodIn wsX3_liveYear wsX3_perform := goodIn_r _ [9, 10, 11, 12, 13, 14, 15, 16, 17, 18, 19, 20, 4, 21, 22, 23, 24, 25, 26, 27, 28, 29, 30, 31, 32, 33, 34, 35, 36, 37, 38, 39, 40, 41, 42, 43, 44, 45, 46, 47, 48, 49, 50, 51, 52, 53] (by decide +kernel) (by decide +kernel)
set_option maxRecDepth 20000 in
theorem gX3_liveYear_X3_perform : GoodIn wsX3_liveYear (wsV RX3 99 RX3 yX3_perform wsX3_perform) := goodIn_app (goodIn_of _ (by decide +kernel)) ggX3_liveYear_X3_perform
theorem dX3_liveYear_0 : decode cX3_liveYear 0 = .ok (.iload_n 1, 1) := by decide +kernel
theorem dX3_liveYear_1 : decode cX3_liveYear 1 = .ok (.istore_n 3, 1) := by decide +kernel
theorem dX3_liveYear_2 : decode cX3_liveYear 2 = .ok (.iconst 0, 1) := by decide +kernel
theorem dX3_liveYear_3 : decode cX3_liveYear 3 = .ok (.istore 4, 2) := by decide +kernel
theorem dX3_liveYear_5 : decode cX3_liveYear 5 = .ok (.iload 4, 2) := by decide +kernel
theorem dX3_liveYear_7 : decode cX3_liveYear 7 = .ok (.iload_n 2, 1) := by decide +kernel
theorem dX3_liveYear_8 : decode cX3_liveYear 8 = .ok (.if_icmp .ge 51, 3) := by decide +kernel
theorem dX3_liveYear_11 : decode cX3_liveYear 11 = .ok (.bipush 75, 2) := by decide +kernel
theorem dX3_liveYear_13 : decode cX3_liveYear 13 = .ok (.iload_n 3, 1) := by decide +kernel
theorem dX3_liveYear_14 : decode cX3_liveYear 14 = .ok (.imul, 1) := by decide +kernel
theorem dX3_liveYear_15 : decode cX3_liveYear 15 = .ok (.bipush 74, 2) := by decide +kernel
theorem dX3_liveYear_17 : decode cX3_liveYear 17 = .ok (.iadd, 1) := by decide +kernel
theorem dX3_liveYear_18 : decode cX3_liveYear 18 = .ok (.ldc 95, 2) := by decide +kernel
theorem dX3_liveYear_20 : decode cX3_liveYear 20 = .ok (.irem, 1) := by decide +kernel
theorem dX3_liveYear_21 : decode cX3_liveYear 21 = .ok (.istore_n 3, 1) := by decide +kernel
theorem dX3_liveYear_22 : decode cX3_liveYear 22 = .ok (.aload_n 0, 1) := by decide +kernel
theorem dX3_liveYear_23 : decode cX3_liveYear 23 = .ok (.iload_n 3, 1) := by decide +kernel
theorem dX3_liveYear_24 : decode cX3_liveYear 24 = .ok (.bipush 48, 2) := by decide +kernel
theorem dX3_liveYear_26 : decode cX3_liveYear 26 = .ok (.idiv, 1) := by decide +kernel
theorem dX3_liveYear_27 : decode cX3_liveYear 27 = .ok (.bipush 6, 2) := by decide +kernel
theorem dX3_liveYear_29 : decode cX3_liveYear 29 = .ok (.irem, 1) := by decide +kernel
theorem dX3_liveYear_30 : decode cX3_liveYear 30 = .ok (.invokestatic 96, 3) := by decide +kernel
theorem dX3_liveYear_33 : decode cX3_liveYear 33 = .ok (.iload_n 3, 1) := by decide +kernel
theorem dX3_liveYear_34 : decode cX3_liveYear 34 = .ok (.iconst 4, 1) := by decide +kernel
theorem dX3_liveYear_35 : decode cX3_liveYear 35 = .ok (.irem, 1) := by decide +kernel
theorem dX3_liveYear_36 : decode cX3_liveYear 36 = .ok (.iload_n 3, 1) := by decide +kernel
theorem dX3_liveYear_37 : decode cX3_liveYear 37 = .ok (.iconst 4, 1) := by decide +kernel
theorem dX3_liveYear_38 : decode cX3_liveYear 38 = .ok (.idiv, 1) := by decide +kernel
theorem dX3_liveYear_39 : decode cX3_liveYear 39 = .ok (.bipush 12, 2) := by decide +kernel
theorem dX3_liveYear_41 : decode cX3_liveYear 41 = .ok (.irem, 1) := by decide +kernel
theorem dX3_liveYear_42 : decode cX3_liveYear 42 = .ok (.iload_n 3, 1) := by decide +kernel
theorem dX3_liveYear_43 : decode cX3_liveYear 43 = .ok (.sipush 288, 3) := by decide +kernel
theorem dX3_liveYear_46 : decode cX3_liveYear 46 = .ok (.idiv, 1) := by decide +kernel
theorem dX3_liveYear_47 : decode cX3_liveYear 47 = .ok (.iconst 4, 1) := by decide +kernel
theorem dX3_liveYear_48 : decode cX3_liveYear 48 = .ok (.irem, 1) := by decide +kernel
theorem dX3_liveYear_49 : decode cX3_liveYear 49 = .ok (.invokevirtual 99, 3) := by decide +kernel
theorem dX3_liveYear_52 : decode cX3_liveYear 52 = .ok (.pop, 1) := by decide +kernel
theorem dX3_liveYear_53 : decode cX3_liveYear 53 = .ok (.iinc 4 1, 3) := by decide +kernel
theorem dX3_liveYear_56 : decode cX3_liveYear 56 = .ok (.goto (-51), 3) := by decide +kernel
theorem dX3_liveYear_59 : decode cX3_liveYear 59 = .ok (.return_, 1) := by decide +kernel
theorem dX3_drawnAct_0 : decode cX3_drawnAct 0 = .ok (.iload_n 0, 1) := by decide +kernel
theorem dX3_drawnAct_1 : decode cX3_drawnAct 1 = .ok (.iconst 1, 1) := by decide +kernel
theorem dX3_drawnAct_2 : decode cX3_drawnAct 2 = .ok (.if_icmp .gt 5, 3) := by decide +kernel
theorem dX3_drawnAct_5 : decode cX3_drawnAct 5 = .ok (.iconst 0, 1) := by decide +kernel
theorem dX3_drawnAct_6 : decode cX3_drawnAct 6 = .ok (.ireturn, 1) := by decide +kernel
theorem dX3_drawnAct_7 : decode cX3_drawnAct 7 = .ok (.iload_n 0, 1) := by decide +kernel
theorem dX3_drawnAct_8 : decode cX3_drawnAct 8 = .ok (.iconst 3, 1) := by decide +kernel
theorem dX3_drawnAct_9 : decode cX3_drawnAct 9 = .ok (.if_icmp .gt 5, 3) := by decide +kernel
theorem dX3_drawnAct_12 : decode cX3_drawnAct 12 = .ok (.iconst 2, 1) := by decide +kernel
theorem dX3_drawnAct_13 : decode cX3_drawnAct 13 = .ok (.ireturn, 1) := by decide +kernel
theorem dX3_drawnAct_14 : decode cX3_drawnAct 14 = .ok (.iload_n 0, 1) := by decide +kernel
theorem dX3_drawnAct_15 : decode cX3_drawnAct 15 = .ok (.iconst 4, 1) := by decide +kernel
theorem dX3_drawnAct_16 : decode cX3_drawnAct 16 = .ok (.if_icmp .ne 7, 3) := by decide +kernel
theorem dX3_drawnAct_19 : decode cX3_drawnAct 19 = .ok (.iconst 1, 1) := by decide +kernel
theorem dX3_drawnAct_20 : decode cX3_drawnAct 20 = .ok (.goto 4, 3) := by decide +kernel
theorem dX3_drawnAct_23 : decode cX3_drawnAct 23 = .ok (.iconst 3, 1) := by decide +kernel
theorem dX3_drawnAct_24 : decode cX3_drawnAct 24 = .ok (.ireturn, 1) := by decide +kernel
set_option maxRecDepth 20000 in
theorem ggX4_init_X3_init : GoodIn wsX4_init wsX3_init := goodIn_r _ [20, 21, 2, 3, 10, 22, 23, 24, 25, 26, 27, 28, 29, 30, 31, 32, 67, 68, 69, 70, 71, 72, 73, 74, 75, 76, 77] (by decide +kernel) (by decide +kernel)
set_option maxRecDepth 20000 in
theorem gX4_init_X3_init_n9 : GoodIn wsX4_init (wsX3_init) := ggX4_init_X3_init
set_option maxRecDepth 20000 in
theorem ggX4_init_X1_init : GoodIn wsX4_init wsX1_init := goodIn_r _ [34, 35, 2, 3, 36, 5, 6, 37, 38, 39, 40, 41, 42, 43, 44, 45, 46, 47, 48, 49, 50, 51, 52, 53, 19, 20, 21, 10, 22, 23, 24, 25, 26, 27, 28, 29, 30, 31, 32, 54, 55, 56, 57, 58, 59, 60, 61, 62, 63, 64, 65, 66, 67, 68, 69, 70, 71, 72, 73, 74, 75, 76, 77, 85, 86, 87, 88, 89, 90, 91, 92, 93, 94, 95, 96, 97, 98, 99, 100, 101, 102] (by decide +kernel) (by decide +kernel)
set_option maxRecDepth 20000 in
theorem gX4_init_X1_init_n33 : GoodIn wsX4_init (wsX1_init) := ggX4_init_X1_init
theorem dX4_init_0 : decode cX4_init 0 = .ok (.aload_n 0, 1) := by decide +kernel
theorem dX4_init_1 : decode cX4_init 1 = .ok (.invokespecial 1, 3) := by decide +kernel
theorem dX4_init_4 : decode cX4_init 4 = .ok (.aload_n 0, 1) := by decide +kernel
theorem dX4_init_5 : decode cX4_init 5 = .ok (.new 7, 3) := by decide +kernel
theorem dX4_init_8 : decode cX4_init 8 = .ok (.dup, 1) := by decide +kernel
theorem dX4_init_9 : decode cX4_init 9 = .ok (.invokespecial 9, 3) := by decide +kernel
theorem dX4_init_12 : decode cX4_init 12 = .ok (.putfield 10, 3) := by decide +kernel
theorem dX4_init_15 : decode cX4_init 15 = .ok (.aload_n 0, 1) := by decide +kernel
theorem dX4_init_16 : decode cX4_init 16 = .ok (.new 7, 3) := by decide +kernel
theorem dX4_init_19 : decode cX4_init 19 = .ok (.dup, 1) := by decide +kernel
theorem dX4_init_20 : decode cX4_init 20 = .ok (.invokespecial 9, 3) := by decide +kernel
theorem dX4_init_23 : decode cX4_init 23 = .ok (.putfield 16, 3) := by decide +kernel
theorem dX4_init_26 : decode cX4_init 26 = .ok (.aload_n 0, 1) := by decide +kernel
theorem dX4_init_27 : decode cX4_init 27 = .ok (.iconst 2, 1) := by decide +kernel
theorem dX4_init_28 : decode cX4_init 28 = .ok (.anewarray 7, 3) := by decide +kernel
theorem dX4_init_31 : decode cX4_init 31 = .ok (.putfield 19, 3) := by decide +kernel
theorem dX4_init_34 : decode cX4_init 34 = .ok (.aload_n 0, 1) := by decide +kernel
theorem dX4_init_35 : decode cX4_init 35 = .ok (.bipush 60, 2) := by decide +kernel
theorem dX4_init_37 : decode cX4_init 37 = .ok (.newarray .int, 2) := by decide +kernel
theorem dX4_init_39 : decode cX4_init 39 = .ok (.putfield 23, 3) := by decide +kernel
theorem dX4_init_42 : decode cX4_init 42 = .ok (.aload_n 0, 1) := by decide +kernel
theorem dX4_init_43 : decode cX4_init 43 = .ok (.iconst 0, 1) := by decide +kernel
theorem dX4_init_44 : decode cX4_init 44 = .ok (.putfield 27, 3) := by decide +kernel
theorem dX4_init_47 : decode cX4_init 47 = .ok (.aload_n 0, 1) := by decide +kernel
theorem dX4_init_48 : decode cX4_init 48 = .ok (.new 31, 3) := by decide +kernel
theorem dX4_init_51 : decode cX4_init 51 = .ok (.dup, 1) := by decide +kernel
theorem dX4_init_52 : decode cX4_init 52 = .ok (.invokespecial 33, 3) := by decide +kernel
theorem dX4_init_55 : decode cX4_init 55 = .ok (.putfield 34, 3) := by decide +kernel
theorem dX4_init_58 : decode cX4_init 58 = .ok (.aload_n 0, 1) := by decide +kernel
theorem dX4_init_59 : decode cX4_init 59 = .ok (.bipush 49, 2) := by decide +kernel
theorem dX4_init_61 : decode cX4_init 61 = .ok (.newarray .long, 2) := by decide +kernel
theorem dX4_init_63 : decode cX4_init 63 = .ok (.putfield 38, 3) := by decide +kernel
theorem dX4_init_66 : decode cX4_init 66 = .ok (.return_, 1) := by decide +kernel
set_option maxRecDepth 20000 in
theorem ggX4_word_X4_isWord : GoodIn wsX4_word wsX4_isWord := goodIn_r _ [5, 6, 7, 4, 8] (by decide +kernel) (by decide +kernel)
set_option maxRecDepth 20000 in
theorem gX4_word_X4_isWord : GoodIn wsX4_word (va_wsS RX4 42 yX4_isWord wsX4_isWord) := goodIn_app (goodIn_of _ (by decide +kernel)) ggX4_word_X4_isWord
set_option maxRecDepth 20000 in
theorem ggX4_word_X4_isWithin : GoodIn wsX4_word wsX4_isWithin := goodIn_r _ [8] (by decide +kernel) (by decide +kernel)
set_option maxRecDepth 20000 in
theorem gX4_word_X4_isWithin : GoodIn wsX4_word (va_wsS RX4 46 yX4_isWithin wsX4_isWithin) := goodIn_app (goodIn_of _ (by decide +kernel)) ggX4_word_X4_isWithin
theorem dX4_word_0 : decode cX4_word 0 = .ok (.iload_n 1, 1) := by decide +kernel
theorem dX4_word_1 : decode cX4_word 1 = .ok (.invokestatic 42, 3) := by decide +kernel
theorem dX4_word_4 : decode cX4_word 4 = .ok (.ifCond .ne 5, 3) := by decide +kernel
theorem dX4_word_7 : decode cX4_word 7 = .ok (.iconst (-1), 1) := by decide +kernel
theorem dX4_word_8 : decode cX4_word 8 = .ok (.ireturn, 1) := by decide +kernel
theorem dX4_word_9 : decode cX4_word 9 = .ok (.iload_n 2, 1) := by decide +kernel
theorem dX4_word_10 : decode cX4_word 10 = .ok (.iconst 0, 1) := by decide +kernel
theorem dX4_word_11 : decode cX4_word 11 = .ok (.bipush 99, 2) := by decide +kernel
theorem dX4_word_13 : decode cX4_word 13 = .ok (.invokestatic 46, 3) := by decide +kernel
theorem dX4_word_16 : decode cX4_word 16 = .ok (.ifCond .eq 12, 3) := by decide +kernel
theorem dX4_word_19 : decode cX4_word 19 = .ok (.iload_n 3, 1) := by decide +kernel
theorem dX4_word_20 : decode cX4_word 20 = .ok (.iconst 0, 1) := by decide +kernel
theorem dX4_word_21 : decode cX4_word 21 = .ok (.iconst 2, 1) := by decide +kernel
theorem dX4_word_22 : decode cX4_word 22 = .ok (.invokestatic 46, 3) := by decide +kernel
theorem dX4_word_25 : decode cX4_word 25 = .ok (.ifCond .ne 6, 3) := by decide +kernel
theorem dX4_word_28 : decode cX4_word 28 = .ok (.bipush (-2), 2) := by decide +kernel
theorem dX4_word_30 : decode cX4_word 30 = .ok (.ireturn, 1) := by decide +kernel
theorem dX4_word_31 : decode cX4_word 31 = .ok (.aload_n 0, 1) := by decide +kernel
theorem dX4_word_32 : decode cX4_word 32 = .ok (.getfield 10, 3) := by decide +kernel
theorem dX4_word_35 : decode cX4_word 35 = .ok (.getfield 50, 3) := by decide +kernel
theorem dX4_word_38 : decode cX4_word 38 = .ok (.iload_n 1, 1) := by decide +kernel
theorem dX4_word_39 : decode cX4_word 39 = .ok (.iaload, 1) := by decide +kernel
theorem dX4_word_40 : decode cX4_word 40 = .ok (.istore 4, 2) := by decide +kernel
theorem dX4_word_42 : decode cX4_word 42 = .ok (.aload_n 0, 1) := by decide +kernel
theorem dX4_word_43 : decode cX4_word 43 = .ok (.getfield 10, 3) := by decide +kernel
theorem dX4_word_46 : decode cX4_word 46 = .ok (.getfield 50, 3) := by decide +kernel
theorem dX4_word_49 : decode cX4_word 49 = .ok (.iload_n 1, 1) := by decide +kernel
theorem dX4_word_50 : decode cX4_word 50 = .ok (.iload_n 2, 1) := by decide +kernel
theorem dX4_word_51 : decode cX4_word 51 = .ok (.iastore, 1) := by decide +kernel
theorem dX4_word_52 : decode cX4_word 52 = .ok (.aload_n 0, 1) := by decide +kernel
theorem dX4_word_53 : decode cX4_word 53 = .ok (.getfield 10, 3) := by decide +kernel
theorem dX4_word_56 : decode cX4_word 56 = .ok (.getfield 53, 3) := by decide +kernel
theorem dX4_word_59 : decode cX4_word 59 = .ok (.iload_n 1, 1) := by decide +kernel
theorem dX4_word_60 : decode cX4_word 60 = .ok (.iload_n 3, 1) := by decide +kernel
theorem dX4_word_61 : decode cX4_word 61 = .ok (.iastore, 1) := by decide +kernel
theorem dX4_word_62 : decode cX4_word 62 = .ok (.iload 4, 2) := by decide +kernel
theorem dX4_word_64 : decode cX4_word 64 = .ok (.ireturn, 1) := by decide +kernel
set_option maxRecDepth 20000 in
theorem ggX4_rhyme_X4_isWord : GoodIn wsX4_rhyme wsX4_isWord := goodIn_r _ [5, 6, 7, 4, 8] (by decide +kernel) (by decide +kernel)
set_option maxRecDepth 20000 in
theorem gX4_rhyme_X4_isWord : GoodIn wsX4_rhyme (va_wsS RX4 42 yX4_isWord wsX4_isWord) := goodIn_app (goodIn_of _ (by decide +kernel)) ggX4_rhyme_X4_isWord
set_option maxRecDepth 20000 in
theorem ggX4_rhyme_X3_joinRhymes : GoodIn wsX4_rhyme wsX3_joinRhymes := goodIn_r _ [12, 13, 3, 4, 5, 6, 7, 8, 14, 15, 30, 31, 32, 33, 34, 35, 36, 37, 38, 39, 40] (by decide +kernel) (by decide +kernel)
set_option maxRecDepth 20000 in
theorem gX4_rhyme_X3_joinRhymes_n56 : GoodIn wsX4_rhyme (wsX3_joinRhymes) := ggX4_rhyme_X3_joinRhymes
set_option maxRecDepth 20000 in
theorem ggX4_rhyme_J6_bitCount_0f7a4 : GoodIn wsX4_rhyme wsJ6_bitCount_0f7a4 := goodIn_r _ [19, 20, 21, 22] (by decide +kernel) (by decide +kernel)
set_option maxRecDepth 20000 in
theorem gX4_rhyme_J6_bitCount_0f7a4 : GoodIn wsX4_rhyme (va_wsS RX4 63 yJ6_bitCount_0f7a4 wsJ6_bitCount_0f7a4) := goodIn_app (goodIn_of _ (by decide +kernel)) ggX4_rhyme_J6_bitCount_0f7a4
theorem dX4_rhyme_0 : decode cX4_rhyme 0 = .ok (.iload_n 1, 1) := by decide +kernel
theorem dX4_rhyme_1 : decode cX4_rhyme 1 = .ok (.invokestatic 42, 3) := by decide +kernel
theorem dX4_rhyme_4 : decode cX4_rhyme 4 = .ok (.ifCond .eq 15, 3) := by decide +kernel
theorem dX4_rhyme_7 : decode cX4_rhyme 7 = .ok (.iload_n 2, 1) := by decide +kernel
theorem dX4_rhyme_8 : decode cX4_rhyme 8 = .ok (.invokestatic 42, 3) := by decide +kernel
theorem dX4_rhyme_11 : decode cX4_rhyme 11 = .ok (.ifCond .eq 8, 3) := by decide +kernel
theorem dX4_rhyme_14 : decode cX4_rhyme 14 = .ok (.iload_n 1, 1) := by decide +kernel
theorem dX4_rhyme_15 : decode cX4_rhyme 15 = .ok (.iload_n 2, 1) := by decide +kernel
theorem dX4_rhyme_16 : decode cX4_rhyme 16 = .ok (.if_icmp .ne 5, 3) := by decide +kernel
theorem dX4_rhyme_19 : decode cX4_rhyme 19 = .ok (.iconst (-1), 1) := by decide +kernel
theorem dX4_rhyme_20 : decode cX4_rhyme 20 = .ok (.ireturn, 1) := by decide +kernel
theorem dX4_rhyme_21 : decode cX4_rhyme 21 = .ok (.aload_n 0, 1) := by decide +kernel
theorem dX4_rhyme_22 : decode cX4_rhyme 22 = .ok (.getfield 10, 3) := by decide +kernel
theorem dX4_rhyme_25 : decode cX4_rhyme 25 = .ok (.iload_n 1, 1) := by decide +kernel
theorem dX4_rhyme_26 : decode cX4_rhyme 26 = .ok (.iload_n 2, 1) := by decide +kernel
theorem dX4_rhyme_27 : decode cX4_rhyme 27 = .ok (.invokevirtual 56, 3) := by decide +kernel
theorem dX4_rhyme_30 : decode cX4_rhyme 30 = .ok (.aload_n 0, 1) := by decide +kernel
theorem dX4_rhyme_31 : decode cX4_rhyme 31 = .ok (.getfield 10, 3) := by decide +kernel
theorem dX4_rhyme_34 : decode cX4_rhyme 34 = .ok (.getfield 60, 3) := by decide +kernel
theorem dX4_rhyme_37 : decode cX4_rhyme 37 = .ok (.iload_n 1, 1) := by decide +kernel
theorem dX4_rhyme_38 : decode cX4_rhyme 38 = .ok (.iaload, 1) := by decide +kernel
theorem dX4_rhyme_39 : decode cX4_rhyme 39 = .ok (.invokestatic 63, 3) := by decide +kernel
theorem dX4_rhyme_42 : decode cX4_rhyme 42 = .ok (.iconst 1, 1) := by decide +kernel
theorem dX4_rhyme_43 : decode cX4_rhyme 43 = .ok (.isub, 1) := by decide +kernel
theorem dX4_rhyme_44 : decode cX4_rhyme 44 = .ok (.ireturn, 1) := by decide +kernel
set_option maxRecDepth 20000 in
theorem ggX4_part_X4_isWord : GoodIn wsX4_part wsX4_isWord := goodIn_r _ [5, 6, 7, 4, 8] (by decide +kernel) (by decide +kernel)
set_option maxRecDepth 20000 in
theorem gX4_part_X4_isWord : GoodIn wsX4_part (va_wsS RX4 42 yX4_isWord wsX4_isWord) := goodIn_app (goodIn_of _ (by decide +kernel)) ggX4_part_X4_isWord
set_option maxRecDepth 20000 in
theorem ggX4_part_J6_bitCount_0f7a4 : GoodIn wsX4_part wsJ6_bitCount_0f7a4 := goodIn_r _ [12, 13, 14, 15] (by decide +kernel) (by decide +kernel)
set_option maxRecDepth 20000 in
theorem gX4_part_J6_bitCount_0f7a4 : GoodIn wsX4_part (va_wsS RX4 63 yJ6_bitCount_0f7a4 wsJ6_bitCount_0f7a4) := goodIn_app (goodIn_of _ (by decide +kernel)) ggX4_part_J6_bitCount_0f7a4
set_option maxRecDepth 20000 in
theorem ggX4_part_X3_leaveRhymes : GoodIn wsX4_part wsX3_leaveRhymes := goodIn_r _ [19, 20, 3, 4, 5, 6, 7, 8, 28, 29, 30, 31, 32, 33, 34, 35, 36, 37, 38] (by decide +kernel) (by decide +kernel)
set_option maxRecDepth 20000 in
theorem gX4_part_X3_leaveRhymes_n69 : GoodIn wsX4_part (wsX3_leaveRhymes) := ggX4_part_X3_leaveRhymes
theorem dX4_part_0 : decode cX4_part 0 = .ok (.iload_n 1, 1) := by decide +kernel
theorem dX4_part_1 : decode cX4_part 1 = .ok (.invokestatic 42, 3) := by decide +kernel
theorem dX4_part_4 : decode cX4_part 4 = .ok (.ifCond .ne 5, 3) := by decide +kernel
theorem dX4_part_7 : decode cX4_part 7 = .ok (.iconst (-1), 1) := by decide +kernel
theorem dX4_part_8 : decode cX4_part 8 = .ok (.ireturn, 1) := by decide +kernel
theorem dX4_part_9 : decode cX4_part 9 = .ok (.aload_n 0, 1) := by decide +kernel
theorem dX4_part_10 : decode cX4_part 10 = .ok (.getfield 10, 3) := by decide +kernel
theorem dX4_part_13 : decode cX4_part 13 = .ok (.getfield 60, 3) := by decide +kernel
theorem dX4_part_16 : decode cX4_part 16 = .ok (.iload_n 1, 1) := by decide +kernel
theorem dX4_part_17 : decode cX4_part 17 = .ok (.iaload, 1) := by decide +kernel
theorem dX4_part_18 : decode cX4_part 18 = .ok (.invokestatic 63, 3) := by decide +kernel
theorem dX4_part_21 : decode cX4_part 21 = .ok (.iconst 1, 1) := by decide +kernel
theorem dX4_part_22 : decode cX4_part 22 = .ok (.isub, 1) := by decide +kernel
theorem dX4_part_23 : decode cX4_part 23 = .ok (.istore_n 2, 1) := by decide +kernel
theorem dX4_part_24 : decode cX4_part 24 = .ok (.aload_n 0, 1) := by decide +kernel
theorem dX4_part_25 : decode cX4_part 25 = .ok (.getfield 10, 3) := by decide +kernel
theorem dX4_part_28 : decode cX4_part 28 = .ok (.iload_n 1, 1) := by decide +kernel
theorem dX4_part_29 : decode cX4_part 29 = .ok (.invokevirtual 69, 3) := by decide +kernel
theorem dX4_part_32 : decode cX4_part 32 = .ok (.iload_n 2, 1) := by decide +kernel
theorem dX4_part_33 : decode cX4_part 33 = .ok (.ireturn, 1) := by decide +kernel
set_option maxRecDepth 20000 in
theorem ggX4_speaker_X4_isSpeaker : GoodIn wsX4_speaker wsX4_isSpeaker := goodIn_r _ [5, 6, 7, 4, 8] (by decide +kernel) (by decide +kernel)
set_option maxRecDepth 20000 in
theorem gX4_speaker_X4_isSpeaker : GoodIn wsX4_speaker (va_wsS RX4 73 yX4_isSpeaker wsX4_isSpeaker) := goodIn_app (goodIn_of _ (by decide +kernel)) ggX4_speaker_X4_isSpeaker
set_option maxRecDepth 20000 in
theorem ggX4_speaker_X4_isWithin : GoodIn wsX4_speaker wsX4_isWithin := goodIn_r _ [8] (by decide +kernel) (by decide +kernel)
set_option maxRecDepth 20000 in
theorem gX4_speaker_X4_isWithin : GoodIn wsX4_speaker (va_wsS RX4 46 yX4_isWithin wsX4_isWithin) := goodIn_app (goodIn_of _ (by decide +kernel)) ggX4_speaker_X4_isWithin
set_option maxRecDepth 20000 in
theorem ggX4_speaker_X4_isSet : GoodIn wsX4_speaker wsX4_isSet := goodIn_r _ [11, 6, 7, 4, 8] (by decide +kernel) (by decide +kernel)
set_option maxRecDepth 20000 in
theorem gX4_speaker_X4_isSet : GoodIn wsX4_speaker (va_wsS RX4 76 yX4_isSet wsX4_isSet) := goodIn_app (goodIn_of _ (by decide +kernel)) ggX4_speaker_X4_isSet
theorem dX4_speaker_0 : decode cX4_speaker 0 = .ok (.iload_n 1, 1) := by decide +kernel
theorem dX4_speaker_1 : decode cX4_speaker 1 = .ok (.invokestatic 73, 3) := by decide +kernel
theorem dX4_speaker_4 : decode cX4_speaker 4 = .ok (.ifCond .ne 5, 3) := by decide +kernel
theorem dX4_speaker_7 : decode cX4_speaker 7 = .ok (.iconst (-1), 1) := by decide +kernel
theorem dX4_speaker_8 : decode cX4_speaker 8 = .ok (.ireturn, 1) := by decide +kernel
theorem dX4_speaker_9 : decode cX4_speaker 9 = .ok (.iload_n 2, 1) := by decide +kernel
theorem dX4_speaker_10 : decode cX4_speaker 10 = .ok (.iconst 0, 1) := by decide +kernel
theorem dX4_speaker_11 : decode cX4_speaker 11 = .ok (.sipush 999, 3) := by decide +kernel
theorem dX4_speaker_14 : decode cX4_speaker 14 = .ok (.invokestatic 46, 3) := by decide +kernel
theorem dX4_speaker_17 : decode cX4_speaker 17 = .ok (.ifCond .eq 10, 3) := by decide +kernel
theorem dX4_speaker_20 : decode cX4_speaker 20 = .ok (.iload_n 3, 1) := by decide +kernel
theorem dX4_speaker_21 : decode cX4_speaker 21 = .ok (.invokestatic 76, 3) := by decide +kernel
theorem dX4_speaker_24 : decode cX4_speaker 24 = .ok (.ifCond .ne 6, 3) := by decide +kernel
theorem dX4_speaker_27 : decode cX4_speaker 27 = .ok (.bipush (-2), 2) := by decide +kernel
theorem dX4_speaker_29 : decode cX4_speaker 29 = .ok (.ireturn, 1) := by decide +kernel
theorem dX4_speaker_30 : decode cX4_speaker 30 = .ok (.aload_n 0, 1) := by decide +kernel
theorem dX4_speaker_31 : decode cX4_speaker 31 = .ok (.getfield 10, 3) := by decide +kernel
theorem dX4_speaker_34 : decode cX4_speaker 34 = .ok (.getfield 79, 3) := by decide +kernel
theorem dX4_speaker_37 : decode cX4_speaker 37 = .ok (.iload_n 1, 1) := by decide +kernel
theorem dX4_speaker_38 : decode cX4_speaker 38 = .ok (.iaload, 1) := by decide +kernel
theorem dX4_speaker_39 : decode cX4_speaker 39 = .ok (.istore 4, 2) := by decide +kernel
theorem dX4_speaker_41 : decode cX4_speaker 41 = .ok (.aload_n 0, 1) := by decide +kernel
theorem dX4_speaker_42 : decode cX4_speaker 42 = .ok (.getfield 10, 3) := by decide +kernel
theorem dX4_speaker_45 : decode cX4_speaker 45 = .ok (.getfield 79, 3) := by decide +kernel
theorem dX4_speaker_48 : decode cX4_speaker 48 = .ok (.iload_n 1, 1) := by decide +kernel
theorem dX4_speaker_49 : decode cX4_speaker 49 = .ok (.iload_n 2, 1) := by decide +kernel
theorem dX4_speaker_50 : decode cX4_speaker 50 = .ok (.iastore, 1) := by decide +kernel
theorem dX4_speaker_51 : decode cX4_speaker 51 = .ok (.aload_n 0, 1) := by decide +kernel
theorem dX4_speaker_52 : decode cX4_speaker 52 = .ok (.getfield 10, 3) := by decide +kernel
theorem dX4_speaker_55 : decode cX4_speaker 55 = .ok (.getfield 82, 3) := by decide +kernel
theorem dX4_speaker_58 : decode cX4_speaker 58 = .ok (.iload_n 1, 1) := by decide +kernel
theorem dX4_speaker_59 : decode cX4_speaker 59 = .ok (.iload_n 3, 1) := by decide +kernel
theorem dX4_speaker_60 : decode cX4_speaker 60 = .ok (.iastore, 1) := by decide +kernel
theorem dX4_speaker_61 : decode cX4_speaker 61 = .ok (.iload 4, 2) := by decide +kernel
theorem dX4_speaker_63 : decode cX4_speaker 63 = .ok (.ireturn, 1) := by decide +kernel
set_option maxRecDepth 20000 in
theorem ggX4_say_X4_isWithin : GoodIn wsX4_say wsX4_isWithin := goodIn_r _ [6] (by decide +kernel) (by decide +kernel)
set_option maxRecDepth 20000 in
theorem gX4_say_X4_isWithin : GoodIn wsX4_say (va_wsS RX4 46 yX4_isWithin wsX4_isWithin) := goodIn_app (goodIn_of _ (by decide +kernel)) ggX4_say_X4_isWithin
theorem dX4_say_0 : decode cX4_say 0 = .ok (.iload_n 1, 1) := by decide +kernel
theorem dX4_say_1 : decode cX4_say 1 = .ok (.bipush 33, 2) := by decide +kernel
theorem dX4_say_3 : decode cX4_say 3 = .ok (.bipush 126, 2) := by decide +kernel
theorem dX4_say_5 : decode cX4_say 5 = .ok (.invokestatic 46, 3) := by decide +kernel
theorem dX4_say_8 : decode cX4_say 8 = .ok (.ifCond .ne 6, 3) := by decide +kernel
theorem dX4_say_11 : decode cX4_say 11 = .ok (.bipush (-2), 2) := by decide +kernel
theorem dX4_say_13 : decode cX4_say 13 = .ok (.ireturn, 1) := by decide +kernel
theorem dX4_say_14 : decode cX4_say 14 = .ok (.aload_n 0, 1) := by decide +kernel
theorem dX4_say_15 : decode cX4_say 15 = .ok (.getfield 27, 3) := by decide +kernel
theorem dX4_say_18 : decode cX4_say 18 = .ok (.iconst 0, 1) := by decide +kernel
theorem dX4_say_19 : decode cX4_say 19 = .ok (.bipush 59, 2) := by decide +kernel
theorem dX4_say_21 : decode cX4_say 21 = .ok (.invokestatic 46, 3) := by decide +kernel
theorem dX4_say_24 : decode cX4_say 24 = .ok (.ifCond .ne 6, 3) := by decide +kernel
theorem dX4_say_27 : decode cX4_say 27 = .ok (.bipush (-4), 2) := by decide +kernel
theorem dX4_say_29 : decode cX4_say 29 = .ok (.ireturn, 1) := by decide +kernel
theorem dX4_say_30 : decode cX4_say 30 = .ok (.aload_n 0, 1) := by decide +kernel
theorem dX4_say_31 : decode cX4_say 31 = .ok (.getfield 23, 3) := by decide +kernel
theorem dX4_say_34 : decode cX4_say 34 = .ok (.aload_n 0, 1) := by decide +kernel
theorem dX4_say_35 : decode cX4_say 35 = .ok (.getfield 27, 3) := by decide +kernel
theorem dX4_say_38 : decode cX4_say 38 = .ok (.iload_n 1, 1) := by decide +kernel
theorem dX4_say_39 : decode cX4_say 39 = .ok (.iastore, 1) := by decide +kernel
theorem dX4_say_40 : decode cX4_say 40 = .ok (.aload_n 0, 1) := by decide +kernel
theorem dX4_say_41 : decode cX4_say 41 = .ok (.dup, 1) := by decide +kernel
theorem dX4_say_42 : decode cX4_say 42 = .ok (.getfield 27, 3) := by decide +kernel
theorem dX4_say_45 : decode cX4_say 45 = .ok (.iconst 1, 1) := by decide +kernel
theorem dX4_say_46 : decode cX4_say 46 = .ok (.iadd, 1) := by decide +kernel
theorem dX4_say_47 : decode cX4_say 47 = .ok (.putfield 27, 3) := by decide +kernel
theorem dX4_say_50 : decode cX4_say 50 = .ok (.aload_n 0, 1) := by decide +kernel
theorem dX4_say_51 : decode cX4_say 51 = .ok (.getfield 27, 3) := by decide +kernel
theorem dX4_say_54 : decode cX4_say 54 = .ok (.ireturn, 1) := by decide +kernel
theorem dX4_wipe_0 : decode cX4_wipe 0 = .ok (.aload_n 0, 1) := by decide +kernel
theorem dX4_wipe_1 : decode cX4_wipe 1 = .ok (.getfield 27, 3) := by decide +kernel
theorem dX4_wipe_4 : decode cX4_wipe 4 = .ok (.istore_n 1, 1) := by decide +kernel
theorem dX4_wipe_5 : decode cX4_wipe 5 = .ok (.aload_n 0, 1) := by decide +kernel
theorem dX4_wipe_6 : decode cX4_wipe 6 = .ok (.iconst 0, 1) := by decide +kernel
theorem dX4_wipe_7 : decode cX4_wipe 7 = .ok (.putfield 27, 3) := by decide +kernel
theorem dX4_wipe_10 : decode cX4_wipe 10 = .ok (.iload_n 1, 1) := by decide +kernel
theorem dX4_wipe_11 : decode cX4_wipe 11 = .ok (.ireturn, 1) := by decide +kernel
set_option maxRecDepth 20000 in
theorem ggX4_fault_X1_readAll : GoodIn wsX4_fault wsX1_readAll := goodIn_r _ [8, 9, 10, 11, 12, 13, 14, 6, 15, 16, 17, 18, 19, 20, 21, 22, 23, 24, 25, 26, 27, 28, 29, 30, 31, 32, 33, 34, 35, 36, 37, 38, 39, 40, 41, 42, 43, 44, 45, 46, 47, 48, 49, 50, 51, 52, 53, 54, 55, 56, 57, 58, 59, 60, 61, 62, 63, 64, 65, 66, 67, 68, 69, 70, 71, 72, 73, 74, 75, 76, 77, 78, 79, 80, 81, 82, 83, 84, 85, 86, 87, 88, 89, 90, 91, 92, 93, 94, 95, 96, 97, 98, 99, 100, 101, 102, 103, 104, 105, 106, 107, 108, 109, 110, 111, 112, 113, 114, 115, 116, 117, 118, 119, 120, 121, 122, 123, 124, 125, 126, 127, 128, 129, 130, 131, 132, 133, 134, 135, 136, 137, 138, 139, 140, 148, 149, 150, 151, 152, 153, 154, 155, 156, 157, 158, 159, 160, 161, 162, 163, 164, 165, 166, 167, 168, 169, 170, 171, 172, 173, 174, 175, 176] (by decide +kernel) (by decide +kernel)
set_option maxRecDepth 20000 in
theorem gX4_fault_X1_readAll_n85 : GoodIn wsX4_fault (wsX1_readAll) := ggX4_fault_X1_readAll
theorem dX4_fault_0 : decode cX4_fault 0 = .ok (.aload_n 0, 1) := by decide +kernel
theorem dX4_fault_1 : decode cX4_fault 1 = .ok (.getfield 34, 3) := by decide +kernel
theorem dX4_fault_4 : decode cX4_fault 4 = .ok (.aload_n 0, 1) := by decide +kernel
theorem dX4_fault_5 : decode cX4_fault 5 = .ok (.getfield 23, 3) := by decide +kernel
theorem dX4_fault_8 : decode cX4_fault 8 = .ok (.aload_n 0, 1) := by decide +kernel
theorem dX4_fault_9 : decode cX4_fault 9 = .ok (.getfield 27, 3) := by decide +kernel
theorem dX4_fault_12 : decode cX4_fault 12 = .ok (.aload_n 0, 1) := by decide +kernel
theorem dX4_fault_13 : decode cX4_fault 13 = .ok (.getfield 10, 3) := by decide +kernel
theorem dX4_fault_16 : decode cX4_fault 16 = .ok (.invokevirtual 85, 3) := by decide +kernel
theorem dX4_fault_19 : decode cX4_fault 19 = .ok (.bipush (-5), 2) := by decide +kernel
theorem dX4_fault_21 : decode cX4_fault 21 = .ok (.if_icmp .ne 13, 3) := by decide +kernel
theorem dX4_fault_24 : decode cX4_fault 24 = .ok (.aload_n 0, 1) := by decide +kernel
theorem dX4_fault_25 : decode cX4_fault 25 = .ok (.getfield 34, 3) := by decide +kernel
theorem dX4_fault_28 : decode cX4_fault 28 = .ok (.getfield 89, 3) := by decide +kernel
theorem dX4_fault_31 : decode cX4_fault 31 = .ok (.goto 5, 3) := by decide +kernel
theorem dX4_fault_34 : decode cX4_fault 34 = .ok (.bipush (-6), 2) := by decide +kernel
theorem dX4_fault_36 : decode cX4_fault 36 = .ok (.ireturn, 1) := by decide +kernel
set_option maxRecDepth 20000 in
theorem ggX4_judge_X4_isWithin : GoodIn wsX4_judge wsX4_isWithin := goodIn_r _ [8] (by decide +kernel) (by decide +kernel)
set_option maxRecDepth 20000 in
theorem gX4_judge_X4_isWithin : GoodIn wsX4_judge (va_wsS RX4 46 yX4_isWithin wsX4_isWithin) := goodIn_app (goodIn_of _ (by decide +kernel)) ggX4_judge_X4_isWithin
set_option maxRecDepth 20000 in
theorem ggX4_judge_X1_readAll : GoodIn wsX4_judge wsX1_readAll := goodIn_r _ [12, 13, 14, 15, 16, 17, 18, 10, 19, 20, 21, 22, 23, 24, 25, 26, 27, 28, 29, 30, 31, 32, 33, 34, 35, 36, 37, 38, 39, 40, 41, 42, 7, 43, 44, 45, 46, 47, 48, 49, 50, 51, 52, 53, 54, 55, 56, 57, 58, 59, 60, 61, 62, 63, 64, 65, 66, 67, 68, 69, 5, 6, 8, 70, 71, 72, 73, 74, 75, 76, 77, 78, 79, 80, 81, 82, 83, 84, 85, 86, 87, 88, 89, 90, 91, 92, 93, 94, 95, 96, 97, 98, 99, 100, 101, 102, 103, 104, 105, 106, 107, 108, 109, 110, 111, 112, 113, 114, 115, 116, 117, 118, 119, 120, 121, 122, 123, 124, 125, 126, 127, 128, 129, 130, 131, 132, 133, 134, 135, 136, 137, 138, 139, 140, 148, 149, 150, 151, 152, 153, 154, 155, 156, 157, 158, 159, 160, 161, 162, 163, 164, 165, 166, 167, 168, 169, 170, 171, 172, 173, 174, 175, 176] (by decide +kernel) (by decide +kernel)
set_option maxRecDepth 20000 in
theorem gX4_judge_X1_readAll_n85 : GoodIn wsX4_judge (wsX1_readAll) := ggX4_judge_X1_readAll
theorem dX4_judge_0 : decode cX4_judge 0 = .ok (.iload_n 1, 1) := by decide +kernel
theorem dX4_judge_1 : decode cX4_judge 1 = .ok (.iconst 0, 1) := by decide +kernel
theorem dX4_judge_2 : decode cX4_judge 2 = .ok (.iconst 2, 1) := by decide +kernel
theorem dX4_judge_3 : decode cX4_judge 3 = .ok (.invokestatic 46, 3) := by decide +kernel
theorem dX4_judge_6 : decode cX4_judge 6 = .ok (.ifCond .ne 6, 3) := by decide +kernel
theorem dX4_judge_9 : decode cX4_judge 9 = .ok (.bipush (-2), 2) := by decide +kernel
theorem dX4_judge_11 : decode cX4_judge 11 = .ok (.ireturn, 1) := by decide +kernel
theorem dX4_judge_12 : decode cX4_judge 12 = .ok (.aload_n 0, 1) := by decide +kernel
theorem dX4_judge_13 : decode cX4_judge 13 = .ok (.getfield 34, 3) := by decide +kernel
theorem dX4_judge_16 : decode cX4_judge 16 = .ok (.aload_n 0, 1) := by decide +kernel
theorem dX4_judge_17 : decode cX4_judge 17 = .ok (.getfield 23, 3) := by decide +kernel
theorem dX4_judge_20 : decode cX4_judge 20 = .ok (.aload_n 0, 1) := by decide +kernel
theorem dX4_judge_21 : decode cX4_judge 21 = .ok (.getfield 27, 3) := by decide +kernel
theorem dX4_judge_24 : decode cX4_judge 24 = .ok (.aload_n 0, 1) := by decide +kernel
theorem dX4_judge_25 : decode cX4_judge 25 = .ok (.getfield 10, 3) := by decide +kernel
theorem dX4_judge_28 : decode cX4_judge 28 = .ok (.invokevirtual 85, 3) := by decide +kernel
theorem dX4_judge_31 : decode cX4_judge 31 = .ok (.istore_n 2, 1) := by decide +kernel
theorem dX4_judge_32 : decode cX4_judge 32 = .ok (.iload_n 2, 1) := by decide +kernel
theorem dX4_judge_33 : decode cX4_judge 33 = .ok (.bipush (-5), 2) := by decide +kernel
theorem dX4_judge_35 : decode cX4_judge 35 = .ok (.if_icmp .ne 6, 3) := by decide +kernel
theorem dX4_judge_38 : decode cX4_judge 38 = .ok (.bipush (-5), 2) := by decide +kernel
theorem dX4_judge_40 : decode cX4_judge 40 = .ok (.ireturn, 1) := by decide +kernel
theorem dX4_judge_41 : decode cX4_judge 41 = .ok (.iload_n 1, 1) := by decide +kernel
theorem dX4_judge_42 : decode cX4_judge 42 = .ok (.iconst 2, 1) := by decide +kernel
theorem dX4_judge_43 : decode cX4_judge 43 = .ok (.if_icmp .ne 19, 3) := by decide +kernel
theorem dX4_judge_46 : decode cX4_judge 46 = .ok (.iload_n 2, 1) := by decide +kernel
theorem dX4_judge_47 : decode cX4_judge 47 = .ok (.ifCond .ne 13, 3) := by decide +kernel
theorem dX4_judge_50 : decode cX4_judge 50 = .ok (.aload_n 0, 1) := by decide +kernel
theorem dX4_judge_51 : decode cX4_judge 51 = .ok (.getfield 34, 3) := by decide +kernel
theorem dX4_judge_54 : decode cX4_judge 54 = .ok (.getfield 92, 3) := by decide +kernel
theorem dX4_judge_57 : decode cX4_judge 57 = .ok (.goto 4, 3) := by decide +kernel
theorem dX4_judge_60 : decode cX4_judge 60 = .ok (.iload_n 2, 1) := by decide +kernel
theorem dX4_judge_61 : decode cX4_judge 61 = .ok (.ireturn, 1) := by decide +kernel
theorem dX4_judge_62 : decode cX4_judge 62 = .ok (.iload_n 2, 1) := by decide +kernel
theorem dX4_judge_63 : decode cX4_judge 63 = .ok (.ifCond .ne 6, 3) := by decide +kernel
theorem dX4_judge_66 : decode cX4_judge 66 = .ok (.bipush (-6), 2) := by decide +kernel
theorem dX4_judge_68 : decode cX4_judge 68 = .ok (.ireturn, 1) := by decide +kernel
theorem dX4_judge_69 : decode cX4_judge 69 = .ok (.iload_n 1, 1) := by decide +kernel
theorem dX4_judge_70 : decode cX4_judge 70 = .ok (.ifCond .ne 13, 3) := by decide +kernel
theorem dX4_judge_73 : decode cX4_judge 73 = .ok (.aload_n 0, 1) := by decide +kernel
theorem dX4_judge_74 : decode cX4_judge 74 = .ok (.getfield 34, 3) := by decide +kernel
theorem dX4_judge_77 : decode cX4_judge 77 = .ok (.getfield 95, 3) := by decide +kernel
theorem dX4_judge_80 : decode cX4_judge 80 = .ok (.goto 10, 3) := by decide +kernel
theorem dX4_judge_83 : decode cX4_judge 83 = .ok (.aload_n 0, 1) := by decide +kernel
theorem dX4_judge_84 : decode cX4_judge 84 = .ok (.getfield 34, 3) := by decide +kernel
theorem dX4_judge_87 : decode cX4_judge 87 = .ok (.getfield 98, 3) := by decide +kernel
theorem dX4_judge_90 : decode cX4_judge 90 = .ok (.ireturn, 1) := by decide +kernel
set_option maxRecDepth 20000 in
theorem ggX4_behind_X4_isSpeaker : GoodIn wsX4_behind wsX4_isSpeaker := goodIn_r _ [8, 9, 10, 7, 11] (by decide +kernel) (by decide +kernel)
set_option maxRecDepth 20000 in
theorem gX4_behind_X4_isSpeaker : GoodIn wsX4_behind (va_wsS RX4 73 yX4_isSpeaker wsX4_isSpeaker) := goodIn_app (goodIn_of _ (by decide +kernel)) ggX4_behind_X4_isSpeaker
set_option maxRecDepth 20000 in
theorem ggX4_behind_X4_isWithin : GoodIn wsX4_behind wsX4_isWithin := goodIn_r _ [11] (by decide +kernel) (by decide +kernel)
set_option maxRecDepth 20000 in
theorem gX4_behind_X4_isWithin : GoodIn wsX4_behind (va_wsS RX4 46 yX4_isWithin wsX4_isWithin) := goodIn_app (goodIn_of _ (by decide +kernel)) ggX4_behind_X4_isWithin
set_option maxRecDepth 20000 in
theorem ggX4_behind_X1_readAll : GoodIn wsX4_behind wsX1_readAll := goodIn_r _ [15, 16, 17, 18, 19, 20, 21, 13, 22, 23, 24, 25, 26, 27, 28, 29, 30, 31, 32, 33, 34, 35, 36, 37, 38, 39, 40, 41, 42, 43, 44, 45, 7, 46, 47, 48, 49, 50, 51, 52, 53, 54, 55, 56, 57, 58, 59, 60, 61, 62, 63, 64, 65, 66, 67, 68, 69, 70, 6, 8, 9, 10, 11, 71, 72, 73, 74, 75, 76, 77, 78, 79, 80, 81, 82, 83, 84, 85, 86, 87, 88, 89, 90, 91, 92, 93, 94, 95, 96, 97, 98, 99, 100, 101, 102, 103, 104, 105, 106, 107, 108, 109, 110, 111, 112, 113, 114, 115, 116, 117, 118, 119, 120, 121, 122, 123, 124, 125, 126, 127, 128, 129, 130, 131, 132, 133, 134, 135, 136, 137, 138, 139, 140, 141, 149, 150, 151, 152, 153, 154, 155, 156, 157, 158, 159, 160, 161, 162, 163, 164, 165, 166, 167, 168, 169, 170, 171, 172, 173, 174, 175, 176, 177] (by decide +kernel) (by decide +kernel)
set_option maxRecDepth 20000 in
theorem gX4_behind_X1_readAll_n85 : GoodIn wsX4_behind (wsX1_readAll) := ggX4_behind_X1_readAll
theorem dX4_behind_0 : decode cX4_behind 0 = .ok (.iload_n 1, 1) := by decide +kernel
theorem dX4_behind_1 : decode cX4_behind 1 = .ok (.invokestatic 73, 3) := by decide +kernel
theorem dX4_behind_4 : decode cX4_behind 4 = .ok (.ifCond .ne 5, 3) := by decide +kernel
theorem dX4_behind_7 : decode cX4_behind 7 = .ok (.iconst (-1), 1) := by decide +kernel
theorem dX4_behind_8 : decode cX4_behind 8 = .ok (.ireturn, 1) := by decide +kernel
theorem dX4_behind_9 : decode cX4_behind 9 = .ok (.iload_n 2, 1) := by decide +kernel
theorem dX4_behind_10 : decode cX4_behind 10 = .ok (.iconst 0, 1) := by decide +kernel
theorem dX4_behind_11 : decode cX4_behind 11 = .ok (.iconst 1, 1) := by decide +kernel
theorem dX4_behind_12 : decode cX4_behind 12 = .ok (.invokestatic 46, 3) := by decide +kernel
theorem dX4_behind_15 : decode cX4_behind 15 = .ok (.ifCond .ne 6, 3) := by decide +kernel
theorem dX4_behind_18 : decode cX4_behind 18 = .ok (.bipush (-2), 2) := by decide +kernel
theorem dX4_behind_20 : decode cX4_behind 20 = .ok (.ireturn, 1) := by decide +kernel
theorem dX4_behind_21 : decode cX4_behind 21 = .ok (.aload_n 0, 1) := by decide +kernel
theorem dX4_behind_22 : decode cX4_behind 22 = .ok (.getfield 34, 3) := by decide +kernel
theorem dX4_behind_25 : decode cX4_behind 25 = .ok (.aload_n 0, 1) := by decide +kernel
theorem dX4_behind_26 : decode cX4_behind 26 = .ok (.getfield 23, 3) := by decide +kernel
theorem dX4_behind_29 : decode cX4_behind 29 = .ok (.aload_n 0, 1) := by decide +kernel
theorem dX4_behind_30 : decode cX4_behind 30 = .ok (.getfield 27, 3) := by decide +kernel
theorem dX4_behind_33 : decode cX4_behind 33 = .ok (.aload_n 0, 1) := by decide +kernel
theorem dX4_behind_34 : decode cX4_behind 34 = .ok (.getfield 10, 3) := by decide +kernel
theorem dX4_behind_37 : decode cX4_behind 37 = .ok (.invokevirtual 85, 3) := by decide +kernel
theorem dX4_behind_40 : decode cX4_behind 40 = .ok (.istore_n 3, 1) := by decide +kernel
theorem dX4_behind_41 : decode cX4_behind 41 = .ok (.iload_n 3, 1) := by decide +kernel
theorem dX4_behind_42 : decode cX4_behind 42 = .ok (.ifCond .eq 5, 3) := by decide +kernel
theorem dX4_behind_45 : decode cX4_behind 45 = .ok (.iload_n 3, 1) := by decide +kernel
theorem dX4_behind_46 : decode cX4_behind 46 = .ok (.ireturn, 1) := by decide +kernel
theorem dX4_behind_47 : decode cX4_behind 47 = .ok (.iload_n 2, 1) := by decide +kernel
theorem dX4_behind_48 : decode cX4_behind 48 = .ok (.ifCond .ne 18, 3) := by decide +kernel
theorem dX4_behind_51 : decode cX4_behind 51 = .ok (.aload_n 0, 1) := by decide +kernel
theorem dX4_behind_52 : decode cX4_behind 52 = .ok (.getfield 34, 3) := by decide +kernel
theorem dX4_behind_55 : decode cX4_behind 55 = .ok (.getfield 101, 3) := by decide +kernel
theorem dX4_behind_58 : decode cX4_behind 58 = .ok (.getfield 79, 3) := by decide +kernel
theorem dX4_behind_61 : decode cX4_behind 61 = .ok (.iload_n 1, 1) := by decide +kernel
theorem dX4_behind_62 : decode cX4_behind 62 = .ok (.iaload, 1) := by decide +kernel
theorem dX4_behind_63 : decode cX4_behind 63 = .ok (.goto 15, 3) := by decide +kernel
theorem dX4_behind_66 : decode cX4_behind 66 = .ok (.aload_n 0, 1) := by decide +kernel
theorem dX4_behind_67 : decode cX4_behind 67 = .ok (.getfield 34, 3) := by decide +kernel
theorem dX4_behind_70 : decode cX4_behind 70 = .ok (.getfield 101, 3) := by decide +kernel
theorem dX4_behind_73 : decode cX4_behind 73 = .ok (.getfield 82, 3) := by decide +kernel
theorem dX4_behind_76 : decode cX4_behind 76 = .ok (.iload_n 1, 1) := by decide +kernel
theorem dX4_behind_77 : decode cX4_behind 77 = .ok (.iaload, 1) := by decide +kernel
theorem dX4_behind_78 : decode cX4_behind 78 = .ok (.ireturn, 1) := by decide +kernel
set_option maxRecDepth 20000 in
theorem ggX4_worn_X4_isWord : GoodIn wsX4_worn wsX4_isWord := goodIn_r _ [8, 9, 10, 7, 11] (by decide +kernel) (by decide +kernel)
set_option maxRecDepth 20000 in
theorem gX4_worn_X4_isWord : GoodIn wsX4_worn (va_wsS RX4 42 yX4_isWord wsX4_isWord) := goodIn_app (goodIn_of _ (by decide +kernel)) ggX4_worn_X4_isWord
set_option maxRecDepth 20000 in
theorem ggX4_worn_X1_readAll : GoodIn wsX4_worn wsX1_readAll := goodIn_r _ [15, 16, 17, 18, 19, 20, 21, 13, 22, 23, 24, 25, 26, 27, 28, 29, 30, 31, 32, 33, 34, 35, 36, 37, 38, 39, 40, 41, 42, 43, 44, 45, 7, 46, 47, 48, 49, 50, 51, 52, 53, 54, 55, 56, 57, 58, 59, 60, 61, 62, 63, 64, 65, 66, 67, 68, 69, 70, 71, 72, 9, 10, 11, 73, 74, 75, 76, 77, 78, 79, 80, 81, 6, 8, 82, 83, 84, 85, 86, 87, 88, 89, 90, 91, 92, 93, 94, 95, 96, 97, 98, 99, 100, 101, 102, 103, 104, 105, 106, 107, 108, 109, 110, 111, 112, 113, 114, 115, 116, 117, 118, 119, 120, 121, 122, 123, 124, 125, 126, 127, 128, 129, 130, 131, 132, 133, 134, 135, 136, 137, 138, 139, 140, 141, 149, 150, 151, 152, 153, 154, 155, 156, 157, 158, 159, 160, 161, 162, 163, 164, 165, 166, 167, 168, 169, 170, 171, 172, 173, 174, 175, 176, 177] (by decide +kernel) (by decide +kernel)
set_option maxRecDepth 20000 in
theorem gX4_worn_X1_readAll_n85 : GoodIn wsX4_worn (wsX1_readAll) := ggX4_worn_X1_readAll
theorem dX4_worn_0 : decode cX4_worn 0 = .ok (.iload_n 1, 1) := by decide +kernel
theorem dX4_worn_1 : decode cX4_worn 1 = .ok (.invokestatic 42, 3) := by decide +kernel
theorem dX4_worn_4 : decode cX4_worn 4 = .ok (.ifCond .ne 5, 3) := by decide +kernel
theorem dX4_worn_7 : decode cX4_worn 7 = .ok (.iconst (-1), 1) := by decide +kernel
theorem dX4_worn_8 : decode cX4_worn 8 = .ok (.ireturn, 1) := by decide +kernel
theorem dX4_worn_9 : decode cX4_worn 9 = .ok (.aload_n 0, 1) := by decide +kernel
theorem dX4_worn_10 : decode cX4_worn 10 = .ok (.getfield 34, 3) := by decide +kernel
theorem dX4_worn_13 : decode cX4_worn 13 = .ok (.aload_n 0, 1) := by decide +kernel
theorem dX4_worn_14 : decode cX4_worn 14 = .ok (.getfield 23, 3) := by decide +kernel
theorem dX4_worn_17 : decode cX4_worn 17 = .ok (.aload_n 0, 1) := by decide +kernel
theorem dX4_worn_18 : decode cX4_worn 18 = .ok (.getfield 27, 3) := by decide +kernel
theorem dX4_worn_21 : decode cX4_worn 21 = .ok (.aload_n 0, 1) := by decide +kernel
theorem dX4_worn_22 : decode cX4_worn 22 = .ok (.getfield 10, 3) := by decide +kernel
theorem dX4_worn_25 : decode cX4_worn 25 = .ok (.invokevirtual 85, 3) := by decide +kernel
theorem dX4_worn_28 : decode cX4_worn 28 = .ok (.istore_n 2, 1) := by decide +kernel
theorem dX4_worn_29 : decode cX4_worn 29 = .ok (.iload_n 2, 1) := by decide +kernel
theorem dX4_worn_30 : decode cX4_worn 30 = .ok (.ifCond .ne 18, 3) := by decide +kernel
theorem dX4_worn_33 : decode cX4_worn 33 = .ok (.aload_n 0, 1) := by decide +kernel
theorem dX4_worn_34 : decode cX4_worn 34 = .ok (.getfield 34, 3) := by decide +kernel
theorem dX4_worn_37 : decode cX4_worn 37 = .ok (.getfield 101, 3) := by decide +kernel
theorem dX4_worn_40 : decode cX4_worn 40 = .ok (.getfield 50, 3) := by decide +kernel
theorem dX4_worn_43 : decode cX4_worn 43 = .ok (.iload_n 1, 1) := by decide +kernel
theorem dX4_worn_44 : decode cX4_worn 44 = .ok (.iaload, 1) := by decide +kernel
theorem dX4_worn_45 : decode cX4_worn 45 = .ok (.goto 4, 3) := by decide +kernel
theorem dX4_worn_48 : decode cX4_worn 48 = .ok (.iload_n 2, 1) := by decide +kernel
theorem dX4_worn_49 : decode cX4_worn 49 = .ok (.ireturn, 1) := by decide +kernel
set_option maxRecDepth 20000 in
theorem ggX4_said_X4_isWithin : GoodIn wsX4_said wsX4_isWithin := goodIn_r _ [8] (by decide +kernel) (by decide +kernel)
set_option maxRecDepth 20000 in
theorem gX4_said_X4_isWithin : GoodIn wsX4_said (va_wsS RX4 46 yX4_isWithin wsX4_isWithin) := goodIn_app (goodIn_of _ (by decide +kernel)) ggX4_said_X4_isWithin
set_option maxRecDepth 20000 in
theorem ggX4_said_X1_readAll : GoodIn wsX4_said wsX1_readAll := goodIn_r _ [12, 13, 14, 15, 16, 17, 18, 10, 19, 20, 21, 22, 23, 24, 25, 26, 27, 28, 29, 30, 31, 32, 33, 34, 35, 36, 37, 38, 39, 40, 41, 42, 7, 43, 44, 45, 46, 47, 48, 49, 50, 51, 52, 53, 54, 55, 56, 57, 58, 59, 60, 61, 62, 63, 64, 65, 66, 67, 68, 69, 5, 6, 8, 70, 71, 72, 73, 74, 75, 76, 77, 78, 79, 80, 81, 82, 83, 84, 85, 86, 87, 88, 89, 90, 91, 92, 93, 94, 95, 96, 97, 98, 99, 100, 101, 102, 103, 104, 105, 106, 107, 108, 109, 110, 111, 112, 113, 114, 115, 116, 117, 118, 119, 120, 121, 122, 123, 124, 125, 126, 127, 128, 129, 130, 131, 132, 133, 134, 135, 136, 137, 138, 139, 140, 148, 149, 150, 151, 152, 153, 154, 155, 156, 157, 158, 161, 162, 163, 164, 165, 166, 167, 168, 169, 170, 171, 172, 173, 174, 175, 176, 159, 160] (by decide +kernel) (by decide +kernel)
set_option maxRecDepth 20000 in
theorem gX4_said_X1_readAll_n85 : GoodIn wsX4_said (wsX1_readAll) := ggX4_said_X1_readAll
theorem dX4_said_0 : decode cX4_said 0 = .ok (.iload_n 1, 1) := by decide +kernel
theorem dX4_said_1 : decode cX4_said 1 = .ok (.iconst 0, 1) := by decide +kernel
theorem dX4_said_2 : decode cX4_said 2 = .ok (.iconst 2, 1) := by decide +kernel
theorem dX4_said_3 : decode cX4_said 3 = .ok (.invokestatic 46, 3) := by decide +kernel
theorem dX4_said_6 : decode cX4_said 6 = .ok (.ifCond .ne 6, 3) := by decide +kernel
theorem dX4_said_9 : decode cX4_said 9 = .ok (.bipush (-2), 2) := by decide +kernel
theorem dX4_said_11 : decode cX4_said 11 = .ok (.ireturn, 1) := by decide +kernel
theorem dX4_said_12 : decode cX4_said 12 = .ok (.aload_n 0, 1) := by decide +kernel
theorem dX4_said_13 : decode cX4_said 13 = .ok (.getfield 34, 3) := by decide +kernel
theorem dX4_said_16 : decode cX4_said 16 = .ok (.aload_n 0, 1) := by decide +kernel
theorem dX4_said_17 : decode cX4_said 17 = .ok (.getfield 23, 3) := by decide +kernel
theorem dX4_said_20 : decode cX4_said 20 = .ok (.aload_n 0, 1) := by decide +kernel
theorem dX4_said_21 : decode cX4_said 21 = .ok (.getfield 27, 3) := by decide +kernel
theorem dX4_said_24 : decode cX4_said 24 = .ok (.aload_n 0, 1) := by decide +kernel
theorem dX4_said_25 : decode cX4_said 25 = .ok (.getfield 10, 3) := by decide +kernel
theorem dX4_said_28 : decode cX4_said 28 = .ok (.invokevirtual 85, 3) := by decide +kernel
theorem dX4_said_31 : decode cX4_said 31 = .ok (.istore_n 2, 1) := by decide +kernel
theorem dX4_said_32 : decode cX4_said 32 = .ok (.iload_n 2, 1) := by decide +kernel
theorem dX4_said_33 : decode cX4_said 33 = .ok (.ifCond .eq 5, 3) := by decide +kernel
theorem dX4_said_36 : decode cX4_said 36 = .ok (.iload_n 2, 1) := by decide +kernel
theorem dX4_said_37 : decode cX4_said 37 = .ok (.ireturn, 1) := by decide +kernel
theorem dX4_said_38 : decode cX4_said 38 = .ok (.iload_n 1, 1) := by decide +kernel
theorem dX4_said_39 : decode cX4_said 39 = .ok (.iconst 2, 1) := by decide +kernel
theorem dX4_said_40 : decode cX4_said 40 = .ok (.if_icmp .ne 11, 3) := by decide +kernel
theorem dX4_said_43 : decode cX4_said 43 = .ok (.aload_n 0, 1) := by decide +kernel
theorem dX4_said_44 : decode cX4_said 44 = .ok (.getfield 34, 3) := by decide +kernel
theorem dX4_said_47 : decode cX4_said 47 = .ok (.getfield 102, 3) := by decide +kernel
theorem dX4_said_50 : decode cX4_said 50 = .ok (.ireturn, 1) := by decide +kernel
theorem dX4_said_51 : decode cX4_said 51 = .ok (.iload_n 1, 1) := by decide +kernel
theorem dX4_said_52 : decode cX4_said 52 = .ok (.ifCond .ne 13, 3) := by decide +kernel
theorem dX4_said_55 : decode cX4_said 55 = .ok (.aload_n 0, 1) := by decide +kernel
theorem dX4_said_56 : decode cX4_said 56 = .ok (.getfield 34, 3) := by decide +kernel
theorem dX4_said_59 : decode cX4_said 59 = .ok (.getfield 105, 3) := by decide +kernel
theorem dX4_said_62 : decode cX4_said 62 = .ok (.goto 13, 3) := by decide +kernel
theorem dX4_said_65 : decode cX4_said 65 = .ok (.aload_n 0, 1) := by decide +kernel
theorem dX4_said_66 : decode cX4_said 66 = .ok (.getfield 34, 3) := by decide +kernel
theorem dX4_said_69 : decode cX4_said 69 = .ok (.getfield 108, 3) := by decide +kernel
theorem dX4_said_72 : decode cX4_said 72 = .ok (.getfield 112, 3) := by decide +kernel
theorem dX4_said_75 : decode cX4_said 75 = .ok (.ireturn, 1) := by decide +kernel
set_option maxRecDepth 20000 in
theorem ggX4_done_X1_readAll : GoodIn wsX4_done wsX1_readAll := goodIn_r _ [8, 9, 10, 11, 12, 13, 14, 6, 15, 16, 17, 18, 19, 20, 21, 22, 23, 24, 25, 26, 27, 28, 29, 30, 31, 32, 33, 34, 35, 36, 37, 38, 39, 40, 41, 42, 43, 44, 45, 46, 47, 48, 49, 50, 51, 52, 53, 54, 55, 56, 57, 58, 59, 60, 61, 62, 63, 64, 65, 66, 67, 68, 69, 70, 71, 72, 73, 74, 75, 76, 77, 78, 79, 80, 81, 82, 83, 84, 85, 86, 87, 88, 89, 90, 91, 92, 93, 94, 95, 96, 97, 98, 99, 100, 101, 102, 103, 104, 105, 106, 107, 108, 109, 110, 111, 112, 113, 114, 115, 116, 117, 118, 119, 120, 121, 122, 123, 124, 125, 126, 127, 128, 129, 130, 131, 132, 133, 134, 135, 136, 137, 138, 139, 140, 148, 149, 150, 151, 152, 153, 154, 155, 156, 157, 158, 159, 160, 161, 162, 163, 164, 165, 166, 167, 168, 169, 170, 171, 172, 173, 174, 175, 176] (by decide +kernel) (by decide +kernel)
set_option maxRecDepth 20000 in
theorem gX4_done_X1_readAll_n85 : GoodIn wsX4_done (wsX1_readAll) := ggX4_done_X1_readAll
set_option maxRecDepth 20000 in
theorem ggX4_done_X3_copyFrom : GoodIn wsX4_done wsX3_copyFrom := goodIn_r _ [26, 27, 28, 29, 30, 31, 32, 33, 34, 35, 36, 37, 38, 39, 40, 159, 160, 161, 162, 163, 164, 165, 166, 167, 168, 169] (by decide +kernel) (by decide +kernel)
set_option maxRecDepth 20000 in
theorem gX4_done_X3_copyFrom_n117 : GoodIn wsX4_done (wsX3_copyFrom) := ggX4_done_X3_copyFrom
theorem dX4_done_0 : decode cX4_done 0 = .ok (.aload_n 0, 1) := by decide +kernel
theorem dX4_done_1 : decode cX4_done 1 = .ok (.getfield 34, 3) := by decide +kernel
theorem dX4_done_4 : decode cX4_done 4 = .ok (.aload_n 0, 1) := by decide +kernel
theorem dX4_done_5 : decode cX4_done 5 = .ok (.getfield 23, 3) := by decide +kernel
theorem dX4_done_8 : decode cX4_done 8 = .ok (.aload_n 0, 1) := by decide +kernel
theorem dX4_done_9 : decode cX4_done 9 = .ok (.getfield 27, 3) := by decide +kernel
theorem dX4_done_12 : decode cX4_done 12 = .ok (.aload_n 0, 1) := by decide +kernel
theorem dX4_done_13 : decode cX4_done 13 = .ok (.getfield 10, 3) := by decide +kernel
theorem dX4_done_16 : decode cX4_done 16 = .ok (.invokevirtual 85, 3) := by decide +kernel
theorem dX4_done_19 : decode cX4_done 19 = .ok (.istore_n 1, 1) := by decide +kernel
theorem dX4_done_20 : decode cX4_done 20 = .ok (.iload_n 1, 1) := by decide +kernel
theorem dX4_done_21 : decode cX4_done 21 = .ok (.ifCond .eq 5, 3) := by decide +kernel
theorem dX4_done_24 : decode cX4_done 24 = .ok (.iload_n 1, 1) := by decide +kernel
theorem dX4_done_25 : decode cX4_done 25 = .ok (.ireturn, 1) := by decide +kernel
theorem dX4_done_26 : decode cX4_done 26 = .ok (.aload_n 0, 1) := by decide +kernel
theorem dX4_done_27 : decode cX4_done 27 = .ok (.getfield 10, 3) := by decide +kernel
theorem dX4_done_30 : decode cX4_done 30 = .ok (.aload_n 0, 1) := by decide +kernel
theorem dX4_done_31 : decode cX4_done 31 = .ok (.getfield 34, 3) := by decide +kernel
theorem dX4_done_34 : decode cX4_done 34 = .ok (.getfield 101, 3) := by decide +kernel
theorem dX4_done_37 : decode cX4_done 37 = .ok (.invokevirtual 117, 3) := by decide +kernel
theorem dX4_done_40 : decode cX4_done 40 = .ok (.aload_n 0, 1) := by decide +kernel
theorem dX4_done_41 : decode cX4_done 41 = .ok (.iconst 0, 1) := by decide +kernel
theorem dX4_done_42 : decode cX4_done 42 = .ok (.putfield 27, 3) := by decide +kernel
theorem dX4_done_45 : decode cX4_done 45 = .ok (.aload_n 0, 1) := by decide +kernel
theorem dX4_done_46 : decode cX4_done 46 = .ok (.getfield 34, 3) := by decide +kernel
theorem dX4_done_49 : decode cX4_done 49 = .ok (.getfield 121, 3) := by decide +kernel
theorem dX4_done_52 : decode cX4_done 52 = .ok (.ireturn, 1) := by decide +kernel
set_option maxRecDepth 20000 in
theorem ggX4_scales_X4_isSet : GoodIn wsX4_scales wsX4_isSet := goodIn_r _ [5, 6, 7, 4, 8] (by decide +kernel) (by decide +kernel)
set_option maxRecDepth 20000 in
theorem gX4_scales_X4_isSet : GoodIn wsX4_scales (va_wsS RX4 76 yX4_isSet wsX4_isSet) := goodIn_app (goodIn_of _ (by decide +kernel)) ggX4_scales_X4_isSet
set_option maxRecDepth 20000 in
theorem ggX4_scales_X3_weigh : GoodIn wsX4_scales wsX3_weigh := goodIn_r _ [12, 13, 14, 4, 15, 16, 17, 18, 10, 19, 20, 21, 22, 23, 24, 32, 33, 34, 35, 36, 37, 38, 39, 40, 41, 42] (by decide +kernel) (by decide +kernel)
set_option maxRecDepth 20000 in
theorem gX4_scales_X3_weigh_n124 : GoodIn wsX4_scales (wsX3_weigh) := ggX4_scales_X3_weigh
theorem dX4_scales_0 : decode cX4_scales 0 = .ok (.iload_n 1, 1) := by decide +kernel
theorem dX4_scales_1 : decode cX4_scales 1 = .ok (.invokestatic 76, 3) := by decide +kernel
theorem dX4_scales_4 : decode cX4_scales 4 = .ok (.ifCond .eq 14, 3) := by decide +kernel
theorem dX4_scales_7 : decode cX4_scales 7 = .ok (.aload_n 0, 1) := by decide +kernel
theorem dX4_scales_8 : decode cX4_scales 8 = .ok (.getfield 10, 3) := by decide +kernel
theorem dX4_scales_11 : decode cX4_scales 11 = .ok (.iload_n 1, 1) := by decide +kernel
theorem dX4_scales_12 : decode cX4_scales 12 = .ok (.invokevirtual 124, 3) := by decide +kernel
theorem dX4_scales_15 : decode cX4_scales 15 = .ok (.goto 5, 3) := by decide +kernel
theorem dX4_scales_18 : decode cX4_scales 18 = .ok (.bipush (-2), 2) := by decide +kernel
theorem dX4_scales_20 : decode cX4_scales 20 = .ok (.ireturn, 1) := by decide +kernel
set_option maxRecDepth 20000 in
theorem ggX4_says_X4_isSpeaker : GoodIn wsX4_says wsX4_isSpeaker := goodIn_r _ [7, 8, 9, 6, 10] (by decide +kernel) (by decide +kernel)
set_option maxRecDepth 20000 in
theorem gX4_says_X4_isSpeaker : GoodIn wsX4_says (va_wsS RX4 73 yX4_isSpeaker wsX4_isSpeaker) := goodIn_app (goodIn_of _ (by decide +kernel)) ggX4_says_X4_isSpeaker
set_option maxRecDepth 20000 in
theorem ggX4_says_X4_isWithin : GoodIn wsX4_says wsX4_isWithin := goodIn_r _ [10] (by decide +kernel) (by decide +kernel)
set_option maxRecDepth 20000 in
theorem gX4_says_X4_isWithin : GoodIn wsX4_says (va_wsS RX4 46 yX4_isWithin wsX4_isWithin) := goodIn_app (goodIn_of _ (by decide +kernel)) ggX4_says_X4_isWithin
set_option maxRecDepth 20000 in
theorem ggX4_says_X3_countKind : GoodIn wsX4_says wsX3_countKind := goodIn_r _ [14, 15, 16, 17, 12, 18, 19, 20, 21, 22, 23, 24, 25, 26, 37, 38, 39, 40, 41, 42, 43, 44, 45, 46, 47] (by decide +kernel) (by decide +kernel)
set_option maxRecDepth 20000 in
theorem gX4_says_X3_countKind_n131 : GoodIn wsX4_says (wsX3_countKind) := ggX4_says_X3_countKind
set_option maxRecDepth 20000 in
theorem ggX4_says_X4_power : GoodIn wsX4_says wsX4_power := goodIn_r _ [29] (by decide +kernel) (by decide +kernel)
set_option maxRecDepth 20000 in
theorem gX4_says_X4_power : GoodIn wsX4_says (va_wsS RX4 135 yX4_power wsX4_power) := goodIn_app (goodIn_of _ (by decide +kernel)) ggX4_says_X4_power
theorem dX4_says_0 : decode cX4_says 0 = .ok (.iload_n 1, 1) := by decide +kernel
theorem dX4_says_1 : decode cX4_says 1 = .ok (.invokestatic 73, 3) := by decide +kernel
theorem dX4_says_4 : decode cX4_says 4 = .ok (.ifCond .ne 7, 3) := by decide +kernel
theorem dX4_says_7 : decode cX4_says 7 = .ok (.ldc2_w 127, 3) := by decide +kernel
theorem dX4_says_10 : decode cX4_says 10 = .ok (.lreturn, 1) := by decide +kernel
theorem dX4_says_11 : decode cX4_says 11 = .ok (.iload_n 2, 1) := by decide +kernel
theorem dX4_says_12 : decode cX4_says 12 = .ok (.iconst 1, 1) := by decide +kernel
theorem dX4_says_13 : decode cX4_says 13 = .ok (.bipush 8, 2) := by decide +kernel
theorem dX4_says_15 : decode cX4_says 15 = .ok (.invokestatic 46, 3) := by decide +kernel
theorem dX4_says_18 : decode cX4_says 18 = .ok (.ifCond .ne 7, 3) := by decide +kernel
theorem dX4_says_21 : decode cX4_says 21 = .ok (.ldc2_w 129, 3) := by decide +kernel
theorem dX4_says_24 : decode cX4_says 24 = .ok (.lreturn, 1) := by decide +kernel
theorem dX4_says_25 : decode cX4_says 25 = .ok (.aload_n 0, 1) := by decide +kernel
theorem dX4_says_26 : decode cX4_says 26 = .ok (.getfield 10, 3) := by decide +kernel
theorem dX4_says_29 : decode cX4_says 29 = .ok (.getfield 82, 3) := by decide +kernel
theorem dX4_says_32 : decode cX4_says 32 = .ok (.iload_n 1, 1) := by decide +kernel
theorem dX4_says_33 : decode cX4_says 33 = .ok (.iaload, 1) := by decide +kernel
theorem dX4_says_34 : decode cX4_says 34 = .ok (.istore_n 3, 1) := by decide +kernel
theorem dX4_says_35 : decode cX4_says 35 = .ok (.aload_n 0, 1) := by decide +kernel
theorem dX4_says_36 : decode cX4_says 36 = .ok (.getfield 10, 3) := by decide +kernel
theorem dX4_says_39 : decode cX4_says 39 = .ok (.iload_n 3, 1) := by decide +kernel
theorem dX4_says_40 : decode cX4_says 40 = .ok (.iconst 0, 1) := by decide +kernel
theorem dX4_says_41 : decode cX4_says 41 = .ok (.invokevirtual 131, 3) := by decide +kernel
theorem dX4_says_44 : decode cX4_says 44 = .ok (.i2l, 1) := by decide +kernel
theorem dX4_says_45 : decode cX4_says 45 = .ok (.lstore 4, 2) := by decide +kernel
theorem dX4_says_47 : decode cX4_says 47 = .ok (.aload_n 0, 1) := by decide +kernel
theorem dX4_says_48 : decode cX4_says 48 = .ok (.getfield 10, 3) := by decide +kernel
theorem dX4_says_51 : decode cX4_says 51 = .ok (.iload_n 3, 1) := by decide +kernel
theorem dX4_says_52 : decode cX4_says 52 = .ok (.iconst 1, 1) := by decide +kernel
theorem dX4_says_53 : decode cX4_says 53 = .ok (.invokevirtual 131, 3) := by decide +kernel
theorem dX4_says_56 : decode cX4_says 56 = .ok (.i2l, 1) := by decide +kernel
theorem dX4_says_57 : decode cX4_says 57 = .ok (.lstore 6, 2) := by decide +kernel
theorem dX4_says_59 : decode cX4_says 59 = .ok (.aload_n 0, 1) := by decide +kernel
theorem dX4_says_60 : decode cX4_says 60 = .ok (.getfield 10, 3) := by decide +kernel
theorem dX4_says_63 : decode cX4_says 63 = .ok (.iload_n 3, 1) := by decide +kernel
theorem dX4_says_64 : decode cX4_says 64 = .ok (.iconst 2, 1) := by decide +kernel
theorem dX4_says_65 : decode cX4_says 65 = .ok (.invokevirtual 131, 3) := by decide +kernel
theorem dX4_says_68 : decode cX4_says 68 = .ok (.i2l, 1) := by decide +kernel
theorem dX4_says_69 : decode cX4_says 69 = .ok (.lstore 8, 2) := by decide +kernel
theorem dX4_says_71 : decode cX4_says 71 = .ok (.iload_n 2, 1) := by decide +kernel
theorem dX4_says_72 : decode cX4_says 72 = .ok (.iconst 2, 1) := by decide +kernel
theorem dX4_says_73 : decode cX4_says 73 = .ok (.if_icmp .ge 7, 3) := by decide +kernel
theorem dX4_says_76 : decode cX4_says 76 = .ok (.lconst 0, 1) := by decide +kernel
theorem dX4_says_77 : decode cX4_says 77 = .ok (.goto 17, 3) := by decide +kernel
theorem dX4_says_80 : decode cX4_says 80 = .ok (.lload 8, 2) := by decide +kernel
theorem dX4_says_82 : decode cX4_says 82 = .ok (.iload_n 2, 1) := by decide +kernel
theorem dX4_says_83 : decode cX4_says 83 = .ok (.iconst 2, 1) := by decide +kernel
theorem dX4_says_84 : decode cX4_says 84 = .ok (.isub, 1) := by decide +kernel
theorem dX4_says_85 : decode cX4_says 85 = .ok (.invokestatic 135, 3) := by decide +kernel
theorem dX4_says_88 : decode cX4_says 88 = .ok (.lload 4, 2) := by decide +kernel
theorem dX4_says_90 : decode cX4_says 90 = .ok (.lmul, 1) := by decide +kernel
theorem dX4_says_91 : decode cX4_says 91 = .ok (.lload 6, 2) := by decide +kernel
theorem dX4_says_93 : decode cX4_says 93 = .ok (.lmul, 1) := by decide +kernel
theorem dX4_says_94 : decode cX4_says 94 = .ok (.lstore 10, 2) := by decide +kernel
theorem dX4_says_96 : decode cX4_says 96 = .ok (.iload_n 2, 1) := by decide +kernel
theorem dX4_says_97 : decode cX4_says 97 = .ok (.iconst 3, 1) := by decide +kernel
theorem dX4_says_98 : decode cX4_says 98 = .ok (.if_icmp .ge 7, 3) := by decide +kernel
theorem dX4_says_101 : decode cX4_says 101 = .ok (.lconst 0, 1) := by decide +kernel
theorem dX4_says_102 : decode cX4_says 102 = .ok (.goto 25, 3) := by decide +kernel
theorem dX4_says_105 : decode cX4_says 105 = .ok (.iload_n 2, 1) := by decide +kernel
theorem dX4_says_106 : decode cX4_says 106 = .ok (.iconst 2, 1) := by decide +kernel
theorem dX4_says_107 : decode cX4_says 107 = .ok (.isub, 1) := by decide +kernel
theorem dX4_says_108 : decode cX4_says 108 = .ok (.i2l, 1) := by decide +kernel
theorem dX4_says_109 : decode cX4_says 109 = .ok (.lload 8, 2) := by decide +kernel
theorem dX4_says_111 : decode cX4_says 111 = .ok (.iload_n 2, 1) := by decide +kernel
theorem dX4_says_112 : decode cX4_says 112 = .ok (.iconst 3, 1) := by decide +kernel
theorem dX4_says_113 : decode cX4_says 113 = .ok (.isub, 1) := by decide +kernel
theorem dX4_says_114 : decode cX4_says 114 = .ok (.invokestatic 135, 3) := by decide +kernel
theorem dX4_says_117 : decode cX4_says 117 = .ok (.lmul, 1) := by decide +kernel
theorem dX4_says_118 : decode cX4_says 118 = .ok (.lload 4, 2) := by decide +kernel
theorem dX4_says_120 : decode cX4_says 120 = .ok (.lmul, 1) := by decide +kernel
theorem dX4_says_121 : decode cX4_says 121 = .ok (.lload 6, 2) := by decide +kernel
theorem dX4_says_123 : decode cX4_says 123 = .ok (.lmul, 1) := by decide +kernel
theorem dX4_says_124 : decode cX4_says 124 = .ok (.lload 4, 2) := by decide +kernel
theorem dX4_says_126 : decode cX4_says 126 = .ok (.lmul, 1) := by decide +kernel
theorem dX4_says_127 : decode cX4_says 127 = .ok (.lstore 12, 2) := by decide +kernel
theorem dX4_says_129 : decode cX4_says 129 = .ok (.lload 10, 2) := by decide +kernel
theorem dX4_says_131 : decode cX4_says 131 = .ok (.lload 12, 2) := by decide +kernel
theorem dX4_says_133 : decode cX4_says 133 = .ok (.ladd, 1) := by decide +kernel
theorem dX4_says_134 : decode cX4_says 134 = .ok (.lreturn, 1) := by decide +kernel
set_option maxRecDepth 20000 in
theorem ggX4_cheap_X4_isSpeaker : GoodIn wsX4_cheap wsX4_isSpeaker := goodIn_r _ [5, 6, 7, 4, 8] (by decide +kernel) (by decide +kernel)
set_option maxRecDepth 20000 in
theorem gX4_cheap_X4_isSpeaker : GoodIn wsX4_cheap (va_wsS RX4 73 yX4_isSpeaker wsX4_isSpeaker) := goodIn_app (goodIn_of _ (by decide +kernel)) ggX4_cheap_X4_isSpeaker
set_option maxRecDepth 20000 in
theorem ggX4_cheap_X4_isWithin : GoodIn wsX4_cheap wsX4_isWithin := goodIn_r _ [8] (by decide +kernel) (by decide +kernel)
set_option maxRecDepth 20000 in
theorem gX4_cheap_X4_isWithin : GoodIn wsX4_cheap (va_wsS RX4 46 yX4_isWithin wsX4_isWithin) := goodIn_app (goodIn_of _ (by decide +kernel)) ggX4_cheap_X4_isWithin
set_option maxRecDepth 20000 in
theorem ggX4_cheap_X4_cheapestSentence : GoodIn wsX4_cheap wsX4_cheapestSentence := goodIn_r _ [12, 1, 13, 14, 15, 16, 17, 18, 19, 20, 21, 22, 23, 24, 6, 7, 4, 8, 25, 26, 27, 28, 29, 30, 31, 32, 33, 34, 35, 36, 37, 38, 39, 40, 41, 42, 43, 44, 45, 46, 47, 48] (by decide +kernel) (by decide +kernel)
set_option maxRecDepth 20000 in
theorem gX4_cheap_X4_cheapestSentence : GoodIn wsX4_cheap (wsV RX4 139 RX4 yX4_cheapestSentence wsX4_cheapestSentence) := goodIn_app (goodIn_of _ (by decide +kernel)) ggX4_cheap_X4_cheapestSentence
set_option maxRecDepth 20000 in
theorem ggX4_cheap_X3_priceOf : GoodIn wsX4_cheap wsX3_priceOf := goodIn_r _ [27, 28, 29, 4, 30, 38, 39, 40, 41, 42, 43, 44, 45, 46, 47, 48] (by decide +kernel) (by decide +kernel)
set_option maxRecDepth 20000 in
theorem gX4_cheap_X3_priceOf_n142 : GoodIn wsX4_cheap (wsX3_priceOf) := ggX4_cheap_X3_priceOf
theorem dX4_cheap_0 : decode cX4_cheap 0 = .ok (.iload_n 1, 1) := by decide +kernel
theorem dX4_cheap_1 : decode cX4_cheap 1 = .ok (.invokestatic 73, 3) := by decide +kernel
theorem dX4_cheap_4 : decode cX4_cheap 4 = .ok (.ifCond .ne 5, 3) := by decide +kernel
theorem dX4_cheap_7 : decode cX4_cheap 7 = .ok (.iconst (-1), 1) := by decide +kernel
theorem dX4_cheap_8 : decode cX4_cheap 8 = .ok (.ireturn, 1) := by decide +kernel
theorem dX4_cheap_9 : decode cX4_cheap 9 = .ok (.iload_n 2, 1) := by decide +kernel
theorem dX4_cheap_10 : decode cX4_cheap 10 = .ok (.iconst 1, 1) := by decide +kernel
theorem dX4_cheap_11 : decode cX4_cheap 11 = .ok (.bipush 8, 2) := by decide +kernel
theorem dX4_cheap_13 : decode cX4_cheap 13 = .ok (.invokestatic 46, 3) := by decide +kernel
theorem dX4_cheap_16 : decode cX4_cheap 16 = .ok (.ifCond .eq 12, 3) := by decide +kernel
theorem dX4_cheap_19 : decode cX4_cheap 19 = .ok (.iload_n 3, 1) := by decide +kernel
theorem dX4_cheap_20 : decode cX4_cheap 20 = .ok (.iconst 0, 1) := by decide +kernel
theorem dX4_cheap_21 : decode cX4_cheap 21 = .ok (.iconst 1, 1) := by decide +kernel
theorem dX4_cheap_22 : decode cX4_cheap 22 = .ok (.invokestatic 46, 3) := by decide +kernel
theorem dX4_cheap_25 : decode cX4_cheap 25 = .ok (.ifCond .ne 6, 3) := by decide +kernel
theorem dX4_cheap_28 : decode cX4_cheap 28 = .ok (.bipush (-2), 2) := by decide +kernel
theorem dX4_cheap_30 : decode cX4_cheap 30 = .ok (.ireturn, 1) := by decide +kernel
theorem dX4_cheap_31 : decode cX4_cheap 31 = .ok (.aload_n 0, 1) := by decide +kernel
theorem dX4_cheap_32 : decode cX4_cheap 32 = .ok (.getfield 10, 3) := by decide +kernel
theorem dX4_cheap_35 : decode cX4_cheap 35 = .ok (.getfield 82, 3) := by decide +kernel
theorem dX4_cheap_38 : decode cX4_cheap 38 = .ok (.iload_n 1, 1) := by decide +kernel
theorem dX4_cheap_39 : decode cX4_cheap 39 = .ok (.iaload, 1) := by decide +kernel
theorem dX4_cheap_40 : decode cX4_cheap 40 = .ok (.istore 4, 2) := by decide +kernel
theorem dX4_cheap_42 : decode cX4_cheap 42 = .ok (.aload_n 0, 1) := by decide +kernel
theorem dX4_cheap_43 : decode cX4_cheap 43 = .ok (.iload 4, 2) := by decide +kernel
theorem dX4_cheap_45 : decode cX4_cheap 45 = .ok (.iload_n 2, 1) := by decide +kernel
theorem dX4_cheap_46 : decode cX4_cheap 46 = .ok (.invokevirtual 139, 3) := by decide +kernel
theorem dX4_cheap_49 : decode cX4_cheap 49 = .ok (.istore 5, 2) := by decide +kernel
theorem dX4_cheap_51 : decode cX4_cheap 51 = .ok (.iload_n 3, 1) := by decide +kernel
theorem dX4_cheap_52 : decode cX4_cheap 52 = .ok (.iconst 1, 1) := by decide +kernel
theorem dX4_cheap_53 : decode cX4_cheap 53 = .ok (.if_icmp .eq 10, 3) := by decide +kernel
theorem dX4_cheap_56 : decode cX4_cheap 56 = .ok (.iload 5, 2) := by decide +kernel
theorem dX4_cheap_58 : decode cX4_cheap 58 = .ok (.bipush (-6), 2) := by decide +kernel
theorem dX4_cheap_60 : decode cX4_cheap 60 = .ok (.if_icmp .ne 8, 3) := by decide +kernel
theorem dX4_cheap_63 : decode cX4_cheap 63 = .ok (.iload 5, 2) := by decide +kernel
theorem dX4_cheap_65 : decode cX4_cheap 65 = .ok (.goto 17, 3) := by decide +kernel
theorem dX4_cheap_68 : decode cX4_cheap 68 = .ok (.aload_n 0, 1) := by decide +kernel
theorem dX4_cheap_69 : decode cX4_cheap 69 = .ok (.getfield 10, 3) := by decide +kernel
theorem dX4_cheap_72 : decode cX4_cheap 72 = .ok (.iload 5, 2) := by decide +kernel
theorem dX4_cheap_74 : decode cX4_cheap 74 = .ok (.iload 4, 2) := by decide +kernel
theorem dX4_cheap_76 : decode cX4_cheap 76 = .ok (.iconst (-1), 1) := by decide +kernel
theorem dX4_cheap_77 : decode cX4_cheap 77 = .ok (.ixor, 1) := by decide +kernel
theorem dX4_cheap_78 : decode cX4_cheap 78 = .ok (.iand, 1) := by decide +kernel
theorem dX4_cheap_79 : decode cX4_cheap 79 = .ok (.invokevirtual 142, 3) := by decide +kernel
theorem dX4_cheap_82 : decode cX4_cheap 82 = .ok (.ireturn, 1) := by decide +kernel
set_option maxRecDepth 20000 in
theorem ggX4_pool_X4_isWithin : GoodIn wsX4_pool wsX4_isWithin := goodIn_r _ [4] (by decide +kernel) (by decide +kernel)
set_option maxRecDepth 20000 in
theorem gX4_pool_X4_isWithin : GoodIn wsX4_pool (va_wsS RX4 46 yX4_isWithin wsX4_isWithin) := goodIn_app (goodIn_of _ (by decide +kernel)) ggX4_pool_X4_isWithin
set_option maxRecDepth 20000 in
theorem ggX4_pool_X4_fewestSpeakers : GoodIn wsX4_pool wsX4_fewestSpeakers := goodIn_r _ [8, 9, 10, 11, 12, 13, 14, 15, 16, 17, 18, 19, 20, 21, 22, 3, 23, 24, 25, 26, 27, 28, 29, 30, 31, 32, 33, 34, 35, 36, 37, 38, 39, 40, 41, 42, 43, 44, 45, 46, 47, 48, 49, 50, 51, 52, 53, 54] (by decide +kernel) (by decide +kernel)
set_option maxRecDepth 20000 in
theorem gX4_pool_X4_fewestSpeakers : GoodIn wsX4_pool (wsV RX4 145 RX4 yX4_fewestSpeakers wsX4_fewestSpeakers) := goodIn_app (goodIn_of _ (by decide +kernel)) ggX4_pool_X4_fewestSpeakers
set_option maxRecDepth 20000 in
theorem ggX4_pool_J6_bitCount_0f7a4 : GoodIn wsX4_pool wsJ6_bitCount_0f7a4 := goodIn_r _ [13, 14, 15, 16] (by decide +kernel) (by decide +kernel)
set_option maxRecDepth 20000 in
theorem gX4_pool_J6_bitCount_0f7a4 : GoodIn wsX4_pool (va_wsS RX4 63 yJ6_bitCount_0f7a4 wsJ6_bitCount_0f7a4) := goodIn_app (goodIn_of _ (by decide +kernel)) ggX4_pool_J6_bitCount_0f7a4
theorem dX4_pool_0 : decode cX4_pool 0 = .ok (.iload_n 1, 1) := by decide +kernel
theorem dX4_pool_1 : decode cX4_pool 1 = .ok (.iconst 1, 1) := by decide +kernel
theorem dX4_pool_2 : decode cX4_pool 2 = .ok (.bipush 8, 2) := by decide +kernel
theorem dX4_pool_4 : decode cX4_pool 4 = .ok (.invokestatic 46, 3) := by decide +kernel
theorem dX4_pool_7 : decode cX4_pool 7 = .ok (.ifCond .eq 12, 3) := by decide +kernel
theorem dX4_pool_10 : decode cX4_pool 10 = .ok (.iload_n 2, 1) := by decide +kernel
theorem dX4_pool_11 : decode cX4_pool 11 = .ok (.iconst 0, 1) := by decide +kernel
theorem dX4_pool_12 : decode cX4_pool 12 = .ok (.iconst 1, 1) := by decide +kernel
theorem dX4_pool_13 : decode cX4_pool 13 = .ok (.invokestatic 46, 3) := by decide +kernel
theorem dX4_pool_16 : decode cX4_pool 16 = .ok (.ifCond .ne 6, 3) := by decide +kernel
theorem dX4_pool_19 : decode cX4_pool 19 = .ok (.bipush (-2), 2) := by decide +kernel
theorem dX4_pool_21 : decode cX4_pool 21 = .ok (.ireturn, 1) := by decide +kernel
theorem dX4_pool_22 : decode cX4_pool 22 = .ok (.aload_n 0, 1) := by decide +kernel
theorem dX4_pool_23 : decode cX4_pool 23 = .ok (.iload_n 1, 1) := by decide +kernel
theorem dX4_pool_24 : decode cX4_pool 24 = .ok (.invokevirtual 145, 3) := by decide +kernel
theorem dX4_pool_27 : decode cX4_pool 27 = .ok (.istore_n 3, 1) := by decide +kernel
theorem dX4_pool_28 : decode cX4_pool 28 = .ok (.iload_n 2, 1) := by decide +kernel
theorem dX4_pool_29 : decode cX4_pool 29 = .ok (.iconst 1, 1) := by decide +kernel
theorem dX4_pool_30 : decode cX4_pool 30 = .ok (.if_icmp .eq 9, 3) := by decide +kernel
theorem dX4_pool_33 : decode cX4_pool 33 = .ok (.iload_n 3, 1) := by decide +kernel
theorem dX4_pool_34 : decode cX4_pool 34 = .ok (.bipush (-6), 2) := by decide +kernel
theorem dX4_pool_36 : decode cX4_pool 36 = .ok (.if_icmp .ne 7, 3) := by decide +kernel
theorem dX4_pool_39 : decode cX4_pool 39 = .ok (.iload_n 3, 1) := by decide +kernel
theorem dX4_pool_40 : decode cX4_pool 40 = .ok (.goto 7, 3) := by decide +kernel
theorem dX4_pool_43 : decode cX4_pool 43 = .ok (.iload_n 3, 1) := by decide +kernel
theorem dX4_pool_44 : decode cX4_pool 44 = .ok (.invokestatic 63, 3) := by decide +kernel
theorem dX4_pool_47 : decode cX4_pool 47 = .ok (.ireturn, 1) := by decide +kernel
set_option maxRecDepth 20000 in
theorem ggX4_wish_X4_isSet : GoodIn wsX4_wish wsX4_isSet := goodIn_r _ [5, 6, 7, 4, 8] (by decide +kernel) (by decide +kernel)
set_option maxRecDepth 20000 in
theorem gX4_wish_X4_isSet : GoodIn wsX4_wish (va_wsS RX4 76 yX4_isSet wsX4_isSet) := goodIn_app (goodIn_of _ (by decide +kernel)) ggX4_wish_X4_isSet
set_option maxRecDepth 20000 in
theorem ggX4_wish_X4_isWithin : GoodIn wsX4_wish wsX4_isWithin := goodIn_r _ [8] (by decide +kernel) (by decide +kernel)
set_option maxRecDepth 20000 in
theorem gX4_wish_X4_isWithin : GoodIn wsX4_wish (va_wsS RX4 46 yX4_isWithin wsX4_isWithin) := goodIn_app (goodIn_of _ (by decide +kernel)) ggX4_wish_X4_isWithin
theorem dX4_wish_0 : decode cX4_wish 0 = .ok (.iload_n 1, 1) := by decide +kernel
theorem dX4_wish_1 : decode cX4_wish 1 = .ok (.invokestatic 76, 3) := by decide +kernel
theorem dX4_wish_4 : decode cX4_wish 4 = .ok (.ifCond .ne 6, 3) := by decide +kernel
theorem dX4_wish_7 : decode cX4_wish 7 = .ok (.bipush (-2), 2) := by decide +kernel
theorem dX4_wish_9 : decode cX4_wish 9 = .ok (.ireturn, 1) := by decide +kernel
theorem dX4_wish_10 : decode cX4_wish 10 = .ok (.aload_n 0, 1) := by decide +kernel
theorem dX4_wish_11 : decode cX4_wish 11 = .ok (.getfield 10, 3) := by decide +kernel
theorem dX4_wish_14 : decode cX4_wish 14 = .ok (.getfield 148, 3) := by decide +kernel
theorem dX4_wish_17 : decode cX4_wish 17 = .ok (.iconst 0, 1) := by decide +kernel
theorem dX4_wish_18 : decode cX4_wish 18 = .ok (.bipush 7, 2) := by decide +kernel
theorem dX4_wish_20 : decode cX4_wish 20 = .ok (.invokestatic 46, 3) := by decide +kernel
theorem dX4_wish_23 : decode cX4_wish 23 = .ok (.ifCond .ne 6, 3) := by decide +kernel
theorem dX4_wish_26 : decode cX4_wish 26 = .ok (.bipush (-4), 2) := by decide +kernel
theorem dX4_wish_28 : decode cX4_wish 28 = .ok (.ireturn, 1) := by decide +kernel
theorem dX4_wish_29 : decode cX4_wish 29 = .ok (.aload_n 0, 1) := by decide +kernel
theorem dX4_wish_30 : decode cX4_wish 30 = .ok (.getfield 10, 3) := by decide +kernel
theorem dX4_wish_33 : decode cX4_wish 33 = .ok (.getfield 151, 3) := by decide +kernel
theorem dX4_wish_36 : decode cX4_wish 36 = .ok (.aload_n 0, 1) := by decide +kernel
theorem dX4_wish_37 : decode cX4_wish 37 = .ok (.getfield 10, 3) := by decide +kernel
theorem dX4_wish_40 : decode cX4_wish 40 = .ok (.getfield 148, 3) := by decide +kernel
theorem dX4_wish_43 : decode cX4_wish 43 = .ok (.iload_n 1, 1) := by decide +kernel
theorem dX4_wish_44 : decode cX4_wish 44 = .ok (.iastore, 1) := by decide +kernel
theorem dX4_wish_45 : decode cX4_wish 45 = .ok (.aload_n 0, 1) := by decide +kernel
theorem dX4_wish_46 : decode cX4_wish 46 = .ok (.getfield 10, 3) := by decide +kernel
theorem dX4_wish_49 : decode cX4_wish 49 = .ok (.dup, 1) := by decide +kernel
theorem dX4_wish_50 : decode cX4_wish 50 = .ok (.getfield 148, 3) := by decide +kernel
theorem dX4_wish_53 : decode cX4_wish 53 = .ok (.iconst 1, 1) := by decide +kernel
theorem dX4_wish_54 : decode cX4_wish 54 = .ok (.iadd, 1) := by decide +kernel
theorem dX4_wish_55 : decode cX4_wish 55 = .ok (.putfield 148, 3) := by decide +kernel
theorem dX4_wish_58 : decode cX4_wish 58 = .ok (.aload_n 0, 1) := by decide +kernel
theorem dX4_wish_59 : decode cX4_wish 59 = .ok (.getfield 10, 3) := by decide +kernel
theorem dX4_wish_62 : decode cX4_wish 62 = .ok (.getfield 148, 3) := by decide +kernel
theorem dX4_wish_65 : decode cX4_wish 65 = .ok (.ireturn, 1) := by decide +kernel
theorem dX4_unwish_0 : decode cX4_unwish 0 = .ok (.aload_n 0, 1) := by decide +kernel
theorem dX4_unwish_1 : decode cX4_unwish 1 = .ok (.getfield 10, 3) := by decide +kernel
theorem dX4_unwish_4 : decode cX4_unwish 4 = .ok (.getfield 148, 3) := by decide +kernel
theorem dX4_unwish_7 : decode cX4_unwish 7 = .ok (.istore_n 1, 1) := by decide +kernel
theorem dX4_unwish_8 : decode cX4_unwish 8 = .ok (.aload_n 0, 1) := by decide +kernel
theorem dX4_unwish_9 : decode cX4_unwish 9 = .ok (.getfield 10, 3) := by decide +kernel
theorem dX4_unwish_12 : decode cX4_unwish 12 = .ok (.iconst 0, 1) := by decide +kernel
theorem dX4_unwish_13 : decode cX4_unwish 13 = .ok (.putfield 148, 3) := by decide +kernel
theorem dX4_unwish_16 : decode cX4_unwish 16 = .ok (.iload_n 1, 1) := by decide +kernel
theorem dX4_unwish_17 : decode cX4_unwish 17 = .ok (.ireturn, 1) := by decide +kernel
set_option maxRecDepth 20000 in
theorem ggX4_nine_X4_isWithin : GoodIn wsX4_nine wsX4_isWithin := goodIn_r _ [4] (by decide +kernel) (by decide +kernel)
set_option maxRecDepth 20000 in
theorem gX4_nine_X4_isWithin : GoodIn wsX4_nine (va_wsS RX4 46 yX4_isWithin wsX4_isWithin) := goodIn_app (goodIn_of _ (by decide +kernel)) ggX4_nine_X4_isWithin
set_option maxRecDepth 20000 in
theorem ggX4_nine_X4_fewestWords : GoodIn wsX4_nine wsX4_fewestWords := goodIn_r _ [8, 9, 10, 11, 12, 13, 14, 15, 16, 17, 18, 19, 20, 21, 22, 23, 24, 25, 26, 27, 28, 29, 30, 31, 32, 33, 34, 35, 36, 37, 38, 39, 40] (by decide +kernel) (by decide +kernel)
set_option maxRecDepth 20000 in
theorem gX4_nine_X4_fewestWords : GoodIn wsX4_nine (wsV RX4 154 RX4 yX4_fewestWords wsX4_fewestWords) := goodIn_app (goodIn_of _ (by decide +kernel)) ggX4_nine_X4_fewestWords
set_option maxRecDepth 20000 in
theorem ggX4_nine_J6_bitCount_0f7a4 : GoodIn wsX4_nine wsJ6_bitCount_0f7a4 := goodIn_r _ [13, 14, 15, 16] (by decide +kernel) (by decide +kernel)
set_option maxRecDepth 20000 in
theorem gX4_nine_J6_bitCount_0f7a4 : GoodIn wsX4_nine (va_wsS RX4 63 yJ6_bitCount_0f7a4 wsJ6_bitCount_0f7a4) := goodIn_app (goodIn_of _ (by decide +kernel)) ggX4_nine_J6_bitCount_0f7a4
theorem dX4_nine_0 : decode cX4_nine 0 = .ok (.iload_n 1, 1) := by decide +kernel
theorem dX4_nine_1 : decode cX4_nine 1 = .ok (.iconst 0, 1) := by decide +kernel
theorem dX4_nine_2 : decode cX4_nine 2 = .ok (.iconst 1, 1) := by decide +kernel
theorem dX4_nine_3 : decode cX4_nine 3 = .ok (.invokestatic 46, 3) := by decide +kernel
theorem dX4_nine_6 : decode cX4_nine 6 = .ok (.ifCond .ne 6, 3) := by decide +kernel
theorem dX4_nine_9 : decode cX4_nine 9 = .ok (.bipush (-2), 2) := by decide +kernel
theorem dX4_nine_11 : decode cX4_nine 11 = .ok (.ireturn, 1) := by decide +kernel
theorem dX4_nine_12 : decode cX4_nine 12 = .ok (.aload_n 0, 1) := by decide +kernel
theorem dX4_nine_13 : decode cX4_nine 13 = .ok (.invokevirtual 154, 3) := by decide +kernel
theorem dX4_nine_16 : decode cX4_nine 16 = .ok (.istore_n 2, 1) := by decide +kernel
theorem dX4_nine_17 : decode cX4_nine 17 = .ok (.iload_n 1, 1) := by decide +kernel
theorem dX4_nine_18 : decode cX4_nine 18 = .ok (.iconst 1, 1) := by decide +kernel
theorem dX4_nine_19 : decode cX4_nine 19 = .ok (.if_icmp .eq 9, 3) := by decide +kernel
theorem dX4_nine_22 : decode cX4_nine 22 = .ok (.iload_n 2, 1) := by decide +kernel
theorem dX4_nine_23 : decode cX4_nine 23 = .ok (.bipush (-6), 2) := by decide +kernel
theorem dX4_nine_25 : decode cX4_nine 25 = .ok (.if_icmp .ne 7, 3) := by decide +kernel
theorem dX4_nine_28 : decode cX4_nine 28 = .ok (.iload_n 2, 1) := by decide +kernel
theorem dX4_nine_29 : decode cX4_nine 29 = .ok (.goto 7, 3) := by decide +kernel
theorem dX4_nine_32 : decode cX4_nine 32 = .ok (.iload_n 2, 1) := by decide +kernel
theorem dX4_nine_33 : decode cX4_nine 33 = .ok (.invokestatic 63, 3) := by decide +kernel
theorem dX4_nine_36 : decode cX4_nine 36 = .ok (.ireturn, 1) := by decide +kernel
set_option maxRecDepth 20000 in
theorem ggX4_seen_X4_isSet : GoodIn wsX4_seen wsX4_isSet := goodIn_r _ [5, 6, 7, 4, 8] (by decide +kernel) (by decide +kernel)
set_option maxRecDepth 20000 in
theorem gX4_seen_X4_isSet : GoodIn wsX4_seen (va_wsS RX4 76 yX4_isSet wsX4_isSet) := goodIn_app (goodIn_of _ (by decide +kernel)) ggX4_seen_X4_isSet
set_option maxRecDepth 20000 in
theorem ggX4_seen_X4_isWithin : GoodIn wsX4_seen wsX4_isWithin := goodIn_r _ [8] (by decide +kernel) (by decide +kernel)
set_option maxRecDepth 20000 in
theorem gX4_seen_X4_isWithin : GoodIn wsX4_seen (va_wsS RX4 46 yX4_isWithin wsX4_isWithin) := goodIn_app (goodIn_of _ (by decide +kernel)) ggX4_seen_X4_isWithin
set_option maxRecDepth 20000 in
theorem ggX4_seen_J6_bitCount_0f7a4 : GoodIn wsX4_seen wsJ6_bitCount_0f7a4 := goodIn_r _ [12, 13, 14, 15] (by decide +kernel) (by decide +kernel)
set_option maxRecDepth 20000 in
theorem gX4_seen_J6_bitCount_0f7a4 : GoodIn wsX4_seen (va_wsS RX4 63 yJ6_bitCount_0f7a4 wsJ6_bitCount_0f7a4) := goodIn_app (goodIn_of _ (by decide +kernel)) ggX4_seen_J6_bitCount_0f7a4
theorem dX4_seen_0 : decode cX4_seen 0 = .ok (.iload_n 1, 1) := by decide +kernel
theorem dX4_seen_1 : decode cX4_seen 1 = .ok (.invokestatic 76, 3) := by decide +kernel
theorem dX4_seen_4 : decode cX4_seen 4 = .ok (.ifCond .eq 19, 3) := by decide +kernel
theorem dX4_seen_7 : decode cX4_seen 7 = .ok (.iload_n 2, 1) := by decide +kernel
theorem dX4_seen_8 : decode cX4_seen 8 = .ok (.invokestatic 76, 3) := by decide +kernel
theorem dX4_seen_11 : decode cX4_seen 11 = .ok (.ifCond .eq 12, 3) := by decide +kernel
theorem dX4_seen_14 : decode cX4_seen 14 = .ok (.iload_n 3, 1) := by decide +kernel
theorem dX4_seen_15 : decode cX4_seen 15 = .ok (.iconst 0, 1) := by decide +kernel
theorem dX4_seen_16 : decode cX4_seen 16 = .ok (.iconst 2, 1) := by decide +kernel
theorem dX4_seen_17 : decode cX4_seen 17 = .ok (.invokestatic 46, 3) := by decide +kernel
theorem dX4_seen_20 : decode cX4_seen 20 = .ok (.ifCond .ne 6, 3) := by decide +kernel
theorem dX4_seen_23 : decode cX4_seen 23 = .ok (.bipush (-2), 2) := by decide +kernel
theorem dX4_seen_25 : decode cX4_seen 25 = .ok (.ireturn, 1) := by decide +kernel
theorem dX4_seen_26 : decode cX4_seen 26 = .ok (.iload_n 1, 1) := by decide +kernel
theorem dX4_seen_27 : decode cX4_seen 27 = .ok (.invokestatic 63, 3) := by decide +kernel
theorem dX4_seen_30 : decode cX4_seen 30 = .ok (.iload_n 2, 1) := by decide +kernel
end
section
theorem dX4_seen_31 : decode cX4_seen 31 = .ok (.invokestatic 63, 3) := by decide +kernel
theorem dX4_seen_34 : decode cX4_seen 34 = .ok (.if_icmp .ne 9, 3) := by decide +kernel
theorem dX4_seen_37 : decode cX4_seen 37 = .ok (.iload_n 1, 1) := by decide +kernel
theorem dX4_seen_38 : decode cX4_seen 38 = .ok (.iload_n 2, 1) := by decide +kernel
theorem dX4_seen_39 : decode cX4_seen 39 = .ok (.iand, 1) := by decide +kernel
theorem dX4_seen_40 : decode cX4_seen 40 = .ok (.ifCond .eq 6, 3) := by decide +kernel
theorem dX4_seen_43 : decode cX4_seen 43 = .ok (.bipush (-2), 2) := by decide +kernel
theorem dX4_seen_45 : decode cX4_seen 45 = .ok (.ireturn, 1) := by decide +kernel
theorem dX4_seen_46 : decode cX4_seen 46 = .ok (.aload_n 0, 1) := by decide +kernel
theorem dX4_seen_47 : decode cX4_seen 47 = .ok (.getfield 10, 3) := by decide +kernel
theorem dX4_seen_50 : decode cX4_seen 50 = .ok (.getfield 158, 3) := by decide +kernel
theorem dX4_seen_53 : decode cX4_seen 53 = .ok (.istore 4, 2) := by decide +kernel
theorem dX4_seen_55 : decode cX4_seen 55 = .ok (.iload 4, 2) := by decide +kernel
theorem dX4_seen_57 : decode cX4_seen 57 = .ok (.iconst 0, 1) := by decide +kernel
theorem dX4_seen_58 : decode cX4_seen 58 = .ok (.iconst 5, 1) := by decide +kernel
theorem dX4_seen_59 : decode cX4_seen 59 = .ok (.invokestatic 46, 3) := by decide +kernel
theorem dX4_seen_62 : decode cX4_seen 62 = .ok (.ifCond .ne 6, 3) := by decide +kernel
theorem dX4_seen_65 : decode cX4_seen 65 = .ok (.bipush (-4), 2) := by decide +kernel
theorem dX4_seen_67 : decode cX4_seen 67 = .ok (.ireturn, 1) := by decide +kernel
theorem dX4_seen_68 : decode cX4_seen 68 = .ok (.aload_n 0, 1) := by decide +kernel
theorem dX4_seen_69 : decode cX4_seen 69 = .ok (.getfield 10, 3) := by decide +kernel
theorem dX4_seen_72 : decode cX4_seen 72 = .ok (.getfield 161, 3) := by decide +kernel
theorem dX4_seen_75 : decode cX4_seen 75 = .ok (.iload 4, 2) := by decide +kernel
theorem dX4_seen_77 : decode cX4_seen 77 = .ok (.iload_n 1, 1) := by decide +kernel
theorem dX4_seen_78 : decode cX4_seen 78 = .ok (.iastore, 1) := by decide +kernel
theorem dX4_seen_79 : decode cX4_seen 79 = .ok (.aload_n 0, 1) := by decide +kernel
theorem dX4_seen_80 : decode cX4_seen 80 = .ok (.getfield 10, 3) := by decide +kernel
theorem dX4_seen_83 : decode cX4_seen 83 = .ok (.getfield 164, 3) := by decide +kernel
theorem dX4_seen_86 : decode cX4_seen 86 = .ok (.iload 4, 2) := by decide +kernel
theorem dX4_seen_88 : decode cX4_seen 88 = .ok (.iload_n 2, 1) := by decide +kernel
theorem dX4_seen_89 : decode cX4_seen 89 = .ok (.iastore, 1) := by decide +kernel
theorem dX4_seen_90 : decode cX4_seen 90 = .ok (.aload_n 0, 1) := by decide +kernel
theorem dX4_seen_91 : decode cX4_seen 91 = .ok (.getfield 10, 3) := by decide +kernel
theorem dX4_seen_94 : decode cX4_seen 94 = .ok (.getfield 167, 3) := by decide +kernel
theorem dX4_seen_97 : decode cX4_seen 97 = .ok (.iload 4, 2) := by decide +kernel
theorem dX4_seen_99 : decode cX4_seen 99 = .ok (.iload_n 3, 1) := by decide +kernel
theorem dX4_seen_100 : decode cX4_seen 100 = .ok (.iastore, 1) := by decide +kernel
theorem dX4_seen_101 : decode cX4_seen 101 = .ok (.aload_n 0, 1) := by decide +kernel
theorem dX4_seen_102 : decode cX4_seen 102 = .ok (.getfield 10, 3) := by decide +kernel
theorem dX4_seen_105 : decode cX4_seen 105 = .ok (.iload 4, 2) := by decide +kernel
theorem dX4_seen_107 : decode cX4_seen 107 = .ok (.iconst 1, 1) := by decide +kernel
theorem dX4_seen_108 : decode cX4_seen 108 = .ok (.iadd, 1) := by decide +kernel
theorem dX4_seen_109 : decode cX4_seen 109 = .ok (.putfield 158, 3) := by decide +kernel
theorem dX4_seen_112 : decode cX4_seen 112 = .ok (.iload 4, 2) := by decide +kernel
theorem dX4_seen_114 : decode cX4_seen 114 = .ok (.iconst 1, 1) := by decide +kernel
theorem dX4_seen_115 : decode cX4_seen 115 = .ok (.iadd, 1) := by decide +kernel
theorem dX4_seen_116 : decode cX4_seen 116 = .ok (.ireturn, 1) := by decide +kernel
theorem dX4_forget_0 : decode cX4_forget 0 = .ok (.aload_n 0, 1) := by decide +kernel
theorem dX4_forget_1 : decode cX4_forget 1 = .ok (.getfield 10, 3) := by decide +kernel
theorem dX4_forget_4 : decode cX4_forget 4 = .ok (.getfield 158, 3) := by decide +kernel
theorem dX4_forget_7 : decode cX4_forget 7 = .ok (.istore_n 1, 1) := by decide +kernel
theorem dX4_forget_8 : decode cX4_forget 8 = .ok (.aload_n 0, 1) := by decide +kernel
theorem dX4_forget_9 : decode cX4_forget 9 = .ok (.getfield 10, 3) := by decide +kernel
theorem dX4_forget_12 : decode cX4_forget 12 = .ok (.iconst 0, 1) := by decide +kernel
theorem dX4_forget_13 : decode cX4_forget 13 = .ok (.putfield 158, 3) := by decide +kernel
theorem dX4_forget_16 : decode cX4_forget 16 = .ok (.iload_n 1, 1) := by decide +kernel
theorem dX4_forget_17 : decode cX4_forget 17 = .ok (.ireturn, 1) := by decide +kernel
set_option maxRecDepth 20000 in
theorem ggX4_hollow_X3_suspects : GoodIn wsX4_hollow wsX3_suspects := goodIn_r _ [5, 6, 7, 8, 9, 17, 18, 19, 20, 21, 22, 23, 24, 25, 26, 27] (by decide +kernel) (by decide +kernel)
set_option maxRecDepth 20000 in
theorem gX4_hollow_X3_suspects_n170 : GoodIn wsX4_hollow (wsX3_suspects) := ggX4_hollow_X3_suspects
theorem dX4_hollow_0 : decode cX4_hollow 0 = .ok (.aload_n 0, 1) := by decide +kernel
theorem dX4_hollow_1 : decode cX4_hollow 1 = .ok (.getfield 10, 3) := by decide +kernel
theorem dX4_hollow_4 : decode cX4_hollow 4 = .ok (.invokevirtual 170, 3) := by decide +kernel
theorem dX4_hollow_7 : decode cX4_hollow 7 = .ok (.ireturn, 1) := by decide +kernel
set_option maxRecDepth 20000 in
theorem ggX4_lay_X4_isWithin : GoodIn wsX4_lay wsX4_isWithin := goodIn_r _ [5] (by decide +kernel) (by decide +kernel)
set_option maxRecDepth 20000 in
theorem gX4_lay_X4_isWithin : GoodIn wsX4_lay (va_wsS RX4 46 yX4_isWithin wsX4_isWithin) := goodIn_app (goodIn_of _ (by decide +kernel)) ggX4_lay_X4_isWithin
set_option maxRecDepth 20000 in
theorem ggX4_lay_X3_suspects : GoodIn wsX4_lay wsX3_suspects := goodIn_r _ [9, 10, 11, 12, 13, 41, 42, 43, 44, 45, 46, 47, 48, 49, 50, 51] (by decide +kernel) (by decide +kernel)
set_option maxRecDepth 20000 in
theorem gX4_lay_X3_suspects_n170 : GoodIn wsX4_lay (wsX3_suspects) := ggX4_lay_X3_suspects
set_option maxRecDepth 20000 in
theorem ggX4_lay_J6_bitCount_0f7a4 : GoodIn wsX4_lay wsJ6_bitCount_0f7a4 := goodIn_r _ [17, 18, 19, 20] (by decide +kernel) (by decide +kernel)
set_option maxRecDepth 20000 in
theorem gX4_lay_J6_bitCount_0f7a4 : GoodIn wsX4_lay (va_wsS RX4 63 yJ6_bitCount_0f7a4 wsJ6_bitCount_0f7a4) := goodIn_app (goodIn_of _ (by decide +kernel)) ggX4_lay_J6_bitCount_0f7a4
set_option maxRecDepth 20000 in
theorem ggX4_lay_X4_fewestWeighings : GoodIn wsX4_lay wsX4_fewestWeighings := goodIn_r _ [23] (by decide +kernel) (by decide +kernel)
set_option maxRecDepth 20000 in
theorem gX4_lay_X4_fewestWeighings : GoodIn wsX4_lay (va_wsS RX4 173 yX4_fewestWeighings wsX4_fewestWeighings) := goodIn_app (goodIn_of _ (by decide +kernel)) ggX4_lay_X4_fewestWeighings
set_option maxRecDepth 20000 in
theorem ggX4_lay_X4_bestEach : GoodIn wsX4_lay wsX4_bestEach := goodIn_r _ [26, 27, 28, 4, 29, 30, 31, 32, 33] (by decide +kernel) (by decide +kernel)
set_option maxRecDepth 20000 in
theorem gX4_lay_X4_bestEach : GoodIn wsX4_lay (va_wsS RX4 176 yX4_bestEach wsX4_bestEach) := goodIn_app (goodIn_of _ (by decide +kernel)) ggX4_lay_X4_bestEach
set_option maxRecDepth 20000 in
theorem ggX4_lay_X4_mostLeft : GoodIn wsX4_lay wsX4_mostLeft := goodIn_r _ [29, 30, 31, 32, 33] (by decide +kernel) (by decide +kernel)
set_option maxRecDepth 20000 in
theorem gX4_lay_X4_mostLeft : GoodIn wsX4_lay (va_wsS RX4 179 yX4_mostLeft wsX4_mostLeft) := goodIn_app (goodIn_of _ (by decide +kernel)) ggX4_lay_X4_mostLeft
theorem dX4_lay_0 : decode cX4_lay 0 = .ok (.iload_n 1, 1) := by decide +kernel
theorem dX4_lay_1 : decode cX4_lay 1 = .ok (.iconst 0, 1) := by decide +kernel
theorem dX4_lay_2 : decode cX4_lay 2 = .ok (.iconst 2, 1) := by decide +kernel
theorem dX4_lay_3 : decode cX4_lay 3 = .ok (.invokestatic 46, 3) := by decide +kernel
theorem dX4_lay_6 : decode cX4_lay 6 = .ok (.ifCond .ne 6, 3) := by decide +kernel
theorem dX4_lay_9 : decode cX4_lay 9 = .ok (.bipush (-2), 2) := by decide +kernel
theorem dX4_lay_11 : decode cX4_lay 11 = .ok (.ireturn, 1) := by decide +kernel
theorem dX4_lay_12 : decode cX4_lay 12 = .ok (.aload_n 0, 1) := by decide +kernel
theorem dX4_lay_13 : decode cX4_lay 13 = .ok (.getfield 10, 3) := by decide +kernel
theorem dX4_lay_16 : decode cX4_lay 16 = .ok (.invokevirtual 170, 3) := by decide +kernel
theorem dX4_lay_19 : decode cX4_lay 19 = .ok (.invokestatic 63, 3) := by decide +kernel
theorem dX4_lay_22 : decode cX4_lay 22 = .ok (.istore_n 2, 1) := by decide +kernel
theorem dX4_lay_23 : decode cX4_lay 23 = .ok (.iload_n 1, 1) := by decide +kernel
theorem dX4_lay_24 : decode cX4_lay 24 = .ok (.iconst 2, 1) := by decide +kernel
theorem dX4_lay_25 : decode cX4_lay 25 = .ok (.if_icmp .ne 8, 3) := by decide +kernel
theorem dX4_lay_28 : decode cX4_lay 28 = .ok (.iload_n 2, 1) := by decide +kernel
theorem dX4_lay_29 : decode cX4_lay 29 = .ok (.invokestatic 173, 3) := by decide +kernel
theorem dX4_lay_32 : decode cX4_lay 32 = .ok (.ireturn, 1) := by decide +kernel
theorem dX4_lay_33 : decode cX4_lay 33 = .ok (.iload_n 2, 1) := by decide +kernel
theorem dX4_lay_34 : decode cX4_lay 34 = .ok (.ifCond .ne 6, 3) := by decide +kernel
theorem dX4_lay_37 : decode cX4_lay 37 = .ok (.bipush (-6), 2) := by decide +kernel
theorem dX4_lay_39 : decode cX4_lay 39 = .ok (.ireturn, 1) := by decide +kernel
theorem dX4_lay_40 : decode cX4_lay 40 = .ok (.iload_n 2, 1) := by decide +kernel
theorem dX4_lay_41 : decode cX4_lay 41 = .ok (.invokestatic 176, 3) := by decide +kernel
theorem dX4_lay_44 : decode cX4_lay 44 = .ok (.istore_n 3, 1) := by decide +kernel
theorem dX4_lay_45 : decode cX4_lay 45 = .ok (.iload_n 1, 1) := by decide +kernel
theorem dX4_lay_46 : decode cX4_lay 46 = .ok (.ifCond .ne 7, 3) := by decide +kernel
theorem dX4_lay_49 : decode cX4_lay 49 = .ok (.iload_n 3, 1) := by decide +kernel
theorem dX4_lay_50 : decode cX4_lay 50 = .ok (.goto 8, 3) := by decide +kernel
theorem dX4_lay_53 : decode cX4_lay 53 = .ok (.iload_n 2, 1) := by decide +kernel
theorem dX4_lay_54 : decode cX4_lay 54 = .ok (.iload_n 3, 1) := by decide +kernel
theorem dX4_lay_55 : decode cX4_lay 55 = .ok (.invokestatic 179, 3) := by decide +kernel
theorem dX4_lay_58 : decode cX4_lay 58 = .ok (.ireturn, 1) := by decide +kernel
set_option maxRecDepth 20000 in
theorem ggX4_weather_X4_isWithin : GoodIn wsX4_weather wsX4_isWithin := goodIn_r _ [8] (by decide +kernel) (by decide +kernel)
set_option maxRecDepth 20000 in
theorem gX4_weather_X4_isWithin : GoodIn wsX4_weather (va_wsS RX4 46 yX4_isWithin wsX4_isWithin) := goodIn_app (goodIn_of _ (by decide +kernel)) ggX4_weather_X4_isWithin
set_option maxRecDepth 20000 in
theorem ggX4_weather_X4_bestMean : GoodIn wsX4_weather wsX4_bestMean := goodIn_r _ [12, 13, 2, 14, 15, 16, 17, 5, 6, 7, 8, 21, 22, 23, 24, 25, 26, 27] (by decide +kernel) (by decide +kernel)
set_option maxRecDepth 20000 in
theorem gX4_weather_X4_bestMean : GoodIn wsX4_weather (wsV RX4 184 RX4 yX4_bestMean wsX4_bestMean) := goodIn_app (goodIn_of _ (by decide +kernel)) ggX4_weather_X4_bestMean
set_option maxRecDepth 20000 in
theorem ggX4_weather_X4_power : GoodIn wsX4_weather wsX4_power := goodIn_r _ [20] (by decide +kernel) (by decide +kernel)
set_option maxRecDepth 20000 in
theorem gX4_weather_X4_power : GoodIn wsX4_weather (va_wsS RX4 135 yX4_power wsX4_power) := goodIn_app (goodIn_of _ (by decide +kernel)) ggX4_weather_X4_power
theorem dX4_weather_0 : decode cX4_weather 0 = .ok (.iload_n 1, 1) := by decide +kernel
theorem dX4_weather_1 : decode cX4_weather 1 = .ok (.iconst 0, 1) := by decide +kernel
theorem dX4_weather_2 : decode cX4_weather 2 = .ok (.bipush 40, 2) := by decide +kernel
theorem dX4_weather_4 : decode cX4_weather 4 = .ok (.invokestatic 46, 3) := by decide +kernel
theorem dX4_weather_7 : decode cX4_weather 7 = .ok (.ifCond .eq 27, 3) := by decide +kernel
theorem dX4_weather_10 : decode cX4_weather 10 = .ok (.iload_n 2, 1) := by decide +kernel
theorem dX4_weather_11 : decode cX4_weather 11 = .ok (.iconst 0, 1) := by decide +kernel
theorem dX4_weather_12 : decode cX4_weather 12 = .ok (.bipush 8, 2) := by decide +kernel
theorem dX4_weather_14 : decode cX4_weather 14 = .ok (.invokestatic 46, 3) := by decide +kernel
theorem dX4_weather_17 : decode cX4_weather 17 = .ok (.ifCond .eq 17, 3) := by decide +kernel
theorem dX4_weather_20 : decode cX4_weather 20 = .ok (.iload_n 3, 1) := by decide +kernel
theorem dX4_weather_21 : decode cX4_weather 21 = .ok (.iconst 0, 1) := by decide +kernel
theorem dX4_weather_22 : decode cX4_weather 22 = .ok (.bipush 10, 2) := by decide +kernel
theorem dX4_weather_24 : decode cX4_weather 24 = .ok (.invokestatic 46, 3) := by decide +kernel
theorem dX4_weather_27 : decode cX4_weather 27 = .ok (.ifCond .eq 7, 3) := by decide +kernel
theorem dX4_weather_30 : decode cX4_weather 30 = .ok (.iconst 1, 1) := by decide +kernel
theorem dX4_weather_31 : decode cX4_weather 31 = .ok (.goto 4, 3) := by decide +kernel
theorem dX4_weather_34 : decode cX4_weather 34 = .ok (.iconst 0, 1) := by decide +kernel
theorem dX4_weather_35 : decode cX4_weather 35 = .ok (.istore 6, 2) := by decide +kernel
theorem dX4_weather_37 : decode cX4_weather 37 = .ok (.iload 6, 2) := by decide +kernel
theorem dX4_weather_39 : decode cX4_weather 39 = .ok (.ifCond .eq 23, 3) := by decide +kernel
theorem dX4_weather_42 : decode cX4_weather 42 = .ok (.iload 4, 2) := by decide +kernel
theorem dX4_weather_44 : decode cX4_weather 44 = .ok (.iconst 0, 1) := by decide +kernel
theorem dX4_weather_45 : decode cX4_weather 45 = .ok (.iconst 1, 1) := by decide +kernel
theorem dX4_weather_46 : decode cX4_weather 46 = .ok (.invokestatic 46, 3) := by decide +kernel
theorem dX4_weather_49 : decode cX4_weather 49 = .ok (.ifCond .eq 13, 3) := by decide +kernel
theorem dX4_weather_52 : decode cX4_weather 52 = .ok (.iload 5, 2) := by decide +kernel
theorem dX4_weather_54 : decode cX4_weather 54 = .ok (.iconst 0, 1) := by decide +kernel
theorem dX4_weather_55 : decode cX4_weather 55 = .ok (.iconst 1, 1) := by decide +kernel
theorem dX4_weather_56 : decode cX4_weather 56 = .ok (.invokestatic 46, 3) := by decide +kernel
theorem dX4_weather_59 : decode cX4_weather 59 = .ok (.ifCond .ne 7, 3) := by decide +kernel
theorem dX4_weather_62 : decode cX4_weather 62 = .ok (.ldc2_w 182, 3) := by decide +kernel
theorem dX4_weather_65 : decode cX4_weather 65 = .ok (.lreturn, 1) := by decide +kernel
theorem dX4_weather_66 : decode cX4_weather 66 = .ok (.aload_n 0, 1) := by decide +kernel
theorem dX4_weather_67 : decode cX4_weather 67 = .ok (.iload_n 1, 1) := by decide +kernel
theorem dX4_weather_68 : decode cX4_weather 68 = .ok (.iload_n 2, 1) := by decide +kernel
theorem dX4_weather_69 : decode cX4_weather 69 = .ok (.iload_n 3, 1) := by decide +kernel
theorem dX4_weather_70 : decode cX4_weather 70 = .ok (.invokevirtual 184, 3) := by decide +kernel
theorem dX4_weather_73 : decode cX4_weather 73 = .ok (.lstore 7, 2) := by decide +kernel
theorem dX4_weather_75 : decode cX4_weather 75 = .ok (.ldc2_w 188, 3) := by decide +kernel
theorem dX4_weather_78 : decode cX4_weather 78 = .ok (.iload_n 2, 1) := by decide +kernel
theorem dX4_weather_79 : decode cX4_weather 79 = .ok (.invokestatic 135, 3) := by decide +kernel
theorem dX4_weather_82 : decode cX4_weather 82 = .ok (.lstore 9, 2) := by decide +kernel
theorem dX4_weather_84 : decode cX4_weather 84 = .ok (.iload 4, 2) := by decide +kernel
theorem dX4_weather_86 : decode cX4_weather 86 = .ok (.iconst 1, 1) := by decide +kernel
theorem dX4_weather_87 : decode cX4_weather 87 = .ok (.if_icmp .ne 20, 3) := by decide +kernel
theorem dX4_weather_90 : decode cX4_weather 90 = .ok (.lload 7, 2) := by decide +kernel
theorem dX4_weather_92 : decode cX4_weather 92 = .ok (.iload_n 1, 1) := by decide +kernel
theorem dX4_weather_93 : decode cX4_weather 93 = .ok (.i2l, 1) := by decide +kernel
theorem dX4_weather_94 : decode cX4_weather 94 = .ok (.lload 9, 2) := by decide +kernel
theorem dX4_weather_96 : decode cX4_weather 96 = .ok (.lmul, 1) := by decide +kernel
theorem dX4_weather_97 : decode cX4_weather 97 = .ok (.lcmp, 1) := by decide +kernel
theorem dX4_weather_98 : decode cX4_weather 98 = .ok (.ifCond .ne 7, 3) := by decide +kernel
theorem dX4_weather_101 : decode cX4_weather 101 = .ok (.lconst 1, 1) := by decide +kernel
theorem dX4_weather_102 : decode cX4_weather 102 = .ok (.goto 4, 3) := by decide +kernel
theorem dX4_weather_105 : decode cX4_weather 105 = .ok (.lconst 0, 1) := by decide +kernel
theorem dX4_weather_106 : decode cX4_weather 106 = .ok (.lreturn, 1) := by decide +kernel
theorem dX4_weather_107 : decode cX4_weather 107 = .ok (.iconst 0, 1) := by decide +kernel
theorem dX4_weather_108 : decode cX4_weather 108 = .ok (.istore 11, 2) := by decide +kernel
theorem dX4_weather_110 : decode cX4_weather 110 = .ok (.iload 11, 2) := by decide +kernel
theorem dX4_weather_112 : decode cX4_weather 112 = .ok (.iload_n 2, 1) := by decide +kernel
theorem dX4_weather_113 : decode cX4_weather 113 = .ok (.if_icmp .ge 85, 3) := by decide +kernel
theorem dX4_weather_116 : decode cX4_weather 116 = .ok (.lload 7, 2) := by decide +kernel
theorem dX4_weather_118 : decode cX4_weather 118 = .ok (.ldc2_w 190, 3) := by decide +kernel
theorem dX4_weather_121 : decode cX4_weather 121 = .ok (.lrem, 1) := by decide +kernel
theorem dX4_weather_122 : decode cX4_weather 122 = .ok (.lconst 0, 1) := by decide +kernel
theorem dX4_weather_123 : decode cX4_weather 123 = .ok (.lcmp, 1) := by decide +kernel
theorem dX4_weather_124 : decode cX4_weather 124 = .ok (.ifCond .ne 30, 3) := by decide +kernel
theorem dX4_weather_127 : decode cX4_weather 127 = .ok (.lload 9, 2) := by decide +kernel
theorem dX4_weather_129 : decode cX4_weather 129 = .ok (.ldc2_w 190, 3) := by decide +kernel
theorem dX4_weather_132 : decode cX4_weather 132 = .ok (.lrem, 1) := by decide +kernel
theorem dX4_weather_133 : decode cX4_weather 133 = .ok (.lconst 0, 1) := by decide +kernel
theorem dX4_weather_134 : decode cX4_weather 134 = .ok (.lcmp, 1) := by decide +kernel
theorem dX4_weather_135 : decode cX4_weather 135 = .ok (.ifCond .ne 19, 3) := by decide +kernel
theorem dX4_weather_138 : decode cX4_weather 138 = .ok (.lload 7, 2) := by decide +kernel
theorem dX4_weather_140 : decode cX4_weather 140 = .ok (.ldc2_w 190, 3) := by decide +kernel
theorem dX4_weather_143 : decode cX4_weather 143 = .ok (.ldiv, 1) := by decide +kernel
theorem dX4_weather_144 : decode cX4_weather 144 = .ok (.lstore 7, 2) := by decide +kernel
theorem dX4_weather_146 : decode cX4_weather 146 = .ok (.lload 9, 2) := by decide +kernel
theorem dX4_weather_148 : decode cX4_weather 148 = .ok (.ldc2_w 190, 3) := by decide +kernel
theorem dX4_weather_151 : decode cX4_weather 151 = .ok (.ldiv, 1) := by decide +kernel
theorem dX4_weather_152 : decode cX4_weather 152 = .ok (.lstore 9, 2) := by decide +kernel
theorem dX4_weather_154 : decode cX4_weather 154 = .ok (.lload 7, 2) := by decide +kernel
theorem dX4_weather_156 : decode cX4_weather 156 = .ok (.ldc2_w 192, 3) := by decide +kernel
theorem dX4_weather_159 : decode cX4_weather 159 = .ok (.lrem, 1) := by decide +kernel
theorem dX4_weather_160 : decode cX4_weather 160 = .ok (.lconst 0, 1) := by decide +kernel
theorem dX4_weather_161 : decode cX4_weather 161 = .ok (.lcmp, 1) := by decide +kernel
theorem dX4_weather_162 : decode cX4_weather 162 = .ok (.ifCond .ne 30, 3) := by decide +kernel
theorem dX4_weather_165 : decode cX4_weather 165 = .ok (.lload 9, 2) := by decide +kernel
theorem dX4_weather_167 : decode cX4_weather 167 = .ok (.ldc2_w 192, 3) := by decide +kernel
theorem dX4_weather_170 : decode cX4_weather 170 = .ok (.lrem, 1) := by decide +kernel
theorem dX4_weather_171 : decode cX4_weather 171 = .ok (.lconst 0, 1) := by decide +kernel
theorem dX4_weather_172 : decode cX4_weather 172 = .ok (.lcmp, 1) := by decide +kernel
theorem dX4_weather_173 : decode cX4_weather 173 = .ok (.ifCond .ne 19, 3) := by decide +kernel
theorem dX4_weather_176 : decode cX4_weather 176 = .ok (.lload 7, 2) := by decide +kernel
theorem dX4_weather_178 : decode cX4_weather 178 = .ok (.ldc2_w 192, 3) := by decide +kernel
theorem dX4_weather_181 : decode cX4_weather 181 = .ok (.ldiv, 1) := by decide +kernel
theorem dX4_weather_182 : decode cX4_weather 182 = .ok (.lstore 7, 2) := by decide +kernel
theorem dX4_weather_184 : decode cX4_weather 184 = .ok (.lload 9, 2) := by decide +kernel
theorem dX4_weather_186 : decode cX4_weather 186 = .ok (.ldc2_w 192, 3) := by decide +kernel
theorem dX4_weather_189 : decode cX4_weather 189 = .ok (.ldiv, 1) := by decide +kernel
theorem dX4_weather_190 : decode cX4_weather 190 = .ok (.lstore 9, 2) := by decide +kernel
theorem dX4_weather_192 : decode cX4_weather 192 = .ok (.iinc 11 1, 3) := by decide +kernel
theorem dX4_weather_195 : decode cX4_weather 195 = .ok (.goto (-85), 3) := by decide +kernel
theorem dX4_weather_198 : decode cX4_weather 198 = .ok (.iload 5, 2) := by decide +kernel
theorem dX4_weather_200 : decode cX4_weather 200 = .ok (.ifCond .ne 8, 3) := by decide +kernel
theorem dX4_weather_203 : decode cX4_weather 203 = .ok (.lload 7, 2) := by decide +kernel
theorem dX4_weather_205 : decode cX4_weather 205 = .ok (.goto 5, 3) := by decide +kernel
theorem dX4_weather_208 : decode cX4_weather 208 = .ok (.lload 9, 2) := by decide +kernel
theorem dX4_weather_210 : decode cX4_weather 210 = .ok (.lreturn, 1) := by decide +kernel
set_option maxRecDepth 20000 in
theorem ggX4_synonyms_X4_isWithin : GoodIn wsX4_synonyms wsX4_isWithin := goodIn_r _ [4] (by decide +kernel) (by decide +kernel)
set_option maxRecDepth 20000 in
theorem gX4_synonyms_X4_isWithin : GoodIn wsX4_synonyms (va_wsS RX4 46 yX4_isWithin wsX4_isWithin) := goodIn_app (goodIn_of _ (by decide +kernel)) ggX4_synonyms_X4_isWithin
theorem dX4_synonyms_0 : decode cX4_synonyms 0 = .ok (.iload_n 1, 1) := by decide +kernel
theorem dX4_synonyms_1 : decode cX4_synonyms 1 = .ok (.iconst 0, 1) := by decide +kernel
theorem dX4_synonyms_2 : decode cX4_synonyms 2 = .ok (.bipush 40, 2) := by decide +kernel
theorem dX4_synonyms_4 : decode cX4_synonyms 4 = .ok (.invokestatic 46, 3) := by decide +kernel
theorem dX4_synonyms_7 : decode cX4_synonyms 7 = .ok (.ifCond .eq 29, 3) := by decide +kernel
theorem dX4_synonyms_10 : decode cX4_synonyms 10 = .ok (.iload_n 2, 1) := by decide +kernel
theorem dX4_synonyms_11 : decode cX4_synonyms 11 = .ok (.iconst 0, 1) := by decide +kernel
theorem dX4_synonyms_12 : decode cX4_synonyms 12 = .ok (.bipush 20, 2) := by decide +kernel
theorem dX4_synonyms_14 : decode cX4_synonyms 14 = .ok (.invokestatic 46, 3) := by decide +kernel
theorem dX4_synonyms_17 : decode cX4_synonyms 17 = .ok (.ifCond .eq 19, 3) := by decide +kernel
theorem dX4_synonyms_20 : decode cX4_synonyms 20 = .ok (.iload_n 3, 1) := by decide +kernel
theorem dX4_synonyms_21 : decode cX4_synonyms 21 = .ok (.iload_n 2, 1) := by decide +kernel
theorem dX4_synonyms_22 : decode cX4_synonyms 22 = .ok (.iconst 1, 1) := by decide +kernel
theorem dX4_synonyms_23 : decode cX4_synonyms 23 = .ok (.iadd, 1) := by decide +kernel
theorem dX4_synonyms_24 : decode cX4_synonyms 24 = .ok (.bipush 40, 2) := by decide +kernel
theorem dX4_synonyms_26 : decode cX4_synonyms 26 = .ok (.invokestatic 46, 3) := by decide +kernel
theorem dX4_synonyms_29 : decode cX4_synonyms 29 = .ok (.ifCond .eq 7, 3) := by decide +kernel
theorem dX4_synonyms_32 : decode cX4_synonyms 32 = .ok (.iconst 1, 1) := by decide +kernel
theorem dX4_synonyms_33 : decode cX4_synonyms 33 = .ok (.goto 4, 3) := by decide +kernel
theorem dX4_synonyms_36 : decode cX4_synonyms 36 = .ok (.iconst 0, 1) := by decide +kernel
theorem dX4_synonyms_37 : decode cX4_synonyms 37 = .ok (.istore 5, 2) := by decide +kernel
theorem dX4_synonyms_39 : decode cX4_synonyms 39 = .ok (.iload 5, 2) := by decide +kernel
theorem dX4_synonyms_41 : decode cX4_synonyms 41 = .ok (.ifCond .eq 14, 3) := by decide +kernel
theorem dX4_synonyms_44 : decode cX4_synonyms 44 = .ok (.iload 4, 2) := by decide +kernel
theorem dX4_synonyms_46 : decode cX4_synonyms 46 = .ok (.iconst (-1), 1) := by decide +kernel
theorem dX4_synonyms_47 : decode cX4_synonyms 47 = .ok (.bipush 99, 2) := by decide +kernel
theorem dX4_synonyms_49 : decode cX4_synonyms 49 = .ok (.invokestatic 46, 3) := by decide +kernel
theorem dX4_synonyms_52 : decode cX4_synonyms 52 = .ok (.ifCond .ne 6, 3) := by decide +kernel
theorem dX4_synonyms_55 : decode cX4_synonyms 55 = .ok (.bipush (-2), 2) := by decide +kernel
theorem dX4_synonyms_57 : decode cX4_synonyms 57 = .ok (.ireturn, 1) := by decide +kernel
theorem dX4_synonyms_58 : decode cX4_synonyms 58 = .ok (.iload 4, 2) := by decide +kernel
theorem dX4_synonyms_60 : decode cX4_synonyms 60 = .ok (.iconst (-1), 1) := by decide +kernel
theorem dX4_synonyms_61 : decode cX4_synonyms 61 = .ok (.if_icmp .ne 7, 3) := by decide +kernel
theorem dX4_synonyms_64 : decode cX4_synonyms 64 = .ok (.iload_n 3, 1) := by decide +kernel
theorem dX4_synonyms_65 : decode cX4_synonyms 65 = .ok (.iload_n 2, 1) := by decide +kernel
theorem dX4_synonyms_66 : decode cX4_synonyms 66 = .ok (.isub, 1) := by decide +kernel
theorem dX4_synonyms_67 : decode cX4_synonyms 67 = .ok (.ireturn, 1) := by decide +kernel
theorem dX4_synonyms_68 : decode cX4_synonyms 68 = .ok (.iload_n 1, 1) := by decide +kernel
theorem dX4_synonyms_69 : decode cX4_synonyms 69 = .ok (.istore 6, 2) := by decide +kernel
theorem dX4_synonyms_71 : decode cX4_synonyms 71 = .ok (.iconst 0, 1) := by decide +kernel
theorem dX4_synonyms_72 : decode cX4_synonyms 72 = .ok (.istore 7, 2) := by decide +kernel
theorem dX4_synonyms_74 : decode cX4_synonyms 74 = .ok (.iload 7, 2) := by decide +kernel
theorem dX4_synonyms_76 : decode cX4_synonyms 76 = .ok (.iload 4, 2) := by decide +kernel
theorem dX4_synonyms_78 : decode cX4_synonyms 78 = .ok (.if_icmp .ge 27, 3) := by decide +kernel
theorem dX4_synonyms_81 : decode cX4_synonyms 81 = .ok (.iload 6, 2) := by decide +kernel
theorem dX4_synonyms_83 : decode cX4_synonyms 83 = .ok (.iconst 1, 1) := by decide +kernel
theorem dX4_synonyms_84 : decode cX4_synonyms 84 = .ok (.isub, 1) := by decide +kernel
theorem dX4_synonyms_85 : decode cX4_synonyms 85 = .ok (.iload_n 2, 1) := by decide +kernel
theorem dX4_synonyms_86 : decode cX4_synonyms 86 = .ok (.if_icmp .le 10, 3) := by decide +kernel
theorem dX4_synonyms_89 : decode cX4_synonyms 89 = .ok (.iload 6, 2) := by decide +kernel
theorem dX4_synonyms_91 : decode cX4_synonyms 91 = .ok (.iconst 1, 1) := by decide +kernel
theorem dX4_synonyms_92 : decode cX4_synonyms 92 = .ok (.isub, 1) := by decide +kernel
theorem dX4_synonyms_93 : decode cX4_synonyms 93 = .ok (.goto 4, 3) := by decide +kernel
theorem dX4_synonyms_96 : decode cX4_synonyms 96 = .ok (.iload_n 3, 1) := by decide +kernel
theorem dX4_synonyms_97 : decode cX4_synonyms 97 = .ok (.istore 6, 2) := by decide +kernel
theorem dX4_synonyms_99 : decode cX4_synonyms 99 = .ok (.iinc 7 1, 3) := by decide +kernel
theorem dX4_synonyms_102 : decode cX4_synonyms 102 = .ok (.goto (-28), 3) := by decide +kernel
theorem dX4_synonyms_105 : decode cX4_synonyms 105 = .ok (.iload 6, 2) := by decide +kernel
theorem dX4_synonyms_107 : decode cX4_synonyms 107 = .ok (.ireturn, 1) := by decide +kernel
set_option maxRecDepth 20000 in
theorem ggX4_year_X4_isWithin : GoodIn wsX4_year wsX4_isWithin := goodIn_r _ [6] (by decide +kernel) (by decide +kernel)
set_option maxRecDepth 20000 in
theorem gX4_year_X4_isWithin : GoodIn wsX4_year (va_wsS RX4 46 yX4_isWithin wsX4_isWithin) := goodIn_app (goodIn_of _ (by decide +kernel)) ggX4_year_X4_isWithin
set_option maxRecDepth 20000 in
theorem ggX4_year_X3_copyFrom : GoodIn wsX4_year wsX3_copyFrom := goodIn_r _ [10, 11, 12, 13, 14, 15, 16, 17, 18, 19, 20, 21, 22, 5, 23, 81, 82, 83, 84, 85, 86, 87, 88, 89, 90, 91] (by decide +kernel) (by decide +kernel)
set_option maxRecDepth 20000 in
theorem gX4_year_X3_copyFrom_n117 : GoodIn wsX4_year (wsX3_copyFrom) := ggX4_year_X3_copyFrom
set_option maxRecDepth 20000 in
theorem ggX4_year_X3_liveYear : GoodIn wsX4_year wsX3_liveYear := goodIn_r _ [26, 27, 28, 29, 8, 30, 31, 32, 33, 34, 35, 5, 36, 3, 4, 6, 37, 38, 39, 40, 41, 42, 15, 14, 11, 43, 44, 45, 46, 47, 48, 49, 50, 51, 52, 53, 54, 55, 56, 57, 58, 59, 60, 81, 82, 83, 84, 85, 86, 87, 88, 89, 90, 91] (by decide +kernel) (by decide +kernel)
set_option maxRecDepth 20000 in
theorem gX4_year_X3_liveYear_n194 : GoodIn wsX4_year (wsX3_liveYear) := ggX4_year_X3_liveYear
set_option maxRecDepth 20000 in
theorem ggX4_year_X3_countBelongings : GoodIn wsX4_year wsX3_countBelongings := goodIn_r _ [63, 15, 64, 65, 66, 67, 68, 69, 70, 81, 82, 83, 84, 85, 86, 87, 88, 89, 90, 91] (by decide +kernel) (by decide +kernel)
set_option maxRecDepth 20000 in
theorem gX4_year_X3_countBelongings_n197 : GoodIn wsX4_year (wsX3_countBelongings) := ggX4_year_X3_countBelongings
set_option maxRecDepth 20000 in
theorem ggX4_year_X4_sumOf : GoodIn wsX4_year wsX4_sumOf := goodIn_r _ [73] (by decide +kernel) (by decide +kernel)
set_option maxRecDepth 20000 in
theorem gX4_year_X4_sumOf : GoodIn wsX4_year (va_wsS RX4 200 yX4_sumOf wsX4_sumOf) := goodIn_app (goodIn_of _ (by decide +kernel)) ggX4_year_X4_sumOf
theorem dX4_year_0 : decode cX4_year 0 = .ok (.iload_n 1, 1) := by decide +kernel
theorem dX4_year_1 : decode cX4_year 1 = .ok (.iconst 0, 1) := by decide +kernel
theorem dX4_year_2 : decode cX4_year 2 = .ok (.sipush 9999, 3) := by decide +kernel
theorem dX4_year_5 : decode cX4_year 5 = .ok (.invokestatic 46, 3) := by decide +kernel
theorem dX4_year_8 : decode cX4_year 8 = .ok (.ifCond .eq 22, 3) := by decide +kernel
theorem dX4_year_11 : decode cX4_year 11 = .ok (.iload_n 2, 1) := by decide +kernel
theorem dX4_year_12 : decode cX4_year 12 = .ok (.iconst 1, 1) := by decide +kernel
theorem dX4_year_13 : decode cX4_year 13 = .ok (.bipush 99, 2) := by decide +kernel
theorem dX4_year_15 : decode cX4_year 15 = .ok (.invokestatic 46, 3) := by decide +kernel
theorem dX4_year_18 : decode cX4_year 18 = .ok (.ifCond .eq 12, 3) := by decide +kernel
theorem dX4_year_21 : decode cX4_year 21 = .ok (.iload_n 3, 1) := by decide +kernel
theorem dX4_year_22 : decode cX4_year 22 = .ok (.iconst 0, 1) := by decide +kernel
theorem dX4_year_23 : decode cX4_year 23 = .ok (.iconst 2, 1) := by decide +kernel
theorem dX4_year_24 : decode cX4_year 24 = .ok (.invokestatic 46, 3) := by decide +kernel
theorem dX4_year_27 : decode cX4_year 27 = .ok (.ifCond .ne 6, 3) := by decide +kernel
theorem dX4_year_30 : decode cX4_year 30 = .ok (.bipush (-2), 2) := by decide +kernel
theorem dX4_year_32 : decode cX4_year 32 = .ok (.ireturn, 1) := by decide +kernel
theorem dX4_year_33 : decode cX4_year 33 = .ok (.aload_n 0, 1) := by decide +kernel
theorem dX4_year_34 : decode cX4_year 34 = .ok (.getfield 16, 3) := by decide +kernel
theorem dX4_year_37 : decode cX4_year 37 = .ok (.aload_n 0, 1) := by decide +kernel
theorem dX4_year_38 : decode cX4_year 38 = .ok (.getfield 10, 3) := by decide +kernel
theorem dX4_year_41 : decode cX4_year 41 = .ok (.invokevirtual 117, 3) := by decide +kernel
theorem dX4_year_44 : decode cX4_year 44 = .ok (.aload_n 0, 1) := by decide +kernel
theorem dX4_year_45 : decode cX4_year 45 = .ok (.getfield 16, 3) := by decide +kernel
theorem dX4_year_48 : decode cX4_year 48 = .ok (.iload_n 1, 1) := by decide +kernel
theorem dX4_year_49 : decode cX4_year 49 = .ok (.iload_n 2, 1) := by decide +kernel
theorem dX4_year_50 : decode cX4_year 50 = .ok (.invokevirtual 194, 3) := by decide +kernel
theorem dX4_year_53 : decode cX4_year 53 = .ok (.iload_n 3, 1) := by decide +kernel
theorem dX4_year_54 : decode cX4_year 54 = .ok (.iconst 2, 1) := by decide +kernel
theorem dX4_year_55 : decode cX4_year 55 = .ok (.if_icmp .ne 11, 3) := by decide +kernel
theorem dX4_year_58 : decode cX4_year 58 = .ok (.aload_n 0, 1) := by decide +kernel
theorem dX4_year_59 : decode cX4_year 59 = .ok (.getfield 16, 3) := by decide +kernel
theorem dX4_year_62 : decode cX4_year 62 = .ok (.invokevirtual 197, 3) := by decide +kernel
theorem dX4_year_65 : decode cX4_year 65 = .ok (.ireturn, 1) := by decide +kernel
theorem dX4_year_66 : decode cX4_year 66 = .ok (.iload_n 3, 1) := by decide +kernel
theorem dX4_year_67 : decode cX4_year 67 = .ok (.ifCond .ne 16, 3) := by decide +kernel
theorem dX4_year_70 : decode cX4_year 70 = .ok (.aload_n 0, 1) := by decide +kernel
theorem dX4_year_71 : decode cX4_year 71 = .ok (.getfield 16, 3) := by decide +kernel
theorem dX4_year_74 : decode cX4_year 74 = .ok (.getfield 79, 3) := by decide +kernel
theorem dX4_year_77 : decode cX4_year 77 = .ok (.invokestatic 200, 3) := by decide +kernel
theorem dX4_year_80 : decode cX4_year 80 = .ok (.goto 13, 3) := by decide +kernel
theorem dX4_year_83 : decode cX4_year 83 = .ok (.aload_n 0, 1) := by decide +kernel
theorem dX4_year_84 : decode cX4_year 84 = .ok (.getfield 16, 3) := by decide +kernel
theorem dX4_year_87 : decode cX4_year 87 = .ok (.getfield 50, 3) := by decide +kernel
theorem dX4_year_90 : decode cX4_year 90 = .ok (.invokestatic 200, 3) := by decide +kernel
theorem dX4_year_93 : decode cX4_year 93 = .ok (.ireturn, 1) := by decide +kernel
set_option maxRecDepth 20000 in
theorem ggX4_image_X4_isWithin : GoodIn wsX4_image wsX4_isWithin := goodIn_r _ [9] (by decide +kernel) (by decide +kernel)
set_option maxRecDepth 20000 in
theorem gX4_image_X4_isWithin : GoodIn wsX4_image (va_wsS RX4 46 yX4_isWithin wsX4_isWithin) := goodIn_app (goodIn_of _ (by decide +kernel)) ggX4_image_X4_isWithin
set_option maxRecDepth 20000 in
theorem ggX4_image_X3_init : GoodIn wsX4_image wsX3_init := goodIn_r _ [11, 12, 13, 14, 15, 16, 17, 18, 19, 20, 21, 22, 23, 24, 25, 26, 39, 40, 41, 42, 43, 44, 45, 46, 47, 48, 49] (by decide +kernel) (by decide +kernel)
set_option maxRecDepth 20000 in
theorem gX4_image_X3_init_n9 : GoodIn wsX4_image (wsX3_init) := ggX4_image_X3_init
set_option maxRecDepth 20000 in
theorem ggX4_image_X3_copyFrom : GoodIn wsX4_image wsX3_copyFrom := goodIn_r _ [29, 16, 17, 18, 19, 20, 21, 22, 23, 24, 25, 26, 30, 8, 31, 39, 40, 41, 42, 43, 44, 45, 46, 47, 48, 49] (by decide +kernel) (by decide +kernel)
set_option maxRecDepth 20000 in
theorem gX4_image_X3_copyFrom_n117 : GoodIn wsX4_image (wsX3_copyFrom) := ggX4_image_X3_copyFrom
theorem dX4_image_0 : decode cX4_image 0 = .ok (.iload_n 1, 1) := by decide +kernel
theorem dX4_image_1 : decode cX4_image 1 = .ok (.iconst 0, 1) := by decide +kernel
theorem dX4_image_2 : decode cX4_image 2 = .ok (.iconst 1, 1) := by decide +kernel
theorem dX4_image_3 : decode cX4_image 3 = .ok (.invokestatic 46, 3) := by decide +kernel
theorem dX4_image_6 : decode cX4_image 6 = .ok (.ifCond .ne 6, 3) := by decide +kernel
theorem dX4_image_9 : decode cX4_image 9 = .ok (.bipush (-2), 2) := by decide +kernel
theorem dX4_image_11 : decode cX4_image 11 = .ok (.ireturn, 1) := by decide +kernel
theorem dX4_image_12 : decode cX4_image 12 = .ok (.aload_n 0, 1) := by decide +kernel
theorem dX4_image_13 : decode cX4_image 13 = .ok (.getfield 19, 3) := by decide +kernel
theorem dX4_image_16 : decode cX4_image 16 = .ok (.iload_n 1, 1) := by decide +kernel
theorem dX4_image_17 : decode cX4_image 17 = .ok (.aaload, 1) := by decide +kernel
theorem dX4_image_18 : decode cX4_image 18 = .ok (.astore_n 2, 1) := by decide +kernel
theorem dX4_image_19 : decode cX4_image 19 = .ok (.aload_n 2, 1) := by decide +kernel
theorem dX4_image_20 : decode cX4_image 20 = .ok (.ifnonnull 18, 3) := by decide +kernel
theorem dX4_image_23 : decode cX4_image 23 = .ok (.new 7, 3) := by decide +kernel
theorem dX4_image_26 : decode cX4_image 26 = .ok (.dup, 1) := by decide +kernel
theorem dX4_image_27 : decode cX4_image 27 = .ok (.invokespecial 9, 3) := by decide +kernel
theorem dX4_image_30 : decode cX4_image 30 = .ok (.astore_n 2, 1) := by decide +kernel
theorem dX4_image_31 : decode cX4_image 31 = .ok (.aload_n 0, 1) := by decide +kernel
theorem dX4_image_32 : decode cX4_image 32 = .ok (.getfield 19, 3) := by decide +kernel
theorem dX4_image_35 : decode cX4_image 35 = .ok (.iload_n 1, 1) := by decide +kernel
theorem dX4_image_36 : decode cX4_image 36 = .ok (.aload_n 2, 1) := by decide +kernel
theorem dX4_image_37 : decode cX4_image 37 = .ok (.aastore, 1) := by decide +kernel
theorem dX4_image_38 : decode cX4_image 38 = .ok (.aload_n 2, 1) := by decide +kernel
theorem dX4_image_39 : decode cX4_image 39 = .ok (.aload_n 0, 1) := by decide +kernel
theorem dX4_image_40 : decode cX4_image 40 = .ok (.getfield 10, 3) := by decide +kernel
theorem dX4_image_43 : decode cX4_image 43 = .ok (.invokevirtual 117, 3) := by decide +kernel
theorem dX4_image_46 : decode cX4_image 46 = .ok (.iconst 1, 1) := by decide +kernel
theorem dX4_image_47 : decode cX4_image 47 = .ok (.ireturn, 1) := by decide +kernel
set_option maxRecDepth 20000 in
theorem ggX4_restore_X4_isWithin : GoodIn wsX4_restore wsX4_isWithin := goodIn_r _ [6] (by decide +kernel) (by decide +kernel)
set_option maxRecDepth 20000 in
theorem gX4_restore_X4_isWithin : GoodIn wsX4_restore (va_wsS RX4 46 yX4_isWithin wsX4_isWithin) := goodIn_app (goodIn_of _ (by decide +kernel)) ggX4_restore_X4_isWithin
set_option maxRecDepth 20000 in
theorem ggX4_restore_X3_copyFrom : GoodIn wsX4_restore wsX3_copyFrom := goodIn_r _ [10, 11, 12, 13, 14, 15, 16, 17, 18, 19, 20, 21, 22, 5, 23, 31, 32, 33, 34, 35, 36, 37, 38, 39, 40, 41] (by decide +kernel) (by decide +kernel)
set_option maxRecDepth 20000 in
theorem gX4_restore_X3_copyFrom_n117 : GoodIn wsX4_restore (wsX3_copyFrom) := ggX4_restore_X3_copyFrom
theorem dX4_restore_0 : decode cX4_restore 0 = .ok (.iload_n 1, 1) := by decide +kernel
theorem dX4_restore_1 : decode cX4_restore 1 = .ok (.iconst 0, 1) := by decide +kernel
theorem dX4_restore_2 : decode cX4_restore 2 = .ok (.iconst 1, 1) := by decide +kernel
theorem dX4_restore_3 : decode cX4_restore 3 = .ok (.invokestatic 46, 3) := by decide +kernel
theorem dX4_restore_6 : decode cX4_restore 6 = .ok (.ifCond .ne 6, 3) := by decide +kernel
theorem dX4_restore_9 : decode cX4_restore 9 = .ok (.bipush (-2), 2) := by decide +kernel
theorem dX4_restore_11 : decode cX4_restore 11 = .ok (.ireturn, 1) := by decide +kernel
theorem dX4_restore_12 : decode cX4_restore 12 = .ok (.aload_n 0, 1) := by decide +kernel
theorem dX4_restore_13 : decode cX4_restore 13 = .ok (.getfield 19, 3) := by decide +kernel
theorem dX4_restore_16 : decode cX4_restore 16 = .ok (.iload_n 1, 1) := by decide +kernel
theorem dX4_restore_17 : decode cX4_restore 17 = .ok (.aaload, 1) := by decide +kernel
theorem dX4_restore_18 : decode cX4_restore 18 = .ok (.astore_n 2, 1) := by decide +kernel
theorem dX4_restore_19 : decode cX4_restore 19 = .ok (.aload_n 2, 1) := by decide +kernel
theorem dX4_restore_20 : decode cX4_restore 20 = .ok (.ifnonnull 6, 3) := by decide +kernel
theorem dX4_restore_23 : decode cX4_restore 23 = .ok (.bipush (-3), 2) := by decide +kernel
theorem dX4_restore_25 : decode cX4_restore 25 = .ok (.ireturn, 1) := by decide +kernel
theorem dX4_restore_26 : decode cX4_restore 26 = .ok (.aload_n 0, 1) := by decide +kernel
theorem dX4_restore_27 : decode cX4_restore 27 = .ok (.getfield 10, 3) := by decide +kernel
theorem dX4_restore_30 : decode cX4_restore 30 = .ok (.aload_n 2, 1) := by decide +kernel
theorem dX4_restore_31 : decode cX4_restore 31 = .ok (.invokevirtual 117, 3) := by decide +kernel
theorem dX4_restore_34 : decode cX4_restore 34 = .ok (.iconst 1, 1) := by decide +kernel
theorem dX4_restore_35 : decode cX4_restore 35 = .ok (.ireturn, 1) := by decide +kernel
set_option maxRecDepth 20000 in
theorem ggX4_told_X4_isWithin : GoodIn wsX4_told wsX4_isWithin := goodIn_r _ [5] (by decide +kernel) (by decide +kernel)
set_option maxRecDepth 20000 in
theorem gX4_told_X4_isWithin : GoodIn wsX4_told (va_wsS RX4 46 yX4_isWithin wsX4_isWithin) := goodIn_app (goodIn_of _ (by decide +kernel)) ggX4_told_X4_isWithin
set_option maxRecDepth 20000 in
theorem ggX4_told_X4_tellCount : GoodIn wsX4_told wsX4_tellCount := goodIn_r _ [9, 10, 1, 18, 19, 20, 21, 22, 23, 24, 25, 26, 27, 28, 29, 30, 31, 32, 33, 34, 35] (by decide +kernel) (by decide +kernel)
set_option maxRecDepth 20000 in
theorem gX4_told_X4_tellCount : GoodIn wsX4_told (wsV RX4 204 RX4 yX4_tellCount wsX4_tellCount) := goodIn_app (goodIn_of _ (by decide +kernel)) ggX4_told_X4_tellCount
set_option maxRecDepth 20000 in
theorem ggX4_told_X4_tellWord : GoodIn wsX4_told wsX4_tellWord := goodIn_r _ [14, 1, 15, 16, 4, 17, 2, 3, 5, 18, 19, 20, 21, 22, 23, 24, 25, 26, 27, 28, 29, 30, 31, 32, 33, 34, 35] (by decide +kernel) (by decide +kernel)
set_option maxRecDepth 20000 in
theorem gX4_told_X4_tellWord : GoodIn wsX4_told (wsV RX4 207 RX4 yX4_tellWord wsX4_tellWord) := goodIn_app (goodIn_of _ (by decide +kernel)) ggX4_told_X4_tellWord
theorem dX4_told_0 : decode cX4_told 0 = .ok (.iload_n 1, 1) := by decide +kernel
theorem dX4_told_1 : decode cX4_told 1 = .ok (.iconst 0, 1) := by decide +kernel
theorem dX4_told_2 : decode cX4_told 2 = .ok (.iconst 2, 1) := by decide +kernel
theorem dX4_told_3 : decode cX4_told 3 = .ok (.invokestatic 46, 3) := by decide +kernel
theorem dX4_told_6 : decode cX4_told 6 = .ok (.ifCond .eq 9, 3) := by decide +kernel
theorem dX4_told_9 : decode cX4_told 9 = .ok (.aload_n 0, 1) := by decide +kernel
theorem dX4_told_10 : decode cX4_told 10 = .ok (.iload_n 1, 1) := by decide +kernel
theorem dX4_told_11 : decode cX4_told 11 = .ok (.invokevirtual 204, 3) := by decide +kernel
theorem dX4_told_14 : decode cX4_told 14 = .ok (.ireturn, 1) := by decide +kernel
theorem dX4_told_15 : decode cX4_told 15 = .ok (.iload_n 1, 1) := by decide +kernel
theorem dX4_told_16 : decode cX4_told 16 = .ok (.bipush 10, 2) := by decide +kernel
theorem dX4_told_18 : decode cX4_told 18 = .ok (.bipush 13, 2) := by decide +kernel
theorem dX4_told_20 : decode cX4_told 20 = .ok (.invokestatic 46, 3) := by decide +kernel
theorem dX4_told_23 : decode cX4_told 23 = .ok (.ifCond .eq 16, 3) := by decide +kernel
theorem dX4_told_26 : decode cX4_told 26 = .ok (.aload_n 0, 1) := by decide +kernel
theorem dX4_told_27 : decode cX4_told 27 = .ok (.getfield 10, 3) := by decide +kernel
theorem dX4_told_30 : decode cX4_told 30 = .ok (.getfield 79, 3) := by decide +kernel
theorem dX4_told_33 : decode cX4_told 33 = .ok (.iload_n 1, 1) := by decide +kernel
theorem dX4_told_34 : decode cX4_told 34 = .ok (.bipush 10, 2) := by decide +kernel
theorem dX4_told_36 : decode cX4_told 36 = .ok (.isub, 1) := by decide +kernel
theorem dX4_told_37 : decode cX4_told 37 = .ok (.iaload, 1) := by decide +kernel
theorem dX4_told_38 : decode cX4_told 38 = .ok (.ireturn, 1) := by decide +kernel
theorem dX4_told_39 : decode cX4_told 39 = .ok (.iload_n 1, 1) := by decide +kernel
theorem dX4_told_40 : decode cX4_told 40 = .ok (.bipush 20, 2) := by decide +kernel
theorem dX4_told_42 : decode cX4_told 42 = .ok (.bipush 23, 2) := by decide +kernel
theorem dX4_told_44 : decode cX4_told 44 = .ok (.invokestatic 46, 3) := by decide +kernel
theorem dX4_told_47 : decode cX4_told 47 = .ok (.ifCond .eq 16, 3) := by decide +kernel
theorem dX4_told_50 : decode cX4_told 50 = .ok (.aload_n 0, 1) := by decide +kernel
theorem dX4_told_51 : decode cX4_told 51 = .ok (.getfield 10, 3) := by decide +kernel
theorem dX4_told_54 : decode cX4_told 54 = .ok (.getfield 82, 3) := by decide +kernel
theorem dX4_told_57 : decode cX4_told 57 = .ok (.iload_n 1, 1) := by decide +kernel
theorem dX4_told_58 : decode cX4_told 58 = .ok (.bipush 20, 2) := by decide +kernel
theorem dX4_told_60 : decode cX4_told 60 = .ok (.isub, 1) := by decide +kernel
theorem dX4_told_61 : decode cX4_told 61 = .ok (.iaload, 1) := by decide +kernel
theorem dX4_told_62 : decode cX4_told 62 = .ok (.ireturn, 1) := by decide +kernel
theorem dX4_told_63 : decode cX4_told 63 = .ok (.iload_n 1, 1) := by decide +kernel
theorem dX4_told_64 : decode cX4_told 64 = .ok (.bipush 100, 2) := by decide +kernel
theorem dX4_told_66 : decode cX4_told 66 = .ok (.sipush 219, 3) := by decide +kernel
theorem dX4_told_69 : decode cX4_told 69 = .ok (.invokestatic 46, 3) := by decide +kernel
theorem dX4_told_72 : decode cX4_told 72 = .ok (.ifCond .eq 22, 3) := by decide +kernel
theorem dX4_told_75 : decode cX4_told 75 = .ok (.aload_n 0, 1) := by decide +kernel
theorem dX4_told_76 : decode cX4_told 76 = .ok (.iload_n 1, 1) := by decide +kernel
theorem dX4_told_77 : decode cX4_told 77 = .ok (.bipush 100, 2) := by decide +kernel
theorem dX4_told_79 : decode cX4_told 79 = .ok (.isub, 1) := by decide +kernel
theorem dX4_told_80 : decode cX4_told 80 = .ok (.bipush 10, 2) := by decide +kernel
theorem dX4_told_82 : decode cX4_told 82 = .ok (.idiv, 1) := by decide +kernel
theorem dX4_told_83 : decode cX4_told 83 = .ok (.iload_n 1, 1) := by decide +kernel
theorem dX4_told_84 : decode cX4_told 84 = .ok (.bipush 100, 2) := by decide +kernel
theorem dX4_told_86 : decode cX4_told 86 = .ok (.isub, 1) := by decide +kernel
theorem dX4_told_87 : decode cX4_told 87 = .ok (.bipush 10, 2) := by decide +kernel
theorem dX4_told_89 : decode cX4_told 89 = .ok (.irem, 1) := by decide +kernel
theorem dX4_told_90 : decode cX4_told 90 = .ok (.invokevirtual 207, 3) := by decide +kernel
theorem dX4_told_93 : decode cX4_told 93 = .ok (.ireturn, 1) := by decide +kernel
theorem dX4_told_94 : decode cX4_told 94 = .ok (.bipush (-2), 2) := by decide +kernel
theorem dX4_told_96 : decode cX4_told 96 = .ok (.ireturn, 1) := by decide +kernel
theorem dX4_tellCount_0 : decode cX4_tellCount 0 = .ok (.iload_n 1, 1) := by decide +kernel
theorem dX4_tellCount_1 : decode cX4_tellCount 1 = .ok (.ifCond .ne 8, 3) := by decide +kernel
theorem dX4_tellCount_4 : decode cX4_tellCount 4 = .ok (.aload_n 0, 1) := by decide +kernel
theorem dX4_tellCount_5 : decode cX4_tellCount 5 = .ok (.getfield 27, 3) := by decide +kernel
theorem dX4_tellCount_8 : decode cX4_tellCount 8 = .ok (.ireturn, 1) := by decide +kernel
theorem dX4_tellCount_9 : decode cX4_tellCount 9 = .ok (.iload_n 1, 1) := by decide +kernel
theorem dX4_tellCount_10 : decode cX4_tellCount 10 = .ok (.iconst 1, 1) := by decide +kernel
theorem dX4_tellCount_11 : decode cX4_tellCount 11 = .ok (.if_icmp .ne 13, 3) := by decide +kernel
theorem dX4_tellCount_14 : decode cX4_tellCount 14 = .ok (.aload_n 0, 1) := by decide +kernel
theorem dX4_tellCount_15 : decode cX4_tellCount 15 = .ok (.getfield 10, 3) := by decide +kernel
theorem dX4_tellCount_18 : decode cX4_tellCount 18 = .ok (.getfield 148, 3) := by decide +kernel
theorem dX4_tellCount_21 : decode cX4_tellCount 21 = .ok (.goto 10, 3) := by decide +kernel
theorem dX4_tellCount_24 : decode cX4_tellCount 24 = .ok (.aload_n 0, 1) := by decide +kernel
theorem dX4_tellCount_25 : decode cX4_tellCount 25 = .ok (.getfield 10, 3) := by decide +kernel
theorem dX4_tellCount_28 : decode cX4_tellCount 28 = .ok (.getfield 158, 3) := by decide +kernel
theorem dX4_tellCount_31 : decode cX4_tellCount 31 = .ok (.ireturn, 1) := by decide +kernel
set_option maxRecDepth 20000 in
theorem ggX4_tellWord_X4_isWord : GoodIn wsX4_tellWord wsX4_isWord := goodIn_r _ [5, 6, 7, 4, 8] (by decide +kernel) (by decide +kernel)
set_option maxRecDepth 20000 in
theorem gX4_tellWord_X4_isWord : GoodIn wsX4_tellWord (va_wsS RX4 42 yX4_isWord wsX4_isWord) := goodIn_app (goodIn_of _ (by decide +kernel)) ggX4_tellWord_X4_isWord
theorem dX4_tellWord_0 : decode cX4_tellWord 0 = .ok (.iload_n 1, 1) := by decide +kernel
theorem dX4_tellWord_1 : decode cX4_tellWord 1 = .ok (.invokestatic 42, 3) := by decide +kernel
theorem dX4_tellWord_4 : decode cX4_tellWord 4 = .ok (.ifCond .ne 6, 3) := by decide +kernel
theorem dX4_tellWord_7 : decode cX4_tellWord 7 = .ok (.bipush (-2), 2) := by decide +kernel
theorem dX4_tellWord_9 : decode cX4_tellWord 9 = .ok (.ireturn, 1) := by decide +kernel
theorem dX4_tellWord_10 : decode cX4_tellWord 10 = .ok (.iload_n 2, 1) := by decide +kernel
theorem dX4_tellWord_11 : decode cX4_tellWord 11 = .ok (.tableswitch 61 0 2 #[25, 35, 45], 25) := by decide +kernel
theorem dX4_tellWord_36 : decode cX4_tellWord 36 = .ok (.aload_n 0, 1) := by decide +kernel
theorem dX4_tellWord_37 : decode cX4_tellWord 37 = .ok (.getfield 10, 3) := by decide +kernel
theorem dX4_tellWord_40 : decode cX4_tellWord 40 = .ok (.getfield 50, 3) := by decide +kernel
theorem dX4_tellWord_43 : decode cX4_tellWord 43 = .ok (.iload_n 1, 1) := by decide +kernel
theorem dX4_tellWord_44 : decode cX4_tellWord 44 = .ok (.iaload, 1) := by decide +kernel
theorem dX4_tellWord_45 : decode cX4_tellWord 45 = .ok (.ireturn, 1) := by decide +kernel
theorem dX4_tellWord_46 : decode cX4_tellWord 46 = .ok (.aload_n 0, 1) := by decide +kernel
theorem dX4_tellWord_47 : decode cX4_tellWord 47 = .ok (.getfield 10, 3) := by decide +kernel
theorem dX4_tellWord_50 : decode cX4_tellWord 50 = .ok (.getfield 53, 3) := by decide +kernel
theorem dX4_tellWord_53 : decode cX4_tellWord 53 = .ok (.iload_n 1, 1) := by decide +kernel
theorem dX4_tellWord_54 : decode cX4_tellWord 54 = .ok (.iaload, 1) := by decide +kernel
theorem dX4_tellWord_55 : decode cX4_tellWord 55 = .ok (.ireturn, 1) := by decide +kernel
theorem dX4_tellWord_56 : decode cX4_tellWord 56 = .ok (.aload_n 0, 1) := by decide +kernel
theorem dX4_tellWord_57 : decode cX4_tellWord 57 = .ok (.getfield 10, 3) := by decide +kernel
theorem dX4_tellWord_60 : decode cX4_tellWord 60 = .ok (.getfield 60, 3) := by decide +kernel
theorem dX4_tellWord_63 : decode cX4_tellWord 63 = .ok (.iload_n 1, 1) := by decide +kernel
theorem dX4_tellWord_64 : decode cX4_tellWord 64 = .ok (.iaload, 1) := by decide +kernel
theorem dX4_tellWord_65 : decode cX4_tellWord 65 = .ok (.iconst 1, 1) := by decide +kernel
theorem dX4_tellWord_66 : decode cX4_tellWord 66 = .ok (.iload_n 1, 1) := by decide +kernel
theorem dX4_tellWord_67 : decode cX4_tellWord 67 = .ok (.ishl, 1) := by decide +kernel
theorem dX4_tellWord_68 : decode cX4_tellWord 68 = .ok (.iconst (-1), 1) := by decide +kernel
theorem dX4_tellWord_69 : decode cX4_tellWord 69 = .ok (.ixor, 1) := by decide +kernel
theorem dX4_tellWord_70 : decode cX4_tellWord 70 = .ok (.iand, 1) := by decide +kernel
theorem dX4_tellWord_71 : decode cX4_tellWord 71 = .ok (.ireturn, 1) := by decide +kernel
theorem dX4_tellWord_72 : decode cX4_tellWord 72 = .ok (.bipush (-2), 2) := by decide +kernel
theorem dX4_tellWord_74 : decode cX4_tellWord 74 = .ok (.ireturn, 1) := by decide +kernel
set_option maxRecDepth 20000 in
theorem ggX4_cheapestSentence_X3_ofKind : GoodIn wsX4_cheapestSentence wsX3_ofKind := goodIn_r _ [5, 6, 31, 32, 33, 34, 35, 36, 37, 38, 39, 40, 41] (by decide +kernel) (by decide +kernel)
set_option maxRecDepth 20000 in
theorem gX4_cheapestSentence_X3_ofKind_n210 : GoodIn wsX4_cheapestSentence (wsX3_ofKind) := ggX4_cheapestSentence_X3_ofKind
set_option maxRecDepth 20000 in
theorem ggX4_cheapestSentence_J6_bitCount_0f7a4 : GoodIn wsX4_cheapestSentence wsJ6_bitCount_0f7a4 := goodIn_r _ [10, 11, 12, 13] (by decide +kernel) (by decide +kernel)
set_option maxRecDepth 20000 in
theorem gX4_cheapestSentence_J6_bitCount_0f7a4 : GoodIn wsX4_cheapestSentence (va_wsS RX4 63 yJ6_bitCount_0f7a4 wsJ6_bitCount_0f7a4) := goodIn_app (goodIn_of _ (by decide +kernel)) ggX4_cheapestSentence_J6_bitCount_0f7a4
set_option maxRecDepth 20000 in
theorem ggX4_cheapestSentence_X4_isWithin : GoodIn wsX4_cheapestSentence wsX4_isWithin := goodIn_r _ [17] (by decide +kernel) (by decide +kernel)
set_option maxRecDepth 20000 in
theorem gX4_cheapestSentence_X4_isWithin : GoodIn wsX4_cheapestSentence (va_wsS RX4 46 yX4_isWithin wsX4_isWithin) := goodIn_app (goodIn_of _ (by decide +kernel)) ggX4_cheapestSentence_X4_isWithin
set_option maxRecDepth 20000 in
theorem ggX4_cheapestSentence_X3_priceOf : GoodIn wsX4_cheapestSentence wsX3_priceOf := goodIn_r _ [20, 21, 22, 16, 23, 31, 32, 33, 34, 35, 36, 37, 38, 39, 40, 41] (by decide +kernel) (by decide +kernel)
set_option maxRecDepth 20000 in
theorem gX4_cheapestSentence_X3_priceOf_n142 : GoodIn wsX4_cheapestSentence (wsX3_priceOf) := ggX4_cheapestSentence_X3_priceOf
theorem dX4_cheapestSentence_0 : decode cX4_cheapestSentence 0 = .ok (.aload_n 0, 1) := by decide +kernel
theorem dX4_cheapestSentence_1 : decode cX4_cheapestSentence 1 = .ok (.getfield 10, 3) := by decide +kernel
theorem dX4_cheapestSentence_4 : decode cX4_cheapestSentence 4 = .ok (.iconst 0, 1) := by decide +kernel
theorem dX4_cheapestSentence_5 : decode cX4_cheapestSentence 5 = .ok (.invokevirtual 210, 3) := by decide +kernel
theorem dX4_cheapestSentence_8 : decode cX4_cheapestSentence 8 = .ok (.istore_n 3, 1) := by decide +kernel
theorem dX4_cheapestSentence_9 : decode cX4_cheapestSentence 9 = .ok (.aload_n 0, 1) := by decide +kernel
theorem dX4_cheapestSentence_10 : decode cX4_cheapestSentence 10 = .ok (.getfield 10, 3) := by decide +kernel
theorem dX4_cheapestSentence_13 : decode cX4_cheapestSentence 13 = .ok (.iconst 1, 1) := by decide +kernel
theorem dX4_cheapestSentence_14 : decode cX4_cheapestSentence 14 = .ok (.invokevirtual 210, 3) := by decide +kernel
theorem dX4_cheapestSentence_17 : decode cX4_cheapestSentence 17 = .ok (.istore 4, 2) := by decide +kernel
theorem dX4_cheapestSentence_19 : decode cX4_cheapestSentence 19 = .ok (.bipush (-6), 2) := by decide +kernel
theorem dX4_cheapestSentence_21 : decode cX4_cheapestSentence 21 = .ok (.istore 5, 2) := by decide +kernel
theorem dX4_cheapestSentence_23 : decode cX4_cheapestSentence 23 = .ok (.iconst 0, 1) := by decide +kernel
theorem dX4_cheapestSentence_24 : decode cX4_cheapestSentence 24 = .ok (.istore 6, 2) := by decide +kernel
theorem dX4_cheapestSentence_26 : decode cX4_cheapestSentence 26 = .ok (.iconst 0, 1) := by decide +kernel
theorem dX4_cheapestSentence_27 : decode cX4_cheapestSentence 27 = .ok (.istore 7, 2) := by decide +kernel
theorem dX4_cheapestSentence_29 : decode cX4_cheapestSentence 29 = .ok (.iload 7, 2) := by decide +kernel
theorem dX4_cheapestSentence_31 : decode cX4_cheapestSentence 31 = .ok (.sipush 4095, 3) := by decide +kernel
theorem dX4_cheapestSentence_34 : decode cX4_cheapestSentence 34 = .ok (.if_icmp .gt 82, 3) := by decide +kernel
theorem dX4_cheapestSentence_37 : decode cX4_cheapestSentence 37 = .ok (.iload 7, 2) := by decide +kernel
theorem dX4_cheapestSentence_39 : decode cX4_cheapestSentence 39 = .ok (.invokestatic 63, 3) := by decide +kernel
theorem dX4_cheapestSentence_42 : decode cX4_cheapestSentence 42 = .ok (.iload_n 2, 1) := by decide +kernel
theorem dX4_cheapestSentence_43 : decode cX4_cheapestSentence 43 = .ok (.if_icmp .ne 67, 3) := by decide +kernel
theorem dX4_cheapestSentence_46 : decode cX4_cheapestSentence 46 = .ok (.iload 7, 2) := by decide +kernel
theorem dX4_cheapestSentence_48 : decode cX4_cheapestSentence 48 = .ok (.iload 4, 2) := by decide +kernel
theorem dX4_cheapestSentence_50 : decode cX4_cheapestSentence 50 = .ok (.iand, 1) := by decide +kernel
theorem dX4_cheapestSentence_51 : decode cX4_cheapestSentence 51 = .ok (.invokestatic 63, 3) := by decide +kernel
theorem dX4_cheapestSentence_54 : decode cX4_cheapestSentence 54 = .ok (.iconst 1, 1) := by decide +kernel
theorem dX4_cheapestSentence_55 : decode cX4_cheapestSentence 55 = .ok (.if_icmp .ne 55, 3) := by decide +kernel
theorem dX4_cheapestSentence_58 : decode cX4_cheapestSentence 58 = .ok (.iload 7, 2) := by decide +kernel
theorem dX4_cheapestSentence_60 : decode cX4_cheapestSentence 60 = .ok (.iload_n 3, 1) := by decide +kernel
theorem dX4_cheapestSentence_61 : decode cX4_cheapestSentence 61 = .ok (.iand, 1) := by decide +kernel
theorem dX4_cheapestSentence_62 : decode cX4_cheapestSentence 62 = .ok (.invokestatic 63, 3) := by decide +kernel
theorem dX4_cheapestSentence_65 : decode cX4_cheapestSentence 65 = .ok (.iconst 1, 1) := by decide +kernel
theorem dX4_cheapestSentence_66 : decode cX4_cheapestSentence 66 = .ok (.iconst 2, 1) := by decide +kernel
theorem dX4_cheapestSentence_67 : decode cX4_cheapestSentence 67 = .ok (.invokestatic 46, 3) := by decide +kernel
theorem dX4_cheapestSentence_70 : decode cX4_cheapestSentence 70 = .ok (.ifCond .eq 40, 3) := by decide +kernel
theorem dX4_cheapestSentence_73 : decode cX4_cheapestSentence 73 = .ok (.aload_n 0, 1) := by decide +kernel
theorem dX4_cheapestSentence_74 : decode cX4_cheapestSentence 74 = .ok (.getfield 10, 3) := by decide +kernel
theorem dX4_cheapestSentence_77 : decode cX4_cheapestSentence 77 = .ok (.iload 7, 2) := by decide +kernel
theorem dX4_cheapestSentence_79 : decode cX4_cheapestSentence 79 = .ok (.iload_n 1, 1) := by decide +kernel
theorem dX4_cheapestSentence_80 : decode cX4_cheapestSentence 80 = .ok (.iconst (-1), 1) := by decide +kernel
theorem dX4_cheapestSentence_81 : decode cX4_cheapestSentence 81 = .ok (.ixor, 1) := by decide +kernel
theorem dX4_cheapestSentence_82 : decode cX4_cheapestSentence 82 = .ok (.iand, 1) := by decide +kernel
theorem dX4_cheapestSentence_83 : decode cX4_cheapestSentence 83 = .ok (.invokevirtual 142, 3) := by decide +kernel
theorem dX4_cheapestSentence_86 : decode cX4_cheapestSentence 86 = .ok (.istore 8, 2) := by decide +kernel
theorem dX4_cheapestSentence_88 : decode cX4_cheapestSentence 88 = .ok (.iload 5, 2) := by decide +kernel
theorem dX4_cheapestSentence_90 : decode cX4_cheapestSentence 90 = .ok (.bipush (-6), 2) := by decide +kernel
theorem dX4_cheapestSentence_92 : decode cX4_cheapestSentence 92 = .ok (.if_icmp .eq 10, 3) := by decide +kernel
theorem dX4_cheapestSentence_95 : decode cX4_cheapestSentence 95 = .ok (.iload 8, 2) := by decide +kernel
theorem dX4_cheapestSentence_97 : decode cX4_cheapestSentence 97 = .ok (.iload 6, 2) := by decide +kernel
theorem dX4_cheapestSentence_99 : decode cX4_cheapestSentence 99 = .ok (.if_icmp .ge 11, 3) := by decide +kernel
theorem dX4_cheapestSentence_102 : decode cX4_cheapestSentence 102 = .ok (.iload 7, 2) := by decide +kernel
theorem dX4_cheapestSentence_104 : decode cX4_cheapestSentence 104 = .ok (.istore 5, 2) := by decide +kernel
theorem dX4_cheapestSentence_106 : decode cX4_cheapestSentence 106 = .ok (.iload 8, 2) := by decide +kernel
theorem dX4_cheapestSentence_108 : decode cX4_cheapestSentence 108 = .ok (.istore 6, 2) := by decide +kernel
theorem dX4_cheapestSentence_110 : decode cX4_cheapestSentence 110 = .ok (.iinc 7 1, 3) := by decide +kernel
theorem dX4_cheapestSentence_113 : decode cX4_cheapestSentence 113 = .ok (.goto (-84), 3) := by decide +kernel
theorem dX4_cheapestSentence_116 : decode cX4_cheapestSentence 116 = .ok (.iload 5, 2) := by decide +kernel
theorem dX4_cheapestSentence_118 : decode cX4_cheapestSentence 118 = .ok (.ireturn, 1) := by decide +kernel
set_option maxRecDepth 20000 in
theorem ggX4_fewestSpeakers_J6_bitCount_0f7a4 : GoodIn wsX4_fewestSpeakers wsJ6_bitCount_0f7a4 := goodIn_r _ [5, 6, 7, 8] (by decide +kernel) (by decide +kernel)
set_option maxRecDepth 20000 in
theorem gX4_fewestSpeakers_J6_bitCount_0f7a4 : GoodIn wsX4_fewestSpeakers (va_wsS RX4 63 yJ6_bitCount_0f7a4 wsJ6_bitCount_0f7a4) := goodIn_app (goodIn_of _ (by decide +kernel)) ggX4_fewestSpeakers_J6_bitCount_0f7a4
set_option maxRecDepth 20000 in
theorem ggX4_fewestSpeakers_X3_heldBy : GoodIn wsX4_fewestSpeakers wsX3_heldBy := goodIn_r _ [12, 13, 14, 15, 16, 37, 38, 39, 40, 41, 42, 43, 44, 45, 46, 47] (by decide +kernel) (by decide +kernel)
set_option maxRecDepth 20000 in
theorem gX4_fewestSpeakers_X3_heldBy_n213 : GoodIn wsX4_fewestSpeakers (wsX3_heldBy) := ggX4_fewestSpeakers_X3_heldBy
set_option maxRecDepth 20000 in
theorem ggX4_fewestSpeakers_X3_canSayOnce : GoodIn wsX4_fewestSpeakers wsX3_canSayOnce := goodIn_r _ [19, 20, 21, 22, 10, 23, 24, 25, 26, 27, 28, 29, 3, 4, 5, 6, 7, 8, 37, 38, 39, 40, 41, 42, 43, 44, 45, 46, 47] (by decide +kernel) (by decide +kernel)
set_option maxRecDepth 20000 in
theorem gX4_fewestSpeakers_X3_canSayOnce_n216 : GoodIn wsX4_fewestSpeakers (wsX3_canSayOnce) := ggX4_fewestSpeakers_X3_canSayOnce
theorem dX4_fewestSpeakers_0 : decode cX4_fewestSpeakers 0 = .ok (.bipush (-6), 2) := by decide +kernel
theorem dX4_fewestSpeakers_2 : decode cX4_fewestSpeakers 2 = .ok (.istore_n 2, 1) := by decide +kernel
theorem dX4_fewestSpeakers_3 : decode cX4_fewestSpeakers 3 = .ok (.iconst 5, 1) := by decide +kernel
theorem dX4_fewestSpeakers_4 : decode cX4_fewestSpeakers 4 = .ok (.istore_n 3, 1) := by decide +kernel
theorem dX4_fewestSpeakers_5 : decode cX4_fewestSpeakers 5 = .ok (.iconst 1, 1) := by decide +kernel
theorem dX4_fewestSpeakers_6 : decode cX4_fewestSpeakers 6 = .ok (.istore 4, 2) := by decide +kernel
theorem dX4_fewestSpeakers_8 : decode cX4_fewestSpeakers 8 = .ok (.iload 4, 2) := by decide +kernel
theorem dX4_fewestSpeakers_10 : decode cX4_fewestSpeakers 10 = .ok (.bipush 15, 2) := by decide +kernel
theorem dX4_fewestSpeakers_12 : decode cX4_fewestSpeakers 12 = .ok (.if_icmp .gt 48, 3) := by decide +kernel
theorem dX4_fewestSpeakers_15 : decode cX4_fewestSpeakers 15 = .ok (.iload 4, 2) := by decide +kernel
theorem dX4_fewestSpeakers_17 : decode cX4_fewestSpeakers 17 = .ok (.invokestatic 63, 3) := by decide +kernel
theorem dX4_fewestSpeakers_20 : decode cX4_fewestSpeakers 20 = .ok (.istore 5, 2) := by decide +kernel
theorem dX4_fewestSpeakers_22 : decode cX4_fewestSpeakers 22 = .ok (.iload 5, 2) := by decide +kernel
theorem dX4_fewestSpeakers_24 : decode cX4_fewestSpeakers 24 = .ok (.iload_n 3, 1) := by decide +kernel
theorem dX4_fewestSpeakers_25 : decode cX4_fewestSpeakers 25 = .ok (.if_icmp .ge 29, 3) := by decide +kernel
theorem dX4_fewestSpeakers_28 : decode cX4_fewestSpeakers 28 = .ok (.aload_n 0, 1) := by decide +kernel
theorem dX4_fewestSpeakers_29 : decode cX4_fewestSpeakers 29 = .ok (.getfield 10, 3) := by decide +kernel
theorem dX4_fewestSpeakers_32 : decode cX4_fewestSpeakers 32 = .ok (.aload_n 0, 1) := by decide +kernel
theorem dX4_fewestSpeakers_33 : decode cX4_fewestSpeakers 33 = .ok (.getfield 10, 3) := by decide +kernel
theorem dX4_fewestSpeakers_36 : decode cX4_fewestSpeakers 36 = .ok (.iload 4, 2) := by decide +kernel
theorem dX4_fewestSpeakers_38 : decode cX4_fewestSpeakers 38 = .ok (.invokevirtual 213, 3) := by decide +kernel
theorem dX4_fewestSpeakers_41 : decode cX4_fewestSpeakers 41 = .ok (.iload_n 1, 1) := by decide +kernel
theorem dX4_fewestSpeakers_42 : decode cX4_fewestSpeakers 42 = .ok (.invokevirtual 216, 3) := by decide +kernel
theorem dX4_fewestSpeakers_45 : decode cX4_fewestSpeakers 45 = .ok (.ifCond .eq 9, 3) := by decide +kernel
theorem dX4_fewestSpeakers_48 : decode cX4_fewestSpeakers 48 = .ok (.iload 4, 2) := by decide +kernel
theorem dX4_fewestSpeakers_50 : decode cX4_fewestSpeakers 50 = .ok (.istore_n 2, 1) := by decide +kernel
theorem dX4_fewestSpeakers_51 : decode cX4_fewestSpeakers 51 = .ok (.iload 5, 2) := by decide +kernel
theorem dX4_fewestSpeakers_53 : decode cX4_fewestSpeakers 53 = .ok (.istore_n 3, 1) := by decide +kernel
theorem dX4_fewestSpeakers_54 : decode cX4_fewestSpeakers 54 = .ok (.iinc 4 1, 3) := by decide +kernel
theorem dX4_fewestSpeakers_57 : decode cX4_fewestSpeakers 57 = .ok (.goto (-49), 3) := by decide +kernel
theorem dX4_fewestSpeakers_60 : decode cX4_fewestSpeakers 60 = .ok (.iload_n 2, 1) := by decide +kernel
theorem dX4_fewestSpeakers_61 : decode cX4_fewestSpeakers 61 = .ok (.ireturn, 1) := by decide +kernel
set_option maxRecDepth 20000 in
theorem ggX4_fewestWords_J6_bitCount_0f7a4 : GoodIn wsX4_fewestWords wsJ6_bitCount_0f7a4 := goodIn_r _ [5, 6, 7, 8] (by decide +kernel) (by decide +kernel)
set_option maxRecDepth 20000 in
theorem gX4_fewestWords_J6_bitCount_0f7a4 : GoodIn wsX4_fewestWords (va_wsS RX4 63 yJ6_bitCount_0f7a4 wsJ6_bitCount_0f7a4) := goodIn_app (goodIn_of _ (by decide +kernel)) ggX4_fewestWords_J6_bitCount_0f7a4
set_option maxRecDepth 20000 in
theorem ggX4_fewestWords_X3_grantsAll : GoodIn wsX4_fewestWords wsX3_grantsAll := goodIn_r _ [12, 13, 14, 22, 23, 24, 25, 26, 27, 28, 29, 30, 31, 32] (by decide +kernel) (by decide +kernel)
set_option maxRecDepth 20000 in
theorem gX4_fewestWords_X3_grantsAll_n220 : GoodIn wsX4_fewestWords (wsX3_grantsAll) := ggX4_fewestWords_X3_grantsAll
theorem dX4_fewestWords_0 : decode cX4_fewestWords 0 = .ok (.bipush (-6), 2) := by decide +kernel
theorem dX4_fewestWords_2 : decode cX4_fewestWords 2 = .ok (.istore_n 1, 1) := by decide +kernel
theorem dX4_fewestWords_3 : decode cX4_fewestWords 3 = .ok (.bipush 13, 2) := by decide +kernel
theorem dX4_fewestWords_5 : decode cX4_fewestWords 5 = .ok (.istore_n 2, 1) := by decide +kernel
theorem dX4_fewestWords_6 : decode cX4_fewestWords 6 = .ok (.iconst 0, 1) := by decide +kernel
theorem dX4_fewestWords_7 : decode cX4_fewestWords 7 = .ok (.istore_n 3, 1) := by decide +kernel
theorem dX4_fewestWords_8 : decode cX4_fewestWords 8 = .ok (.iload_n 3, 1) := by decide +kernel
theorem dX4_fewestWords_9 : decode cX4_fewestWords 9 = .ok (.sipush 4095, 3) := by decide +kernel
theorem dX4_fewestWords_12 : decode cX4_fewestWords 12 = .ok (.if_icmp .gt 37, 3) := by decide +kernel
theorem dX4_fewestWords_15 : decode cX4_fewestWords 15 = .ok (.iload_n 3, 1) := by decide +kernel
theorem dX4_fewestWords_16 : decode cX4_fewestWords 16 = .ok (.invokestatic 63, 3) := by decide +kernel
theorem dX4_fewestWords_19 : decode cX4_fewestWords 19 = .ok (.istore 4, 2) := by decide +kernel
theorem dX4_fewestWords_21 : decode cX4_fewestWords 21 = .ok (.iload 4, 2) := by decide +kernel
theorem dX4_fewestWords_23 : decode cX4_fewestWords 23 = .ok (.iload_n 2, 1) := by decide +kernel
theorem dX4_fewestWords_24 : decode cX4_fewestWords 24 = .ok (.if_icmp .ge 19, 3) := by decide +kernel
theorem dX4_fewestWords_27 : decode cX4_fewestWords 27 = .ok (.aload_n 0, 1) := by decide +kernel
theorem dX4_fewestWords_28 : decode cX4_fewestWords 28 = .ok (.getfield 10, 3) := by decide +kernel
theorem dX4_fewestWords_31 : decode cX4_fewestWords 31 = .ok (.iload_n 3, 1) := by decide +kernel
theorem dX4_fewestWords_32 : decode cX4_fewestWords 32 = .ok (.invokevirtual 220, 3) := by decide +kernel
theorem dX4_fewestWords_35 : decode cX4_fewestWords 35 = .ok (.ifCond .eq 8, 3) := by decide +kernel
theorem dX4_fewestWords_38 : decode cX4_fewestWords 38 = .ok (.iload_n 3, 1) := by decide +kernel
theorem dX4_fewestWords_39 : decode cX4_fewestWords 39 = .ok (.istore_n 1, 1) := by decide +kernel
theorem dX4_fewestWords_40 : decode cX4_fewestWords 40 = .ok (.iload 4, 2) := by decide +kernel
theorem dX4_fewestWords_42 : decode cX4_fewestWords 42 = .ok (.istore_n 2, 1) := by decide +kernel
theorem dX4_fewestWords_43 : decode cX4_fewestWords 43 = .ok (.iinc 3 1, 3) := by decide +kernel
theorem dX4_fewestWords_46 : decode cX4_fewestWords 46 = .ok (.goto (-38), 3) := by decide +kernel
theorem dX4_fewestWords_49 : decode cX4_fewestWords 49 = .ok (.iload_n 1, 1) := by decide +kernel
theorem dX4_fewestWords_50 : decode cX4_fewestWords 50 = .ok (.ireturn, 1) := by decide +kernel
set_option maxRecDepth 20000 in
theorem ggX4_bestEach_X4_mostLeft : GoodIn wsX4_bestEach wsX4_mostLeft := goodIn_r _ [4, 5, 6, 7, 8] (by decide +kernel) (by decide +kernel)
set_option maxRecDepth 20000 in
theorem gX4_bestEach_X4_mostLeft : GoodIn wsX4_bestEach (va_wsS RX4 179 yX4_mostLeft wsX4_mostLeft) := goodIn_app (goodIn_of _ (by decide +kernel)) ggX4_bestEach_X4_mostLeft
theorem dX4_bestEach_0 : decode cX4_bestEach 0 = .ok (.iconst 0, 1) := by decide +kernel
theorem dX4_bestEach_1 : decode cX4_bestEach 1 = .ok (.istore_n 1, 1) := by decide +kernel
theorem dX4_bestEach_2 : decode cX4_bestEach 2 = .ok (.iconst 1, 1) := by decide +kernel
theorem dX4_bestEach_3 : decode cX4_bestEach 3 = .ok (.istore_n 2, 1) := by decide +kernel
theorem dX4_bestEach_4 : decode cX4_bestEach 4 = .ok (.iload_n 2, 1) := by decide +kernel
theorem dX4_bestEach_5 : decode cX4_bestEach 5 = .ok (.iload_n 0, 1) := by decide +kernel
theorem dX4_bestEach_6 : decode cX4_bestEach 6 = .ok (.iconst 2, 1) := by decide +kernel
theorem dX4_bestEach_7 : decode cX4_bestEach 7 = .ok (.idiv, 1) := by decide +kernel
theorem dX4_bestEach_8 : decode cX4_bestEach 8 = .ok (.if_icmp .gt 24, 3) := by decide +kernel
theorem dX4_bestEach_11 : decode cX4_bestEach 11 = .ok (.iload_n 0, 1) := by decide +kernel
theorem dX4_bestEach_12 : decode cX4_bestEach 12 = .ok (.iload_n 2, 1) := by decide +kernel
theorem dX4_bestEach_13 : decode cX4_bestEach 13 = .ok (.invokestatic 179, 3) := by decide +kernel
theorem dX4_bestEach_16 : decode cX4_bestEach 16 = .ok (.iload_n 0, 1) := by decide +kernel
theorem dX4_bestEach_17 : decode cX4_bestEach 17 = .ok (.iload_n 1, 1) := by decide +kernel
theorem dX4_bestEach_18 : decode cX4_bestEach 18 = .ok (.invokestatic 179, 3) := by decide +kernel
theorem dX4_bestEach_21 : decode cX4_bestEach 21 = .ok (.if_icmp .ge 5, 3) := by decide +kernel
theorem dX4_bestEach_24 : decode cX4_bestEach 24 = .ok (.iload_n 2, 1) := by decide +kernel
theorem dX4_bestEach_25 : decode cX4_bestEach 25 = .ok (.istore_n 1, 1) := by decide +kernel
theorem dX4_bestEach_26 : decode cX4_bestEach 26 = .ok (.iinc 2 1, 3) := by decide +kernel
theorem dX4_bestEach_29 : decode cX4_bestEach 29 = .ok (.goto (-25), 3) := by decide +kernel
theorem dX4_bestEach_32 : decode cX4_bestEach 32 = .ok (.iload_n 1, 1) := by decide +kernel
theorem dX4_bestEach_33 : decode cX4_bestEach 33 = .ok (.ireturn, 1) := by decide +kernel
theorem dX4_mostLeft_0 : decode cX4_mostLeft 0 = .ok (.iload_n 1, 1) := by decide +kernel
theorem dX4_mostLeft_1 : decode cX4_mostLeft 1 = .ok (.iload_n 0, 1) := by decide +kernel
theorem dX4_mostLeft_2 : decode cX4_mostLeft 2 = .ok (.iconst 2, 1) := by decide +kernel
theorem dX4_mostLeft_3 : decode cX4_mostLeft 3 = .ok (.iload_n 1, 1) := by decide +kernel
theorem dX4_mostLeft_4 : decode cX4_mostLeft 4 = .ok (.imul, 1) := by decide +kernel
theorem dX4_mostLeft_5 : decode cX4_mostLeft 5 = .ok (.isub, 1) := by decide +kernel
theorem dX4_mostLeft_6 : decode cX4_mostLeft 6 = .ok (.invokestatic 223, 3) := by decide +kernel
theorem dX4_mostLeft_9 : decode cX4_mostLeft 9 = .ok (.ireturn, 1) := by decide +kernel
theorem dX4_fewestWeighings_0 : decode cX4_fewestWeighings 0 = .ok (.iconst 1, 1) := by decide +kernel
theorem dX4_fewestWeighings_1 : decode cX4_fewestWeighings 1 = .ok (.istore_n 1, 1) := by decide +kernel
theorem dX4_fewestWeighings_2 : decode cX4_fewestWeighings 2 = .ok (.iconst 0, 1) := by decide +kernel
theorem dX4_fewestWeighings_3 : decode cX4_fewestWeighings 3 = .ok (.istore_n 2, 1) := by decide +kernel
theorem dX4_fewestWeighings_4 : decode cX4_fewestWeighings 4 = .ok (.iload_n 1, 1) := by decide +kernel
theorem dX4_fewestWeighings_5 : decode cX4_fewestWeighings 5 = .ok (.iload_n 0, 1) := by decide +kernel
theorem dX4_fewestWeighings_6 : decode cX4_fewestWeighings 6 = .ok (.if_icmp .ge 19, 3) := by decide +kernel
theorem dX4_fewestWeighings_9 : decode cX4_fewestWeighings 9 = .ok (.iload_n 2, 1) := by decide +kernel
theorem dX4_fewestWeighings_10 : decode cX4_fewestWeighings 10 = .ok (.bipush 12, 2) := by decide +kernel
theorem dX4_fewestWeighings_12 : decode cX4_fewestWeighings 12 = .ok (.if_icmp .ge 13, 3) := by decide +kernel
theorem dX4_fewestWeighings_15 : decode cX4_fewestWeighings 15 = .ok (.iload_n 1, 1) := by decide +kernel
theorem dX4_fewestWeighings_16 : decode cX4_fewestWeighings 16 = .ok (.iconst 3, 1) := by decide +kernel
theorem dX4_fewestWeighings_17 : decode cX4_fewestWeighings 17 = .ok (.imul, 1) := by decide +kernel
theorem dX4_fewestWeighings_18 : decode cX4_fewestWeighings 18 = .ok (.istore_n 1, 1) := by decide +kernel
theorem dX4_fewestWeighings_19 : decode cX4_fewestWeighings 19 = .ok (.iinc 2 1, 3) := by decide +kernel
theorem dX4_fewestWeighings_22 : decode cX4_fewestWeighings 22 = .ok (.goto (-18), 3) := by decide +kernel
theorem dX4_fewestWeighings_25 : decode cX4_fewestWeighings 25 = .ok (.iload_n 2, 1) := by decide +kernel
theorem dX4_fewestWeighings_26 : decode cX4_fewestWeighings 26 = .ok (.ireturn, 1) := by decide +kernel
set_option maxRecDepth 20000 in
theorem ggX4_bestMean_X4_isWithin : GoodIn wsX4_bestMean wsX4_isWithin := goodIn_r _ [10] (by decide +kernel) (by decide +kernel)
set_option maxRecDepth 20000 in
theorem gX4_bestMean_X4_isWithin : GoodIn wsX4_bestMean (va_wsS RX4 46 yX4_isWithin wsX4_isWithin) := goodIn_app (goodIn_of _ (by decide +kernel)) ggX4_bestMean_X4_isWithin
theorem dX4_bestMean_0 : decode cX4_bestMean 0 = .ok (.iconst 0, 1) := by decide +kernel
theorem dX4_bestMean_1 : decode cX4_bestMean 1 = .ok (.istore 4, 2) := by decide +kernel
theorem dX4_bestMean_3 : decode cX4_bestMean 3 = .ok (.iload 4, 2) := by decide +kernel
theorem dX4_bestMean_5 : decode cX4_bestMean 5 = .ok (.aload_n 0, 1) := by decide +kernel
theorem dX4_bestMean_6 : decode cX4_bestMean 6 = .ok (.getfield 38, 3) := by decide +kernel
theorem dX4_bestMean_9 : decode cX4_bestMean 9 = .ok (.arraylength, 1) := by decide +kernel
theorem dX4_bestMean_10 : decode cX4_bestMean 10 = .ok (.if_icmp .ge 19, 3) := by decide +kernel
theorem dX4_bestMean_13 : decode cX4_bestMean 13 = .ok (.aload_n 0, 1) := by decide +kernel
theorem dX4_bestMean_14 : decode cX4_bestMean 14 = .ok (.getfield 38, 3) := by decide +kernel
theorem dX4_bestMean_17 : decode cX4_bestMean 17 = .ok (.iload 4, 2) := by decide +kernel
theorem dX4_bestMean_19 : decode cX4_bestMean 19 = .ok (.iload 4, 2) := by decide +kernel
theorem dX4_bestMean_21 : decode cX4_bestMean 21 = .ok (.i2l, 1) := by decide +kernel
theorem dX4_bestMean_22 : decode cX4_bestMean 22 = .ok (.lastore, 1) := by decide +kernel
theorem dX4_bestMean_23 : decode cX4_bestMean 23 = .ok (.iinc 4 1, 3) := by decide +kernel
theorem dX4_bestMean_26 : decode cX4_bestMean 26 = .ok (.goto (-23), 3) := by decide +kernel
theorem dX4_bestMean_29 : decode cX4_bestMean 29 = .ok (.lconst 1, 1) := by decide +kernel
theorem dX4_bestMean_30 : decode cX4_bestMean 30 = .ok (.lstore 4, 2) := by decide +kernel
theorem dX4_bestMean_32 : decode cX4_bestMean 32 = .ok (.iconst 1, 1) := by decide +kernel
theorem dX4_bestMean_33 : decode cX4_bestMean 33 = .ok (.istore 6, 2) := by decide +kernel
theorem dX4_bestMean_35 : decode cX4_bestMean 35 = .ok (.iload 6, 2) := by decide +kernel
theorem dX4_bestMean_37 : decode cX4_bestMean 37 = .ok (.iload_n 2, 1) := by decide +kernel
theorem dX4_bestMean_38 : decode cX4_bestMean 38 = .ok (.if_icmp .gt 100, 3) := by decide +kernel
theorem dX4_bestMean_41 : decode cX4_bestMean 41 = .ok (.lload 4, 2) := by decide +kernel
theorem dX4_bestMean_43 : decode cX4_bestMean 43 = .ok (.ldc2_w 188, 3) := by decide +kernel
theorem dX4_bestMean_46 : decode cX4_bestMean 46 = .ok (.lmul, 1) := by decide +kernel
theorem dX4_bestMean_47 : decode cX4_bestMean 47 = .ok (.lstore 4, 2) := by decide +kernel
theorem dX4_bestMean_49 : decode cX4_bestMean 49 = .ok (.aload_n 0, 1) := by decide +kernel
theorem dX4_bestMean_50 : decode cX4_bestMean 50 = .ok (.getfield 38, 3) := by decide +kernel
theorem dX4_bestMean_53 : decode cX4_bestMean 53 = .ok (.iconst 0, 1) := by decide +kernel
theorem dX4_bestMean_54 : decode cX4_bestMean 54 = .ok (.laload, 1) := by decide +kernel
theorem dX4_bestMean_55 : decode cX4_bestMean 55 = .ok (.lstore 7, 2) := by decide +kernel
theorem dX4_bestMean_57 : decode cX4_bestMean 57 = .ok (.iconst 0, 1) := by decide +kernel
theorem dX4_bestMean_58 : decode cX4_bestMean 58 = .ok (.istore 9, 2) := by decide +kernel
theorem dX4_bestMean_60 : decode cX4_bestMean 60 = .ok (.iload 9, 2) := by decide +kernel
theorem dX4_bestMean_62 : decode cX4_bestMean 62 = .ok (.iconst 1, 1) := by decide +kernel
theorem dX4_bestMean_63 : decode cX4_bestMean 63 = .ok (.iadd, 1) := by decide +kernel
theorem dX4_bestMean_64 : decode cX4_bestMean 64 = .ok (.aload_n 0, 1) := by decide +kernel
theorem dX4_bestMean_65 : decode cX4_bestMean 65 = .ok (.getfield 38, 3) := by decide +kernel
theorem dX4_bestMean_68 : decode cX4_bestMean 68 = .ok (.arraylength, 1) := by decide +kernel
theorem dX4_bestMean_69 : decode cX4_bestMean 69 = .ok (.if_icmp .ge 63, 3) := by decide +kernel
theorem dX4_bestMean_72 : decode cX4_bestMean 72 = .ok (.aload_n 0, 1) := by decide +kernel
theorem dX4_bestMean_73 : decode cX4_bestMean 73 = .ok (.getfield 38, 3) := by decide +kernel
theorem dX4_bestMean_76 : decode cX4_bestMean 76 = .ok (.iload 9, 2) := by decide +kernel
theorem dX4_bestMean_78 : decode cX4_bestMean 78 = .ok (.laload, 1) := by decide +kernel
theorem dX4_bestMean_79 : decode cX4_bestMean 79 = .ok (.lstore 10, 2) := by decide +kernel
theorem dX4_bestMean_81 : decode cX4_bestMean 81 = .ok (.iload_n 3, 1) := by decide +kernel
theorem dX4_bestMean_82 : decode cX4_bestMean 82 = .ok (.i2l, 1) := by decide +kernel
theorem dX4_bestMean_83 : decode cX4_bestMean 83 = .ok (.aload_n 0, 1) := by decide +kernel
theorem dX4_bestMean_84 : decode cX4_bestMean 84 = .ok (.getfield 38, 3) := by decide +kernel
theorem dX4_bestMean_87 : decode cX4_bestMean 87 = .ok (.iload 9, 2) := by decide +kernel
theorem dX4_bestMean_89 : decode cX4_bestMean 89 = .ok (.iconst 1, 1) := by decide +kernel
theorem dX4_bestMean_90 : decode cX4_bestMean 90 = .ok (.iadd, 1) := by decide +kernel
theorem dX4_bestMean_91 : decode cX4_bestMean 91 = .ok (.laload, 1) := by decide +kernel
theorem dX4_bestMean_92 : decode cX4_bestMean 92 = .ok (.lmul, 1) := by decide +kernel
theorem dX4_bestMean_93 : decode cX4_bestMean 93 = .ok (.bipush 10, 2) := by decide +kernel
theorem dX4_bestMean_95 : decode cX4_bestMean 95 = .ok (.iload_n 3, 1) := by decide +kernel
theorem dX4_bestMean_96 : decode cX4_bestMean 96 = .ok (.isub, 1) := by decide +kernel
theorem dX4_bestMean_97 : decode cX4_bestMean 97 = .ok (.i2l, 1) := by decide +kernel
theorem dX4_bestMean_98 : decode cX4_bestMean 98 = .ok (.lload 7, 2) := by decide +kernel
theorem dX4_bestMean_100 : decode cX4_bestMean 100 = .ok (.lmul, 1) := by decide +kernel
theorem dX4_bestMean_101 : decode cX4_bestMean 101 = .ok (.ladd, 1) := by decide +kernel
theorem dX4_bestMean_102 : decode cX4_bestMean 102 = .ok (.lstore 12, 2) := by decide +kernel
theorem dX4_bestMean_104 : decode cX4_bestMean 104 = .ok (.aload_n 0, 1) := by decide +kernel
theorem dX4_bestMean_105 : decode cX4_bestMean 105 = .ok (.getfield 38, 3) := by decide +kernel
theorem dX4_bestMean_108 : decode cX4_bestMean 108 = .ok (.iload 9, 2) := by decide +kernel
theorem dX4_bestMean_110 : decode cX4_bestMean 110 = .ok (.iload 9, 2) := by decide +kernel
theorem dX4_bestMean_112 : decode cX4_bestMean 112 = .ok (.i2l, 1) := by decide +kernel
theorem dX4_bestMean_113 : decode cX4_bestMean 113 = .ok (.lload 4, 2) := by decide +kernel
theorem dX4_bestMean_115 : decode cX4_bestMean 115 = .ok (.lmul, 1) := by decide +kernel
theorem dX4_bestMean_116 : decode cX4_bestMean 116 = .ok (.lload 12, 2) := by decide +kernel
theorem dX4_bestMean_118 : decode cX4_bestMean 118 = .ok (.invokestatic 228, 3) := by decide +kernel
theorem dX4_bestMean_121 : decode cX4_bestMean 121 = .ok (.lastore, 1) := by decide +kernel
theorem dX4_bestMean_122 : decode cX4_bestMean 122 = .ok (.lload 10, 2) := by decide +kernel
theorem dX4_bestMean_124 : decode cX4_bestMean 124 = .ok (.lstore 7, 2) := by decide +kernel
theorem dX4_bestMean_126 : decode cX4_bestMean 126 = .ok (.iinc 9 1, 3) := by decide +kernel
theorem dX4_bestMean_129 : decode cX4_bestMean 129 = .ok (.goto (-69), 3) := by decide +kernel
theorem dX4_bestMean_132 : decode cX4_bestMean 132 = .ok (.iinc 6 1, 3) := by decide +kernel
theorem dX4_bestMean_135 : decode cX4_bestMean 135 = .ok (.goto (-100), 3) := by decide +kernel
theorem dX4_bestMean_138 : decode cX4_bestMean 138 = .ok (.iload_n 1, 1) := by decide +kernel
theorem dX4_bestMean_139 : decode cX4_bestMean 139 = .ok (.iconst 0, 1) := by decide +kernel
theorem dX4_bestMean_140 : decode cX4_bestMean 140 = .ok (.aload_n 0, 1) := by decide +kernel
theorem dX4_bestMean_141 : decode cX4_bestMean 141 = .ok (.getfield 38, 3) := by decide +kernel
theorem dX4_bestMean_144 : decode cX4_bestMean 144 = .ok (.arraylength, 1) := by decide +kernel
theorem dX4_bestMean_145 : decode cX4_bestMean 145 = .ok (.iconst 1, 1) := by decide +kernel
theorem dX4_bestMean_146 : decode cX4_bestMean 146 = .ok (.isub, 1) := by decide +kernel
theorem dX4_bestMean_147 : decode cX4_bestMean 147 = .ok (.invokestatic 46, 3) := by decide +kernel
theorem dX4_bestMean_150 : decode cX4_bestMean 150 = .ok (.ifCond .eq 12, 3) := by decide +kernel
theorem dX4_bestMean_153 : decode cX4_bestMean 153 = .ok (.aload_n 0, 1) := by decide +kernel
theorem dX4_bestMean_154 : decode cX4_bestMean 154 = .ok (.getfield 38, 3) := by decide +kernel
theorem dX4_bestMean_157 : decode cX4_bestMean 157 = .ok (.iload_n 1, 1) := by decide +kernel
theorem dX4_bestMean_158 : decode cX4_bestMean 158 = .ok (.laload, 1) := by decide +kernel
theorem dX4_bestMean_159 : decode cX4_bestMean 159 = .ok (.goto 4, 3) := by decide +kernel
theorem dX4_bestMean_162 : decode cX4_bestMean 162 = .ok (.lconst 0, 1) := by decide +kernel
theorem dX4_bestMean_163 : decode cX4_bestMean 163 = .ok (.lreturn, 1) := by decide +kernel
theorem dX4_isWithin_0 : decode cX4_isWithin 0 = .ok (.iload_n 1, 1) := by decide +kernel
theorem dX4_isWithin_1 : decode cX4_isWithin 1 = .ok (.iload_n 0, 1) := by decide +kernel
theorem dX4_isWithin_2 : decode cX4_isWithin 2 = .ok (.if_icmp .gt 12, 3) := by decide +kernel
theorem dX4_isWithin_5 : decode cX4_isWithin 5 = .ok (.iload_n 0, 1) := by decide +kernel
theorem dX4_isWithin_6 : decode cX4_isWithin 6 = .ok (.iload_n 2, 1) := by decide +kernel
theorem dX4_isWithin_7 : decode cX4_isWithin 7 = .ok (.if_icmp .gt 7, 3) := by decide +kernel
theorem dX4_isWithin_10 : decode cX4_isWithin 10 = .ok (.iconst 1, 1) := by decide +kernel
theorem dX4_isWithin_11 : decode cX4_isWithin 11 = .ok (.goto 4, 3) := by decide +kernel
theorem dX4_isWithin_14 : decode cX4_isWithin 14 = .ok (.iconst 0, 1) := by decide +kernel
theorem dX4_isWithin_15 : decode cX4_isWithin 15 = .ok (.ireturn, 1) := by decide +kernel
set_option maxRecDepth 20000 in
theorem ggX4_isWord_X4_isWithin : GoodIn wsX4_isWord wsX4_isWithin := goodIn_r _ [4] (by decide +kernel) (by decide +kernel)
set_option maxRecDepth 20000 in
theorem gX4_isWord_X4_isWithin : GoodIn wsX4_isWord (va_wsS RX4 46 yX4_isWithin wsX4_isWithin) := goodIn_app (goodIn_of _ (by decide +kernel)) ggX4_isWord_X4_isWithin
theorem dX4_isWord_0 : decode cX4_isWord 0 = .ok (.iload_n 0, 1) := by decide +kernel
theorem dX4_isWord_1 : decode cX4_isWord 1 = .ok (.iconst 0, 1) := by decide +kernel
theorem dX4_isWord_2 : decode cX4_isWord 2 = .ok (.bipush 11, 2) := by decide +kernel
theorem dX4_isWord_4 : decode cX4_isWord 4 = .ok (.invokestatic 46, 3) := by decide +kernel
theorem dX4_isWord_7 : decode cX4_isWord 7 = .ok (.ireturn, 1) := by decide +kernel
set_option maxRecDepth 20000 in
theorem ggX4_isSpeaker_X4_isWithin : GoodIn wsX4_isSpeaker wsX4_isWithin := goodIn_r _ [4] (by decide +kernel) (by decide +kernel)
set_option maxRecDepth 20000 in
theorem gX4_isSpeaker_X4_isWithin : GoodIn wsX4_isSpeaker (va_wsS RX4 46 yX4_isWithin wsX4_isWithin) := goodIn_app (goodIn_of _ (by decide +kernel)) ggX4_isSpeaker_X4_isWithin
theorem dX4_isSpeaker_0 : decode cX4_isSpeaker 0 = .ok (.iload_n 0, 1) := by decide +kernel
theorem dX4_isSpeaker_1 : decode cX4_isSpeaker 1 = .ok (.iconst 0, 1) := by decide +kernel
theorem dX4_isSpeaker_2 : decode cX4_isSpeaker 2 = .ok (.iconst 3, 1) := by decide +kernel
theorem dX4_isSpeaker_3 : decode cX4_isSpeaker 3 = .ok (.invokestatic 46, 3) := by decide +kernel
theorem dX4_isSpeaker_6 : decode cX4_isSpeaker 6 = .ok (.ireturn, 1) := by decide +kernel
set_option maxRecDepth 20000 in
theorem ggX4_isSet_X4_isWithin : GoodIn wsX4_isSet wsX4_isWithin := goodIn_r _ [4] (by decide +kernel) (by decide +kernel)
set_option maxRecDepth 20000 in
theorem gX4_isSet_X4_isWithin : GoodIn wsX4_isSet (va_wsS RX4 46 yX4_isWithin wsX4_isWithin) := goodIn_app (goodIn_of _ (by decide +kernel)) ggX4_isSet_X4_isWithin
theorem dX4_isSet_0 : decode cX4_isSet 0 = .ok (.iload_n 0, 1) := by decide +kernel
theorem dX4_isSet_1 : decode cX4_isSet 1 = .ok (.iconst 0, 1) := by decide +kernel
theorem dX4_isSet_2 : decode cX4_isSet 2 = .ok (.sipush 4095, 3) := by decide +kernel
theorem dX4_isSet_5 : decode cX4_isSet 5 = .ok (.invokestatic 46, 3) := by decide +kernel
theorem dX4_isSet_8 : decode cX4_isSet 8 = .ok (.ireturn, 1) := by decide +kernel
theorem dX4_isIn_0 : decode cX4_isIn 0 = .ok (.iload_n 1, 1) := by decide +kernel
theorem dX4_isIn_1 : decode cX4_isIn 1 = .ok (.iload_n 0, 1) := by decide +kernel
theorem dX4_isIn_2 : decode cX4_isIn 2 = .ok (.ishr, 1) := by decide +kernel
theorem dX4_isIn_3 : decode cX4_isIn 3 = .ok (.iconst 1, 1) := by decide +kernel
theorem dX4_isIn_4 : decode cX4_isIn 4 = .ok (.iand, 1) := by decide +kernel
theorem dX4_isIn_5 : decode cX4_isIn 5 = .ok (.iconst 1, 1) := by decide +kernel
theorem dX4_isIn_6 : decode cX4_isIn 6 = .ok (.if_icmp .ne 7, 3) := by decide +kernel
theorem dX4_isIn_9 : decode cX4_isIn 9 = .ok (.iconst 1, 1) := by decide +kernel
theorem dX4_isIn_10 : decode cX4_isIn 10 = .ok (.goto 4, 3) := by decide +kernel
theorem dX4_isIn_13 : decode cX4_isIn 13 = .ok (.iconst 0, 1) := by decide +kernel
theorem dX4_isIn_14 : decode cX4_isIn 14 = .ok (.ireturn, 1) := by decide +kernel
theorem dX4_power_0 : decode cX4_power 0 = .ok (.lconst 1, 1) := by decide +kernel
theorem dX4_power_1 : decode cX4_power 1 = .ok (.lstore_n 3, 1) := by decide +kernel
theorem dX4_power_2 : decode cX4_power 2 = .ok (.iconst 0, 1) := by decide +kernel
theorem dX4_power_3 : decode cX4_power 3 = .ok (.istore 5, 2) := by decide +kernel
theorem dX4_power_5 : decode cX4_power 5 = .ok (.iload 5, 2) := by decide +kernel
theorem dX4_power_7 : decode cX4_power 7 = .ok (.iload_n 2, 1) := by decide +kernel
theorem dX4_power_8 : decode cX4_power 8 = .ok (.if_icmp .ge 13, 3) := by decide +kernel
theorem dX4_power_11 : decode cX4_power 11 = .ok (.lload_n 3, 1) := by decide +kernel
theorem dX4_power_12 : decode cX4_power 12 = .ok (.lload_n 0, 1) := by decide +kernel
theorem dX4_power_13 : decode cX4_power 13 = .ok (.lmul, 1) := by decide +kernel
theorem dX4_power_14 : decode cX4_power 14 = .ok (.lstore_n 3, 1) := by decide +kernel
theorem dX4_power_15 : decode cX4_power 15 = .ok (.iinc 5 1, 3) := by decide +kernel
theorem dX4_power_18 : decode cX4_power 18 = .ok (.goto (-13), 3) := by decide +kernel
theorem dX4_power_21 : decode cX4_power 21 = .ok (.lload_n 3, 1) := by decide +kernel
theorem dX4_power_22 : decode cX4_power 22 = .ok (.lreturn, 1) := by decide +kernel
theorem dX4_sumOf_0 : decode cX4_sumOf 0 = .ok (.iconst 0, 1) := by decide +kernel
theorem dX4_sumOf_1 : decode cX4_sumOf 1 = .ok (.istore_n 1, 1) := by decide +kernel
theorem dX4_sumOf_2 : decode cX4_sumOf 2 = .ok (.iconst 0, 1) := by decide +kernel
theorem dX4_sumOf_3 : decode cX4_sumOf 3 = .ok (.istore_n 2, 1) := by decide +kernel
theorem dX4_sumOf_4 : decode cX4_sumOf 4 = .ok (.iload_n 2, 1) := by decide +kernel
theorem dX4_sumOf_5 : decode cX4_sumOf 5 = .ok (.aload_n 0, 1) := by decide +kernel
theorem dX4_sumOf_6 : decode cX4_sumOf 6 = .ok (.arraylength, 1) := by decide +kernel
theorem dX4_sumOf_7 : decode cX4_sumOf 7 = .ok (.if_icmp .ge 15, 3) := by decide +kernel
theorem dX4_sumOf_10 : decode cX4_sumOf 10 = .ok (.iload_n 1, 1) := by decide +kernel
theorem dX4_sumOf_11 : decode cX4_sumOf 11 = .ok (.aload_n 0, 1) := by decide +kernel
theorem dX4_sumOf_12 : decode cX4_sumOf 12 = .ok (.iload_n 2, 1) := by decide +kernel
theorem dX4_sumOf_13 : decode cX4_sumOf 13 = .ok (.iaload, 1) := by decide +kernel
theorem dX4_sumOf_14 : decode cX4_sumOf 14 = .ok (.iadd, 1) := by decide +kernel
theorem dX4_sumOf_15 : decode cX4_sumOf 15 = .ok (.istore_n 1, 1) := by decide +kernel
theorem dX4_sumOf_16 : decode cX4_sumOf 16 = .ok (.iinc 2 1, 3) := by decide +kernel
theorem dX4_sumOf_19 : decode cX4_sumOf 19 = .ok (.goto (-15), 3) := by decide +kernel
theorem dX4_sumOf_22 : decode cX4_sumOf 22 = .ok (.iload_n 1, 1) := by decide +kernel
theorem dX4_sumOf_23 : decode cX4_sumOf 23 = .ok (.ireturn, 1) := by decide +kernel
theorem dX4_copyRow_0 : decode cX4_copyRow 0 = .ok (.iconst 0, 1) := by decide +kernel
theorem dX4_copyRow_1 : decode cX4_copyRow 1 = .ok (.istore_n 2, 1) := by decide +kernel
theorem dX4_copyRow_2 : decode cX4_copyRow 2 = .ok (.iload_n 2, 1) := by decide +kernel
theorem dX4_copyRow_3 : decode cX4_copyRow 3 = .ok (.aload_n 0, 1) := by decide +kernel
theorem dX4_copyRow_4 : decode cX4_copyRow 4 = .ok (.arraylength, 1) := by decide +kernel
theorem dX4_copyRow_5 : decode cX4_copyRow 5 = .ok (.if_icmp .ge 21, 3) := by decide +kernel
theorem dX4_copyRow_8 : decode cX4_copyRow 8 = .ok (.iload_n 2, 1) := by decide +kernel
theorem dX4_copyRow_9 : decode cX4_copyRow 9 = .ok (.aload_n 1, 1) := by decide +kernel
theorem dX4_copyRow_10 : decode cX4_copyRow 10 = .ok (.arraylength, 1) := by decide +kernel
theorem dX4_copyRow_11 : decode cX4_copyRow 11 = .ok (.if_icmp .ge 15, 3) := by decide +kernel
theorem dX4_copyRow_14 : decode cX4_copyRow 14 = .ok (.aload_n 1, 1) := by decide +kernel
theorem dX4_copyRow_15 : decode cX4_copyRow 15 = .ok (.iload_n 2, 1) := by decide +kernel
theorem dX4_copyRow_16 : decode cX4_copyRow 16 = .ok (.aload_n 0, 1) := by decide +kernel
theorem dX4_copyRow_17 : decode cX4_copyRow 17 = .ok (.iload_n 2, 1) := by decide +kernel
theorem dX4_copyRow_18 : decode cX4_copyRow 18 = .ok (.iaload, 1) := by decide +kernel
theorem dX4_copyRow_19 : decode cX4_copyRow 19 = .ok (.iastore, 1) := by decide +kernel
theorem dX4_copyRow_20 : decode cX4_copyRow 20 = .ok (.iinc 2 1, 3) := by decide +kernel
theorem dX4_copyRow_23 : decode cX4_copyRow 23 = .ok (.goto (-21), 3) := by decide +kernel
theorem dX4_copyRow_26 : decode cX4_copyRow 26 = .ok (.return_, 1) := by decide +kernel
theorem dX5_init_0 : decode cX5_init 0 = .ok (.aload_n 0, 1) := by decide +kernel
theorem dX5_init_1 : decode cX5_init 1 = .ok (.invokespecial 1, 3) := by decide +kernel
theorem dX5_init_4 : decode cX5_init 4 = .ok (.aload_n 0, 1) := by decide +kernel
theorem dX5_init_5 : decode cX5_init 5 = .ok (.bipush 12, 2) := by decide +kernel
theorem dX5_init_7 : decode cX5_init 7 = .ok (.newarray .int, 2) := by decide +kernel
theorem dX5_init_9 : decode cX5_init 9 = .ok (.putfield 7, 3) := by decide +kernel
theorem dX5_init_12 : decode cX5_init 12 = .ok (.aload_n 0, 1) := by decide +kernel
theorem dX5_init_13 : decode cX5_init 13 = .ok (.bipush 12, 2) := by decide +kernel
theorem dX5_init_15 : decode cX5_init 15 = .ok (.newarray .int, 2) := by decide +kernel
theorem dX5_init_17 : decode cX5_init 17 = .ok (.putfield 13, 3) := by decide +kernel
theorem dX5_init_20 : decode cX5_init 20 = .ok (.aload_n 0, 1) := by decide +kernel
theorem dX5_init_21 : decode cX5_init 21 = .ok (.bipush 12, 2) := by decide +kernel
theorem dX5_init_23 : decode cX5_init 23 = .ok (.newarray .int, 2) := by decide +kernel
theorem dX5_init_25 : decode cX5_init 25 = .ok (.putfield 16, 3) := by decide +kernel
theorem dX5_init_28 : decode cX5_init 28 = .ok (.aload_n 0, 1) := by decide +kernel
theorem dX5_init_29 : decode cX5_init 29 = .ok (.iconst 4, 1) := by decide +kernel
theorem dX5_init_30 : decode cX5_init 30 = .ok (.newarray .int, 2) := by decide +kernel
theorem dX5_init_32 : decode cX5_init 32 = .ok (.putfield 19, 3) := by decide +kernel
theorem dX5_init_35 : decode cX5_init 35 = .ok (.aload_n 0, 1) := by decide +kernel
theorem dX5_init_36 : decode cX5_init 36 = .ok (.iconst 4, 1) := by decide +kernel
theorem dX5_init_37 : decode cX5_init 37 = .ok (.newarray .int, 2) := by decide +kernel
theorem dX5_init_39 : decode cX5_init 39 = .ok (.putfield 22, 3) := by decide +kernel
theorem dX5_init_42 : decode cX5_init 42 = .ok (.aload_n 0, 1) := by decide +kernel
theorem dX5_init_43 : decode cX5_init 43 = .ok (.bipush 8, 2) := by decide +kernel
theorem dX5_init_45 : decode cX5_init 45 = .ok (.newarray .int, 2) := by decide +kernel
theorem dX5_init_47 : decode cX5_init 47 = .ok (.putfield 25, 3) := by decide +kernel
theorem dX5_init_50 : decode cX5_init 50 = .ok (.aload_n 0, 1) := by decide +kernel
theorem dX5_init_51 : decode cX5_init 51 = .ok (.bipush 6, 2) := by decide +kernel
theorem dX5_init_53 : decode cX5_init 53 = .ok (.newarray .int, 2) := by decide +kernel
theorem dX5_init_55 : decode cX5_init 55 = .ok (.putfield 28, 3) := by decide +kernel
theorem dX5_init_58 : decode cX5_init 58 = .ok (.aload_n 0, 1) := by decide +kernel
theorem dX5_init_59 : decode cX5_init 59 = .ok (.bipush 6, 2) := by decide +kernel
theorem dX5_init_61 : decode cX5_init 61 = .ok (.newarray .int, 2) := by decide +kernel
theorem dX5_init_63 : decode cX5_init 63 = .ok (.putfield 31, 3) := by decide +kernel
theorem dX5_init_66 : decode cX5_init 66 = .ok (.aload_n 0, 1) := by decide +kernel
theorem dX5_init_67 : decode cX5_init 67 = .ok (.bipush 6, 2) := by decide +kernel
theorem dX5_init_69 : decode cX5_init 69 = .ok (.newarray .int, 2) := by decide +kernel
theorem dX5_init_71 : decode cX5_init 71 = .ok (.putfield 34, 3) := by decide +kernel
theorem dX5_init_74 : decode cX5_init 74 = .ok (.aload_n 0, 1) := by decide +kernel
theorem dX5_init_75 : decode cX5_init 75 = .ok (.bipush 60, 2) := by decide +kernel
theorem dX5_init_77 : decode cX5_init 77 = .ok (.newarray .int, 2) := by decide +kernel
theorem dX5_init_79 : decode cX5_init 79 = .ok (.putfield 37, 3) := by decide +kernel
theorem dX5_init_82 : decode cX5_init 82 = .ok (.aload_n 0, 1) := by decide +kernel
theorem dX5_init_83 : decode cX5_init 83 = .ok (.bipush 60, 2) := by decide +kernel
theorem dX5_init_85 : decode cX5_init 85 = .ok (.newarray .int, 2) := by decide +kernel
theorem dX5_init_87 : decode cX5_init 87 = .ok (.putfield 40, 3) := by decide +kernel
theorem dX5_init_90 : decode cX5_init 90 = .ok (.aload_n 0, 1) := by decide +kernel
theorem dX5_init_91 : decode cX5_init 91 = .ok (.bipush 60, 2) := by decide +kernel
theorem dX5_init_93 : decode cX5_init 93 = .ok (.newarray .int, 2) := by decide +kernel
theorem dX5_init_95 : decode cX5_init 95 = .ok (.putfield 43, 3) := by decide +kernel
theorem dX5_init_98 : decode cX5_init 98 = .ok (.aload_n 0, 1) := by decide +kernel
theorem dX5_init_99 : decode cX5_init 99 = .ok (.bipush 60, 2) := by decide +kernel
theorem dX5_init_101 : decode cX5_init 101 = .ok (.newarray .int, 2) := by decide +kernel
theorem dX5_init_103 : decode cX5_init 103 = .ok (.putfield 46, 3) := by decide +kernel
theorem dX5_init_106 : decode cX5_init 106 = .ok (.aload_n 0, 1) := by decide +kernel
theorem dX5_init_107 : decode cX5_init 107 = .ok (.bipush 60, 2) := by decide +kernel
theorem dX5_init_109 : decode cX5_init 109 = .ok (.newarray .int, 2) := by decide +kernel
theorem dX5_init_111 : decode cX5_init 111 = .ok (.putfield 49, 3) := by decide +kernel
theorem dX5_init_114 : decode cX5_init 114 = .ok (.aload_n 0, 1) := by decide +kernel
theorem dX5_init_115 : decode cX5_init 115 = .ok (.bipush 20, 2) := by decide +kernel
theorem dX5_init_117 : decode cX5_init 117 = .ok (.newarray .int, 2) := by decide +kernel
theorem dX5_init_119 : decode cX5_init 119 = .ok (.putfield 52, 3) := by decide +kernel
theorem dX5_init_122 : decode cX5_init 122 = .ok (.aload_n 0, 1) := by decide +kernel
theorem dX5_init_123 : decode cX5_init 123 = .ok (.bipush 50, 2) := by decide +kernel
theorem dX5_init_125 : decode cX5_init 125 = .ok (.newarray .long, 2) := by decide +kernel
theorem dX5_init_127 : decode cX5_init 127 = .ok (.putfield 55, 3) := by decide +kernel
theorem dX5_init_130 : decode cX5_init 130 = .ok (.aload_n 0, 1) := by decide +kernel
theorem dX5_init_131 : decode cX5_init 131 = .ok (.bipush 50, 2) := by decide +kernel
theorem dX5_init_133 : decode cX5_init 133 = .ok (.newarray .long, 2) := by decide +kernel
theorem dX5_init_135 : decode cX5_init 135 = .ok (.putfield 59, 3) := by decide +kernel
theorem dX5_init_138 : decode cX5_init 138 = .ok (.aload_n 0, 1) := by decide +kernel
theorem dX5_init_139 : decode cX5_init 139 = .ok (.sipush 180, 3) := by decide +kernel
theorem dX5_init_142 : decode cX5_init 142 = .ok (.newarray .int, 2) := by decide +kernel
theorem dX5_init_144 : decode cX5_init 144 = .ok (.putfield 62, 3) := by decide +kernel
theorem dX5_init_147 : decode cX5_init 147 = .ok (.aload_n 0, 1) := by decide +kernel
theorem dX5_init_148 : decode cX5_init 148 = .ok (.iconst 2, 1) := by decide +kernel
theorem dX5_init_149 : decode cX5_init 149 = .ok (.newarray .boolean, 2) := by decide +kernel
theorem dX5_init_151 : decode cX5_init 151 = .ok (.putfield 65, 3) := by decide +kernel
theorem dX5_init_154 : decode cX5_init 154 = .ok (.iconst 0, 1) := by decide +kernel
theorem dX5_init_155 : decode cX5_init 155 = .ok (.istore_n 1, 1) := by decide +kernel
theorem dX5_init_156 : decode cX5_init 156 = .ok (.iload_n 1, 1) := by decide +kernel
theorem dX5_init_157 : decode cX5_init 157 = .ok (.bipush 12, 2) := by decide +kernel
theorem dX5_init_159 : decode cX5_init 159 = .ok (.if_icmp .ge 24, 3) := by decide +kernel
theorem dX5_init_162 : decode cX5_init 162 = .ok (.aload_n 0, 1) := by decide +kernel
theorem dX5_init_163 : decode cX5_init 163 = .ok (.getfield 7, 3) := by decide +kernel
theorem dX5_init_166 : decode cX5_init 166 = .ok (.iload_n 1, 1) := by decide +kernel
theorem dX5_init_167 : decode cX5_init 167 = .ok (.bipush 10, 2) := by decide +kernel
theorem dX5_init_169 : decode cX5_init 169 = .ok (.iastore, 1) := by decide +kernel
theorem dX5_init_170 : decode cX5_init 170 = .ok (.aload_n 0, 1) := by decide +kernel
theorem dX5_init_171 : decode cX5_init 171 = .ok (.getfield 16, 3) := by decide +kernel
theorem dX5_init_174 : decode cX5_init 174 = .ok (.iload_n 1, 1) := by decide +kernel
theorem dX5_init_175 : decode cX5_init 175 = .ok (.iload_n 1, 1) := by decide +kernel
theorem dX5_init_176 : decode cX5_init 176 = .ok (.iastore, 1) := by decide +kernel
theorem dX5_init_177 : decode cX5_init 177 = .ok (.iinc 1 1, 3) := by decide +kernel
theorem dX5_init_180 : decode cX5_init 180 = .ok (.goto (-24), 3) := by decide +kernel
theorem dX5_init_183 : decode cX5_init 183 = .ok (.iconst 0, 1) := by decide +kernel
theorem dX5_init_184 : decode cX5_init 184 = .ok (.istore_n 1, 1) := by decide +kernel
theorem dX5_init_185 : decode cX5_init 185 = .ok (.iload_n 1, 1) := by decide +kernel
theorem dX5_init_186 : decode cX5_init 186 = .ok (.iconst 4, 1) := by decide +kernel
theorem dX5_init_187 : decode cX5_init 187 = .ok (.if_icmp .ge 17, 3) := by decide +kernel
theorem dX5_init_190 : decode cX5_init 190 = .ok (.aload_n 0, 1) := by decide +kernel
theorem dX5_init_191 : decode cX5_init 191 = .ok (.getfield 19, 3) := by decide +kernel
theorem dX5_init_194 : decode cX5_init 194 = .ok (.iload_n 1, 1) := by decide +kernel
theorem dX5_init_195 : decode cX5_init 195 = .ok (.bipush 50, 2) := by decide +kernel
theorem dX5_init_197 : decode cX5_init 197 = .ok (.iastore, 1) := by decide +kernel
theorem dX5_init_198 : decode cX5_init 198 = .ok (.iinc 1 1, 3) := by decide +kernel
theorem dX5_init_201 : decode cX5_init 201 = .ok (.goto (-16), 3) := by decide +kernel
theorem dX5_init_204 : decode cX5_init 204 = .ok (.return_, 1) := by decide +kernel
theorem dX5_in_0 : decode cX5_in 0 = .ok (.lload_n 0, 1) := by decide +kernel
theorem dX5_in_1 : decode cX5_in 1 = .ok (.lload_n 2, 1) := by decide +kernel
theorem dX5_in_2 : decode cX5_in 2 = .ok (.lcmp, 1) := by decide +kernel
theorem dX5_in_3 : decode cX5_in 3 = .ok (.ifCond .lt 14, 3) := by decide +kernel
theorem dX5_in_6 : decode cX5_in 6 = .ok (.lload_n 0, 1) := by decide +kernel
theorem dX5_in_7 : decode cX5_in 7 = .ok (.lload 4, 2) := by decide +kernel
theorem dX5_in_9 : decode cX5_in 9 = .ok (.lcmp, 1) := by decide +kernel
theorem dX5_in_10 : decode cX5_in 10 = .ok (.ifCond .gt 7, 3) := by decide +kernel
theorem dX5_in_13 : decode cX5_in 13 = .ok (.iconst 1, 1) := by decide +kernel
theorem dX5_in_14 : decode cX5_in 14 = .ok (.goto 4, 3) := by decide +kernel
theorem dX5_in_17 : decode cX5_in 17 = .ok (.iconst 0, 1) := by decide +kernel
theorem dX5_in_18 : decode cX5_in 18 = .ok (.ireturn, 1) := by decide +kernel
theorem dX5_ones_0 : decode cX5_ones 0 = .ok (.iconst 0, 1) := by decide +kernel
theorem dX5_ones_1 : decode cX5_ones 1 = .ok (.istore_n 1, 1) := by decide +kernel
theorem dX5_ones_2 : decode cX5_ones 2 = .ok (.iload_n 0, 1) := by decide +kernel
theorem dX5_ones_3 : decode cX5_ones 3 = .ok (.istore_n 2, 1) := by decide +kernel
theorem dX5_ones_4 : decode cX5_ones 4 = .ok (.iload_n 2, 1) := by decide +kernel
theorem dX5_ones_5 : decode cX5_ones 5 = .ok (.ifCond .eq 15, 3) := by decide +kernel
theorem dX5_ones_8 : decode cX5_ones 8 = .ok (.iinc 1 1, 3) := by decide +kernel
theorem dX5_ones_11 : decode cX5_ones 11 = .ok (.iload_n 2, 1) := by decide +kernel
theorem dX5_ones_12 : decode cX5_ones 12 = .ok (.iload_n 2, 1) := by decide +kernel
theorem dX5_ones_13 : decode cX5_ones 13 = .ok (.iconst 1, 1) := by decide +kernel
end
section
theorem dX5_ones_14 : decode cX5_ones 14 = .ok (.isub, 1) := by decide +kernel
theorem dX5_ones_15 : decode cX5_ones 15 = .ok (.iand, 1) := by decide +kernel
theorem dX5_ones_16 : decode cX5_ones 16 = .ok (.istore_n 2, 1) := by decide +kernel
theorem dX5_ones_17 : decode cX5_ones 17 = .ok (.goto (-13), 3) := by decide +kernel
theorem dX5_ones_20 : decode cX5_ones 20 = .ok (.iload_n 1, 1) := by decide +kernel
theorem dX5_ones_21 : decode cX5_ones 21 = .ok (.ireturn, 1) := by decide +kernel
set_option maxRecDepth 20000 in
theorem ggX5_isWord_X5_in : GoodIn wsX5_isWord wsX5_in := goodIn_r _ [5] (by decide +kernel) (by decide +kernel)
set_option maxRecDepth 20000 in
theorem gX5_isWord_X5_in : GoodIn wsX5_isWord (va_wsS RX5 71 yX5_in wsX5_in) := goodIn_app (goodIn_of _ (by decide +kernel)) ggX5_isWord_X5_in
theorem dX5_isWord_0 : decode cX5_isWord 0 = .ok (.iload_n 0, 1) := by decide +kernel
theorem dX5_isWord_1 : decode cX5_isWord 1 = .ok (.i2l, 1) := by decide +kernel
theorem dX5_isWord_2 : decode cX5_isWord 2 = .ok (.lconst 0, 1) := by decide +kernel
theorem dX5_isWord_3 : decode cX5_isWord 3 = .ok (.ldc2_w 69, 3) := by decide +kernel
theorem dX5_isWord_6 : decode cX5_isWord 6 = .ok (.invokestatic 71, 3) := by decide +kernel
theorem dX5_isWord_9 : decode cX5_isWord 9 = .ok (.ireturn, 1) := by decide +kernel
set_option maxRecDepth 20000 in
theorem ggX5_isSpeaker_X5_in : GoodIn wsX5_isSpeaker wsX5_in := goodIn_r _ [5] (by decide +kernel) (by decide +kernel)
set_option maxRecDepth 20000 in
theorem gX5_isSpeaker_X5_in : GoodIn wsX5_isSpeaker (va_wsS RX5 71 yX5_in wsX5_in) := goodIn_app (goodIn_of _ (by decide +kernel)) ggX5_isSpeaker_X5_in
theorem dX5_isSpeaker_0 : decode cX5_isSpeaker 0 = .ok (.iload_n 0, 1) := by decide +kernel
theorem dX5_isSpeaker_1 : decode cX5_isSpeaker 1 = .ok (.i2l, 1) := by decide +kernel
theorem dX5_isSpeaker_2 : decode cX5_isSpeaker 2 = .ok (.lconst 0, 1) := by decide +kernel
theorem dX5_isSpeaker_3 : decode cX5_isSpeaker 3 = .ok (.ldc2_w 75, 3) := by decide +kernel
theorem dX5_isSpeaker_6 : decode cX5_isSpeaker 6 = .ok (.invokestatic 71, 3) := by decide +kernel
theorem dX5_isSpeaker_9 : decode cX5_isSpeaker 9 = .ok (.ireturn, 1) := by decide +kernel
set_option maxRecDepth 20000 in
theorem ggX5_word_X5_isWord : GoodIn wsX5_word wsX5_isWord := goodIn_r _ [8, 9, 10, 11, 7, 12] (by decide +kernel) (by decide +kernel)
set_option maxRecDepth 20000 in
theorem gX5_word_X5_isWord : GoodIn wsX5_word (va_wsS RX5 77 yX5_isWord wsX5_isWord) := goodIn_app (goodIn_of _ (by decide +kernel)) ggX5_word_X5_isWord
set_option maxRecDepth 20000 in
theorem ggX5_word_X5_in : GoodIn wsX5_word wsX5_in := goodIn_r _ [12] (by decide +kernel) (by decide +kernel)
set_option maxRecDepth 20000 in
theorem gX5_word_X5_in : GoodIn wsX5_word (va_wsS RX5 71 yX5_in wsX5_in) := goodIn_app (goodIn_of _ (by decide +kernel)) ggX5_word_X5_in
theorem dX5_word_0 : decode cX5_word 0 = .ok (.iload_n 1, 1) := by decide +kernel
theorem dX5_word_1 : decode cX5_word 1 = .ok (.invokestatic 77, 3) := by decide +kernel
theorem dX5_word_4 : decode cX5_word 4 = .ok (.ifCond .ne 5, 3) := by decide +kernel
theorem dX5_word_7 : decode cX5_word 7 = .ok (.iconst (-1), 1) := by decide +kernel
theorem dX5_word_8 : decode cX5_word 8 = .ok (.ireturn, 1) := by decide +kernel
theorem dX5_word_9 : decode cX5_word 9 = .ok (.iload_n 2, 1) := by decide +kernel
theorem dX5_word_10 : decode cX5_word 10 = .ok (.i2l, 1) := by decide +kernel
theorem dX5_word_11 : decode cX5_word 11 = .ok (.lconst 0, 1) := by decide +kernel
theorem dX5_word_12 : decode cX5_word 12 = .ok (.ldc2_w 81, 3) := by decide +kernel
theorem dX5_word_15 : decode cX5_word 15 = .ok (.invokestatic 71, 3) := by decide +kernel
theorem dX5_word_18 : decode cX5_word 18 = .ok (.ifCond .eq 15, 3) := by decide +kernel
theorem dX5_word_21 : decode cX5_word 21 = .ok (.iload_n 3, 1) := by decide +kernel
theorem dX5_word_22 : decode cX5_word 22 = .ok (.i2l, 1) := by decide +kernel
theorem dX5_word_23 : decode cX5_word 23 = .ok (.lconst 0, 1) := by decide +kernel
theorem dX5_word_24 : decode cX5_word 24 = .ok (.ldc2_w 83, 3) := by decide +kernel
theorem dX5_word_27 : decode cX5_word 27 = .ok (.invokestatic 71, 3) := by decide +kernel
theorem dX5_word_30 : decode cX5_word 30 = .ok (.ifCond .ne 6, 3) := by decide +kernel
theorem dX5_word_33 : decode cX5_word 33 = .ok (.bipush (-2), 2) := by decide +kernel
theorem dX5_word_35 : decode cX5_word 35 = .ok (.ireturn, 1) := by decide +kernel
theorem dX5_word_36 : decode cX5_word 36 = .ok (.aload_n 0, 1) := by decide +kernel
theorem dX5_word_37 : decode cX5_word 37 = .ok (.getfield 7, 3) := by decide +kernel
theorem dX5_word_40 : decode cX5_word 40 = .ok (.iload_n 1, 1) := by decide +kernel
theorem dX5_word_41 : decode cX5_word 41 = .ok (.iaload, 1) := by decide +kernel
theorem dX5_word_42 : decode cX5_word 42 = .ok (.istore 4, 2) := by decide +kernel
theorem dX5_word_44 : decode cX5_word 44 = .ok (.aload_n 0, 1) := by decide +kernel
theorem dX5_word_45 : decode cX5_word 45 = .ok (.getfield 7, 3) := by decide +kernel
theorem dX5_word_48 : decode cX5_word 48 = .ok (.iload_n 1, 1) := by decide +kernel
theorem dX5_word_49 : decode cX5_word 49 = .ok (.iload_n 2, 1) := by decide +kernel
theorem dX5_word_50 : decode cX5_word 50 = .ok (.iastore, 1) := by decide +kernel
theorem dX5_word_51 : decode cX5_word 51 = .ok (.aload_n 0, 1) := by decide +kernel
theorem dX5_word_52 : decode cX5_word 52 = .ok (.getfield 13, 3) := by decide +kernel
theorem dX5_word_55 : decode cX5_word 55 = .ok (.iload_n 1, 1) := by decide +kernel
theorem dX5_word_56 : decode cX5_word 56 = .ok (.iload_n 3, 1) := by decide +kernel
theorem dX5_word_57 : decode cX5_word 57 = .ok (.iastore, 1) := by decide +kernel
theorem dX5_word_58 : decode cX5_word 58 = .ok (.iload 4, 2) := by decide +kernel
theorem dX5_word_60 : decode cX5_word 60 = .ok (.ireturn, 1) := by decide +kernel
theorem dX5_rhymesOf_0 : decode cX5_rhymesOf 0 = .ok (.iconst 0, 1) := by decide +kernel
theorem dX5_rhymesOf_1 : decode cX5_rhymesOf 1 = .ok (.istore_n 2, 1) := by decide +kernel
theorem dX5_rhymesOf_2 : decode cX5_rhymesOf 2 = .ok (.iconst 0, 1) := by decide +kernel
theorem dX5_rhymesOf_3 : decode cX5_rhymesOf 3 = .ok (.istore_n 3, 1) := by decide +kernel
theorem dX5_rhymesOf_4 : decode cX5_rhymesOf 4 = .ok (.iload_n 3, 1) := by decide +kernel
theorem dX5_rhymesOf_5 : decode cX5_rhymesOf 5 = .ok (.bipush 12, 2) := by decide +kernel
theorem dX5_rhymesOf_7 : decode cX5_rhymesOf 7 = .ok (.if_icmp .ge 39, 3) := by decide +kernel
theorem dX5_rhymesOf_10 : decode cX5_rhymesOf 10 = .ok (.iload_n 2, 1) := by decide +kernel
theorem dX5_rhymesOf_11 : decode cX5_rhymesOf 11 = .ok (.iload_n 3, 1) := by decide +kernel
theorem dX5_rhymesOf_12 : decode cX5_rhymesOf 12 = .ok (.iload_n 1, 1) := by decide +kernel
theorem dX5_rhymesOf_13 : decode cX5_rhymesOf 13 = .ok (.if_icmp .eq 24, 3) := by decide +kernel
theorem dX5_rhymesOf_16 : decode cX5_rhymesOf 16 = .ok (.aload_n 0, 1) := by decide +kernel
theorem dX5_rhymesOf_17 : decode cX5_rhymesOf 17 = .ok (.getfield 16, 3) := by decide +kernel
theorem dX5_rhymesOf_20 : decode cX5_rhymesOf 20 = .ok (.iload_n 3, 1) := by decide +kernel
theorem dX5_rhymesOf_21 : decode cX5_rhymesOf 21 = .ok (.iaload, 1) := by decide +kernel
theorem dX5_rhymesOf_22 : decode cX5_rhymesOf 22 = .ok (.aload_n 0, 1) := by decide +kernel
theorem dX5_rhymesOf_23 : decode cX5_rhymesOf 23 = .ok (.getfield 16, 3) := by decide +kernel
theorem dX5_rhymesOf_26 : decode cX5_rhymesOf 26 = .ok (.iload_n 1, 1) := by decide +kernel
theorem dX5_rhymesOf_27 : decode cX5_rhymesOf 27 = .ok (.iaload, 1) := by decide +kernel
theorem dX5_rhymesOf_28 : decode cX5_rhymesOf 28 = .ok (.if_icmp .ne 9, 3) := by decide +kernel
theorem dX5_rhymesOf_31 : decode cX5_rhymesOf 31 = .ok (.iconst 1, 1) := by decide +kernel
theorem dX5_rhymesOf_32 : decode cX5_rhymesOf 32 = .ok (.iload_n 3, 1) := by decide +kernel
theorem dX5_rhymesOf_33 : decode cX5_rhymesOf 33 = .ok (.ishl, 1) := by decide +kernel
theorem dX5_rhymesOf_34 : decode cX5_rhymesOf 34 = .ok (.goto 4, 3) := by decide +kernel
theorem dX5_rhymesOf_37 : decode cX5_rhymesOf 37 = .ok (.iconst 0, 1) := by decide +kernel
theorem dX5_rhymesOf_38 : decode cX5_rhymesOf 38 = .ok (.ior, 1) := by decide +kernel
theorem dX5_rhymesOf_39 : decode cX5_rhymesOf 39 = .ok (.istore_n 2, 1) := by decide +kernel
theorem dX5_rhymesOf_40 : decode cX5_rhymesOf 40 = .ok (.iinc 3 1, 3) := by decide +kernel
theorem dX5_rhymesOf_43 : decode cX5_rhymesOf 43 = .ok (.goto (-39), 3) := by decide +kernel
theorem dX5_rhymesOf_46 : decode cX5_rhymesOf 46 = .ok (.iload_n 2, 1) := by decide +kernel
theorem dX5_rhymesOf_47 : decode cX5_rhymesOf 47 = .ok (.ireturn, 1) := by decide +kernel
set_option maxRecDepth 20000 in
theorem ggX5_rhyme_X5_isWord : GoodIn wsX5_rhyme wsX5_isWord := goodIn_r _ [5, 6, 7, 8, 4, 9] (by decide +kernel) (by decide +kernel)
set_option maxRecDepth 20000 in
theorem gX5_rhyme_X5_isWord : GoodIn wsX5_rhyme (va_wsS RX5 77 yX5_isWord wsX5_isWord) := goodIn_app (goodIn_of _ (by decide +kernel)) ggX5_rhyme_X5_isWord
set_option maxRecDepth 20000 in
theorem ggX5_rhyme_X5_rhymesOf : GoodIn wsX5_rhyme wsX5_rhymesOf := goodIn_r _ [13, 1, 17, 18, 19, 20, 21, 22, 23, 24, 25, 26, 27, 28, 29, 30, 31, 32, 33, 34, 35, 36, 37, 38, 39, 40, 41, 42, 43, 44, 45, 46, 47, 48, 49] (by decide +kernel) (by decide +kernel)
set_option maxRecDepth 20000 in
theorem gX5_rhyme_X5_rhymesOf : GoodIn wsX5_rhyme (wsV RX5 85 RX5 yX5_rhymesOf wsX5_rhymesOf) := goodIn_app (goodIn_of _ (by decide +kernel)) ggX5_rhyme_X5_rhymesOf
set_option maxRecDepth 20000 in
theorem ggX5_rhyme_X5_ones : GoodIn wsX5_rhyme wsX5_ones := goodIn_r _ [16] (by decide +kernel) (by decide +kernel)
set_option maxRecDepth 20000 in
theorem gX5_rhyme_X5_ones : GoodIn wsX5_rhyme (va_wsS RX5 89 yX5_ones wsX5_ones) := goodIn_app (goodIn_of _ (by decide +kernel)) ggX5_rhyme_X5_ones
theorem dX5_rhyme_0 : decode cX5_rhyme 0 = .ok (.iload_n 1, 1) := by decide +kernel
theorem dX5_rhyme_1 : decode cX5_rhyme 1 = .ok (.invokestatic 77, 3) := by decide +kernel
theorem dX5_rhyme_4 : decode cX5_rhyme 4 = .ok (.ifCond .eq 15, 3) := by decide +kernel
theorem dX5_rhyme_7 : decode cX5_rhyme 7 = .ok (.iload_n 2, 1) := by decide +kernel
theorem dX5_rhyme_8 : decode cX5_rhyme 8 = .ok (.invokestatic 77, 3) := by decide +kernel
theorem dX5_rhyme_11 : decode cX5_rhyme 11 = .ok (.ifCond .eq 8, 3) := by decide +kernel
theorem dX5_rhyme_14 : decode cX5_rhyme 14 = .ok (.iload_n 1, 1) := by decide +kernel
theorem dX5_rhyme_15 : decode cX5_rhyme 15 = .ok (.iload_n 2, 1) := by decide +kernel
theorem dX5_rhyme_16 : decode cX5_rhyme 16 = .ok (.if_icmp .ne 5, 3) := by decide +kernel
theorem dX5_rhyme_19 : decode cX5_rhyme 19 = .ok (.iconst (-1), 1) := by decide +kernel
theorem dX5_rhyme_20 : decode cX5_rhyme 20 = .ok (.ireturn, 1) := by decide +kernel
theorem dX5_rhyme_21 : decode cX5_rhyme 21 = .ok (.aload_n 0, 1) := by decide +kernel
theorem dX5_rhyme_22 : decode cX5_rhyme 22 = .ok (.getfield 16, 3) := by decide +kernel
theorem dX5_rhyme_25 : decode cX5_rhyme 25 = .ok (.iload_n 2, 1) := by decide +kernel
theorem dX5_rhyme_26 : decode cX5_rhyme 26 = .ok (.iaload, 1) := by decide +kernel
theorem dX5_rhyme_27 : decode cX5_rhyme 27 = .ok (.istore_n 3, 1) := by decide +kernel
theorem dX5_rhyme_28 : decode cX5_rhyme 28 = .ok (.aload_n 0, 1) := by decide +kernel
theorem dX5_rhyme_29 : decode cX5_rhyme 29 = .ok (.getfield 16, 3) := by decide +kernel
theorem dX5_rhyme_32 : decode cX5_rhyme 32 = .ok (.iload_n 1, 1) := by decide +kernel
theorem dX5_rhyme_33 : decode cX5_rhyme 33 = .ok (.iaload, 1) := by decide +kernel
theorem dX5_rhyme_34 : decode cX5_rhyme 34 = .ok (.istore 4, 2) := by decide +kernel
theorem dX5_rhyme_36 : decode cX5_rhyme 36 = .ok (.iconst 0, 1) := by decide +kernel
theorem dX5_rhyme_37 : decode cX5_rhyme 37 = .ok (.istore 5, 2) := by decide +kernel
theorem dX5_rhyme_39 : decode cX5_rhyme 39 = .ok (.iload 5, 2) := by decide +kernel
theorem dX5_rhyme_41 : decode cX5_rhyme 41 = .ok (.bipush 12, 2) := by decide +kernel
theorem dX5_rhyme_43 : decode cX5_rhyme 43 = .ok (.if_icmp .ge 39, 3) := by decide +kernel
theorem dX5_rhyme_46 : decode cX5_rhyme 46 = .ok (.aload_n 0, 1) := by decide +kernel
theorem dX5_rhyme_47 : decode cX5_rhyme 47 = .ok (.getfield 16, 3) := by decide +kernel
theorem dX5_rhyme_50 : decode cX5_rhyme 50 = .ok (.iload 5, 2) := by decide +kernel
theorem dX5_rhyme_52 : decode cX5_rhyme 52 = .ok (.aload_n 0, 1) := by decide +kernel
theorem dX5_rhyme_53 : decode cX5_rhyme 53 = .ok (.getfield 16, 3) := by decide +kernel
theorem dX5_rhyme_56 : decode cX5_rhyme 56 = .ok (.iload 5, 2) := by decide +kernel
theorem dX5_rhyme_58 : decode cX5_rhyme 58 = .ok (.iaload, 1) := by decide +kernel
theorem dX5_rhyme_59 : decode cX5_rhyme 59 = .ok (.iload_n 3, 1) := by decide +kernel
theorem dX5_rhyme_60 : decode cX5_rhyme 60 = .ok (.if_icmp .ne 8, 3) := by decide +kernel
theorem dX5_rhyme_63 : decode cX5_rhyme 63 = .ok (.iload 4, 2) := by decide +kernel
theorem dX5_rhyme_65 : decode cX5_rhyme 65 = .ok (.goto 10, 3) := by decide +kernel
theorem dX5_rhyme_68 : decode cX5_rhyme 68 = .ok (.aload_n 0, 1) := by decide +kernel
theorem dX5_rhyme_69 : decode cX5_rhyme 69 = .ok (.getfield 16, 3) := by decide +kernel
theorem dX5_rhyme_72 : decode cX5_rhyme 72 = .ok (.iload 5, 2) := by decide +kernel
theorem dX5_rhyme_74 : decode cX5_rhyme 74 = .ok (.iaload, 1) := by decide +kernel
theorem dX5_rhyme_75 : decode cX5_rhyme 75 = .ok (.iastore, 1) := by decide +kernel
theorem dX5_rhyme_76 : decode cX5_rhyme 76 = .ok (.iinc 5 1, 3) := by decide +kernel
theorem dX5_rhyme_79 : decode cX5_rhyme 79 = .ok (.goto (-40), 3) := by decide +kernel
theorem dX5_rhyme_82 : decode cX5_rhyme 82 = .ok (.aload_n 0, 1) := by decide +kernel
theorem dX5_rhyme_83 : decode cX5_rhyme 83 = .ok (.iload_n 1, 1) := by decide +kernel
theorem dX5_rhyme_84 : decode cX5_rhyme 84 = .ok (.invokevirtual 85, 3) := by decide +kernel
theorem dX5_rhyme_87 : decode cX5_rhyme 87 = .ok (.invokestatic 89, 3) := by decide +kernel
theorem dX5_rhyme_90 : decode cX5_rhyme 90 = .ok (.ireturn, 1) := by decide +kernel
theorem dX5_freeRhyme_0 : decode cX5_freeRhyme 0 = .ok (.iconst 0, 1) := by decide +kernel
theorem dX5_freeRhyme_1 : decode cX5_freeRhyme 1 = .ok (.istore_n 2, 1) := by decide +kernel
theorem dX5_freeRhyme_2 : decode cX5_freeRhyme 2 = .ok (.bipush 11, 2) := by decide +kernel
theorem dX5_freeRhyme_4 : decode cX5_freeRhyme 4 = .ok (.istore_n 3, 1) := by decide +kernel
theorem dX5_freeRhyme_5 : decode cX5_freeRhyme 5 = .ok (.iload_n 3, 1) := by decide +kernel
theorem dX5_freeRhyme_6 : decode cX5_freeRhyme 6 = .ok (.ifCond .lt 68, 3) := by decide +kernel
theorem dX5_freeRhyme_9 : decode cX5_freeRhyme 9 = .ok (.iconst 0, 1) := by decide +kernel
theorem dX5_freeRhyme_10 : decode cX5_freeRhyme 10 = .ok (.istore 4, 2) := by decide +kernel
theorem dX5_freeRhyme_12 : decode cX5_freeRhyme 12 = .ok (.iconst 0, 1) := by decide +kernel
theorem dX5_freeRhyme_13 : decode cX5_freeRhyme 13 = .ok (.istore 5, 2) := by decide +kernel
theorem dX5_freeRhyme_15 : decode cX5_freeRhyme 15 = .ok (.iload 5, 2) := by decide +kernel
theorem dX5_freeRhyme_17 : decode cX5_freeRhyme 17 = .ok (.bipush 12, 2) := by decide +kernel
theorem dX5_freeRhyme_19 : decode cX5_freeRhyme 19 = .ok (.if_icmp .ge 38, 3) := by decide +kernel
theorem dX5_freeRhyme_22 : decode cX5_freeRhyme 22 = .ok (.iload 4, 2) := by decide +kernel
theorem dX5_freeRhyme_24 : decode cX5_freeRhyme 24 = .ok (.ifCond .ne 20, 3) := by decide +kernel
theorem dX5_freeRhyme_27 : decode cX5_freeRhyme 27 = .ok (.iload 5, 2) := by decide +kernel
theorem dX5_freeRhyme_29 : decode cX5_freeRhyme 29 = .ok (.iload_n 1, 1) := by decide +kernel
theorem dX5_freeRhyme_30 : decode cX5_freeRhyme 30 = .ok (.if_icmp .eq 18, 3) := by decide +kernel
theorem dX5_freeRhyme_33 : decode cX5_freeRhyme 33 = .ok (.aload_n 0, 1) := by decide +kernel
theorem dX5_freeRhyme_34 : decode cX5_freeRhyme 34 = .ok (.getfield 16, 3) := by decide +kernel
theorem dX5_freeRhyme_37 : decode cX5_freeRhyme 37 = .ok (.iload 5, 2) := by decide +kernel
theorem dX5_freeRhyme_39 : decode cX5_freeRhyme 39 = .ok (.iaload, 1) := by decide +kernel
theorem dX5_freeRhyme_40 : decode cX5_freeRhyme 40 = .ok (.iload_n 3, 1) := by decide +kernel
theorem dX5_freeRhyme_41 : decode cX5_freeRhyme 41 = .ok (.if_icmp .ne 7, 3) := by decide +kernel
theorem dX5_freeRhyme_44 : decode cX5_freeRhyme 44 = .ok (.iconst 1, 1) := by decide +kernel
theorem dX5_freeRhyme_45 : decode cX5_freeRhyme 45 = .ok (.goto 4, 3) := by decide +kernel
theorem dX5_freeRhyme_48 : decode cX5_freeRhyme 48 = .ok (.iconst 0, 1) := by decide +kernel
theorem dX5_freeRhyme_49 : decode cX5_freeRhyme 49 = .ok (.istore 4, 2) := by decide +kernel
theorem dX5_freeRhyme_51 : decode cX5_freeRhyme 51 = .ok (.iinc 5 1, 3) := by decide +kernel
theorem dX5_freeRhyme_54 : decode cX5_freeRhyme 54 = .ok (.goto (-39), 3) := by decide +kernel
theorem dX5_freeRhyme_57 : decode cX5_freeRhyme 57 = .ok (.iload 4, 2) := by decide +kernel
theorem dX5_freeRhyme_59 : decode cX5_freeRhyme 59 = .ok (.ifCond .eq 7, 3) := by decide +kernel
theorem dX5_freeRhyme_62 : decode cX5_freeRhyme 62 = .ok (.iload_n 2, 1) := by decide +kernel
theorem dX5_freeRhyme_63 : decode cX5_freeRhyme 63 = .ok (.goto 4, 3) := by decide +kernel
theorem dX5_freeRhyme_66 : decode cX5_freeRhyme 66 = .ok (.iload_n 3, 1) := by decide +kernel
theorem dX5_freeRhyme_67 : decode cX5_freeRhyme 67 = .ok (.istore_n 2, 1) := by decide +kernel
theorem dX5_freeRhyme_68 : decode cX5_freeRhyme 68 = .ok (.iinc 3 (-1), 3) := by decide +kernel
theorem dX5_freeRhyme_71 : decode cX5_freeRhyme 71 = .ok (.goto (-66), 3) := by decide +kernel
theorem dX5_freeRhyme_74 : decode cX5_freeRhyme 74 = .ok (.iload_n 2, 1) := by decide +kernel
theorem dX5_freeRhyme_75 : decode cX5_freeRhyme 75 = .ok (.ireturn, 1) := by decide +kernel
set_option maxRecDepth 20000 in
theorem ggX5_part_X5_isWord : GoodIn wsX5_part wsX5_isWord := goodIn_r _ [5, 6, 7, 8, 4, 9] (by decide +kernel) (by decide +kernel)
set_option maxRecDepth 20000 in
theorem gX5_part_X5_isWord : GoodIn wsX5_part (va_wsS RX5 77 yX5_isWord wsX5_isWord) := goodIn_app (goodIn_of _ (by decide +kernel)) ggX5_part_X5_isWord
set_option maxRecDepth 20000 in
theorem ggX5_part_X5_rhymesOf : GoodIn wsX5_part wsX5_rhymesOf := goodIn_r _ [13, 1, 21, 22, 23, 24, 25, 26, 27, 28, 29, 30, 31, 32, 33, 34, 35, 36, 37, 38, 39, 40, 41, 42, 43, 44, 45, 46, 47, 48, 49, 50, 51, 52, 53] (by decide +kernel) (by decide +kernel)
set_option maxRecDepth 20000 in
theorem gX5_part_X5_rhymesOf : GoodIn wsX5_part (wsV RX5 85 RX5 yX5_rhymesOf wsX5_rhymesOf) := goodIn_app (goodIn_of _ (by decide +kernel)) ggX5_part_X5_rhymesOf
set_option maxRecDepth 20000 in
theorem ggX5_part_X5_ones : GoodIn wsX5_part wsX5_ones := goodIn_r _ [16] (by decide +kernel) (by decide +kernel)
set_option maxRecDepth 20000 in
theorem gX5_part_X5_ones : GoodIn wsX5_part (va_wsS RX5 89 yX5_ones wsX5_ones) := goodIn_app (goodIn_of _ (by decide +kernel)) ggX5_part_X5_ones
set_option maxRecDepth 20000 in
theorem ggX5_part_X5_freeRhyme : GoodIn wsX5_part wsX5_freeRhyme := goodIn_r _ [20, 1, 21, 22, 23, 24, 25, 26, 27, 28, 29, 30, 31, 32, 33, 34, 35, 36, 37, 38, 39, 40, 41, 42, 43, 44, 45, 46, 47, 48, 49, 50, 51, 52, 53] (by decide +kernel) (by decide +kernel)
set_option maxRecDepth 20000 in
theorem gX5_part_X5_freeRhyme : GoodIn wsX5_part (wsV RX5 92 RX5 yX5_freeRhyme wsX5_freeRhyme) := goodIn_app (goodIn_of _ (by decide +kernel)) ggX5_part_X5_freeRhyme
theorem dX5_part_0 : decode cX5_part 0 = .ok (.iload_n 1, 1) := by decide +kernel
theorem dX5_part_1 : decode cX5_part 1 = .ok (.invokestatic 77, 3) := by decide +kernel
theorem dX5_part_4 : decode cX5_part 4 = .ok (.ifCond .ne 5, 3) := by decide +kernel
theorem dX5_part_7 : decode cX5_part 7 = .ok (.iconst (-1), 1) := by decide +kernel
theorem dX5_part_8 : decode cX5_part 8 = .ok (.ireturn, 1) := by decide +kernel
theorem dX5_part_9 : decode cX5_part 9 = .ok (.aload_n 0, 1) := by decide +kernel
theorem dX5_part_10 : decode cX5_part 10 = .ok (.iload_n 1, 1) := by decide +kernel
theorem dX5_part_11 : decode cX5_part 11 = .ok (.invokevirtual 85, 3) := by decide +kernel
theorem dX5_part_14 : decode cX5_part 14 = .ok (.invokestatic 89, 3) := by decide +kernel
theorem dX5_part_17 : decode cX5_part 17 = .ok (.istore_n 2, 1) := by decide +kernel
theorem dX5_part_18 : decode cX5_part 18 = .ok (.aload_n 0, 1) := by decide +kernel
theorem dX5_part_19 : decode cX5_part 19 = .ok (.getfield 16, 3) := by decide +kernel
theorem dX5_part_22 : decode cX5_part 22 = .ok (.iload_n 1, 1) := by decide +kernel
theorem dX5_part_23 : decode cX5_part 23 = .ok (.aload_n 0, 1) := by decide +kernel
theorem dX5_part_24 : decode cX5_part 24 = .ok (.iload_n 1, 1) := by decide +kernel
theorem dX5_part_25 : decode cX5_part 25 = .ok (.invokevirtual 92, 3) := by decide +kernel
theorem dX5_part_28 : decode cX5_part 28 = .ok (.iastore, 1) := by decide +kernel
theorem dX5_part_29 : decode cX5_part 29 = .ok (.iload_n 2, 1) := by decide +kernel
theorem dX5_part_30 : decode cX5_part 30 = .ok (.ireturn, 1) := by decide +kernel
set_option maxRecDepth 20000 in
theorem ggX5_speaker_X5_isSpeaker : GoodIn wsX5_speaker wsX5_isSpeaker := goodIn_r _ [8, 9, 10, 11, 7, 12] (by decide +kernel) (by decide +kernel)
set_option maxRecDepth 20000 in
theorem gX5_speaker_X5_isSpeaker : GoodIn wsX5_speaker (va_wsS RX5 95 yX5_isSpeaker wsX5_isSpeaker) := goodIn_app (goodIn_of _ (by decide +kernel)) ggX5_speaker_X5_isSpeaker
set_option maxRecDepth 20000 in
theorem ggX5_speaker_X5_in : GoodIn wsX5_speaker wsX5_in := goodIn_r _ [12] (by decide +kernel) (by decide +kernel)
set_option maxRecDepth 20000 in
theorem gX5_speaker_X5_in : GoodIn wsX5_speaker (va_wsS RX5 71 yX5_in wsX5_in) := goodIn_app (goodIn_of _ (by decide +kernel)) ggX5_speaker_X5_in
theorem dX5_speaker_0 : decode cX5_speaker 0 = .ok (.iload_n 1, 1) := by decide +kernel
theorem dX5_speaker_1 : decode cX5_speaker 1 = .ok (.invokestatic 95, 3) := by decide +kernel
theorem dX5_speaker_4 : decode cX5_speaker 4 = .ok (.ifCond .ne 5, 3) := by decide +kernel
theorem dX5_speaker_7 : decode cX5_speaker 7 = .ok (.iconst (-1), 1) := by decide +kernel
theorem dX5_speaker_8 : decode cX5_speaker 8 = .ok (.ireturn, 1) := by decide +kernel
theorem dX5_speaker_9 : decode cX5_speaker 9 = .ok (.iload_n 2, 1) := by decide +kernel
theorem dX5_speaker_10 : decode cX5_speaker 10 = .ok (.i2l, 1) := by decide +kernel
theorem dX5_speaker_11 : decode cX5_speaker 11 = .ok (.lconst 0, 1) := by decide +kernel
theorem dX5_speaker_12 : decode cX5_speaker 12 = .ok (.ldc2_w 98, 3) := by decide +kernel
theorem dX5_speaker_15 : decode cX5_speaker 15 = .ok (.invokestatic 71, 3) := by decide +kernel
theorem dX5_speaker_18 : decode cX5_speaker 18 = .ok (.ifCond .eq 15, 3) := by decide +kernel
theorem dX5_speaker_21 : decode cX5_speaker 21 = .ok (.iload_n 3, 1) := by decide +kernel
theorem dX5_speaker_22 : decode cX5_speaker 22 = .ok (.i2l, 1) := by decide +kernel
theorem dX5_speaker_23 : decode cX5_speaker 23 = .ok (.lconst 0, 1) := by decide +kernel
theorem dX5_speaker_24 : decode cX5_speaker 24 = .ok (.ldc2_w 100, 3) := by decide +kernel
theorem dX5_speaker_27 : decode cX5_speaker 27 = .ok (.invokestatic 71, 3) := by decide +kernel
theorem dX5_speaker_30 : decode cX5_speaker 30 = .ok (.ifCond .ne 6, 3) := by decide +kernel
theorem dX5_speaker_33 : decode cX5_speaker 33 = .ok (.bipush (-2), 2) := by decide +kernel
theorem dX5_speaker_35 : decode cX5_speaker 35 = .ok (.ireturn, 1) := by decide +kernel
theorem dX5_speaker_36 : decode cX5_speaker 36 = .ok (.aload_n 0, 1) := by decide +kernel
theorem dX5_speaker_37 : decode cX5_speaker 37 = .ok (.getfield 19, 3) := by decide +kernel
theorem dX5_speaker_40 : decode cX5_speaker 40 = .ok (.iload_n 1, 1) := by decide +kernel
theorem dX5_speaker_41 : decode cX5_speaker 41 = .ok (.iaload, 1) := by decide +kernel
theorem dX5_speaker_42 : decode cX5_speaker 42 = .ok (.istore 4, 2) := by decide +kernel
theorem dX5_speaker_44 : decode cX5_speaker 44 = .ok (.aload_n 0, 1) := by decide +kernel
theorem dX5_speaker_45 : decode cX5_speaker 45 = .ok (.getfield 19, 3) := by decide +kernel
theorem dX5_speaker_48 : decode cX5_speaker 48 = .ok (.iload_n 1, 1) := by decide +kernel
theorem dX5_speaker_49 : decode cX5_speaker 49 = .ok (.iload_n 2, 1) := by decide +kernel
theorem dX5_speaker_50 : decode cX5_speaker 50 = .ok (.iastore, 1) := by decide +kernel
theorem dX5_speaker_51 : decode cX5_speaker 51 = .ok (.aload_n 0, 1) := by decide +kernel
theorem dX5_speaker_52 : decode cX5_speaker 52 = .ok (.getfield 22, 3) := by decide +kernel
theorem dX5_speaker_55 : decode cX5_speaker 55 = .ok (.iload_n 1, 1) := by decide +kernel
theorem dX5_speaker_56 : decode cX5_speaker 56 = .ok (.iload_n 3, 1) := by decide +kernel
theorem dX5_speaker_57 : decode cX5_speaker 57 = .ok (.iastore, 1) := by decide +kernel
theorem dX5_speaker_58 : decode cX5_speaker 58 = .ok (.iload 4, 2) := by decide +kernel
theorem dX5_speaker_60 : decode cX5_speaker 60 = .ok (.ireturn, 1) := by decide +kernel
set_option maxRecDepth 20000 in
theorem ggX5_say_X5_in : GoodIn wsX5_say wsX5_in := goodIn_r _ [8] (by decide +kernel) (by decide +kernel)
set_option maxRecDepth 20000 in
theorem gX5_say_X5_in : GoodIn wsX5_say (va_wsS RX5 71 yX5_in wsX5_in) := goodIn_app (goodIn_of _ (by decide +kernel)) ggX5_say_X5_in
theorem dX5_say_0 : decode cX5_say 0 = .ok (.iload_n 1, 1) := by decide +kernel
theorem dX5_say_1 : decode cX5_say 1 = .ok (.i2l, 1) := by decide +kernel
theorem dX5_say_2 : decode cX5_say 2 = .ok (.ldc2_w 102, 3) := by decide +kernel
theorem dX5_say_5 : decode cX5_say 5 = .ok (.ldc2_w 104, 3) := by decide +kernel
theorem dX5_say_8 : decode cX5_say 8 = .ok (.invokestatic 71, 3) := by decide +kernel
theorem dX5_say_11 : decode cX5_say 11 = .ok (.ifCond .ne 6, 3) := by decide +kernel
theorem dX5_say_14 : decode cX5_say 14 = .ok (.bipush (-2), 2) := by decide +kernel
theorem dX5_say_16 : decode cX5_say 16 = .ok (.ireturn, 1) := by decide +kernel
theorem dX5_say_17 : decode cX5_say 17 = .ok (.aload_n 0, 1) := by decide +kernel
theorem dX5_say_18 : decode cX5_say 18 = .ok (.getfield 106, 3) := by decide +kernel
theorem dX5_say_21 : decode cX5_say 21 = .ok (.bipush 60, 2) := by decide +kernel
theorem dX5_say_23 : decode cX5_say 23 = .ok (.if_icmp .ne 6, 3) := by decide +kernel
theorem dX5_say_26 : decode cX5_say 26 = .ok (.bipush (-4), 2) := by decide +kernel
theorem dX5_say_28 : decode cX5_say 28 = .ok (.ireturn, 1) := by decide +kernel
theorem dX5_say_29 : decode cX5_say 29 = .ok (.aload_n 0, 1) := by decide +kernel
theorem dX5_say_30 : decode cX5_say 30 = .ok (.getfield 37, 3) := by decide +kernel
theorem dX5_say_33 : decode cX5_say 33 = .ok (.aload_n 0, 1) := by decide +kernel
theorem dX5_say_34 : decode cX5_say 34 = .ok (.getfield 106, 3) := by decide +kernel
theorem dX5_say_37 : decode cX5_say 37 = .ok (.iload_n 1, 1) := by decide +kernel
theorem dX5_say_38 : decode cX5_say 38 = .ok (.iastore, 1) := by decide +kernel
theorem dX5_say_39 : decode cX5_say 39 = .ok (.aload_n 0, 1) := by decide +kernel
theorem dX5_say_40 : decode cX5_say 40 = .ok (.dup, 1) := by decide +kernel
theorem dX5_say_41 : decode cX5_say 41 = .ok (.getfield 106, 3) := by decide +kernel
theorem dX5_say_44 : decode cX5_say 44 = .ok (.iconst 1, 1) := by decide +kernel
theorem dX5_say_45 : decode cX5_say 45 = .ok (.iadd, 1) := by decide +kernel
theorem dX5_say_46 : decode cX5_say 46 = .ok (.putfield 106, 3) := by decide +kernel
theorem dX5_say_49 : decode cX5_say 49 = .ok (.aload_n 0, 1) := by decide +kernel
theorem dX5_say_50 : decode cX5_say 50 = .ok (.getfield 106, 3) := by decide +kernel
theorem dX5_say_53 : decode cX5_say 53 = .ok (.ireturn, 1) := by decide +kernel
theorem dX5_wipe_0 : decode cX5_wipe 0 = .ok (.aload_n 0, 1) := by decide +kernel
theorem dX5_wipe_1 : decode cX5_wipe 1 = .ok (.getfield 106, 3) := by decide +kernel
theorem dX5_wipe_4 : decode cX5_wipe 4 = .ok (.istore_n 1, 1) := by decide +kernel
theorem dX5_wipe_5 : decode cX5_wipe 5 = .ok (.aload_n 0, 1) := by decide +kernel
theorem dX5_wipe_6 : decode cX5_wipe 6 = .ok (.iconst 0, 1) := by decide +kernel
theorem dX5_wipe_7 : decode cX5_wipe 7 = .ok (.putfield 106, 3) := by decide +kernel
theorem dX5_wipe_10 : decode cX5_wipe 10 = .ok (.iload_n 1, 1) := by decide +kernel
theorem dX5_wipe_11 : decode cX5_wipe 11 = .ok (.ireturn, 1) := by decide +kernel
theorem dX5_close_0 : decode cX5_close 0 = .ok (.aload_n 0, 1) := by decide +kernel
theorem dX5_close_1 : decode cX5_close 1 = .ok (.dup, 1) := by decide +kernel
theorem dX5_close_2 : decode cX5_close 2 = .ok (.getfield 110, 3) := by decide +kernel
theorem dX5_close_5 : decode cX5_close 5 = .ok (.iconst 1, 1) := by decide +kernel
theorem dX5_close_6 : decode cX5_close 6 = .ok (.iadd, 1) := by decide +kernel
theorem dX5_close_7 : decode cX5_close 7 = .ok (.putfield 110, 3) := by decide +kernel
theorem dX5_close_10 : decode cX5_close 10 = .ok (.iconst 0, 1) := by decide +kernel
theorem dX5_close_11 : decode cX5_close 11 = .ok (.ireturn, 1) := by decide +kernel
set_option maxRecDepth 20000 in
theorem ggX5_begin_X5_in : GoodIn wsX5_begin wsX5_in := goodIn_r _ [11] (by decide +kernel) (by decide +kernel)
set_option maxRecDepth 20000 in
theorem gX5_begin_X5_in : GoodIn wsX5_begin (va_wsS RX5 71 yX5_in wsX5_in) := goodIn_app (goodIn_of _ (by decide +kernel)) ggX5_begin_X5_in
set_option maxRecDepth 20000 in
theorem ggX5_begin_X5_close : GoodIn wsX5_begin wsX5_close := goodIn_r _ [15, 4, 16, 17, 18, 19, 20, 21, 22, 23, 24, 25, 26, 27, 28, 29, 30, 31, 32, 33, 34, 35, 36, 37, 38, 39, 40, 41, 42, 43, 44, 45, 46, 47, 48] (by decide +kernel) (by decide +kernel)
set_option maxRecDepth 20000 in
theorem gX5_begin_X5_close : GoodIn wsX5_begin (wsV RX5 117 RX5 yX5_close wsX5_close) := goodIn_app (goodIn_of _ (by decide +kernel)) ggX5_begin_X5_close
theorem dX5_begin_0 : decode cX5_begin 0 = .ok (.iload_n 1, 1) := by decide +kernel
theorem dX5_begin_1 : decode cX5_begin 1 = .ok (.i2l, 1) := by decide +kernel
theorem dX5_begin_2 : decode cX5_begin 2 = .ok (.ldc2_w 113, 3) := by decide +kernel
theorem dX5_begin_5 : decode cX5_begin 5 = .ok (.ldc2_w 115, 3) := by decide +kernel
theorem dX5_begin_8 : decode cX5_begin 8 = .ok (.invokestatic 71, 3) := by decide +kernel
theorem dX5_begin_11 : decode cX5_begin 11 = .ok (.istore_n 2, 1) := by decide +kernel
theorem dX5_begin_12 : decode cX5_begin 12 = .ok (.aload_n 0, 1) := by decide +kernel
theorem dX5_begin_13 : decode cX5_begin 13 = .ok (.getfield 40, 3) := by decide +kernel
theorem dX5_begin_16 : decode cX5_begin 16 = .ok (.aload_n 0, 1) := by decide +kernel
theorem dX5_begin_17 : decode cX5_begin 17 = .ok (.getfield 110, 3) := by decide +kernel
theorem dX5_begin_20 : decode cX5_begin 20 = .ok (.iconst 4, 1) := by decide +kernel
theorem dX5_begin_21 : decode cX5_begin 21 = .ok (.iastore, 1) := by decide +kernel
theorem dX5_begin_22 : decode cX5_begin 22 = .ok (.aload_n 0, 1) := by decide +kernel
theorem dX5_begin_23 : decode cX5_begin 23 = .ok (.getfield 43, 3) := by decide +kernel
theorem dX5_begin_26 : decode cX5_begin 26 = .ok (.aload_n 0, 1) := by decide +kernel
theorem dX5_begin_27 : decode cX5_begin 27 = .ok (.getfield 110, 3) := by decide +kernel
theorem dX5_begin_30 : decode cX5_begin 30 = .ok (.iload_n 2, 1) := by decide +kernel
theorem dX5_begin_31 : decode cX5_begin 31 = .ok (.ifCond .eq 10, 3) := by decide +kernel
theorem dX5_begin_34 : decode cX5_begin 34 = .ok (.iload_n 1, 1) := by decide +kernel
theorem dX5_begin_35 : decode cX5_begin 35 = .ok (.bipush 65, 2) := by decide +kernel
theorem dX5_begin_37 : decode cX5_begin 37 = .ok (.isub, 1) := by decide +kernel
theorem dX5_begin_38 : decode cX5_begin 38 = .ok (.goto 4, 3) := by decide +kernel
theorem dX5_begin_41 : decode cX5_begin 41 = .ok (.iconst 0, 1) := by decide +kernel
theorem dX5_begin_42 : decode cX5_begin 42 = .ok (.iastore, 1) := by decide +kernel
theorem dX5_begin_43 : decode cX5_begin 43 = .ok (.aload_n 0, 1) := by decide +kernel
theorem dX5_begin_44 : decode cX5_begin 44 = .ok (.getfield 46, 3) := by decide +kernel
theorem dX5_begin_47 : decode cX5_begin 47 = .ok (.aload_n 0, 1) := by decide +kernel
theorem dX5_begin_48 : decode cX5_begin 48 = .ok (.getfield 110, 3) := by decide +kernel
theorem dX5_begin_51 : decode cX5_begin 51 = .ok (.iconst 0, 1) := by decide +kernel
theorem dX5_begin_52 : decode cX5_begin 52 = .ok (.iastore, 1) := by decide +kernel
theorem dX5_begin_53 : decode cX5_begin 53 = .ok (.aload_n 0, 1) := by decide +kernel
theorem dX5_begin_54 : decode cX5_begin 54 = .ok (.getfield 49, 3) := by decide +kernel
theorem dX5_begin_57 : decode cX5_begin 57 = .ok (.aload_n 0, 1) := by decide +kernel
theorem dX5_begin_58 : decode cX5_begin 58 = .ok (.getfield 110, 3) := by decide +kernel
theorem dX5_begin_61 : decode cX5_begin 61 = .ok (.iconst 0, 1) := by decide +kernel
theorem dX5_begin_62 : decode cX5_begin 62 = .ok (.iastore, 1) := by decide +kernel
theorem dX5_begin_63 : decode cX5_begin 63 = .ok (.iload_n 2, 1) := by decide +kernel
theorem dX5_begin_64 : decode cX5_begin 64 = .ok (.ifCond .eq 7, 3) := by decide +kernel
theorem dX5_begin_67 : decode cX5_begin 67 = .ok (.iconst 1, 1) := by decide +kernel
theorem dX5_begin_68 : decode cX5_begin 68 = .ok (.goto 18, 3) := by decide +kernel
theorem dX5_begin_71 : decode cX5_begin 71 = .ok (.iload_n 1, 1) := by decide +kernel
theorem dX5_begin_72 : decode cX5_begin 72 = .ok (.bipush 46, 2) := by decide +kernel
theorem dX5_begin_74 : decode cX5_begin 74 = .ok (.if_icmp .ne 10, 3) := by decide +kernel
theorem dX5_begin_77 : decode cX5_begin 77 = .ok (.aload_n 0, 1) := by decide +kernel
theorem dX5_begin_78 : decode cX5_begin 78 = .ok (.invokevirtual 117, 3) := by decide +kernel
theorem dX5_begin_81 : decode cX5_begin 81 = .ok (.goto 5, 3) := by decide +kernel
theorem dX5_begin_84 : decode cX5_begin 84 = .ok (.bipush (-6), 2) := by decide +kernel
theorem dX5_begin_86 : decode cX5_begin 86 = .ok (.ireturn, 1) := by decide +kernel
set_option maxRecDepth 20000 in
theorem ggX5_deed_X5_in : GoodIn wsX5_deed wsX5_in := goodIn_r _ [9] (by decide +kernel) (by decide +kernel)
set_option maxRecDepth 20000 in
theorem gX5_deed_X5_in : GoodIn wsX5_deed (va_wsS RX5 71 yX5_in wsX5_in) := goodIn_app (goodIn_of _ (by decide +kernel)) ggX5_deed_X5_in
set_option maxRecDepth 20000 in
theorem ggX5_deed_X5_close : GoodIn wsX5_deed wsX5_close := goodIn_r _ [13, 4, 14, 15, 16, 17, 18, 19, 20, 21, 22, 23, 24, 25, 26, 27, 28, 29, 30, 31, 32, 33, 34, 35, 36, 37, 38, 39, 40, 41, 42, 43, 44, 45, 46] (by decide +kernel) (by decide +kernel)
set_option maxRecDepth 20000 in
theorem gX5_deed_X5_close : GoodIn wsX5_deed (wsV RX5 117 RX5 yX5_close wsX5_close) := goodIn_app (goodIn_of _ (by decide +kernel)) ggX5_deed_X5_close
theorem dX5_deed_0 : decode cX5_deed 0 = .ok (.iload_n 1, 1) := by decide +kernel
theorem dX5_deed_1 : decode cX5_deed 1 = .ok (.i2l, 1) := by decide +kernel
theorem dX5_deed_2 : decode cX5_deed 2 = .ok (.ldc2_w 121, 3) := by decide +kernel
theorem dX5_deed_5 : decode cX5_deed 5 = .ok (.ldc2_w 123, 3) := by decide +kernel
theorem dX5_deed_8 : decode cX5_deed 8 = .ok (.invokestatic 71, 3) := by decide +kernel
theorem dX5_deed_11 : decode cX5_deed 11 = .ok (.istore_n 2, 1) := by decide +kernel
theorem dX5_deed_12 : decode cX5_deed 12 = .ok (.aload_n 0, 1) := by decide +kernel
theorem dX5_deed_13 : decode cX5_deed 13 = .ok (.getfield 40, 3) := by decide +kernel
theorem dX5_deed_16 : decode cX5_deed 16 = .ok (.aload_n 0, 1) := by decide +kernel
theorem dX5_deed_17 : decode cX5_deed 17 = .ok (.getfield 110, 3) := by decide +kernel
theorem dX5_deed_20 : decode cX5_deed 20 = .ok (.iload_n 2, 1) := by decide +kernel
theorem dX5_deed_21 : decode cX5_deed 21 = .ok (.ifCond .eq 7, 3) := by decide +kernel
theorem dX5_deed_24 : decode cX5_deed 24 = .ok (.iconst 2, 1) := by decide +kernel
theorem dX5_deed_25 : decode cX5_deed 25 = .ok (.goto 24, 3) := by decide +kernel
theorem dX5_deed_28 : decode cX5_deed 28 = .ok (.iload_n 1, 1) := by decide +kernel
theorem dX5_deed_29 : decode cX5_deed 29 = .ok (.bipush 43, 2) := by decide +kernel
theorem dX5_deed_31 : decode cX5_deed 31 = .ok (.if_icmp .ne 7, 3) := by decide +kernel
theorem dX5_deed_34 : decode cX5_deed 34 = .ok (.iconst 0, 1) := by decide +kernel
theorem dX5_deed_35 : decode cX5_deed 35 = .ok (.goto 14, 3) := by decide +kernel
theorem dX5_deed_38 : decode cX5_deed 38 = .ok (.iload_n 1, 1) := by decide +kernel
theorem dX5_deed_39 : decode cX5_deed 39 = .ok (.bipush 45, 2) := by decide +kernel
theorem dX5_deed_41 : decode cX5_deed 41 = .ok (.if_icmp .ne 7, 3) := by decide +kernel
theorem dX5_deed_44 : decode cX5_deed 44 = .ok (.iconst 1, 1) := by decide +kernel
theorem dX5_deed_45 : decode cX5_deed 45 = .ok (.goto 4, 3) := by decide +kernel
theorem dX5_deed_48 : decode cX5_deed 48 = .ok (.iconst 3, 1) := by decide +kernel
theorem dX5_deed_49 : decode cX5_deed 49 = .ok (.iastore, 1) := by decide +kernel
theorem dX5_deed_50 : decode cX5_deed 50 = .ok (.aload_n 0, 1) := by decide +kernel
theorem dX5_deed_51 : decode cX5_deed 51 = .ok (.getfield 46, 3) := by decide +kernel
theorem dX5_deed_54 : decode cX5_deed 54 = .ok (.aload_n 0, 1) := by decide +kernel
theorem dX5_deed_55 : decode cX5_deed 55 = .ok (.getfield 110, 3) := by decide +kernel
theorem dX5_deed_58 : decode cX5_deed 58 = .ok (.iload_n 2, 1) := by decide +kernel
theorem dX5_deed_59 : decode cX5_deed 59 = .ok (.ifCond .eq 10, 3) := by decide +kernel
theorem dX5_deed_62 : decode cX5_deed 62 = .ok (.iload_n 1, 1) := by decide +kernel
theorem dX5_deed_63 : decode cX5_deed 63 = .ok (.bipush 97, 2) := by decide +kernel
theorem dX5_deed_65 : decode cX5_deed 65 = .ok (.isub, 1) := by decide +kernel
theorem dX5_deed_66 : decode cX5_deed 66 = .ok (.goto 4, 3) := by decide +kernel
theorem dX5_deed_69 : decode cX5_deed 69 = .ok (.iconst 0, 1) := by decide +kernel
theorem dX5_deed_70 : decode cX5_deed 70 = .ok (.iastore, 1) := by decide +kernel
theorem dX5_deed_71 : decode cX5_deed 71 = .ok (.iload_n 2, 1) := by decide +kernel
theorem dX5_deed_72 : decode cX5_deed 72 = .ok (.ifCond .eq 10, 3) := by decide +kernel
theorem dX5_deed_75 : decode cX5_deed 75 = .ok (.aload_n 0, 1) := by decide +kernel
theorem dX5_deed_76 : decode cX5_deed 76 = .ok (.invokevirtual 117, 3) := by decide +kernel
theorem dX5_deed_79 : decode cX5_deed 79 = .ok (.goto 31, 3) := by decide +kernel
theorem dX5_deed_82 : decode cX5_deed 82 = .ok (.iload_n 1, 1) := by decide +kernel
theorem dX5_deed_83 : decode cX5_deed 83 = .ok (.bipush 43, 2) := by decide +kernel
theorem dX5_deed_85 : decode cX5_deed 85 = .ok (.if_icmp .eq 9, 3) := by decide +kernel
theorem dX5_deed_88 : decode cX5_deed 88 = .ok (.iload_n 1, 1) := by decide +kernel
theorem dX5_deed_89 : decode cX5_deed 89 = .ok (.bipush 45, 2) := by decide +kernel
theorem dX5_deed_91 : decode cX5_deed 91 = .ok (.if_icmp .ne 7, 3) := by decide +kernel
theorem dX5_deed_94 : decode cX5_deed 94 = .ok (.iconst 2, 1) := by decide +kernel
theorem dX5_deed_95 : decode cX5_deed 95 = .ok (.goto 15, 3) := by decide +kernel
theorem dX5_deed_98 : decode cX5_deed 98 = .ok (.iload_n 1, 1) := by decide +kernel
theorem dX5_deed_99 : decode cX5_deed 99 = .ok (.bipush 62, 2) := by decide +kernel
theorem dX5_deed_101 : decode cX5_deed 101 = .ok (.if_icmp .ne 7, 3) := by decide +kernel
theorem dX5_deed_104 : decode cX5_deed 104 = .ok (.iconst 3, 1) := by decide +kernel
theorem dX5_deed_105 : decode cX5_deed 105 = .ok (.goto 5, 3) := by decide +kernel
theorem dX5_deed_108 : decode cX5_deed 108 = .ok (.bipush (-6), 2) := by decide +kernel
theorem dX5_deed_110 : decode cX5_deed 110 = .ok (.ireturn, 1) := by decide +kernel
set_option maxRecDepth 20000 in
theorem ggX5_readOn_X5_begin : GoodIn wsX5_readOn wsX5_begin := goodIn_r _ [12, 3, 4, 13, 2, 14, 5, 1, 15, 16, 11, 17, 18, 19, 20, 21, 26, 27, 28, 29, 30, 31, 32, 33, 34, 35, 36, 37, 38, 39, 40, 41, 42, 43, 44, 45, 46, 47, 48, 49, 50, 51, 52, 53, 54, 55, 56, 57, 58] (by decide +kernel) (by decide +kernel)
set_option maxRecDepth 20000 in
theorem gX5_readOn_X5_begin : GoodIn wsX5_readOn (wsV RX5 125 RX5 yX5_begin wsX5_begin) := goodIn_app (goodIn_of _ (by decide +kernel)) ggX5_readOn_X5_begin
set_option maxRecDepth 20000 in
theorem ggX5_readOn_X5_deed : GoodIn wsX5_readOn wsX5_deed := goodIn_r _ [25, 6, 7, 13, 2, 5, 15, 16, 11, 17, 18, 19, 20, 21, 26, 27, 28, 29, 30, 31, 32, 33, 34, 35, 36, 37, 38, 39, 40, 41, 42, 43, 44, 45, 46, 47, 48, 49, 50, 51, 52, 53, 54, 55, 56, 57, 58] (by decide +kernel) (by decide +kernel)
set_option maxRecDepth 20000 in
theorem gX5_readOn_X5_deed : GoodIn wsX5_readOn (wsV RX5 128 RX5 yX5_deed wsX5_deed) := goodIn_app (goodIn_of _ (by decide +kernel)) ggX5_readOn_X5_deed
set_option maxRecDepth 20000 in
theorem ggX5_readOn_X5_in : GoodIn wsX5_readOn wsX5_in := goodIn_r _ [17] (by decide +kernel) (by decide +kernel)
set_option maxRecDepth 20000 in
theorem gX5_readOn_X5_in : GoodIn wsX5_readOn (va_wsS RX5 71 yX5_in wsX5_in) := goodIn_app (goodIn_of _ (by decide +kernel)) ggX5_readOn_X5_in
set_option maxRecDepth 20000 in
theorem ggX5_readOn_X5_close : GoodIn wsX5_readOn wsX5_close := goodIn_r _ [21, 2, 26, 27, 28, 29, 30, 31, 32, 33, 34, 35, 36, 37, 38, 39, 40, 41, 42, 43, 44, 45, 46, 47, 48, 49, 50, 51, 52, 53, 54, 55, 56, 57, 58] (by decide +kernel) (by decide +kernel)
set_option maxRecDepth 20000 in
theorem gX5_readOn_X5_close : GoodIn wsX5_readOn (wsV RX5 117 RX5 yX5_close wsX5_close) := goodIn_app (goodIn_of _ (by decide +kernel)) ggX5_readOn_X5_close
theorem dX5_readOn_0 : decode cX5_readOn 0 = .ok (.iload_n 1, 1) := by decide +kernel
theorem dX5_readOn_1 : decode cX5_readOn 1 = .ok (.ifCond .ne 9, 3) := by decide +kernel
theorem dX5_readOn_4 : decode cX5_readOn 4 = .ok (.aload_n 0, 1) := by decide +kernel
theorem dX5_readOn_5 : decode cX5_readOn 5 = .ok (.iload_n 2, 1) := by decide +kernel
theorem dX5_readOn_6 : decode cX5_readOn 6 = .ok (.invokevirtual 125, 3) := by decide +kernel
theorem dX5_readOn_9 : decode cX5_readOn 9 = .ok (.ireturn, 1) := by decide +kernel
theorem dX5_readOn_10 : decode cX5_readOn 10 = .ok (.iload_n 1, 1) := by decide +kernel
theorem dX5_readOn_11 : decode cX5_readOn 11 = .ok (.iconst 1, 1) := by decide +kernel
theorem dX5_readOn_12 : decode cX5_readOn 12 = .ok (.if_icmp .ne 9, 3) := by decide +kernel
theorem dX5_readOn_15 : decode cX5_readOn 15 = .ok (.aload_n 0, 1) := by decide +kernel
theorem dX5_readOn_16 : decode cX5_readOn 16 = .ok (.iload_n 2, 1) := by decide +kernel
theorem dX5_readOn_17 : decode cX5_readOn 17 = .ok (.invokevirtual 128, 3) := by decide +kernel
theorem dX5_readOn_20 : decode cX5_readOn 20 = .ok (.ireturn, 1) := by decide +kernel
theorem dX5_readOn_21 : decode cX5_readOn 21 = .ok (.iload_n 1, 1) := by decide +kernel
theorem dX5_readOn_22 : decode cX5_readOn 22 = .ok (.iconst 3, 1) := by decide +kernel
theorem dX5_readOn_23 : decode cX5_readOn 23 = .ok (.if_icmp .ne 37, 3) := by decide +kernel
theorem dX5_readOn_26 : decode cX5_readOn 26 = .ok (.aload_n 0, 1) := by decide +kernel
theorem dX5_readOn_27 : decode cX5_readOn 27 = .ok (.getfield 49, 3) := by decide +kernel
theorem dX5_readOn_30 : decode cX5_readOn 30 = .ok (.aload_n 0, 1) := by decide +kernel
theorem dX5_readOn_31 : decode cX5_readOn 31 = .ok (.getfield 110, 3) := by decide +kernel
theorem dX5_readOn_34 : decode cX5_readOn 34 = .ok (.iload_n 2, 1) := by decide +kernel
theorem dX5_readOn_35 : decode cX5_readOn 35 = .ok (.bipush 65, 2) := by decide +kernel
theorem dX5_readOn_37 : decode cX5_readOn 37 = .ok (.isub, 1) := by decide +kernel
theorem dX5_readOn_38 : decode cX5_readOn 38 = .ok (.iastore, 1) := by decide +kernel
theorem dX5_readOn_39 : decode cX5_readOn 39 = .ok (.iload_n 2, 1) := by decide +kernel
theorem dX5_readOn_40 : decode cX5_readOn 40 = .ok (.i2l, 1) := by decide +kernel
theorem dX5_readOn_41 : decode cX5_readOn 41 = .ok (.ldc2_w 113, 3) := by decide +kernel
theorem dX5_readOn_44 : decode cX5_readOn 44 = .ok (.ldc2_w 115, 3) := by decide +kernel
theorem dX5_readOn_47 : decode cX5_readOn 47 = .ok (.invokestatic 71, 3) := by decide +kernel
theorem dX5_readOn_50 : decode cX5_readOn 50 = .ok (.ifCond .eq 7, 3) := by decide +kernel
theorem dX5_readOn_53 : decode cX5_readOn 53 = .ok (.iconst 2, 1) := by decide +kernel
theorem dX5_readOn_54 : decode cX5_readOn 54 = .ok (.goto 5, 3) := by decide +kernel
theorem dX5_readOn_57 : decode cX5_readOn 57 = .ok (.bipush (-6), 2) := by decide +kernel
theorem dX5_readOn_59 : decode cX5_readOn 59 = .ok (.ireturn, 1) := by decide +kernel
theorem dX5_readOn_60 : decode cX5_readOn 60 = .ok (.aload_n 0, 1) := by decide +kernel
theorem dX5_readOn_61 : decode cX5_readOn 61 = .ok (.getfield 46, 3) := by decide +kernel
theorem dX5_readOn_64 : decode cX5_readOn 64 = .ok (.aload_n 0, 1) := by decide +kernel
theorem dX5_readOn_65 : decode cX5_readOn 65 = .ok (.getfield 110, 3) := by decide +kernel
theorem dX5_readOn_68 : decode cX5_readOn 68 = .ok (.iload_n 2, 1) := by decide +kernel
theorem dX5_readOn_69 : decode cX5_readOn 69 = .ok (.bipush 97, 2) := by decide +kernel
theorem dX5_readOn_71 : decode cX5_readOn 71 = .ok (.isub, 1) := by decide +kernel
theorem dX5_readOn_72 : decode cX5_readOn 72 = .ok (.iastore, 1) := by decide +kernel
theorem dX5_readOn_73 : decode cX5_readOn 73 = .ok (.iload_n 2, 1) := by decide +kernel
theorem dX5_readOn_74 : decode cX5_readOn 74 = .ok (.i2l, 1) := by decide +kernel
theorem dX5_readOn_75 : decode cX5_readOn 75 = .ok (.ldc2_w 121, 3) := by decide +kernel
theorem dX5_readOn_78 : decode cX5_readOn 78 = .ok (.ldc2_w 123, 3) := by decide +kernel
theorem dX5_readOn_81 : decode cX5_readOn 81 = .ok (.invokestatic 71, 3) := by decide +kernel
theorem dX5_readOn_84 : decode cX5_readOn 84 = .ok (.ifCond .eq 10, 3) := by decide +kernel
theorem dX5_readOn_87 : decode cX5_readOn 87 = .ok (.aload_n 0, 1) := by decide +kernel
theorem dX5_readOn_88 : decode cX5_readOn 88 = .ok (.invokevirtual 117, 3) := by decide +kernel
theorem dX5_readOn_91 : decode cX5_readOn 91 = .ok (.goto 5, 3) := by decide +kernel
theorem dX5_readOn_94 : decode cX5_readOn 94 = .ok (.bipush (-6), 2) := by decide +kernel
theorem dX5_readOn_96 : decode cX5_readOn 96 = .ok (.ireturn, 1) := by decide +kernel
set_option maxRecDepth 20000 in
theorem ggX5_fault_X5_readOn : GoodIn wsX5_fault wsX5_readOn := goodIn_r _ [8, 9, 1, 10, 11, 12, 13, 14, 15, 16, 17, 7, 18, 19, 20, 21, 22, 23, 24, 25, 26, 27, 28, 29, 30, 31, 32, 33, 34, 35, 36, 37, 38, 39, 40, 41, 42, 43, 44, 45, 46, 47, 48, 49, 50, 51, 52, 53, 54, 55, 56, 57, 58, 59, 60, 61, 62, 63, 64] (by decide +kernel) (by decide +kernel)
set_option maxRecDepth 20000 in
theorem gX5_fault_X5_readOn : GoodIn wsX5_fault (wsV RX5 131 RX5 yX5_readOn wsX5_readOn) := goodIn_app (goodIn_of _ (by decide +kernel)) ggX5_fault_X5_readOn
theorem dX5_fault_0 : decode cX5_fault 0 = .ok (.aload_n 0, 1) := by decide +kernel
theorem dX5_fault_1 : decode cX5_fault 1 = .ok (.iconst 0, 1) := by decide +kernel
theorem dX5_fault_2 : decode cX5_fault 2 = .ok (.putfield 110, 3) := by decide +kernel
theorem dX5_fault_5 : decode cX5_fault 5 = .ok (.iconst 0, 1) := by decide +kernel
theorem dX5_fault_6 : decode cX5_fault 6 = .ok (.istore_n 1, 1) := by decide +kernel
theorem dX5_fault_7 : decode cX5_fault 7 = .ok (.iconst 0, 1) := by decide +kernel
theorem dX5_fault_8 : decode cX5_fault 8 = .ok (.istore_n 2, 1) := by decide +kernel
theorem dX5_fault_9 : decode cX5_fault 9 = .ok (.iload_n 2, 1) := by decide +kernel
theorem dX5_fault_10 : decode cX5_fault 10 = .ok (.aload_n 0, 1) := by decide +kernel
theorem dX5_fault_11 : decode cX5_fault 11 = .ok (.getfield 106, 3) := by decide +kernel
theorem dX5_fault_14 : decode cX5_fault 14 = .ok (.if_icmp .ge 27, 3) := by decide +kernel
theorem dX5_fault_17 : decode cX5_fault 17 = .ok (.aload_n 0, 1) := by decide +kernel
theorem dX5_fault_18 : decode cX5_fault 18 = .ok (.iload_n 1, 1) := by decide +kernel
theorem dX5_fault_19 : decode cX5_fault 19 = .ok (.aload_n 0, 1) := by decide +kernel
theorem dX5_fault_20 : decode cX5_fault 20 = .ok (.getfield 37, 3) := by decide +kernel
theorem dX5_fault_23 : decode cX5_fault 23 = .ok (.iload_n 2, 1) := by decide +kernel
theorem dX5_fault_24 : decode cX5_fault 24 = .ok (.iaload, 1) := by decide +kernel
theorem dX5_fault_25 : decode cX5_fault 25 = .ok (.invokevirtual 131, 3) := by decide +kernel
theorem dX5_fault_28 : decode cX5_fault 28 = .ok (.istore_n 1, 1) := by decide +kernel
theorem dX5_fault_29 : decode cX5_fault 29 = .ok (.iload_n 1, 1) := by decide +kernel
theorem dX5_fault_30 : decode cX5_fault 30 = .ok (.ifCond .ge 5, 3) := by decide +kernel
theorem dX5_fault_33 : decode cX5_fault 33 = .ok (.iload_n 2, 1) := by decide +kernel
theorem dX5_fault_34 : decode cX5_fault 34 = .ok (.ireturn, 1) := by decide +kernel
theorem dX5_fault_35 : decode cX5_fault 35 = .ok (.iinc 2 1, 3) := by decide +kernel
theorem dX5_fault_38 : decode cX5_fault 38 = .ok (.goto (-29), 3) := by decide +kernel
theorem dX5_fault_41 : decode cX5_fault 41 = .ok (.iload_n 1, 1) := by decide +kernel
theorem dX5_fault_42 : decode cX5_fault 42 = .ok (.ifCond .ne 8, 3) := by decide +kernel
theorem dX5_fault_45 : decode cX5_fault 45 = .ok (.bipush (-6), 2) := by decide +kernel
theorem dX5_fault_47 : decode cX5_fault 47 = .ok (.goto 7, 3) := by decide +kernel
theorem dX5_fault_50 : decode cX5_fault 50 = .ok (.aload_n 0, 1) := by decide +kernel
theorem dX5_fault_51 : decode cX5_fault 51 = .ok (.getfield 106, 3) := by decide +kernel
theorem dX5_fault_54 : decode cX5_fault 54 = .ok (.ireturn, 1) := by decide +kernel
theorem dX5_hasWord_0 : decode cX5_hasWord 0 = .ok (.aload_n 0, 1) := by decide +kernel
theorem dX5_hasWord_1 : decode cX5_hasWord 1 = .ok (.getfield 22, 3) := by decide +kernel
theorem dX5_hasWord_4 : decode cX5_hasWord 4 = .ok (.iload_n 1, 1) := by decide +kernel
theorem dX5_hasWord_5 : decode cX5_hasWord 5 = .ok (.iaload, 1) := by decide +kernel
theorem dX5_hasWord_6 : decode cX5_hasWord 6 = .ok (.iload_n 2, 1) := by decide +kernel
theorem dX5_hasWord_7 : decode cX5_hasWord 7 = .ok (.ishr, 1) := by decide +kernel
theorem dX5_hasWord_8 : decode cX5_hasWord 8 = .ok (.iconst 1, 1) := by decide +kernel
theorem dX5_hasWord_9 : decode cX5_hasWord 9 = .ok (.iand, 1) := by decide +kernel
theorem dX5_hasWord_10 : decode cX5_hasWord 10 = .ok (.iconst 1, 1) := by decide +kernel
theorem dX5_hasWord_11 : decode cX5_hasWord 11 = .ok (.if_icmp .ne 7, 3) := by decide +kernel
theorem dX5_hasWord_14 : decode cX5_hasWord 14 = .ok (.iconst 1, 1) := by decide +kernel
theorem dX5_hasWord_15 : decode cX5_hasWord 15 = .ok (.goto 4, 3) := by decide +kernel
theorem dX5_hasWord_18 : decode cX5_hasWord 18 = .ok (.iconst 0, 1) := by decide +kernel
theorem dX5_hasWord_19 : decode cX5_hasWord 19 = .ok (.ireturn, 1) := by decide +kernel
theorem dX5_placeThen_0 : decode cX5_placeThen 0 = .ok (.aload_n 0, 1) := by decide +kernel
theorem dX5_placeThen_1 : decode cX5_placeThen 1 = .ok (.getfield 135, 3) := by decide +kernel
theorem dX5_placeThen_4 : decode cX5_placeThen 4 = .ok (.tableswitch 81 0 3 #[32, 51, 62, 62], 32) := by decide +kernel
theorem dX5_placeThen_36 : decode cX5_placeThen 36 = .ok (.iload_n 1, 1) := by decide +kernel
theorem dX5_placeThen_37 : decode cX5_placeThen 37 = .ok (.iconst 2, 1) := by decide +kernel
theorem dX5_placeThen_38 : decode cX5_placeThen 38 = .ok (.if_icmp .ne 7, 3) := by decide +kernel
theorem dX5_placeThen_41 : decode cX5_placeThen 41 = .ok (.iconst 0, 1) := by decide +kernel
theorem dX5_placeThen_42 : decode cX5_placeThen 42 = .ok (.goto 12, 3) := by decide +kernel
theorem dX5_placeThen_45 : decode cX5_placeThen 45 = .ok (.iload_n 1, 1) := by decide +kernel
theorem dX5_placeThen_46 : decode cX5_placeThen 46 = .ok (.ifCond .ne 7, 3) := by decide +kernel
theorem dX5_placeThen_49 : decode cX5_placeThen 49 = .ok (.iconst 1, 1) := by decide +kernel
theorem dX5_placeThen_50 : decode cX5_placeThen 50 = .ok (.goto 4, 3) := by decide +kernel
theorem dX5_placeThen_53 : decode cX5_placeThen 53 = .ok (.iconst 5, 1) := by decide +kernel
theorem dX5_placeThen_54 : decode cX5_placeThen 54 = .ok (.ireturn, 1) := by decide +kernel
theorem dX5_placeThen_55 : decode cX5_placeThen 55 = .ok (.iload_n 1, 1) := by decide +kernel
theorem dX5_placeThen_56 : decode cX5_placeThen 56 = .ok (.iconst 1, 1) := by decide +kernel
theorem dX5_placeThen_57 : decode cX5_placeThen 57 = .ok (.if_icmp .ne 7, 3) := by decide +kernel
theorem dX5_placeThen_60 : decode cX5_placeThen 60 = .ok (.iconst 2, 1) := by decide +kernel
theorem dX5_placeThen_61 : decode cX5_placeThen 61 = .ok (.goto 4, 3) := by decide +kernel
theorem dX5_placeThen_64 : decode cX5_placeThen 64 = .ok (.iconst 5, 1) := by decide +kernel
theorem dX5_placeThen_65 : decode cX5_placeThen 65 = .ok (.ireturn, 1) := by decide +kernel
theorem dX5_placeThen_66 : decode cX5_placeThen 66 = .ok (.iload_n 1, 1) := by decide +kernel
theorem dX5_placeThen_67 : decode cX5_placeThen 67 = .ok (.iconst 2, 1) := by decide +kernel
theorem dX5_placeThen_68 : decode cX5_placeThen 68 = .ok (.if_icmp .ne 7, 3) := by decide +kernel
theorem dX5_placeThen_71 : decode cX5_placeThen 71 = .ok (.iconst 3, 1) := by decide +kernel
theorem dX5_placeThen_72 : decode cX5_placeThen 72 = .ok (.goto 12, 3) := by decide +kernel
theorem dX5_placeThen_75 : decode cX5_placeThen 75 = .ok (.iload_n 1, 1) := by decide +kernel
theorem dX5_placeThen_76 : decode cX5_placeThen 76 = .ok (.ifCond .ne 7, 3) := by decide +kernel
theorem dX5_placeThen_79 : decode cX5_placeThen 79 = .ok (.iconst 4, 1) := by decide +kernel
theorem dX5_placeThen_80 : decode cX5_placeThen 80 = .ok (.goto 4, 3) := by decide +kernel
theorem dX5_placeThen_83 : decode cX5_placeThen 83 = .ok (.iconst 5, 1) := by decide +kernel
theorem dX5_placeThen_84 : decode cX5_placeThen 84 = .ok (.ireturn, 1) := by decide +kernel
theorem dX5_placeThen_85 : decode cX5_placeThen 85 = .ok (.iconst 5, 1) := by decide +kernel
theorem dX5_placeThen_86 : decode cX5_placeThen 86 = .ok (.ireturn, 1) := by decide +kernel
set_option maxRecDepth 20000 in
theorem ggX5_whyNot_X5_hasWord : GoodIn wsX5_whyNot wsX5_hasWord := goodIn_r _ [8, 9, 10, 11, 12, 13, 14, 15, 16, 17, 18, 19, 20, 21, 22, 23, 24, 25, 26, 27, 28, 29, 30, 31, 32, 33, 34, 35, 36, 37, 38, 39, 40, 41, 42] (by decide +kernel) (by decide +kernel)
set_option maxRecDepth 20000 in
theorem gX5_whyNot_X5_hasWord : GoodIn wsX5_whyNot (wsV RX5 138 RX5 yX5_hasWord wsX5_hasWord) := goodIn_app (goodIn_of _ (by decide +kernel)) ggX5_whyNot_X5_hasWord
theorem dX5_whyNot_0 : decode cX5_whyNot 0 = .ok (.iload_n 1, 1) := by decide +kernel
theorem dX5_whyNot_1 : decode cX5_whyNot 1 = .ok (.tableswitch 149 0 3 #[31, 65, 105, 120], 31) := by decide +kernel
theorem dX5_whyNot_32 : decode cX5_whyNot 32 = .ok (.aload_n 0, 1) := by decide +kernel
theorem dX5_whyNot_33 : decode cX5_whyNot 33 = .ok (.iload_n 2, 1) := by decide +kernel
theorem dX5_whyNot_34 : decode cX5_whyNot 34 = .ok (.iload_n 3, 1) := by decide +kernel
theorem dX5_whyNot_35 : decode cX5_whyNot 35 = .ok (.invokevirtual 138, 3) := by decide +kernel
theorem dX5_whyNot_38 : decode cX5_whyNot 38 = .ok (.ifCond .eq 7, 3) := by decide +kernel
theorem dX5_whyNot_41 : decode cX5_whyNot 41 = .ok (.iconst 1, 1) := by decide +kernel
theorem dX5_whyNot_42 : decode cX5_whyNot 42 = .ok (.goto 23, 3) := by decide +kernel
theorem dX5_whyNot_45 : decode cX5_whyNot 45 = .ok (.aload_n 0, 1) := by decide +kernel
theorem dX5_whyNot_46 : decode cX5_whyNot 46 = .ok (.getfield 19, 3) := by decide +kernel
theorem dX5_whyNot_49 : decode cX5_whyNot 49 = .ok (.iload_n 2, 1) := by decide +kernel
theorem dX5_whyNot_50 : decode cX5_whyNot 50 = .ok (.iaload, 1) := by decide +kernel
theorem dX5_whyNot_51 : decode cX5_whyNot 51 = .ok (.aload_n 0, 1) := by decide +kernel
theorem dX5_whyNot_52 : decode cX5_whyNot 52 = .ok (.getfield 7, 3) := by decide +kernel
theorem dX5_whyNot_55 : decode cX5_whyNot 55 = .ok (.iload_n 3, 1) := by decide +kernel
theorem dX5_whyNot_56 : decode cX5_whyNot 56 = .ok (.iaload, 1) := by decide +kernel
theorem dX5_whyNot_57 : decode cX5_whyNot 57 = .ok (.if_icmp .ge 7, 3) := by decide +kernel
theorem dX5_whyNot_60 : decode cX5_whyNot 60 = .ok (.iconst 3, 1) := by decide +kernel
theorem dX5_whyNot_61 : decode cX5_whyNot 61 = .ok (.goto 4, 3) := by decide +kernel
theorem dX5_whyNot_64 : decode cX5_whyNot 64 = .ok (.iconst 0, 1) := by decide +kernel
theorem dX5_whyNot_65 : decode cX5_whyNot 65 = .ok (.ireturn, 1) := by decide +kernel
theorem dX5_whyNot_66 : decode cX5_whyNot 66 = .ok (.aload_n 0, 1) := by decide +kernel
theorem dX5_whyNot_67 : decode cX5_whyNot 67 = .ok (.iload_n 2, 1) := by decide +kernel
theorem dX5_whyNot_68 : decode cX5_whyNot 68 = .ok (.iload_n 3, 1) := by decide +kernel
theorem dX5_whyNot_69 : decode cX5_whyNot 69 = .ok (.invokevirtual 138, 3) := by decide +kernel
theorem dX5_whyNot_72 : decode cX5_whyNot 72 = .ok (.ifCond .ne 7, 3) := by decide +kernel
theorem dX5_whyNot_75 : decode cX5_whyNot 75 = .ok (.iconst 2, 1) := by decide +kernel
theorem dX5_whyNot_76 : decode cX5_whyNot 76 = .ok (.goto 29, 3) := by decide +kernel
theorem dX5_whyNot_79 : decode cX5_whyNot 79 = .ok (.aload_n 0, 1) := by decide +kernel
theorem dX5_whyNot_80 : decode cX5_whyNot 80 = .ok (.getfield 19, 3) := by decide +kernel
theorem dX5_whyNot_83 : decode cX5_whyNot 83 = .ok (.iload_n 2, 1) := by decide +kernel
theorem dX5_whyNot_84 : decode cX5_whyNot 84 = .ok (.iaload, 1) := by decide +kernel
theorem dX5_whyNot_85 : decode cX5_whyNot 85 = .ok (.aload_n 0, 1) := by decide +kernel
theorem dX5_whyNot_86 : decode cX5_whyNot 86 = .ok (.getfield 7, 3) := by decide +kernel
theorem dX5_whyNot_89 : decode cX5_whyNot 89 = .ok (.iload_n 3, 1) := by decide +kernel
theorem dX5_whyNot_90 : decode cX5_whyNot 90 = .ok (.iaload, 1) := by decide +kernel
theorem dX5_whyNot_91 : decode cX5_whyNot 91 = .ok (.iconst 2, 1) := by decide +kernel
theorem dX5_whyNot_92 : decode cX5_whyNot 92 = .ok (.idiv, 1) := by decide +kernel
theorem dX5_whyNot_93 : decode cX5_whyNot 93 = .ok (.iadd, 1) := by decide +kernel
theorem dX5_whyNot_94 : decode cX5_whyNot 94 = .ok (.sipush 999, 3) := by decide +kernel
theorem dX5_whyNot_97 : decode cX5_whyNot 97 = .ok (.if_icmp .le 7, 3) := by decide +kernel
theorem dX5_whyNot_100 : decode cX5_whyNot 100 = .ok (.iconst 4, 1) := by decide +kernel
theorem dX5_whyNot_101 : decode cX5_whyNot 101 = .ok (.goto 4, 3) := by decide +kernel
theorem dX5_whyNot_104 : decode cX5_whyNot 104 = .ok (.iconst 0, 1) := by decide +kernel
theorem dX5_whyNot_105 : decode cX5_whyNot 105 = .ok (.ireturn, 1) := by decide +kernel
theorem dX5_whyNot_106 : decode cX5_whyNot 106 = .ok (.aload_n 0, 1) := by decide +kernel
theorem dX5_whyNot_107 : decode cX5_whyNot 107 = .ok (.iload_n 2, 1) := by decide +kernel
theorem dX5_whyNot_108 : decode cX5_whyNot 108 = .ok (.iload_n 3, 1) := by decide +kernel
theorem dX5_whyNot_109 : decode cX5_whyNot 109 = .ok (.invokevirtual 138, 3) := by decide +kernel
theorem dX5_whyNot_112 : decode cX5_whyNot 112 = .ok (.ifCond .eq 7, 3) := by decide +kernel
theorem dX5_whyNot_115 : decode cX5_whyNot 115 = .ok (.iconst 0, 1) := by decide +kernel
theorem dX5_whyNot_116 : decode cX5_whyNot 116 = .ok (.goto 4, 3) := by decide +kernel
theorem dX5_whyNot_119 : decode cX5_whyNot 119 = .ok (.iconst 2, 1) := by decide +kernel
theorem dX5_whyNot_120 : decode cX5_whyNot 120 = .ok (.ireturn, 1) := by decide +kernel
theorem dX5_whyNot_121 : decode cX5_whyNot 121 = .ok (.aload_n 0, 1) := by decide +kernel
theorem dX5_whyNot_122 : decode cX5_whyNot 122 = .ok (.iload 4, 2) := by decide +kernel
theorem dX5_whyNot_124 : decode cX5_whyNot 124 = .ok (.iload_n 3, 1) := by decide +kernel
theorem dX5_whyNot_125 : decode cX5_whyNot 125 = .ok (.invokevirtual 138, 3) := by decide +kernel
theorem dX5_whyNot_128 : decode cX5_whyNot 128 = .ok (.ifCond .eq 7, 3) := by decide +kernel
theorem dX5_whyNot_131 : decode cX5_whyNot 131 = .ok (.iconst 1, 1) := by decide +kernel
theorem dX5_whyNot_132 : decode cX5_whyNot 132 = .ok (.goto 17, 3) := by decide +kernel
theorem dX5_whyNot_135 : decode cX5_whyNot 135 = .ok (.aload_n 0, 1) := by decide +kernel
theorem dX5_whyNot_136 : decode cX5_whyNot 136 = .ok (.iload_n 2, 1) := by decide +kernel
theorem dX5_whyNot_137 : decode cX5_whyNot 137 = .ok (.iload_n 3, 1) := by decide +kernel
theorem dX5_whyNot_138 : decode cX5_whyNot 138 = .ok (.invokevirtual 138, 3) := by decide +kernel
theorem dX5_whyNot_141 : decode cX5_whyNot 141 = .ok (.ifCond .eq 7, 3) := by decide +kernel
theorem dX5_whyNot_144 : decode cX5_whyNot 144 = .ok (.iconst 0, 1) := by decide +kernel
theorem dX5_whyNot_145 : decode cX5_whyNot 145 = .ok (.goto 4, 3) := by decide +kernel
theorem dX5_whyNot_148 : decode cX5_whyNot 148 = .ok (.iconst 2, 1) := by decide +kernel
theorem dX5_whyNot_149 : decode cX5_whyNot 149 = .ok (.ireturn, 1) := by decide +kernel
theorem dX5_whyNot_150 : decode cX5_whyNot 150 = .ok (.aload_n 0, 1) := by decide +kernel
theorem dX5_whyNot_151 : decode cX5_whyNot 151 = .ok (.getfield 135, 3) := by decide +kernel
theorem dX5_whyNot_154 : decode cX5_whyNot 154 = .ok (.iconst 2, 1) := by decide +kernel
theorem dX5_whyNot_155 : decode cX5_whyNot 155 = .ok (.if_icmp .eq 11, 3) := by decide +kernel
theorem dX5_whyNot_158 : decode cX5_whyNot 158 = .ok (.aload_n 0, 1) := by decide +kernel
theorem dX5_whyNot_159 : decode cX5_whyNot 159 = .ok (.getfield 135, 3) := by decide +kernel
theorem dX5_whyNot_162 : decode cX5_whyNot 162 = .ok (.iconst 4, 1) := by decide +kernel
theorem dX5_whyNot_163 : decode cX5_whyNot 163 = .ok (.if_icmp .ne 7, 3) := by decide +kernel
theorem dX5_whyNot_166 : decode cX5_whyNot 166 = .ok (.iconst 0, 1) := by decide +kernel
theorem dX5_whyNot_167 : decode cX5_whyNot 167 = .ok (.goto 4, 3) := by decide +kernel
theorem dX5_whyNot_170 : decode cX5_whyNot 170 = .ok (.iconst 5, 1) := by decide +kernel
theorem dX5_whyNot_171 : decode cX5_whyNot 171 = .ok (.ireturn, 1) := by decide +kernel
set_option maxRecDepth 20000 in
theorem ggX5_speak_X5_placeThen : GoodIn wsX5_speak wsX5_placeThen := goodIn_r _ [12, 4, 13, 14, 15, 16, 17, 18, 19, 20, 21, 22, 23, 24, 25, 26, 27, 28, 29, 30, 31, 32, 33, 34, 35, 36, 37, 38, 39, 40, 41, 42, 43, 44, 45] (by decide +kernel) (by decide +kernel)
set_option maxRecDepth 20000 in
theorem gX5_speak_X5_placeThen : GoodIn wsX5_speak (wsV RX5 148 RX5 yX5_placeThen wsX5_placeThen) := goodIn_app (goodIn_of _ (by decide +kernel)) ggX5_speak_X5_placeThen
theorem dX5_speak_0 : decode cX5_speak 0 = .ok (.aload_n 0, 1) := by decide +kernel
theorem dX5_speak_1 : decode cX5_speak 1 = .ok (.dup, 1) := by decide +kernel
theorem dX5_speak_2 : decode cX5_speak 2 = .ok (.getfield 142, 3) := by decide +kernel
theorem dX5_speak_5 : decode cX5_speak 5 = .ok (.iconst 1, 1) := by decide +kernel
theorem dX5_speak_6 : decode cX5_speak 6 = .ok (.iadd, 1) := by decide +kernel
theorem dX5_speak_7 : decode cX5_speak 7 = .ok (.putfield 142, 3) := by decide +kernel
theorem dX5_speak_10 : decode cX5_speak 10 = .ok (.aload_n 0, 1) := by decide +kernel
theorem dX5_speak_11 : decode cX5_speak 11 = .ok (.dup, 1) := by decide +kernel
theorem dX5_speak_12 : decode cX5_speak 12 = .ok (.getfield 145, 3) := by decide +kernel
theorem dX5_speak_15 : decode cX5_speak 15 = .ok (.iconst 1, 1) := by decide +kernel
theorem dX5_speak_16 : decode cX5_speak 16 = .ok (.iadd, 1) := by decide +kernel
theorem dX5_speak_17 : decode cX5_speak 17 = .ok (.putfield 145, 3) := by decide +kernel
theorem dX5_speak_20 : decode cX5_speak 20 = .ok (.aload_n 0, 1) := by decide +kernel
theorem dX5_speak_21 : decode cX5_speak 21 = .ok (.aload_n 0, 1) := by decide +kernel
theorem dX5_speak_22 : decode cX5_speak 22 = .ok (.aload_n 0, 1) := by decide +kernel
theorem dX5_speak_23 : decode cX5_speak 23 = .ok (.getfield 13, 3) := by decide +kernel
theorem dX5_speak_26 : decode cX5_speak 26 = .ok (.iload_n 1, 1) := by decide +kernel
theorem dX5_speak_27 : decode cX5_speak 27 = .ok (.iaload, 1) := by decide +kernel
theorem dX5_speak_28 : decode cX5_speak 28 = .ok (.invokevirtual 148, 3) := by decide +kernel
theorem dX5_speak_31 : decode cX5_speak 31 = .ok (.putfield 135, 3) := by decide +kernel
theorem dX5_speak_34 : decode cX5_speak 34 = .ok (.aload_n 0, 1) := by decide +kernel
theorem dX5_speak_35 : decode cX5_speak 35 = .ok (.getfield 151, 3) := by decide +kernel
theorem dX5_speak_38 : decode cX5_speak 38 = .ok (.ifCond .lt 16, 3) := by decide +kernel
theorem dX5_speak_41 : decode cX5_speak 41 = .ok (.aload_n 0, 1) := by decide +kernel
theorem dX5_speak_42 : decode cX5_speak 42 = .ok (.getfield 7, 3) := by decide +kernel
theorem dX5_speak_45 : decode cX5_speak 45 = .ok (.iload_n 1, 1) := by decide +kernel
theorem dX5_speak_46 : decode cX5_speak 46 = .ok (.iaload, 1) := by decide +kernel
theorem dX5_speak_47 : decode cX5_speak 47 = .ok (.aload_n 0, 1) := by decide +kernel
theorem dX5_speak_48 : decode cX5_speak 48 = .ok (.getfield 154, 3) := by decide +kernel
theorem dX5_speak_51 : decode cX5_speak 51 = .ok (.if_icmp .le 18, 3) := by decide +kernel
theorem dX5_speak_54 : decode cX5_speak 54 = .ok (.aload_n 0, 1) := by decide +kernel
theorem dX5_speak_55 : decode cX5_speak 55 = .ok (.iload_n 1, 1) := by decide +kernel
theorem dX5_speak_56 : decode cX5_speak 56 = .ok (.putfield 151, 3) := by decide +kernel
theorem dX5_speak_59 : decode cX5_speak 59 = .ok (.aload_n 0, 1) := by decide +kernel
theorem dX5_speak_60 : decode cX5_speak 60 = .ok (.aload_n 0, 1) := by decide +kernel
theorem dX5_speak_61 : decode cX5_speak 61 = .ok (.getfield 7, 3) := by decide +kernel
theorem dX5_speak_64 : decode cX5_speak 64 = .ok (.iload_n 1, 1) := by decide +kernel
theorem dX5_speak_65 : decode cX5_speak 65 = .ok (.iaload, 1) := by decide +kernel
theorem dX5_speak_66 : decode cX5_speak 66 = .ok (.putfield 154, 3) := by decide +kernel
theorem dX5_speak_69 : decode cX5_speak 69 = .ok (.aload_n 0, 1) := by decide +kernel
theorem dX5_speak_70 : decode cX5_speak 70 = .ok (.getfield 7, 3) := by decide +kernel
theorem dX5_speak_73 : decode cX5_speak 73 = .ok (.iload_n 1, 1) := by decide +kernel
theorem dX5_speak_74 : decode cX5_speak 74 = .ok (.dup2, 1) := by decide +kernel
theorem dX5_speak_75 : decode cX5_speak 75 = .ok (.iaload, 1) := by decide +kernel
theorem dX5_speak_76 : decode cX5_speak 76 = .ok (.aload_n 0, 1) := by decide +kernel
theorem dX5_speak_77 : decode cX5_speak 77 = .ok (.getfield 7, 3) := by decide +kernel
theorem dX5_speak_80 : decode cX5_speak 80 = .ok (.iload_n 1, 1) := by decide +kernel
theorem dX5_speak_81 : decode cX5_speak 81 = .ok (.iaload, 1) := by decide +kernel
theorem dX5_speak_82 : decode cX5_speak 82 = .ok (.ifCond .le 7, 3) := by decide +kernel
theorem dX5_speak_85 : decode cX5_speak 85 = .ok (.iconst 1, 1) := by decide +kernel
theorem dX5_speak_86 : decode cX5_speak 86 = .ok (.goto 4, 3) := by decide +kernel
theorem dX5_speak_89 : decode cX5_speak 89 = .ok (.iconst 0, 1) := by decide +kernel
theorem dX5_speak_90 : decode cX5_speak 90 = .ok (.isub, 1) := by decide +kernel
theorem dX5_speak_91 : decode cX5_speak 91 = .ok (.iastore, 1) := by decide +kernel
theorem dX5_speak_92 : decode cX5_speak 92 = .ok (.return_, 1) := by decide +kernel
theorem dX5_beginCount_0 : decode cX5_beginCount 0 = .ok (.aload_n 0, 1) := by decide +kernel
theorem dX5_beginCount_1 : decode cX5_beginCount 1 = .ok (.iconst 0, 1) := by decide +kernel
theorem dX5_beginCount_2 : decode cX5_beginCount 2 = .ok (.putfield 157, 3) := by decide +kernel
theorem dX5_beginCount_5 : decode cX5_beginCount 5 = .ok (.aload_n 0, 1) := by decide +kernel
theorem dX5_beginCount_6 : decode cX5_beginCount 6 = .ok (.iconst 0, 1) := by decide +kernel
theorem dX5_beginCount_7 : decode cX5_beginCount 7 = .ok (.putfield 142, 3) := by decide +kernel
theorem dX5_beginCount_10 : decode cX5_beginCount 10 = .ok (.aload_n 0, 1) := by decide +kernel
theorem dX5_beginCount_11 : decode cX5_beginCount 11 = .ok (.bipush (-6), 2) := by decide +kernel
theorem dX5_beginCount_13 : decode cX5_beginCount 13 = .ok (.putfield 151, 3) := by decide +kernel
theorem dX5_beginCount_16 : decode cX5_beginCount 16 = .ok (.aload_n 0, 1) := by decide +kernel
theorem dX5_beginCount_17 : decode cX5_beginCount 17 = .ok (.iconst 0, 1) := by decide +kernel
theorem dX5_beginCount_18 : decode cX5_beginCount 18 = .ok (.putfield 154, 3) := by decide +kernel
theorem dX5_beginCount_21 : decode cX5_beginCount 21 = .ok (.aload_n 0, 1) := by decide +kernel
theorem dX5_beginCount_22 : decode cX5_beginCount 22 = .ok (.iconst 0, 1) := by decide +kernel
theorem dX5_beginCount_23 : decode cX5_beginCount 23 = .ok (.putfield 135, 3) := by decide +kernel
theorem dX5_beginCount_26 : decode cX5_beginCount 26 = .ok (.aload_n 0, 1) := by decide +kernel
theorem dX5_beginCount_27 : decode cX5_beginCount 27 = .ok (.iconst 0, 1) := by decide +kernel
theorem dX5_beginCount_28 : decode cX5_beginCount 28 = .ok (.putfield 145, 3) := by decide +kernel
theorem dX5_beginCount_31 : decode cX5_beginCount 31 = .ok (.return_, 1) := by decide +kernel
set_option maxRecDepth 20000 in
theorem ggX5_happen_X5_speak : GoodIn wsX5_happen wsX5_speak := goodIn_r _ [11, 12, 6, 13, 5, 14, 2, 15, 16, 17, 18, 10, 19, 20, 21, 22, 23, 24, 25, 26, 27, 28, 29, 30, 31, 32, 33, 34, 35, 36, 37, 38, 39, 40, 41, 42, 43, 44, 45, 46, 47, 48, 49, 50, 51, 52] (by decide +kernel) (by decide +kernel)
set_option maxRecDepth 20000 in
theorem gX5_happen_X5_speak : GoodIn wsX5_happen (wsV RX5 160 RX5 yX5_speak wsX5_speak) := goodIn_app (goodIn_of _ (by decide +kernel)) ggX5_happen_X5_speak
theorem dX5_happen_0 : decode cX5_happen 0 = .ok (.iload_n 1, 1) := by decide +kernel
theorem dX5_happen_1 : decode cX5_happen 1 = .ok (.tableswitch 133 0 3 #[31, 61, 95, 103], 31) := by decide +kernel
theorem dX5_happen_32 : decode cX5_happen 32 = .ok (.aload_n 0, 1) := by decide +kernel
theorem dX5_happen_33 : decode cX5_happen 33 = .ok (.getfield 19, 3) := by decide +kernel
theorem dX5_happen_36 : decode cX5_happen 36 = .ok (.iload_n 2, 1) := by decide +kernel
theorem dX5_happen_37 : decode cX5_happen 37 = .ok (.dup2, 1) := by decide +kernel
theorem dX5_happen_38 : decode cX5_happen 38 = .ok (.iaload, 1) := by decide +kernel
theorem dX5_happen_39 : decode cX5_happen 39 = .ok (.aload_n 0, 1) := by decide +kernel
theorem dX5_happen_40 : decode cX5_happen 40 = .ok (.getfield 7, 3) := by decide +kernel
theorem dX5_happen_43 : decode cX5_happen 43 = .ok (.iload_n 3, 1) := by decide +kernel
theorem dX5_happen_44 : decode cX5_happen 44 = .ok (.iaload, 1) := by decide +kernel
theorem dX5_happen_45 : decode cX5_happen 45 = .ok (.isub, 1) := by decide +kernel
theorem dX5_happen_46 : decode cX5_happen 46 = .ok (.iastore, 1) := by decide +kernel
theorem dX5_happen_47 : decode cX5_happen 47 = .ok (.aload_n 0, 1) := by decide +kernel
theorem dX5_happen_48 : decode cX5_happen 48 = .ok (.getfield 22, 3) := by decide +kernel
theorem dX5_happen_51 : decode cX5_happen 51 = .ok (.iload_n 2, 1) := by decide +kernel
theorem dX5_happen_52 : decode cX5_happen 52 = .ok (.dup2, 1) := by decide +kernel
theorem dX5_happen_53 : decode cX5_happen 53 = .ok (.iaload, 1) := by decide +kernel
theorem dX5_happen_54 : decode cX5_happen 54 = .ok (.iconst 1, 1) := by decide +kernel
theorem dX5_happen_55 : decode cX5_happen 55 = .ok (.iload_n 3, 1) := by decide +kernel
theorem dX5_happen_56 : decode cX5_happen 56 = .ok (.ishl, 1) := by decide +kernel
theorem dX5_happen_57 : decode cX5_happen 57 = .ok (.ior, 1) := by decide +kernel
theorem dX5_happen_58 : decode cX5_happen 58 = .ok (.iastore, 1) := by decide +kernel
theorem dX5_happen_59 : decode cX5_happen 59 = .ok (.goto 95, 3) := by decide +kernel
theorem dX5_happen_62 : decode cX5_happen 62 = .ok (.aload_n 0, 1) := by decide +kernel
theorem dX5_happen_63 : decode cX5_happen 63 = .ok (.getfield 19, 3) := by decide +kernel
theorem dX5_happen_66 : decode cX5_happen 66 = .ok (.iload_n 2, 1) := by decide +kernel
theorem dX5_happen_67 : decode cX5_happen 67 = .ok (.dup2, 1) := by decide +kernel
theorem dX5_happen_68 : decode cX5_happen 68 = .ok (.iaload, 1) := by decide +kernel
theorem dX5_happen_69 : decode cX5_happen 69 = .ok (.aload_n 0, 1) := by decide +kernel
theorem dX5_happen_70 : decode cX5_happen 70 = .ok (.getfield 7, 3) := by decide +kernel
theorem dX5_happen_73 : decode cX5_happen 73 = .ok (.iload_n 3, 1) := by decide +kernel
theorem dX5_happen_74 : decode cX5_happen 74 = .ok (.iaload, 1) := by decide +kernel
theorem dX5_happen_75 : decode cX5_happen 75 = .ok (.iconst 2, 1) := by decide +kernel
theorem dX5_happen_76 : decode cX5_happen 76 = .ok (.idiv, 1) := by decide +kernel
theorem dX5_happen_77 : decode cX5_happen 77 = .ok (.iadd, 1) := by decide +kernel
theorem dX5_happen_78 : decode cX5_happen 78 = .ok (.iastore, 1) := by decide +kernel
theorem dX5_happen_79 : decode cX5_happen 79 = .ok (.aload_n 0, 1) := by decide +kernel
theorem dX5_happen_80 : decode cX5_happen 80 = .ok (.getfield 22, 3) := by decide +kernel
theorem dX5_happen_83 : decode cX5_happen 83 = .ok (.iload_n 2, 1) := by decide +kernel
theorem dX5_happen_84 : decode cX5_happen 84 = .ok (.dup2, 1) := by decide +kernel
theorem dX5_happen_85 : decode cX5_happen 85 = .ok (.iaload, 1) := by decide +kernel
theorem dX5_happen_86 : decode cX5_happen 86 = .ok (.iconst 1, 1) := by decide +kernel
theorem dX5_happen_87 : decode cX5_happen 87 = .ok (.iload_n 3, 1) := by decide +kernel
theorem dX5_happen_88 : decode cX5_happen 88 = .ok (.ishl, 1) := by decide +kernel
theorem dX5_happen_89 : decode cX5_happen 89 = .ok (.iconst (-1), 1) := by decide +kernel
theorem dX5_happen_90 : decode cX5_happen 90 = .ok (.ixor, 1) := by decide +kernel
theorem dX5_happen_91 : decode cX5_happen 91 = .ok (.iand, 1) := by decide +kernel
theorem dX5_happen_92 : decode cX5_happen 92 = .ok (.iastore, 1) := by decide +kernel
theorem dX5_happen_93 : decode cX5_happen 93 = .ok (.goto 61, 3) := by decide +kernel
theorem dX5_happen_96 : decode cX5_happen 96 = .ok (.aload_n 0, 1) := by decide +kernel
theorem dX5_happen_97 : decode cX5_happen 97 = .ok (.iload_n 3, 1) := by decide +kernel
theorem dX5_happen_98 : decode cX5_happen 98 = .ok (.invokevirtual 160, 3) := by decide +kernel
theorem dX5_happen_101 : decode cX5_happen 101 = .ok (.goto 53, 3) := by decide +kernel
theorem dX5_happen_104 : decode cX5_happen 104 = .ok (.aload_n 0, 1) := by decide +kernel
theorem dX5_happen_105 : decode cX5_happen 105 = .ok (.getfield 22, 3) := by decide +kernel
theorem dX5_happen_108 : decode cX5_happen 108 = .ok (.iload 4, 2) := by decide +kernel
theorem dX5_happen_110 : decode cX5_happen 110 = .ok (.dup2, 1) := by decide +kernel
theorem dX5_happen_111 : decode cX5_happen 111 = .ok (.iaload, 1) := by decide +kernel
theorem dX5_happen_112 : decode cX5_happen 112 = .ok (.iconst 1, 1) := by decide +kernel
theorem dX5_happen_113 : decode cX5_happen 113 = .ok (.iload_n 3, 1) := by decide +kernel
theorem dX5_happen_114 : decode cX5_happen 114 = .ok (.ishl, 1) := by decide +kernel
theorem dX5_happen_115 : decode cX5_happen 115 = .ok (.ior, 1) := by decide +kernel
theorem dX5_happen_116 : decode cX5_happen 116 = .ok (.iastore, 1) := by decide +kernel
theorem dX5_happen_117 : decode cX5_happen 117 = .ok (.aload_n 0, 1) := by decide +kernel
theorem dX5_happen_118 : decode cX5_happen 118 = .ok (.getfield 22, 3) := by decide +kernel
theorem dX5_happen_121 : decode cX5_happen 121 = .ok (.iload_n 2, 1) := by decide +kernel
theorem dX5_happen_122 : decode cX5_happen 122 = .ok (.dup2, 1) := by decide +kernel
theorem dX5_happen_123 : decode cX5_happen 123 = .ok (.iaload, 1) := by decide +kernel
theorem dX5_happen_124 : decode cX5_happen 124 = .ok (.iconst 1, 1) := by decide +kernel
theorem dX5_happen_125 : decode cX5_happen 125 = .ok (.iload_n 3, 1) := by decide +kernel
theorem dX5_happen_126 : decode cX5_happen 126 = .ok (.ishl, 1) := by decide +kernel
theorem dX5_happen_127 : decode cX5_happen 127 = .ok (.iconst (-1), 1) := by decide +kernel
theorem dX5_happen_128 : decode cX5_happen 128 = .ok (.ixor, 1) := by decide +kernel
theorem dX5_happen_129 : decode cX5_happen 129 = .ok (.iand, 1) := by decide +kernel
theorem dX5_happen_130 : decode cX5_happen 130 = .ok (.iastore, 1) := by decide +kernel
theorem dX5_happen_131 : decode cX5_happen 131 = .ok (.goto 23, 3) := by decide +kernel
theorem dX5_happen_134 : decode cX5_happen 134 = .ok (.aload_n 0, 1) := by decide +kernel
theorem dX5_happen_135 : decode cX5_happen 135 = .ok (.dup, 1) := by decide +kernel
theorem dX5_happen_136 : decode cX5_happen 136 = .ok (.getfield 157, 3) := by decide +kernel
theorem dX5_happen_139 : decode cX5_happen 139 = .ok (.iconst 1, 1) := by decide +kernel
theorem dX5_happen_140 : decode cX5_happen 140 = .ok (.iadd, 1) := by decide +kernel
theorem dX5_happen_141 : decode cX5_happen 141 = .ok (.putfield 157, 3) := by decide +kernel
theorem dX5_happen_144 : decode cX5_happen 144 = .ok (.aload_n 0, 1) := by decide +kernel
theorem dX5_happen_145 : decode cX5_happen 145 = .ok (.iconst 0, 1) := by decide +kernel
theorem dX5_happen_146 : decode cX5_happen 146 = .ok (.putfield 135, 3) := by decide +kernel
theorem dX5_happen_149 : decode cX5_happen 149 = .ok (.aload_n 0, 1) := by decide +kernel
theorem dX5_happen_150 : decode cX5_happen 150 = .ok (.iconst 0, 1) := by decide +kernel
theorem dX5_happen_151 : decode cX5_happen 151 = .ok (.putfield 145, 3) := by decide +kernel
theorem dX5_happen_154 : decode cX5_happen 154 = .ok (.return_, 1) := by decide +kernel
theorem dX5_keepNow_0 : decode cX5_keepNow 0 = .ok (.iconst 0, 1) := by decide +kernel
theorem dX5_keepNow_1 : decode cX5_keepNow 1 = .ok (.istore_n 1, 1) := by decide +kernel
theorem dX5_keepNow_2 : decode cX5_keepNow 2 = .ok (.iload_n 1, 1) := by decide +kernel
theorem dX5_keepNow_3 : decode cX5_keepNow 3 = .ok (.bipush 12, 2) := by decide +kernel
theorem dX5_keepNow_5 : decode cX5_keepNow 5 = .ok (.if_icmp .ge 21, 3) := by decide +kernel
theorem dX5_keepNow_8 : decode cX5_keepNow 8 = .ok (.aload_n 0, 1) := by decide +kernel
theorem dX5_keepNow_9 : decode cX5_keepNow 9 = .ok (.getfield 52, 3) := by decide +kernel
theorem dX5_keepNow_12 : decode cX5_keepNow 12 = .ok (.iload_n 1, 1) := by decide +kernel
theorem dX5_keepNow_13 : decode cX5_keepNow 13 = .ok (.aload_n 0, 1) := by decide +kernel
theorem dX5_keepNow_14 : decode cX5_keepNow 14 = .ok (.getfield 7, 3) := by decide +kernel
theorem dX5_keepNow_17 : decode cX5_keepNow 17 = .ok (.iload_n 1, 1) := by decide +kernel
theorem dX5_keepNow_18 : decode cX5_keepNow 18 = .ok (.iaload, 1) := by decide +kernel
theorem dX5_keepNow_19 : decode cX5_keepNow 19 = .ok (.iastore, 1) := by decide +kernel
theorem dX5_keepNow_20 : decode cX5_keepNow 20 = .ok (.iinc 1 1, 3) := by decide +kernel
theorem dX5_keepNow_23 : decode cX5_keepNow 23 = .ok (.goto (-21), 3) := by decide +kernel
theorem dX5_keepNow_26 : decode cX5_keepNow 26 = .ok (.iconst 0, 1) := by decide +kernel
theorem dX5_keepNow_27 : decode cX5_keepNow 27 = .ok (.istore_n 1, 1) := by decide +kernel
theorem dX5_keepNow_28 : decode cX5_keepNow 28 = .ok (.iload_n 1, 1) := by decide +kernel
theorem dX5_keepNow_29 : decode cX5_keepNow 29 = .ok (.iconst 4, 1) := by decide +kernel
theorem dX5_keepNow_30 : decode cX5_keepNow 30 = .ok (.if_icmp .ge 39, 3) := by decide +kernel
theorem dX5_keepNow_33 : decode cX5_keepNow 33 = .ok (.aload_n 0, 1) := by decide +kernel
theorem dX5_keepNow_34 : decode cX5_keepNow 34 = .ok (.getfield 52, 3) := by decide +kernel
theorem dX5_keepNow_37 : decode cX5_keepNow 37 = .ok (.bipush 12, 2) := by decide +kernel
theorem dX5_keepNow_39 : decode cX5_keepNow 39 = .ok (.iload_n 1, 1) := by decide +kernel
theorem dX5_keepNow_40 : decode cX5_keepNow 40 = .ok (.iadd, 1) := by decide +kernel
theorem dX5_keepNow_41 : decode cX5_keepNow 41 = .ok (.aload_n 0, 1) := by decide +kernel
theorem dX5_keepNow_42 : decode cX5_keepNow 42 = .ok (.getfield 19, 3) := by decide +kernel
theorem dX5_keepNow_45 : decode cX5_keepNow 45 = .ok (.iload_n 1, 1) := by decide +kernel
theorem dX5_keepNow_46 : decode cX5_keepNow 46 = .ok (.iaload, 1) := by decide +kernel
theorem dX5_keepNow_47 : decode cX5_keepNow 47 = .ok (.iastore, 1) := by decide +kernel
theorem dX5_keepNow_48 : decode cX5_keepNow 48 = .ok (.aload_n 0, 1) := by decide +kernel
theorem dX5_keepNow_49 : decode cX5_keepNow 49 = .ok (.getfield 52, 3) := by decide +kernel
theorem dX5_keepNow_52 : decode cX5_keepNow 52 = .ok (.bipush 16, 2) := by decide +kernel
theorem dX5_keepNow_54 : decode cX5_keepNow 54 = .ok (.iload_n 1, 1) := by decide +kernel
theorem dX5_keepNow_55 : decode cX5_keepNow 55 = .ok (.iadd, 1) := by decide +kernel
theorem dX5_keepNow_56 : decode cX5_keepNow 56 = .ok (.aload_n 0, 1) := by decide +kernel
theorem dX5_keepNow_57 : decode cX5_keepNow 57 = .ok (.getfield 22, 3) := by decide +kernel
theorem dX5_keepNow_60 : decode cX5_keepNow 60 = .ok (.iload_n 1, 1) := by decide +kernel
theorem dX5_keepNow_61 : decode cX5_keepNow 61 = .ok (.iaload, 1) := by decide +kernel
theorem dX5_keepNow_62 : decode cX5_keepNow 62 = .ok (.iastore, 1) := by decide +kernel
theorem dX5_keepNow_63 : decode cX5_keepNow 63 = .ok (.iinc 1 1, 3) := by decide +kernel
theorem dX5_keepNow_66 : decode cX5_keepNow 66 = .ok (.goto (-38), 3) := by decide +kernel
theorem dX5_keepNow_69 : decode cX5_keepNow 69 = .ok (.return_, 1) := by decide +kernel
theorem dX5_back_0 : decode cX5_back 0 = .ok (.iconst 0, 1) := by decide +kernel
theorem dX5_back_1 : decode cX5_back 1 = .ok (.istore_n 2, 1) := by decide +kernel
theorem dX5_back_2 : decode cX5_back 2 = .ok (.iload_n 2, 1) := by decide +kernel
theorem dX5_back_3 : decode cX5_back 3 = .ok (.bipush 12, 2) := by decide +kernel
theorem dX5_back_5 : decode cX5_back 5 = .ok (.if_icmp .ge 21, 3) := by decide +kernel
theorem dX5_back_8 : decode cX5_back 8 = .ok (.aload_n 0, 1) := by decide +kernel
theorem dX5_back_9 : decode cX5_back 9 = .ok (.getfield 7, 3) := by decide +kernel
theorem dX5_back_12 : decode cX5_back 12 = .ok (.iload_n 2, 1) := by decide +kernel
theorem dX5_back_13 : decode cX5_back 13 = .ok (.aload_n 0, 1) := by decide +kernel
theorem dX5_back_14 : decode cX5_back 14 = .ok (.getfield 52, 3) := by decide +kernel
theorem dX5_back_17 : decode cX5_back 17 = .ok (.iload_n 2, 1) := by decide +kernel
theorem dX5_back_18 : decode cX5_back 18 = .ok (.iaload, 1) := by decide +kernel
theorem dX5_back_19 : decode cX5_back 19 = .ok (.iastore, 1) := by decide +kernel
theorem dX5_back_20 : decode cX5_back 20 = .ok (.iinc 2 1, 3) := by decide +kernel
theorem dX5_back_23 : decode cX5_back 23 = .ok (.goto (-21), 3) := by decide +kernel
theorem dX5_back_26 : decode cX5_back 26 = .ok (.iconst 0, 1) := by decide +kernel
theorem dX5_back_27 : decode cX5_back 27 = .ok (.istore_n 2, 1) := by decide +kernel
theorem dX5_back_28 : decode cX5_back 28 = .ok (.iload_n 2, 1) := by decide +kernel
theorem dX5_back_29 : decode cX5_back 29 = .ok (.iconst 4, 1) := by decide +kernel
theorem dX5_back_30 : decode cX5_back 30 = .ok (.if_icmp .ge 39, 3) := by decide +kernel
theorem dX5_back_33 : decode cX5_back 33 = .ok (.aload_n 0, 1) := by decide +kernel
theorem dX5_back_34 : decode cX5_back 34 = .ok (.getfield 19, 3) := by decide +kernel
theorem dX5_back_37 : decode cX5_back 37 = .ok (.iload_n 2, 1) := by decide +kernel
theorem dX5_back_38 : decode cX5_back 38 = .ok (.aload_n 0, 1) := by decide +kernel
theorem dX5_back_39 : decode cX5_back 39 = .ok (.getfield 52, 3) := by decide +kernel
theorem dX5_back_42 : decode cX5_back 42 = .ok (.bipush 12, 2) := by decide +kernel
theorem dX5_back_44 : decode cX5_back 44 = .ok (.iload_n 2, 1) := by decide +kernel
theorem dX5_back_45 : decode cX5_back 45 = .ok (.iadd, 1) := by decide +kernel
theorem dX5_back_46 : decode cX5_back 46 = .ok (.iaload, 1) := by decide +kernel
theorem dX5_back_47 : decode cX5_back 47 = .ok (.iastore, 1) := by decide +kernel
theorem dX5_back_48 : decode cX5_back 48 = .ok (.aload_n 0, 1) := by decide +kernel
theorem dX5_back_49 : decode cX5_back 49 = .ok (.getfield 22, 3) := by decide +kernel
theorem dX5_back_52 : decode cX5_back 52 = .ok (.iload_n 2, 1) := by decide +kernel
theorem dX5_back_53 : decode cX5_back 53 = .ok (.aload_n 0, 1) := by decide +kernel
theorem dX5_back_54 : decode cX5_back 54 = .ok (.getfield 52, 3) := by decide +kernel
theorem dX5_back_57 : decode cX5_back 57 = .ok (.bipush 16, 2) := by decide +kernel
theorem dX5_back_59 : decode cX5_back 59 = .ok (.iload_n 2, 1) := by decide +kernel
theorem dX5_back_60 : decode cX5_back 60 = .ok (.iadd, 1) := by decide +kernel
theorem dX5_back_61 : decode cX5_back 61 = .ok (.iaload, 1) := by decide +kernel
theorem dX5_back_62 : decode cX5_back 62 = .ok (.iastore, 1) := by decide +kernel
theorem dX5_back_63 : decode cX5_back 63 = .ok (.iinc 2 1, 3) := by decide +kernel
theorem dX5_back_66 : decode cX5_back 66 = .ok (.goto (-38), 3) := by decide +kernel
theorem dX5_back_69 : decode cX5_back 69 = .ok (.iload_n 1, 1) := by decide +kernel
theorem dX5_back_70 : decode cX5_back 70 = .ok (.ireturn, 1) := by decide +kernel
set_option maxRecDepth 20000 in
theorem ggX5_goDays_X5_beginCount : GoodIn wsX5_goDays wsX5_beginCount := goodIn_r _ [12, 13, 14, 15, 16, 17, 18, 43, 44, 45, 46, 47, 48, 49, 50, 51, 52, 53, 54, 55, 56, 57, 58, 59, 60, 61, 62, 63, 64, 65, 66, 67, 68, 69, 70, 71, 72, 73, 74, 75] (by decide +kernel) (by decide +kernel)
set_option maxRecDepth 20000 in
theorem gX5_goDays_X5_beginCount : GoodIn wsX5_goDays (wsV RX5 164 RX5 yX5_beginCount wsX5_beginCount) := goodIn_app (goodIn_of _ (by decide +kernel)) ggX5_goDays_X5_beginCount
set_option maxRecDepth 20000 in
theorem ggX5_goDays_X5_whyNot : GoodIn wsX5_goDays wsX5_whyNot := goodIn_r _ [22, 23, 24, 17, 25, 26, 27, 11, 28, 29, 43, 44, 45, 46, 47, 48, 49, 50, 51, 52, 53, 54, 55, 56, 57, 58, 59, 60, 61, 62, 63, 64, 65, 66, 67, 68, 69, 70, 71, 72, 73, 74, 75] (by decide +kernel) (by decide +kernel)
set_option maxRecDepth 20000 in
theorem gX5_goDays_X5_whyNot : GoodIn wsX5_goDays (wsV RX5 173 RX5 yX5_whyNot wsX5_whyNot) := goodIn_app (goodIn_of _ (by decide +kernel)) ggX5_goDays_X5_whyNot
set_option maxRecDepth 20000 in
theorem ggX5_goDays_X5_happen : GoodIn wsX5_goDays wsX5_happen := goodIn_r _ [33, 23, 24, 29, 13, 17, 18, 34, 35, 36, 11, 37, 14, 38, 15, 16, 39, 40, 41, 42, 43, 44, 45, 46, 47, 48, 49, 50, 51, 52, 53, 54, 55, 56, 57, 58, 59, 60, 61, 62, 63, 64, 65, 66, 67, 68, 69, 70, 71, 72, 73, 74, 75] (by decide +kernel) (by decide +kernel)
set_option maxRecDepth 20000 in
theorem gX5_goDays_X5_happen : GoodIn wsX5_goDays (wsV RX5 177 RX5 yX5_happen wsX5_happen) := goodIn_app (goodIn_of _ (by decide +kernel)) ggX5_goDays_X5_happen
theorem dX5_goDays_0 : decode cX5_goDays 0 = .ok (.aload_n 0, 1) := by decide +kernel
theorem dX5_goDays_1 : decode cX5_goDays 1 = .ok (.invokevirtual 164, 3) := by decide +kernel
theorem dX5_goDays_4 : decode cX5_goDays 4 = .ok (.aload_n 0, 1) := by decide +kernel
theorem dX5_goDays_5 : decode cX5_goDays 5 = .ok (.bipush (-6), 2) := by decide +kernel
theorem dX5_goDays_7 : decode cX5_goDays 7 = .ok (.putfield 167, 3) := by decide +kernel
theorem dX5_goDays_10 : decode cX5_goDays 10 = .ok (.aload_n 0, 1) := by decide +kernel
theorem dX5_goDays_11 : decode cX5_goDays 11 = .ok (.bipush (-6), 2) := by decide +kernel
theorem dX5_goDays_13 : decode cX5_goDays 13 = .ok (.putfield 170, 3) := by decide +kernel
theorem dX5_goDays_16 : decode cX5_goDays 16 = .ok (.iconst 0, 1) := by decide +kernel
theorem dX5_goDays_17 : decode cX5_goDays 17 = .ok (.istore_n 1, 1) := by decide +kernel
theorem dX5_goDays_18 : decode cX5_goDays 18 = .ok (.iload_n 1, 1) := by decide +kernel
theorem dX5_goDays_19 : decode cX5_goDays 19 = .ok (.aload_n 0, 1) := by decide +kernel
theorem dX5_goDays_20 : decode cX5_goDays 20 = .ok (.getfield 110, 3) := by decide +kernel
theorem dX5_goDays_23 : decode cX5_goDays 23 = .ok (.if_icmp .ge 105, 3) := by decide +kernel
theorem dX5_goDays_26 : decode cX5_goDays 26 = .ok (.aload_n 0, 1) := by decide +kernel
theorem dX5_goDays_27 : decode cX5_goDays 27 = .ok (.getfield 167, 3) := by decide +kernel
theorem dX5_goDays_30 : decode cX5_goDays 30 = .ok (.ifCond .ge 98, 3) := by decide +kernel
theorem dX5_goDays_33 : decode cX5_goDays 33 = .ok (.aload_n 0, 1) := by decide +kernel
theorem dX5_goDays_34 : decode cX5_goDays 34 = .ok (.aload_n 0, 1) := by decide +kernel
theorem dX5_goDays_35 : decode cX5_goDays 35 = .ok (.getfield 40, 3) := by decide +kernel
theorem dX5_goDays_38 : decode cX5_goDays 38 = .ok (.iload_n 1, 1) := by decide +kernel
theorem dX5_goDays_39 : decode cX5_goDays 39 = .ok (.iaload, 1) := by decide +kernel
theorem dX5_goDays_40 : decode cX5_goDays 40 = .ok (.aload_n 0, 1) := by decide +kernel
theorem dX5_goDays_41 : decode cX5_goDays 41 = .ok (.getfield 43, 3) := by decide +kernel
theorem dX5_goDays_44 : decode cX5_goDays 44 = .ok (.iload_n 1, 1) := by decide +kernel
theorem dX5_goDays_45 : decode cX5_goDays 45 = .ok (.iaload, 1) := by decide +kernel
theorem dX5_goDays_46 : decode cX5_goDays 46 = .ok (.aload_n 0, 1) := by decide +kernel
theorem dX5_goDays_47 : decode cX5_goDays 47 = .ok (.getfield 46, 3) := by decide +kernel
theorem dX5_goDays_50 : decode cX5_goDays 50 = .ok (.iload_n 1, 1) := by decide +kernel
theorem dX5_goDays_51 : decode cX5_goDays 51 = .ok (.iaload, 1) := by decide +kernel
theorem dX5_goDays_52 : decode cX5_goDays 52 = .ok (.aload_n 0, 1) := by decide +kernel
theorem dX5_goDays_53 : decode cX5_goDays 53 = .ok (.getfield 49, 3) := by decide +kernel
theorem dX5_goDays_56 : decode cX5_goDays 56 = .ok (.iload_n 1, 1) := by decide +kernel
theorem dX5_goDays_57 : decode cX5_goDays 57 = .ok (.iaload, 1) := by decide +kernel
theorem dX5_goDays_58 : decode cX5_goDays 58 = .ok (.invokevirtual 173, 3) := by decide +kernel
theorem dX5_goDays_61 : decode cX5_goDays 61 = .ok (.istore_n 2, 1) := by decide +kernel
theorem dX5_goDays_62 : decode cX5_goDays 62 = .ok (.aload_n 0, 1) := by decide +kernel
theorem dX5_goDays_63 : decode cX5_goDays 63 = .ok (.iload_n 2, 1) := by decide +kernel
theorem dX5_goDays_64 : decode cX5_goDays 64 = .ok (.ifCond .le 7, 3) := by decide +kernel
theorem dX5_goDays_67 : decode cX5_goDays 67 = .ok (.iload_n 1, 1) := by decide +kernel
theorem dX5_goDays_68 : decode cX5_goDays 68 = .ok (.goto 5, 3) := by decide +kernel
theorem dX5_goDays_71 : decode cX5_goDays 71 = .ok (.bipush (-6), 2) := by decide +kernel
theorem dX5_goDays_73 : decode cX5_goDays 73 = .ok (.putfield 167, 3) := by decide +kernel
theorem dX5_goDays_76 : decode cX5_goDays 76 = .ok (.aload_n 0, 1) := by decide +kernel
theorem dX5_goDays_77 : decode cX5_goDays 77 = .ok (.iload_n 2, 1) := by decide +kernel
theorem dX5_goDays_78 : decode cX5_goDays 78 = .ok (.ifCond .le 7, 3) := by decide +kernel
theorem dX5_goDays_81 : decode cX5_goDays 81 = .ok (.iload_n 2, 1) := by decide +kernel
theorem dX5_goDays_82 : decode cX5_goDays 82 = .ok (.goto 5, 3) := by decide +kernel
theorem dX5_goDays_85 : decode cX5_goDays 85 = .ok (.bipush (-6), 2) := by decide +kernel
theorem dX5_goDays_87 : decode cX5_goDays 87 = .ok (.putfield 170, 3) := by decide +kernel
theorem dX5_goDays_90 : decode cX5_goDays 90 = .ok (.iload_n 2, 1) := by decide +kernel
theorem dX5_goDays_91 : decode cX5_goDays 91 = .ok (.ifCond .ne 31, 3) := by decide +kernel
theorem dX5_goDays_94 : decode cX5_goDays 94 = .ok (.aload_n 0, 1) := by decide +kernel
theorem dX5_goDays_95 : decode cX5_goDays 95 = .ok (.aload_n 0, 1) := by decide +kernel
theorem dX5_goDays_96 : decode cX5_goDays 96 = .ok (.getfield 40, 3) := by decide +kernel
theorem dX5_goDays_99 : decode cX5_goDays 99 = .ok (.iload_n 1, 1) := by decide +kernel
theorem dX5_goDays_100 : decode cX5_goDays 100 = .ok (.iaload, 1) := by decide +kernel
theorem dX5_goDays_101 : decode cX5_goDays 101 = .ok (.aload_n 0, 1) := by decide +kernel
theorem dX5_goDays_102 : decode cX5_goDays 102 = .ok (.getfield 43, 3) := by decide +kernel
theorem dX5_goDays_105 : decode cX5_goDays 105 = .ok (.iload_n 1, 1) := by decide +kernel
theorem dX5_goDays_106 : decode cX5_goDays 106 = .ok (.iaload, 1) := by decide +kernel
theorem dX5_goDays_107 : decode cX5_goDays 107 = .ok (.aload_n 0, 1) := by decide +kernel
theorem dX5_goDays_108 : decode cX5_goDays 108 = .ok (.getfield 46, 3) := by decide +kernel
theorem dX5_goDays_111 : decode cX5_goDays 111 = .ok (.iload_n 1, 1) := by decide +kernel
theorem dX5_goDays_112 : decode cX5_goDays 112 = .ok (.iaload, 1) := by decide +kernel
theorem dX5_goDays_113 : decode cX5_goDays 113 = .ok (.aload_n 0, 1) := by decide +kernel
theorem dX5_goDays_114 : decode cX5_goDays 114 = .ok (.getfield 49, 3) := by decide +kernel
theorem dX5_goDays_117 : decode cX5_goDays 117 = .ok (.iload_n 1, 1) := by decide +kernel
theorem dX5_goDays_118 : decode cX5_goDays 118 = .ok (.iaload, 1) := by decide +kernel
theorem dX5_goDays_119 : decode cX5_goDays 119 = .ok (.invokevirtual 177, 3) := by decide +kernel
theorem dX5_goDays_122 : decode cX5_goDays 122 = .ok (.iinc 1 1, 3) := by decide +kernel
theorem dX5_goDays_125 : decode cX5_goDays 125 = .ok (.goto (-107), 3) := by decide +kernel
theorem dX5_goDays_128 : decode cX5_goDays 128 = .ok (.return_, 1) := by decide +kernel
set_option maxRecDepth 20000 in
theorem ggX5_refusal_X5_keepNow : GoodIn wsX5_refusal wsX5_keepNow := goodIn_r _ [6, 7, 8, 9, 10, 81, 82, 83, 84, 85, 86, 87, 88, 89, 90, 91, 92, 93, 94, 95, 96, 97, 98, 99, 100, 101, 102, 103, 104, 105, 106, 107, 108, 109, 110, 111, 112, 113] (by decide +kernel) (by decide +kernel)
set_option maxRecDepth 20000 in
theorem gX5_refusal_X5_keepNow : GoodIn wsX5_refusal (wsV RX5 181 RX5 yX5_keepNow wsX5_keepNow) := goodIn_app (goodIn_of _ (by decide +kernel)) ggX5_refusal_X5_keepNow
set_option maxRecDepth 20000 in
theorem ggX5_refusal_X5_fault : GoodIn wsX5_refusal wsX5_fault := goodIn_r _ [14, 15, 16, 17, 18, 19, 20, 5, 21, 22, 23, 24, 25, 26, 27, 28, 29, 30, 31, 32, 33, 34, 35, 36, 37, 38, 39, 40, 41, 42, 43, 44, 81, 82, 83, 84, 85, 86, 87, 88, 89, 90, 91, 92, 93, 94, 95, 96, 97, 98, 99, 100, 101, 102, 103, 104, 105, 106, 107, 108, 109, 110, 111, 112, 113] (by decide +kernel) (by decide +kernel)
set_option maxRecDepth 20000 in
theorem gX5_refusal_X5_fault : GoodIn wsX5_refusal (wsV RX5 184 RX5 yX5_fault wsX5_fault) := goodIn_app (goodIn_of _ (by decide +kernel)) ggX5_refusal_X5_fault
set_option maxRecDepth 20000 in
theorem ggX5_refusal_X5_goDays : GoodIn wsX5_refusal wsX5_goDays := goodIn_r _ [48, 1, 49, 15, 32, 33, 25, 22, 50, 51, 52, 5, 53, 54, 55, 56, 57, 58, 59, 60, 61, 62, 63, 9, 8, 64, 65, 66, 67, 10, 68, 69, 70, 71, 72, 73, 74, 75, 76, 77, 78, 79, 80, 81, 82, 83, 84, 85, 86, 87, 88, 89, 90, 91, 92, 93, 94, 95, 96, 97, 98, 99, 100, 101, 102, 103, 104, 105, 106, 107, 108, 109, 110, 111, 112, 113] (by decide +kernel) (by decide +kernel)
set_option maxRecDepth 20000 in
theorem gX5_refusal_X5_goDays : GoodIn wsX5_refusal (wsV RX5 187 RX5 yX5_goDays wsX5_goDays) := goodIn_app (goodIn_of _ (by decide +kernel)) ggX5_refusal_X5_goDays
theorem dX5_refusal_0 : decode cX5_refusal 0 = .ok (.aload_n 0, 1) := by decide +kernel
theorem dX5_refusal_1 : decode cX5_refusal 1 = .ok (.invokevirtual 181, 3) := by decide +kernel
theorem dX5_refusal_4 : decode cX5_refusal 4 = .ok (.aload_n 0, 1) := by decide +kernel
theorem dX5_refusal_5 : decode cX5_refusal 5 = .ok (.invokevirtual 184, 3) := by decide +kernel
theorem dX5_refusal_8 : decode cX5_refusal 8 = .ok (.ifCond .lt 6, 3) := by decide +kernel
theorem dX5_refusal_11 : decode cX5_refusal 11 = .ok (.bipush (-5), 2) := by decide +kernel
theorem dX5_refusal_13 : decode cX5_refusal 13 = .ok (.ireturn, 1) := by decide +kernel
theorem dX5_refusal_14 : decode cX5_refusal 14 = .ok (.aload_n 0, 1) := by decide +kernel
theorem dX5_refusal_15 : decode cX5_refusal 15 = .ok (.invokevirtual 187, 3) := by decide +kernel
theorem dX5_refusal_18 : decode cX5_refusal 18 = .ok (.aload_n 0, 1) := by decide +kernel
theorem dX5_refusal_19 : decode cX5_refusal 19 = .ok (.getfield 167, 3) := by decide +kernel
theorem dX5_refusal_22 : decode cX5_refusal 22 = .ok (.ifCond .lt 8, 3) := by decide +kernel
theorem dX5_refusal_25 : decode cX5_refusal 25 = .ok (.bipush (-3), 2) := by decide +kernel
theorem dX5_refusal_27 : decode cX5_refusal 27 = .ok (.goto 5, 3) := by decide +kernel
theorem dX5_refusal_30 : decode cX5_refusal 30 = .ok (.bipush (-6), 2) := by decide +kernel
theorem dX5_refusal_32 : decode cX5_refusal 32 = .ok (.ireturn, 1) := by decide +kernel
set_option maxRecDepth 20000 in
theorem ggX5_judge_X5_in : GoodIn wsX5_judge wsX5_in := goodIn_r _ [8] (by decide +kernel) (by decide +kernel)
set_option maxRecDepth 20000 in
theorem gX5_judge_X5_in : GoodIn wsX5_judge (va_wsS RX5 71 yX5_in wsX5_in) := goodIn_app (goodIn_of _ (by decide +kernel)) ggX5_judge_X5_in
set_option maxRecDepth 20000 in
theorem ggX5_judge_X5_refusal : GoodIn wsX5_judge wsX5_refusal := goodIn_r _ [12, 2, 13, 14, 15, 7, 16, 17, 18, 19, 20, 21, 22, 23, 24, 25, 26, 27, 28, 29, 30, 31, 32, 33, 34, 35, 36, 37, 38, 39, 40, 41, 42, 43, 5, 6, 8, 44, 45, 46, 47, 48, 49, 50, 51, 52, 53, 54, 55, 3, 56, 57, 58, 59, 4, 60, 61, 62, 63, 64, 65, 66, 67, 68, 69, 70, 71, 72, 73, 74, 75, 76, 77, 78, 79, 80, 81, 82, 83, 84, 85, 90, 91, 92, 93, 94, 95, 96, 97, 98, 99, 100, 101, 102, 103, 104, 105, 106, 107, 108, 109, 110, 111, 112, 113, 114, 115, 116, 117, 118, 119, 120, 121, 122] (by decide +kernel) (by decide +kernel)
set_option maxRecDepth 20000 in
theorem gX5_judge_X5_refusal : GoodIn wsX5_judge (wsV RX5 190 RX5 yX5_refusal wsX5_refusal) := goodIn_app (goodIn_of _ (by decide +kernel)) ggX5_judge_X5_refusal
set_option maxRecDepth 20000 in
theorem ggX5_judge_X5_back : GoodIn wsX5_judge wsX5_back := goodIn_r _ [89, 18, 17, 19, 20, 90, 91, 92, 93, 94, 95, 96, 97, 98, 99, 100, 101, 102, 103, 104, 105, 106, 107, 108, 109, 110, 111, 112, 113, 114, 115, 116, 117, 118, 119, 120, 121, 122] (by decide +kernel) (by decide +kernel)
set_option maxRecDepth 20000 in
theorem gX5_judge_X5_back : GoodIn wsX5_judge (wsV RX5 193 RX5 yX5_back wsX5_back) := goodIn_app (goodIn_of _ (by decide +kernel)) ggX5_judge_X5_back
theorem dX5_judge_0 : decode cX5_judge 0 = .ok (.iload_n 1, 1) := by decide +kernel
theorem dX5_judge_1 : decode cX5_judge 1 = .ok (.i2l, 1) := by decide +kernel
theorem dX5_judge_2 : decode cX5_judge 2 = .ok (.lconst 0, 1) := by decide +kernel
theorem dX5_judge_3 : decode cX5_judge 3 = .ok (.ldc2_w 83, 3) := by decide +kernel
theorem dX5_judge_6 : decode cX5_judge 6 = .ok (.invokestatic 71, 3) := by decide +kernel
theorem dX5_judge_9 : decode cX5_judge 9 = .ok (.ifCond .ne 6, 3) := by decide +kernel
theorem dX5_judge_12 : decode cX5_judge 12 = .ok (.bipush (-2), 2) := by decide +kernel
theorem dX5_judge_14 : decode cX5_judge 14 = .ok (.ireturn, 1) := by decide +kernel
theorem dX5_judge_15 : decode cX5_judge 15 = .ok (.aload_n 0, 1) := by decide +kernel
theorem dX5_judge_16 : decode cX5_judge 16 = .ok (.aload_n 0, 1) := by decide +kernel
theorem dX5_judge_17 : decode cX5_judge 17 = .ok (.invokevirtual 190, 3) := by decide +kernel
theorem dX5_judge_20 : decode cX5_judge 20 = .ok (.invokevirtual 193, 3) := by decide +kernel
theorem dX5_judge_23 : decode cX5_judge 23 = .ok (.istore_n 2, 1) := by decide +kernel
theorem dX5_judge_24 : decode cX5_judge 24 = .ok (.iload_n 2, 1) := by decide +kernel
theorem dX5_judge_25 : decode cX5_judge 25 = .ok (.bipush (-5), 2) := by decide +kernel
theorem dX5_judge_27 : decode cX5_judge 27 = .ok (.if_icmp .eq 14, 3) := by decide +kernel
theorem dX5_judge_30 : decode cX5_judge 30 = .ok (.iload_n 1, 1) := by decide +kernel
theorem dX5_judge_31 : decode cX5_judge 31 = .ok (.iconst 1, 1) := by decide +kernel
theorem dX5_judge_32 : decode cX5_judge 32 = .ok (.if_icmp .le 11, 3) := by decide +kernel
theorem dX5_judge_35 : decode cX5_judge 35 = .ok (.iload_n 2, 1) := by decide +kernel
theorem dX5_judge_36 : decode cX5_judge 36 = .ok (.bipush (-3), 2) := by decide +kernel
theorem dX5_judge_38 : decode cX5_judge 38 = .ok (.if_icmp .ne 5, 3) := by decide +kernel
theorem dX5_judge_41 : decode cX5_judge 41 = .ok (.iload_n 2, 1) := by decide +kernel
theorem dX5_judge_42 : decode cX5_judge 42 = .ok (.ireturn, 1) := by decide +kernel
end
section
theorem dX5_judge_43 : decode cX5_judge 43 = .ok (.iload_n 1, 1) := by decide +kernel
theorem dX5_judge_44 : decode cX5_judge 44 = .ok (.ifCond .ne 10, 3) := by decide +kernel
theorem dX5_judge_47 : decode cX5_judge 47 = .ok (.aload_n 0, 1) := by decide +kernel
theorem dX5_judge_48 : decode cX5_judge 48 = .ok (.getfield 167, 3) := by decide +kernel
theorem dX5_judge_51 : decode cX5_judge 51 = .ok (.goto 19, 3) := by decide +kernel
theorem dX5_judge_54 : decode cX5_judge 54 = .ok (.iload_n 1, 1) := by decide +kernel
theorem dX5_judge_55 : decode cX5_judge 55 = .ok (.iconst 1, 1) := by decide +kernel
theorem dX5_judge_56 : decode cX5_judge 56 = .ok (.if_icmp .ne 10, 3) := by decide +kernel
theorem dX5_judge_59 : decode cX5_judge 59 = .ok (.aload_n 0, 1) := by decide +kernel
theorem dX5_judge_60 : decode cX5_judge 60 = .ok (.getfield 170, 3) := by decide +kernel
theorem dX5_judge_63 : decode cX5_judge 63 = .ok (.goto 7, 3) := by decide +kernel
theorem dX5_judge_66 : decode cX5_judge 66 = .ok (.aload_n 0, 1) := by decide +kernel
theorem dX5_judge_67 : decode cX5_judge 67 = .ok (.getfield 157, 3) := by decide +kernel
theorem dX5_judge_70 : decode cX5_judge 70 = .ok (.ireturn, 1) := by decide +kernel
set_option maxRecDepth 20000 in
theorem ggX5_behind_X5_isSpeaker : GoodIn wsX5_behind wsX5_isSpeaker := goodIn_r _ [6, 7, 8, 9, 5, 10] (by decide +kernel) (by decide +kernel)
set_option maxRecDepth 20000 in
theorem gX5_behind_X5_isSpeaker : GoodIn wsX5_behind (va_wsS RX5 95 yX5_isSpeaker wsX5_isSpeaker) := goodIn_app (goodIn_of _ (by decide +kernel)) ggX5_behind_X5_isSpeaker
set_option maxRecDepth 20000 in
theorem ggX5_behind_X5_in : GoodIn wsX5_behind wsX5_in := goodIn_r _ [10] (by decide +kernel) (by decide +kernel)
set_option maxRecDepth 20000 in
theorem gX5_behind_X5_in : GoodIn wsX5_behind (va_wsS RX5 71 yX5_in wsX5_in) := goodIn_app (goodIn_of _ (by decide +kernel)) ggX5_behind_X5_in
set_option maxRecDepth 20000 in
theorem ggX5_behind_X5_refusal : GoodIn wsX5_behind wsX5_refusal := goodIn_r _ [14, 15, 16, 17, 18, 5, 19, 20, 21, 1, 2, 22, 23, 24, 25, 26, 27, 28, 29, 30, 31, 32, 33, 34, 35, 36, 37, 38, 39, 40, 41, 42, 43, 44, 8, 9, 10, 45, 46, 47, 48, 49, 50, 51, 52, 53, 54, 55, 56, 57, 58, 59, 60, 61, 62, 63, 64, 65, 66, 67, 68, 69, 70, 71, 72, 73, 74, 75, 76, 77, 78, 79, 80, 81, 82, 83, 84, 85, 86, 87, 88, 93, 94, 95, 96, 97, 98, 99, 100, 101, 102, 103, 104, 105, 106, 107, 108, 109, 110, 111, 112, 113, 114, 115, 116, 117, 118, 119, 120, 121, 122, 123, 124, 125] (by decide +kernel) (by decide +kernel)
set_option maxRecDepth 20000 in
theorem gX5_behind_X5_refusal : GoodIn wsX5_behind (wsV RX5 190 RX5 yX5_refusal wsX5_refusal) := goodIn_app (goodIn_of _ (by decide +kernel)) ggX5_behind_X5_refusal
set_option maxRecDepth 20000 in
theorem ggX5_behind_X5_back : GoodIn wsX5_behind wsX5_back := goodIn_r _ [92, 21, 20, 1, 2, 93, 94, 95, 96, 97, 98, 99, 100, 101, 102, 103, 104, 105, 106, 107, 108, 109, 110, 111, 112, 113, 114, 115, 116, 117, 118, 119, 120, 121, 122, 123, 124, 125] (by decide +kernel) (by decide +kernel)
set_option maxRecDepth 20000 in
theorem gX5_behind_X5_back : GoodIn wsX5_behind (wsV RX5 193 RX5 yX5_back wsX5_back) := goodIn_app (goodIn_of _ (by decide +kernel)) ggX5_behind_X5_back
theorem dX5_behind_0 : decode cX5_behind 0 = .ok (.iload_n 1, 1) := by decide +kernel
theorem dX5_behind_1 : decode cX5_behind 1 = .ok (.invokestatic 95, 3) := by decide +kernel
theorem dX5_behind_4 : decode cX5_behind 4 = .ok (.ifCond .ne 5, 3) := by decide +kernel
theorem dX5_behind_7 : decode cX5_behind 7 = .ok (.iconst (-1), 1) := by decide +kernel
theorem dX5_behind_8 : decode cX5_behind 8 = .ok (.ireturn, 1) := by decide +kernel
theorem dX5_behind_9 : decode cX5_behind 9 = .ok (.iload_n 2, 1) := by decide +kernel
theorem dX5_behind_10 : decode cX5_behind 10 = .ok (.i2l, 1) := by decide +kernel
theorem dX5_behind_11 : decode cX5_behind 11 = .ok (.lconst 0, 1) := by decide +kernel
theorem dX5_behind_12 : decode cX5_behind 12 = .ok (.lconst 1, 1) := by decide +kernel
theorem dX5_behind_13 : decode cX5_behind 13 = .ok (.invokestatic 71, 3) := by decide +kernel
theorem dX5_behind_16 : decode cX5_behind 16 = .ok (.ifCond .ne 6, 3) := by decide +kernel
theorem dX5_behind_19 : decode cX5_behind 19 = .ok (.bipush (-2), 2) := by decide +kernel
theorem dX5_behind_21 : decode cX5_behind 21 = .ok (.ireturn, 1) := by decide +kernel
theorem dX5_behind_22 : decode cX5_behind 22 = .ok (.aload_n 0, 1) := by decide +kernel
theorem dX5_behind_23 : decode cX5_behind 23 = .ok (.invokevirtual 190, 3) := by decide +kernel
theorem dX5_behind_26 : decode cX5_behind 26 = .ok (.istore_n 3, 1) := by decide +kernel
theorem dX5_behind_27 : decode cX5_behind 27 = .ok (.aload_n 0, 1) := by decide +kernel
theorem dX5_behind_28 : decode cX5_behind 28 = .ok (.iload_n 3, 1) := by decide +kernel
theorem dX5_behind_29 : decode cX5_behind 29 = .ok (.bipush (-6), 2) := by decide +kernel
theorem dX5_behind_31 : decode cX5_behind 31 = .ok (.if_icmp .eq 7, 3) := by decide +kernel
theorem dX5_behind_34 : decode cX5_behind 34 = .ok (.iload_n 3, 1) := by decide +kernel
theorem dX5_behind_35 : decode cX5_behind 35 = .ok (.goto 22, 3) := by decide +kernel
theorem dX5_behind_38 : decode cX5_behind 38 = .ok (.iload_n 2, 1) := by decide +kernel
theorem dX5_behind_39 : decode cX5_behind 39 = .ok (.ifCond .ne 12, 3) := by decide +kernel
theorem dX5_behind_42 : decode cX5_behind 42 = .ok (.aload_n 0, 1) := by decide +kernel
theorem dX5_behind_43 : decode cX5_behind 43 = .ok (.getfield 19, 3) := by decide +kernel
theorem dX5_behind_46 : decode cX5_behind 46 = .ok (.iload_n 1, 1) := by decide +kernel
theorem dX5_behind_47 : decode cX5_behind 47 = .ok (.iaload, 1) := by decide +kernel
theorem dX5_behind_48 : decode cX5_behind 48 = .ok (.goto 9, 3) := by decide +kernel
theorem dX5_behind_51 : decode cX5_behind 51 = .ok (.aload_n 0, 1) := by decide +kernel
theorem dX5_behind_52 : decode cX5_behind 52 = .ok (.getfield 22, 3) := by decide +kernel
theorem dX5_behind_55 : decode cX5_behind 55 = .ok (.iload_n 1, 1) := by decide +kernel
theorem dX5_behind_56 : decode cX5_behind 56 = .ok (.iaload, 1) := by decide +kernel
theorem dX5_behind_57 : decode cX5_behind 57 = .ok (.invokevirtual 193, 3) := by decide +kernel
theorem dX5_behind_60 : decode cX5_behind 60 = .ok (.ireturn, 1) := by decide +kernel
set_option maxRecDepth 20000 in
theorem ggX5_worn_X5_isWord : GoodIn wsX5_worn wsX5_isWord := goodIn_r _ [5, 6, 7, 8, 4, 9] (by decide +kernel) (by decide +kernel)
set_option maxRecDepth 20000 in
theorem gX5_worn_X5_isWord : GoodIn wsX5_worn (va_wsS RX5 77 yX5_isWord wsX5_isWord) := goodIn_app (goodIn_of _ (by decide +kernel)) ggX5_worn_X5_isWord
set_option maxRecDepth 20000 in
theorem ggX5_worn_X5_refusal : GoodIn wsX5_worn wsX5_refusal := goodIn_r _ [13, 14, 15, 16, 17, 4, 18, 19, 1, 20, 21, 22, 23, 24, 25, 26, 27, 28, 29, 30, 31, 32, 33, 34, 35, 36, 37, 38, 39, 40, 41, 42, 43, 44, 7, 8, 9, 45, 46, 47, 48, 49, 50, 51, 52, 53, 54, 55, 56, 57, 58, 59, 60, 61, 62, 63, 64, 65, 66, 67, 68, 69, 70, 71, 72, 73, 74, 75, 76, 77, 78, 79, 80, 81, 82, 83, 84, 85, 86, 87, 88, 93, 94, 95, 96, 97, 98, 99, 100, 101, 102, 103, 104, 105, 106, 107, 108, 109, 110, 111, 112, 113, 114, 115, 116, 117, 118, 119, 120, 121, 122, 123, 124, 125] (by decide +kernel) (by decide +kernel)
set_option maxRecDepth 20000 in
theorem gX5_worn_X5_refusal : GoodIn wsX5_worn (wsV RX5 190 RX5 yX5_refusal wsX5_refusal) := goodIn_app (goodIn_of _ (by decide +kernel)) ggX5_worn_X5_refusal
set_option maxRecDepth 20000 in
theorem ggX5_worn_X5_back : GoodIn wsX5_worn wsX5_back := goodIn_r _ [92, 1, 19, 20, 21, 93, 94, 95, 96, 97, 98, 99, 100, 101, 102, 103, 104, 105, 106, 107, 108, 109, 110, 111, 112, 113, 114, 115, 116, 117, 118, 119, 120, 121, 122, 123, 124, 125] (by decide +kernel) (by decide +kernel)
set_option maxRecDepth 20000 in
theorem gX5_worn_X5_back : GoodIn wsX5_worn (wsV RX5 193 RX5 yX5_back wsX5_back) := goodIn_app (goodIn_of _ (by decide +kernel)) ggX5_worn_X5_back
theorem dX5_worn_0 : decode cX5_worn 0 = .ok (.iload_n 1, 1) := by decide +kernel
theorem dX5_worn_1 : decode cX5_worn 1 = .ok (.invokestatic 77, 3) := by decide +kernel
theorem dX5_worn_4 : decode cX5_worn 4 = .ok (.ifCond .ne 5, 3) := by decide +kernel
theorem dX5_worn_7 : decode cX5_worn 7 = .ok (.iconst (-1), 1) := by decide +kernel
theorem dX5_worn_8 : decode cX5_worn 8 = .ok (.ireturn, 1) := by decide +kernel
theorem dX5_worn_9 : decode cX5_worn 9 = .ok (.aload_n 0, 1) := by decide +kernel
theorem dX5_worn_10 : decode cX5_worn 10 = .ok (.invokevirtual 190, 3) := by decide +kernel
theorem dX5_worn_13 : decode cX5_worn 13 = .ok (.istore_n 2, 1) := by decide +kernel
theorem dX5_worn_14 : decode cX5_worn 14 = .ok (.aload_n 0, 1) := by decide +kernel
theorem dX5_worn_15 : decode cX5_worn 15 = .ok (.iload_n 2, 1) := by decide +kernel
theorem dX5_worn_16 : decode cX5_worn 16 = .ok (.bipush (-6), 2) := by decide +kernel
theorem dX5_worn_18 : decode cX5_worn 18 = .ok (.if_icmp .eq 7, 3) := by decide +kernel
theorem dX5_worn_21 : decode cX5_worn 21 = .ok (.iload_n 2, 1) := by decide +kernel
theorem dX5_worn_22 : decode cX5_worn 22 = .ok (.goto 9, 3) := by decide +kernel
theorem dX5_worn_25 : decode cX5_worn 25 = .ok (.aload_n 0, 1) := by decide +kernel
theorem dX5_worn_26 : decode cX5_worn 26 = .ok (.getfield 7, 3) := by decide +kernel
theorem dX5_worn_29 : decode cX5_worn 29 = .ok (.iload_n 1, 1) := by decide +kernel
theorem dX5_worn_30 : decode cX5_worn 30 = .ok (.iaload, 1) := by decide +kernel
theorem dX5_worn_31 : decode cX5_worn 31 = .ok (.invokevirtual 193, 3) := by decide +kernel
theorem dX5_worn_34 : decode cX5_worn 34 = .ok (.ireturn, 1) := by decide +kernel
set_option maxRecDepth 20000 in
theorem ggX5_said_X5_in : GoodIn wsX5_said wsX5_in := goodIn_r _ [8] (by decide +kernel) (by decide +kernel)
set_option maxRecDepth 20000 in
theorem gX5_said_X5_in : GoodIn wsX5_said (va_wsS RX5 71 yX5_in wsX5_in) := goodIn_app (goodIn_of _ (by decide +kernel)) ggX5_said_X5_in
set_option maxRecDepth 20000 in
theorem ggX5_said_X5_refusal : GoodIn wsX5_said wsX5_refusal := goodIn_r _ [12, 13, 14, 15, 16, 7, 17, 18, 19, 20, 21, 22, 23, 24, 25, 26, 27, 28, 29, 30, 31, 32, 33, 34, 35, 36, 37, 38, 39, 40, 41, 42, 43, 44, 5, 6, 8, 45, 46, 47, 48, 49, 50, 51, 52, 53, 54, 55, 56, 57, 58, 59, 60, 61, 62, 2, 4, 63, 64, 3, 65, 66, 67, 68, 69, 70, 71, 72, 73, 74, 75, 76, 77, 78, 79, 80, 81, 82, 83, 84, 85, 90, 91, 92, 93, 94, 95, 96, 97, 98, 99, 100, 101, 102, 103, 104, 105, 106, 107, 108, 109, 110, 111, 112, 113, 114, 115, 116, 117, 118, 119, 120, 121, 122] (by decide +kernel) (by decide +kernel)
set_option maxRecDepth 20000 in
theorem gX5_said_X5_refusal : GoodIn wsX5_said (wsV RX5 190 RX5 yX5_refusal wsX5_refusal) := goodIn_app (goodIn_of _ (by decide +kernel)) ggX5_said_X5_refusal
set_option maxRecDepth 20000 in
theorem ggX5_said_X5_back : GoodIn wsX5_said wsX5_back := goodIn_r _ [89, 19, 18, 20, 21, 90, 91, 92, 93, 94, 95, 96, 97, 98, 99, 100, 101, 102, 103, 104, 105, 106, 107, 108, 109, 110, 111, 112, 113, 114, 115, 116, 117, 118, 119, 120, 121, 122] (by decide +kernel) (by decide +kernel)
set_option maxRecDepth 20000 in
theorem gX5_said_X5_back : GoodIn wsX5_said (wsV RX5 193 RX5 yX5_back wsX5_back) := goodIn_app (goodIn_of _ (by decide +kernel)) ggX5_said_X5_back
theorem dX5_said_0 : decode cX5_said 0 = .ok (.iload_n 1, 1) := by decide +kernel
theorem dX5_said_1 : decode cX5_said 1 = .ok (.i2l, 1) := by decide +kernel
theorem dX5_said_2 : decode cX5_said 2 = .ok (.lconst 0, 1) := by decide +kernel
theorem dX5_said_3 : decode cX5_said 3 = .ok (.ldc2_w 83, 3) := by decide +kernel
theorem dX5_said_6 : decode cX5_said 6 = .ok (.invokestatic 71, 3) := by decide +kernel
theorem dX5_said_9 : decode cX5_said 9 = .ok (.ifCond .ne 6, 3) := by decide +kernel
theorem dX5_said_12 : decode cX5_said 12 = .ok (.bipush (-2), 2) := by decide +kernel
theorem dX5_said_14 : decode cX5_said 14 = .ok (.ireturn, 1) := by decide +kernel
theorem dX5_said_15 : decode cX5_said 15 = .ok (.aload_n 0, 1) := by decide +kernel
theorem dX5_said_16 : decode cX5_said 16 = .ok (.aload_n 0, 1) := by decide +kernel
theorem dX5_said_17 : decode cX5_said 17 = .ok (.invokevirtual 190, 3) := by decide +kernel
theorem dX5_said_20 : decode cX5_said 20 = .ok (.invokevirtual 193, 3) := by decide +kernel
theorem dX5_said_23 : decode cX5_said 23 = .ok (.istore_n 2, 1) := by decide +kernel
theorem dX5_said_24 : decode cX5_said 24 = .ok (.iload_n 2, 1) := by decide +kernel
theorem dX5_said_25 : decode cX5_said 25 = .ok (.bipush (-6), 2) := by decide +kernel
theorem dX5_said_27 : decode cX5_said 27 = .ok (.if_icmp .eq 7, 3) := by decide +kernel
theorem dX5_said_30 : decode cX5_said 30 = .ok (.iload_n 2, 1) := by decide +kernel
theorem dX5_said_31 : decode cX5_said 31 = .ok (.goto 30, 3) := by decide +kernel
theorem dX5_said_34 : decode cX5_said 34 = .ok (.iload_n 1, 1) := by decide +kernel
theorem dX5_said_35 : decode cX5_said 35 = .ok (.ifCond .ne 10, 3) := by decide +kernel
theorem dX5_said_38 : decode cX5_said 38 = .ok (.aload_n 0, 1) := by decide +kernel
theorem dX5_said_39 : decode cX5_said 39 = .ok (.getfield 142, 3) := by decide +kernel
theorem dX5_said_42 : decode cX5_said 42 = .ok (.goto 19, 3) := by decide +kernel
theorem dX5_said_45 : decode cX5_said 45 = .ok (.iload_n 1, 1) := by decide +kernel
theorem dX5_said_46 : decode cX5_said 46 = .ok (.iconst 1, 1) := by decide +kernel
theorem dX5_said_47 : decode cX5_said 47 = .ok (.if_icmp .ne 10, 3) := by decide +kernel
theorem dX5_said_50 : decode cX5_said 50 = .ok (.aload_n 0, 1) := by decide +kernel
theorem dX5_said_51 : decode cX5_said 51 = .ok (.getfield 145, 3) := by decide +kernel
theorem dX5_said_54 : decode cX5_said 54 = .ok (.goto 7, 3) := by decide +kernel
theorem dX5_said_57 : decode cX5_said 57 = .ok (.aload_n 0, 1) := by decide +kernel
theorem dX5_said_58 : decode cX5_said 58 = .ok (.getfield 151, 3) := by decide +kernel
theorem dX5_said_61 : decode cX5_said 61 = .ok (.ireturn, 1) := by decide +kernel
set_option maxRecDepth 20000 in
theorem ggX5_done_X5_refusal : GoodIn wsX5_done wsX5_refusal := goodIn_r _ [7, 8, 9, 10, 11, 6, 12, 13, 14, 15, 16, 17, 18, 19, 20, 2, 1, 21, 22, 23, 24, 25, 26, 27, 28, 29, 30, 31, 32, 33, 34, 35, 36, 37, 38, 39, 40, 41, 42, 43, 44, 45, 46, 47, 48, 49, 50, 51, 52, 53, 54, 55, 56, 57, 58, 59, 60, 61, 62, 63, 64, 65, 66, 67, 68, 69, 70, 71, 72, 73, 74, 75, 76, 77, 78, 79, 80, 81, 82, 83, 84, 89, 90, 91, 92, 93, 94, 95, 96, 97, 98, 99, 100, 101, 102, 103, 104, 105, 106, 107, 108, 109, 110, 111, 112, 113, 114, 115, 116, 117, 118, 119, 120, 121] (by decide +kernel) (by decide +kernel)
set_option maxRecDepth 20000 in
theorem gX5_done_X5_refusal : GoodIn wsX5_done (wsV RX5 190 RX5 yX5_refusal wsX5_refusal) := goodIn_app (goodIn_of _ (by decide +kernel)) ggX5_done_X5_refusal
set_option maxRecDepth 20000 in
theorem ggX5_done_X5_back : GoodIn wsX5_done wsX5_back := goodIn_r _ [88, 14, 13, 15, 16, 89, 90, 91, 92, 93, 94, 95, 96, 97, 98, 99, 100, 101, 102, 103, 104, 105, 106, 107, 108, 109, 110, 111, 112, 113, 114, 115, 116, 117, 118, 119, 120, 121] (by decide +kernel) (by decide +kernel)
set_option maxRecDepth 20000 in
theorem gX5_done_X5_back : GoodIn wsX5_done (wsV RX5 193 RX5 yX5_back wsX5_back) := goodIn_app (goodIn_of _ (by decide +kernel)) ggX5_done_X5_back
theorem dX5_done_0 : decode cX5_done 0 = .ok (.aload_n 0, 1) := by decide +kernel
theorem dX5_done_1 : decode cX5_done 1 = .ok (.invokevirtual 190, 3) := by decide +kernel
theorem dX5_done_4 : decode cX5_done 4 = .ok (.istore_n 1, 1) := by decide +kernel
theorem dX5_done_5 : decode cX5_done 5 = .ok (.iload_n 1, 1) := by decide +kernel
theorem dX5_done_6 : decode cX5_done 6 = .ok (.bipush (-6), 2) := by decide +kernel
theorem dX5_done_8 : decode cX5_done 8 = .ok (.if_icmp .eq 9, 3) := by decide +kernel
theorem dX5_done_11 : decode cX5_done 11 = .ok (.aload_n 0, 1) := by decide +kernel
theorem dX5_done_12 : decode cX5_done 12 = .ok (.iload_n 1, 1) := by decide +kernel
theorem dX5_done_13 : decode cX5_done 13 = .ok (.invokevirtual 193, 3) := by decide +kernel
theorem dX5_done_16 : decode cX5_done 16 = .ok (.ireturn, 1) := by decide +kernel
theorem dX5_done_17 : decode cX5_done 17 = .ok (.aload_n 0, 1) := by decide +kernel
theorem dX5_done_18 : decode cX5_done 18 = .ok (.iconst 0, 1) := by decide +kernel
theorem dX5_done_19 : decode cX5_done 19 = .ok (.putfield 106, 3) := by decide +kernel
theorem dX5_done_22 : decode cX5_done 22 = .ok (.aload_n 0, 1) := by decide +kernel
theorem dX5_done_23 : decode cX5_done 23 = .ok (.getfield 110, 3) := by decide +kernel
theorem dX5_done_26 : decode cX5_done 26 = .ok (.ireturn, 1) := by decide +kernel
set_option maxRecDepth 20000 in
theorem ggX5_scales_X5_in : GoodIn wsX5_scales wsX5_in := goodIn_r _ [7] (by decide +kernel) (by decide +kernel)
set_option maxRecDepth 20000 in
theorem gX5_scales_X5_in : GoodIn wsX5_scales (va_wsS RX5 71 yX5_in wsX5_in) := goodIn_app (goodIn_of _ (by decide +kernel)) ggX5_scales_X5_in
theorem dX5_scales_0 : decode cX5_scales 0 = .ok (.iload_n 1, 1) := by decide +kernel
theorem dX5_scales_1 : decode cX5_scales 1 = .ok (.i2l, 1) := by decide +kernel
theorem dX5_scales_2 : decode cX5_scales 2 = .ok (.lconst 0, 1) := by decide +kernel
theorem dX5_scales_3 : decode cX5_scales 3 = .ok (.ldc2_w 100, 3) := by decide +kernel
theorem dX5_scales_6 : decode cX5_scales 6 = .ok (.invokestatic 71, 3) := by decide +kernel
theorem dX5_scales_9 : decode cX5_scales 9 = .ok (.ifCond .ne 6, 3) := by decide +kernel
theorem dX5_scales_12 : decode cX5_scales 12 = .ok (.bipush (-2), 2) := by decide +kernel
theorem dX5_scales_14 : decode cX5_scales 14 = .ok (.ireturn, 1) := by decide +kernel
theorem dX5_scales_15 : decode cX5_scales 15 = .ok (.iconst 0, 1) := by decide +kernel
theorem dX5_scales_16 : decode cX5_scales 16 = .ok (.istore_n 2, 1) := by decide +kernel
theorem dX5_scales_17 : decode cX5_scales 17 = .ok (.iconst 0, 1) := by decide +kernel
theorem dX5_scales_18 : decode cX5_scales 18 = .ok (.istore_n 3, 1) := by decide +kernel
theorem dX5_scales_19 : decode cX5_scales 19 = .ok (.iload_n 3, 1) := by decide +kernel
theorem dX5_scales_20 : decode cX5_scales 20 = .ok (.bipush 12, 2) := by decide +kernel
theorem dX5_scales_22 : decode cX5_scales 22 = .ok (.if_icmp .ge 92, 3) := by decide +kernel
theorem dX5_scales_25 : decode cX5_scales 25 = .ok (.iconst 0, 1) := by decide +kernel
theorem dX5_scales_26 : decode cX5_scales 26 = .ok (.istore 4, 2) := by decide +kernel
theorem dX5_scales_28 : decode cX5_scales 28 = .ok (.iconst 0, 1) := by decide +kernel
theorem dX5_scales_29 : decode cX5_scales 29 = .ok (.istore 5, 2) := by decide +kernel
theorem dX5_scales_31 : decode cX5_scales 31 = .ok (.iload 5, 2) := by decide +kernel
theorem dX5_scales_33 : decode cX5_scales 33 = .ok (.bipush 12, 2) := by decide +kernel
theorem dX5_scales_35 : decode cX5_scales 35 = .ok (.if_icmp .ge 68, 3) := by decide +kernel
theorem dX5_scales_38 : decode cX5_scales 38 = .ok (.iload_n 1, 1) := by decide +kernel
theorem dX5_scales_39 : decode cX5_scales 39 = .ok (.iload 5, 2) := by decide +kernel
theorem dX5_scales_41 : decode cX5_scales 41 = .ok (.ishr, 1) := by decide +kernel
theorem dX5_scales_42 : decode cX5_scales 42 = .ok (.iconst 1, 1) := by decide +kernel
theorem dX5_scales_43 : decode cX5_scales 43 = .ok (.iand, 1) := by decide +kernel
theorem dX5_scales_44 : decode cX5_scales 44 = .ok (.iconst 1, 1) := by decide +kernel
theorem dX5_scales_45 : decode cX5_scales 45 = .ok (.if_icmp .ne 18, 3) := by decide +kernel
theorem dX5_scales_48 : decode cX5_scales 48 = .ok (.aload_n 0, 1) := by decide +kernel
theorem dX5_scales_49 : decode cX5_scales 49 = .ok (.getfield 16, 3) := by decide +kernel
theorem dX5_scales_52 : decode cX5_scales 52 = .ok (.iload 5, 2) := by decide +kernel
theorem dX5_scales_54 : decode cX5_scales 54 = .ok (.iaload, 1) := by decide +kernel
theorem dX5_scales_55 : decode cX5_scales 55 = .ok (.iload_n 3, 1) := by decide +kernel
theorem dX5_scales_56 : decode cX5_scales 56 = .ok (.if_icmp .ne 7, 3) := by decide +kernel
theorem dX5_scales_59 : decode cX5_scales 59 = .ok (.iconst 1, 1) := by decide +kernel
theorem dX5_scales_60 : decode cX5_scales 60 = .ok (.goto 4, 3) := by decide +kernel
theorem dX5_scales_63 : decode cX5_scales 63 = .ok (.iconst 0, 1) := by decide +kernel
theorem dX5_scales_64 : decode cX5_scales 64 = .ok (.istore 6, 2) := by decide +kernel
theorem dX5_scales_66 : decode cX5_scales 66 = .ok (.iload 6, 2) := by decide +kernel
theorem dX5_scales_68 : decode cX5_scales 68 = .ok (.ifCond .eq 25, 3) := by decide +kernel
theorem dX5_scales_71 : decode cX5_scales 71 = .ok (.aload_n 0, 1) := by decide +kernel
theorem dX5_scales_72 : decode cX5_scales 72 = .ok (.getfield 7, 3) := by decide +kernel
theorem dX5_scales_75 : decode cX5_scales 75 = .ok (.iload 5, 2) := by decide +kernel
theorem dX5_scales_77 : decode cX5_scales 77 = .ok (.iaload, 1) := by decide +kernel
theorem dX5_scales_78 : decode cX5_scales 78 = .ok (.iload 4, 2) := by decide +kernel
theorem dX5_scales_80 : decode cX5_scales 80 = .ok (.if_icmp .le 13, 3) := by decide +kernel
theorem dX5_scales_83 : decode cX5_scales 83 = .ok (.aload_n 0, 1) := by decide +kernel
theorem dX5_scales_84 : decode cX5_scales 84 = .ok (.getfield 7, 3) := by decide +kernel
theorem dX5_scales_87 : decode cX5_scales 87 = .ok (.iload 5, 2) := by decide +kernel
theorem dX5_scales_89 : decode cX5_scales 89 = .ok (.iaload, 1) := by decide +kernel
theorem dX5_scales_90 : decode cX5_scales 90 = .ok (.goto 5, 3) := by decide +kernel
theorem dX5_scales_93 : decode cX5_scales 93 = .ok (.iload 4, 2) := by decide +kernel
theorem dX5_scales_95 : decode cX5_scales 95 = .ok (.istore 4, 2) := by decide +kernel
theorem dX5_scales_97 : decode cX5_scales 97 = .ok (.iinc 5 1, 3) := by decide +kernel
theorem dX5_scales_100 : decode cX5_scales 100 = .ok (.goto (-69), 3) := by decide +kernel
theorem dX5_scales_103 : decode cX5_scales 103 = .ok (.iload_n 2, 1) := by decide +kernel
theorem dX5_scales_104 : decode cX5_scales 104 = .ok (.iload 4, 2) := by decide +kernel
theorem dX5_scales_106 : decode cX5_scales 106 = .ok (.iadd, 1) := by decide +kernel
theorem dX5_scales_107 : decode cX5_scales 107 = .ok (.istore_n 2, 1) := by decide +kernel
theorem dX5_scales_108 : decode cX5_scales 108 = .ok (.iinc 3 1, 3) := by decide +kernel
theorem dX5_scales_111 : decode cX5_scales 111 = .ok (.goto (-92), 3) := by decide +kernel
theorem dX5_scales_114 : decode cX5_scales 114 = .ok (.iload_n 2, 1) := by decide +kernel
theorem dX5_scales_115 : decode cX5_scales 115 = .ok (.ireturn, 1) := by decide +kernel
theorem dX5_manyOf_0 : decode cX5_manyOf 0 = .ok (.iconst 0, 1) := by decide +kernel
theorem dX5_manyOf_1 : decode cX5_manyOf 1 = .ok (.istore_n 3, 1) := by decide +kernel
theorem dX5_manyOf_2 : decode cX5_manyOf 2 = .ok (.iconst 0, 1) := by decide +kernel
theorem dX5_manyOf_3 : decode cX5_manyOf 3 = .ok (.istore 4, 2) := by decide +kernel
theorem dX5_manyOf_5 : decode cX5_manyOf 5 = .ok (.iload 4, 2) := by decide +kernel
theorem dX5_manyOf_7 : decode cX5_manyOf 7 = .ok (.bipush 12, 2) := by decide +kernel
theorem dX5_manyOf_9 : decode cX5_manyOf 9 = .ok (.if_icmp .ge 38, 3) := by decide +kernel
theorem dX5_manyOf_12 : decode cX5_manyOf 12 = .ok (.iload_n 3, 1) := by decide +kernel
theorem dX5_manyOf_13 : decode cX5_manyOf 13 = .ok (.iload_n 1, 1) := by decide +kernel
theorem dX5_manyOf_14 : decode cX5_manyOf 14 = .ok (.iload 4, 2) := by decide +kernel
theorem dX5_manyOf_16 : decode cX5_manyOf 16 = .ok (.ishr, 1) := by decide +kernel
theorem dX5_manyOf_17 : decode cX5_manyOf 17 = .ok (.iconst 1, 1) := by decide +kernel
theorem dX5_manyOf_18 : decode cX5_manyOf 18 = .ok (.iand, 1) := by decide +kernel
theorem dX5_manyOf_19 : decode cX5_manyOf 19 = .ok (.iconst 1, 1) := by decide +kernel
theorem dX5_manyOf_20 : decode cX5_manyOf 20 = .ok (.if_icmp .ne 18, 3) := by decide +kernel
theorem dX5_manyOf_23 : decode cX5_manyOf 23 = .ok (.aload_n 0, 1) := by decide +kernel
theorem dX5_manyOf_24 : decode cX5_manyOf 24 = .ok (.getfield 13, 3) := by decide +kernel
theorem dX5_manyOf_27 : decode cX5_manyOf 27 = .ok (.iload 4, 2) := by decide +kernel
theorem dX5_manyOf_29 : decode cX5_manyOf 29 = .ok (.iaload, 1) := by decide +kernel
theorem dX5_manyOf_30 : decode cX5_manyOf 30 = .ok (.iload_n 2, 1) := by decide +kernel
theorem dX5_manyOf_31 : decode cX5_manyOf 31 = .ok (.if_icmp .ne 7, 3) := by decide +kernel
theorem dX5_manyOf_34 : decode cX5_manyOf 34 = .ok (.iconst 1, 1) := by decide +kernel
theorem dX5_manyOf_35 : decode cX5_manyOf 35 = .ok (.goto 4, 3) := by decide +kernel
theorem dX5_manyOf_38 : decode cX5_manyOf 38 = .ok (.iconst 0, 1) := by decide +kernel
theorem dX5_manyOf_39 : decode cX5_manyOf 39 = .ok (.iadd, 1) := by decide +kernel
theorem dX5_manyOf_40 : decode cX5_manyOf 40 = .ok (.istore_n 3, 1) := by decide +kernel
theorem dX5_manyOf_41 : decode cX5_manyOf 41 = .ok (.iinc 4 1, 3) := by decide +kernel
theorem dX5_manyOf_44 : decode cX5_manyOf 44 = .ok (.goto (-39), 3) := by decide +kernel
theorem dX5_manyOf_47 : decode cX5_manyOf 47 = .ok (.iload_n 3, 1) := by decide +kernel
theorem dX5_manyOf_48 : decode cX5_manyOf 48 = .ok (.ireturn, 1) := by decide +kernel
theorem dX5_times_0 : decode cX5_times 0 = .ok (.lconst 1, 1) := by decide +kernel
theorem dX5_times_1 : decode cX5_times 1 = .ok (.lstore_n 3, 1) := by decide +kernel
theorem dX5_times_2 : decode cX5_times 2 = .ok (.iconst 0, 1) := by decide +kernel
theorem dX5_times_3 : decode cX5_times 3 = .ok (.istore 5, 2) := by decide +kernel
theorem dX5_times_5 : decode cX5_times 5 = .ok (.iload 5, 2) := by decide +kernel
theorem dX5_times_7 : decode cX5_times 7 = .ok (.iload_n 2, 1) := by decide +kernel
theorem dX5_times_8 : decode cX5_times 8 = .ok (.if_icmp .ge 13, 3) := by decide +kernel
theorem dX5_times_11 : decode cX5_times 11 = .ok (.lload_n 3, 1) := by decide +kernel
theorem dX5_times_12 : decode cX5_times 12 = .ok (.lload_n 0, 1) := by decide +kernel
theorem dX5_times_13 : decode cX5_times 13 = .ok (.lmul, 1) := by decide +kernel
theorem dX5_times_14 : decode cX5_times 14 = .ok (.lstore_n 3, 1) := by decide +kernel
theorem dX5_times_15 : decode cX5_times 15 = .ok (.iinc 5 1, 3) := by decide +kernel
theorem dX5_times_18 : decode cX5_times 18 = .ok (.goto (-13), 3) := by decide +kernel
theorem dX5_times_21 : decode cX5_times 21 = .ok (.lload_n 3, 1) := by decide +kernel
theorem dX5_times_22 : decode cX5_times 22 = .ok (.lreturn, 1) := by decide +kernel
set_option maxRecDepth 20000 in
theorem ggX5_says_X5_isSpeaker : GoodIn wsX5_says wsX5_isSpeaker := goodIn_r _ [8, 9, 10, 11, 7, 12] (by decide +kernel) (by decide +kernel)
set_option maxRecDepth 20000 in
theorem gX5_says_X5_isSpeaker : GoodIn wsX5_says (va_wsS RX5 95 yX5_isSpeaker wsX5_isSpeaker) := goodIn_app (goodIn_of _ (by decide +kernel)) ggX5_says_X5_isSpeaker
set_option maxRecDepth 20000 in
theorem ggX5_says_X5_in : GoodIn wsX5_says wsX5_in := goodIn_r _ [12] (by decide +kernel) (by decide +kernel)
set_option maxRecDepth 20000 in
theorem gX5_says_X5_in : GoodIn wsX5_says (va_wsS RX5 71 yX5_in wsX5_in) := goodIn_app (goodIn_of _ (by decide +kernel)) ggX5_says_X5_in
set_option maxRecDepth 20000 in
theorem ggX5_says_X5_manyOf : GoodIn wsX5_says wsX5_manyOf := goodIn_r _ [16, 17, 21, 22, 23, 24, 25, 26, 27, 28, 29, 30, 31, 32, 33, 34, 35, 36, 37, 38, 39, 40, 41, 42, 43, 44, 45, 46, 47, 48, 49, 50, 51, 52, 53] (by decide +kernel) (by decide +kernel)
set_option maxRecDepth 20000 in
theorem gX5_says_X5_manyOf : GoodIn wsX5_says (wsV RX5 202 RX5 yX5_manyOf wsX5_manyOf) := goodIn_app (goodIn_of _ (by decide +kernel)) ggX5_says_X5_manyOf
set_option maxRecDepth 20000 in
theorem ggX5_says_X5_times : GoodIn wsX5_says wsX5_times := goodIn_r _ [20] (by decide +kernel) (by decide +kernel)
set_option maxRecDepth 20000 in
theorem gX5_says_X5_times : GoodIn wsX5_says (va_wsS RX5 205 yX5_times wsX5_times) := goodIn_app (goodIn_of _ (by decide +kernel)) ggX5_says_X5_times
theorem dX5_says_0 : decode cX5_says 0 = .ok (.iload_n 1, 1) := by decide +kernel
theorem dX5_says_1 : decode cX5_says 1 = .ok (.invokestatic 95, 3) := by decide +kernel
theorem dX5_says_4 : decode cX5_says 4 = .ok (.ifCond .ne 7, 3) := by decide +kernel
theorem dX5_says_7 : decode cX5_says 7 = .ok (.ldc2_w 196, 3) := by decide +kernel
theorem dX5_says_10 : decode cX5_says 10 = .ok (.lreturn, 1) := by decide +kernel
theorem dX5_says_11 : decode cX5_says 11 = .ok (.iload_n 2, 1) := by decide +kernel
theorem dX5_says_12 : decode cX5_says 12 = .ok (.i2l, 1) := by decide +kernel
theorem dX5_says_13 : decode cX5_says 13 = .ok (.lconst 1, 1) := by decide +kernel
theorem dX5_says_14 : decode cX5_says 14 = .ok (.ldc2_w 198, 3) := by decide +kernel
theorem dX5_says_17 : decode cX5_says 17 = .ok (.invokestatic 71, 3) := by decide +kernel
theorem dX5_says_20 : decode cX5_says 20 = .ok (.ifCond .ne 7, 3) := by decide +kernel
theorem dX5_says_23 : decode cX5_says 23 = .ok (.ldc2_w 200, 3) := by decide +kernel
theorem dX5_says_26 : decode cX5_says 26 = .ok (.lreturn, 1) := by decide +kernel
theorem dX5_says_27 : decode cX5_says 27 = .ok (.aload_n 0, 1) := by decide +kernel
theorem dX5_says_28 : decode cX5_says 28 = .ok (.aload_n 0, 1) := by decide +kernel
theorem dX5_says_29 : decode cX5_says 29 = .ok (.getfield 22, 3) := by decide +kernel
theorem dX5_says_32 : decode cX5_says 32 = .ok (.iload_n 1, 1) := by decide +kernel
theorem dX5_says_33 : decode cX5_says 33 = .ok (.iaload, 1) := by decide +kernel
theorem dX5_says_34 : decode cX5_says 34 = .ok (.iconst 0, 1) := by decide +kernel
theorem dX5_says_35 : decode cX5_says 35 = .ok (.invokevirtual 202, 3) := by decide +kernel
theorem dX5_says_38 : decode cX5_says 38 = .ok (.i2l, 1) := by decide +kernel
theorem dX5_says_39 : decode cX5_says 39 = .ok (.lstore_n 3, 1) := by decide +kernel
theorem dX5_says_40 : decode cX5_says 40 = .ok (.aload_n 0, 1) := by decide +kernel
theorem dX5_says_41 : decode cX5_says 41 = .ok (.aload_n 0, 1) := by decide +kernel
theorem dX5_says_42 : decode cX5_says 42 = .ok (.getfield 22, 3) := by decide +kernel
theorem dX5_says_45 : decode cX5_says 45 = .ok (.iload_n 1, 1) := by decide +kernel
theorem dX5_says_46 : decode cX5_says 46 = .ok (.iaload, 1) := by decide +kernel
theorem dX5_says_47 : decode cX5_says 47 = .ok (.iconst 1, 1) := by decide +kernel
theorem dX5_says_48 : decode cX5_says 48 = .ok (.invokevirtual 202, 3) := by decide +kernel
theorem dX5_says_51 : decode cX5_says 51 = .ok (.i2l, 1) := by decide +kernel
theorem dX5_says_52 : decode cX5_says 52 = .ok (.lstore 5, 2) := by decide +kernel
theorem dX5_says_54 : decode cX5_says 54 = .ok (.aload_n 0, 1) := by decide +kernel
theorem dX5_says_55 : decode cX5_says 55 = .ok (.aload_n 0, 1) := by decide +kernel
theorem dX5_says_56 : decode cX5_says 56 = .ok (.getfield 22, 3) := by decide +kernel
theorem dX5_says_59 : decode cX5_says 59 = .ok (.iload_n 1, 1) := by decide +kernel
theorem dX5_says_60 : decode cX5_says 60 = .ok (.iaload, 1) := by decide +kernel
theorem dX5_says_61 : decode cX5_says 61 = .ok (.iconst 2, 1) := by decide +kernel
theorem dX5_says_62 : decode cX5_says 62 = .ok (.invokevirtual 202, 3) := by decide +kernel
theorem dX5_says_65 : decode cX5_says 65 = .ok (.i2l, 1) := by decide +kernel
theorem dX5_says_66 : decode cX5_says 66 = .ok (.lstore 7, 2) := by decide +kernel
theorem dX5_says_68 : decode cX5_says 68 = .ok (.iload_n 2, 1) := by decide +kernel
theorem dX5_says_69 : decode cX5_says 69 = .ok (.iconst 2, 1) := by decide +kernel
theorem dX5_says_70 : decode cX5_says 70 = .ok (.if_icmp .ge 7, 3) := by decide +kernel
theorem dX5_says_73 : decode cX5_says 73 = .ok (.lconst 0, 1) := by decide +kernel
theorem dX5_says_74 : decode cX5_says 74 = .ok (.goto 16, 3) := by decide +kernel
theorem dX5_says_77 : decode cX5_says 77 = .ok (.lload 7, 2) := by decide +kernel
theorem dX5_says_79 : decode cX5_says 79 = .ok (.iload_n 2, 1) := by decide +kernel
theorem dX5_says_80 : decode cX5_says 80 = .ok (.iconst 2, 1) := by decide +kernel
theorem dX5_says_81 : decode cX5_says 81 = .ok (.isub, 1) := by decide +kernel
theorem dX5_says_82 : decode cX5_says 82 = .ok (.invokestatic 205, 3) := by decide +kernel
theorem dX5_says_85 : decode cX5_says 85 = .ok (.lload_n 3, 1) := by decide +kernel
theorem dX5_says_86 : decode cX5_says 86 = .ok (.lmul, 1) := by decide +kernel
theorem dX5_says_87 : decode cX5_says 87 = .ok (.lload 5, 2) := by decide +kernel
theorem dX5_says_89 : decode cX5_says 89 = .ok (.lmul, 1) := by decide +kernel
theorem dX5_says_90 : decode cX5_says 90 = .ok (.lstore 9, 2) := by decide +kernel
theorem dX5_says_92 : decode cX5_says 92 = .ok (.iload_n 2, 1) := by decide +kernel
theorem dX5_says_93 : decode cX5_says 93 = .ok (.iconst 3, 1) := by decide +kernel
theorem dX5_says_94 : decode cX5_says 94 = .ok (.if_icmp .ge 7, 3) := by decide +kernel
theorem dX5_says_97 : decode cX5_says 97 = .ok (.lconst 0, 1) := by decide +kernel
theorem dX5_says_98 : decode cX5_says 98 = .ok (.goto 23, 3) := by decide +kernel
theorem dX5_says_101 : decode cX5_says 101 = .ok (.iload_n 2, 1) := by decide +kernel
theorem dX5_says_102 : decode cX5_says 102 = .ok (.iconst 2, 1) := by decide +kernel
theorem dX5_says_103 : decode cX5_says 103 = .ok (.isub, 1) := by decide +kernel
theorem dX5_says_104 : decode cX5_says 104 = .ok (.i2l, 1) := by decide +kernel
theorem dX5_says_105 : decode cX5_says 105 = .ok (.lload 7, 2) := by decide +kernel
theorem dX5_says_107 : decode cX5_says 107 = .ok (.iload_n 2, 1) := by decide +kernel
theorem dX5_says_108 : decode cX5_says 108 = .ok (.iconst 3, 1) := by decide +kernel
theorem dX5_says_109 : decode cX5_says 109 = .ok (.isub, 1) := by decide +kernel
theorem dX5_says_110 : decode cX5_says 110 = .ok (.invokestatic 205, 3) := by decide +kernel
theorem dX5_says_113 : decode cX5_says 113 = .ok (.lmul, 1) := by decide +kernel
theorem dX5_says_114 : decode cX5_says 114 = .ok (.lload_n 3, 1) := by decide +kernel
theorem dX5_says_115 : decode cX5_says 115 = .ok (.lmul, 1) := by decide +kernel
theorem dX5_says_116 : decode cX5_says 116 = .ok (.lload 5, 2) := by decide +kernel
theorem dX5_says_118 : decode cX5_says 118 = .ok (.lmul, 1) := by decide +kernel
theorem dX5_says_119 : decode cX5_says 119 = .ok (.lload_n 3, 1) := by decide +kernel
theorem dX5_says_120 : decode cX5_says 120 = .ok (.lmul, 1) := by decide +kernel
theorem dX5_says_121 : decode cX5_says 121 = .ok (.lstore 11, 2) := by decide +kernel
theorem dX5_says_123 : decode cX5_says 123 = .ok (.lload 9, 2) := by decide +kernel
theorem dX5_says_125 : decode cX5_says 125 = .ok (.lload 11, 2) := by decide +kernel
theorem dX5_says_127 : decode cX5_says 127 = .ok (.ladd, 1) := by decide +kernel
theorem dX5_says_128 : decode cX5_says 128 = .ok (.lreturn, 1) := by decide +kernel
set_option maxRecDepth 20000 in
theorem ggX5_isSentence_X5_manyOf : GoodIn wsX5_isSentence wsX5_manyOf := goodIn_r _ [5, 6, 10, 11, 12, 13, 14, 15, 16, 17, 18, 19, 20, 21, 22, 23, 24, 25, 26, 27, 28, 29, 30, 31, 32, 33, 34, 35, 36, 37, 38, 39, 40, 41, 42] (by decide +kernel) (by decide +kernel)
set_option maxRecDepth 20000 in
theorem gX5_isSentence_X5_manyOf : GoodIn wsX5_isSentence (wsV RX5 202 RX5 yX5_manyOf wsX5_manyOf) := goodIn_app (goodIn_of _ (by decide +kernel)) ggX5_isSentence_X5_manyOf
set_option maxRecDepth 20000 in
theorem ggX5_isSentence_X5_ones : GoodIn wsX5_isSentence wsX5_ones := goodIn_r _ [9] (by decide +kernel) (by decide +kernel)
set_option maxRecDepth 20000 in
theorem gX5_isSentence_X5_ones : GoodIn wsX5_isSentence (va_wsS RX5 89 yX5_ones wsX5_ones) := goodIn_app (goodIn_of _ (by decide +kernel)) ggX5_isSentence_X5_ones
theorem dX5_isSentence_0 : decode cX5_isSentence 0 = .ok (.aload_n 0, 1) := by decide +kernel
theorem dX5_isSentence_1 : decode cX5_isSentence 1 = .ok (.iload_n 1, 1) := by decide +kernel
theorem dX5_isSentence_2 : decode cX5_isSentence 2 = .ok (.iconst 0, 1) := by decide +kernel
theorem dX5_isSentence_3 : decode cX5_isSentence 3 = .ok (.invokevirtual 202, 3) := by decide +kernel
theorem dX5_isSentence_6 : decode cX5_isSentence 6 = .ok (.istore_n 3, 1) := by decide +kernel
theorem dX5_isSentence_7 : decode cX5_isSentence 7 = .ok (.iload_n 1, 1) := by decide +kernel
theorem dX5_isSentence_8 : decode cX5_isSentence 8 = .ok (.invokestatic 89, 3) := by decide +kernel
theorem dX5_isSentence_11 : decode cX5_isSentence 11 = .ok (.iload_n 2, 1) := by decide +kernel
theorem dX5_isSentence_12 : decode cX5_isSentence 12 = .ok (.if_icmp .ne 27, 3) := by decide +kernel
theorem dX5_isSentence_15 : decode cX5_isSentence 15 = .ok (.aload_n 0, 1) := by decide +kernel
theorem dX5_isSentence_16 : decode cX5_isSentence 16 = .ok (.iload_n 1, 1) := by decide +kernel
theorem dX5_isSentence_17 : decode cX5_isSentence 17 = .ok (.iconst 1, 1) := by decide +kernel
theorem dX5_isSentence_18 : decode cX5_isSentence 18 = .ok (.invokevirtual 202, 3) := by decide +kernel
theorem dX5_isSentence_21 : decode cX5_isSentence 21 = .ok (.iconst 1, 1) := by decide +kernel
theorem dX5_isSentence_22 : decode cX5_isSentence 22 = .ok (.if_icmp .ne 17, 3) := by decide +kernel
theorem dX5_isSentence_25 : decode cX5_isSentence 25 = .ok (.iload_n 3, 1) := by decide +kernel
theorem dX5_isSentence_26 : decode cX5_isSentence 26 = .ok (.iconst 1, 1) := by decide +kernel
theorem dX5_isSentence_27 : decode cX5_isSentence 27 = .ok (.if_icmp .eq 8, 3) := by decide +kernel
theorem dX5_isSentence_30 : decode cX5_isSentence 30 = .ok (.iload_n 3, 1) := by decide +kernel
theorem dX5_isSentence_31 : decode cX5_isSentence 31 = .ok (.iconst 2, 1) := by decide +kernel
theorem dX5_isSentence_32 : decode cX5_isSentence 32 = .ok (.if_icmp .ne 7, 3) := by decide +kernel
theorem dX5_isSentence_35 : decode cX5_isSentence 35 = .ok (.iconst 1, 1) := by decide +kernel
theorem dX5_isSentence_36 : decode cX5_isSentence 36 = .ok (.goto 4, 3) := by decide +kernel
theorem dX5_isSentence_39 : decode cX5_isSentence 39 = .ok (.iconst 0, 1) := by decide +kernel
theorem dX5_isSentence_40 : decode cX5_isSentence 40 = .ok (.ireturn, 1) := by decide +kernel
theorem dX5_costOf_0 : decode cX5_costOf 0 = .ok (.iconst 0, 1) := by decide +kernel
theorem dX5_costOf_1 : decode cX5_costOf 1 = .ok (.istore_n 2, 1) := by decide +kernel
theorem dX5_costOf_2 : decode cX5_costOf 2 = .ok (.iconst 0, 1) := by decide +kernel
theorem dX5_costOf_3 : decode cX5_costOf 3 = .ok (.istore_n 3, 1) := by decide +kernel
theorem dX5_costOf_4 : decode cX5_costOf 4 = .ok (.iload_n 3, 1) := by decide +kernel
theorem dX5_costOf_5 : decode cX5_costOf 5 = .ok (.bipush 12, 2) := by decide +kernel
theorem dX5_costOf_7 : decode cX5_costOf 7 = .ok (.if_icmp .ge 31, 3) := by decide +kernel
theorem dX5_costOf_10 : decode cX5_costOf 10 = .ok (.iload_n 2, 1) := by decide +kernel
theorem dX5_costOf_11 : decode cX5_costOf 11 = .ok (.iload_n 1, 1) := by decide +kernel
theorem dX5_costOf_12 : decode cX5_costOf 12 = .ok (.iload_n 3, 1) := by decide +kernel
theorem dX5_costOf_13 : decode cX5_costOf 13 = .ok (.ishr, 1) := by decide +kernel
theorem dX5_costOf_14 : decode cX5_costOf 14 = .ok (.iconst 1, 1) := by decide +kernel
theorem dX5_costOf_15 : decode cX5_costOf 15 = .ok (.iand, 1) := by decide +kernel
theorem dX5_costOf_16 : decode cX5_costOf 16 = .ok (.iconst 1, 1) := by decide +kernel
theorem dX5_costOf_17 : decode cX5_costOf 17 = .ok (.if_icmp .ne 12, 3) := by decide +kernel
theorem dX5_costOf_20 : decode cX5_costOf 20 = .ok (.aload_n 0, 1) := by decide +kernel
theorem dX5_costOf_21 : decode cX5_costOf 21 = .ok (.getfield 7, 3) := by decide +kernel
theorem dX5_costOf_24 : decode cX5_costOf 24 = .ok (.iload_n 3, 1) := by decide +kernel
theorem dX5_costOf_25 : decode cX5_costOf 25 = .ok (.iaload, 1) := by decide +kernel
theorem dX5_costOf_26 : decode cX5_costOf 26 = .ok (.goto 4, 3) := by decide +kernel
theorem dX5_costOf_29 : decode cX5_costOf 29 = .ok (.iconst 0, 1) := by decide +kernel
theorem dX5_costOf_30 : decode cX5_costOf 30 = .ok (.iadd, 1) := by decide +kernel
theorem dX5_costOf_31 : decode cX5_costOf 31 = .ok (.istore_n 2, 1) := by decide +kernel
theorem dX5_costOf_32 : decode cX5_costOf 32 = .ok (.iinc 3 1, 3) := by decide +kernel
theorem dX5_costOf_35 : decode cX5_costOf 35 = .ok (.goto (-31), 3) := by decide +kernel
theorem dX5_costOf_38 : decode cX5_costOf 38 = .ok (.iload_n 2, 1) := by decide +kernel
theorem dX5_costOf_39 : decode cX5_costOf 39 = .ok (.ireturn, 1) := by decide +kernel
set_option maxRecDepth 20000 in
theorem ggX5_cheap_X5_isSpeaker : GoodIn wsX5_cheap wsX5_isSpeaker := goodIn_r _ [6, 7, 8, 9, 5, 10] (by decide +kernel) (by decide +kernel)
set_option maxRecDepth 20000 in
theorem gX5_cheap_X5_isSpeaker : GoodIn wsX5_cheap (va_wsS RX5 95 yX5_isSpeaker wsX5_isSpeaker) := goodIn_app (goodIn_of _ (by decide +kernel)) ggX5_cheap_X5_isSpeaker
set_option maxRecDepth 20000 in
theorem ggX5_cheap_X5_in : GoodIn wsX5_cheap wsX5_in := goodIn_r _ [10] (by decide +kernel) (by decide +kernel)
set_option maxRecDepth 20000 in
theorem gX5_cheap_X5_in : GoodIn wsX5_cheap (va_wsS RX5 71 yX5_in wsX5_in) := goodIn_app (goodIn_of _ (by decide +kernel)) ggX5_cheap_X5_in
set_option maxRecDepth 20000 in
theorem ggX5_cheap_X5_isSentence : GoodIn wsX5_cheap wsX5_isSentence := goodIn_r _ [14, 15, 16, 17, 5, 18, 19, 20, 21, 22, 28, 29, 30, 31, 32, 33, 34, 35, 36, 37, 38, 39, 40, 41, 42, 43, 44, 45, 46, 47, 48, 49, 50, 51, 52, 53, 54, 55, 56, 57, 58, 59, 60] (by decide +kernel) (by decide +kernel)
set_option maxRecDepth 20000 in
theorem gX5_cheap_X5_isSentence : GoodIn wsX5_cheap (wsV RX5 209 RX5 yX5_isSentence wsX5_isSentence) := goodIn_app (goodIn_of _ (by decide +kernel)) ggX5_cheap_X5_isSentence
set_option maxRecDepth 20000 in
theorem ggX5_cheap_X5_costOf : GoodIn wsX5_cheap wsX5_costOf := goodIn_r _ [26, 27, 28, 29, 30, 31, 32, 33, 34, 35, 36, 37, 38, 39, 40, 41, 42, 43, 44, 45, 46, 47, 48, 49, 50, 51, 52, 53, 54, 55, 56, 57, 58, 59, 60] (by decide +kernel) (by decide +kernel)
set_option maxRecDepth 20000 in
theorem gX5_cheap_X5_costOf : GoodIn wsX5_cheap (wsV RX5 212 RX5 yX5_costOf wsX5_costOf) := goodIn_app (goodIn_of _ (by decide +kernel)) ggX5_cheap_X5_costOf
theorem dX5_cheap_0 : decode cX5_cheap 0 = .ok (.iload_n 1, 1) := by decide +kernel
theorem dX5_cheap_1 : decode cX5_cheap 1 = .ok (.invokestatic 95, 3) := by decide +kernel
theorem dX5_cheap_4 : decode cX5_cheap 4 = .ok (.ifCond .ne 5, 3) := by decide +kernel
theorem dX5_cheap_7 : decode cX5_cheap 7 = .ok (.iconst (-1), 1) := by decide +kernel
theorem dX5_cheap_8 : decode cX5_cheap 8 = .ok (.ireturn, 1) := by decide +kernel
theorem dX5_cheap_9 : decode cX5_cheap 9 = .ok (.iload_n 2, 1) := by decide +kernel
theorem dX5_cheap_10 : decode cX5_cheap 10 = .ok (.i2l, 1) := by decide +kernel
theorem dX5_cheap_11 : decode cX5_cheap 11 = .ok (.lconst 1, 1) := by decide +kernel
theorem dX5_cheap_12 : decode cX5_cheap 12 = .ok (.ldc2_w 198, 3) := by decide +kernel
theorem dX5_cheap_15 : decode cX5_cheap 15 = .ok (.invokestatic 71, 3) := by decide +kernel
theorem dX5_cheap_18 : decode cX5_cheap 18 = .ok (.ifCond .eq 13, 3) := by decide +kernel
theorem dX5_cheap_21 : decode cX5_cheap 21 = .ok (.iload_n 3, 1) := by decide +kernel
theorem dX5_cheap_22 : decode cX5_cheap 22 = .ok (.i2l, 1) := by decide +kernel
theorem dX5_cheap_23 : decode cX5_cheap 23 = .ok (.lconst 0, 1) := by decide +kernel
theorem dX5_cheap_24 : decode cX5_cheap 24 = .ok (.lconst 1, 1) := by decide +kernel
theorem dX5_cheap_25 : decode cX5_cheap 25 = .ok (.invokestatic 71, 3) := by decide +kernel
theorem dX5_cheap_28 : decode cX5_cheap 28 = .ok (.ifCond .ne 6, 3) := by decide +kernel
theorem dX5_cheap_31 : decode cX5_cheap 31 = .ok (.bipush (-2), 2) := by decide +kernel
theorem dX5_cheap_33 : decode cX5_cheap 33 = .ok (.ireturn, 1) := by decide +kernel
theorem dX5_cheap_34 : decode cX5_cheap 34 = .ok (.bipush (-6), 2) := by decide +kernel
theorem dX5_cheap_36 : decode cX5_cheap 36 = .ok (.istore 4, 2) := by decide +kernel
theorem dX5_cheap_38 : decode cX5_cheap 38 = .ok (.iconst 0, 1) := by decide +kernel
theorem dX5_cheap_39 : decode cX5_cheap 39 = .ok (.istore 5, 2) := by decide +kernel
theorem dX5_cheap_41 : decode cX5_cheap 41 = .ok (.iconst 1, 1) := by decide +kernel
theorem dX5_cheap_42 : decode cX5_cheap 42 = .ok (.istore 6, 2) := by decide +kernel
theorem dX5_cheap_44 : decode cX5_cheap 44 = .ok (.iload 6, 2) := by decide +kernel
theorem dX5_cheap_46 : decode cX5_cheap 46 = .ok (.sipush 4095, 3) := by decide +kernel
theorem dX5_cheap_49 : decode cX5_cheap 49 = .ok (.if_icmp .gt 73, 3) := by decide +kernel
theorem dX5_cheap_52 : decode cX5_cheap 52 = .ok (.aload_n 0, 1) := by decide +kernel
theorem dX5_cheap_53 : decode cX5_cheap 53 = .ok (.iload 6, 2) := by decide +kernel
theorem dX5_cheap_55 : decode cX5_cheap 55 = .ok (.iload_n 2, 1) := by decide +kernel
theorem dX5_cheap_56 : decode cX5_cheap 56 = .ok (.invokevirtual 209, 3) := by decide +kernel
theorem dX5_cheap_59 : decode cX5_cheap 59 = .ok (.ifCond .eq 57, 3) := by decide +kernel
theorem dX5_cheap_62 : decode cX5_cheap 62 = .ok (.aload_n 0, 1) := by decide +kernel
theorem dX5_cheap_63 : decode cX5_cheap 63 = .ok (.iload 6, 2) := by decide +kernel
theorem dX5_cheap_65 : decode cX5_cheap 65 = .ok (.aload_n 0, 1) := by decide +kernel
theorem dX5_cheap_66 : decode cX5_cheap 66 = .ok (.getfield 22, 3) := by decide +kernel
theorem dX5_cheap_69 : decode cX5_cheap 69 = .ok (.iload_n 1, 1) := by decide +kernel
theorem dX5_cheap_70 : decode cX5_cheap 70 = .ok (.iaload, 1) := by decide +kernel
theorem dX5_cheap_71 : decode cX5_cheap 71 = .ok (.iconst (-1), 1) := by decide +kernel
theorem dX5_cheap_72 : decode cX5_cheap 72 = .ok (.ixor, 1) := by decide +kernel
theorem dX5_cheap_73 : decode cX5_cheap 73 = .ok (.iand, 1) := by decide +kernel
theorem dX5_cheap_74 : decode cX5_cheap 74 = .ok (.invokevirtual 212, 3) := by decide +kernel
theorem dX5_cheap_77 : decode cX5_cheap 77 = .ok (.istore 7, 2) := by decide +kernel
theorem dX5_cheap_79 : decode cX5_cheap 79 = .ok (.iload 4, 2) := by decide +kernel
theorem dX5_cheap_81 : decode cX5_cheap 81 = .ok (.ifCond .lt 10, 3) := by decide +kernel
theorem dX5_cheap_84 : decode cX5_cheap 84 = .ok (.iload 7, 2) := by decide +kernel
theorem dX5_cheap_86 : decode cX5_cheap 86 = .ok (.iload 5, 2) := by decide +kernel
theorem dX5_cheap_88 : decode cX5_cheap 88 = .ok (.if_icmp .ge 8, 3) := by decide +kernel
theorem dX5_cheap_91 : decode cX5_cheap 91 = .ok (.iload 6, 2) := by decide +kernel
theorem dX5_cheap_93 : decode cX5_cheap 93 = .ok (.goto 5, 3) := by decide +kernel
theorem dX5_cheap_96 : decode cX5_cheap 96 = .ok (.iload 4, 2) := by decide +kernel
theorem dX5_cheap_98 : decode cX5_cheap 98 = .ok (.istore 4, 2) := by decide +kernel
theorem dX5_cheap_100 : decode cX5_cheap 100 = .ok (.iload 4, 2) := by decide +kernel
theorem dX5_cheap_102 : decode cX5_cheap 102 = .ok (.iload 6, 2) := by decide +kernel
theorem dX5_cheap_104 : decode cX5_cheap 104 = .ok (.if_icmp .ne 8, 3) := by decide +kernel
theorem dX5_cheap_107 : decode cX5_cheap 107 = .ok (.iload 7, 2) := by decide +kernel
theorem dX5_cheap_109 : decode cX5_cheap 109 = .ok (.goto 5, 3) := by decide +kernel
theorem dX5_cheap_112 : decode cX5_cheap 112 = .ok (.iload 5, 2) := by decide +kernel
theorem dX5_cheap_114 : decode cX5_cheap 114 = .ok (.istore 5, 2) := by decide +kernel
theorem dX5_cheap_116 : decode cX5_cheap 116 = .ok (.iinc 6 1, 3) := by decide +kernel
theorem dX5_cheap_119 : decode cX5_cheap 119 = .ok (.goto (-75), 3) := by decide +kernel
theorem dX5_cheap_122 : decode cX5_cheap 122 = .ok (.iload 4, 2) := by decide +kernel
theorem dX5_cheap_124 : decode cX5_cheap 124 = .ok (.ifCond .lt 8, 3) := by decide +kernel
theorem dX5_cheap_127 : decode cX5_cheap 127 = .ok (.iload_n 3, 1) := by decide +kernel
theorem dX5_cheap_128 : decode cX5_cheap 128 = .ok (.iconst 1, 1) := by decide +kernel
theorem dX5_cheap_129 : decode cX5_cheap 129 = .ok (.if_icmp .ne 8, 3) := by decide +kernel
theorem dX5_cheap_132 : decode cX5_cheap 132 = .ok (.iload 4, 2) := by decide +kernel
theorem dX5_cheap_134 : decode cX5_cheap 134 = .ok (.goto 5, 3) := by decide +kernel
theorem dX5_cheap_137 : decode cX5_cheap 137 = .ok (.iload 5, 2) := by decide +kernel
theorem dX5_cheap_139 : decode cX5_cheap 139 = .ok (.ireturn, 1) := by decide +kernel
set_option maxRecDepth 20000 in
theorem ggX5_canSay_X5_manyOf : GoodIn wsX5_canSay wsX5_manyOf := goodIn_r _ [5, 6, 7, 8, 9, 10, 11, 12, 13, 14, 15, 16, 17, 18, 19, 20, 21, 22, 23, 24, 25, 26, 27, 28, 29, 30, 31, 32, 33, 34, 35, 36, 37, 38, 39] (by decide +kernel) (by decide +kernel)
set_option maxRecDepth 20000 in
theorem gX5_canSay_X5_manyOf : GoodIn wsX5_canSay (wsV RX5 202 RX5 yX5_manyOf wsX5_manyOf) := goodIn_app (goodIn_of _ (by decide +kernel)) ggX5_canSay_X5_manyOf
theorem dX5_canSay_0 : decode cX5_canSay 0 = .ok (.aload_n 0, 1) := by decide +kernel
theorem dX5_canSay_1 : decode cX5_canSay 1 = .ok (.iload_n 1, 1) := by decide +kernel
theorem dX5_canSay_2 : decode cX5_canSay 2 = .ok (.iconst 0, 1) := by decide +kernel
theorem dX5_canSay_3 : decode cX5_canSay 3 = .ok (.invokevirtual 202, 3) := by decide +kernel
theorem dX5_canSay_6 : decode cX5_canSay 6 = .ok (.istore_n 3, 1) := by decide +kernel
theorem dX5_canSay_7 : decode cX5_canSay 7 = .ok (.aload_n 0, 1) := by decide +kernel
theorem dX5_canSay_8 : decode cX5_canSay 8 = .ok (.iload_n 1, 1) := by decide +kernel
theorem dX5_canSay_9 : decode cX5_canSay 9 = .ok (.iconst 2, 1) := by decide +kernel
theorem dX5_canSay_10 : decode cX5_canSay 10 = .ok (.invokevirtual 202, 3) := by decide +kernel
theorem dX5_canSay_13 : decode cX5_canSay 13 = .ok (.istore 4, 2) := by decide +kernel
theorem dX5_canSay_15 : decode cX5_canSay 15 = .ok (.iload_n 2, 1) := by decide +kernel
theorem dX5_canSay_16 : decode cX5_canSay 16 = .ok (.iconst 2, 1) := by decide +kernel
theorem dX5_canSay_17 : decode cX5_canSay 17 = .ok (.if_icmp .lt 20, 3) := by decide +kernel
theorem dX5_canSay_20 : decode cX5_canSay 20 = .ok (.iload_n 3, 1) := by decide +kernel
theorem dX5_canSay_21 : decode cX5_canSay 21 = .ok (.iconst 1, 1) := by decide +kernel
theorem dX5_canSay_22 : decode cX5_canSay 22 = .ok (.if_icmp .lt 15, 3) := by decide +kernel
theorem dX5_canSay_25 : decode cX5_canSay 25 = .ok (.iload 4, 2) := by decide +kernel
theorem dX5_canSay_27 : decode cX5_canSay 27 = .ok (.iload_n 2, 1) := by decide +kernel
theorem dX5_canSay_28 : decode cX5_canSay 28 = .ok (.iconst 2, 1) := by decide +kernel
theorem dX5_canSay_29 : decode cX5_canSay 29 = .ok (.isub, 1) := by decide +kernel
theorem dX5_canSay_30 : decode cX5_canSay 30 = .ok (.if_icmp .lt 7, 3) := by decide +kernel
theorem dX5_canSay_33 : decode cX5_canSay 33 = .ok (.iconst 1, 1) := by decide +kernel
theorem dX5_canSay_34 : decode cX5_canSay 34 = .ok (.goto 4, 3) := by decide +kernel
theorem dX5_canSay_37 : decode cX5_canSay 37 = .ok (.iconst 0, 1) := by decide +kernel
theorem dX5_canSay_38 : decode cX5_canSay 38 = .ok (.istore 5, 2) := by decide +kernel
theorem dX5_canSay_40 : decode cX5_canSay 40 = .ok (.iload_n 2, 1) := by decide +kernel
theorem dX5_canSay_41 : decode cX5_canSay 41 = .ok (.iconst 3, 1) := by decide +kernel
theorem dX5_canSay_42 : decode cX5_canSay 42 = .ok (.if_icmp .lt 20, 3) := by decide +kernel
theorem dX5_canSay_45 : decode cX5_canSay 45 = .ok (.iload_n 3, 1) := by decide +kernel
theorem dX5_canSay_46 : decode cX5_canSay 46 = .ok (.iconst 2, 1) := by decide +kernel
theorem dX5_canSay_47 : decode cX5_canSay 47 = .ok (.if_icmp .lt 15, 3) := by decide +kernel
theorem dX5_canSay_50 : decode cX5_canSay 50 = .ok (.iload 4, 2) := by decide +kernel
theorem dX5_canSay_52 : decode cX5_canSay 52 = .ok (.iload_n 2, 1) := by decide +kernel
theorem dX5_canSay_53 : decode cX5_canSay 53 = .ok (.iconst 3, 1) := by decide +kernel
theorem dX5_canSay_54 : decode cX5_canSay 54 = .ok (.isub, 1) := by decide +kernel
theorem dX5_canSay_55 : decode cX5_canSay 55 = .ok (.if_icmp .lt 7, 3) := by decide +kernel
theorem dX5_canSay_58 : decode cX5_canSay 58 = .ok (.iconst 1, 1) := by decide +kernel
theorem dX5_canSay_59 : decode cX5_canSay 59 = .ok (.goto 4, 3) := by decide +kernel
theorem dX5_canSay_62 : decode cX5_canSay 62 = .ok (.iconst 0, 1) := by decide +kernel
theorem dX5_canSay_63 : decode cX5_canSay 63 = .ok (.istore 6, 2) := by decide +kernel
theorem dX5_canSay_65 : decode cX5_canSay 65 = .ok (.aload_n 0, 1) := by decide +kernel
theorem dX5_canSay_66 : decode cX5_canSay 66 = .ok (.iload_n 1, 1) := by decide +kernel
theorem dX5_canSay_67 : decode cX5_canSay 67 = .ok (.iconst 1, 1) := by decide +kernel
theorem dX5_canSay_68 : decode cX5_canSay 68 = .ok (.invokevirtual 202, 3) := by decide +kernel
theorem dX5_canSay_71 : decode cX5_canSay 71 = .ok (.iconst 1, 1) := by decide +kernel
theorem dX5_canSay_72 : decode cX5_canSay 72 = .ok (.if_icmp .lt 17, 3) := by decide +kernel
theorem dX5_canSay_75 : decode cX5_canSay 75 = .ok (.iload 5, 2) := by decide +kernel
theorem dX5_canSay_77 : decode cX5_canSay 77 = .ok (.ifCond .ne 8, 3) := by decide +kernel
theorem dX5_canSay_80 : decode cX5_canSay 80 = .ok (.iload 6, 2) := by decide +kernel
theorem dX5_canSay_82 : decode cX5_canSay 82 = .ok (.ifCond .eq 7, 3) := by decide +kernel
theorem dX5_canSay_85 : decode cX5_canSay 85 = .ok (.iconst 1, 1) := by decide +kernel
theorem dX5_canSay_86 : decode cX5_canSay 86 = .ok (.goto 4, 3) := by decide +kernel
theorem dX5_canSay_89 : decode cX5_canSay 89 = .ok (.iconst 0, 1) := by decide +kernel
theorem dX5_canSay_90 : decode cX5_canSay 90 = .ok (.ireturn, 1) := by decide +kernel
set_option maxRecDepth 20000 in
theorem ggX5_pool_X5_in : GoodIn wsX5_pool wsX5_in := goodIn_r _ [6] (by decide +kernel) (by decide +kernel)
set_option maxRecDepth 20000 in
theorem gX5_pool_X5_in : GoodIn wsX5_pool (va_wsS RX5 71 yX5_in wsX5_in) := goodIn_app (goodIn_of _ (by decide +kernel)) ggX5_pool_X5_in
set_option maxRecDepth 20000 in
theorem ggX5_pool_X5_canSay : GoodIn wsX5_pool wsX5_canSay := goodIn_r _ [10, 11, 12, 13, 5, 14, 15, 19, 20, 21, 22, 23, 24, 25, 26, 27, 28, 29, 30, 31, 32, 33, 34, 35, 36, 37, 38, 39, 40, 41, 42, 43, 44, 45, 46, 47, 48, 49, 50, 51] (by decide +kernel) (by decide +kernel)
set_option maxRecDepth 20000 in
theorem gX5_pool_X5_canSay : GoodIn wsX5_pool (wsV RX5 215 RX5 yX5_canSay wsX5_canSay) := goodIn_app (goodIn_of _ (by decide +kernel)) ggX5_pool_X5_canSay
set_option maxRecDepth 20000 in
theorem ggX5_pool_X5_ones : GoodIn wsX5_pool wsX5_ones := goodIn_r _ [18] (by decide +kernel) (by decide +kernel)
set_option maxRecDepth 20000 in
theorem gX5_pool_X5_ones : GoodIn wsX5_pool (va_wsS RX5 89 yX5_ones wsX5_ones) := goodIn_app (goodIn_of _ (by decide +kernel)) ggX5_pool_X5_ones
theorem dX5_pool_0 : decode cX5_pool 0 = .ok (.iload_n 1, 1) := by decide +kernel
theorem dX5_pool_1 : decode cX5_pool 1 = .ok (.i2l, 1) := by decide +kernel
theorem dX5_pool_2 : decode cX5_pool 2 = .ok (.lconst 1, 1) := by decide +kernel
theorem dX5_pool_3 : decode cX5_pool 3 = .ok (.ldc2_w 198, 3) := by decide +kernel
theorem dX5_pool_6 : decode cX5_pool 6 = .ok (.invokestatic 71, 3) := by decide +kernel
theorem dX5_pool_9 : decode cX5_pool 9 = .ok (.ifCond .eq 13, 3) := by decide +kernel
theorem dX5_pool_12 : decode cX5_pool 12 = .ok (.iload_n 2, 1) := by decide +kernel
theorem dX5_pool_13 : decode cX5_pool 13 = .ok (.i2l, 1) := by decide +kernel
theorem dX5_pool_14 : decode cX5_pool 14 = .ok (.lconst 0, 1) := by decide +kernel
theorem dX5_pool_15 : decode cX5_pool 15 = .ok (.lconst 1, 1) := by decide +kernel
theorem dX5_pool_16 : decode cX5_pool 16 = .ok (.invokestatic 71, 3) := by decide +kernel
theorem dX5_pool_19 : decode cX5_pool 19 = .ok (.ifCond .ne 6, 3) := by decide +kernel
theorem dX5_pool_22 : decode cX5_pool 22 = .ok (.bipush (-2), 2) := by decide +kernel
theorem dX5_pool_24 : decode cX5_pool 24 = .ok (.ireturn, 1) := by decide +kernel
theorem dX5_pool_25 : decode cX5_pool 25 = .ok (.bipush (-6), 2) := by decide +kernel
theorem dX5_pool_27 : decode cX5_pool 27 = .ok (.istore_n 3, 1) := by decide +kernel
theorem dX5_pool_28 : decode cX5_pool 28 = .ok (.iconst 1, 1) := by decide +kernel
theorem dX5_pool_29 : decode cX5_pool 29 = .ok (.istore 4, 2) := by decide +kernel
theorem dX5_pool_31 : decode cX5_pool 31 = .ok (.iload 4, 2) := by decide +kernel
theorem dX5_pool_33 : decode cX5_pool 33 = .ok (.bipush 16, 2) := by decide +kernel
theorem dX5_pool_35 : decode cX5_pool 35 = .ok (.if_icmp .ge 87, 3) := by decide +kernel
theorem dX5_pool_38 : decode cX5_pool 38 = .ok (.iconst 0, 1) := by decide +kernel
theorem dX5_pool_39 : decode cX5_pool 39 = .ok (.istore 5, 2) := by decide +kernel
theorem dX5_pool_41 : decode cX5_pool 41 = .ok (.iconst 0, 1) := by decide +kernel
theorem dX5_pool_42 : decode cX5_pool 42 = .ok (.istore 6, 2) := by decide +kernel
theorem dX5_pool_44 : decode cX5_pool 44 = .ok (.iload 6, 2) := by decide +kernel
theorem dX5_pool_46 : decode cX5_pool 46 = .ok (.iconst 4, 1) := by decide +kernel
theorem dX5_pool_47 : decode cX5_pool 47 = .ok (.if_icmp .ge 36, 3) := by decide +kernel
theorem dX5_pool_50 : decode cX5_pool 50 = .ok (.iload 5, 2) := by decide +kernel
theorem dX5_pool_52 : decode cX5_pool 52 = .ok (.iload 4, 2) := by decide +kernel
theorem dX5_pool_54 : decode cX5_pool 54 = .ok (.iload 6, 2) := by decide +kernel
theorem dX5_pool_56 : decode cX5_pool 56 = .ok (.ishr, 1) := by decide +kernel
theorem dX5_pool_57 : decode cX5_pool 57 = .ok (.iconst 1, 1) := by decide +kernel
theorem dX5_pool_58 : decode cX5_pool 58 = .ok (.iand, 1) := by decide +kernel
theorem dX5_pool_59 : decode cX5_pool 59 = .ok (.iconst 1, 1) := by decide +kernel
theorem dX5_pool_60 : decode cX5_pool 60 = .ok (.if_icmp .ne 13, 3) := by decide +kernel
theorem dX5_pool_63 : decode cX5_pool 63 = .ok (.aload_n 0, 1) := by decide +kernel
theorem dX5_pool_64 : decode cX5_pool 64 = .ok (.getfield 22, 3) := by decide +kernel
theorem dX5_pool_67 : decode cX5_pool 67 = .ok (.iload 6, 2) := by decide +kernel
theorem dX5_pool_69 : decode cX5_pool 69 = .ok (.iaload, 1) := by decide +kernel
theorem dX5_pool_70 : decode cX5_pool 70 = .ok (.goto 4, 3) := by decide +kernel
theorem dX5_pool_73 : decode cX5_pool 73 = .ok (.iconst 0, 1) := by decide +kernel
theorem dX5_pool_74 : decode cX5_pool 74 = .ok (.ior, 1) := by decide +kernel
theorem dX5_pool_75 : decode cX5_pool 75 = .ok (.istore 5, 2) := by decide +kernel
theorem dX5_pool_77 : decode cX5_pool 77 = .ok (.iinc 6 1, 3) := by decide +kernel
theorem dX5_pool_80 : decode cX5_pool 80 = .ok (.goto (-36), 3) := by decide +kernel
theorem dX5_pool_83 : decode cX5_pool 83 = .ok (.aload_n 0, 1) := by decide +kernel
theorem dX5_pool_84 : decode cX5_pool 84 = .ok (.iload 5, 2) := by decide +kernel
theorem dX5_pool_86 : decode cX5_pool 86 = .ok (.iload_n 1, 1) := by decide +kernel
theorem dX5_pool_87 : decode cX5_pool 87 = .ok (.invokevirtual 215, 3) := by decide +kernel
theorem dX5_pool_90 : decode cX5_pool 90 = .ok (.ifCond .eq 24, 3) := by decide +kernel
theorem dX5_pool_93 : decode cX5_pool 93 = .ok (.iload_n 3, 1) := by decide +kernel
theorem dX5_pool_94 : decode cX5_pool 94 = .ok (.ifCond .lt 15, 3) := by decide +kernel
theorem dX5_pool_97 : decode cX5_pool 97 = .ok (.iload 4, 2) := by decide +kernel
theorem dX5_pool_99 : decode cX5_pool 99 = .ok (.invokestatic 89, 3) := by decide +kernel
theorem dX5_pool_102 : decode cX5_pool 102 = .ok (.iload_n 3, 1) := by decide +kernel
theorem dX5_pool_103 : decode cX5_pool 103 = .ok (.invokestatic 89, 3) := by decide +kernel
theorem dX5_pool_106 : decode cX5_pool 106 = .ok (.if_icmp .ge 8, 3) := by decide +kernel
theorem dX5_pool_109 : decode cX5_pool 109 = .ok (.iload 4, 2) := by decide +kernel
theorem dX5_pool_111 : decode cX5_pool 111 = .ok (.goto 4, 3) := by decide +kernel
theorem dX5_pool_114 : decode cX5_pool 114 = .ok (.iload_n 3, 1) := by decide +kernel
theorem dX5_pool_115 : decode cX5_pool 115 = .ok (.istore_n 3, 1) := by decide +kernel
theorem dX5_pool_116 : decode cX5_pool 116 = .ok (.iinc 4 1, 3) := by decide +kernel
theorem dX5_pool_119 : decode cX5_pool 119 = .ok (.goto (-88), 3) := by decide +kernel
theorem dX5_pool_122 : decode cX5_pool 122 = .ok (.iload_n 3, 1) := by decide +kernel
theorem dX5_pool_123 : decode cX5_pool 123 = .ok (.ifCond .lt 8, 3) := by decide +kernel
theorem dX5_pool_126 : decode cX5_pool 126 = .ok (.iload_n 2, 1) := by decide +kernel
theorem dX5_pool_127 : decode cX5_pool 127 = .ok (.iconst 1, 1) := by decide +kernel
theorem dX5_pool_128 : decode cX5_pool 128 = .ok (.if_icmp .ne 7, 3) := by decide +kernel
theorem dX5_pool_131 : decode cX5_pool 131 = .ok (.iload_n 3, 1) := by decide +kernel
theorem dX5_pool_132 : decode cX5_pool 132 = .ok (.goto 7, 3) := by decide +kernel
theorem dX5_pool_135 : decode cX5_pool 135 = .ok (.iload_n 3, 1) := by decide +kernel
theorem dX5_pool_136 : decode cX5_pool 136 = .ok (.invokestatic 89, 3) := by decide +kernel
theorem dX5_pool_139 : decode cX5_pool 139 = .ok (.ireturn, 1) := by decide +kernel
set_option maxRecDepth 20000 in
theorem ggX5_wish_X5_in : GoodIn wsX5_wish wsX5_in := goodIn_r _ [7] (by decide +kernel) (by decide +kernel)
set_option maxRecDepth 20000 in
theorem gX5_wish_X5_in : GoodIn wsX5_wish (va_wsS RX5 71 yX5_in wsX5_in) := goodIn_app (goodIn_of _ (by decide +kernel)) ggX5_wish_X5_in
theorem dX5_wish_0 : decode cX5_wish 0 = .ok (.iload_n 1, 1) := by decide +kernel
theorem dX5_wish_1 : decode cX5_wish 1 = .ok (.i2l, 1) := by decide +kernel
theorem dX5_wish_2 : decode cX5_wish 2 = .ok (.lconst 0, 1) := by decide +kernel
theorem dX5_wish_3 : decode cX5_wish 3 = .ok (.ldc2_w 100, 3) := by decide +kernel
theorem dX5_wish_6 : decode cX5_wish 6 = .ok (.invokestatic 71, 3) := by decide +kernel
theorem dX5_wish_9 : decode cX5_wish 9 = .ok (.ifCond .ne 6, 3) := by decide +kernel
theorem dX5_wish_12 : decode cX5_wish 12 = .ok (.bipush (-2), 2) := by decide +kernel
theorem dX5_wish_14 : decode cX5_wish 14 = .ok (.ireturn, 1) := by decide +kernel
theorem dX5_wish_15 : decode cX5_wish 15 = .ok (.aload_n 0, 1) := by decide +kernel
theorem dX5_wish_16 : decode cX5_wish 16 = .ok (.getfield 218, 3) := by decide +kernel
theorem dX5_wish_19 : decode cX5_wish 19 = .ok (.bipush 8, 2) := by decide +kernel
theorem dX5_wish_21 : decode cX5_wish 21 = .ok (.if_icmp .ne 6, 3) := by decide +kernel
theorem dX5_wish_24 : decode cX5_wish 24 = .ok (.bipush (-4), 2) := by decide +kernel
theorem dX5_wish_26 : decode cX5_wish 26 = .ok (.ireturn, 1) := by decide +kernel
theorem dX5_wish_27 : decode cX5_wish 27 = .ok (.aload_n 0, 1) := by decide +kernel
theorem dX5_wish_28 : decode cX5_wish 28 = .ok (.getfield 25, 3) := by decide +kernel
theorem dX5_wish_31 : decode cX5_wish 31 = .ok (.aload_n 0, 1) := by decide +kernel
theorem dX5_wish_32 : decode cX5_wish 32 = .ok (.getfield 218, 3) := by decide +kernel
theorem dX5_wish_35 : decode cX5_wish 35 = .ok (.iload_n 1, 1) := by decide +kernel
theorem dX5_wish_36 : decode cX5_wish 36 = .ok (.iastore, 1) := by decide +kernel
theorem dX5_wish_37 : decode cX5_wish 37 = .ok (.aload_n 0, 1) := by decide +kernel
theorem dX5_wish_38 : decode cX5_wish 38 = .ok (.dup, 1) := by decide +kernel
theorem dX5_wish_39 : decode cX5_wish 39 = .ok (.getfield 218, 3) := by decide +kernel
theorem dX5_wish_42 : decode cX5_wish 42 = .ok (.iconst 1, 1) := by decide +kernel
theorem dX5_wish_43 : decode cX5_wish 43 = .ok (.iadd, 1) := by decide +kernel
theorem dX5_wish_44 : decode cX5_wish 44 = .ok (.putfield 218, 3) := by decide +kernel
theorem dX5_wish_47 : decode cX5_wish 47 = .ok (.aload_n 0, 1) := by decide +kernel
theorem dX5_wish_48 : decode cX5_wish 48 = .ok (.getfield 218, 3) := by decide +kernel
theorem dX5_wish_51 : decode cX5_wish 51 = .ok (.ireturn, 1) := by decide +kernel
theorem dX5_unwish_0 : decode cX5_unwish 0 = .ok (.aload_n 0, 1) := by decide +kernel
theorem dX5_unwish_1 : decode cX5_unwish 1 = .ok (.getfield 218, 3) := by decide +kernel
theorem dX5_unwish_4 : decode cX5_unwish 4 = .ok (.istore_n 1, 1) := by decide +kernel
theorem dX5_unwish_5 : decode cX5_unwish 5 = .ok (.aload_n 0, 1) := by decide +kernel
theorem dX5_unwish_6 : decode cX5_unwish 6 = .ok (.iconst 0, 1) := by decide +kernel
theorem dX5_unwish_7 : decode cX5_unwish 7 = .ok (.putfield 218, 3) := by decide +kernel
theorem dX5_unwish_10 : decode cX5_unwish 10 = .ok (.iload_n 1, 1) := by decide +kernel
theorem dX5_unwish_11 : decode cX5_unwish 11 = .ok (.ireturn, 1) := by decide +kernel
theorem dX5_asksAll_0 : decode cX5_asksAll 0 = .ok (.iconst 1, 1) := by decide +kernel
theorem dX5_asksAll_1 : decode cX5_asksAll 1 = .ok (.istore_n 2, 1) := by decide +kernel
theorem dX5_asksAll_2 : decode cX5_asksAll 2 = .ok (.iconst 0, 1) := by decide +kernel
theorem dX5_asksAll_3 : decode cX5_asksAll 3 = .ok (.istore_n 3, 1) := by decide +kernel
theorem dX5_asksAll_4 : decode cX5_asksAll 4 = .ok (.iload_n 3, 1) := by decide +kernel
theorem dX5_asksAll_5 : decode cX5_asksAll 5 = .ok (.aload_n 0, 1) := by decide +kernel
theorem dX5_asksAll_6 : decode cX5_asksAll 6 = .ok (.getfield 218, 3) := by decide +kernel
theorem dX5_asksAll_9 : decode cX5_asksAll 9 = .ok (.if_icmp .ge 30, 3) := by decide +kernel
theorem dX5_asksAll_12 : decode cX5_asksAll 12 = .ok (.iload_n 2, 1) := by decide +kernel
theorem dX5_asksAll_13 : decode cX5_asksAll 13 = .ok (.ifCond .eq 18, 3) := by decide +kernel
theorem dX5_asksAll_16 : decode cX5_asksAll 16 = .ok (.iload_n 1, 1) := by decide +kernel
theorem dX5_asksAll_17 : decode cX5_asksAll 17 = .ok (.aload_n 0, 1) := by decide +kernel
theorem dX5_asksAll_18 : decode cX5_asksAll 18 = .ok (.getfield 25, 3) := by decide +kernel
theorem dX5_asksAll_21 : decode cX5_asksAll 21 = .ok (.iload_n 3, 1) := by decide +kernel
theorem dX5_asksAll_22 : decode cX5_asksAll 22 = .ok (.iaload, 1) := by decide +kernel
theorem dX5_asksAll_23 : decode cX5_asksAll 23 = .ok (.iand, 1) := by decide +kernel
theorem dX5_asksAll_24 : decode cX5_asksAll 24 = .ok (.ifCond .eq 7, 3) := by decide +kernel
theorem dX5_asksAll_27 : decode cX5_asksAll 27 = .ok (.iconst 1, 1) := by decide +kernel
theorem dX5_asksAll_28 : decode cX5_asksAll 28 = .ok (.goto 4, 3) := by decide +kernel
theorem dX5_asksAll_31 : decode cX5_asksAll 31 = .ok (.iconst 0, 1) := by decide +kernel
theorem dX5_asksAll_32 : decode cX5_asksAll 32 = .ok (.istore_n 2, 1) := by decide +kernel
theorem dX5_asksAll_33 : decode cX5_asksAll 33 = .ok (.iinc 3 1, 3) := by decide +kernel
theorem dX5_asksAll_36 : decode cX5_asksAll 36 = .ok (.goto (-32), 3) := by decide +kernel
theorem dX5_asksAll_39 : decode cX5_asksAll 39 = .ok (.iload_n 2, 1) := by decide +kernel
theorem dX5_asksAll_40 : decode cX5_asksAll 40 = .ok (.ireturn, 1) := by decide +kernel
set_option maxRecDepth 20000 in
theorem ggX5_nine_X5_in : GoodIn wsX5_nine wsX5_in := goodIn_r _ [4] (by decide +kernel) (by decide +kernel)
set_option maxRecDepth 20000 in
theorem gX5_nine_X5_in : GoodIn wsX5_nine (va_wsS RX5 71 yX5_in wsX5_in) := goodIn_app (goodIn_of _ (by decide +kernel)) ggX5_nine_X5_in
set_option maxRecDepth 20000 in
theorem ggX5_nine_X5_ones : GoodIn wsX5_nine wsX5_ones := goodIn_r _ [7] (by decide +kernel) (by decide +kernel)
set_option maxRecDepth 20000 in
theorem gX5_nine_X5_ones : GoodIn wsX5_nine (va_wsS RX5 89 yX5_ones wsX5_ones) := goodIn_app (goodIn_of _ (by decide +kernel)) ggX5_nine_X5_ones
set_option maxRecDepth 20000 in
theorem ggX5_nine_X5_asksAll : GoodIn wsX5_nine wsX5_asksAll := goodIn_r _ [11, 12, 13, 14, 15, 16, 17, 18, 19, 20, 21, 22, 23, 24, 25, 26, 27, 28, 29, 30, 31, 32, 33, 34, 35, 36, 37, 38, 39, 40, 41, 42, 43, 44, 45, 46] (by decide +kernel) (by decide +kernel)
set_option maxRecDepth 20000 in
theorem gX5_nine_X5_asksAll : GoodIn wsX5_nine (wsV RX5 221 RX5 yX5_asksAll wsX5_asksAll) := goodIn_app (goodIn_of _ (by decide +kernel)) ggX5_nine_X5_asksAll
theorem dX5_nine_0 : decode cX5_nine 0 = .ok (.iload_n 1, 1) := by decide +kernel
theorem dX5_nine_1 : decode cX5_nine 1 = .ok (.i2l, 1) := by decide +kernel
theorem dX5_nine_2 : decode cX5_nine 2 = .ok (.lconst 0, 1) := by decide +kernel
theorem dX5_nine_3 : decode cX5_nine 3 = .ok (.lconst 1, 1) := by decide +kernel
theorem dX5_nine_4 : decode cX5_nine 4 = .ok (.invokestatic 71, 3) := by decide +kernel
theorem dX5_nine_7 : decode cX5_nine 7 = .ok (.ifCond .ne 6, 3) := by decide +kernel
theorem dX5_nine_10 : decode cX5_nine 10 = .ok (.bipush (-2), 2) := by decide +kernel
theorem dX5_nine_12 : decode cX5_nine 12 = .ok (.ireturn, 1) := by decide +kernel
theorem dX5_nine_13 : decode cX5_nine 13 = .ok (.bipush (-6), 2) := by decide +kernel
theorem dX5_nine_15 : decode cX5_nine 15 = .ok (.istore_n 2, 1) := by decide +kernel
theorem dX5_nine_16 : decode cX5_nine 16 = .ok (.iconst 0, 1) := by decide +kernel
theorem dX5_nine_17 : decode cX5_nine 17 = .ok (.istore_n 3, 1) := by decide +kernel
theorem dX5_nine_18 : decode cX5_nine 18 = .ok (.iload_n 3, 1) := by decide +kernel
theorem dX5_nine_19 : decode cX5_nine 19 = .ok (.sipush 4095, 3) := by decide +kernel
theorem dX5_nine_22 : decode cX5_nine 22 = .ok (.if_icmp .gt 50, 3) := by decide +kernel
theorem dX5_nine_25 : decode cX5_nine 25 = .ok (.iload_n 2, 1) := by decide +kernel
theorem dX5_nine_26 : decode cX5_nine 26 = .ok (.ifCond .lt 14, 3) := by decide +kernel
theorem dX5_nine_29 : decode cX5_nine 29 = .ok (.iload_n 3, 1) := by decide +kernel
theorem dX5_nine_30 : decode cX5_nine 30 = .ok (.invokestatic 89, 3) := by decide +kernel
theorem dX5_nine_33 : decode cX5_nine 33 = .ok (.iload_n 2, 1) := by decide +kernel
theorem dX5_nine_34 : decode cX5_nine 34 = .ok (.invokestatic 89, 3) := by decide +kernel
theorem dX5_nine_37 : decode cX5_nine 37 = .ok (.if_icmp .ge 7, 3) := by decide +kernel
theorem dX5_nine_40 : decode cX5_nine 40 = .ok (.iconst 1, 1) := by decide +kernel
theorem dX5_nine_41 : decode cX5_nine 41 = .ok (.goto 4, 3) := by decide +kernel
theorem dX5_nine_44 : decode cX5_nine 44 = .ok (.iconst 0, 1) := by decide +kernel
theorem dX5_nine_45 : decode cX5_nine 45 = .ok (.istore 4, 2) := by decide +kernel
theorem dX5_nine_47 : decode cX5_nine 47 = .ok (.iload 4, 2) := by decide +kernel
theorem dX5_nine_49 : decode cX5_nine 49 = .ok (.ifCond .eq 15, 3) := by decide +kernel
theorem dX5_nine_52 : decode cX5_nine 52 = .ok (.aload_n 0, 1) := by decide +kernel
theorem dX5_nine_53 : decode cX5_nine 53 = .ok (.iload_n 3, 1) := by decide +kernel
theorem dX5_nine_54 : decode cX5_nine 54 = .ok (.invokevirtual 221, 3) := by decide +kernel
theorem dX5_nine_57 : decode cX5_nine 57 = .ok (.ifCond .eq 7, 3) := by decide +kernel
theorem dX5_nine_60 : decode cX5_nine 60 = .ok (.iload_n 3, 1) := by decide +kernel
theorem dX5_nine_61 : decode cX5_nine 61 = .ok (.goto 4, 3) := by decide +kernel
theorem dX5_nine_64 : decode cX5_nine 64 = .ok (.iload_n 2, 1) := by decide +kernel
theorem dX5_nine_65 : decode cX5_nine 65 = .ok (.istore_n 2, 1) := by decide +kernel
theorem dX5_nine_66 : decode cX5_nine 66 = .ok (.iinc 3 1, 3) := by decide +kernel
theorem dX5_nine_69 : decode cX5_nine 69 = .ok (.goto (-51), 3) := by decide +kernel
theorem dX5_nine_72 : decode cX5_nine 72 = .ok (.iload_n 2, 1) := by decide +kernel
theorem dX5_nine_73 : decode cX5_nine 73 = .ok (.ifCond .lt 8, 3) := by decide +kernel
theorem dX5_nine_76 : decode cX5_nine 76 = .ok (.iload_n 1, 1) := by decide +kernel
theorem dX5_nine_77 : decode cX5_nine 77 = .ok (.iconst 1, 1) := by decide +kernel
theorem dX5_nine_78 : decode cX5_nine 78 = .ok (.if_icmp .ne 7, 3) := by decide +kernel
theorem dX5_nine_81 : decode cX5_nine 81 = .ok (.iload_n 2, 1) := by decide +kernel
theorem dX5_nine_82 : decode cX5_nine 82 = .ok (.goto 7, 3) := by decide +kernel
theorem dX5_nine_85 : decode cX5_nine 85 = .ok (.iload_n 2, 1) := by decide +kernel
theorem dX5_nine_86 : decode cX5_nine 86 = .ok (.invokestatic 89, 3) := by decide +kernel
theorem dX5_nine_89 : decode cX5_nine 89 = .ok (.ireturn, 1) := by decide +kernel
set_option maxRecDepth 20000 in
theorem ggX5_seen_X5_in : GoodIn wsX5_seen wsX5_in := goodIn_r _ [10] (by decide +kernel) (by decide +kernel)
set_option maxRecDepth 20000 in
theorem gX5_seen_X5_in : GoodIn wsX5_seen (va_wsS RX5 71 yX5_in wsX5_in) := goodIn_app (goodIn_of _ (by decide +kernel)) ggX5_seen_X5_in
set_option maxRecDepth 20000 in
theorem ggX5_seen_X5_ones : GoodIn wsX5_seen wsX5_ones := goodIn_r _ [13] (by decide +kernel) (by decide +kernel)
set_option maxRecDepth 20000 in
theorem gX5_seen_X5_ones : GoodIn wsX5_seen (va_wsS RX5 89 yX5_ones wsX5_ones) := goodIn_app (goodIn_of _ (by decide +kernel)) ggX5_seen_X5_ones
theorem dX5_seen_0 : decode cX5_seen 0 = .ok (.iload_n 1, 1) := by decide +kernel
theorem dX5_seen_1 : decode cX5_seen 1 = .ok (.i2l, 1) := by decide +kernel
theorem dX5_seen_2 : decode cX5_seen 2 = .ok (.lconst 0, 1) := by decide +kernel
theorem dX5_seen_3 : decode cX5_seen 3 = .ok (.ldc2_w 100, 3) := by decide +kernel
theorem dX5_seen_6 : decode cX5_seen 6 = .ok (.invokestatic 71, 3) := by decide +kernel
theorem dX5_seen_9 : decode cX5_seen 9 = .ok (.ifCond .eq 31, 3) := by decide +kernel
theorem dX5_seen_12 : decode cX5_seen 12 = .ok (.iload_n 2, 1) := by decide +kernel
theorem dX5_seen_13 : decode cX5_seen 13 = .ok (.i2l, 1) := by decide +kernel
theorem dX5_seen_14 : decode cX5_seen 14 = .ok (.lconst 0, 1) := by decide +kernel
theorem dX5_seen_15 : decode cX5_seen 15 = .ok (.ldc2_w 100, 3) := by decide +kernel
theorem dX5_seen_18 : decode cX5_seen 18 = .ok (.invokestatic 71, 3) := by decide +kernel
theorem dX5_seen_21 : decode cX5_seen 21 = .ok (.ifCond .eq 19, 3) := by decide +kernel
theorem dX5_seen_24 : decode cX5_seen 24 = .ok (.iload_n 3, 1) := by decide +kernel
theorem dX5_seen_25 : decode cX5_seen 25 = .ok (.i2l, 1) := by decide +kernel
theorem dX5_seen_26 : decode cX5_seen 26 = .ok (.lconst 0, 1) := by decide +kernel
theorem dX5_seen_27 : decode cX5_seen 27 = .ok (.ldc2_w 83, 3) := by decide +kernel
theorem dX5_seen_30 : decode cX5_seen 30 = .ok (.invokestatic 71, 3) := by decide +kernel
theorem dX5_seen_33 : decode cX5_seen 33 = .ok (.ifCond .eq 7, 3) := by decide +kernel
theorem dX5_seen_36 : decode cX5_seen 36 = .ok (.iconst 1, 1) := by decide +kernel
theorem dX5_seen_37 : decode cX5_seen 37 = .ok (.goto 4, 3) := by decide +kernel
theorem dX5_seen_40 : decode cX5_seen 40 = .ok (.iconst 0, 1) := by decide +kernel
theorem dX5_seen_41 : decode cX5_seen 41 = .ok (.istore 4, 2) := by decide +kernel
theorem dX5_seen_43 : decode cX5_seen 43 = .ok (.iload 4, 2) := by decide +kernel
theorem dX5_seen_45 : decode cX5_seen 45 = .ok (.ifCond .eq 20, 3) := by decide +kernel
theorem dX5_seen_48 : decode cX5_seen 48 = .ok (.iload_n 1, 1) := by decide +kernel
theorem dX5_seen_49 : decode cX5_seen 49 = .ok (.invokestatic 89, 3) := by decide +kernel
theorem dX5_seen_52 : decode cX5_seen 52 = .ok (.iload_n 2, 1) := by decide +kernel
theorem dX5_seen_53 : decode cX5_seen 53 = .ok (.invokestatic 89, 3) := by decide +kernel
theorem dX5_seen_56 : decode cX5_seen 56 = .ok (.if_icmp .ne 9, 3) := by decide +kernel
theorem dX5_seen_59 : decode cX5_seen 59 = .ok (.iload_n 1, 1) := by decide +kernel
theorem dX5_seen_60 : decode cX5_seen 60 = .ok (.iload_n 2, 1) := by decide +kernel
theorem dX5_seen_61 : decode cX5_seen 61 = .ok (.iand, 1) := by decide +kernel
theorem dX5_seen_62 : decode cX5_seen 62 = .ok (.ifCond .eq 6, 3) := by decide +kernel
theorem dX5_seen_65 : decode cX5_seen 65 = .ok (.bipush (-2), 2) := by decide +kernel
theorem dX5_seen_67 : decode cX5_seen 67 = .ok (.ireturn, 1) := by decide +kernel
theorem dX5_seen_68 : decode cX5_seen 68 = .ok (.aload_n 0, 1) := by decide +kernel
theorem dX5_seen_69 : decode cX5_seen 69 = .ok (.getfield 224, 3) := by decide +kernel
theorem dX5_seen_72 : decode cX5_seen 72 = .ok (.bipush 6, 2) := by decide +kernel
theorem dX5_seen_74 : decode cX5_seen 74 = .ok (.if_icmp .ne 6, 3) := by decide +kernel
theorem dX5_seen_77 : decode cX5_seen 77 = .ok (.bipush (-4), 2) := by decide +kernel
theorem dX5_seen_79 : decode cX5_seen 79 = .ok (.ireturn, 1) := by decide +kernel
theorem dX5_seen_80 : decode cX5_seen 80 = .ok (.aload_n 0, 1) := by decide +kernel
theorem dX5_seen_81 : decode cX5_seen 81 = .ok (.getfield 28, 3) := by decide +kernel
theorem dX5_seen_84 : decode cX5_seen 84 = .ok (.aload_n 0, 1) := by decide +kernel
theorem dX5_seen_85 : decode cX5_seen 85 = .ok (.getfield 224, 3) := by decide +kernel
theorem dX5_seen_88 : decode cX5_seen 88 = .ok (.iload_n 1, 1) := by decide +kernel
theorem dX5_seen_89 : decode cX5_seen 89 = .ok (.iastore, 1) := by decide +kernel
theorem dX5_seen_90 : decode cX5_seen 90 = .ok (.aload_n 0, 1) := by decide +kernel
theorem dX5_seen_91 : decode cX5_seen 91 = .ok (.getfield 31, 3) := by decide +kernel
theorem dX5_seen_94 : decode cX5_seen 94 = .ok (.aload_n 0, 1) := by decide +kernel
theorem dX5_seen_95 : decode cX5_seen 95 = .ok (.getfield 224, 3) := by decide +kernel
theorem dX5_seen_98 : decode cX5_seen 98 = .ok (.iload_n 2, 1) := by decide +kernel
theorem dX5_seen_99 : decode cX5_seen 99 = .ok (.iastore, 1) := by decide +kernel
theorem dX5_seen_100 : decode cX5_seen 100 = .ok (.aload_n 0, 1) := by decide +kernel
theorem dX5_seen_101 : decode cX5_seen 101 = .ok (.getfield 34, 3) := by decide +kernel
theorem dX5_seen_104 : decode cX5_seen 104 = .ok (.aload_n 0, 1) := by decide +kernel
theorem dX5_seen_105 : decode cX5_seen 105 = .ok (.getfield 224, 3) := by decide +kernel
theorem dX5_seen_108 : decode cX5_seen 108 = .ok (.iload_n 3, 1) := by decide +kernel
theorem dX5_seen_109 : decode cX5_seen 109 = .ok (.iastore, 1) := by decide +kernel
theorem dX5_seen_110 : decode cX5_seen 110 = .ok (.aload_n 0, 1) := by decide +kernel
theorem dX5_seen_111 : decode cX5_seen 111 = .ok (.dup, 1) := by decide +kernel
theorem dX5_seen_112 : decode cX5_seen 112 = .ok (.getfield 224, 3) := by decide +kernel
theorem dX5_seen_115 : decode cX5_seen 115 = .ok (.iconst 1, 1) := by decide +kernel
theorem dX5_seen_116 : decode cX5_seen 116 = .ok (.iadd, 1) := by decide +kernel
theorem dX5_seen_117 : decode cX5_seen 117 = .ok (.putfield 224, 3) := by decide +kernel
theorem dX5_seen_120 : decode cX5_seen 120 = .ok (.aload_n 0, 1) := by decide +kernel
theorem dX5_seen_121 : decode cX5_seen 121 = .ok (.getfield 224, 3) := by decide +kernel
theorem dX5_seen_124 : decode cX5_seen 124 = .ok (.ireturn, 1) := by decide +kernel
theorem dX5_forget_0 : decode cX5_forget 0 = .ok (.aload_n 0, 1) := by decide +kernel
theorem dX5_forget_1 : decode cX5_forget 1 = .ok (.getfield 224, 3) := by decide +kernel
theorem dX5_forget_4 : decode cX5_forget 4 = .ok (.istore_n 1, 1) := by decide +kernel
theorem dX5_forget_5 : decode cX5_forget 5 = .ok (.aload_n 0, 1) := by decide +kernel
theorem dX5_forget_6 : decode cX5_forget 6 = .ok (.iconst 0, 1) := by decide +kernel
theorem dX5_forget_7 : decode cX5_forget 7 = .ok (.putfield 224, 3) := by decide +kernel
theorem dX5_forget_10 : decode cX5_forget 10 = .ok (.iload_n 1, 1) := by decide +kernel
theorem dX5_forget_11 : decode cX5_forget 11 = .ok (.ireturn, 1) := by decide +kernel
theorem dX5_hollow_0 : decode cX5_hollow 0 = .ok (.sipush 4095, 3) := by decide +kernel
theorem dX5_hollow_3 : decode cX5_hollow 3 = .ok (.istore_n 1, 1) := by decide +kernel
theorem dX5_hollow_4 : decode cX5_hollow 4 = .ok (.iconst 0, 1) := by decide +kernel
theorem dX5_hollow_5 : decode cX5_hollow 5 = .ok (.istore_n 2, 1) := by decide +kernel
theorem dX5_hollow_6 : decode cX5_hollow 6 = .ok (.iload_n 2, 1) := by decide +kernel
theorem dX5_hollow_7 : decode cX5_hollow 7 = .ok (.aload_n 0, 1) := by decide +kernel
theorem dX5_hollow_8 : decode cX5_hollow 8 = .ok (.getfield 224, 3) := by decide +kernel
theorem dX5_hollow_11 : decode cX5_hollow 11 = .ok (.if_icmp .ge 70, 3) := by decide +kernel
theorem dX5_hollow_14 : decode cX5_hollow 14 = .ok (.aload_n 0, 1) := by decide +kernel
theorem dX5_hollow_15 : decode cX5_hollow 15 = .ok (.getfield 28, 3) := by decide +kernel
theorem dX5_hollow_18 : decode cX5_hollow 18 = .ok (.iload_n 2, 1) := by decide +kernel
theorem dX5_hollow_19 : decode cX5_hollow 19 = .ok (.iaload, 1) := by decide +kernel
theorem dX5_hollow_20 : decode cX5_hollow 20 = .ok (.aload_n 0, 1) := by decide +kernel
theorem dX5_hollow_21 : decode cX5_hollow 21 = .ok (.getfield 31, 3) := by decide +kernel
theorem dX5_hollow_24 : decode cX5_hollow 24 = .ok (.iload_n 2, 1) := by decide +kernel
theorem dX5_hollow_25 : decode cX5_hollow 25 = .ok (.iaload, 1) := by decide +kernel
theorem dX5_hollow_26 : decode cX5_hollow 26 = .ok (.ior, 1) := by decide +kernel
theorem dX5_hollow_27 : decode cX5_hollow 27 = .ok (.istore_n 3, 1) := by decide +kernel
theorem dX5_hollow_28 : decode cX5_hollow 28 = .ok (.iload_n 1, 1) := by decide +kernel
theorem dX5_hollow_29 : decode cX5_hollow 29 = .ok (.aload_n 0, 1) := by decide +kernel
theorem dX5_hollow_30 : decode cX5_hollow 30 = .ok (.getfield 34, 3) := by decide +kernel
theorem dX5_hollow_33 : decode cX5_hollow 33 = .ok (.iload_n 2, 1) := by decide +kernel
theorem dX5_hollow_34 : decode cX5_hollow 34 = .ok (.iaload, 1) := by decide +kernel
theorem dX5_hollow_35 : decode cX5_hollow 35 = .ok (.ifCond .ne 12, 3) := by decide +kernel
theorem dX5_hollow_38 : decode cX5_hollow 38 = .ok (.aload_n 0, 1) := by decide +kernel
theorem dX5_hollow_39 : decode cX5_hollow 39 = .ok (.getfield 28, 3) := by decide +kernel
theorem dX5_hollow_42 : decode cX5_hollow 42 = .ok (.iload_n 2, 1) := by decide +kernel
theorem dX5_hollow_43 : decode cX5_hollow 43 = .ok (.iaload, 1) := by decide +kernel
theorem dX5_hollow_44 : decode cX5_hollow 44 = .ok (.goto 29, 3) := by decide +kernel
theorem dX5_hollow_47 : decode cX5_hollow 47 = .ok (.aload_n 0, 1) := by decide +kernel
theorem dX5_hollow_48 : decode cX5_hollow 48 = .ok (.getfield 34, 3) := by decide +kernel
theorem dX5_hollow_51 : decode cX5_hollow 51 = .ok (.iload_n 2, 1) := by decide +kernel
theorem dX5_hollow_52 : decode cX5_hollow 52 = .ok (.iaload, 1) := by decide +kernel
theorem dX5_hollow_53 : decode cX5_hollow 53 = .ok (.iconst 1, 1) := by decide +kernel
theorem dX5_hollow_54 : decode cX5_hollow 54 = .ok (.if_icmp .ne 12, 3) := by decide +kernel
theorem dX5_hollow_57 : decode cX5_hollow 57 = .ok (.aload_n 0, 1) := by decide +kernel
theorem dX5_hollow_58 : decode cX5_hollow 58 = .ok (.getfield 31, 3) := by decide +kernel
theorem dX5_hollow_61 : decode cX5_hollow 61 = .ok (.iload_n 2, 1) := by decide +kernel
theorem dX5_hollow_62 : decode cX5_hollow 62 = .ok (.iaload, 1) := by decide +kernel
theorem dX5_hollow_63 : decode cX5_hollow 63 = .ok (.goto 10, 3) := by decide +kernel
theorem dX5_hollow_66 : decode cX5_hollow 66 = .ok (.sipush 4095, 3) := by decide +kernel
theorem dX5_hollow_69 : decode cX5_hollow 69 = .ok (.iload_n 3, 1) := by decide +kernel
theorem dX5_hollow_70 : decode cX5_hollow 70 = .ok (.iconst (-1), 1) := by decide +kernel
theorem dX5_hollow_71 : decode cX5_hollow 71 = .ok (.ixor, 1) := by decide +kernel
theorem dX5_hollow_72 : decode cX5_hollow 72 = .ok (.iand, 1) := by decide +kernel
theorem dX5_hollow_73 : decode cX5_hollow 73 = .ok (.iand, 1) := by decide +kernel
theorem dX5_hollow_74 : decode cX5_hollow 74 = .ok (.istore_n 1, 1) := by decide +kernel
theorem dX5_hollow_75 : decode cX5_hollow 75 = .ok (.iinc 2 1, 3) := by decide +kernel
theorem dX5_hollow_78 : decode cX5_hollow 78 = .ok (.goto (-72), 3) := by decide +kernel
theorem dX5_hollow_81 : decode cX5_hollow 81 = .ok (.iload_n 1, 1) := by decide +kernel
theorem dX5_hollow_82 : decode cX5_hollow 82 = .ok (.ireturn, 1) := by decide +kernel
theorem dX5_worse_0 : decode cX5_worse 0 = .ok (.iload_n 1, 1) := by decide +kernel
theorem dX5_worse_1 : decode cX5_worse 1 = .ok (.iload_n 0, 1) := by decide +kernel
theorem dX5_worse_2 : decode cX5_worse 2 = .ok (.iconst 2, 1) := by decide +kernel
theorem dX5_worse_3 : decode cX5_worse 3 = .ok (.iload_n 1, 1) := by decide +kernel
theorem dX5_worse_4 : decode cX5_worse 4 = .ok (.imul, 1) := by decide +kernel
theorem dX5_worse_5 : decode cX5_worse 5 = .ok (.isub, 1) := by decide +kernel
theorem dX5_worse_6 : decode cX5_worse 6 = .ok (.if_icmp .le 7, 3) := by decide +kernel
theorem dX5_worse_9 : decode cX5_worse 9 = .ok (.iload_n 1, 1) := by decide +kernel
theorem dX5_worse_10 : decode cX5_worse 10 = .ok (.goto 8, 3) := by decide +kernel
theorem dX5_worse_13 : decode cX5_worse 13 = .ok (.iload_n 0, 1) := by decide +kernel
theorem dX5_worse_14 : decode cX5_worse 14 = .ok (.iconst 2, 1) := by decide +kernel
theorem dX5_worse_15 : decode cX5_worse 15 = .ok (.iload_n 1, 1) := by decide +kernel
theorem dX5_worse_16 : decode cX5_worse 16 = .ok (.imul, 1) := by decide +kernel
theorem dX5_worse_17 : decode cX5_worse 17 = .ok (.isub, 1) := by decide +kernel
theorem dX5_worse_18 : decode cX5_worse 18 = .ok (.ireturn, 1) := by decide +kernel
theorem dX5_turnsFor_0 : decode cX5_turnsFor 0 = .ok (.iconst 0, 1) := by decide +kernel
theorem dX5_turnsFor_1 : decode cX5_turnsFor 1 = .ok (.istore_n 1, 1) := by decide +kernel
theorem dX5_turnsFor_2 : decode cX5_turnsFor 2 = .ok (.iconst 1, 1) := by decide +kernel
theorem dX5_turnsFor_3 : decode cX5_turnsFor 3 = .ok (.istore_n 2, 1) := by decide +kernel
theorem dX5_turnsFor_4 : decode cX5_turnsFor 4 = .ok (.iload_n 2, 1) := by decide +kernel
theorem dX5_turnsFor_5 : decode cX5_turnsFor 5 = .ok (.iload_n 0, 1) := by decide +kernel
theorem dX5_turnsFor_6 : decode cX5_turnsFor 6 = .ok (.if_icmp .ge 13, 3) := by decide +kernel
theorem dX5_turnsFor_9 : decode cX5_turnsFor 9 = .ok (.iinc 1 1, 3) := by decide +kernel
theorem dX5_turnsFor_12 : decode cX5_turnsFor 12 = .ok (.iload_n 2, 1) := by decide +kernel
theorem dX5_turnsFor_13 : decode cX5_turnsFor 13 = .ok (.iconst 3, 1) := by decide +kernel
theorem dX5_turnsFor_14 : decode cX5_turnsFor 14 = .ok (.imul, 1) := by decide +kernel
theorem dX5_turnsFor_15 : decode cX5_turnsFor 15 = .ok (.istore_n 2, 1) := by decide +kernel
theorem dX5_turnsFor_16 : decode cX5_turnsFor 16 = .ok (.goto (-12), 3) := by decide +kernel
theorem dX5_turnsFor_19 : decode cX5_turnsFor 19 = .ok (.iload_n 1, 1) := by decide +kernel
theorem dX5_turnsFor_20 : decode cX5_turnsFor 20 = .ok (.ireturn, 1) := by decide +kernel
set_option maxRecDepth 20000 in
theorem ggX5_lay_X5_in : GoodIn wsX5_lay wsX5_in := goodIn_r _ [5] (by decide +kernel) (by decide +kernel)
set_option maxRecDepth 20000 in
theorem gX5_lay_X5_in : GoodIn wsX5_lay (va_wsS RX5 71 yX5_in wsX5_in) := goodIn_app (goodIn_of _ (by decide +kernel)) ggX5_lay_X5_in
set_option maxRecDepth 20000 in
theorem ggX5_lay_X5_hollow : GoodIn wsX5_lay wsX5_hollow := goodIn_r _ [9, 10, 11, 12, 13, 23, 24, 25, 26, 27, 28, 29, 30, 31, 32, 33, 34, 35, 36, 37, 38, 39, 40, 41, 42, 43, 44, 45, 46, 47, 48, 49, 50, 51, 52, 53, 54, 55] (by decide +kernel) (by decide +kernel)
set_option maxRecDepth 20000 in
theorem gX5_lay_X5_hollow : GoodIn wsX5_lay (wsV RX5 227 RX5 yX5_hollow wsX5_hollow) := goodIn_app (goodIn_of _ (by decide +kernel)) ggX5_lay_X5_hollow
set_option maxRecDepth 20000 in
theorem ggX5_lay_X5_ones : GoodIn wsX5_lay wsX5_ones := goodIn_r _ [16] (by decide +kernel) (by decide +kernel)
set_option maxRecDepth 20000 in
theorem gX5_lay_X5_ones : GoodIn wsX5_lay (va_wsS RX5 89 yX5_ones wsX5_ones) := goodIn_app (goodIn_of _ (by decide +kernel)) ggX5_lay_X5_ones
set_option maxRecDepth 20000 in
theorem ggX5_lay_X5_turnsFor : GoodIn wsX5_lay wsX5_turnsFor := goodIn_r _ [19] (by decide +kernel) (by decide +kernel)
set_option maxRecDepth 20000 in
theorem gX5_lay_X5_turnsFor : GoodIn wsX5_lay (va_wsS RX5 230 yX5_turnsFor wsX5_turnsFor) := goodIn_app (goodIn_of _ (by decide +kernel)) ggX5_lay_X5_turnsFor
set_option maxRecDepth 20000 in
theorem ggX5_lay_X5_worse : GoodIn wsX5_lay wsX5_worse := goodIn_r _ [22] (by decide +kernel) (by decide +kernel)
set_option maxRecDepth 20000 in
theorem gX5_lay_X5_worse : GoodIn wsX5_lay (va_wsS RX5 233 yX5_worse wsX5_worse) := goodIn_app (goodIn_of _ (by decide +kernel)) ggX5_lay_X5_worse
theorem dX5_lay_0 : decode cX5_lay 0 = .ok (.iload_n 1, 1) := by decide +kernel
theorem dX5_lay_1 : decode cX5_lay 1 = .ok (.i2l, 1) := by decide +kernel
theorem dX5_lay_2 : decode cX5_lay 2 = .ok (.lconst 0, 1) := by decide +kernel
theorem dX5_lay_3 : decode cX5_lay 3 = .ok (.ldc2_w 83, 3) := by decide +kernel
theorem dX5_lay_6 : decode cX5_lay 6 = .ok (.invokestatic 71, 3) := by decide +kernel
theorem dX5_lay_9 : decode cX5_lay 9 = .ok (.ifCond .ne 6, 3) := by decide +kernel
theorem dX5_lay_12 : decode cX5_lay 12 = .ok (.bipush (-2), 2) := by decide +kernel
theorem dX5_lay_14 : decode cX5_lay 14 = .ok (.ireturn, 1) := by decide +kernel
theorem dX5_lay_15 : decode cX5_lay 15 = .ok (.aload_n 0, 1) := by decide +kernel
theorem dX5_lay_16 : decode cX5_lay 16 = .ok (.invokevirtual 227, 3) := by decide +kernel
theorem dX5_lay_19 : decode cX5_lay 19 = .ok (.invokestatic 89, 3) := by decide +kernel
theorem dX5_lay_22 : decode cX5_lay 22 = .ok (.istore_n 2, 1) := by decide +kernel
theorem dX5_lay_23 : decode cX5_lay 23 = .ok (.iload_n 1, 1) := by decide +kernel
theorem dX5_lay_24 : decode cX5_lay 24 = .ok (.iconst 2, 1) := by decide +kernel
theorem dX5_lay_25 : decode cX5_lay 25 = .ok (.if_icmp .ne 8, 3) := by decide +kernel
theorem dX5_lay_28 : decode cX5_lay 28 = .ok (.iload_n 2, 1) := by decide +kernel
theorem dX5_lay_29 : decode cX5_lay 29 = .ok (.invokestatic 230, 3) := by decide +kernel
theorem dX5_lay_32 : decode cX5_lay 32 = .ok (.ireturn, 1) := by decide +kernel
theorem dX5_lay_33 : decode cX5_lay 33 = .ok (.iload_n 2, 1) := by decide +kernel
theorem dX5_lay_34 : decode cX5_lay 34 = .ok (.ifCond .ne 6, 3) := by decide +kernel
theorem dX5_lay_37 : decode cX5_lay 37 = .ok (.bipush (-6), 2) := by decide +kernel
theorem dX5_lay_39 : decode cX5_lay 39 = .ok (.ireturn, 1) := by decide +kernel
theorem dX5_lay_40 : decode cX5_lay 40 = .ok (.iconst 0, 1) := by decide +kernel
theorem dX5_lay_41 : decode cX5_lay 41 = .ok (.istore_n 3, 1) := by decide +kernel
theorem dX5_lay_42 : decode cX5_lay 42 = .ok (.iconst 1, 1) := by decide +kernel
theorem dX5_lay_43 : decode cX5_lay 43 = .ok (.istore 4, 2) := by decide +kernel
theorem dX5_lay_45 : decode cX5_lay 45 = .ok (.iconst 2, 1) := by decide +kernel
theorem dX5_lay_46 : decode cX5_lay 46 = .ok (.iload 4, 2) := by decide +kernel
theorem dX5_lay_48 : decode cX5_lay 48 = .ok (.imul, 1) := by decide +kernel
theorem dX5_lay_49 : decode cX5_lay 49 = .ok (.iload_n 2, 1) := by decide +kernel
theorem dX5_lay_50 : decode cX5_lay 50 = .ok (.if_icmp .gt 30, 3) := by decide +kernel
theorem dX5_lay_53 : decode cX5_lay 53 = .ok (.iload_n 2, 1) := by decide +kernel
theorem dX5_lay_54 : decode cX5_lay 54 = .ok (.iload 4, 2) := by decide +kernel
theorem dX5_lay_56 : decode cX5_lay 56 = .ok (.invokestatic 233, 3) := by decide +kernel
theorem dX5_lay_59 : decode cX5_lay 59 = .ok (.iload_n 2, 1) := by decide +kernel
theorem dX5_lay_60 : decode cX5_lay 60 = .ok (.iload_n 3, 1) := by decide +kernel
theorem dX5_lay_61 : decode cX5_lay 61 = .ok (.invokestatic 233, 3) := by decide +kernel
theorem dX5_lay_64 : decode cX5_lay 64 = .ok (.if_icmp .ge 8, 3) := by decide +kernel
theorem dX5_lay_67 : decode cX5_lay 67 = .ok (.iload 4, 2) := by decide +kernel
theorem dX5_lay_69 : decode cX5_lay 69 = .ok (.goto 4, 3) := by decide +kernel
theorem dX5_lay_72 : decode cX5_lay 72 = .ok (.iload_n 3, 1) := by decide +kernel
theorem dX5_lay_73 : decode cX5_lay 73 = .ok (.istore_n 3, 1) := by decide +kernel
theorem dX5_lay_74 : decode cX5_lay 74 = .ok (.iinc 4 1, 3) := by decide +kernel
theorem dX5_lay_77 : decode cX5_lay 77 = .ok (.goto (-32), 3) := by decide +kernel
theorem dX5_lay_80 : decode cX5_lay 80 = .ok (.iload_n 1, 1) := by decide +kernel
theorem dX5_lay_81 : decode cX5_lay 81 = .ok (.ifCond .ne 7, 3) := by decide +kernel
theorem dX5_lay_84 : decode cX5_lay 84 = .ok (.iload_n 3, 1) := by decide +kernel
theorem dX5_lay_85 : decode cX5_lay 85 = .ok (.goto 8, 3) := by decide +kernel
theorem dX5_lay_88 : decode cX5_lay 88 = .ok (.iload_n 2, 1) := by decide +kernel
theorem dX5_lay_89 : decode cX5_lay 89 = .ok (.iload_n 3, 1) := by decide +kernel
theorem dX5_lay_90 : decode cX5_lay 90 = .ok (.invokestatic 233, 3) := by decide +kernel
theorem dX5_lay_93 : decode cX5_lay 93 = .ok (.ireturn, 1) := by decide +kernel
theorem dX5_lowest_0 : decode cX5_lowest 0 = .ok (.lload_n 2, 1) := by decide +kernel
theorem dX5_lowest_1 : decode cX5_lowest 1 = .ok (.lstore 5, 2) := by decide +kernel
theorem dX5_lowest_3 : decode cX5_lowest 3 = .ok (.lload_n 0, 1) := by decide +kernel
theorem dX5_lowest_4 : decode cX5_lowest 4 = .ok (.lstore 7, 2) := by decide +kernel
theorem dX5_lowest_6 : decode cX5_lowest 6 = .ok (.lload 7, 2) := by decide +kernel
theorem dX5_lowest_8 : decode cX5_lowest 8 = .ok (.lconst 0, 1) := by decide +kernel
theorem dX5_lowest_9 : decode cX5_lowest 9 = .ok (.lcmp, 1) := by decide +kernel
theorem dX5_lowest_10 : decode cX5_lowest 10 = .ok (.ifCond .eq 21, 3) := by decide +kernel
theorem dX5_lowest_13 : decode cX5_lowest 13 = .ok (.lload 5, 2) := by decide +kernel
theorem dX5_lowest_15 : decode cX5_lowest 15 = .ok (.lload 7, 2) := by decide +kernel
theorem dX5_lowest_17 : decode cX5_lowest 17 = .ok (.lrem, 1) := by decide +kernel
theorem dX5_lowest_18 : decode cX5_lowest 18 = .ok (.lstore 9, 2) := by decide +kernel
theorem dX5_lowest_20 : decode cX5_lowest 20 = .ok (.lload 7, 2) := by decide +kernel
theorem dX5_lowest_22 : decode cX5_lowest 22 = .ok (.lstore 5, 2) := by decide +kernel
theorem dX5_lowest_24 : decode cX5_lowest 24 = .ok (.lload 9, 2) := by decide +kernel
theorem dX5_lowest_26 : decode cX5_lowest 26 = .ok (.lstore 7, 2) := by decide +kernel
theorem dX5_lowest_28 : decode cX5_lowest 28 = .ok (.goto (-22), 3) := by decide +kernel
theorem dX5_lowest_31 : decode cX5_lowest 31 = .ok (.iload 4, 2) := by decide +kernel
theorem dX5_lowest_33 : decode cX5_lowest 33 = .ok (.ifCond .ne 10, 3) := by decide +kernel
theorem dX5_lowest_36 : decode cX5_lowest 36 = .ok (.lload_n 0, 1) := by decide +kernel
theorem dX5_lowest_37 : decode cX5_lowest 37 = .ok (.lload 5, 2) := by decide +kernel
theorem dX5_lowest_39 : decode cX5_lowest 39 = .ok (.ldiv, 1) := by decide +kernel
theorem dX5_lowest_40 : decode cX5_lowest 40 = .ok (.goto 7, 3) := by decide +kernel
theorem dX5_lowest_43 : decode cX5_lowest 43 = .ok (.lload_n 2, 1) := by decide +kernel
theorem dX5_lowest_44 : decode cX5_lowest 44 = .ok (.lload 5, 2) := by decide +kernel
theorem dX5_lowest_46 : decode cX5_lowest 46 = .ok (.ldiv, 1) := by decide +kernel
theorem dX5_lowest_47 : decode cX5_lowest 47 = .ok (.lreturn, 1) := by decide +kernel
set_option maxRecDepth 20000 in
theorem ggX5_weather_X5_in : GoodIn wsX5_weather wsX5_in := goodIn_r _ [10] (by decide +kernel) (by decide +kernel)
set_option maxRecDepth 20000 in
theorem gX5_weather_X5_in : GoodIn wsX5_weather (va_wsS RX5 71 yX5_in wsX5_in) := goodIn_app (goodIn_of _ (by decide +kernel)) ggX5_weather_X5_in
set_option maxRecDepth 20000 in
theorem ggX5_weather_X5_lowest : GoodIn wsX5_weather wsX5_lowest := goodIn_r _ [13] (by decide +kernel) (by decide +kernel)
set_option maxRecDepth 20000 in
theorem gX5_weather_X5_lowest : GoodIn wsX5_weather (va_wsS RX5 242 yX5_lowest wsX5_lowest) := goodIn_app (goodIn_of _ (by decide +kernel)) ggX5_weather_X5_lowest
theorem dX5_weather_0 : decode cX5_weather 0 = .ok (.iload_n 1, 1) := by decide +kernel
theorem dX5_weather_1 : decode cX5_weather 1 = .ok (.i2l, 1) := by decide +kernel
theorem dX5_weather_2 : decode cX5_weather 2 = .ok (.lconst 0, 1) := by decide +kernel
theorem dX5_weather_3 : decode cX5_weather 3 = .ok (.ldc2_w 236, 3) := by decide +kernel
theorem dX5_weather_6 : decode cX5_weather 6 = .ok (.invokestatic 71, 3) := by decide +kernel
theorem dX5_weather_9 : decode cX5_weather 9 = .ok (.ifCond .eq 49, 3) := by decide +kernel
theorem dX5_weather_12 : decode cX5_weather 12 = .ok (.iload_n 2, 1) := by decide +kernel
theorem dX5_weather_13 : decode cX5_weather 13 = .ok (.i2l, 1) := by decide +kernel
theorem dX5_weather_14 : decode cX5_weather 14 = .ok (.lconst 0, 1) := by decide +kernel
theorem dX5_weather_15 : decode cX5_weather 15 = .ok (.ldc2_w 198, 3) := by decide +kernel
theorem dX5_weather_18 : decode cX5_weather 18 = .ok (.invokestatic 71, 3) := by decide +kernel
theorem dX5_weather_21 : decode cX5_weather 21 = .ok (.ifCond .eq 37, 3) := by decide +kernel
theorem dX5_weather_24 : decode cX5_weather 24 = .ok (.iload_n 3, 1) := by decide +kernel
theorem dX5_weather_25 : decode cX5_weather 25 = .ok (.i2l, 1) := by decide +kernel
theorem dX5_weather_26 : decode cX5_weather 26 = .ok (.lconst 0, 1) := by decide +kernel
theorem dX5_weather_27 : decode cX5_weather 27 = .ok (.ldc2_w 238, 3) := by decide +kernel
theorem dX5_weather_30 : decode cX5_weather 30 = .ok (.invokestatic 71, 3) := by decide +kernel
theorem dX5_weather_33 : decode cX5_weather 33 = .ok (.ifCond .eq 25, 3) := by decide +kernel
theorem dX5_weather_36 : decode cX5_weather 36 = .ok (.iload 4, 2) := by decide +kernel
theorem dX5_weather_38 : decode cX5_weather 38 = .ok (.i2l, 1) := by decide +kernel
theorem dX5_weather_39 : decode cX5_weather 39 = .ok (.lconst 0, 1) := by decide +kernel
theorem dX5_weather_40 : decode cX5_weather 40 = .ok (.lconst 1, 1) := by decide +kernel
theorem dX5_weather_41 : decode cX5_weather 41 = .ok (.invokestatic 71, 3) := by decide +kernel
theorem dX5_weather_44 : decode cX5_weather 44 = .ok (.ifCond .eq 14, 3) := by decide +kernel
theorem dX5_weather_47 : decode cX5_weather 47 = .ok (.iload 5, 2) := by decide +kernel
theorem dX5_weather_49 : decode cX5_weather 49 = .ok (.i2l, 1) := by decide +kernel
theorem dX5_weather_50 : decode cX5_weather 50 = .ok (.lconst 0, 1) := by decide +kernel
theorem dX5_weather_51 : decode cX5_weather 51 = .ok (.lconst 1, 1) := by decide +kernel
theorem dX5_weather_52 : decode cX5_weather 52 = .ok (.invokestatic 71, 3) := by decide +kernel
theorem dX5_weather_55 : decode cX5_weather 55 = .ok (.ifCond .ne 7, 3) := by decide +kernel
theorem dX5_weather_58 : decode cX5_weather 58 = .ok (.ldc2_w 240, 3) := by decide +kernel
theorem dX5_weather_61 : decode cX5_weather 61 = .ok (.lreturn, 1) := by decide +kernel
theorem dX5_weather_62 : decode cX5_weather 62 = .ok (.iconst 0, 1) := by decide +kernel
theorem dX5_weather_63 : decode cX5_weather 63 = .ok (.istore 6, 2) := by decide +kernel
theorem dX5_weather_65 : decode cX5_weather 65 = .ok (.iload 6, 2) := by decide +kernel
theorem dX5_weather_67 : decode cX5_weather 67 = .ok (.bipush 50, 2) := by decide +kernel
end
section
theorem dX5_weather_69 : decode cX5_weather 69 = .ok (.if_icmp .ge 19, 3) := by decide +kernel
theorem dX5_weather_72 : decode cX5_weather 72 = .ok (.aload_n 0, 1) := by decide +kernel
theorem dX5_weather_73 : decode cX5_weather 73 = .ok (.getfield 55, 3) := by decide +kernel
theorem dX5_weather_76 : decode cX5_weather 76 = .ok (.iload 6, 2) := by decide +kernel
theorem dX5_weather_78 : decode cX5_weather 78 = .ok (.iload 6, 2) := by decide +kernel
theorem dX5_weather_80 : decode cX5_weather 80 = .ok (.i2l, 1) := by decide +kernel
theorem dX5_weather_81 : decode cX5_weather 81 = .ok (.lastore, 1) := by decide +kernel
theorem dX5_weather_82 : decode cX5_weather 82 = .ok (.iinc 6 1, 3) := by decide +kernel
theorem dX5_weather_85 : decode cX5_weather 85 = .ok (.goto (-20), 3) := by decide +kernel
theorem dX5_weather_88 : decode cX5_weather 88 = .ok (.lconst 1, 1) := by decide +kernel
theorem dX5_weather_89 : decode cX5_weather 89 = .ok (.lstore 6, 2) := by decide +kernel
theorem dX5_weather_91 : decode cX5_weather 91 = .ok (.iconst 1, 1) := by decide +kernel
theorem dX5_weather_92 : decode cX5_weather 92 = .ok (.istore 8, 2) := by decide +kernel
theorem dX5_weather_94 : decode cX5_weather 94 = .ok (.iconst 1, 1) := by decide +kernel
theorem dX5_weather_95 : decode cX5_weather 95 = .ok (.istore 9, 2) := by decide +kernel
theorem dX5_weather_97 : decode cX5_weather 97 = .ok (.iload 9, 2) := by decide +kernel
theorem dX5_weather_99 : decode cX5_weather 99 = .ok (.iload_n 2, 1) := by decide +kernel
theorem dX5_weather_100 : decode cX5_weather 100 = .ok (.if_icmp .gt 169, 3) := by decide +kernel
theorem dX5_weather_103 : decode cX5_weather 103 = .ok (.lload 6, 2) := by decide +kernel
theorem dX5_weather_105 : decode cX5_weather 105 = .ok (.ldc2_w 238, 3) := by decide +kernel
theorem dX5_weather_108 : decode cX5_weather 108 = .ok (.lmul, 1) := by decide +kernel
theorem dX5_weather_109 : decode cX5_weather 109 = .ok (.lstore 6, 2) := by decide +kernel
theorem dX5_weather_111 : decode cX5_weather 111 = .ok (.iconst 0, 1) := by decide +kernel
theorem dX5_weather_112 : decode cX5_weather 112 = .ok (.istore 10, 2) := by decide +kernel
theorem dX5_weather_114 : decode cX5_weather 114 = .ok (.iload 10, 2) := by decide +kernel
theorem dX5_weather_116 : decode cX5_weather 116 = .ok (.bipush 48, 2) := by decide +kernel
theorem dX5_weather_118 : decode cX5_weather 118 = .ok (.iload 9, 2) := by decide +kernel
theorem dX5_weather_120 : decode cX5_weather 120 = .ok (.isub, 1) := by decide +kernel
theorem dX5_weather_121 : decode cX5_weather 121 = .ok (.if_icmp .gt 109, 3) := by decide +kernel
theorem dX5_weather_124 : decode cX5_weather 124 = .ok (.iload_n 3, 1) := by decide +kernel
theorem dX5_weather_125 : decode cX5_weather 125 = .ok (.i2l, 1) := by decide +kernel
theorem dX5_weather_126 : decode cX5_weather 126 = .ok (.aload_n 0, 1) := by decide +kernel
theorem dX5_weather_127 : decode cX5_weather 127 = .ok (.getfield 55, 3) := by decide +kernel
theorem dX5_weather_130 : decode cX5_weather 130 = .ok (.iload 10, 2) := by decide +kernel
theorem dX5_weather_132 : decode cX5_weather 132 = .ok (.iconst 1, 1) := by decide +kernel
theorem dX5_weather_133 : decode cX5_weather 133 = .ok (.iadd, 1) := by decide +kernel
theorem dX5_weather_134 : decode cX5_weather 134 = .ok (.laload, 1) := by decide +kernel
theorem dX5_weather_135 : decode cX5_weather 135 = .ok (.lmul, 1) := by decide +kernel
theorem dX5_weather_136 : decode cX5_weather 136 = .ok (.ldc2_w 238, 3) := by decide +kernel
theorem dX5_weather_139 : decode cX5_weather 139 = .ok (.iload_n 3, 1) := by decide +kernel
theorem dX5_weather_140 : decode cX5_weather 140 = .ok (.i2l, 1) := by decide +kernel
theorem dX5_weather_141 : decode cX5_weather 141 = .ok (.lsub, 1) := by decide +kernel
theorem dX5_weather_142 : decode cX5_weather 142 = .ok (.aload_n 0, 1) := by decide +kernel
theorem dX5_weather_143 : decode cX5_weather 143 = .ok (.getfield 55, 3) := by decide +kernel
theorem dX5_weather_146 : decode cX5_weather 146 = .ok (.iload 10, 2) := by decide +kernel
theorem dX5_weather_148 : decode cX5_weather 148 = .ok (.ifCond .le 10, 3) := by decide +kernel
theorem dX5_weather_151 : decode cX5_weather 151 = .ok (.iload 10, 2) := by decide +kernel
theorem dX5_weather_153 : decode cX5_weather 153 = .ok (.iconst 1, 1) := by decide +kernel
theorem dX5_weather_154 : decode cX5_weather 154 = .ok (.isub, 1) := by decide +kernel
theorem dX5_weather_155 : decode cX5_weather 155 = .ok (.goto 4, 3) := by decide +kernel
theorem dX5_weather_158 : decode cX5_weather 158 = .ok (.iconst 0, 1) := by decide +kernel
theorem dX5_weather_159 : decode cX5_weather 159 = .ok (.laload, 1) := by decide +kernel
theorem dX5_weather_160 : decode cX5_weather 160 = .ok (.lmul, 1) := by decide +kernel
theorem dX5_weather_161 : decode cX5_weather 161 = .ok (.ladd, 1) := by decide +kernel
theorem dX5_weather_162 : decode cX5_weather 162 = .ok (.lstore 11, 2) := by decide +kernel
theorem dX5_weather_164 : decode cX5_weather 164 = .ok (.iload 10, 2) := by decide +kernel
theorem dX5_weather_166 : decode cX5_weather 166 = .ok (.iload_n 1, 1) := by decide +kernel
theorem dX5_weather_167 : decode cX5_weather 167 = .ok (.if_icmp .ne 23, 3) := by decide +kernel
theorem dX5_weather_170 : decode cX5_weather 170 = .ok (.iload 10, 2) := by decide +kernel
theorem dX5_weather_172 : decode cX5_weather 172 = .ok (.i2l, 1) := by decide +kernel
theorem dX5_weather_173 : decode cX5_weather 173 = .ok (.lload 6, 2) := by decide +kernel
theorem dX5_weather_175 : decode cX5_weather 175 = .ok (.lmul, 1) := by decide +kernel
theorem dX5_weather_176 : decode cX5_weather 176 = .ok (.lload 11, 2) := by decide +kernel
theorem dX5_weather_178 : decode cX5_weather 178 = .ok (.lcmp, 1) := by decide +kernel
theorem dX5_weather_179 : decode cX5_weather 179 = .ok (.ifCond .lt 7, 3) := by decide +kernel
theorem dX5_weather_182 : decode cX5_weather 182 = .ok (.iconst 1, 1) := by decide +kernel
theorem dX5_weather_183 : decode cX5_weather 183 = .ok (.goto 9, 3) := by decide +kernel
theorem dX5_weather_186 : decode cX5_weather 186 = .ok (.iconst 0, 1) := by decide +kernel
theorem dX5_weather_187 : decode cX5_weather 187 = .ok (.goto 5, 3) := by decide +kernel
theorem dX5_weather_190 : decode cX5_weather 190 = .ok (.iload 8, 2) := by decide +kernel
theorem dX5_weather_192 : decode cX5_weather 192 = .ok (.istore 8, 2) := by decide +kernel
theorem dX5_weather_194 : decode cX5_weather 194 = .ok (.aload_n 0, 1) := by decide +kernel
theorem dX5_weather_195 : decode cX5_weather 195 = .ok (.getfield 59, 3) := by decide +kernel
theorem dX5_weather_198 : decode cX5_weather 198 = .ok (.iload 10, 2) := by decide +kernel
theorem dX5_weather_200 : decode cX5_weather 200 = .ok (.iload 10, 2) := by decide +kernel
theorem dX5_weather_202 : decode cX5_weather 202 = .ok (.i2l, 1) := by decide +kernel
theorem dX5_weather_203 : decode cX5_weather 203 = .ok (.lload 6, 2) := by decide +kernel
theorem dX5_weather_205 : decode cX5_weather 205 = .ok (.lmul, 1) := by decide +kernel
theorem dX5_weather_206 : decode cX5_weather 206 = .ok (.lload 11, 2) := by decide +kernel
theorem dX5_weather_208 : decode cX5_weather 208 = .ok (.lcmp, 1) := by decide +kernel
theorem dX5_weather_209 : decode cX5_weather 209 = .ok (.ifCond .lt 12, 3) := by decide +kernel
theorem dX5_weather_212 : decode cX5_weather 212 = .ok (.iload 10, 2) := by decide +kernel
theorem dX5_weather_214 : decode cX5_weather 214 = .ok (.i2l, 1) := by decide +kernel
theorem dX5_weather_215 : decode cX5_weather 215 = .ok (.lload 6, 2) := by decide +kernel
theorem dX5_weather_217 : decode cX5_weather 217 = .ok (.lmul, 1) := by decide +kernel
theorem dX5_weather_218 : decode cX5_weather 218 = .ok (.goto 5, 3) := by decide +kernel
theorem dX5_weather_221 : decode cX5_weather 221 = .ok (.lload 11, 2) := by decide +kernel
theorem dX5_weather_223 : decode cX5_weather 223 = .ok (.lastore, 1) := by decide +kernel
theorem dX5_weather_224 : decode cX5_weather 224 = .ok (.iinc 10 1, 3) := by decide +kernel
theorem dX5_weather_227 : decode cX5_weather 227 = .ok (.goto (-113), 3) := by decide +kernel
theorem dX5_weather_230 : decode cX5_weather 230 = .ok (.iconst 0, 1) := by decide +kernel
theorem dX5_weather_231 : decode cX5_weather 231 = .ok (.istore 10, 2) := by decide +kernel
theorem dX5_weather_233 : decode cX5_weather 233 = .ok (.iload 10, 2) := by decide +kernel
theorem dX5_weather_235 : decode cX5_weather 235 = .ok (.bipush 48, 2) := by decide +kernel
theorem dX5_weather_237 : decode cX5_weather 237 = .ok (.iload 9, 2) := by decide +kernel
theorem dX5_weather_239 : decode cX5_weather 239 = .ok (.isub, 1) := by decide +kernel
theorem dX5_weather_240 : decode cX5_weather 240 = .ok (.if_icmp .gt 23, 3) := by decide +kernel
theorem dX5_weather_243 : decode cX5_weather 243 = .ok (.aload_n 0, 1) := by decide +kernel
theorem dX5_weather_244 : decode cX5_weather 244 = .ok (.getfield 55, 3) := by decide +kernel
theorem dX5_weather_247 : decode cX5_weather 247 = .ok (.iload 10, 2) := by decide +kernel
theorem dX5_weather_249 : decode cX5_weather 249 = .ok (.aload_n 0, 1) := by decide +kernel
theorem dX5_weather_250 : decode cX5_weather 250 = .ok (.getfield 59, 3) := by decide +kernel
theorem dX5_weather_253 : decode cX5_weather 253 = .ok (.iload 10, 2) := by decide +kernel
theorem dX5_weather_255 : decode cX5_weather 255 = .ok (.laload, 1) := by decide +kernel
theorem dX5_weather_256 : decode cX5_weather 256 = .ok (.lastore, 1) := by decide +kernel
theorem dX5_weather_257 : decode cX5_weather 257 = .ok (.iinc 10 1, 3) := by decide +kernel
theorem dX5_weather_260 : decode cX5_weather 260 = .ok (.goto (-27), 3) := by decide +kernel
theorem dX5_weather_263 : decode cX5_weather 263 = .ok (.iinc 9 1, 3) := by decide +kernel
theorem dX5_weather_266 : decode cX5_weather 266 = .ok (.goto (-169), 3) := by decide +kernel
theorem dX5_weather_269 : decode cX5_weather 269 = .ok (.iload 4, 2) := by decide +kernel
theorem dX5_weather_271 : decode cX5_weather 271 = .ok (.iconst 1, 1) := by decide +kernel
theorem dX5_weather_272 : decode cX5_weather 272 = .ok (.if_icmp .ne 16, 3) := by decide +kernel
theorem dX5_weather_275 : decode cX5_weather 275 = .ok (.iload 8, 2) := by decide +kernel
theorem dX5_weather_277 : decode cX5_weather 277 = .ok (.ifCond .eq 7, 3) := by decide +kernel
theorem dX5_weather_280 : decode cX5_weather 280 = .ok (.lconst 1, 1) := by decide +kernel
theorem dX5_weather_281 : decode cX5_weather 281 = .ok (.goto 20, 3) := by decide +kernel
theorem dX5_weather_284 : decode cX5_weather 284 = .ok (.lconst 0, 1) := by decide +kernel
theorem dX5_weather_285 : decode cX5_weather 285 = .ok (.goto 16, 3) := by decide +kernel
theorem dX5_weather_288 : decode cX5_weather 288 = .ok (.aload_n 0, 1) := by decide +kernel
theorem dX5_weather_289 : decode cX5_weather 289 = .ok (.getfield 55, 3) := by decide +kernel
theorem dX5_weather_292 : decode cX5_weather 292 = .ok (.iload_n 1, 1) := by decide +kernel
theorem dX5_weather_293 : decode cX5_weather 293 = .ok (.laload, 1) := by decide +kernel
theorem dX5_weather_294 : decode cX5_weather 294 = .ok (.lload 6, 2) := by decide +kernel
theorem dX5_weather_296 : decode cX5_weather 296 = .ok (.iload 5, 2) := by decide +kernel
theorem dX5_weather_298 : decode cX5_weather 298 = .ok (.invokestatic 242, 3) := by decide +kernel
theorem dX5_weather_301 : decode cX5_weather 301 = .ok (.lreturn, 1) := by decide +kernel
set_option maxRecDepth 20000 in
theorem ggX5_synonyms_X5_in : GoodIn wsX5_synonyms wsX5_in := goodIn_r _ [8] (by decide +kernel) (by decide +kernel)
set_option maxRecDepth 20000 in
theorem gX5_synonyms_X5_in : GoodIn wsX5_synonyms (va_wsS RX5 71 yX5_in wsX5_in) := goodIn_app (goodIn_of _ (by decide +kernel)) ggX5_synonyms_X5_in
theorem dX5_synonyms_0 : decode cX5_synonyms 0 = .ok (.iload_n 1, 1) := by decide +kernel
theorem dX5_synonyms_1 : decode cX5_synonyms 1 = .ok (.i2l, 1) := by decide +kernel
theorem dX5_synonyms_2 : decode cX5_synonyms 2 = .ok (.lconst 0, 1) := by decide +kernel
theorem dX5_synonyms_3 : decode cX5_synonyms 3 = .ok (.ldc2_w 236, 3) := by decide +kernel
theorem dX5_synonyms_6 : decode cX5_synonyms 6 = .ok (.invokestatic 71, 3) := by decide +kernel
theorem dX5_synonyms_9 : decode cX5_synonyms 9 = .ok (.ifCond .eq 45, 3) := by decide +kernel
theorem dX5_synonyms_12 : decode cX5_synonyms 12 = .ok (.iload_n 2, 1) := by decide +kernel
theorem dX5_synonyms_13 : decode cX5_synonyms 13 = .ok (.i2l, 1) := by decide +kernel
theorem dX5_synonyms_14 : decode cX5_synonyms 14 = .ok (.lconst 0, 1) := by decide +kernel
theorem dX5_synonyms_15 : decode cX5_synonyms 15 = .ok (.ldc2_w 246, 3) := by decide +kernel
theorem dX5_synonyms_18 : decode cX5_synonyms 18 = .ok (.invokestatic 71, 3) := by decide +kernel
theorem dX5_synonyms_21 : decode cX5_synonyms 21 = .ok (.ifCond .eq 33, 3) := by decide +kernel
theorem dX5_synonyms_24 : decode cX5_synonyms 24 = .ok (.iload_n 3, 1) := by decide +kernel
theorem dX5_synonyms_25 : decode cX5_synonyms 25 = .ok (.i2l, 1) := by decide +kernel
theorem dX5_synonyms_26 : decode cX5_synonyms 26 = .ok (.iload_n 2, 1) := by decide +kernel
theorem dX5_synonyms_27 : decode cX5_synonyms 27 = .ok (.i2l, 1) := by decide +kernel
theorem dX5_synonyms_28 : decode cX5_synonyms 28 = .ok (.lconst 1, 1) := by decide +kernel
theorem dX5_synonyms_29 : decode cX5_synonyms 29 = .ok (.ladd, 1) := by decide +kernel
theorem dX5_synonyms_30 : decode cX5_synonyms 30 = .ok (.ldc2_w 236, 3) := by decide +kernel
theorem dX5_synonyms_33 : decode cX5_synonyms 33 = .ok (.invokestatic 71, 3) := by decide +kernel
theorem dX5_synonyms_36 : decode cX5_synonyms 36 = .ok (.ifCond .eq 18, 3) := by decide +kernel
theorem dX5_synonyms_39 : decode cX5_synonyms 39 = .ok (.iload 4, 2) := by decide +kernel
theorem dX5_synonyms_41 : decode cX5_synonyms 41 = .ok (.i2l, 1) := by decide +kernel
theorem dX5_synonyms_42 : decode cX5_synonyms 42 = .ok (.ldc2_w 196, 3) := by decide +kernel
theorem dX5_synonyms_45 : decode cX5_synonyms 45 = .ok (.ldc2_w 81, 3) := by decide +kernel
theorem dX5_synonyms_48 : decode cX5_synonyms 48 = .ok (.invokestatic 71, 3) := by decide +kernel
theorem dX5_synonyms_51 : decode cX5_synonyms 51 = .ok (.ifCond .ne 6, 3) := by decide +kernel
theorem dX5_synonyms_54 : decode cX5_synonyms 54 = .ok (.bipush (-2), 2) := by decide +kernel
theorem dX5_synonyms_56 : decode cX5_synonyms 56 = .ok (.ireturn, 1) := by decide +kernel
theorem dX5_synonyms_57 : decode cX5_synonyms 57 = .ok (.iload 4, 2) := by decide +kernel
theorem dX5_synonyms_59 : decode cX5_synonyms 59 = .ok (.iconst (-1), 1) := by decide +kernel
theorem dX5_synonyms_60 : decode cX5_synonyms 60 = .ok (.if_icmp .ne 7, 3) := by decide +kernel
theorem dX5_synonyms_63 : decode cX5_synonyms 63 = .ok (.iload_n 3, 1) := by decide +kernel
theorem dX5_synonyms_64 : decode cX5_synonyms 64 = .ok (.iload_n 2, 1) := by decide +kernel
theorem dX5_synonyms_65 : decode cX5_synonyms 65 = .ok (.isub, 1) := by decide +kernel
theorem dX5_synonyms_66 : decode cX5_synonyms 66 = .ok (.ireturn, 1) := by decide +kernel
theorem dX5_synonyms_67 : decode cX5_synonyms 67 = .ok (.iload_n 1, 1) := by decide +kernel
theorem dX5_synonyms_68 : decode cX5_synonyms 68 = .ok (.istore 5, 2) := by decide +kernel
theorem dX5_synonyms_70 : decode cX5_synonyms 70 = .ok (.iconst 0, 1) := by decide +kernel
theorem dX5_synonyms_71 : decode cX5_synonyms 71 = .ok (.istore 6, 2) := by decide +kernel
theorem dX5_synonyms_73 : decode cX5_synonyms 73 = .ok (.iload 6, 2) := by decide +kernel
theorem dX5_synonyms_75 : decode cX5_synonyms 75 = .ok (.iload 4, 2) := by decide +kernel
theorem dX5_synonyms_77 : decode cX5_synonyms 77 = .ok (.if_icmp .ge 27, 3) := by decide +kernel
theorem dX5_synonyms_80 : decode cX5_synonyms 80 = .ok (.iload 5, 2) := by decide +kernel
theorem dX5_synonyms_82 : decode cX5_synonyms 82 = .ok (.iconst 1, 1) := by decide +kernel
theorem dX5_synonyms_83 : decode cX5_synonyms 83 = .ok (.isub, 1) := by decide +kernel
theorem dX5_synonyms_84 : decode cX5_synonyms 84 = .ok (.iload_n 2, 1) := by decide +kernel
theorem dX5_synonyms_85 : decode cX5_synonyms 85 = .ok (.if_icmp .le 10, 3) := by decide +kernel
theorem dX5_synonyms_88 : decode cX5_synonyms 88 = .ok (.iload 5, 2) := by decide +kernel
theorem dX5_synonyms_90 : decode cX5_synonyms 90 = .ok (.iconst 1, 1) := by decide +kernel
theorem dX5_synonyms_91 : decode cX5_synonyms 91 = .ok (.isub, 1) := by decide +kernel
theorem dX5_synonyms_92 : decode cX5_synonyms 92 = .ok (.goto 4, 3) := by decide +kernel
theorem dX5_synonyms_95 : decode cX5_synonyms 95 = .ok (.iload_n 3, 1) := by decide +kernel
theorem dX5_synonyms_96 : decode cX5_synonyms 96 = .ok (.istore 5, 2) := by decide +kernel
theorem dX5_synonyms_98 : decode cX5_synonyms 98 = .ok (.iinc 6 1, 3) := by decide +kernel
theorem dX5_synonyms_101 : decode cX5_synonyms 101 = .ok (.goto (-28), 3) := by decide +kernel
theorem dX5_synonyms_104 : decode cX5_synonyms 104 = .ok (.iload 5, 2) := by decide +kernel
theorem dX5_synonyms_106 : decode cX5_synonyms 106 = .ok (.ireturn, 1) := by decide +kernel
theorem dX5_actBy_0 : decode cX5_actBy 0 = .ok (.iload_n 0, 1) := by decide +kernel
theorem dX5_actBy_1 : decode cX5_actBy 1 = .ok (.iconst 2, 1) := by decide +kernel
theorem dX5_actBy_2 : decode cX5_actBy 2 = .ok (.if_icmp .ge 7, 3) := by decide +kernel
theorem dX5_actBy_5 : decode cX5_actBy 5 = .ok (.iconst 0, 1) := by decide +kernel
theorem dX5_actBy_6 : decode cX5_actBy 6 = .ok (.goto 22, 3) := by decide +kernel
theorem dX5_actBy_9 : decode cX5_actBy 9 = .ok (.iload_n 0, 1) := by decide +kernel
theorem dX5_actBy_10 : decode cX5_actBy 10 = .ok (.iconst 4, 1) := by decide +kernel
theorem dX5_actBy_11 : decode cX5_actBy 11 = .ok (.if_icmp .ge 7, 3) := by decide +kernel
theorem dX5_actBy_14 : decode cX5_actBy 14 = .ok (.iconst 2, 1) := by decide +kernel
theorem dX5_actBy_15 : decode cX5_actBy 15 = .ok (.goto 13, 3) := by decide +kernel
theorem dX5_actBy_18 : decode cX5_actBy 18 = .ok (.iload_n 0, 1) := by decide +kernel
theorem dX5_actBy_19 : decode cX5_actBy 19 = .ok (.iconst 4, 1) := by decide +kernel
theorem dX5_actBy_20 : decode cX5_actBy 20 = .ok (.if_icmp .ne 7, 3) := by decide +kernel
theorem dX5_actBy_23 : decode cX5_actBy 23 = .ok (.iconst 1, 1) := by decide +kernel
theorem dX5_actBy_24 : decode cX5_actBy 24 = .ok (.goto 4, 3) := by decide +kernel
theorem dX5_actBy_27 : decode cX5_actBy 27 = .ok (.iconst 3, 1) := by decide +kernel
theorem dX5_actBy_28 : decode cX5_actBy 28 = .ok (.ireturn, 1) := by decide +kernel
set_option maxRecDepth 20000 in
theorem ggX5_year_X5_in : GoodIn wsX5_year wsX5_in := goodIn_r _ [12] (by decide +kernel) (by decide +kernel)
set_option maxRecDepth 20000 in
theorem gX5_year_X5_in : GoodIn wsX5_year (va_wsS RX5 71 yX5_in wsX5_in) := goodIn_app (goodIn_of _ (by decide +kernel)) ggX5_year_X5_in
set_option maxRecDepth 20000 in
theorem ggX5_year_X5_keepNow : GoodIn wsX5_year wsX5_keepNow := goodIn_r _ [16, 17, 18, 7, 8, 64, 65, 66, 67, 68, 69, 70, 71, 72, 73, 74, 75, 76, 77, 78, 79, 80, 81, 82, 83, 84, 85, 86, 87, 88, 89, 90, 91, 92, 93, 94, 95, 96] (by decide +kernel) (by decide +kernel)
set_option maxRecDepth 20000 in
theorem gX5_year_X5_keepNow : GoodIn wsX5_year (wsV RX5 181 RX5 yX5_keepNow wsX5_keepNow) := goodIn_app (goodIn_of _ (by decide +kernel)) ggX5_year_X5_keepNow
set_option maxRecDepth 20000 in
theorem ggX5_year_X5_beginCount : GoodIn wsX5_year wsX5_beginCount := goodIn_r _ [22, 23, 24, 25, 26, 27, 28, 64, 65, 66, 67, 68, 69, 70, 71, 72, 73, 74, 75, 76, 77, 78, 79, 80, 81, 82, 83, 84, 85, 86, 87, 88, 89, 90, 91, 92, 93, 94, 95, 96] (by decide +kernel) (by decide +kernel)
set_option maxRecDepth 20000 in
theorem gX5_year_X5_beginCount : GoodIn wsX5_year (wsV RX5 164 RX5 yX5_beginCount wsX5_beginCount) := goodIn_app (goodIn_of _ (by decide +kernel)) ggX5_year_X5_beginCount
set_option maxRecDepth 20000 in
theorem ggX5_year_X5_actBy : GoodIn wsX5_year wsX5_actBy := goodIn_r _ [31] (by decide +kernel) (by decide +kernel)
set_option maxRecDepth 20000 in
theorem gX5_year_X5_actBy : GoodIn wsX5_year (va_wsS RX5 256 yX5_actBy wsX5_actBy) := goodIn_app (goodIn_of _ (by decide +kernel)) ggX5_year_X5_actBy
set_option maxRecDepth 20000 in
theorem ggX5_year_X5_whyNot : GoodIn wsX5_year wsX5_whyNot := goodIn_r _ [35, 7, 18, 27, 36, 37, 38, 11, 39, 8, 64, 65, 66, 67, 68, 69, 70, 71, 72, 73, 74, 75, 76, 77, 78, 79, 80, 81, 82, 83, 84, 85, 86, 87, 88, 89, 90, 91, 92, 93, 94, 95, 96] (by decide +kernel) (by decide +kernel)
set_option maxRecDepth 20000 in
theorem gX5_year_X5_whyNot : GoodIn wsX5_year (wsV RX5 173 RX5 yX5_whyNot wsX5_whyNot) := goodIn_app (goodIn_of _ (by decide +kernel)) ggX5_year_X5_whyNot
set_option maxRecDepth 20000 in
theorem ggX5_year_X5_happen : GoodIn wsX5_year wsX5_happen := goodIn_r _ [43, 7, 18, 8, 23, 27, 28, 44, 45, 46, 11, 47, 24, 48, 25, 26, 49, 50, 51, 52, 64, 65, 66, 67, 68, 69, 70, 71, 72, 73, 74, 75, 76, 77, 78, 79, 80, 81, 82, 83, 84, 85, 86, 87, 88, 89, 90, 91, 92, 93, 94, 95, 96] (by decide +kernel) (by decide +kernel)
set_option maxRecDepth 20000 in
theorem gX5_year_X5_happen : GoodIn wsX5_year (wsV RX5 177 RX5 yX5_happen wsX5_happen) := goodIn_app (goodIn_of _ (by decide +kernel)) ggX5_year_X5_happen
set_option maxRecDepth 20000 in
theorem ggX5_year_X5_ones : GoodIn wsX5_year wsX5_ones := goodIn_r _ [55] (by decide +kernel) (by decide +kernel)
set_option maxRecDepth 20000 in
theorem gX5_year_X5_ones : GoodIn wsX5_year (va_wsS RX5 89 yX5_ones wsX5_ones) := goodIn_app (goodIn_of _ (by decide +kernel)) ggX5_year_X5_ones
set_option maxRecDepth 20000 in
theorem ggX5_year_X5_costOf : GoodIn wsX5_year wsX5_costOf := goodIn_r _ [59, 18, 64, 65, 66, 67, 68, 69, 70, 71, 72, 73, 74, 75, 76, 77, 78, 79, 80, 81, 82, 83, 84, 85, 86, 87, 88, 89, 90, 91, 92, 93, 94, 95, 96] (by decide +kernel) (by decide +kernel)
set_option maxRecDepth 20000 in
theorem gX5_year_X5_costOf : GoodIn wsX5_year (wsV RX5 212 RX5 yX5_costOf wsX5_costOf) := goodIn_app (goodIn_of _ (by decide +kernel)) ggX5_year_X5_costOf
set_option maxRecDepth 20000 in
theorem ggX5_year_X5_back : GoodIn wsX5_year wsX5_back := goodIn_r _ [63, 18, 17, 7, 8, 64, 65, 66, 67, 68, 69, 70, 71, 72, 73, 74, 75, 76, 77, 78, 79, 80, 81, 82, 83, 84, 85, 86, 87, 88, 89, 90, 91, 92, 93, 94, 95, 96] (by decide +kernel) (by decide +kernel)
set_option maxRecDepth 20000 in
theorem gX5_year_X5_back : GoodIn wsX5_year (wsV RX5 193 RX5 yX5_back wsX5_back) := goodIn_app (goodIn_of _ (by decide +kernel)) ggX5_year_X5_back
theorem dX5_year_0 : decode cX5_year 0 = .ok (.iload_n 1, 1) := by decide +kernel
theorem dX5_year_1 : decode cX5_year 1 = .ok (.i2l, 1) := by decide +kernel
theorem dX5_year_2 : decode cX5_year 2 = .ok (.lconst 0, 1) := by decide +kernel
theorem dX5_year_3 : decode cX5_year 3 = .ok (.ldc2_w 248, 3) := by decide +kernel
theorem dX5_year_6 : decode cX5_year 6 = .ok (.invokestatic 71, 3) := by decide +kernel
theorem dX5_year_9 : decode cX5_year 9 = .ok (.ifCond .eq 27, 3) := by decide +kernel
theorem dX5_year_12 : decode cX5_year 12 = .ok (.iload_n 2, 1) := by decide +kernel
theorem dX5_year_13 : decode cX5_year 13 = .ok (.i2l, 1) := by decide +kernel
theorem dX5_year_14 : decode cX5_year 14 = .ok (.lconst 1, 1) := by decide +kernel
theorem dX5_year_15 : decode cX5_year 15 = .ok (.ldc2_w 81, 3) := by decide +kernel
theorem dX5_year_18 : decode cX5_year 18 = .ok (.invokestatic 71, 3) := by decide +kernel
theorem dX5_year_21 : decode cX5_year 21 = .ok (.ifCond .eq 15, 3) := by decide +kernel
theorem dX5_year_24 : decode cX5_year 24 = .ok (.iload_n 3, 1) := by decide +kernel
theorem dX5_year_25 : decode cX5_year 25 = .ok (.i2l, 1) := by decide +kernel
theorem dX5_year_26 : decode cX5_year 26 = .ok (.lconst 0, 1) := by decide +kernel
theorem dX5_year_27 : decode cX5_year 27 = .ok (.ldc2_w 83, 3) := by decide +kernel
theorem dX5_year_30 : decode cX5_year 30 = .ok (.invokestatic 71, 3) := by decide +kernel
theorem dX5_year_33 : decode cX5_year 33 = .ok (.ifCond .ne 6, 3) := by decide +kernel
theorem dX5_year_36 : decode cX5_year 36 = .ok (.bipush (-2), 2) := by decide +kernel
theorem dX5_year_38 : decode cX5_year 38 = .ok (.ireturn, 1) := by decide +kernel
theorem dX5_year_39 : decode cX5_year 39 = .ok (.aload_n 0, 1) := by decide +kernel
theorem dX5_year_40 : decode cX5_year 40 = .ok (.invokevirtual 181, 3) := by decide +kernel
theorem dX5_year_43 : decode cX5_year 43 = .ok (.aload_n 0, 1) := by decide +kernel
theorem dX5_year_44 : decode cX5_year 44 = .ok (.invokevirtual 164, 3) := by decide +kernel
theorem dX5_year_47 : decode cX5_year 47 = .ok (.iload_n 1, 1) := by decide +kernel
theorem dX5_year_48 : decode cX5_year 48 = .ok (.istore 4, 2) := by decide +kernel
theorem dX5_year_50 : decode cX5_year 50 = .ok (.iconst 0, 1) := by decide +kernel
theorem dX5_year_51 : decode cX5_year 51 = .ok (.istore 5, 2) := by decide +kernel
theorem dX5_year_53 : decode cX5_year 53 = .ok (.iload 5, 2) := by decide +kernel
theorem dX5_year_55 : decode cX5_year 55 = .ok (.iload_n 2, 1) := by decide +kernel
theorem dX5_year_56 : decode cX5_year 56 = .ok (.if_icmp .ge 92, 3) := by decide +kernel
theorem dX5_year_59 : decode cX5_year 59 = .ok (.ldc2_w 250, 3) := by decide +kernel
theorem dX5_year_62 : decode cX5_year 62 = .ok (.iload 4, 2) := by decide +kernel
theorem dX5_year_64 : decode cX5_year 64 = .ok (.i2l, 1) := by decide +kernel
theorem dX5_year_65 : decode cX5_year 65 = .ok (.lmul, 1) := by decide +kernel
theorem dX5_year_66 : decode cX5_year 66 = .ok (.ldc2_w 252, 3) := by decide +kernel
theorem dX5_year_69 : decode cX5_year 69 = .ok (.ladd, 1) := by decide +kernel
theorem dX5_year_70 : decode cX5_year 70 = .ok (.ldc2_w 254, 3) := by decide +kernel
theorem dX5_year_73 : decode cX5_year 73 = .ok (.lrem, 1) := by decide +kernel
theorem dX5_year_74 : decode cX5_year 74 = .ok (.l2i, 1) := by decide +kernel
theorem dX5_year_75 : decode cX5_year 75 = .ok (.istore 4, 2) := by decide +kernel
theorem dX5_year_77 : decode cX5_year 77 = .ok (.iload 4, 2) := by decide +kernel
theorem dX5_year_79 : decode cX5_year 79 = .ok (.bipush 48, 2) := by decide +kernel
theorem dX5_year_81 : decode cX5_year 81 = .ok (.idiv, 1) := by decide +kernel
theorem dX5_year_82 : decode cX5_year 82 = .ok (.bipush 6, 2) := by decide +kernel
theorem dX5_year_84 : decode cX5_year 84 = .ok (.irem, 1) := by decide +kernel
theorem dX5_year_85 : decode cX5_year 85 = .ok (.invokestatic 256, 3) := by decide +kernel
theorem dX5_year_88 : decode cX5_year 88 = .ok (.istore 6, 2) := by decide +kernel
theorem dX5_year_90 : decode cX5_year 90 = .ok (.iload 4, 2) := by decide +kernel
theorem dX5_year_92 : decode cX5_year 92 = .ok (.iconst 4, 1) := by decide +kernel
theorem dX5_year_93 : decode cX5_year 93 = .ok (.irem, 1) := by decide +kernel
theorem dX5_year_94 : decode cX5_year 94 = .ok (.istore 7, 2) := by decide +kernel
theorem dX5_year_96 : decode cX5_year 96 = .ok (.iload 4, 2) := by decide +kernel
theorem dX5_year_98 : decode cX5_year 98 = .ok (.iconst 4, 1) := by decide +kernel
theorem dX5_year_99 : decode cX5_year 99 = .ok (.idiv, 1) := by decide +kernel
theorem dX5_year_100 : decode cX5_year 100 = .ok (.bipush 12, 2) := by decide +kernel
theorem dX5_year_102 : decode cX5_year 102 = .ok (.irem, 1) := by decide +kernel
theorem dX5_year_103 : decode cX5_year 103 = .ok (.istore 8, 2) := by decide +kernel
theorem dX5_year_105 : decode cX5_year 105 = .ok (.iload 4, 2) := by decide +kernel
theorem dX5_year_107 : decode cX5_year 107 = .ok (.sipush 288, 3) := by decide +kernel
theorem dX5_year_110 : decode cX5_year 110 = .ok (.idiv, 1) := by decide +kernel
theorem dX5_year_111 : decode cX5_year 111 = .ok (.iconst 4, 1) := by decide +kernel
theorem dX5_year_112 : decode cX5_year 112 = .ok (.irem, 1) := by decide +kernel
theorem dX5_year_113 : decode cX5_year 113 = .ok (.istore 9, 2) := by decide +kernel
theorem dX5_year_115 : decode cX5_year 115 = .ok (.aload_n 0, 1) := by decide +kernel
theorem dX5_year_116 : decode cX5_year 116 = .ok (.iload 6, 2) := by decide +kernel
theorem dX5_year_118 : decode cX5_year 118 = .ok (.iload 7, 2) := by decide +kernel
theorem dX5_year_120 : decode cX5_year 120 = .ok (.iload 8, 2) := by decide +kernel
theorem dX5_year_122 : decode cX5_year 122 = .ok (.iload 9, 2) := by decide +kernel
theorem dX5_year_124 : decode cX5_year 124 = .ok (.invokevirtual 173, 3) := by decide +kernel
theorem dX5_year_127 : decode cX5_year 127 = .ok (.ifCond .ne 15, 3) := by decide +kernel
theorem dX5_year_130 : decode cX5_year 130 = .ok (.aload_n 0, 1) := by decide +kernel
theorem dX5_year_131 : decode cX5_year 131 = .ok (.iload 6, 2) := by decide +kernel
theorem dX5_year_133 : decode cX5_year 133 = .ok (.iload 7, 2) := by decide +kernel
theorem dX5_year_135 : decode cX5_year 135 = .ok (.iload 8, 2) := by decide +kernel
theorem dX5_year_137 : decode cX5_year 137 = .ok (.iload 9, 2) := by decide +kernel
theorem dX5_year_139 : decode cX5_year 139 = .ok (.invokevirtual 177, 3) := by decide +kernel
theorem dX5_year_142 : decode cX5_year 142 = .ok (.iinc 5 1, 3) := by decide +kernel
theorem dX5_year_145 : decode cX5_year 145 = .ok (.goto (-92), 3) := by decide +kernel
theorem dX5_year_148 : decode cX5_year 148 = .ok (.iconst 0, 1) := by decide +kernel
theorem dX5_year_149 : decode cX5_year 149 = .ok (.istore 5, 2) := by decide +kernel
theorem dX5_year_151 : decode cX5_year 151 = .ok (.iconst 0, 1) := by decide +kernel
theorem dX5_year_152 : decode cX5_year 152 = .ok (.istore 6, 2) := by decide +kernel
theorem dX5_year_154 : decode cX5_year 154 = .ok (.iload 6, 2) := by decide +kernel
theorem dX5_year_156 : decode cX5_year 156 = .ok (.iconst 4, 1) := by decide +kernel
theorem dX5_year_157 : decode cX5_year 157 = .ok (.if_icmp .ge 47, 3) := by decide +kernel
theorem dX5_year_160 : decode cX5_year 160 = .ok (.iload 5, 2) := by decide +kernel
theorem dX5_year_162 : decode cX5_year 162 = .ok (.iload_n 3, 1) := by decide +kernel
theorem dX5_year_163 : decode cX5_year 163 = .ok (.ifCond .ne 13, 3) := by decide +kernel
theorem dX5_year_166 : decode cX5_year 166 = .ok (.aload_n 0, 1) := by decide +kernel
theorem dX5_year_167 : decode cX5_year 167 = .ok (.getfield 19, 3) := by decide +kernel
theorem dX5_year_170 : decode cX5_year 170 = .ok (.iload 6, 2) := by decide +kernel
theorem dX5_year_172 : decode cX5_year 172 = .ok (.iaload, 1) := by decide +kernel
theorem dX5_year_173 : decode cX5_year 173 = .ok (.goto 22, 3) := by decide +kernel
theorem dX5_year_176 : decode cX5_year 176 = .ok (.iload_n 3, 1) := by decide +kernel
theorem dX5_year_177 : decode cX5_year 177 = .ok (.iconst 2, 1) := by decide +kernel
theorem dX5_year_178 : decode cX5_year 178 = .ok (.if_icmp .ne 16, 3) := by decide +kernel
theorem dX5_year_181 : decode cX5_year 181 = .ok (.aload_n 0, 1) := by decide +kernel
theorem dX5_year_182 : decode cX5_year 182 = .ok (.getfield 22, 3) := by decide +kernel
theorem dX5_year_185 : decode cX5_year 185 = .ok (.iload 6, 2) := by decide +kernel
theorem dX5_year_187 : decode cX5_year 187 = .ok (.iaload, 1) := by decide +kernel
theorem dX5_year_188 : decode cX5_year 188 = .ok (.invokestatic 89, 3) := by decide +kernel
theorem dX5_year_191 : decode cX5_year 191 = .ok (.goto 4, 3) := by decide +kernel
theorem dX5_year_194 : decode cX5_year 194 = .ok (.iconst 0, 1) := by decide +kernel
theorem dX5_year_195 : decode cX5_year 195 = .ok (.iadd, 1) := by decide +kernel
theorem dX5_year_196 : decode cX5_year 196 = .ok (.istore 5, 2) := by decide +kernel
theorem dX5_year_198 : decode cX5_year 198 = .ok (.iinc 6 1, 3) := by decide +kernel
theorem dX5_year_201 : decode cX5_year 201 = .ok (.goto (-47), 3) := by decide +kernel
theorem dX5_year_204 : decode cX5_year 204 = .ok (.iload_n 3, 1) := by decide +kernel
theorem dX5_year_205 : decode cX5_year 205 = .ok (.iconst 1, 1) := by decide +kernel
theorem dX5_year_206 : decode cX5_year 206 = .ok (.if_icmp .ne 13, 3) := by decide +kernel
theorem dX5_year_209 : decode cX5_year 209 = .ok (.aload_n 0, 1) := by decide +kernel
theorem dX5_year_210 : decode cX5_year 210 = .ok (.sipush 4095, 3) := by decide +kernel
theorem dX5_year_213 : decode cX5_year 213 = .ok (.invokevirtual 212, 3) := by decide +kernel
theorem dX5_year_216 : decode cX5_year 216 = .ok (.goto 5, 3) := by decide +kernel
theorem dX5_year_219 : decode cX5_year 219 = .ok (.iload 5, 2) := by decide +kernel
theorem dX5_year_221 : decode cX5_year 221 = .ok (.istore 6, 2) := by decide +kernel
theorem dX5_year_223 : decode cX5_year 223 = .ok (.aload_n 0, 1) := by decide +kernel
theorem dX5_year_224 : decode cX5_year 224 = .ok (.iload 6, 2) := by decide +kernel
theorem dX5_year_226 : decode cX5_year 226 = .ok (.invokevirtual 193, 3) := by decide +kernel
theorem dX5_year_229 : decode cX5_year 229 = .ok (.ireturn, 1) := by decide +kernel
theorem dX5_pass_0 : decode cX5_pass 0 = .ok (.aload_n 0, 1) := by decide +kernel
theorem dX5_pass_1 : decode cX5_pass 1 = .ok (.getfield 259, 3) := by decide +kernel
theorem dX5_pass_4 : decode cX5_pass 4 = .ok (.ifCond .eq 7, 3) := by decide +kernel
theorem dX5_pass_7 : decode cX5_pass 7 = .ok (.iload_n 1, 1) := by decide +kernel
theorem dX5_pass_8 : decode cX5_pass 8 = .ok (.goto 12, 3) := by decide +kernel
theorem dX5_pass_11 : decode cX5_pass 11 = .ok (.aload_n 0, 1) := by decide +kernel
theorem dX5_pass_12 : decode cX5_pass 12 = .ok (.getfield 62, 3) := by decide +kernel
theorem dX5_pass_15 : decode cX5_pass 15 = .ok (.aload_n 0, 1) := by decide +kernel
theorem dX5_pass_16 : decode cX5_pass 16 = .ok (.getfield 263, 3) := by decide +kernel
theorem dX5_pass_19 : decode cX5_pass 19 = .ok (.iaload, 1) := by decide +kernel
theorem dX5_pass_20 : decode cX5_pass 20 = .ok (.istore_n 2, 1) := by decide +kernel
theorem dX5_pass_21 : decode cX5_pass 21 = .ok (.aload_n 0, 1) := by decide +kernel
theorem dX5_pass_22 : decode cX5_pass 22 = .ok (.getfield 62, 3) := by decide +kernel
theorem dX5_pass_25 : decode cX5_pass 25 = .ok (.aload_n 0, 1) := by decide +kernel
theorem dX5_pass_26 : decode cX5_pass 26 = .ok (.getfield 263, 3) := by decide +kernel
theorem dX5_pass_29 : decode cX5_pass 29 = .ok (.iload_n 2, 1) := by decide +kernel
theorem dX5_pass_30 : decode cX5_pass 30 = .ok (.iastore, 1) := by decide +kernel
theorem dX5_pass_31 : decode cX5_pass 31 = .ok (.aload_n 0, 1) := by decide +kernel
theorem dX5_pass_32 : decode cX5_pass 32 = .ok (.dup, 1) := by decide +kernel
theorem dX5_pass_33 : decode cX5_pass 33 = .ok (.getfield 263, 3) := by decide +kernel
theorem dX5_pass_36 : decode cX5_pass 36 = .ok (.iconst 1, 1) := by decide +kernel
theorem dX5_pass_37 : decode cX5_pass 37 = .ok (.iadd, 1) := by decide +kernel
theorem dX5_pass_38 : decode cX5_pass 38 = .ok (.putfield 263, 3) := by decide +kernel
theorem dX5_pass_41 : decode cX5_pass 41 = .ok (.iload_n 2, 1) := by decide +kernel
theorem dX5_pass_42 : decode cX5_pass 42 = .ok (.ireturn, 1) := by decide +kernel
set_option maxRecDepth 20000 in
theorem ggX5_passRow_X5_pass : GoodIn wsX5_passRow wsX5_pass := goodIn_r _ [5, 6, 7, 8, 9, 10, 11, 12, 13, 14, 15, 16, 17, 18, 19, 20, 21, 22, 23, 24, 25, 26, 27, 28, 29, 30, 31, 32, 33, 34, 35, 36, 37, 38, 39, 40, 41] (by decide +kernel) (by decide +kernel)
set_option maxRecDepth 20000 in
theorem gX5_passRow_X5_pass : GoodIn wsX5_passRow (wsV RX5 266 RX5 yX5_pass wsX5_pass) := goodIn_app (goodIn_of _ (by decide +kernel)) ggX5_passRow_X5_pass
theorem dX5_passRow_0 : decode cX5_passRow 0 = .ok (.iconst 0, 1) := by decide +kernel
theorem dX5_passRow_1 : decode cX5_passRow 1 = .ok (.istore_n 3, 1) := by decide +kernel
theorem dX5_passRow_2 : decode cX5_passRow 2 = .ok (.iload_n 3, 1) := by decide +kernel
theorem dX5_passRow_3 : decode cX5_passRow 3 = .ok (.iload_n 2, 1) := by decide +kernel
theorem dX5_passRow_4 : decode cX5_passRow 4 = .ok (.if_icmp .ge 19, 3) := by decide +kernel
theorem dX5_passRow_7 : decode cX5_passRow 7 = .ok (.aload_n 1, 1) := by decide +kernel
theorem dX5_passRow_8 : decode cX5_passRow 8 = .ok (.iload_n 3, 1) := by decide +kernel
theorem dX5_passRow_9 : decode cX5_passRow 9 = .ok (.aload_n 0, 1) := by decide +kernel
theorem dX5_passRow_10 : decode cX5_passRow 10 = .ok (.aload_n 1, 1) := by decide +kernel
theorem dX5_passRow_11 : decode cX5_passRow 11 = .ok (.iload_n 3, 1) := by decide +kernel
theorem dX5_passRow_12 : decode cX5_passRow 12 = .ok (.iaload, 1) := by decide +kernel
theorem dX5_passRow_13 : decode cX5_passRow 13 = .ok (.invokevirtual 266, 3) := by decide +kernel
theorem dX5_passRow_16 : decode cX5_passRow 16 = .ok (.iastore, 1) := by decide +kernel
theorem dX5_passRow_17 : decode cX5_passRow 17 = .ok (.iinc 3 1, 3) := by decide +kernel
theorem dX5_passRow_20 : decode cX5_passRow 20 = .ok (.goto (-18), 3) := by decide +kernel
theorem dX5_passRow_23 : decode cX5_passRow 23 = .ok (.return_, 1) := by decide +kernel
set_option maxRecDepth 20000 in
theorem ggX5_passAll_X5_pass : GoodIn wsX5_passAll wsX5_pass := goodIn_r _ [16, 17, 18, 19, 24, 25, 26, 27, 28, 29, 30, 31, 32, 33, 34, 35, 36, 37, 38, 39, 40, 41, 42, 43, 44, 45, 46, 47, 48, 49, 50, 51, 52, 53, 54, 55, 56] (by decide +kernel) (by decide +kernel)
set_option maxRecDepth 20000 in
theorem gX5_passAll_X5_pass : GoodIn wsX5_passAll (wsV RX5 266 RX5 yX5_pass wsX5_pass) := goodIn_app (goodIn_of _ (by decide +kernel)) ggX5_passAll_X5_pass
set_option maxRecDepth 20000 in
theorem ggX5_passAll_X5_passRow : GoodIn wsX5_passAll wsX5_passRow := goodIn_r _ [23, 12, 13, 14, 15, 16, 17, 18, 19, 24, 25, 26, 27, 28, 29, 30, 31, 32, 33, 34, 35, 36, 37, 38, 39, 40, 41, 42, 43, 44, 45, 46, 47, 48, 49, 50, 51, 52, 53, 54, 55, 56] (by decide +kernel) (by decide +kernel)
set_option maxRecDepth 20000 in
theorem gX5_passAll_X5_passRow : GoodIn wsX5_passAll (wsV RX5 269 RX5 yX5_passRow wsX5_passRow) := goodIn_app (goodIn_of _ (by decide +kernel)) ggX5_passAll_X5_passRow
theorem dX5_passAll_0 : decode cX5_passAll 0 = .ok (.aload_n 0, 1) := by decide +kernel
theorem dX5_passAll_1 : decode cX5_passAll 1 = .ok (.aload_n 0, 1) := by decide +kernel
theorem dX5_passAll_2 : decode cX5_passAll 2 = .ok (.aload_n 0, 1) := by decide +kernel
theorem dX5_passAll_3 : decode cX5_passAll 3 = .ok (.getfield 218, 3) := by decide +kernel
theorem dX5_passAll_6 : decode cX5_passAll 6 = .ok (.invokevirtual 266, 3) := by decide +kernel
theorem dX5_passAll_9 : decode cX5_passAll 9 = .ok (.putfield 218, 3) := by decide +kernel
theorem dX5_passAll_12 : decode cX5_passAll 12 = .ok (.aload_n 0, 1) := by decide +kernel
theorem dX5_passAll_13 : decode cX5_passAll 13 = .ok (.aload_n 0, 1) := by decide +kernel
theorem dX5_passAll_14 : decode cX5_passAll 14 = .ok (.aload_n 0, 1) := by decide +kernel
theorem dX5_passAll_15 : decode cX5_passAll 15 = .ok (.getfield 224, 3) := by decide +kernel
theorem dX5_passAll_18 : decode cX5_passAll 18 = .ok (.invokevirtual 266, 3) := by decide +kernel
theorem dX5_passAll_21 : decode cX5_passAll 21 = .ok (.putfield 224, 3) := by decide +kernel
theorem dX5_passAll_24 : decode cX5_passAll 24 = .ok (.aload_n 0, 1) := by decide +kernel
theorem dX5_passAll_25 : decode cX5_passAll 25 = .ok (.aload_n 0, 1) := by decide +kernel
theorem dX5_passAll_26 : decode cX5_passAll 26 = .ok (.getfield 7, 3) := by decide +kernel
theorem dX5_passAll_29 : decode cX5_passAll 29 = .ok (.bipush 12, 2) := by decide +kernel
theorem dX5_passAll_31 : decode cX5_passAll 31 = .ok (.invokevirtual 269, 3) := by decide +kernel
theorem dX5_passAll_34 : decode cX5_passAll 34 = .ok (.aload_n 0, 1) := by decide +kernel
theorem dX5_passAll_35 : decode cX5_passAll 35 = .ok (.aload_n 0, 1) := by decide +kernel
theorem dX5_passAll_36 : decode cX5_passAll 36 = .ok (.getfield 13, 3) := by decide +kernel
theorem dX5_passAll_39 : decode cX5_passAll 39 = .ok (.bipush 12, 2) := by decide +kernel
theorem dX5_passAll_41 : decode cX5_passAll 41 = .ok (.invokevirtual 269, 3) := by decide +kernel
theorem dX5_passAll_44 : decode cX5_passAll 44 = .ok (.aload_n 0, 1) := by decide +kernel
theorem dX5_passAll_45 : decode cX5_passAll 45 = .ok (.aload_n 0, 1) := by decide +kernel
theorem dX5_passAll_46 : decode cX5_passAll 46 = .ok (.getfield 16, 3) := by decide +kernel
theorem dX5_passAll_49 : decode cX5_passAll 49 = .ok (.bipush 12, 2) := by decide +kernel
theorem dX5_passAll_51 : decode cX5_passAll 51 = .ok (.invokevirtual 269, 3) := by decide +kernel
theorem dX5_passAll_54 : decode cX5_passAll 54 = .ok (.aload_n 0, 1) := by decide +kernel
theorem dX5_passAll_55 : decode cX5_passAll 55 = .ok (.aload_n 0, 1) := by decide +kernel
theorem dX5_passAll_56 : decode cX5_passAll 56 = .ok (.getfield 19, 3) := by decide +kernel
theorem dX5_passAll_59 : decode cX5_passAll 59 = .ok (.iconst 4, 1) := by decide +kernel
theorem dX5_passAll_60 : decode cX5_passAll 60 = .ok (.invokevirtual 269, 3) := by decide +kernel
theorem dX5_passAll_63 : decode cX5_passAll 63 = .ok (.aload_n 0, 1) := by decide +kernel
theorem dX5_passAll_64 : decode cX5_passAll 64 = .ok (.aload_n 0, 1) := by decide +kernel
theorem dX5_passAll_65 : decode cX5_passAll 65 = .ok (.getfield 22, 3) := by decide +kernel
theorem dX5_passAll_68 : decode cX5_passAll 68 = .ok (.iconst 4, 1) := by decide +kernel
theorem dX5_passAll_69 : decode cX5_passAll 69 = .ok (.invokevirtual 269, 3) := by decide +kernel
theorem dX5_passAll_72 : decode cX5_passAll 72 = .ok (.aload_n 0, 1) := by decide +kernel
theorem dX5_passAll_73 : decode cX5_passAll 73 = .ok (.aload_n 0, 1) := by decide +kernel
theorem dX5_passAll_74 : decode cX5_passAll 74 = .ok (.getfield 25, 3) := by decide +kernel
theorem dX5_passAll_77 : decode cX5_passAll 77 = .ok (.bipush 8, 2) := by decide +kernel
theorem dX5_passAll_79 : decode cX5_passAll 79 = .ok (.invokevirtual 269, 3) := by decide +kernel
theorem dX5_passAll_82 : decode cX5_passAll 82 = .ok (.aload_n 0, 1) := by decide +kernel
theorem dX5_passAll_83 : decode cX5_passAll 83 = .ok (.aload_n 0, 1) := by decide +kernel
theorem dX5_passAll_84 : decode cX5_passAll 84 = .ok (.getfield 28, 3) := by decide +kernel
theorem dX5_passAll_87 : decode cX5_passAll 87 = .ok (.bipush 6, 2) := by decide +kernel
theorem dX5_passAll_89 : decode cX5_passAll 89 = .ok (.invokevirtual 269, 3) := by decide +kernel
theorem dX5_passAll_92 : decode cX5_passAll 92 = .ok (.aload_n 0, 1) := by decide +kernel
theorem dX5_passAll_93 : decode cX5_passAll 93 = .ok (.aload_n 0, 1) := by decide +kernel
theorem dX5_passAll_94 : decode cX5_passAll 94 = .ok (.getfield 31, 3) := by decide +kernel
theorem dX5_passAll_97 : decode cX5_passAll 97 = .ok (.bipush 6, 2) := by decide +kernel
theorem dX5_passAll_99 : decode cX5_passAll 99 = .ok (.invokevirtual 269, 3) := by decide +kernel
theorem dX5_passAll_102 : decode cX5_passAll 102 = .ok (.aload_n 0, 1) := by decide +kernel
theorem dX5_passAll_103 : decode cX5_passAll 103 = .ok (.aload_n 0, 1) := by decide +kernel
theorem dX5_passAll_104 : decode cX5_passAll 104 = .ok (.getfield 34, 3) := by decide +kernel
theorem dX5_passAll_107 : decode cX5_passAll 107 = .ok (.bipush 6, 2) := by decide +kernel
theorem dX5_passAll_109 : decode cX5_passAll 109 = .ok (.invokevirtual 269, 3) := by decide +kernel
theorem dX5_passAll_112 : decode cX5_passAll 112 = .ok (.return_, 1) := by decide +kernel
set_option maxRecDepth 20000 in
theorem ggX5_image_X5_in : GoodIn wsX5_image wsX5_in := goodIn_r _ [7] (by decide +kernel) (by decide +kernel)
set_option maxRecDepth 20000 in
theorem gX5_image_X5_in : GoodIn wsX5_image (va_wsS RX5 71 yX5_in wsX5_in) := goodIn_app (goodIn_of _ (by decide +kernel)) ggX5_image_X5_in
set_option maxRecDepth 20000 in
theorem ggX5_image_X5_passAll : GoodIn wsX5_image wsX5_passAll := goodIn_r _ [11, 12, 13, 14, 15, 16, 17, 18, 19, 20, 21, 22, 23, 24, 25, 6, 26, 2, 27, 1, 28, 29, 30, 31, 32, 33, 34, 35, 36, 37, 38, 39, 40, 41, 42, 43, 44, 45, 46, 47, 48, 49, 50, 51, 52, 53, 54, 55, 56, 57, 58, 59, 60, 61, 62, 63, 64] (by decide +kernel) (by decide +kernel)
set_option maxRecDepth 20000 in
theorem gX5_image_X5_passAll : GoodIn wsX5_image (wsV RX5 273 RX5 yX5_passAll wsX5_passAll) := goodIn_app (goodIn_of _ (by decide +kernel)) ggX5_image_X5_passAll
theorem dX5_image_0 : decode cX5_image 0 = .ok (.iload_n 1, 1) := by decide +kernel
theorem dX5_image_1 : decode cX5_image 1 = .ok (.i2l, 1) := by decide +kernel
theorem dX5_image_2 : decode cX5_image 2 = .ok (.lconst 0, 1) := by decide +kernel
theorem dX5_image_3 : decode cX5_image 3 = .ok (.lconst 1, 1) := by decide +kernel
theorem dX5_image_4 : decode cX5_image 4 = .ok (.invokestatic 71, 3) := by decide +kernel
theorem dX5_image_7 : decode cX5_image 7 = .ok (.ifCond .ne 6, 3) := by decide +kernel
theorem dX5_image_10 : decode cX5_image 10 = .ok (.bipush (-2), 2) := by decide +kernel
theorem dX5_image_12 : decode cX5_image 12 = .ok (.ireturn, 1) := by decide +kernel
theorem dX5_image_13 : decode cX5_image 13 = .ok (.aload_n 0, 1) := by decide +kernel
theorem dX5_image_14 : decode cX5_image 14 = .ok (.bipush 90, 2) := by decide +kernel
theorem dX5_image_16 : decode cX5_image 16 = .ok (.iload_n 1, 1) := by decide +kernel
theorem dX5_image_17 : decode cX5_image 17 = .ok (.imul, 1) := by decide +kernel
theorem dX5_image_18 : decode cX5_image 18 = .ok (.putfield 263, 3) := by decide +kernel
theorem dX5_image_21 : decode cX5_image 21 = .ok (.aload_n 0, 1) := by decide +kernel
theorem dX5_image_22 : decode cX5_image 22 = .ok (.iconst 1, 1) := by decide +kernel
theorem dX5_image_23 : decode cX5_image 23 = .ok (.putfield 259, 3) := by decide +kernel
theorem dX5_image_26 : decode cX5_image 26 = .ok (.aload_n 0, 1) := by decide +kernel
theorem dX5_image_27 : decode cX5_image 27 = .ok (.invokevirtual 273, 3) := by decide +kernel
theorem dX5_image_30 : decode cX5_image 30 = .ok (.aload_n 0, 1) := by decide +kernel
theorem dX5_image_31 : decode cX5_image 31 = .ok (.getfield 65, 3) := by decide +kernel
theorem dX5_image_34 : decode cX5_image 34 = .ok (.iload_n 1, 1) := by decide +kernel
theorem dX5_image_35 : decode cX5_image 35 = .ok (.iconst 1, 1) := by decide +kernel
theorem dX5_image_36 : decode cX5_image 36 = .ok (.bastore, 1) := by decide +kernel
theorem dX5_image_37 : decode cX5_image 37 = .ok (.iconst 1, 1) := by decide +kernel
theorem dX5_image_38 : decode cX5_image 38 = .ok (.ireturn, 1) := by decide +kernel
set_option maxRecDepth 20000 in
theorem ggX5_restore_X5_in : GoodIn wsX5_restore wsX5_in := goodIn_r _ [7] (by decide +kernel) (by decide +kernel)
set_option maxRecDepth 20000 in
theorem gX5_restore_X5_in : GoodIn wsX5_restore (va_wsS RX5 71 yX5_in wsX5_in) := goodIn_app (goodIn_of _ (by decide +kernel)) ggX5_restore_X5_in
set_option maxRecDepth 20000 in
theorem ggX5_restore_X5_passAll : GoodIn wsX5_restore wsX5_passAll := goodIn_r _ [11, 12, 13, 14, 15, 16, 17, 18, 19, 20, 21, 22, 23, 24, 25, 6, 26, 3, 27, 2, 28, 29, 30, 31, 32, 33, 34, 35, 36, 37, 38, 39, 40, 41, 42, 43, 44, 45, 46, 47, 48, 49, 50, 51, 52, 53, 54, 55, 56, 57, 58, 59, 60, 61, 62, 63, 64] (by decide +kernel) (by decide +kernel)
set_option maxRecDepth 20000 in
theorem gX5_restore_X5_passAll : GoodIn wsX5_restore (wsV RX5 273 RX5 yX5_passAll wsX5_passAll) := goodIn_app (goodIn_of _ (by decide +kernel)) ggX5_restore_X5_passAll
theorem dX5_restore_0 : decode cX5_restore 0 = .ok (.iload_n 1, 1) := by decide +kernel
theorem dX5_restore_1 : decode cX5_restore 1 = .ok (.i2l, 1) := by decide +kernel
theorem dX5_restore_2 : decode cX5_restore 2 = .ok (.lconst 0, 1) := by decide +kernel
theorem dX5_restore_3 : decode cX5_restore 3 = .ok (.lconst 1, 1) := by decide +kernel
theorem dX5_restore_4 : decode cX5_restore 4 = .ok (.invokestatic 71, 3) := by decide +kernel
theorem dX5_restore_7 : decode cX5_restore 7 = .ok (.ifCond .ne 6, 3) := by decide +kernel
theorem dX5_restore_10 : decode cX5_restore 10 = .ok (.bipush (-2), 2) := by decide +kernel
theorem dX5_restore_12 : decode cX5_restore 12 = .ok (.ireturn, 1) := by decide +kernel
theorem dX5_restore_13 : decode cX5_restore 13 = .ok (.aload_n 0, 1) := by decide +kernel
theorem dX5_restore_14 : decode cX5_restore 14 = .ok (.getfield 65, 3) := by decide +kernel
theorem dX5_restore_17 : decode cX5_restore 17 = .ok (.iload_n 1, 1) := by decide +kernel
theorem dX5_restore_18 : decode cX5_restore 18 = .ok (.baload, 1) := by decide +kernel
theorem dX5_restore_19 : decode cX5_restore 19 = .ok (.ifCond .ne 6, 3) := by decide +kernel
theorem dX5_restore_22 : decode cX5_restore 22 = .ok (.bipush (-3), 2) := by decide +kernel
theorem dX5_restore_24 : decode cX5_restore 24 = .ok (.ireturn, 1) := by decide +kernel
theorem dX5_restore_25 : decode cX5_restore 25 = .ok (.aload_n 0, 1) := by decide +kernel
theorem dX5_restore_26 : decode cX5_restore 26 = .ok (.bipush 90, 2) := by decide +kernel
theorem dX5_restore_28 : decode cX5_restore 28 = .ok (.iload_n 1, 1) := by decide +kernel
theorem dX5_restore_29 : decode cX5_restore 29 = .ok (.imul, 1) := by decide +kernel
theorem dX5_restore_30 : decode cX5_restore 30 = .ok (.putfield 263, 3) := by decide +kernel
theorem dX5_restore_33 : decode cX5_restore 33 = .ok (.aload_n 0, 1) := by decide +kernel
theorem dX5_restore_34 : decode cX5_restore 34 = .ok (.iconst 0, 1) := by decide +kernel
theorem dX5_restore_35 : decode cX5_restore 35 = .ok (.putfield 259, 3) := by decide +kernel
theorem dX5_restore_38 : decode cX5_restore 38 = .ok (.aload_n 0, 1) := by decide +kernel
theorem dX5_restore_39 : decode cX5_restore 39 = .ok (.invokevirtual 273, 3) := by decide +kernel
theorem dX5_restore_42 : decode cX5_restore 42 = .ok (.iconst 1, 1) := by decide +kernel
theorem dX5_restore_43 : decode cX5_restore 43 = .ok (.ireturn, 1) := by decide +kernel
set_option maxRecDepth 20000 in
theorem ggX5_toldOfWord_X5_rhymesOf : GoodIn wsX5_toldOfWord wsX5_rhymesOf := goodIn_r _ [7, 8, 9, 10, 11, 12, 13, 14, 15, 16, 17, 18, 19, 20, 21, 22, 23, 24, 25, 26, 27, 28, 29, 30, 31, 32, 33, 34, 35, 36, 37, 38, 39, 40, 41] (by decide +kernel) (by decide +kernel)
set_option maxRecDepth 20000 in
theorem gX5_toldOfWord_X5_rhymesOf : GoodIn wsX5_toldOfWord (wsV RX5 85 RX5 yX5_rhymesOf wsX5_rhymesOf) := goodIn_app (goodIn_of _ (by decide +kernel)) ggX5_toldOfWord_X5_rhymesOf
theorem dX5_toldOfWord_0 : decode cX5_toldOfWord 0 = .ok (.iload_n 2, 1) := by decide +kernel
theorem dX5_toldOfWord_1 : decode cX5_toldOfWord 1 = .ok (.ifCond .ne 12, 3) := by decide +kernel
theorem dX5_toldOfWord_4 : decode cX5_toldOfWord 4 = .ok (.aload_n 0, 1) := by decide +kernel
theorem dX5_toldOfWord_5 : decode cX5_toldOfWord 5 = .ok (.getfield 7, 3) := by decide +kernel
theorem dX5_toldOfWord_8 : decode cX5_toldOfWord 8 = .ok (.iload_n 1, 1) := by decide +kernel
theorem dX5_toldOfWord_9 : decode cX5_toldOfWord 9 = .ok (.iaload, 1) := by decide +kernel
theorem dX5_toldOfWord_10 : decode cX5_toldOfWord 10 = .ok (.goto 32, 3) := by decide +kernel
theorem dX5_toldOfWord_13 : decode cX5_toldOfWord 13 = .ok (.iload_n 2, 1) := by decide +kernel
theorem dX5_toldOfWord_14 : decode cX5_toldOfWord 14 = .ok (.iconst 1, 1) := by decide +kernel
theorem dX5_toldOfWord_15 : decode cX5_toldOfWord 15 = .ok (.if_icmp .ne 12, 3) := by decide +kernel
theorem dX5_toldOfWord_18 : decode cX5_toldOfWord 18 = .ok (.aload_n 0, 1) := by decide +kernel
theorem dX5_toldOfWord_19 : decode cX5_toldOfWord 19 = .ok (.getfield 13, 3) := by decide +kernel
theorem dX5_toldOfWord_22 : decode cX5_toldOfWord 22 = .ok (.iload_n 1, 1) := by decide +kernel
theorem dX5_toldOfWord_23 : decode cX5_toldOfWord 23 = .ok (.iaload, 1) := by decide +kernel
theorem dX5_toldOfWord_24 : decode cX5_toldOfWord 24 = .ok (.goto 18, 3) := by decide +kernel
theorem dX5_toldOfWord_27 : decode cX5_toldOfWord 27 = .ok (.iload_n 2, 1) := by decide +kernel
theorem dX5_toldOfWord_28 : decode cX5_toldOfWord 28 = .ok (.iconst 2, 1) := by decide +kernel
theorem dX5_toldOfWord_29 : decode cX5_toldOfWord 29 = .ok (.if_icmp .ne 11, 3) := by decide +kernel
theorem dX5_toldOfWord_32 : decode cX5_toldOfWord 32 = .ok (.aload_n 0, 1) := by decide +kernel
theorem dX5_toldOfWord_33 : decode cX5_toldOfWord 33 = .ok (.iload_n 1, 1) := by decide +kernel
theorem dX5_toldOfWord_34 : decode cX5_toldOfWord 34 = .ok (.invokevirtual 85, 3) := by decide +kernel
theorem dX5_toldOfWord_37 : decode cX5_toldOfWord 37 = .ok (.goto 5, 3) := by decide +kernel
theorem dX5_toldOfWord_40 : decode cX5_toldOfWord 40 = .ok (.bipush (-2), 2) := by decide +kernel
theorem dX5_toldOfWord_42 : decode cX5_toldOfWord 42 = .ok (.ireturn, 1) := by decide +kernel
set_option maxRecDepth 20000 in
theorem ggX5_told_X5_in : GoodIn wsX5_told wsX5_in := goodIn_r _ [15] (by decide +kernel) (by decide +kernel)
set_option maxRecDepth 20000 in
theorem gX5_told_X5_in : GoodIn wsX5_told (va_wsS RX5 71 yX5_in wsX5_in) := goodIn_app (goodIn_of _ (by decide +kernel)) ggX5_told_X5_in
set_option maxRecDepth 20000 in
theorem ggX5_told_X5_toldOfWord : GoodIn wsX5_told wsX5_toldOfWord := goodIn_r _ [19, 20, 21, 22, 23, 24, 14, 25, 26, 27, 28, 29, 30, 31, 32, 33, 34, 35, 36, 37, 38, 39, 40, 41, 42, 43, 44, 45, 46, 47, 48, 49, 50, 51, 52, 53, 54, 55, 56, 57, 58, 59] (by decide +kernel) (by decide +kernel)
set_option maxRecDepth 20000 in
theorem gX5_told_X5_toldOfWord : GoodIn wsX5_told (wsV RX5 280 RX5 yX5_toldOfWord wsX5_toldOfWord) := goodIn_app (goodIn_of _ (by decide +kernel)) ggX5_told_X5_toldOfWord
theorem dX5_told_0 : decode cX5_told 0 = .ok (.iload_n 1, 1) := by decide +kernel
theorem dX5_told_1 : decode cX5_told 1 = .ok (.i2l, 1) := by decide +kernel
theorem dX5_told_2 : decode cX5_told 2 = .ok (.ldc2_w 276, 3) := by decide +kernel
theorem dX5_told_5 : decode cX5_told 5 = .ok (.ldc2_w 278, 3) := by decide +kernel
theorem dX5_told_8 : decode cX5_told 8 = .ok (.invokestatic 71, 3) := by decide +kernel
theorem dX5_told_11 : decode cX5_told 11 = .ok (.ifCond .eq 19, 3) := by decide +kernel
theorem dX5_told_14 : decode cX5_told 14 = .ok (.aload_n 0, 1) := by decide +kernel
theorem dX5_told_15 : decode cX5_told 15 = .ok (.iload_n 1, 1) := by decide +kernel
theorem dX5_told_16 : decode cX5_told 16 = .ok (.bipush 100, 2) := by decide +kernel
theorem dX5_told_18 : decode cX5_told 18 = .ok (.isub, 1) := by decide +kernel
theorem dX5_told_19 : decode cX5_told 19 = .ok (.bipush 10, 2) := by decide +kernel
theorem dX5_told_21 : decode cX5_told 21 = .ok (.idiv, 1) := by decide +kernel
theorem dX5_told_22 : decode cX5_told 22 = .ok (.iload_n 1, 1) := by decide +kernel
theorem dX5_told_23 : decode cX5_told 23 = .ok (.bipush 10, 2) := by decide +kernel
theorem dX5_told_25 : decode cX5_told 25 = .ok (.irem, 1) := by decide +kernel
theorem dX5_told_26 : decode cX5_told 26 = .ok (.invokevirtual 280, 3) := by decide +kernel
theorem dX5_told_29 : decode cX5_told 29 = .ok (.ireturn, 1) := by decide +kernel
theorem dX5_told_30 : decode cX5_told 30 = .ok (.iload_n 1, 1) := by decide +kernel
theorem dX5_told_31 : decode cX5_told 31 = .ok (.i2l, 1) := by decide +kernel
theorem dX5_told_32 : decode cX5_told 32 = .ok (.ldc2_w 238, 3) := by decide +kernel
theorem dX5_told_35 : decode cX5_told 35 = .ok (.ldc2_w 283, 3) := by decide +kernel
theorem dX5_told_38 : decode cX5_told 38 = .ok (.invokestatic 71, 3) := by decide +kernel
theorem dX5_told_41 : decode cX5_told 41 = .ok (.ifCond .eq 13, 3) := by decide +kernel
theorem dX5_told_44 : decode cX5_told 44 = .ok (.aload_n 0, 1) := by decide +kernel
theorem dX5_told_45 : decode cX5_told 45 = .ok (.getfield 19, 3) := by decide +kernel
theorem dX5_told_48 : decode cX5_told 48 = .ok (.iload_n 1, 1) := by decide +kernel
theorem dX5_told_49 : decode cX5_told 49 = .ok (.bipush 10, 2) := by decide +kernel
theorem dX5_told_51 : decode cX5_told 51 = .ok (.isub, 1) := by decide +kernel
theorem dX5_told_52 : decode cX5_told 52 = .ok (.iaload, 1) := by decide +kernel
theorem dX5_told_53 : decode cX5_told 53 = .ok (.ireturn, 1) := by decide +kernel
theorem dX5_told_54 : decode cX5_told 54 = .ok (.iload_n 1, 1) := by decide +kernel
theorem dX5_told_55 : decode cX5_told 55 = .ok (.i2l, 1) := by decide +kernel
theorem dX5_told_56 : decode cX5_told 56 = .ok (.ldc2_w 246, 3) := by decide +kernel
theorem dX5_told_59 : decode cX5_told 59 = .ok (.ldc2_w 285, 3) := by decide +kernel
theorem dX5_told_62 : decode cX5_told 62 = .ok (.invokestatic 71, 3) := by decide +kernel
theorem dX5_told_65 : decode cX5_told 65 = .ok (.ifCond .eq 13, 3) := by decide +kernel
theorem dX5_told_68 : decode cX5_told 68 = .ok (.aload_n 0, 1) := by decide +kernel
theorem dX5_told_69 : decode cX5_told 69 = .ok (.getfield 22, 3) := by decide +kernel
theorem dX5_told_72 : decode cX5_told 72 = .ok (.iload_n 1, 1) := by decide +kernel
theorem dX5_told_73 : decode cX5_told 73 = .ok (.bipush 20, 2) := by decide +kernel
theorem dX5_told_75 : decode cX5_told 75 = .ok (.isub, 1) := by decide +kernel
theorem dX5_told_76 : decode cX5_told 76 = .ok (.iaload, 1) := by decide +kernel
theorem dX5_told_77 : decode cX5_told 77 = .ok (.ireturn, 1) := by decide +kernel
theorem dX5_told_78 : decode cX5_told 78 = .ok (.iload_n 1, 1) := by decide +kernel
theorem dX5_told_79 : decode cX5_told 79 = .ok (.ifCond .ne 10, 3) := by decide +kernel
theorem dX5_told_82 : decode cX5_told 82 = .ok (.aload_n 0, 1) := by decide +kernel
theorem dX5_told_83 : decode cX5_told 83 = .ok (.getfield 106, 3) := by decide +kernel
theorem dX5_told_86 : decode cX5_told 86 = .ok (.goto 29, 3) := by decide +kernel
theorem dX5_told_89 : decode cX5_told 89 = .ok (.iload_n 1, 1) := by decide +kernel
theorem dX5_told_90 : decode cX5_told 90 = .ok (.iconst 1, 1) := by decide +kernel
theorem dX5_told_91 : decode cX5_told 91 = .ok (.if_icmp .ne 10, 3) := by decide +kernel
theorem dX5_told_94 : decode cX5_told 94 = .ok (.aload_n 0, 1) := by decide +kernel
theorem dX5_told_95 : decode cX5_told 95 = .ok (.getfield 218, 3) := by decide +kernel
theorem dX5_told_98 : decode cX5_told 98 = .ok (.goto 17, 3) := by decide +kernel
theorem dX5_told_101 : decode cX5_told 101 = .ok (.iload_n 1, 1) := by decide +kernel
theorem dX5_told_102 : decode cX5_told 102 = .ok (.iconst 2, 1) := by decide +kernel
theorem dX5_told_103 : decode cX5_told 103 = .ok (.if_icmp .ne 10, 3) := by decide +kernel
theorem dX5_told_106 : decode cX5_told 106 = .ok (.aload_n 0, 1) := by decide +kernel
theorem dX5_told_107 : decode cX5_told 107 = .ok (.getfield 224, 3) := by decide +kernel
theorem dX5_told_110 : decode cX5_told 110 = .ok (.goto 5, 3) := by decide +kernel
theorem dX5_told_113 : decode cX5_told 113 = .ok (.bipush (-2), 2) := by decide +kernel
theorem dX5_told_115 : decode cX5_told 115 = .ok (.ireturn, 1) := by decide +kernel
theorem dJ6_bitCount_0f7a4_0 : decode cJ6_bitCount_0f7a4 0 = .ok (.iload_n 0, 1) := by decide +kernel
theorem dJ6_bitCount_0f7a4_1 : decode cJ6_bitCount_0f7a4 1 = .ok (.iload_n 0, 1) := by decide +kernel
theorem dJ6_bitCount_0f7a4_2 : decode cJ6_bitCount_0f7a4 2 = .ok (.iconst 1, 1) := by decide +kernel
theorem dJ6_bitCount_0f7a4_3 : decode cJ6_bitCount_0f7a4 3 = .ok (.iushr, 1) := by decide +kernel
theorem dJ6_bitCount_0f7a4_4 : decode cJ6_bitCount_0f7a4 4 = .ok (.ldc_w 265, 3) := by decide +kernel
theorem dJ6_bitCount_0f7a4_7 : decode cJ6_bitCount_0f7a4 7 = .ok (.iand, 1) := by decide +kernel
theorem dJ6_bitCount_0f7a4_8 : decode cJ6_bitCount_0f7a4 8 = .ok (.isub, 1) := by decide +kernel
theorem dJ6_bitCount_0f7a4_9 : decode cJ6_bitCount_0f7a4 9 = .ok (.istore_n 0, 1) := by decide +kernel
theorem dJ6_bitCount_0f7a4_10 : decode cJ6_bitCount_0f7a4 10 = .ok (.iload_n 0, 1) := by decide +kernel
theorem dJ6_bitCount_0f7a4_11 : decode cJ6_bitCount_0f7a4 11 = .ok (.ldc_w 266, 3) := by decide +kernel
theorem dJ6_bitCount_0f7a4_14 : decode cJ6_bitCount_0f7a4 14 = .ok (.iand, 1) := by decide +kernel
theorem dJ6_bitCount_0f7a4_15 : decode cJ6_bitCount_0f7a4 15 = .ok (.iload_n 0, 1) := by decide +kernel
theorem dJ6_bitCount_0f7a4_16 : decode cJ6_bitCount_0f7a4 16 = .ok (.iconst 2, 1) := by decide +kernel
theorem dJ6_bitCount_0f7a4_17 : decode cJ6_bitCount_0f7a4 17 = .ok (.iushr, 1) := by decide +kernel
theorem dJ6_bitCount_0f7a4_18 : decode cJ6_bitCount_0f7a4 18 = .ok (.ldc_w 266, 3) := by decide +kernel
theorem dJ6_bitCount_0f7a4_21 : decode cJ6_bitCount_0f7a4 21 = .ok (.iand, 1) := by decide +kernel
theorem dJ6_bitCount_0f7a4_22 : decode cJ6_bitCount_0f7a4 22 = .ok (.iadd, 1) := by decide +kernel
theorem dJ6_bitCount_0f7a4_23 : decode cJ6_bitCount_0f7a4 23 = .ok (.istore_n 0, 1) := by decide +kernel
theorem dJ6_bitCount_0f7a4_24 : decode cJ6_bitCount_0f7a4 24 = .ok (.iload_n 0, 1) := by decide +kernel
theorem dJ6_bitCount_0f7a4_25 : decode cJ6_bitCount_0f7a4 25 = .ok (.iload_n 0, 1) := by decide +kernel
theorem dJ6_bitCount_0f7a4_26 : decode cJ6_bitCount_0f7a4 26 = .ok (.iconst 4, 1) := by decide +kernel
theorem dJ6_bitCount_0f7a4_27 : decode cJ6_bitCount_0f7a4 27 = .ok (.iushr, 1) := by decide +kernel
theorem dJ6_bitCount_0f7a4_28 : decode cJ6_bitCount_0f7a4 28 = .ok (.iadd, 1) := by decide +kernel
theorem dJ6_bitCount_0f7a4_29 : decode cJ6_bitCount_0f7a4 29 = .ok (.ldc_w 267, 3) := by decide +kernel
theorem dJ6_bitCount_0f7a4_32 : decode cJ6_bitCount_0f7a4 32 = .ok (.iand, 1) := by decide +kernel
theorem dJ6_bitCount_0f7a4_33 : decode cJ6_bitCount_0f7a4 33 = .ok (.istore_n 0, 1) := by decide +kernel
theorem dJ6_bitCount_0f7a4_34 : decode cJ6_bitCount_0f7a4 34 = .ok (.iload_n 0, 1) := by decide +kernel
theorem dJ6_bitCount_0f7a4_35 : decode cJ6_bitCount_0f7a4 35 = .ok (.iload_n 0, 1) := by decide +kernel
theorem dJ6_bitCount_0f7a4_36 : decode cJ6_bitCount_0f7a4 36 = .ok (.bipush 8, 2) := by decide +kernel
theorem dJ6_bitCount_0f7a4_38 : decode cJ6_bitCount_0f7a4 38 = .ok (.iushr, 1) := by decide +kernel
theorem dJ6_bitCount_0f7a4_39 : decode cJ6_bitCount_0f7a4 39 = .ok (.iadd, 1) := by decide +kernel
theorem dJ6_bitCount_0f7a4_40 : decode cJ6_bitCount_0f7a4 40 = .ok (.istore_n 0, 1) := by decide +kernel
theorem dJ6_bitCount_0f7a4_41 : decode cJ6_bitCount_0f7a4 41 = .ok (.iload_n 0, 1) := by decide +kernel
theorem dJ6_bitCount_0f7a4_42 : decode cJ6_bitCount_0f7a4 42 = .ok (.iload_n 0, 1) := by decide +kernel
theorem dJ6_bitCount_0f7a4_43 : decode cJ6_bitCount_0f7a4 43 = .ok (.bipush 16, 2) := by decide +kernel
theorem dJ6_bitCount_0f7a4_45 : decode cJ6_bitCount_0f7a4 45 = .ok (.iushr, 1) := by decide +kernel
theorem dJ6_bitCount_0f7a4_46 : decode cJ6_bitCount_0f7a4 46 = .ok (.iadd, 1) := by decide +kernel
theorem dJ6_bitCount_0f7a4_47 : decode cJ6_bitCount_0f7a4 47 = .ok (.istore_n 0, 1) := by decide +kernel
theorem dJ6_bitCount_0f7a4_48 : decode cJ6_bitCount_0f7a4 48 = .ok (.iload_n 0, 1) := by decide +kernel
theorem dJ6_bitCount_0f7a4_49 : decode cJ6_bitCount_0f7a4 49 = .ok (.bipush 63, 2) := by decide +kernel
theorem dJ6_bitCount_0f7a4_51 : decode cJ6_bitCount_0f7a4 51 = .ok (.iand, 1) := by decide +kernel
theorem dJ6_bitCount_0f7a4_52 : decode cJ6_bitCount_0f7a4 52 = .ok (.ireturn, 1) := by decide +kernel
theorem dJ9_max_7cf53_0 : decode cJ9_max_7cf53 0 = .ok (.iload_n 0, 1) := by decide +kernel
theorem dJ9_max_7cf53_1 : decode cJ9_max_7cf53 1 = .ok (.iload_n 1, 1) := by decide +kernel
theorem dJ9_max_7cf53_2 : decode cJ9_max_7cf53 2 = .ok (.if_icmp .lt 7, 3) := by decide +kernel
theorem dJ9_max_7cf53_5 : decode cJ9_max_7cf53 5 = .ok (.iload_n 0, 1) := by decide +kernel
theorem dJ9_max_7cf53_6 : decode cJ9_max_7cf53 6 = .ok (.goto 4, 3) := by decide +kernel
theorem dJ9_max_7cf53_9 : decode cJ9_max_7cf53 9 = .ok (.iload_n 1, 1) := by decide +kernel
theorem dJ9_max_7cf53_10 : decode cJ9_max_7cf53 10 = .ok (.ireturn, 1) := by decide +kernel
theorem dJ9_max_f86c9_0 : decode cJ9_max_f86c9 0 = .ok (.lload_n 0, 1) := by decide +kernel
theorem dJ9_max_f86c9_1 : decode cJ9_max_f86c9 1 = .ok (.lload_n 2, 1) := by decide +kernel
theorem dJ9_max_f86c9_2 : decode cJ9_max_f86c9 2 = .ok (.lcmp, 1) := by decide +kernel
theorem dJ9_max_f86c9_3 : decode cJ9_max_f86c9 3 = .ok (.ifCond .lt 7, 3) := by decide +kernel
theorem dJ9_max_f86c9_6 : decode cJ9_max_f86c9 6 = .ok (.lload_n 0, 1) := by decide +kernel
theorem dJ9_max_f86c9_7 : decode cJ9_max_f86c9 7 = .ok (.goto 4, 3) := by decide +kernel
theorem dJ9_max_f86c9_10 : decode cJ9_max_f86c9 10 = .ok (.lload_n 2, 1) := by decide +kernel
theorem dJ9_max_f86c9_11 : decode cJ9_max_f86c9 11 = .ok (.lreturn, 1) := by decide +kernel
abbrev vwCl : List vw_C := [(RX0, TX0, 5), (RX1, TX1, 11), (RX2, TX2, 2), (RX3, TX3, 11), (RX4, TX4, 7), (RX5, TX5, 33)]
end
section
def nestL : List Cond := [.fieldLinkNest RX4 50 "WordScales$Shop" "weights" "[I" "WordScales", .fieldLinkNest RX1 98 "WordScales$Shop" "weights" "[I" "WordScales", .fieldLinkNest RX4 53 "WordScales$Shop" "kinds" "[I" "WordScales", .fieldLinkNest RX1 116 "WordScales$Shop" "kinds" "[I" "WordScales", .fieldLinkNest RX4 60 "WordScales$Shop" "rhymes" "[I" "WordScales", .fieldLinkNest RX4 79 "WordScales$Shop" "purses" "[I" "WordScales", .fieldLinkNest RX4 82 "WordScales$Shop" "belongings" "[I" "WordScales", .fieldLinkNest RX4 151 "WordScales$Shop" "wishes" "[I" "WordScales", .fieldLinkNest RX4 148 "WordScales$Shop" "wishCount" "I" "WordScales", .fieldLinkNest RX4 161 "WordScales$Shop" "lefts" "[I" "WordScales", .fieldLinkNest RX4 164 "WordScales$Shop" "rights" "[I" "WordScales", .fieldLinkNest RX4 167 "WordScales$Shop" "outcomes" "[I" "WordScales", .fieldLinkNest RX4 158 "WordScales$Shop" "sightCount" "I" "WordScales", .fieldLinkNest RX1 78 "WordScales$ActReader" "act" "I" "WordScales", .fieldLinkNest RX1 102 "WordScales$ActReader" "speaker" "I" "WordScales", .fieldLinkNest RX1 85 "WordScales$ActReader" "word" "I" "WordScales", .fieldLinkNest RX1 105 "WordScales$ActReader" "other" "I" "WordScales", .fieldLinkNest RX4 112 "WordScales$Row" "length" "I" "WordScales", .fieldLinkNest RX4 101 "WordScales$Days" "shop" "LWordScales$Shop;" "WordScales", .fieldLinkNest RX4 108 "WordScales$Days" "row" "LWordScales$Row;" "WordScales", .fieldLinkNest RX4 89 "WordScales$Days" "faultPlace" "I" "WordScales", .fieldLinkNest RX4 121 "WordScales$Days" "acts" "I" "WordScales", .fieldLinkNest RX4 95 "WordScales$Days" "badAct" "I" "WordScales", .fieldLinkNest RX4 98 "WordScales$Days" "why" "I" "WordScales", .fieldLinkNest RX4 92 "WordScales$Days" "sentences" "I" "WordScales", .fieldLinkNest RX4 105 "WordScales$Days" "spoken" "I" "WordScales", .fieldLinkNest RX4 102 "WordScales$Days" "heaviest" "I" "WordScales", .methodLinkNest RX4 9 yX3_init "WordScales", .methodLinkNest RX4 33 yX1_init "WordScales", .methodLinkNest RX1 11 yX3_init "WordScales", .methodLinkNest RX1 20 yX0_init "WordScales", .methodLinkNest RX1 27 yX2_init "WordScales", .methodLinkNest RX4 56 yX3_joinRhymes "WordScales", .methodLinkNest RX3 50 yX4_isWord "WordScales", .methodLinkNest RX3 54 yX4_isIn "WordScales", .methodLinkNest RX4 69 yX3_leaveRhymes "WordScales", .methodLinkNest RX4 85 yX1_readAll "WordScales", .methodLinkNest RX1 72 yX3_copyFrom "WordScales", .methodLinkNest RX3 46 yX4_copyRow "WordScales", .methodLinkNest RX1 75 yX0_begin "WordScales", .methodLinkNest RX1 77 yX2_begin "WordScales", .methodLinkNest RX1 61 yX0_take "WordScales", .methodLinkNest RX0 43 yX4_isSpeaker "WordScales", .methodLinkNest RX0 46 yX4_isWord "WordScales", .methodLinkNest RX1 65 yX0_isBetweenActs "WordScales", .methodLinkNest RX1 92 yX2_isSentence "WordScales", .methodLinkNest RX1 95 yX4_isWord "WordScales", .methodLinkNest RX1 108 yX3_perform "WordScales", .methodLinkNest RX3 79 yX4_isSpeaker "WordScales", .methodLinkNest RX1 119 yX2_add "WordScales", .methodLinkNest RX4 117 yX3_copyFrom "WordScales", .methodLinkNest RX4 124 yX3_weigh "WordScales", .methodLinkNest RX4 131 yX3_countKind "WordScales", .methodLinkNest RX4 210 yX3_ofKind "WordScales", .methodLinkNest RX4 142 yX3_priceOf "WordScales", .methodLinkNest RX4 213 yX3_heldBy "WordScales", .methodLinkNest RX4 216 yX3_canSayOnce "WordScales", .methodLinkNest RX4 220 yX3_grantsAll "WordScales", .methodLinkNest RX4 170 yX3_suspects "WordScales", .methodLinkNest RX4 194 yX3_liveYear "WordScales", .methodLinkNest RX4 197 yX3_countBelongings "WordScales"]
/-! contracts of methods that make nothing: frames, calls, ends; partial functions -/
def isNw (w : Cond) : Bool := match w with
  | .fieldLinkNest .. => true
  | .methodLinkNest .. => true
  | _ => false
theorem nestL_ok : ∀ w ∈ nestL, isNw w = true := List.all_eq_true.mp (by decide +kernel)
theorem isNw_tab {w : Cond} (h : isNw w = true) : w.onTables = true := by
  cases w <;> first | rfl | exact absurd h Bool.false_ne_true
theorem isNw_warm {w : Cond} {s U : State} (h : isNw w = true) (hW : s.WarmedH U.vm) (hZ : va_Nw w s) : va_Nw w U := by
  cases w <;> first | exact va_Nw.warmF hW hZ | exact va_Nw.warmM hW hZ | exact absurd h Bool.false_ne_true
theorem nw_warm {s U : State} (hW : s.WarmedH U.vm) (h : ∀ w ∈ nestL, va_Nw w s) : ∀ w ∈ nestL, va_Nw w U := fun w hw => isNw_warm (nestL_ok w hw) hW (h w hw)
theorem nw_same {u U : State} (hv : u.vm = U.vm) (h : ∀ w ∈ nestL, va_Nw w u) : ∀ w ∈ nestL, va_Nw w U := fun w hw => va_Nw.same (isNw_tab (nestL_ok w hw)) hv (h w hw)
/-- the array kinds: ints, longs, booleans, shops -/
def TY (K : Nat → ClassId) : List (ClassId × FieldType) := [(K 0, .int), (K 1, .long), (K 2, .boolean), (K 3, .object "WordScales$Shop")]
def kP (D : va_G) (K : Nat → ClassId) (ws : va_W) (sz : Nat) : State → Prop := fun U => U.heap.size = sz ∧ va_P D vwCl ws U.heap ∧ va_K D vwCl (TY K) U ∧ va_D (fun _ => True) ws ∧ ∀ w ∈ nestL, va_Nw w U
def kB (D : va_G) (ws ws' : va_W) (sz : Nat) : Unit → State → Prop := fun _ t => va_P D vwCl ws' t.heap ∧ va_D (va_A ws sz) ws'
def kI (l : Launch) (D : va_G) (K : Nat → ClassId) (ty : FieldType) (y : MethodName) (w : List Cond) (rm : Room) (av : List Value) (ws : va_W) (R : Int32) (ws' : va_W) : Prop :=
  ∀ sz : Nat, Met l y w rm (va_Pc av (kP D K ws sz)) (va_Qi (fun (r : Int32) (_ : Unit) => r = R ∧ narrow ty (.int r) = .int r) (kB D ws ws' sz) (va_A ws sz)) 0 0 (va_A ws sz)
def kL (l : Launch) (D : va_G) (K : Nat → ClassId) (y : MethodName) (w : List Cond) (rm : Room) (av : List Value) (ws : va_W) (R : Int64) (ws' : va_W) : Prop :=
  ∀ sz : Nat, Met l y w rm (va_Pc av (kP D K ws sz)) (va_Ql (fun (r : Int64) (_ : Unit) => r = R) (kB D ws ws' sz) (va_A ws sz)) 0 0 (va_A ws sz)
def kV (l : Launch) (D : va_G) (K : Nat → ClassId) (y : MethodName) (w : List Cond) (rm : Room) (av : List Value) (ws : va_W) (ws' : va_W) : Prop :=
  ∀ sz : Nat, Met l y w rm (va_Pc av (kP D K ws sz)) (va_Qv (fun (_ : Unit) => True) (kB D ws ws' sz) (va_A ws sz)) 0 0 (va_A ws sz)
theorem kP_calling {D : va_G} {K : Nat → ClassId} {ws : va_W} {sz : Nat} {U : State} {g : JFrame} {mk : MethodId} {a : Array Value} (h : kP D K ws sz U) : kP D K ws sz (U.calling g mk a) :=
  ⟨h.1, h.2.1, va_K.moved (u := U) (U := U.calling g mk a) (Vm.Alike.refl U.vm) h.2.2.1, h.2.2.2.1, nw_same (u := U) (U := U.calling g mk a) rfl h.2.2.2.2⟩
section ZK
variable {p : Program} {l : Launch} {e : Env} {rm : Room} {s : State} {m : MethodId} {args : Array Value} {below : List Frame} {meth : Method} {c : Code} {D : va_G} {K : Nat → ClassId}
theorem kI.of {y : MethodName} {w w' : List Cond} {av : List Value} {ws : va_W} {R : Int32} {ws' : va_W} {cc : ByteArray} {maxL : Nat} {ty : FieldType} (hy : plainName y.cls = true) (hw : w = Cond.code y cc maxL (some ty) :: w') (hlen : (lg_sl av).length ≤ maxL)
    (body : ∀ {p : Program} {e : Env} {s : State} {m : MethodId} {args : Array Value} {below : List Frame} {meth : Method} {c : Code} {A : Nat → Prop} {H : Heap} {Q : State → Prop} {ls : Array Slot}, p.tables.exec = Jvm.exec → c.code = cc → c.maxLocals = maxL → s.vm.findClass y.cls = some m.cls → (∀ w0 ∈ w, w0.before args s = true) → va_K D vwCl (TY K) s → (∀ w0 ∈ nestL, va_Nw w0 s) → (∀ q : Nat, H.size ≤ q → A q) → va_P D vwCl ws H → va_D A ws → va_S A H H [] → lv_has ls maxL (lv_args 0 av) →
      (∀ {v : Int32} {w2 : va_W} {H1 : Heap} {locs : List Loc} {ls1 : Array Slot} {pc : Nat}, v = R → w2 = ws' → narrow ty (.int v) = .int v → va_P D vwCl w2 H1 → va_D A w2 → va_S A H H1 locs → decode cc pc = .ok (.ireturn, 1) → W p l e rm s m args below meth c H1 locs 0 0 Q (F0 m pc ls1 [.int v])) →
      W p l e rm s m args below meth c H [] 0 0 Q (F0 m 0 ls [])) : kI l D K ty y w rm av ws R ws' := by
  intro sz
  refine Met.ofW (cc := cc) (maxL := maxL) (ret := some ty) hy hw ?_
  intro p e s m args below meth c s₁ B hml hv
  obtain ⟨rfl, hsz, hP, hK, hD0, hN⟩ := hv
  subst hsz
  have hx := B.exec
  have hb := B.bytes
  have hr := B.returns
  have hlocks := B.notSynchronized
  have hl := lv_entry av (n := maxL) hlen
  rw [lg_entry_eq]
  refine body hx hb hml (findClass_of_methodNamed B.named) (atoms_spec (ws := w) B.pre) hK hN (fun q h => Or.inr h) hP (hD0.self (sz := s.heap.size)) va_S.rf hl ?_
  intro v w2 H1 locs ls1 pc ev ew hn hP1 hD1 hS1 hdg
  subst ev
  subst ew
  exact W.zret hx hb hr hn (fun t ht hW => ⟨⟨v, (), rfl, ⟨rfl, hn⟩, by rw [ht]; exact hP1, hD1⟩, hS1.F ht⟩) hS1.2.2 hdg
theorem kL.of {y : MethodName} {w w' : List Cond} {av : List Value} {ws : va_W} {R : Int64} {ws' : va_W} {cc : ByteArray} {maxL : Nat} (hy : plainName y.cls = true) (hw : w = Cond.code y cc maxL (some .long) :: w') (hlen : (lg_sl av).length ≤ maxL)
    (body : ∀ {p : Program} {e : Env} {s : State} {m : MethodId} {args : Array Value} {below : List Frame} {meth : Method} {c : Code} {A : Nat → Prop} {H : Heap} {Q : State → Prop} {ls : Array Slot}, p.tables.exec = Jvm.exec → c.code = cc → c.maxLocals = maxL → s.vm.findClass y.cls = some m.cls → (∀ w0 ∈ w, w0.before args s = true) → va_K D vwCl (TY K) s → (∀ w0 ∈ nestL, va_Nw w0 s) → (∀ q : Nat, H.size ≤ q → A q) → va_P D vwCl ws H → va_D A ws → va_S A H H [] → lv_has ls maxL (lv_args 0 av) →
      (∀ {v : Int64} {w2 : va_W} {H1 : Heap} {locs : List Loc} {ls1 : Array Slot} {pc : Nat}, v = R → w2 = ws' → va_P D vwCl w2 H1 → va_D A w2 → va_S A H H1 locs → decode cc pc = .ok (.lreturn, 1) → W p l e rm s m args below meth c H1 locs 0 0 Q (F0 m pc ls1 [.long v])) →
      W p l e rm s m args below meth c H [] 0 0 Q (F0 m 0 ls [])) : kL l D K y w rm av ws R ws' := by
  intro sz
  refine Met.ofW (cc := cc) (maxL := maxL) (ret := some .long) hy hw ?_
  intro p e s m args below meth c s₁ B hml hv
  obtain ⟨rfl, hsz, hP, hK, hD0, hN⟩ := hv
  subst hsz
  have hx := B.exec
  have hb := B.bytes
  have hr := B.returns
  have hlocks := B.notSynchronized
  have hl := lv_entry av (n := maxL) hlen
  rw [lg_entry_eq]
  refine body hx hb hml (findClass_of_methodNamed B.named) (atoms_spec (ws := w) B.pre) hK hN (fun q h => Or.inr h) hP (hD0.self (sz := s.heap.size)) va_S.rf hl ?_
  intro v w2 H1 locs ls1 pc ev ew hP1 hD1 hS1 hdg
  subst ev
  subst ew
  exact W.lret hx hb hr (fun t ht hW => ⟨⟨v, (), rfl, rfl, by rw [ht]; exact hP1, hD1⟩, hS1.F ht⟩) hS1.2.2 hdg
theorem kV.of {y : MethodName} {w w' : List Cond} {av : List Value} {ws : va_W} {ws' : va_W} {cc : ByteArray} {maxL : Nat} (hy : plainName y.cls = true) (hw : w = Cond.code y cc maxL none :: w') (hlen : (lg_sl av).length ≤ maxL)
    (body : ∀ {p : Program} {e : Env} {s : State} {m : MethodId} {args : Array Value} {below : List Frame} {meth : Method} {c : Code} {A : Nat → Prop} {H : Heap} {Q : State → Prop} {ls : Array Slot}, p.tables.exec = Jvm.exec → c.code = cc → c.maxLocals = maxL → s.vm.findClass y.cls = some m.cls → (∀ w0 ∈ w, w0.before args s = true) → va_K D vwCl (TY K) s → (∀ w0 ∈ nestL, va_Nw w0 s) → (∀ q : Nat, H.size ≤ q → A q) → va_P D vwCl ws H → va_D A ws → va_S A H H [] → lv_has ls maxL (lv_args 0 av) →
      (∀ {w2 : va_W} {H1 : Heap} {locs : List Loc} {ls1 : Array Slot} {pc : Nat}, w2 = ws' → va_P D vwCl w2 H1 → va_D A w2 → va_S A H H1 locs → decode cc pc = .ok (.return_, 1) → W p l e rm s m args below meth c H1 locs 0 0 Q (F0 m pc ls1 [])) →
      W p l e rm s m args below meth c H [] 0 0 Q (F0 m 0 ls [])) : kV l D K y w rm av ws ws' := by
  intro sz
  refine Met.ofW (cc := cc) (maxL := maxL) (ret := none) hy hw ?_
  intro p e s m args below meth c s₁ B hml hv
  obtain ⟨rfl, hsz, hP, hK, hD0, hN⟩ := hv
  subst hsz
  have hx := B.exec
  have hb := B.bytes
  have hr := B.returns
  have hlocks := B.notSynchronized
  have hl := lv_entry av (n := maxL) hlen
  rw [lg_entry_eq]
  refine body hx hb hml (findClass_of_methodNamed B.named) (atoms_spec (ws := w) B.pre) hK hN (fun q h => Or.inr h) hP (hD0.self (sz := s.heap.size)) va_S.rf hl ?_
  intro w2 H1 locs ls1 pc ew hP1 hD1 hS1 hdg
  subst ew
  exact W.vret hx hb hr (fun t ht hW => ⟨⟨(), rfl, trivial, by rw [ht]; exact hP1, hD1⟩, hS1.F ht⟩) hS1.2.2 hdg
variable {H H0 : Heap} {locs : List Loc} {cells slots : Nat} {Q : State → Prop} {pc : Nat} {ls : Array Slot} {rest st0 : List Value} {A : Nat → Prop} {a : Array Value}
theorem kPreS {wc : va_W} {As : List Value} (hP : va_P D vwCl wc H) (hD : va_D A wc) (hK : va_K D vwCl (TY K) s) (hN : ∀ w ∈ nestL, va_Nw w s) : PreS s H (va_Pc As (kP D K wc H.size)) As :=
  ⟨fun _ _ _ _ q => ⟨q.1, kP_calling q.2⟩, fun U hU hW => ⟨rfl, by rw [hU], by rw [hU]; exact hP, hK.moved hW.alike, hD.weaken (fun _ _ _ _ => trivial), nw_warm hW hN⟩⟩
theorem kPreV {wc ws : va_W} {As : List Value} {q0 ci b : Nat} {q : vw_C} {fs : List Value} (hP0 : va_P D vwCl ws H) (hc : vwCl[ci]? = some q) (he : ws[q0]? = some (b, .inr (ci, fs))) (hP : va_P D vwCl wc H) (hD : va_D A wc) (hK : va_K D vwCl (TY K) s) (hN : ∀ w ∈ nestL, va_Nw w s) : PreV s H q.1 b (va_Pc (.ref b :: As) (kP D K wc H.size)) As :=
  ⟨fun _ _ _ _ q => ⟨q.1, kP_calling q.2⟩, va_recv hK hP0 hc he, fun U hU hW => ⟨rfl, by rw [hU], by rw [hU]; exact hP, hK.moved hW.alike, hD.weaken (fun _ _ _ _ => trivial), nw_warm hW hN⟩⟩
theorem va_P_nil : va_P D vwCl [] H := fun k q h => by simp at h
theorem va_D_nil : va_D A [] := ⟨fun i j p q h => by simp at h, fun k q h => by simp at h⟩
theorem fm_of {α β : Type} (f : α → Option β) : ∀ (is : List α) (r : List β), is.map f = r.map some → is.filterMap f = r := by
  intro is
  induction is with
  | nil => intro r h; cases r with
    | nil => rfl
    | cons b r => cases h
  | cons i is ih => intro r h; cases r with
    | nil => cases h
    | cons b r =>
      rw [List.map_cons, List.map_cons] at h
      injection h with h1 h2
      rw [List.filterMap_cons, h1, ih r h2]
theorem fr_all {ws : va_W} (hD : va_D A ws) (hS : va_S A H0 H locs) (hA : ∀ q : Nat, H0.size ≤ q → A q) : ∀ q, va_A ws H.size q → A q := by
  intro q h
  rcases h with ⟨k, e, h⟩ | h
  · exact hD.2 k (q, e) h
  · exact hA q (Nat.le_trans hS.1 h)
theorem fr_gen {ws wc wc' wr ws2 : va_W} {H1 : Heap} (hP : va_P D vwCl ws H) (hD : va_D A ws) (isC isR perm : List Nat) (hC : isC.map (fun i => ws[i]?) = wc.map some) (hR : isR.map (fun i => ws[i]?) = wr.map some) (hn : va_nd isR = true) (hdis : ∀ i ∈ isR, i ∉ isC) (hp : perm.map (fun i => (wr ++ wc')[i]?) = ws2.map some) (hpn : va_nd perm = true)
    (hk : ∀ q : Nat, q < H.size → ¬ va_A wc H.size q → H1[q]? = H[q]?) (hF : ∀ q, va_A wc H.size q → A q) (hP1 : va_P D vwCl wc' H1) (hD1 : va_D (va_A wc H.size) wc') : va_P D vwCl ws2 H1 ∧ va_D A ws2 := by
  obtain ⟨a1, a2⟩ := va_join (wr := wr) (w1 := wc') hP hD isC isR hC hR hn hdis hk hF hP1 hD1
  exact ⟨a1.sub perm (fm_of _ _ _ hp), a2.sub perm hpn hp⟩
theorem fr_0 {ws : va_W} {H1 : Heap} (hP : va_P D vwCl ws H) (hk : ∀ q : Nat, q < H.size → ¬ va_A [] H.size q → H1[q]? = H[q]?) : va_P D vwCl ws H1 := by
  refine hP.kept fun k q h => ?_
  have hlt := (hP k q h).lt
  refine hk q.1 hlt ?_
  rintro (⟨k, e, h⟩ | h)
  · simp at h
  · omega
/-- calls: nothing of the heap given -/
theorem kc0_i {ws : va_W} {v : Int32} {ty : FieldType} (hr : va_Run p l e rm s m args below meth c H locs cells slots 0 0 (F0 m pc ls st0) rest (va_Qi (fun (r : Int32) (_ : Unit) => r = v ∧ narrow ty (.int r) = .int r) (kB D [] [] H.size) (va_A [] H.size) a) (va_A [] H.size)) (hP : va_P D vwCl ws H) (hS : va_S A H0 H locs) (hA : ∀ q : Nat, H0.size ≤ q → A q)
    (kk : narrow ty (.int v) = .int v → ∀ (H1 : Heap) (locs1 : List Loc), va_P D vwCl ws H1 → va_S A H0 H1 locs1 → W p l e rm s m args below meth c H1 locs1 cells slots Q (F0 m (pc + 3) ls (.int v :: rest))) : W p l e rm s m args below meth c H locs cells slots Q (F0 m pc ls st0) := by
  have hF := fr_all (A := A) (ws := []) va_D_nil hS hA
  refine va_calli hr hS (fun q _ h => hF q h) hF (fun r u t H1 locs1 ht hvm hw hB hz1 hk1 hS1 => ?_)
  obtain ⟨hw, hz⟩ := hw
  subst hw
  exact kk hz H1 locs1 (fr_0 hP hk1) hS1
theorem kc0_l {ws : va_W} {v : Int64} (hr : va_Run p l e rm s m args below meth c H locs cells slots 0 0 (F0 m pc ls st0) rest (va_Ql (fun (r : Int64) (_ : Unit) => r = v) (kB D [] [] H.size) (va_A [] H.size) a) (va_A [] H.size)) (hP : va_P D vwCl ws H) (hS : va_S A H0 H locs) (hA : ∀ q : Nat, H0.size ≤ q → A q)
    (kk : ∀ (H1 : Heap) (locs1 : List Loc), va_P D vwCl ws H1 → va_S A H0 H1 locs1 → W p l e rm s m args below meth c H1 locs1 cells slots Q (F0 m (pc + 3) ls (.long v :: rest))) : W p l e rm s m args below meth c H locs cells slots Q (F0 m pc ls st0) := by
  have hF := fr_all (A := A) (ws := []) va_D_nil hS hA
  refine va_calll hr hS (fun q _ h => hF q h) hF (fun r u t H1 locs1 ht hvm hw hB hz1 hk1 hS1 => ?_)
  subst hw
  exact kk H1 locs1 (fr_0 hP hk1) hS1
/-- calls: the whole world given -/
theorem kcw_i {ws ws' : va_W} {v : Int32} {ty : FieldType} (hr : va_Run p l e rm s m args below meth c H locs cells slots 0 0 (F0 m pc ls st0) rest (va_Qi (fun (r : Int32) (_ : Unit) => r = v ∧ narrow ty (.int r) = .int r) (kB D ws ws' H.size) (va_A ws H.size) a) (va_A ws H.size)) (hD : va_D A ws) (hS : va_S A H0 H locs) (hA : ∀ q : Nat, H0.size ≤ q → A q)
    (kk : narrow ty (.int v) = .int v → ∀ (H1 : Heap) (locs1 : List Loc), va_P D vwCl ws' H1 → va_D A ws' → va_S A H0 H1 locs1 → W p l e rm s m args below meth c H1 locs1 cells slots Q (F0 m (pc + 3) ls (.int v :: rest))) : W p l e rm s m args below meth c H locs cells slots Q (F0 m pc ls st0) := by
  have hF := fr_all hD hS hA
  refine va_calli hr hS (fun q _ h => hF q h) hF (fun r u t H1 locs1 ht hvm hw hB hz1 hk1 hS1 => ?_)
  obtain ⟨hP1, hD1⟩ := hB
  rw [ht] at hP1
  obtain ⟨hw, hz⟩ := hw
  subst hw
  exact kk hz H1 locs1 hP1 (hD1.weaken (fun _ _ _ h => hF _ h)) hS1
theorem kcw_l {ws ws' : va_W} {v : Int64} (hr : va_Run p l e rm s m args below meth c H locs cells slots 0 0 (F0 m pc ls st0) rest (va_Ql (fun (r : Int64) (_ : Unit) => r = v) (kB D ws ws' H.size) (va_A ws H.size) a) (va_A ws H.size)) (hD : va_D A ws) (hS : va_S A H0 H locs) (hA : ∀ q : Nat, H0.size ≤ q → A q)
    (kk : ∀ (H1 : Heap) (locs1 : List Loc), va_P D vwCl ws' H1 → va_D A ws' → va_S A H0 H1 locs1 → W p l e rm s m args below meth c H1 locs1 cells slots Q (F0 m (pc + 3) ls (.long v :: rest))) : W p l e rm s m args below meth c H locs cells slots Q (F0 m pc ls st0) := by
  have hF := fr_all hD hS hA
  refine va_calll hr hS (fun q _ h => hF q h) hF (fun r u t H1 locs1 ht hvm hw hB hz1 hk1 hS1 => ?_)
  obtain ⟨hP1, hD1⟩ := hB
  rw [ht] at hP1
  subst hw
  exact kk H1 locs1 hP1 (hD1.weaken (fun _ _ _ h => hF _ h)) hS1
theorem kcw_v {ws ws' : va_W} (hr : va_Run p l e rm s m args below meth c H locs cells slots 0 0 (F0 m pc ls st0) rest (va_Qv (fun (_ : Unit) => True) (kB D ws ws' H.size) (va_A ws H.size) a) (va_A ws H.size)) (hD : va_D A ws) (hS : va_S A H0 H locs) (hA : ∀ q : Nat, H0.size ≤ q → A q)
    (kk : ∀ (H1 : Heap) (locs1 : List Loc), va_P D vwCl ws' H1 → va_D A ws' → va_S A H0 H1 locs1 → W p l e rm s m args below meth c H1 locs1 cells slots Q (F0 m (pc + 3) ls rest)) : W p l e rm s m args below meth c H locs cells slots Q (F0 m pc ls st0) := by
  have hF := fr_all hD hS hA
  refine va_callv hr hS (fun q _ h => hF q h) hF (fun u t H1 locs1 ht hvm hw hB hz1 hk1 hS1 => ?_)
  obtain ⟨hP1, hD1⟩ := hB
  rw [ht] at hP1
  exact kk H1 locs1 hP1 (hD1.weaken (fun _ _ _ h => hF _ h)) hS1
/-- calls: a part of the world given -/
theorem kcg_i {ws wc wc' wr ws2 : va_W} {v : Int32} {ty : FieldType} (hr : va_Run p l e rm s m args below meth c H locs cells slots 0 0 (F0 m pc ls st0) rest (va_Qi (fun (r : Int32) (_ : Unit) => r = v ∧ narrow ty (.int r) = .int r) (kB D wc wc' H.size) (va_A wc H.size) a) (va_A wc H.size)) (hP : va_P D vwCl ws H) (hD : va_D A ws) (hS : va_S A H0 H locs) (hA : ∀ q : Nat, H0.size ≤ q → A q) (isC isR perm : List Nat) (hC : isC.map (fun i => ws[i]?) = wc.map some) (hR : isR.map (fun i => ws[i]?) = wr.map some) (hn : va_nd isR = true) (hdis : ∀ i ∈ isR, i ∉ isC) (hp : perm.map (fun i => (wr ++ wc')[i]?) = ws2.map some) (hpn : va_nd perm = true)
    (kk : narrow ty (.int v) = .int v → ∀ (H1 : Heap) (locs1 : List Loc), va_P D vwCl ws2 H1 → va_D A ws2 → va_S A H0 H1 locs1 → W p l e rm s m args below meth c H1 locs1 cells slots Q (F0 m (pc + 3) ls (.int v :: rest))) : W p l e rm s m args below meth c H locs cells slots Q (F0 m pc ls st0) := by
  have hF : ∀ q, va_A wc H.size q → A q := va_free (wc := wc) hD hS hA isC hC
  refine va_calli hr hS (fun q _ h => hF q h) hF (fun r u t H1 locs1 ht hvm hw hB hz1 hk1 hS1 => ?_)
  obtain ⟨hP1, hD1⟩ := hB
  rw [ht] at hP1
  obtain ⟨hw, hz⟩ := hw
  subst hw
  obtain ⟨a1, a2⟩ := fr_gen hP hD isC isR perm hC hR hn hdis hp hpn hk1 hF hP1 hD1
  exact kk hz H1 locs1 a1 a2 hS1
theorem kcg_l {ws wc wc' wr ws2 : va_W} {v : Int64} (hr : va_Run p l e rm s m args below meth c H locs cells slots 0 0 (F0 m pc ls st0) rest (va_Ql (fun (r : Int64) (_ : Unit) => r = v) (kB D wc wc' H.size) (va_A wc H.size) a) (va_A wc H.size)) (hP : va_P D vwCl ws H) (hD : va_D A ws) (hS : va_S A H0 H locs) (hA : ∀ q : Nat, H0.size ≤ q → A q) (isC isR perm : List Nat) (hC : isC.map (fun i => ws[i]?) = wc.map some) (hR : isR.map (fun i => ws[i]?) = wr.map some) (hn : va_nd isR = true) (hdis : ∀ i ∈ isR, i ∉ isC) (hp : perm.map (fun i => (wr ++ wc')[i]?) = ws2.map some) (hpn : va_nd perm = true)
    (kk : ∀ (H1 : Heap) (locs1 : List Loc), va_P D vwCl ws2 H1 → va_D A ws2 → va_S A H0 H1 locs1 → W p l e rm s m args below meth c H1 locs1 cells slots Q (F0 m (pc + 3) ls (.long v :: rest))) : W p l e rm s m args below meth c H locs cells slots Q (F0 m pc ls st0) := by
  have hF : ∀ q, va_A wc H.size q → A q := va_free (wc := wc) hD hS hA isC hC
  refine va_calll hr hS (fun q _ h => hF q h) hF (fun r u t H1 locs1 ht hvm hw hB hz1 hk1 hS1 => ?_)
  obtain ⟨hP1, hD1⟩ := hB
  rw [ht] at hP1
  subst hw
  obtain ⟨a1, a2⟩ := fr_gen hP hD isC isR perm hC hR hn hdis hp hpn hk1 hF hP1 hD1
  exact kk H1 locs1 a1 a2 hS1
theorem kcg_v {ws wc wc' wr ws2 : va_W} (hr : va_Run p l e rm s m args below meth c H locs cells slots 0 0 (F0 m pc ls st0) rest (va_Qv (fun (_ : Unit) => True) (kB D wc wc' H.size) (va_A wc H.size) a) (va_A wc H.size)) (hP : va_P D vwCl ws H) (hD : va_D A ws) (hS : va_S A H0 H locs) (hA : ∀ q : Nat, H0.size ≤ q → A q) (isC isR perm : List Nat) (hC : isC.map (fun i => ws[i]?) = wc.map some) (hR : isR.map (fun i => ws[i]?) = wr.map some) (hn : va_nd isR = true) (hdis : ∀ i ∈ isR, i ∉ isC) (hp : perm.map (fun i => (wr ++ wc')[i]?) = ws2.map some) (hpn : va_nd perm = true)
    (kk : ∀ (H1 : Heap) (locs1 : List Loc), va_P D vwCl ws2 H1 → va_D A ws2 → va_S A H0 H1 locs1 → W p l e rm s m args below meth c H1 locs1 cells slots Q (F0 m (pc + 3) ls rest)) : W p l e rm s m args below meth c H locs cells slots Q (F0 m pc ls st0) := by
  have hF : ∀ q, va_A wc H.size q → A q := va_free (wc := wc) hD hS hA isC hC
  refine va_callv hr hS (fun q _ h => hF q h) hF (fun u t H1 locs1 ht hvm hw hB hz1 hk1 hS1 => ?_)
  obtain ⟨hP1, hD1⟩ := hB
  rw [ht] at hP1
  obtain ⟨a1, a2⟩ := fr_gen hP hD isC isR perm hC hR hn hdis hp hpn hk1 hF hP1 hD1
  exact kk H1 locs1 a1 a2 hS1
/-- switches over 0, 1, 2 (3) -/
theorem sw_n {x : Int32} {n : Nat} (hn : n < 2 ^ 31) (h : ∀ k : Nat, k < n → ¬ x = nI k) : x.toInt < 0 ∨ (n : Int) - 1 < x.toInt := by
  by_cases h0 : x < 0
  · left
    have := Int32.lt_iff_toInt_lt.mp h0
    exact this
  · obtain ⟨j, hj, rfl⟩ := nI_of h0
    right
    rw [nI_toInt hj]
    by_cases hjn : j < n
    · exact absurd rfl (h j hjn)
    · omega
theorem lv_tab3 {cc : ByteArray} (hexec : p.tables.exec = Jvm.exec) (hb : c.code = cc) {dflt o0 o1 o2 : Int} {len : Nat} {x : Int32} {t0 t1 t2 td : Nat} (hdg : decode cc pc = .ok (.tableswitch dflt 0 2 #[o0, o1, o2], len)) (h0 : (pc : Int) + o0 = (t0 : Int)) (h1 : (pc : Int) + o1 = (t1 : Int)) (h2 : (pc : Int) + o2 = (t2 : Int)) (hd : (pc : Int) + dflt = (td : Int))
    (k0 : x = 0 → W p l e rm s m args below meth c H locs cells slots Q (F0 m t0 ls rest)) (k1 : ¬ x = 0 → x = 1 → W p l e rm s m args below meth c H locs cells slots Q (F0 m t1 ls rest)) (k2 : ¬ x = 0 → ¬ x = 1 → x = 2 → W p l e rm s m args below meth c H locs cells slots Q (F0 m t2 ls rest)) (kd : ¬ x = 0 → ¬ x = 1 → ¬ x = 2 → W p l e rm s m args below meth c H locs cells slots Q (F0 m td ls rest)) : W p l e rm s m args below meth c H locs cells slots Q (F0 m pc ls (.int x :: rest)) := by
  by_cases c0 : x = 0
  · exact lv_tableIn hexec hb hdg (by rw [c0]; decide) (by rw [c0]; decide) (off := o0) (by rw [c0]; rfl) h0 (k0 c0)
  · by_cases c1 : x = 1
    · exact lv_tableIn hexec hb hdg (by rw [c1]; decide) (by rw [c1]; decide) (off := o1) (by rw [c1]; rfl) h1 (k1 c0 c1)
    · by_cases c2 : x = 2
      · exact lv_tableIn hexec hb hdg (by rw [c2]; decide) (by rw [c2]; decide) (off := o2) (by rw [c2]; rfl) h2 (k2 c0 c1 c2)
      · refine lv_tableOut hexec hb hdg ?_ hd (kd c0 c1 c2)
        exact sw_n (n := 3) (by decide) (fun k hk => by rcases (show k = 0 ∨ k = 1 ∨ k = 2 by omega) with rfl | rfl | rfl <;> assumption)
theorem lv_tab4 {cc : ByteArray} (hexec : p.tables.exec = Jvm.exec) (hb : c.code = cc) {dflt o0 o1 o2 o3 : Int} {len : Nat} {x : Int32} {t0 t1 t2 t3 td : Nat} (hdg : decode cc pc = .ok (.tableswitch dflt 0 3 #[o0, o1, o2, o3], len)) (h0 : (pc : Int) + o0 = (t0 : Int)) (h1 : (pc : Int) + o1 = (t1 : Int)) (h2 : (pc : Int) + o2 = (t2 : Int)) (h3 : (pc : Int) + o3 = (t3 : Int)) (hd : (pc : Int) + dflt = (td : Int))
    (k0 : x = 0 → W p l e rm s m args below meth c H locs cells slots Q (F0 m t0 ls rest)) (k1 : ¬ x = 0 → x = 1 → W p l e rm s m args below meth c H locs cells slots Q (F0 m t1 ls rest)) (k2 : ¬ x = 0 → ¬ x = 1 → x = 2 → W p l e rm s m args below meth c H locs cells slots Q (F0 m t2 ls rest)) (k3 : ¬ x = 0 → ¬ x = 1 → ¬ x = 2 → x = 3 → W p l e rm s m args below meth c H locs cells slots Q (F0 m t3 ls rest)) (kd : ¬ x = 0 → ¬ x = 1 → ¬ x = 2 → ¬ x = 3 → W p l e rm s m args below meth c H locs cells slots Q (F0 m td ls rest)) : W p l e rm s m args below meth c H locs cells slots Q (F0 m pc ls (.int x :: rest)) := by
  by_cases c0 : x = 0
  · exact lv_tableIn hexec hb hdg (by rw [c0]; decide) (by rw [c0]; decide) (off := o0) (by rw [c0]; rfl) h0 (k0 c0)
  · by_cases c1 : x = 1
    · exact lv_tableIn hexec hb hdg (by rw [c1]; decide) (by rw [c1]; decide) (off := o1) (by rw [c1]; rfl) h1 (k1 c0 c1)
    · by_cases c2 : x = 2
      · exact lv_tableIn hexec hb hdg (by rw [c2]; decide) (by rw [c2]; decide) (off := o2) (by rw [c2]; rfl) h2 (k2 c0 c1 c2)
      · by_cases c3 : x = 3
        · exact lv_tableIn hexec hb hdg (by rw [c3]; decide) (by rw [c3]; decide) (off := o3) (by rw [c3]; rfl) h3 (k3 c0 c1 c2 c3)
        · refine lv_tableOut hexec hb hdg ?_ hd (kd c0 c1 c2 c3)
          exact sw_n (n := 4) (by decide) (fun k hk => by rcases (show k = 0 ∨ k = 1 ∨ k = 2 ∨ k = 3 by omega) with rfl | rfl | rfl | rfl <;> assumption)
theorem lv_look3 {cc : ByteArray} (hexec : p.tables.exec = Jvm.exec) (hb : c.code = cc) {dflt o0 o1 o2 : Int} {len : Nat} {x : Int32} {t0 t1 t2 td : Nat} (hdg : decode cc pc = .ok (.lookupswitch dflt #[(43, o0), (45, o1), (62, o2)], len)) (h0 : (pc : Int) + o0 = (t0 : Int)) (h1 : (pc : Int) + o1 = (t1 : Int)) (h2 : (pc : Int) + o2 = (t2 : Int)) (hd : (pc : Int) + dflt = (td : Int))
    (k0 : x = 43 → W p l e rm s m args below meth c H locs cells slots Q (F0 m t0 ls rest)) (k1 : ¬ x = 43 → x = 45 → W p l e rm s m args below meth c H locs cells slots Q (F0 m t1 ls rest)) (k2 : ¬ x = 43 → ¬ x = 45 → x = 62 → W p l e rm s m args below meth c H locs cells slots Q (F0 m t2 ls rest)) (kd : ¬ x = 43 → ¬ x = 45 → ¬ x = 62 → W p l e rm s m args below meth c H locs cells slots Q (F0 m td ls rest)) : W p l e rm s m args below meth c H locs cells slots Q (F0 m pc ls (.int x :: rest)) := by
  by_cases c0 : x = 43
  · exact lv_lookup hexec hb hdg rfl (off := o0) (by rw [c0]; rfl) h0 (k0 c0)
  · by_cases c1 : x = 45
    · exact lv_lookup hexec hb hdg rfl (off := o1) (by rw [c1]; rfl) h1 (k1 c0 c1)
    · by_cases c2 : x = 62
      · exact lv_lookup hexec hb hdg rfl (off := o2) (by rw [c2]; rfl) h2 (k2 c0 c1 c2)
      · have e0 : ¬ x.toInt = 43 := fun h => c0 (Int32.toInt_inj.mp h)
        have e1 : ¬ x.toInt = 45 := fun h => c1 (Int32.toInt_inj.mp h)
        have e2 : ¬ x.toInt = 62 := fun h => c2 (Int32.toInt_inj.mp h)
        refine lv_lookup hexec hb hdg rfl (off := dflt) ?_ hd (kd c0 c1 c2)
        simp [Op.lookupswitch.offset, e0, e1, e2, Ne.symm e0, Ne.symm e1, Ne.symm e2, eq_comm]
end ZK
/-! partial functions: what the walks compute -/
def bd {α β : Type} (x : α) (f : α → β) : β := f x
def ob {α β : Type} (x : Option α) (f : α → Option β) : Option β := match x with
  | none => none
  | some a => f a
def ret2 {α β : Type} (f : α → Option β) (x : α ⊕ β) : Option β := match x with
  | .inl a => f a
  | .inr b => some b
def oob (i : Int32) (n : Nat) : Bool := decide (i < 0) || decide (n ≤ i.toNatClampNeg)
def chk {α : Type} (i : Int32) (n : Nat) (x : Option α) : Option α := if oob i n = true then none else x
def nzi {α : Type} (y : Int32) (x : Option α) : Option α := if y = 0 then none else x
def nzl {α : Type} (y : Int64) (x : Option α) : Option α := if y = 0 then none else x
def wk {σ ρ : Type} (f : σ → Option ρ) : σ ⊕ ρ → Option ρ
  | .inl s => f s
  | .inr r => some r
def wh {σ ρ : Type} (step : σ → Option (σ ⊕ ρ)) : Nat → σ → Option ρ
  | 0, _ => none
  | n + 1, s => ob (step s) (wk (wh step n))
theorem bd_el {α β : Type} {x : α} {f : α → β} {out : β} (h : bd x f = out) : ∃ o, x = o ∧ f o = out := ⟨x, rfl, h⟩
theorem ob_el {α β : Type} {x : Option α} {f : α → Option β} {out : β} (h : ob x f = some out) : ∃ o, x = some o ∧ f o = some out := by
  cases x with
  | none => cases h
  | some a => exact ⟨a, rfl, h⟩
theorem oob_in {i : Int32} {n : Nat} (h : ¬ oob i n = true) : vp_in i n := by
  intro q
  apply h
  rcases q with q | q
  · simp [oob, q]
  · simp [oob, q]
theorem oob_no {i : Int32} {n : Nat} (h : vp_in i n) : oob i n = false := by
  cases e : oob i n with
  | false => rfl
  | true =>
    exfalso
    apply h
    simpa [oob] using e
theorem chk_el {α : Type} {i : Int32} {n : Nat} {x : Option α} {out : α} (h : chk i n x = some out) : vp_in i n ∧ x = some out := by
  unfold chk at h
  by_cases q : oob i n = true
  · rw [if_pos q] at h; cases h
  · rw [if_neg q] at h; exact ⟨oob_in q, h⟩
theorem chk_in {α : Type} {i : Int32} {n : Nat} (x : Option α) (h : vp_in i n) : chk i n x = x := by
  unfold chk
  rw [oob_no h]
  rfl
theorem nzi_el {α : Type} {y : Int32} {x : Option α} {out : α} (h : nzi y x = some out) : ¬ y = 0 ∧ x = some out := by
  unfold nzi at h
  by_cases q : y = 0
  · rw [if_pos q] at h; cases h
  · rw [if_neg q] at h; exact ⟨q, h⟩
theorem nzl_el {α : Type} {y : Int64} {x : Option α} {out : α} (h : nzl y x = some out) : ¬ y = 0 ∧ x = some out := by
  unfold nzl at h
  by_cases q : y = 0
  · rw [if_pos q] at h; cases h
  · rw [if_neg q] at h; exact ⟨q, h⟩
theorem wh_el {σ ρ : Type} {step : σ → Option (σ ⊕ ρ)} {n : Nat} {s : σ} {r : ρ} (h : wh step (n + 1) s = some r) : ∃ o, step s = some o ∧ wk (wh step n) o = some r := ob_el h
/-! the worlds -/
def shW (K : Nat → ClassId) (q : Nat → Nat) (w k r p b wi : Nat → Int32) (wc : Int32) (l ri o : Nat → Int32) (sc : Int32) : va_W := [(q 0, .inr (3, [.ref (q 1), .ref (q 2), .ref (q 3), .ref (q 4), .ref (q 5), .ref (q 6), .int wc, .ref (q 7), .ref (q 8), .ref (q 9), .int sc])), (q 1, .inl (K 0, 12, .inl w)), (q 2, .inl (K 0, 12, .inl k)), (q 3, .inl (K 0, 12, .inl r)), (q 4, .inl (K 0, 4, .inl p)), (q 5, .inl (K 0, 4, .inl b)), (q 6, .inl (K 0, 8, .inl wi)), (q 7, .inl (K 0, 6, .inl l)), (q 8, .inl (K 0, 6, .inl ri)), (q 9, .inl (K 0, 6, .inl o))]
def rdW (q : Nat) (aw ac sp wo ot : Int32) : va_W := [(q, .inr (0, [.int aw, .int ac, .int sp, .int wo, .int ot]))]
def rwW (q : Nat) (st ln : Int32) : va_W := [(q, .inr (2, [.int st, .int ln]))]
def dyW (q qs qr qw : Nat) (fp ac ba wy se sp he hw : Int32) : va_W := [(q, .inr (1, [.ref qs, .ref qr, .ref qw, .int fp, .int ac, .int ba, .int wy, .int se, .int sp, .int he, .int hw]))]
def xoW (q qs qy qi qg qd qm : Nat) (sgc : Int32) : va_W := [(q, .inr (4, [.ref qs, .ref qy, .ref qi, .ref qg, .int sgc, .ref qd, .ref qm]))]
def iaW (K : Nat → ClassId) (q n : Nat) (f : Nat → Int32) : va_W := [(q, .inl (K 0, n, .inl f))]
def laW (K : Nat → ClassId) (q n : Nat) (f : Nat → Int64) : va_W := [(q, .inl (K 1, n, .inr (.inl f)))]
def imW (K : Nat → ClassId) (q : Nat) (f : Nat → Option Nat) : va_W := [(q, .inl (K 3, 2, .inr (.inr (.inr (.inr f)))))]
def mdW (K : Nat → ClassId) (q : Nat → Nat) (vweight : Nat → Int32) (vkind : Nat → Int32) (vrhymes : Nat → Int32) (vpurse : Nat → Int32) (vhas : Nat → Int32) (vwishes : Nat → Int32) (vwishMany : Int32) (vsightLeft : Nat → Int32) (vsightRight : Nat → Int32) (vsightHow : Nat → Int32) (vsights : Int32) (vpad : Nat → Int32) (vpadMany : Int32) (vact : Nat → Int32) (vwho : Nat → Int32) (vwhich : Nat → Int32) (vwhom : Nat → Int32) (vacts : Int32) (vplace : Int32) (vopenMany : Int32) (vended : Int32) (vspoken : Int32) (vheaviest : Int32) (vheaviestWeight : Int32) (vhad : Nat → Int32) (vbadAct : Int32) (vbadWhy : Int32) (vbrings : Nat → Int64) (vbringsThen : Nat → Int64) (vkept : Nat → Int32) (visKept : Nat → Int32) (vkeptAt : Int32) (visWriting : Int32) : va_W := [(q 0, .inr (5, [.ref (q 1), .ref (q 2), .ref (q 3), .ref (q 4), .ref (q 5), .ref (q 6), .int vwishMany, .ref (q 7), .ref (q 8), .ref (q 9), .int vsights, .ref (q 10), .int vpadMany, .ref (q 11), .ref (q 12), .ref (q 13), .ref (q 14), .int vacts, .int vplace, .int vopenMany, .int vended, .int vspoken, .int vheaviest, .int vheaviestWeight, .ref (q 15), .int vbadAct, .int vbadWhy, .ref (q 16), .ref (q 17), .ref (q 18), .ref (q 19), .int vkeptAt, .int visWriting])), (q 1, .inl (K 0, 12, .inl vweight)), (q 2, .inl (K 0, 12, .inl vkind)), (q 3, .inl (K 0, 12, .inl vrhymes)), (q 4, .inl (K 0, 4, .inl vpurse)), (q 5, .inl (K 0, 4, .inl vhas)), (q 6, .inl (K 0, 8, .inl vwishes)), (q 7, .inl (K 0, 6, .inl vsightLeft)), (q 8, .inl (K 0, 6, .inl vsightRight)), (q 9, .inl (K 0, 6, .inl vsightHow)), (q 10, .inl (K 0, 60, .inl vpad)), (q 11, .inl (K 0, 60, .inl vact)), (q 12, .inl (K 0, 60, .inl vwho)), (q 13, .inl (K 0, 60, .inl vwhich)), (q 14, .inl (K 0, 60, .inl vwhom)), (q 15, .inl (K 0, 20, .inl vhad)), (q 16, .inl (K 1, 50, .inr (.inl vbrings))), (q 17, .inl (K 1, 50, .inr (.inl vbringsThen))), (q 18, .inl (K 0, 180, .inl vkept)), (q 19, .inl (K 2, 2, .inl visKept))]
end
section
def f_J6_bitCount_0f7a4 (p0 : Int32) : Int32 := ((((((((p0 - (((p0.toUInt32 >>> ((1 : Int32).toUInt32 &&& Int32.toUInt32 31)).toInt32) &&& 1431655765)) &&& 858993459) + ((((p0 - (((p0.toUInt32 >>> ((1 : Int32).toUInt32 &&& Int32.toUInt32 31)).toInt32) &&& 1431655765)).toUInt32 >>> ((2 : Int32).toUInt32 &&& Int32.toUInt32 31)).toInt32) &&& 858993459)) + (((((p0 - (((p0.toUInt32 >>> ((1 : Int32).toUInt32 &&& Int32.toUInt32 31)).toInt32) &&& 1431655765)) &&& 858993459) + ((((p0 - (((p0.toUInt32 >>> ((1 : Int32).toUInt32 &&& Int32.toUInt32 31)).toInt32) &&& 1431655765)).toUInt32 >>> ((2 : Int32).toUInt32 &&& Int32.toUInt32 31)).toInt32) &&& 858993459)).toUInt32 >>> ((4 : Int32).toUInt32 &&& Int32.toUInt32 31)).toInt32)) &&& 252645135) + (((((((p0 - (((p0.toUInt32 >>> ((1 : Int32).toUInt32 &&& Int32.toUInt32 31)).toInt32) &&& 1431655765)) &&& 858993459) + ((((p0 - (((p0.toUInt32 >>> ((1 : Int32).toUInt32 &&& Int32.toUInt32 31)).toInt32) &&& 1431655765)).toUInt32 >>> ((2 : Int32).toUInt32 &&& Int32.toUInt32 31)).toInt32) &&& 858993459)) + (((((p0 - (((p0.toUInt32 >>> ((1 : Int32).toUInt32 &&& Int32.toUInt32 31)).toInt32) &&& 1431655765)) &&& 858993459) + ((((p0 - (((p0.toUInt32 >>> ((1 : Int32).toUInt32 &&& Int32.toUInt32 31)).toInt32) &&& 1431655765)).toUInt32 >>> ((2 : Int32).toUInt32 &&& Int32.toUInt32 31)).toInt32) &&& 858993459)).toUInt32 >>> ((4 : Int32).toUInt32 &&& Int32.toUInt32 31)).toInt32)) &&& 252645135).toUInt32 >>> ((8 : Int32).toUInt32 &&& Int32.toUInt32 31)).toInt32)) + ((((((((p0 - (((p0.toUInt32 >>> ((1 : Int32).toUInt32 &&& Int32.toUInt32 31)).toInt32) &&& 1431655765)) &&& 858993459) + ((((p0 - (((p0.toUInt32 >>> ((1 : Int32).toUInt32 &&& Int32.toUInt32 31)).toInt32) &&& 1431655765)).toUInt32 >>> ((2 : Int32).toUInt32 &&& Int32.toUInt32 31)).toInt32) &&& 858993459)) + (((((p0 - (((p0.toUInt32 >>> ((1 : Int32).toUInt32 &&& Int32.toUInt32 31)).toInt32) &&& 1431655765)) &&& 858993459) + ((((p0 - (((p0.toUInt32 >>> ((1 : Int32).toUInt32 &&& Int32.toUInt32 31)).toInt32) &&& 1431655765)).toUInt32 >>> ((2 : Int32).toUInt32 &&& Int32.toUInt32 31)).toInt32) &&& 858993459)).toUInt32 >>> ((4 : Int32).toUInt32 &&& Int32.toUInt32 31)).toInt32)) &&& 252645135) + (((((((p0 - (((p0.toUInt32 >>> ((1 : Int32).toUInt32 &&& Int32.toUInt32 31)).toInt32) &&& 1431655765)) &&& 858993459) + ((((p0 - (((p0.toUInt32 >>> ((1 : Int32).toUInt32 &&& Int32.toUInt32 31)).toInt32) &&& 1431655765)).toUInt32 >>> ((2 : Int32).toUInt32 &&& Int32.toUInt32 31)).toInt32) &&& 858993459)) + (((((p0 - (((p0.toUInt32 >>> ((1 : Int32).toUInt32 &&& Int32.toUInt32 31)).toInt32) &&& 1431655765)) &&& 858993459) + ((((p0 - (((p0.toUInt32 >>> ((1 : Int32).toUInt32 &&& Int32.toUInt32 31)).toInt32) &&& 1431655765)).toUInt32 >>> ((2 : Int32).toUInt32 &&& Int32.toUInt32 31)).toInt32) &&& 858993459)).toUInt32 >>> ((4 : Int32).toUInt32 &&& Int32.toUInt32 31)).toInt32)) &&& 252645135).toUInt32 >>> ((8 : Int32).toUInt32 &&& Int32.toUInt32 31)).toInt32)).toUInt32 >>> ((16 : Int32).toUInt32 &&& Int32.toUInt32 31)).toInt32)) &&& 63)
theorem yd_J6_bitCount_0f7a4 : yJ6_bitCount_0f7a4.cls ≠ "java/lang/invoke/MethodHandle" ∧ yJ6_bitCount_0f7a4.cls ≠ "java/lang/invoke/VarHandle" ∧ (parseMethodDescriptor yJ6_bitCount_0f7a4.desc).map (fun d => d.parameters.length) = some 1 := by decide +kernel
abbrev rmJ6_bitCount_0f7a4 : Room := { frames := 0, cells := 0, slots := 0, locals := 0 }
set_option maxHeartbeats 4000000 in
set_option maxRecDepth 100000 in
theorem k_J6_bitCount_0f7a4 (l : Launch) (D : va_G) (K : Nat → ClassId) (p0 : Int32) (out : Int32) (hf : f_J6_bitCount_0f7a4 p0 = out) : kI l D K .int yJ6_bitCount_0f7a4 wsJ6_bitCount_0f7a4 rmJ6_bitCount_0f7a4 [.int p0] ([] : va_W) out ([] : va_W) := by
  refine kI.of (cc := cJ6_bitCount_0f7a4) (maxL := 1) (by decide) rfl (Nat.le_of_ble_eq_true rfl) ?_
  intro p e s m args below meth c A H0 Q ls hx hb hml hown hts hK hN hA hP hD hS hl hret
  have hown : s.vm.findClass RJ6 = some m.cls := hown
  have hl : lv_has ls 1 [(0, .int p0)] := hl
  generalize hH : H0 = H at hP ⊢
  have hS : va_S A H0 H [] := by rw [← hH]; exact hS
  clear hH
  unfold f_J6_bitCount_0f7a4 at hf
  refine lv_iload_n hx hb dJ6_bitCount_0f7a4_0 rfl (lv_at hl 0 rfl) ?_
  refine lv_iload_n hx hb dJ6_bitCount_0f7a4_1 rfl (lv_at hl 0 rfl) ?_
  refine lv_iconst (v := 1) hx hb dJ6_bitCount_0f7a4_2 (by decide) ?_
  refine lv_iushr (v := ((p0.toUInt32 >>> ((1 : Int32).toUInt32 &&& Int32.toUInt32 31)).toInt32)) hx hb dJ6_bitCount_0f7a4_3 rfl ?_
  refine lv_ldcw hx hb hown (hts (.constant RJ6 265 (1431655765)) (List.mem_of_getElem? (i := 1) rfl)) dJ6_bitCount_0f7a4_4 ?_
  refine lv_iand hx hb dJ6_bitCount_0f7a4_7 ?_
  refine lv_isub hx hb dJ6_bitCount_0f7a4_8 ?_
  refine lv_istore_n (lv' := [(0, .int (p0 - (((p0.toUInt32 >>> ((1 : Int32).toUInt32 &&& Int32.toUInt32 31)).toInt32) &&& 1431655765)))]) hx hb dJ6_bitCount_0f7a4_9 rfl hl (by decide) rfl (fun ls hl => ?_)
  refine lv_iload_n hx hb dJ6_bitCount_0f7a4_10 rfl (lv_at hl 0 rfl) ?_
  refine lv_ldcw hx hb hown (hts (.constant RJ6 266 (858993459)) (List.mem_of_getElem? (i := 2) rfl)) dJ6_bitCount_0f7a4_11 ?_
  refine lv_iand hx hb dJ6_bitCount_0f7a4_14 ?_
  refine lv_iload_n hx hb dJ6_bitCount_0f7a4_15 rfl (lv_at hl 0 rfl) ?_
  refine lv_iconst (v := 2) hx hb dJ6_bitCount_0f7a4_16 (by decide) ?_
  refine lv_iushr (v := (((p0 - (((p0.toUInt32 >>> ((1 : Int32).toUInt32 &&& Int32.toUInt32 31)).toInt32) &&& 1431655765)).toUInt32 >>> ((2 : Int32).toUInt32 &&& Int32.toUInt32 31)).toInt32)) hx hb dJ6_bitCount_0f7a4_17 rfl ?_
  refine lv_ldcw hx hb hown (hts (.constant RJ6 266 (858993459)) (List.mem_of_getElem? (i := 2) rfl)) dJ6_bitCount_0f7a4_18 ?_
  refine lv_iand hx hb dJ6_bitCount_0f7a4_21 ?_
  refine lv_iadd hx hb dJ6_bitCount_0f7a4_22 ?_
  refine lv_istore_n (lv' := [(0, .int (((p0 - (((p0.toUInt32 >>> ((1 : Int32).toUInt32 &&& Int32.toUInt32 31)).toInt32) &&& 1431655765)) &&& 858993459) + ((((p0 - (((p0.toUInt32 >>> ((1 : Int32).toUInt32 &&& Int32.toUInt32 31)).toInt32) &&& 1431655765)).toUInt32 >>> ((2 : Int32).toUInt32 &&& Int32.toUInt32 31)).toInt32) &&& 858993459)))]) hx hb dJ6_bitCount_0f7a4_23 rfl hl (by decide) rfl (fun ls hl => ?_)
  refine lv_iload_n hx hb dJ6_bitCount_0f7a4_24 rfl (lv_at hl 0 rfl) ?_
  refine lv_iload_n hx hb dJ6_bitCount_0f7a4_25 rfl (lv_at hl 0 rfl) ?_
  refine lv_iconst (v := 4) hx hb dJ6_bitCount_0f7a4_26 (by decide) ?_
  refine lv_iushr (v := (((((p0 - (((p0.toUInt32 >>> ((1 : Int32).toUInt32 &&& Int32.toUInt32 31)).toInt32) &&& 1431655765)) &&& 858993459) + ((((p0 - (((p0.toUInt32 >>> ((1 : Int32).toUInt32 &&& Int32.toUInt32 31)).toInt32) &&& 1431655765)).toUInt32 >>> ((2 : Int32).toUInt32 &&& Int32.toUInt32 31)).toInt32) &&& 858993459)).toUInt32 >>> ((4 : Int32).toUInt32 &&& Int32.toUInt32 31)).toInt32)) hx hb dJ6_bitCount_0f7a4_27 rfl ?_
  refine lv_iadd hx hb dJ6_bitCount_0f7a4_28 ?_
  refine lv_ldcw hx hb hown (hts (.constant RJ6 267 (252645135)) (List.mem_of_getElem? (i := 3) rfl)) dJ6_bitCount_0f7a4_29 ?_
  refine lv_iand hx hb dJ6_bitCount_0f7a4_32 ?_
  refine lv_istore_n (lv' := [(0, .int (((((p0 - (((p0.toUInt32 >>> ((1 : Int32).toUInt32 &&& Int32.toUInt32 31)).toInt32) &&& 1431655765)) &&& 858993459) + ((((p0 - (((p0.toUInt32 >>> ((1 : Int32).toUInt32 &&& Int32.toUInt32 31)).toInt32) &&& 1431655765)).toUInt32 >>> ((2 : Int32).toUInt32 &&& Int32.toUInt32 31)).toInt32) &&& 858993459)) + (((((p0 - (((p0.toUInt32 >>> ((1 : Int32).toUInt32 &&& Int32.toUInt32 31)).toInt32) &&& 1431655765)) &&& 858993459) + ((((p0 - (((p0.toUInt32 >>> ((1 : Int32).toUInt32 &&& Int32.toUInt32 31)).toInt32) &&& 1431655765)).toUInt32 >>> ((2 : Int32).toUInt32 &&& Int32.toUInt32 31)).toInt32) &&& 858993459)).toUInt32 >>> ((4 : Int32).toUInt32 &&& Int32.toUInt32 31)).toInt32)) &&& 252645135))]) hx hb dJ6_bitCount_0f7a4_33 rfl hl (by decide) rfl (fun ls hl => ?_)
  refine lv_iload_n hx hb dJ6_bitCount_0f7a4_34 rfl (lv_at hl 0 rfl) ?_
  refine lv_iload_n hx hb dJ6_bitCount_0f7a4_35 rfl (lv_at hl 0 rfl) ?_
  refine lv_bipush (v := 8) hx hb dJ6_bitCount_0f7a4_36 (by decide) ?_
  refine lv_iushr (v := (((((((p0 - (((p0.toUInt32 >>> ((1 : Int32).toUInt32 &&& Int32.toUInt32 31)).toInt32) &&& 1431655765)) &&& 858993459) + ((((p0 - (((p0.toUInt32 >>> ((1 : Int32).toUInt32 &&& Int32.toUInt32 31)).toInt32) &&& 1431655765)).toUInt32 >>> ((2 : Int32).toUInt32 &&& Int32.toUInt32 31)).toInt32) &&& 858993459)) + (((((p0 - (((p0.toUInt32 >>> ((1 : Int32).toUInt32 &&& Int32.toUInt32 31)).toInt32) &&& 1431655765)) &&& 858993459) + ((((p0 - (((p0.toUInt32 >>> ((1 : Int32).toUInt32 &&& Int32.toUInt32 31)).toInt32) &&& 1431655765)).toUInt32 >>> ((2 : Int32).toUInt32 &&& Int32.toUInt32 31)).toInt32) &&& 858993459)).toUInt32 >>> ((4 : Int32).toUInt32 &&& Int32.toUInt32 31)).toInt32)) &&& 252645135).toUInt32 >>> ((8 : Int32).toUInt32 &&& Int32.toUInt32 31)).toInt32)) hx hb dJ6_bitCount_0f7a4_38 rfl ?_
  refine lv_iadd hx hb dJ6_bitCount_0f7a4_39 ?_
  refine lv_istore_n (lv' := [(0, .int ((((((p0 - (((p0.toUInt32 >>> ((1 : Int32).toUInt32 &&& Int32.toUInt32 31)).toInt32) &&& 1431655765)) &&& 858993459) + ((((p0 - (((p0.toUInt32 >>> ((1 : Int32).toUInt32 &&& Int32.toUInt32 31)).toInt32) &&& 1431655765)).toUInt32 >>> ((2 : Int32).toUInt32 &&& Int32.toUInt32 31)).toInt32) &&& 858993459)) + (((((p0 - (((p0.toUInt32 >>> ((1 : Int32).toUInt32 &&& Int32.toUInt32 31)).toInt32) &&& 1431655765)) &&& 858993459) + ((((p0 - (((p0.toUInt32 >>> ((1 : Int32).toUInt32 &&& Int32.toUInt32 31)).toInt32) &&& 1431655765)).toUInt32 >>> ((2 : Int32).toUInt32 &&& Int32.toUInt32 31)).toInt32) &&& 858993459)).toUInt32 >>> ((4 : Int32).toUInt32 &&& Int32.toUInt32 31)).toInt32)) &&& 252645135) + (((((((p0 - (((p0.toUInt32 >>> ((1 : Int32).toUInt32 &&& Int32.toUInt32 31)).toInt32) &&& 1431655765)) &&& 858993459) + ((((p0 - (((p0.toUInt32 >>> ((1 : Int32).toUInt32 &&& Int32.toUInt32 31)).toInt32) &&& 1431655765)).toUInt32 >>> ((2 : Int32).toUInt32 &&& Int32.toUInt32 31)).toInt32) &&& 858993459)) + (((((p0 - (((p0.toUInt32 >>> ((1 : Int32).toUInt32 &&& Int32.toUInt32 31)).toInt32) &&& 1431655765)) &&& 858993459) + ((((p0 - (((p0.toUInt32 >>> ((1 : Int32).toUInt32 &&& Int32.toUInt32 31)).toInt32) &&& 1431655765)).toUInt32 >>> ((2 : Int32).toUInt32 &&& Int32.toUInt32 31)).toInt32) &&& 858993459)).toUInt32 >>> ((4 : Int32).toUInt32 &&& Int32.toUInt32 31)).toInt32)) &&& 252645135).toUInt32 >>> ((8 : Int32).toUInt32 &&& Int32.toUInt32 31)).toInt32)))]) hx hb dJ6_bitCount_0f7a4_40 rfl hl (by decide) rfl (fun ls hl => ?_)
  refine lv_iload_n hx hb dJ6_bitCount_0f7a4_41 rfl (lv_at hl 0 rfl) ?_
  refine lv_iload_n hx hb dJ6_bitCount_0f7a4_42 rfl (lv_at hl 0 rfl) ?_
  refine lv_bipush (v := 16) hx hb dJ6_bitCount_0f7a4_43 (by decide) ?_
  refine lv_iushr (v := ((((((((p0 - (((p0.toUInt32 >>> ((1 : Int32).toUInt32 &&& Int32.toUInt32 31)).toInt32) &&& 1431655765)) &&& 858993459) + ((((p0 - (((p0.toUInt32 >>> ((1 : Int32).toUInt32 &&& Int32.toUInt32 31)).toInt32) &&& 1431655765)).toUInt32 >>> ((2 : Int32).toUInt32 &&& Int32.toUInt32 31)).toInt32) &&& 858993459)) + (((((p0 - (((p0.toUInt32 >>> ((1 : Int32).toUInt32 &&& Int32.toUInt32 31)).toInt32) &&& 1431655765)) &&& 858993459) + ((((p0 - (((p0.toUInt32 >>> ((1 : Int32).toUInt32 &&& Int32.toUInt32 31)).toInt32) &&& 1431655765)).toUInt32 >>> ((2 : Int32).toUInt32 &&& Int32.toUInt32 31)).toInt32) &&& 858993459)).toUInt32 >>> ((4 : Int32).toUInt32 &&& Int32.toUInt32 31)).toInt32)) &&& 252645135) + (((((((p0 - (((p0.toUInt32 >>> ((1 : Int32).toUInt32 &&& Int32.toUInt32 31)).toInt32) &&& 1431655765)) &&& 858993459) + ((((p0 - (((p0.toUInt32 >>> ((1 : Int32).toUInt32 &&& Int32.toUInt32 31)).toInt32) &&& 1431655765)).toUInt32 >>> ((2 : Int32).toUInt32 &&& Int32.toUInt32 31)).toInt32) &&& 858993459)) + (((((p0 - (((p0.toUInt32 >>> ((1 : Int32).toUInt32 &&& Int32.toUInt32 31)).toInt32) &&& 1431655765)) &&& 858993459) + ((((p0 - (((p0.toUInt32 >>> ((1 : Int32).toUInt32 &&& Int32.toUInt32 31)).toInt32) &&& 1431655765)).toUInt32 >>> ((2 : Int32).toUInt32 &&& Int32.toUInt32 31)).toInt32) &&& 858993459)).toUInt32 >>> ((4 : Int32).toUInt32 &&& Int32.toUInt32 31)).toInt32)) &&& 252645135).toUInt32 >>> ((8 : Int32).toUInt32 &&& Int32.toUInt32 31)).toInt32)).toUInt32 >>> ((16 : Int32).toUInt32 &&& Int32.toUInt32 31)).toInt32)) hx hb dJ6_bitCount_0f7a4_45 rfl ?_
  refine lv_iadd hx hb dJ6_bitCount_0f7a4_46 ?_
  refine lv_istore_n (lv' := [(0, .int (((((((p0 - (((p0.toUInt32 >>> ((1 : Int32).toUInt32 &&& Int32.toUInt32 31)).toInt32) &&& 1431655765)) &&& 858993459) + ((((p0 - (((p0.toUInt32 >>> ((1 : Int32).toUInt32 &&& Int32.toUInt32 31)).toInt32) &&& 1431655765)).toUInt32 >>> ((2 : Int32).toUInt32 &&& Int32.toUInt32 31)).toInt32) &&& 858993459)) + (((((p0 - (((p0.toUInt32 >>> ((1 : Int32).toUInt32 &&& Int32.toUInt32 31)).toInt32) &&& 1431655765)) &&& 858993459) + ((((p0 - (((p0.toUInt32 >>> ((1 : Int32).toUInt32 &&& Int32.toUInt32 31)).toInt32) &&& 1431655765)).toUInt32 >>> ((2 : Int32).toUInt32 &&& Int32.toUInt32 31)).toInt32) &&& 858993459)).toUInt32 >>> ((4 : Int32).toUInt32 &&& Int32.toUInt32 31)).toInt32)) &&& 252645135) + (((((((p0 - (((p0.toUInt32 >>> ((1 : Int32).toUInt32 &&& Int32.toUInt32 31)).toInt32) &&& 1431655765)) &&& 858993459) + ((((p0 - (((p0.toUInt32 >>> ((1 : Int32).toUInt32 &&& Int32.toUInt32 31)).toInt32) &&& 1431655765)).toUInt32 >>> ((2 : Int32).toUInt32 &&& Int32.toUInt32 31)).toInt32) &&& 858993459)) + (((((p0 - (((p0.toUInt32 >>> ((1 : Int32).toUInt32 &&& Int32.toUInt32 31)).toInt32) &&& 1431655765)) &&& 858993459) + ((((p0 - (((p0.toUInt32 >>> ((1 : Int32).toUInt32 &&& Int32.toUInt32 31)).toInt32) &&& 1431655765)).toUInt32 >>> ((2 : Int32).toUInt32 &&& Int32.toUInt32 31)).toInt32) &&& 858993459)).toUInt32 >>> ((4 : Int32).toUInt32 &&& Int32.toUInt32 31)).toInt32)) &&& 252645135).toUInt32 >>> ((8 : Int32).toUInt32 &&& Int32.toUInt32 31)).toInt32)) + ((((((((p0 - (((p0.toUInt32 >>> ((1 : Int32).toUInt32 &&& Int32.toUInt32 31)).toInt32) &&& 1431655765)) &&& 858993459) + ((((p0 - (((p0.toUInt32 >>> ((1 : Int32).toUInt32 &&& Int32.toUInt32 31)).toInt32) &&& 1431655765)).toUInt32 >>> ((2 : Int32).toUInt32 &&& Int32.toUInt32 31)).toInt32) &&& 858993459)) + (((((p0 - (((p0.toUInt32 >>> ((1 : Int32).toUInt32 &&& Int32.toUInt32 31)).toInt32) &&& 1431655765)) &&& 858993459) + ((((p0 - (((p0.toUInt32 >>> ((1 : Int32).toUInt32 &&& Int32.toUInt32 31)).toInt32) &&& 1431655765)).toUInt32 >>> ((2 : Int32).toUInt32 &&& Int32.toUInt32 31)).toInt32) &&& 858993459)).toUInt32 >>> ((4 : Int32).toUInt32 &&& Int32.toUInt32 31)).toInt32)) &&& 252645135) + (((((((p0 - (((p0.toUInt32 >>> ((1 : Int32).toUInt32 &&& Int32.toUInt32 31)).toInt32) &&& 1431655765)) &&& 858993459) + ((((p0 - (((p0.toUInt32 >>> ((1 : Int32).toUInt32 &&& Int32.toUInt32 31)).toInt32) &&& 1431655765)).toUInt32 >>> ((2 : Int32).toUInt32 &&& Int32.toUInt32 31)).toInt32) &&& 858993459)) + (((((p0 - (((p0.toUInt32 >>> ((1 : Int32).toUInt32 &&& Int32.toUInt32 31)).toInt32) &&& 1431655765)) &&& 858993459) + ((((p0 - (((p0.toUInt32 >>> ((1 : Int32).toUInt32 &&& Int32.toUInt32 31)).toInt32) &&& 1431655765)).toUInt32 >>> ((2 : Int32).toUInt32 &&& Int32.toUInt32 31)).toInt32) &&& 858993459)).toUInt32 >>> ((4 : Int32).toUInt32 &&& Int32.toUInt32 31)).toInt32)) &&& 252645135).toUInt32 >>> ((8 : Int32).toUInt32 &&& Int32.toUInt32 31)).toInt32)).toUInt32 >>> ((16 : Int32).toUInt32 &&& Int32.toUInt32 31)).toInt32)))]) hx hb dJ6_bitCount_0f7a4_47 rfl hl (by decide) rfl (fun ls hl => ?_)
  refine lv_iload_n hx hb dJ6_bitCount_0f7a4_48 rfl (lv_at hl 0 rfl) ?_
  refine lv_bipush (v := 63) hx hb dJ6_bitCount_0f7a4_49 (by decide) ?_
  refine lv_iand hx hb dJ6_bitCount_0f7a4_51 ?_
  subst hf
  exact hret rfl rfl rfl hP hD hS dJ6_bitCount_0f7a4_52
def f_X4_isWithin (p0 : Int32) (p1 : Int32) (p2 : Int32) : Int32 := if p0 < p1 then (0) else (if p2 < p0 then (0) else (1))
theorem yd_X4_isWithin : yX4_isWithin.cls ≠ "java/lang/invoke/MethodHandle" ∧ yX4_isWithin.cls ≠ "java/lang/invoke/VarHandle" ∧ (parseMethodDescriptor yX4_isWithin.desc).map (fun d => d.parameters.length) = some 3 := by decide +kernel
abbrev rmX4_isWithin : Room := { frames := 0, cells := 0, slots := 0, locals := 0 }
set_option maxHeartbeats 4000000 in
set_option maxRecDepth 100000 in
theorem k_X4_isWithin (l : Launch) (D : va_G) (K : Nat → ClassId) (p0 : Int32) (p1 : Int32) (p2 : Int32) (out : Int32) (hf : f_X4_isWithin p0 p1 p2 = out) : kI l D K .boolean yX4_isWithin wsX4_isWithin rmX4_isWithin [.int p0, .int p1, .int p2] ([] : va_W) out ([] : va_W) := by
  refine kI.of (cc := cX4_isWithin) (maxL := 3) (by decide) rfl (Nat.le_of_ble_eq_true rfl) ?_
  intro p e s m args below meth c A H0 Q ls hx hb hml hown hts hK hN hA hP hD hS hl hret
  have hown : s.vm.findClass RX4 = some m.cls := hown
  have hl : lv_has ls 3 [(0, .int p0), (1, .int p1), (2, .int p2)] := hl
  generalize hH : H0 = H at hP ⊢
  have hS : va_S A H0 H [] := by rw [← hH]; exact hS
  clear hH
  unfold f_X4_isWithin at hf
  refine lv_iload_n hx hb dX4_isWithin_0 rfl (lv_at hl 1 rfl) ?_
  refine lv_iload_n hx hb dX4_isWithin_1 rfl (lv_at hl 0 rfl) ?_
  refine lv_icmp_gt (tgt := 14) hx hb dX4_isWithin_2 (by decide) (fun c1 => ?_) (fun c1 => ?_)
  · rw [if_pos c1] at hf
    refine lv_iconst (v := 0) hx hb dX4_isWithin_14 (by decide) ?_
    subst hf
    exact hret rfl rfl rfl hP hD hS dX4_isWithin_15
  · rw [if_neg c1] at hf
    refine lv_iload_n hx hb dX4_isWithin_5 rfl (lv_at hl 0 rfl) ?_
    refine lv_iload_n hx hb dX4_isWithin_6 rfl (lv_at hl 2 rfl) ?_
    refine lv_icmp_gt (tgt := 14) hx hb dX4_isWithin_7 (by decide) (fun c2 => ?_) (fun c2 => ?_)
    · rw [if_pos c2] at hf
      refine lv_iconst (v := 0) hx hb dX4_isWithin_14 (by decide) ?_
      subst hf
      exact hret rfl rfl rfl hP hD hS dX4_isWithin_15
    · rw [if_neg c2] at hf
      refine lv_iconst (v := 1) hx hb dX4_isWithin_10 (by decide) ?_
      refine lv_goto (tgt := 15) hx hb dX4_isWithin_11 (by decide) ?_
      subst hf
      exact hret rfl rfl rfl hP hD hS dX4_isWithin_15
def f_X4_isWord (p0 : Int32) : Int32 := bd (f_X4_isWithin p0 (0) (11)) (fun o1 => o1)
theorem yd_X4_isWord : yX4_isWord.cls ≠ "java/lang/invoke/MethodHandle" ∧ yX4_isWord.cls ≠ "java/lang/invoke/VarHandle" ∧ (parseMethodDescriptor yX4_isWord.desc).map (fun d => d.parameters.length) = some 1 := by decide +kernel
abbrev rmX4_isWord : Room := { frames := 1, cells := 0, slots := 0, locals := 22 }
set_option maxHeartbeats 4000000 in
set_option maxRecDepth 100000 in
theorem k_X4_isWord (l : Launch) (D : va_G) (K : Nat → ClassId) (p0 : Int32) (out : Int32) (hf : f_X4_isWord p0 = out) : kI l D K .boolean yX4_isWord wsX4_isWord rmX4_isWord [.int p0] ([] : va_W) out ([] : va_W) := by
  refine kI.of (cc := cX4_isWord) (maxL := 1) (by decide) rfl (Nat.le_of_ble_eq_true rfl) ?_
  intro p e s m args below meth c A H0 Q ls hx hb hml hown hts hK hN hA hP hD hS hl hret
  have hown : s.vm.findClass RX4 = some m.cls := hown
  have hl : lv_has ls 1 [(0, .int p0)] := hl
  generalize hH : H0 = H at hP ⊢
  have hS : va_S A H0 H [] := by rw [← hH]; exact hS
  clear hH
  unfold f_X4_isWord at hf
  refine lv_iload_n hx hb dX4_isWord_0 rfl (lv_at hl 0 rfl) ?_
  refine lv_iconst (v := 0) hx hb dX4_isWord_1 (by decide) ?_
  refine lv_bipush (v := 11) hx hb dX4_isWord_2 (by decide) ?_
  obtain ⟨o1, ho1, hf⟩ := bd_el hf
  refine kc0_i (D := D) (va_runS (As := [.int p0, .int 0, .int 11]) (rest := []) ⟨hx, hb, hml, hown, hts⟩ ((k_X4_isWithin l D K p0 (0) (11) o1 ho1) H.size) (va_cwS 3 hts gX4_isWord_X4_isWithin rfl rfl rfl yd_X4_isWithin ⟨Nat.le_of_ble_eq_true rfl, Nat.le_of_ble_eq_true rfl⟩) (kPreS va_P_nil (va_D_nil (A := fun _ => True)) hK hN) rfl rfl hl.1 rfl (lv_room (Nat.le_of_ble_eq_true rfl)) dX4_isWord_4 ⟨Nat.le_of_ble_eq_true rfl, Nat.le_of_ble_eq_true rfl⟩) hP hS hA (fun hzo1 H locs hP hS => ?_)
  subst hf
  exact hret rfl rfl hzo1 hP hD hS dX4_isWord_7
def f_X4_isSpeaker (p0 : Int32) : Int32 := bd (f_X4_isWithin p0 (0) (3)) (fun o1 => o1)
theorem yd_X4_isSpeaker : yX4_isSpeaker.cls ≠ "java/lang/invoke/MethodHandle" ∧ yX4_isSpeaker.cls ≠ "java/lang/invoke/VarHandle" ∧ (parseMethodDescriptor yX4_isSpeaker.desc).map (fun d => d.parameters.length) = some 1 := by decide +kernel
abbrev rmX4_isSpeaker : Room := { frames := 1, cells := 0, slots := 0, locals := 22 }
set_option maxHeartbeats 4000000 in
set_option maxRecDepth 100000 in
theorem k_X4_isSpeaker (l : Launch) (D : va_G) (K : Nat → ClassId) (p0 : Int32) (out : Int32) (hf : f_X4_isSpeaker p0 = out) : kI l D K .boolean yX4_isSpeaker wsX4_isSpeaker rmX4_isSpeaker [.int p0] ([] : va_W) out ([] : va_W) := by
  refine kI.of (cc := cX4_isSpeaker) (maxL := 1) (by decide) rfl (Nat.le_of_ble_eq_true rfl) ?_
  intro p e s m args below meth c A H0 Q ls hx hb hml hown hts hK hN hA hP hD hS hl hret
  have hown : s.vm.findClass RX4 = some m.cls := hown
  have hl : lv_has ls 1 [(0, .int p0)] := hl
  generalize hH : H0 = H at hP ⊢
  have hS : va_S A H0 H [] := by rw [← hH]; exact hS
  clear hH
  unfold f_X4_isSpeaker at hf
  refine lv_iload_n hx hb dX4_isSpeaker_0 rfl (lv_at hl 0 rfl) ?_
  refine lv_iconst (v := 0) hx hb dX4_isSpeaker_1 (by decide) ?_
  refine lv_iconst (v := 3) hx hb dX4_isSpeaker_2 (by decide) ?_
  obtain ⟨o1, ho1, hf⟩ := bd_el hf
  refine kc0_i (D := D) (va_runS (As := [.int p0, .int 0, .int 3]) (rest := []) ⟨hx, hb, hml, hown, hts⟩ ((k_X4_isWithin l D K p0 (0) (3) o1 ho1) H.size) (va_cwS 3 hts gX4_isSpeaker_X4_isWithin rfl rfl rfl yd_X4_isWithin ⟨Nat.le_of_ble_eq_true rfl, Nat.le_of_ble_eq_true rfl⟩) (kPreS va_P_nil (va_D_nil (A := fun _ => True)) hK hN) rfl rfl hl.1 rfl (lv_room (Nat.le_of_ble_eq_true rfl)) dX4_isSpeaker_3 ⟨Nat.le_of_ble_eq_true rfl, Nat.le_of_ble_eq_true rfl⟩) hP hS hA (fun hzo1 H locs hP hS => ?_)
  subst hf
  exact hret rfl rfl hzo1 hP hD hS dX4_isSpeaker_6
def f_X4_isSet (p0 : Int32) : Int32 := bd (f_X4_isWithin p0 (0) (4095)) (fun o1 => o1)
theorem yd_X4_isSet : yX4_isSet.cls ≠ "java/lang/invoke/MethodHandle" ∧ yX4_isSet.cls ≠ "java/lang/invoke/VarHandle" ∧ (parseMethodDescriptor yX4_isSet.desc).map (fun d => d.parameters.length) = some 1 := by decide +kernel
abbrev rmX4_isSet : Room := { frames := 1, cells := 0, slots := 0, locals := 22 }
set_option maxHeartbeats 4000000 in
set_option maxRecDepth 100000 in
theorem k_X4_isSet (l : Launch) (D : va_G) (K : Nat → ClassId) (p0 : Int32) (out : Int32) (hf : f_X4_isSet p0 = out) : kI l D K .boolean yX4_isSet wsX4_isSet rmX4_isSet [.int p0] ([] : va_W) out ([] : va_W) := by
  refine kI.of (cc := cX4_isSet) (maxL := 1) (by decide) rfl (Nat.le_of_ble_eq_true rfl) ?_
  intro p e s m args below meth c A H0 Q ls hx hb hml hown hts hK hN hA hP hD hS hl hret
  have hown : s.vm.findClass RX4 = some m.cls := hown
  have hl : lv_has ls 1 [(0, .int p0)] := hl
  generalize hH : H0 = H at hP ⊢
  have hS : va_S A H0 H [] := by rw [← hH]; exact hS
  clear hH
  unfold f_X4_isSet at hf
  refine lv_iload_n hx hb dX4_isSet_0 rfl (lv_at hl 0 rfl) ?_
  refine lv_iconst (v := 0) hx hb dX4_isSet_1 (by decide) ?_
  refine lv_sipush (v := 4095) hx hb dX4_isSet_2 (by decide) ?_
  obtain ⟨o1, ho1, hf⟩ := bd_el hf
  refine kc0_i (D := D) (va_runS (As := [.int p0, .int 0, .int 4095]) (rest := []) ⟨hx, hb, hml, hown, hts⟩ ((k_X4_isWithin l D K p0 (0) (4095) o1 ho1) H.size) (va_cwS 3 hts gX4_isSet_X4_isWithin rfl rfl rfl yd_X4_isWithin ⟨Nat.le_of_ble_eq_true rfl, Nat.le_of_ble_eq_true rfl⟩) (kPreS va_P_nil (va_D_nil (A := fun _ => True)) hK hN) rfl rfl hl.1 rfl (lv_room (Nat.le_of_ble_eq_true rfl)) dX4_isSet_5 ⟨Nat.le_of_ble_eq_true rfl, Nat.le_of_ble_eq_true rfl⟩) hP hS hA (fun hzo1 H locs hP hS => ?_)
  subst hf
  exact hret rfl rfl hzo1 hP hD hS dX4_isSet_8
def f_X4_isIn (p0 : Int32) (p1 : Int32) : Int32 := if ((p1 >>> (p0 &&& 31)) &&& 1) = 1 then (1) else (0)
theorem yd_X4_isIn : yX4_isIn.cls ≠ "java/lang/invoke/MethodHandle" ∧ yX4_isIn.cls ≠ "java/lang/invoke/VarHandle" ∧ (parseMethodDescriptor yX4_isIn.desc).map (fun d => d.parameters.length) = some 2 := by decide +kernel
abbrev rmX4_isIn : Room := { frames := 0, cells := 0, slots := 0, locals := 0 }
set_option maxHeartbeats 4000000 in
set_option maxRecDepth 100000 in
theorem k_X4_isIn (l : Launch) (D : va_G) (K : Nat → ClassId) (p0 : Int32) (p1 : Int32) (out : Int32) (hf : f_X4_isIn p0 p1 = out) : kI l D K .boolean yX4_isIn wsX4_isIn rmX4_isIn [.int p0, .int p1] ([] : va_W) out ([] : va_W) := by
  refine kI.of (cc := cX4_isIn) (maxL := 2) (by decide) rfl (Nat.le_of_ble_eq_true rfl) ?_
  intro p e s m args below meth c A H0 Q ls hx hb hml hown hts hK hN hA hP hD hS hl hret
  have hown : s.vm.findClass RX4 = some m.cls := hown
  have hl : lv_has ls 2 [(0, .int p0), (1, .int p1)] := hl
  generalize hH : H0 = H at hP ⊢
  have hS : va_S A H0 H [] := by rw [← hH]; exact hS
  clear hH
  unfold f_X4_isIn at hf
  refine lv_iload_n hx hb dX4_isIn_0 rfl (lv_at hl 1 rfl) ?_
  refine lv_iload_n hx hb dX4_isIn_1 rfl (lv_at hl 0 rfl) ?_
  refine lv_ishr hx hb dX4_isIn_2 ?_
  refine lv_iconst (v := 1) hx hb dX4_isIn_3 (by decide) ?_
  refine lv_iand hx hb dX4_isIn_4 ?_
  refine lv_iconst (v := 1) hx hb dX4_isIn_5 (by decide) ?_
  refine lv_icmp_ne (tgt := 13) hx hb dX4_isIn_6 (by decide) (fun c1 => ?_) (fun c1 => ?_)
  · rw [if_neg c1] at hf
    refine lv_iconst (v := 0) hx hb dX4_isIn_13 (by decide) ?_
    subst hf
    exact hret rfl rfl rfl hP hD hS dX4_isIn_14
  · rw [if_pos c1] at hf
    refine lv_iconst (v := 1) hx hb dX4_isIn_9 (by decide) ?_
    refine lv_goto (tgt := 14) hx hb dX4_isIn_10 (by decide) ?_
    subst hf
    exact hret rfl rfl rfl hP hD hS dX4_isIn_14
def s_X4_power_5 (p0 : Int64) (p1 : Int32) (x : Int64 × Int32) : Option ((Int64 × Int32) ⊕ (Int64 × Int32)) := if p1 ≤ x.2 then (some (.inr (x.1, x.2))) else (some (.inl ((x.1 * p0), (x.2 + 1))))
def f_X4_power (p0 : Int64) (p1 : Int32) : Option (Int64) := ob (wh (s_X4_power_5 p0 p1) 5000 (1, 0)) (fun r1 => some r1.1)
theorem yd_X4_power : yX4_power.cls ≠ "java/lang/invoke/MethodHandle" ∧ yX4_power.cls ≠ "java/lang/invoke/VarHandle" ∧ (parseMethodDescriptor yX4_power.desc).map (fun d => d.parameters.length) = some 2 := by decide +kernel
abbrev rmX4_power : Room := { frames := 0, cells := 0, slots := 0, locals := 0 }
set_option maxHeartbeats 4000000 in
set_option maxRecDepth 100000 in
theorem k_X4_power (l : Launch) (D : va_G) (K : Nat → ClassId) (p0 : Int64) (p1 : Int32) (out : Int64) (hf : f_X4_power p0 p1 = some out) : kL l D K yX4_power wsX4_power rmX4_power [.long p0, .int p1] ([] : va_W) out ([] : va_W) := by
  refine kL.of (cc := cX4_power) (maxL := 6) (by decide) rfl (Nat.le_of_ble_eq_true rfl) ?_
  intro p e s m args below meth c A H0 Q ls hx hb hml hown hts hK hN hA hP hD hS hl hret
  have hown : s.vm.findClass RX4 = some m.cls := hown
  have hl : lv_has ls 6 [(0, .long p0), (2, .int p1)] := hl
  generalize hH : H0 = H at hP ⊢
  have hS : va_S A H0 H [] := by rw [← hH]; exact hS
  clear hH
  unfold f_X4_power at hf
  refine lv_lconst (v := 1) hx hb dX4_power_0 (by decide) ?_
  refine lv_lstore_n (lv' := [(3, .long 1), (0, .long p0), (2, .int p1)]) hx hb dX4_power_1 rfl hl (by decide) rfl (fun ls hl => ?_)
  refine lv_iconst (v := 0) hx hb dX4_power_2 (by decide) ?_
  refine lv_istore (lv' := [(5, .int 0), (3, .long 1), (0, .long p0), (2, .int p1)]) hx hb dX4_power_3 hl (by decide) rfl (fun ls hl => ?_)
  obtain ⟨r1, hr1, hf⟩ := ob_el hf
  have post5 : ∀ (e5_l3 : Int64) (e5_l5 : Int32) (H : Heap) (locs : List Loc) (ls : Array Slot), (some e5_l3) = some out → va_P D vwCl ([] : va_W) H → va_D A ([] : va_W) → va_S A H0 H locs → lv_has ls 6 [(5, .int e5_l5), (3, .long e5_l3), (0, .long p0), (2, .int p1)] → W p l e rmX4_power s m args below meth c H locs 0 0 Q (F0 m 21 ls []) := by
    intro e5_l3 e5_l5 H locs ls hf hP hD hS hl
    refine lv_lload_n hx hb dX4_power_21 rfl (lv_at hl 1 rfl) ?_
    obtain rfl := Option.some.inj hf
    exact hret rfl rfl hP hD hS dX4_power_22
  have lp5 : ∀ (n : Nat) (x5_l3 : Int64) (x5_l5 : Int32) (H : Heap) (locs : List Loc) (ls : Array Slot), wh (s_X4_power_5 p0 p1) n (x5_l3, x5_l5) = some r1 → va_P D vwCl ([] : va_W) H → va_D A ([] : va_W) → va_S A H0 H locs → lv_has ls 6 [(5, .int x5_l5), (3, .long x5_l3), (0, .long p0), (2, .int p1)] → W p l e rmX4_power s m args below meth c H locs 0 0 Q (F0 m 5 ls []) := by
    intro n
    induction n with
    | zero => intro x5_l3 x5_l5 H locs ls hw5; cases hw5
    | succ n ih5 =>
      intro x5_l3 x5_l5 H locs ls hw5 hP hD hS hl
      obtain ⟨o5_, hs5, hw5⟩ := wh_el hw5
      unfold s_X4_power_5 at hs5
      dsimp only at hs5
      refine lv_iload hx hb dX4_power_5 (lv_at hl 0 rfl) ?_
      refine lv_iload_n hx hb dX4_power_7 rfl (lv_at hl 3 rfl) ?_
      refine lv_icmp_ge (tgt := 21) hx hb dX4_power_8 (by decide) (fun c2 => ?_) (fun c2 => ?_)
      · rw [if_pos c2] at hs5
        obtain rfl := Option.some.inj hs5
        have e9 := Option.some.inj hw5
        rw [← e9] at hf
        exact post5 _ _ _ _ _ hf hP hD hS (lv_sub hl [0, 1, 2, 3] rfl)
      · rw [if_neg c2] at hs5
        refine lv_lload_n hx hb dX4_power_11 rfl (lv_at hl 1 rfl) ?_
        refine lv_lload_n hx hb dX4_power_12 rfl (lv_at hl 2 rfl) ?_
        refine lv_lmul hx hb dX4_power_13 ?_
        refine lv_lstore_n (lv' := [(3, .long (x5_l3 * p0)), (5, .int x5_l5), (0, .long p0), (2, .int p1)]) hx hb dX4_power_14 rfl hl (by decide) rfl (fun ls hl => ?_)
        refine lv_iinc (v := (x5_l5 + 1)) (lv' := [(5, .int (x5_l5 + 1)), (3, .long (x5_l3 * p0)), (0, .long p0), (2, .int p1)]) hx hb dX4_power_15 hl (k := 1) rfl (by rfl) (by decide) rfl (fun ls hl => ?_)
        refine lv_goto (tgt := 5) hx hb dX4_power_18 (by decide) ?_
        obtain rfl := Option.some.inj hs5
        exact ih5 _ _ _ _ _ hw5 hP hD hS (lv_sub hl [0, 1, 2, 3] rfl)
  exact lp5 5000 _ _ _ _ _ hr1 hP hD hS (lv_sub hl [0, 1, 2, 3] rfl)
def s_X4_sumOf_4 (n : Nat) (vf : Nat → Int32) (x : Int32 × Int32) : Option ((Int32 × Int32) ⊕ (Int32 × Int32)) := if (Int32.ofNat n) ≤ x.2 then (some (.inr (x.1, x.2))) else (chk x.2 n (some (.inl ((x.1 + (vf (x.2).toNatClampNeg)), (x.2 + 1)))))
def f_X4_sumOf (n : Nat) (vf : Nat → Int32) : Option (Int32) := ob (wh (s_X4_sumOf_4 n vf) 5000 (0, 0)) (fun r1 => some r1.1)
theorem yd_X4_sumOf : yX4_sumOf.cls ≠ "java/lang/invoke/MethodHandle" ∧ yX4_sumOf.cls ≠ "java/lang/invoke/VarHandle" ∧ (parseMethodDescriptor yX4_sumOf.desc).map (fun d => d.parameters.length) = some 1 := by decide +kernel
abbrev rmX4_sumOf : Room := { frames := 0, cells := 0, slots := 0, locals := 0 }
set_option maxHeartbeats 4000000 in
set_option maxRecDepth 100000 in
theorem k_X4_sumOf (l : Launch) (D : va_G) (K : Nat → ClassId) (ai : Nat) (n : Nat) (vf : Nat → Int32) (out : Int32) (hf : f_X4_sumOf n vf = some out) : kI l D K .int yX4_sumOf wsX4_sumOf rmX4_sumOf [.ref ai] (iaW K ai n vf) out (iaW K ai n vf) := by
  refine kI.of (cc := cX4_sumOf) (maxL := 3) (by decide) rfl (Nat.le_of_ble_eq_true rfl) ?_
  intro p e s m args below meth c A H0 Q ls hx hb hml hown hts hK hN hA hP hD hS hl hret
  have hown : s.vm.findClass RX4 = some m.cls := hown
  have hl : lv_has ls 3 [(0, .ref ai)] := hl
  generalize hH : H0 = H at hP ⊢
  have hS : va_S A H0 H [] := by rw [← hH]; exact hS
  clear hH
  unfold f_X4_sumOf at hf
  refine lv_iconst (v := 0) hx hb dX4_sumOf_0 (by decide) ?_
  refine lv_istore_n (lv' := [(1, .int 0), (0, .ref ai)]) hx hb dX4_sumOf_1 rfl hl (by decide) rfl (fun ls hl => ?_)
  refine lv_iconst (v := 0) hx hb dX4_sumOf_2 (by decide) ?_
  refine lv_istore_n (lv' := [(2, .int 0), (1, .int 0), (0, .ref ai)]) hx hb dX4_sumOf_3 rfl hl (by decide) rfl (fun ls hl => ?_)
  obtain ⟨r1, hr1, hf⟩ := ob_el hf
  have post4 : ∀ (e4_l1 : Int32) (e4_l2 : Int32) (H : Heap) (locs : List Loc) (ls : Array Slot), (some e4_l1) = some out → va_P D vwCl (iaW K ai n vf) H → va_D A (iaW K ai n vf) → va_S A H0 H locs → lv_has ls 3 [(2, .int e4_l2), (1, .int e4_l1), (0, .ref ai)] → W p l e rmX4_sumOf s m args below meth c H locs 0 0 Q (F0 m 22 ls []) := by
    intro e4_l1 e4_l2 H locs ls hf hP hD hS hl
    refine lv_iload_n hx hb dX4_sumOf_22 rfl (lv_at hl 1 rfl) ?_
    obtain rfl := Option.some.inj hf
    exact hret rfl rfl rfl hP hD hS dX4_sumOf_23
  have lp4 : ∀ (n : Nat) (x4_l1 : Int32) (x4_l2 : Int32) (H : Heap) (locs : List Loc) (ls : Array Slot), wh (s_X4_sumOf_4 n vf) n (x4_l1, x4_l2) = some r1 → va_P D vwCl (iaW K ai n vf) H → va_D A (iaW K ai n vf) → va_S A H0 H locs → lv_has ls 3 [(2, .int x4_l2), (1, .int x4_l1), (0, .ref ai)] → W p l e rmX4_sumOf s m args below meth c H locs 0 0 Q (F0 m 4 ls []) := by
    intro n
    induction n with
    | zero => intro x4_l1 x4_l2 H locs ls hw4; cases hw4
    | succ n ih4 =>
      intro x4_l1 x4_l2 H locs ls hw4 hP hD hS hl
      obtain ⟨o4_, hs4, hw4⟩ := wh_el hw4
      unfold s_X4_sumOf_4 at hs4
      dsimp only at hs4
      refine lv_iload_n hx hb dX4_sumOf_4 rfl (lv_at hl 0 rfl) ?_
      refine lv_aload_n hx hb dX4_sumOf_5 rfl (lv_at hl 2 rfl) ?_
      refine va_alen (D := D) (v := (Int32.ofNat n)) hx hb hK hP 0 0 rfl rfl rfl dX4_sumOf_6 ?_
      refine lv_icmp_ge (tgt := 22) hx hb dX4_sumOf_7 (by decide) (fun c2 => ?_) (fun c2 => ?_)
      · rw [if_pos c2] at hs4
        obtain rfl := Option.some.inj hs4
        have e9 := Option.some.inj hw4
        rw [← e9] at hf
        exact post4 _ _ _ _ _ hf hP hD hS (lv_sub hl [0, 1, 2] rfl)
      · rw [if_neg c2] at hs4
        refine lv_iload_n hx hb dX4_sumOf_10 rfl (lv_at hl 1 rfl) ?_
        refine lv_aload_n hx hb dX4_sumOf_11 rfl (lv_at hl 2 rfl) ?_
        refine lv_iload_n hx hb dX4_sumOf_12 rfl (lv_at hl 0 rfl) ?_
        obtain ⟨v3, hs4⟩ := chk_el hs4
        refine va_iald (D := D) (f := vf) hx hb hK hP 0 0 rfl rfl v3 dX4_sumOf_13 ?_
        refine lv_iadd hx hb dX4_sumOf_14 ?_
        refine lv_istore_n (lv' := [(1, .int (x4_l1 + (vf (x4_l2).toNatClampNeg))), (2, .int x4_l2), (0, .ref ai)]) hx hb dX4_sumOf_15 rfl hl (by decide) rfl (fun ls hl => ?_)
        refine lv_iinc (v := (x4_l2 + 1)) (lv' := [(2, .int (x4_l2 + 1)), (1, .int (x4_l1 + (vf (x4_l2).toNatClampNeg))), (0, .ref ai)]) hx hb dX4_sumOf_16 hl (k := 1) rfl (by rfl) (by decide) rfl (fun ls hl => ?_)
        refine lv_goto (tgt := 4) hx hb dX4_sumOf_19 (by decide) ?_
        obtain rfl := Option.some.inj hs4
        exact ih4 _ _ _ _ _ hw4 hP hD hS (lv_sub hl [0, 1, 2] rfl)
  exact lp4 5000 _ _ _ _ _ hr1 hP hD hS (lv_sub hl [0, 1, 2] rfl)
def s_X4_copyRow_2 (n : Nat) (vfa : Nat → Int32) (x : Int32 × (Nat → Int32)) : Option ((Int32 × (Nat → Int32)) ⊕ (Int32 × (Nat → Int32))) := if (Int32.ofNat n) ≤ x.1 then (some (.inr (x.1, x.2))) else (chk x.1 n (some (.inl ((x.1 + 1), (upd x.2 (x.1).toNatClampNeg (vfa (x.1).toNatClampNeg))))))
def f_X4_copyRow (n : Nat) (vfa : Nat → Int32) (vfb : Nat → Int32) : Option ((Nat → Int32)) := ob (wh (s_X4_copyRow_2 n vfa) 5000 (0, vfb)) (fun r1 => some r1.2)
theorem yd_X4_copyRow : yX4_copyRow.cls ≠ "java/lang/invoke/MethodHandle" ∧ yX4_copyRow.cls ≠ "java/lang/invoke/VarHandle" ∧ (parseMethodDescriptor yX4_copyRow.desc).map (fun d => d.parameters.length) = some 2 := by decide +kernel
abbrev rmX4_copyRow : Room := { frames := 0, cells := 0, slots := 0, locals := 0 }
set_option maxHeartbeats 4000000 in
set_option maxRecDepth 100000 in
theorem k_X4_copyRow (l : Launch) (D : va_G) (K : Nat → ClassId) (aia : Nat) (aib : Nat) (n : Nat) (vfa : Nat → Int32) (vfb : Nat → Int32) (out : (Nat → Int32)) (hf : f_X4_copyRow n vfa vfb = some out) : kV l D K yX4_copyRow wsX4_copyRow rmX4_copyRow [.ref aia, .ref aib] ((iaW K aia n vfa) ++ (iaW K aib n vfb)) ((iaW K aia n vfa) ++ (iaW K aib n out)) := by
  refine kV.of (cc := cX4_copyRow) (maxL := 3) (by decide) rfl (Nat.le_of_ble_eq_true rfl) ?_
  intro p e s m args below meth c A H0 Q ls hx hb hml hown hts hK hN hA hP hD hS hl hret
  have hown : s.vm.findClass RX4 = some m.cls := hown
  have hl : lv_has ls 3 [(0, .ref aia), (1, .ref aib)] := hl
  generalize hH : H0 = H at hP ⊢
  have hS : va_S A H0 H [] := by rw [← hH]; exact hS
  clear hH
  unfold f_X4_copyRow at hf
  refine lv_iconst (v := 0) hx hb dX4_copyRow_0 (by decide) ?_
  refine lv_istore_n (lv' := [(2, .int 0), (0, .ref aia), (1, .ref aib)]) hx hb dX4_copyRow_1 rfl hl (by decide) rfl (fun ls hl => ?_)
  obtain ⟨r1, hr1, hf⟩ := ob_el hf
  have post2 : ∀ (e2_l2 : Int32) (e2_f1 : Nat → Int32) (H : Heap) (locs : List Loc) (ls : Array Slot), (some e2_f1) = some out → va_P D vwCl ((iaW K aia n vfa) ++ (iaW K aib n e2_f1)) H → va_D A ((iaW K aia n vfa) ++ (iaW K aib n e2_f1)) → va_S A H0 H locs → lv_has ls 3 [(2, .int e2_l2), (0, .ref aia), (1, .ref aib)] → W p l e rmX4_copyRow s m args below meth c H locs 0 0 Q (F0 m 26 ls []) := by
    intro e2_l2 e2_f1 H locs ls hf hP hD hS hl
    obtain rfl := Option.some.inj hf
    exact hret rfl hP hD hS dX4_copyRow_26
  have lp2 : ∀ (n : Nat) (x2_l2 : Int32) (x2_f1 : Nat → Int32) (H : Heap) (locs : List Loc) (ls : Array Slot), wh (s_X4_copyRow_2 n vfa) n (x2_l2, x2_f1) = some r1 → va_P D vwCl ((iaW K aia n vfa) ++ (iaW K aib n x2_f1)) H → va_D A ((iaW K aia n vfa) ++ (iaW K aib n x2_f1)) → va_S A H0 H locs → lv_has ls 3 [(2, .int x2_l2), (0, .ref aia), (1, .ref aib)] → W p l e rmX4_copyRow s m args below meth c H locs 0 0 Q (F0 m 2 ls []) := by
    intro n
    induction n with
    | zero => intro x2_l2 x2_f1 H locs ls hw2; cases hw2
    | succ n ih2 =>
      intro x2_l2 x2_f1 H locs ls hw2 hP hD hS hl
      obtain ⟨o2_, hs2, hw2⟩ := wh_el hw2
      unfold s_X4_copyRow_2 at hs2
      dsimp only at hs2
      refine lv_iload_n hx hb dX4_copyRow_2 rfl (lv_at hl 0 rfl) ?_
      refine lv_aload_n hx hb dX4_copyRow_3 rfl (lv_at hl 1 rfl) ?_
      refine va_alen (D := D) (v := (Int32.ofNat n)) hx hb hK hP 0 0 rfl rfl rfl dX4_copyRow_4 ?_
      refine lv_icmp_ge (tgt := 26) hx hb dX4_copyRow_5 (by decide) (fun c2 => ?_) (fun c2 => ?_)
      · rw [if_pos c2] at hs2
        obtain rfl := Option.some.inj hs2
        have e9 := Option.some.inj hw2
        rw [← e9] at hf
        exact post2 _ _ _ _ _ hf hP hD hS (lv_sub hl [0, 1, 2] rfl)
      · rw [if_neg c2] at hs2
        refine lv_iload_n hx hb dX4_copyRow_8 rfl (lv_at hl 0 rfl) ?_
        refine lv_aload_n hx hb dX4_copyRow_9 rfl (lv_at hl 2 rfl) ?_
        refine va_alen (D := D) (v := (Int32.ofNat n)) hx hb hK hP 1 0 rfl rfl rfl dX4_copyRow_10 ?_
        refine lv_icmp_ge (tgt := 26) hx hb dX4_copyRow_11 (by decide) (fun c3 => ?_) (fun c3 => ?_)
        · exact absurd c3 c2
        · skip
          refine lv_aload_n hx hb dX4_copyRow_14 rfl (lv_at hl 2 rfl) ?_
          refine lv_iload_n hx hb dX4_copyRow_15 rfl (lv_at hl 0 rfl) ?_
          refine lv_aload_n hx hb dX4_copyRow_16 rfl (lv_at hl 1 rfl) ?_
          refine lv_iload_n hx hb dX4_copyRow_17 rfl (lv_at hl 0 rfl) ?_
          obtain ⟨v4, hs2⟩ := chk_el hs2
          refine va_iald (D := D) (f := vfa) hx hb hK hP 0 0 rfl rfl v4 dX4_copyRow_18 ?_
          refine va_iast (D := D) (f := x2_f1) hx hb hK hP hD hS 1 0 rfl rfl v4 dX4_copyRow_19 (fun H locs hP hD hS => ?_)
          have hP : va_P D vwCl ((iaW K aia n vfa) ++ (iaW K aib n (upd x2_f1 (x2_l2).toNatClampNeg (vfa (x2_l2).toNatClampNeg)))) H := hP
          have hD : va_D A ((iaW K aia n vfa) ++ (iaW K aib n (upd x2_f1 (x2_l2).toNatClampNeg (vfa (x2_l2).toNatClampNeg)))) := hD
          refine lv_iinc (v := (x2_l2 + 1)) (lv' := [(2, .int (x2_l2 + 1)), (0, .ref aia), (1, .ref aib)]) hx hb dX4_copyRow_20 hl (k := 0) rfl (by rfl) (by decide) rfl (fun ls hl => ?_)
          refine lv_goto (tgt := 2) hx hb dX4_copyRow_23 (by decide) ?_
          obtain rfl := Option.some.inj hs2
          exact ih2 _ _ _ _ _ hw2 hP hD hS (lv_sub hl [0, 1, 2] rfl)
  exact lp2 5000 _ _ _ _ _ hr1 hP hD hS (lv_sub hl [0, 1, 2] rfl)
def f_X4_mostLeft (p0 : Int32) (p1 : Int32) : Int32 := (if p1 < (p0 - (2 * p1)) then (p0 - (2 * p1)) else p1)
theorem yd_X4_mostLeft : yX4_mostLeft.cls ≠ "java/lang/invoke/MethodHandle" ∧ yX4_mostLeft.cls ≠ "java/lang/invoke/VarHandle" ∧ (parseMethodDescriptor yX4_mostLeft.desc).map (fun d => d.parameters.length) = some 2 := by decide +kernel
abbrev rmX4_mostLeft : Room := { frames := 1, cells := 0, slots := 0, locals := 25 }
set_option maxHeartbeats 4000000 in
set_option maxRecDepth 100000 in
theorem k_X4_mostLeft (l : Launch) (D : va_G) (K : Nat → ClassId) (p0 : Int32) (p1 : Int32) (out : Int32) (hf : f_X4_mostLeft p0 p1 = out) : kI l D K .int yX4_mostLeft wsX4_mostLeft rmX4_mostLeft [.int p0, .int p1] ([] : va_W) out ([] : va_W) := by
  refine kI.of (cc := cX4_mostLeft) (maxL := 2) (by decide) rfl (Nat.le_of_ble_eq_true rfl) ?_
  intro p e s m args below meth c A H0 Q ls hx hb hml hown hts hK hN hA hP hD hS hl hret
  have hown : s.vm.findClass RX4 = some m.cls := hown
  have hl : lv_has ls 2 [(0, .int p0), (1, .int p1)] := hl
  generalize hH : H0 = H at hP ⊢
  have hS : va_S A H0 H [] := by rw [← hH]; exact hS
  clear hH
  unfold f_X4_mostLeft at hf
  refine lv_iload_n hx hb dX4_mostLeft_0 rfl (lv_at hl 1 rfl) ?_
  refine lv_iload_n hx hb dX4_mostLeft_1 rfl (lv_at hl 0 rfl) ?_
  refine lv_iconst (v := 2) hx hb dX4_mostLeft_2 (by decide) ?_
  refine lv_iload_n hx hb dX4_mostLeft_3 rfl (lv_at hl 1 rfl) ?_
  refine lv_imul hx hb dX4_mostLeft_4 ?_
  refine lv_isub hx hb dX4_mostLeft_5 ?_
  refine va_mmax hx hb (hml.trans hl.1.symm) hown (hts (.methodLink RX4 223 Lib.Math.max.name) (List.mem_of_getElem? (i := 1) rfl)) (hts (.static Lib.Math.max.name) (List.mem_of_getElem? (i := 2) rfl)) (hts (.initialized "java/lang/Math") (List.mem_of_getElem? (i := 3) rfl)) (hts (.code Lib.Math.max.name Lib.Math.max.code 2 (some .int)) (List.mem_of_getElem? (i := 4) rfl)) (Nat.le_of_ble_eq_true rfl) (Nat.le_of_ble_eq_true rfl) (Nat.le_of_ble_eq_true rfl) (Nat.le_of_ble_eq_true rfl) dX4_mostLeft_6 ?_
  subst hf
  exact hret rfl rfl rfl hP hD hS dX4_mostLeft_9
def s_X4_bestEach_4 (p0 : Int32) (x : Int32 × Int32) : Option ((Int32 × Int32) ⊕ (Int32 × Int32)) := if (p0 / 2) < x.2 then (some (.inr (x.1, x.2))) else (bd (f_X4_mostLeft p0 x.2) (fun o3 => bd (f_X4_mostLeft p0 x.1) (fun o4 => if o4 ≤ o3 then (some (.inl (x.1, (x.2 + 1)))) else (some (.inl (x.2, (x.2 + 1)))))))
def f_X4_bestEach (p0 : Int32) : Option (Int32) := ob (wh (s_X4_bestEach_4 p0) 5000 (0, 1)) (fun r1 => some r1.1)
theorem yd_X4_bestEach : yX4_bestEach.cls ≠ "java/lang/invoke/MethodHandle" ∧ yX4_bestEach.cls ≠ "java/lang/invoke/VarHandle" ∧ (parseMethodDescriptor yX4_bestEach.desc).map (fun d => d.parameters.length) = some 1 := by decide +kernel
abbrev rmX4_bestEach : Room := { frames := 2, cells := 0, slots := 0, locals := 46 }
set_option maxHeartbeats 4000000 in
set_option maxRecDepth 100000 in
theorem k_X4_bestEach (l : Launch) (D : va_G) (K : Nat → ClassId) (p0 : Int32) (out : Int32) (hf : f_X4_bestEach p0 = some out) : kI l D K .int yX4_bestEach wsX4_bestEach rmX4_bestEach [.int p0] ([] : va_W) out ([] : va_W) := by
  refine kI.of (cc := cX4_bestEach) (maxL := 3) (by decide) rfl (Nat.le_of_ble_eq_true rfl) ?_
  intro p e s m args below meth c A H0 Q ls hx hb hml hown hts hK hN hA hP hD hS hl hret
  have hown : s.vm.findClass RX4 = some m.cls := hown
  have hl : lv_has ls 3 [(0, .int p0)] := hl
  generalize hH : H0 = H at hP ⊢
  have hS : va_S A H0 H [] := by rw [← hH]; exact hS
  clear hH
  unfold f_X4_bestEach at hf
  refine lv_iconst (v := 0) hx hb dX4_bestEach_0 (by decide) ?_
  refine lv_istore_n (lv' := [(1, .int 0), (0, .int p0)]) hx hb dX4_bestEach_1 rfl hl (by decide) rfl (fun ls hl => ?_)
  refine lv_iconst (v := 1) hx hb dX4_bestEach_2 (by decide) ?_
  refine lv_istore_n (lv' := [(2, .int 1), (1, .int 0), (0, .int p0)]) hx hb dX4_bestEach_3 rfl hl (by decide) rfl (fun ls hl => ?_)
  obtain ⟨r1, hr1, hf⟩ := ob_el hf
  have post4 : ∀ (e4_l1 : Int32) (e4_l2 : Int32) (H : Heap) (locs : List Loc) (ls : Array Slot), (some e4_l1) = some out → va_P D vwCl ([] : va_W) H → va_D A ([] : va_W) → va_S A H0 H locs → lv_has ls 3 [(2, .int e4_l2), (1, .int e4_l1), (0, .int p0)] → W p l e rmX4_bestEach s m args below meth c H locs 0 0 Q (F0 m 32 ls []) := by
    intro e4_l1 e4_l2 H locs ls hf hP hD hS hl
    refine lv_iload_n hx hb dX4_bestEach_32 rfl (lv_at hl 1 rfl) ?_
    obtain rfl := Option.some.inj hf
    exact hret rfl rfl rfl hP hD hS dX4_bestEach_33
  have lp4 : ∀ (n : Nat) (x4_l1 : Int32) (x4_l2 : Int32) (H : Heap) (locs : List Loc) (ls : Array Slot), wh (s_X4_bestEach_4 p0) n (x4_l1, x4_l2) = some r1 → va_P D vwCl ([] : va_W) H → va_D A ([] : va_W) → va_S A H0 H locs → lv_has ls 3 [(2, .int x4_l2), (1, .int x4_l1), (0, .int p0)] → W p l e rmX4_bestEach s m args below meth c H locs 0 0 Q (F0 m 4 ls []) := by
    intro n
    induction n with
    | zero => intro x4_l1 x4_l2 H locs ls hw4; cases hw4
    | succ n ih4 =>
      intro x4_l1 x4_l2 H locs ls hw4 hP hD hS hl
      obtain ⟨o4_, hs4, hw4⟩ := wh_el hw4
      unfold s_X4_bestEach_4 at hs4
      dsimp only at hs4
      refine lv_iload_n hx hb dX4_bestEach_4 rfl (lv_at hl 0 rfl) ?_
      refine lv_iload_n hx hb dX4_bestEach_5 rfl (lv_at hl 2 rfl) ?_
      refine lv_iconst (v := 2) hx hb dX4_bestEach_6 (by decide) ?_
      refine lv_idiv hx hb dX4_bestEach_7 (by decide) ?_
      refine lv_icmp_gt (tgt := 32) hx hb dX4_bestEach_8 (by decide) (fun c2 => ?_) (fun c2 => ?_)
      · rw [if_pos c2] at hs4
        obtain rfl := Option.some.inj hs4
        have e9 := Option.some.inj hw4
        rw [← e9] at hf
        exact post4 _ _ _ _ _ hf hP hD hS (lv_sub hl [0, 1, 2] rfl)
      · rw [if_neg c2] at hs4
        refine lv_iload_n hx hb dX4_bestEach_11 rfl (lv_at hl 2 rfl) ?_
        refine lv_iload_n hx hb dX4_bestEach_12 rfl (lv_at hl 0 rfl) ?_
        obtain ⟨o3, ho3, hs4⟩ := bd_el hs4
        refine kc0_i (D := D) (va_runS (As := [.int p0, .int x4_l2]) (rest := []) ⟨hx, hb, hml, hown, hts⟩ ((k_X4_mostLeft l D K p0 x4_l2 o3 ho3) H.size) (va_cwS 2 hts gX4_bestEach_X4_mostLeft rfl rfl rfl yd_X4_mostLeft ⟨Nat.le_of_ble_eq_true rfl, Nat.le_of_ble_eq_true rfl⟩) (kPreS va_P_nil (va_D_nil (A := fun _ => True)) hK hN) rfl rfl hl.1 rfl (lv_room (Nat.le_of_ble_eq_true rfl)) dX4_bestEach_13 ⟨Nat.le_of_ble_eq_true rfl, Nat.le_of_ble_eq_true rfl⟩) hP hS hA (fun hzo3 H locs hP hS => ?_)
        refine lv_iload_n hx hb dX4_bestEach_16 rfl (lv_at hl 2 rfl) ?_
        refine lv_iload_n hx hb dX4_bestEach_17 rfl (lv_at hl 1 rfl) ?_
        obtain ⟨o4, ho4, hs4⟩ := bd_el hs4
        refine kc0_i (D := D) (va_runS (As := [.int p0, .int x4_l1]) (rest := [.int o3]) ⟨hx, hb, hml, hown, hts⟩ ((k_X4_mostLeft l D K p0 x4_l1 o4 ho4) H.size) (va_cwS 2 hts gX4_bestEach_X4_mostLeft rfl rfl rfl yd_X4_mostLeft ⟨Nat.le_of_ble_eq_true rfl, Nat.le_of_ble_eq_true rfl⟩) (kPreS va_P_nil (va_D_nil (A := fun _ => True)) hK hN) rfl rfl hl.1 rfl (lv_room (Nat.le_of_ble_eq_true rfl)) dX4_bestEach_18 ⟨Nat.le_of_ble_eq_true rfl, Nat.le_of_ble_eq_true rfl⟩) hP hS hA (fun hzo4 H locs hP hS => ?_)
        refine lv_icmp_ge (tgt := 26) hx hb dX4_bestEach_21 (by decide) (fun c5 => ?_) (fun c5 => ?_)
        · rw [if_pos c5] at hs4
          refine lv_iinc (v := (x4_l2 + 1)) (lv' := [(2, .int (x4_l2 + 1)), (1, .int x4_l1), (0, .int p0)]) hx hb dX4_bestEach_26 hl (k := 0) rfl (by rfl) (by decide) rfl (fun ls hl => ?_)
          refine lv_goto (tgt := 4) hx hb dX4_bestEach_29 (by decide) ?_
          obtain rfl := Option.some.inj hs4
          exact ih4 _ _ _ _ _ hw4 hP hD hS (lv_sub hl [0, 1, 2] rfl)
        · rw [if_neg c5] at hs4
          refine lv_iload_n hx hb dX4_bestEach_24 rfl (lv_at hl 0 rfl) ?_
          refine lv_istore_n (lv' := [(1, .int x4_l2), (2, .int x4_l2), (0, .int p0)]) hx hb dX4_bestEach_25 rfl hl (by decide) rfl (fun ls hl => ?_)
          refine lv_iinc (v := (x4_l2 + 1)) (lv' := [(2, .int (x4_l2 + 1)), (1, .int x4_l2), (0, .int p0)]) hx hb dX4_bestEach_26 hl (k := 1) rfl (by rfl) (by decide) rfl (fun ls hl => ?_)
          refine lv_goto (tgt := 4) hx hb dX4_bestEach_29 (by decide) ?_
          obtain rfl := Option.some.inj hs4
          exact ih4 _ _ _ _ _ hw4 hP hD hS (lv_sub hl [0, 1, 2] rfl)
  exact lp4 5000 _ _ _ _ _ hr1 hP hD hS (lv_sub hl [0, 1, 2] rfl)
def s_X4_fewestWeighings_4 (p0 : Int32) (x : Int32 × Int32) : Option ((Int32 × Int32) ⊕ (Int32 × Int32)) := if p0 ≤ x.1 then (some (.inr (x.1, x.2))) else (if 12 ≤ x.2 then (some (.inr (x.1, x.2))) else (some (.inl ((x.1 * 3), (x.2 + 1)))))
def f_X4_fewestWeighings (p0 : Int32) : Option (Int32) := ob (wh (s_X4_fewestWeighings_4 p0) 5000 (1, 0)) (fun r1 => some r1.2)
theorem yd_X4_fewestWeighings : yX4_fewestWeighings.cls ≠ "java/lang/invoke/MethodHandle" ∧ yX4_fewestWeighings.cls ≠ "java/lang/invoke/VarHandle" ∧ (parseMethodDescriptor yX4_fewestWeighings.desc).map (fun d => d.parameters.length) = some 1 := by decide +kernel
abbrev rmX4_fewestWeighings : Room := { frames := 0, cells := 0, slots := 0, locals := 0 }
set_option maxHeartbeats 4000000 in
set_option maxRecDepth 100000 in
theorem k_X4_fewestWeighings (l : Launch) (D : va_G) (K : Nat → ClassId) (p0 : Int32) (out : Int32) (hf : f_X4_fewestWeighings p0 = some out) : kI l D K .int yX4_fewestWeighings wsX4_fewestWeighings rmX4_fewestWeighings [.int p0] ([] : va_W) out ([] : va_W) := by
  refine kI.of (cc := cX4_fewestWeighings) (maxL := 3) (by decide) rfl (Nat.le_of_ble_eq_true rfl) ?_
  intro p e s m args below meth c A H0 Q ls hx hb hml hown hts hK hN hA hP hD hS hl hret
  have hown : s.vm.findClass RX4 = some m.cls := hown
  have hl : lv_has ls 3 [(0, .int p0)] := hl
  generalize hH : H0 = H at hP ⊢
  have hS : va_S A H0 H [] := by rw [← hH]; exact hS
  clear hH
  unfold f_X4_fewestWeighings at hf
  refine lv_iconst (v := 1) hx hb dX4_fewestWeighings_0 (by decide) ?_
  refine lv_istore_n (lv' := [(1, .int 1), (0, .int p0)]) hx hb dX4_fewestWeighings_1 rfl hl (by decide) rfl (fun ls hl => ?_)
  refine lv_iconst (v := 0) hx hb dX4_fewestWeighings_2 (by decide) ?_
  refine lv_istore_n (lv' := [(2, .int 0), (1, .int 1), (0, .int p0)]) hx hb dX4_fewestWeighings_3 rfl hl (by decide) rfl (fun ls hl => ?_)
  obtain ⟨r1, hr1, hf⟩ := ob_el hf
  have post4 : ∀ (e4_l1 : Int32) (e4_l2 : Int32) (H : Heap) (locs : List Loc) (ls : Array Slot), (some e4_l2) = some out → va_P D vwCl ([] : va_W) H → va_D A ([] : va_W) → va_S A H0 H locs → lv_has ls 3 [(2, .int e4_l2), (1, .int e4_l1), (0, .int p0)] → W p l e rmX4_fewestWeighings s m args below meth c H locs 0 0 Q (F0 m 25 ls []) := by
    intro e4_l1 e4_l2 H locs ls hf hP hD hS hl
    refine lv_iload_n hx hb dX4_fewestWeighings_25 rfl (lv_at hl 0 rfl) ?_
    obtain rfl := Option.some.inj hf
    exact hret rfl rfl rfl hP hD hS dX4_fewestWeighings_26
  have lp4 : ∀ (n : Nat) (x4_l1 : Int32) (x4_l2 : Int32) (H : Heap) (locs : List Loc) (ls : Array Slot), wh (s_X4_fewestWeighings_4 p0) n (x4_l1, x4_l2) = some r1 → va_P D vwCl ([] : va_W) H → va_D A ([] : va_W) → va_S A H0 H locs → lv_has ls 3 [(2, .int x4_l2), (1, .int x4_l1), (0, .int p0)] → W p l e rmX4_fewestWeighings s m args below meth c H locs 0 0 Q (F0 m 4 ls []) := by
    intro n
    induction n with
    | zero => intro x4_l1 x4_l2 H locs ls hw4; cases hw4
    | succ n ih4 =>
      intro x4_l1 x4_l2 H locs ls hw4 hP hD hS hl
      obtain ⟨o4_, hs4, hw4⟩ := wh_el hw4
      unfold s_X4_fewestWeighings_4 at hs4
      dsimp only at hs4
      refine lv_iload_n hx hb dX4_fewestWeighings_4 rfl (lv_at hl 1 rfl) ?_
      refine lv_iload_n hx hb dX4_fewestWeighings_5 rfl (lv_at hl 2 rfl) ?_
      refine lv_icmp_ge (tgt := 25) hx hb dX4_fewestWeighings_6 (by decide) (fun c2 => ?_) (fun c2 => ?_)
      · rw [if_pos c2] at hs4
        obtain rfl := Option.some.inj hs4
        have e9 := Option.some.inj hw4
        rw [← e9] at hf
        exact post4 _ _ _ _ _ hf hP hD hS (lv_sub hl [0, 1, 2] rfl)
      · rw [if_neg c2] at hs4
        refine lv_iload_n hx hb dX4_fewestWeighings_9 rfl (lv_at hl 0 rfl) ?_
        refine lv_bipush (v := 12) hx hb dX4_fewestWeighings_10 (by decide) ?_
        refine lv_icmp_ge (tgt := 25) hx hb dX4_fewestWeighings_12 (by decide) (fun c3 => ?_) (fun c3 => ?_)
        · rw [if_pos c3] at hs4
          obtain rfl := Option.some.inj hs4
          have e9 := Option.some.inj hw4
          rw [← e9] at hf
          exact post4 _ _ _ _ _ hf hP hD hS (lv_sub hl [0, 1, 2] rfl)
        · rw [if_neg c3] at hs4
          refine lv_iload_n hx hb dX4_fewestWeighings_15 rfl (lv_at hl 1 rfl) ?_
          refine lv_iconst (v := 3) hx hb dX4_fewestWeighings_16 (by decide) ?_
          refine lv_imul hx hb dX4_fewestWeighings_17 ?_
          refine lv_istore_n (lv' := [(1, .int (x4_l1 * 3)), (2, .int x4_l2), (0, .int p0)]) hx hb dX4_fewestWeighings_18 rfl hl (by decide) rfl (fun ls hl => ?_)
          refine lv_iinc (v := (x4_l2 + 1)) (lv' := [(2, .int (x4_l2 + 1)), (1, .int (x4_l1 * 3)), (0, .int p0)]) hx hb dX4_fewestWeighings_19 hl (k := 1) rfl (by rfl) (by decide) rfl (fun ls hl => ?_)
          refine lv_goto (tgt := 4) hx hb dX4_fewestWeighings_22 (by decide) ?_
          obtain rfl := Option.some.inj hs4
          exact ih4 _ _ _ _ _ hw4 hP hD hS (lv_sub hl [0, 1, 2] rfl)
  exact lp4 5000 _ _ _ _ _ hr1 hP hD hS (lv_sub hl [0, 1, 2] rfl)
def f_X2_begin : Int32 × Int32 := (0, 0)
theorem inX2_begin_X2 : ∀ w ∈ wsX20, w ∈ wsX2_begin := fun w h => List.mem_cons_of_mem _ (List.mem_append_right _ h)
theorem yd_X2_begin : yX2_begin.cls ≠ "java/lang/invoke/MethodHandle" ∧ yX2_begin.cls ≠ "java/lang/invoke/VarHandle" ∧ (parseMethodDescriptor yX2_begin.desc).map (fun d => d.parameters.length) = some 0 := by decide +kernel
abbrev rmX2_begin : Room := { frames := 0, cells := 0, slots := 0, locals := 0 }
set_option maxHeartbeats 4000000 in
set_option maxRecDepth 100000 in
theorem k_X2_begin (l : Launch) (D : va_G) (K : Nat → ClassId) (aw : Nat) (vrwst : Int32) (vrwln : Int32) (out : Int32 × Int32) (hf : f_X2_begin = out) : kV l D K yX2_begin wsX2_begin rmX2_begin [.ref aw] (rwW aw vrwst vrwln) (rwW aw out.1 out.2) := by
  refine kV.of (cc := cX2_begin) (maxL := 1) (by decide) rfl (Nat.le_of_ble_eq_true rfl) ?_
  intro p e s m args below meth c A H0 Q ls hx hb hml hown hts hK hN hA hP hD hS hl hret
  have hown : s.vm.findClass RX2 = some m.cls := hown
  have hl : lv_has ls 1 [(0, .ref aw)] := hl
  generalize hH : H0 = H at hP ⊢
  have hS : va_S A H0 H [] := by rw [← hH]; exact hS
  clear hH
  unfold f_X2_begin at hf
  refine lv_aload_n hx hb dX2_begin_0 rfl (lv_at hl 0 rfl) ?_
  refine lv_iconst (v := 0) hx hb dX2_begin_1 (by decide) ?_
  refine va_put (D := D) (ci := 2) (v := .int 0) (ty := .int) (C := RX2) (T := TX2) (N := 2) hx hb hts inX2_begin_X2 tyX2 tyX2_ok nmX2 hown hK hP hD hS 0 rfl rfl 0 (by decide) (hts (.fieldLink RX2 11 "WordScales$Row" "stage" "I") (List.mem_of_getElem? (i := 1) rfl)) (fun _ h9 => h9) rfl (tyX2_ok 0 (by decide)) rfl rfl (Nat.le_of_ble_eq_true rfl) dX2_begin_2 (fun H locs hP hD hS => ?_)
  have hP : va_P D vwCl (rwW aw 0 vrwln) H := hP
  have hD : va_D A (rwW aw 0 vrwln) := hD
  refine lv_aload_n hx hb dX2_begin_5 rfl (lv_at hl 0 rfl) ?_
  refine lv_iconst (v := 0) hx hb dX2_begin_6 (by decide) ?_
  refine va_put (D := D) (ci := 2) (v := .int 0) (ty := .int) (C := RX2) (T := TX2) (N := 2) hx hb hts inX2_begin_X2 tyX2 tyX2_ok nmX2 hown hK hP hD hS 0 rfl rfl 1 (by decide) (hts (.fieldLink RX2 15 "WordScales$Row" "length" "I") (List.mem_of_getElem? (i := 2) rfl)) (fun _ h9 => h9) rfl (tyX2_ok 1 (by decide)) rfl rfl (Nat.le_of_ble_eq_true rfl) dX2_begin_7 (fun H locs hP hD hS => ?_)
  have hP : va_P D vwCl (rwW aw 0 0) H := hP
  have hD : va_D A (rwW aw 0 0) := hD
  subst hf
  exact hret rfl hP hD hS dX2_begin_10
def f_X2_stageBehind (vrwst : Int32) (p0 : Int32) : Int32 := if vrwst = 0 then (if p0 = 2 then (0) else (if p0 = 0 then (1) else (5))) else (if vrwst = 1 then (if p0 = 1 then (2) else (5)) else (if vrwst = 2 then (if p0 = 2 then (3) else (if p0 = 0 then (4) else (5))) else (if vrwst = 3 then (if p0 = 2 then (3) else (if p0 = 0 then (4) else (5))) else (5))))
theorem inX2_stageBehind_X2 : ∀ w ∈ wsX20, w ∈ wsX2_stageBehind := fun w h => List.mem_cons_of_mem _ (List.mem_append_right _ h)
theorem yd_X2_stageBehind : yX2_stageBehind.cls ≠ "java/lang/invoke/MethodHandle" ∧ yX2_stageBehind.cls ≠ "java/lang/invoke/VarHandle" ∧ (parseMethodDescriptor yX2_stageBehind.desc).map (fun d => d.parameters.length) = some 1 := by decide +kernel
abbrev rmX2_stageBehind : Room := { frames := 0, cells := 0, slots := 0, locals := 0 }
set_option maxHeartbeats 4000000 in
set_option maxRecDepth 100000 in
theorem k_X2_stageBehind (l : Launch) (D : va_G) (K : Nat → ClassId) (aw : Nat) (vrwst : Int32) (vrwln : Int32) (p0 : Int32) (out : Int32) (hf : f_X2_stageBehind vrwst p0 = out) : kI l D K .int yX2_stageBehind wsX2_stageBehind rmX2_stageBehind [.ref aw, .int p0] (rwW aw vrwst vrwln) out (rwW aw vrwst vrwln) := by
  refine kI.of (cc := cX2_stageBehind) (maxL := 2) (by decide) rfl (Nat.le_of_ble_eq_true rfl) ?_
  intro p e s m args below meth c A H0 Q ls hx hb hml hown hts hK hN hA hP hD hS hl hret
  have hown : s.vm.findClass RX2 = some m.cls := hown
  have hl : lv_has ls 2 [(0, .ref aw), (1, .int p0)] := hl
  generalize hH : H0 = H at hP ⊢
  have hS : va_S A H0 H [] := by rw [← hH]; exact hS
  clear hH
  unfold f_X2_stageBehind at hf
  refine lv_aload_n hx hb dX2_stageBehind_0 rfl (lv_at hl 0 rfl) ?_
  refine va_get (D := D) (ci := 2) (v := .int vrwst) (C := RX2) (T := TX2) (N := 2) hx hb hts inX2_stageBehind_X2 hown hK hP 0 rfl rfl 0 (by decide) (hts (.fieldLink RX2 11 "WordScales$Row" "stage" "I") (List.mem_of_getElem? (i := 1) rfl)) (fun _ h9 => h9) rfl dX2_stageBehind_1 ?_
  refine lv_tab4 (t0 := 36) (t1 := 53) (t2 := 64) (t3 := 64) (td := 81) hx hb dX2_stageBehind_4 (by decide) (by decide) (by decide) (by decide) (by decide) (fun c1 => ?_) (fun c1 c2 => ?_) (fun c1 c2 c3 => ?_) (fun c1 c2 c3 c4 => ?_) (fun c1 c2 c3 c4 => ?_)
  · rw [if_pos c1] at hf
    refine lv_iload_n hx hb dX2_stageBehind_36 rfl (lv_at hl 1 rfl) ?_
    refine lv_iconst (v := 2) hx hb dX2_stageBehind_37 (by decide) ?_
    refine lv_icmp_ne (tgt := 43) hx hb dX2_stageBehind_38 (by decide) (fun c5 => ?_) (fun c5 => ?_)
    · rw [if_neg c5] at hf
      refine lv_iload_n hx hb dX2_stageBehind_43 rfl (lv_at hl 1 rfl) ?_
      refine lv_if_ne (tgt := 51) hx hb dX2_stageBehind_44 (by decide) (fun c6 => ?_) (fun c6 => ?_)
      · rw [if_neg c6] at hf
        refine lv_iconst (v := 5) hx hb dX2_stageBehind_51 (by decide) ?_
        subst hf
        exact hret rfl rfl rfl hP hD hS dX2_stageBehind_52
      · rw [if_pos c6] at hf
        refine lv_iconst (v := 1) hx hb dX2_stageBehind_47 (by decide) ?_
        refine lv_goto (tgt := 52) hx hb dX2_stageBehind_48 (by decide) ?_
        subst hf
        exact hret rfl rfl rfl hP hD hS dX2_stageBehind_52
    · rw [if_pos c5] at hf
      refine lv_iconst (v := 0) hx hb dX2_stageBehind_41 (by decide) ?_
      subst hf
      exact hret rfl rfl rfl hP hD hS dX2_stageBehind_42
  · rw [if_neg c1, if_pos c2] at hf
    refine lv_iload_n hx hb dX2_stageBehind_53 rfl (lv_at hl 1 rfl) ?_
    refine lv_iconst (v := 1) hx hb dX2_stageBehind_54 (by decide) ?_
    refine lv_icmp_ne (tgt := 62) hx hb dX2_stageBehind_55 (by decide) (fun c7 => ?_) (fun c7 => ?_)
    · rw [if_neg c7] at hf
      refine lv_iconst (v := 5) hx hb dX2_stageBehind_62 (by decide) ?_
      subst hf
      exact hret rfl rfl rfl hP hD hS dX2_stageBehind_63
    · rw [if_pos c7] at hf
      refine lv_iconst (v := 2) hx hb dX2_stageBehind_58 (by decide) ?_
      refine lv_goto (tgt := 63) hx hb dX2_stageBehind_59 (by decide) ?_
      subst hf
      exact hret rfl rfl rfl hP hD hS dX2_stageBehind_63
  · rw [if_neg c1, if_neg c2, if_pos c3] at hf
    refine lv_iload_n hx hb dX2_stageBehind_64 rfl (lv_at hl 1 rfl) ?_
    refine lv_iconst (v := 2) hx hb dX2_stageBehind_65 (by decide) ?_
    refine lv_icmp_ne (tgt := 71) hx hb dX2_stageBehind_66 (by decide) (fun c8 => ?_) (fun c8 => ?_)
    · rw [if_neg c8] at hf
      refine lv_iload_n hx hb dX2_stageBehind_71 rfl (lv_at hl 1 rfl) ?_
      refine lv_if_ne (tgt := 79) hx hb dX2_stageBehind_72 (by decide) (fun c9 => ?_) (fun c9 => ?_)
      · rw [if_neg c9] at hf
        refine lv_iconst (v := 5) hx hb dX2_stageBehind_79 (by decide) ?_
        subst hf
        exact hret rfl rfl rfl hP hD hS dX2_stageBehind_80
      · rw [if_pos c9] at hf
        refine lv_iconst (v := 4) hx hb dX2_stageBehind_75 (by decide) ?_
        refine lv_goto (tgt := 80) hx hb dX2_stageBehind_76 (by decide) ?_
        subst hf
        exact hret rfl rfl rfl hP hD hS dX2_stageBehind_80
    · rw [if_pos c8] at hf
      refine lv_iconst (v := 3) hx hb dX2_stageBehind_69 (by decide) ?_
      subst hf
      exact hret rfl rfl rfl hP hD hS dX2_stageBehind_70
  · rw [if_neg c1, if_neg c2, if_neg c3, if_pos c4] at hf
    refine lv_iload_n hx hb dX2_stageBehind_64 rfl (lv_at hl 1 rfl) ?_
    refine lv_iconst (v := 2) hx hb dX2_stageBehind_65 (by decide) ?_
    refine lv_icmp_ne (tgt := 71) hx hb dX2_stageBehind_66 (by decide) (fun c10 => ?_) (fun c10 => ?_)
    · rw [if_neg c10] at hf
      refine lv_iload_n hx hb dX2_stageBehind_71 rfl (lv_at hl 1 rfl) ?_
      refine lv_if_ne (tgt := 79) hx hb dX2_stageBehind_72 (by decide) (fun c11 => ?_) (fun c11 => ?_)
      · rw [if_neg c11] at hf
        refine lv_iconst (v := 5) hx hb dX2_stageBehind_79 (by decide) ?_
        subst hf
        exact hret rfl rfl rfl hP hD hS dX2_stageBehind_80
      · rw [if_pos c11] at hf
        refine lv_iconst (v := 4) hx hb dX2_stageBehind_75 (by decide) ?_
        refine lv_goto (tgt := 80) hx hb dX2_stageBehind_76 (by decide) ?_
        subst hf
        exact hret rfl rfl rfl hP hD hS dX2_stageBehind_80
    · rw [if_pos c10] at hf
      refine lv_iconst (v := 3) hx hb dX2_stageBehind_69 (by decide) ?_
      subst hf
      exact hret rfl rfl rfl hP hD hS dX2_stageBehind_70
  · rw [if_neg c1, if_neg c2, if_neg c3, if_neg c4] at hf
    refine lv_iconst (v := 5) hx hb dX2_stageBehind_81 (by decide) ?_
    subst hf
    exact hret rfl rfl rfl hP hD hS dX2_stageBehind_82
def f_X2_add (vrwst : Int32) (vrwln : Int32) (p0 : Int32) : Int32 × Int32 := bd (f_X2_stageBehind vrwst p0) (fun o1 => (o1, (vrwln + 1)))
theorem inX2_add_X2 : ∀ w ∈ wsX20, w ∈ wsX2_add := fun w h => List.mem_cons_of_mem _ (List.mem_append_right _ h)
theorem yd_X2_add : yX2_add.cls ≠ "java/lang/invoke/MethodHandle" ∧ yX2_add.cls ≠ "java/lang/invoke/VarHandle" ∧ (parseMethodDescriptor yX2_add.desc).map (fun d => d.parameters.length) = some 1 := by decide +kernel
abbrev rmX2_add : Room := { frames := 1, cells := 0, slots := 0, locals := 21 }
set_option maxHeartbeats 4000000 in
set_option maxRecDepth 100000 in
theorem k_X2_add (l : Launch) (D : va_G) (K : Nat → ClassId) (aw : Nat) (vrwst : Int32) (vrwln : Int32) (p0 : Int32) (out : Int32 × Int32) (hf : f_X2_add vrwst vrwln p0 = out) : kV l D K yX2_add wsX2_add rmX2_add [.ref aw, .int p0] (rwW aw vrwst vrwln) (rwW aw out.1 out.2) := by
  refine kV.of (cc := cX2_add) (maxL := 2) (by decide) rfl (Nat.le_of_ble_eq_true rfl) ?_
  intro p e s m args below meth c A H0 Q ls hx hb hml hown hts hK hN hA hP hD hS hl hret
  have hown : s.vm.findClass RX2 = some m.cls := hown
  have hl : lv_has ls 2 [(0, .ref aw), (1, .int p0)] := hl
  generalize hH : H0 = H at hP ⊢
  have hS : va_S A H0 H [] := by rw [← hH]; exact hS
  clear hH
  unfold f_X2_add at hf
  refine lv_aload_n hx hb dX2_add_0 rfl (lv_at hl 0 rfl) ?_
  refine lv_aload_n hx hb dX2_add_1 rfl (lv_at hl 0 rfl) ?_
  refine lv_iload_n hx hb dX2_add_2 rfl (lv_at hl 1 rfl) ?_
  obtain ⟨o1, ho1, hf⟩ := bd_el hf
  refine kcw_i (D := D) (va_runV (As := [.int p0]) (rest := [.ref aw]) ⟨hx, hb, hml, hown, hts⟩ ((k_X2_stageBehind l D K aw vrwst vrwln p0 o1 ho1) H.size) (cwV 1 hts gX2_add_X2_stageBehind rfl rfl rfl ⟨rfl, yd_X2_stageBehind⟩ ⟨Nat.le_of_ble_eq_true rfl, Nat.le_of_ble_eq_true rfl⟩) (kPreV (ci := 2) (q0 := 0) hP rfl rfl hP hD hK hN) rfl rfl hl.1 rfl (lv_room (Nat.le_of_ble_eq_true rfl)) dX2_add_3 ⟨Nat.le_of_ble_eq_true rfl, Nat.le_of_ble_eq_true rfl⟩) hD hS hA (fun hzo1 H locs hP hD hS => ?_)
  have hP : va_P D vwCl (rwW aw vrwst vrwln) H := hP
  have hD : va_D A (rwW aw vrwst vrwln) := hD
  refine va_put (D := D) (ci := 2) (v := .int o1) (ty := .int) (C := RX2) (T := TX2) (N := 2) hx hb hts inX2_add_X2 tyX2 tyX2_ok nmX2 hown hK hP hD hS 0 rfl rfl 0 (by decide) (hts (.fieldLink RX2 11 "WordScales$Row" "stage" "I") (List.mem_of_getElem? (i := 1) rfl)) (fun _ h9 => h9) rfl (tyX2_ok 0 (by decide)) rfl rfl (Nat.le_of_ble_eq_true rfl) dX2_add_6 (fun H locs hP hD hS => ?_)
  have hP : va_P D vwCl (rwW aw o1 vrwln) H := hP
  have hD : va_D A (rwW aw o1 vrwln) := hD
  refine lv_aload_n hx hb dX2_add_9 rfl (lv_at hl 0 rfl) ?_
  refine lv_dup hx hb dX2_add_10 rfl ?_
  refine va_get (D := D) (ci := 2) (v := .int vrwln) (C := RX2) (T := TX2) (N := 2) hx hb hts inX2_add_X2 hown hK hP 0 rfl rfl 1 (by decide) (hts (.fieldLink RX2 15 "WordScales$Row" "length" "I") (List.mem_of_getElem? (i := 2) rfl)) (fun _ h9 => h9) rfl dX2_add_11 ?_
  refine lv_iconst (v := 1) hx hb dX2_add_14 (by decide) ?_
  refine lv_iadd hx hb dX2_add_15 ?_
  refine va_put (D := D) (ci := 2) (v := .int (vrwln + 1)) (ty := .int) (C := RX2) (T := TX2) (N := 2) hx hb hts inX2_add_X2 tyX2 tyX2_ok nmX2 hown hK hP hD hS 0 rfl rfl 1 (by decide) (hts (.fieldLink RX2 15 "WordScales$Row" "length" "I") (List.mem_of_getElem? (i := 2) rfl)) (fun _ h9 => h9) rfl (tyX2_ok 1 (by decide)) rfl rfl (Nat.le_of_ble_eq_true rfl) dX2_add_16 (fun H locs hP hD hS => ?_)
  have hP : va_P D vwCl (rwW aw o1 (vrwln + 1)) H := hP
  have hD : va_D A (rwW aw o1 (vrwln + 1)) := hD
  subst hf
  exact hret rfl hP hD hS dX2_add_19
def f_X2_isSentence (vrwst : Int32) : Int32 := if vrwst = 2 then (1) else (if vrwst = 4 then (1) else (0))
theorem inX2_isSentence_X2 : ∀ w ∈ wsX20, w ∈ wsX2_isSentence := fun w h => List.mem_cons_of_mem _ (List.mem_append_right _ h)
theorem yd_X2_isSentence : yX2_isSentence.cls ≠ "java/lang/invoke/MethodHandle" ∧ yX2_isSentence.cls ≠ "java/lang/invoke/VarHandle" ∧ (parseMethodDescriptor yX2_isSentence.desc).map (fun d => d.parameters.length) = some 0 := by decide +kernel
abbrev rmX2_isSentence : Room := { frames := 0, cells := 0, slots := 0, locals := 0 }
set_option maxHeartbeats 4000000 in
set_option maxRecDepth 100000 in
theorem k_X2_isSentence (l : Launch) (D : va_G) (K : Nat → ClassId) (aw : Nat) (vrwst : Int32) (vrwln : Int32) (out : Int32) (hf : f_X2_isSentence vrwst = out) : kI l D K .boolean yX2_isSentence wsX2_isSentence rmX2_isSentence [.ref aw] (rwW aw vrwst vrwln) out (rwW aw vrwst vrwln) := by
  refine kI.of (cc := cX2_isSentence) (maxL := 1) (by decide) rfl (Nat.le_of_ble_eq_true rfl) ?_
  intro p e s m args below meth c A H0 Q ls hx hb hml hown hts hK hN hA hP hD hS hl hret
  have hown : s.vm.findClass RX2 = some m.cls := hown
  have hl : lv_has ls 1 [(0, .ref aw)] := hl
  generalize hH : H0 = H at hP ⊢
  have hS : va_S A H0 H [] := by rw [← hH]; exact hS
  clear hH
  unfold f_X2_isSentence at hf
  refine lv_aload_n hx hb dX2_isSentence_0 rfl (lv_at hl 0 rfl) ?_
  refine va_get (D := D) (ci := 2) (v := .int vrwst) (C := RX2) (T := TX2) (N := 2) hx hb hts inX2_isSentence_X2 hown hK hP 0 rfl rfl 0 (by decide) (hts (.fieldLink RX2 11 "WordScales$Row" "stage" "I") (List.mem_of_getElem? (i := 1) rfl)) (fun _ h9 => h9) rfl dX2_isSentence_1 ?_
  refine lv_iconst (v := 2) hx hb dX2_isSentence_4 (by decide) ?_
  refine lv_icmp_eq (tgt := 16) hx hb dX2_isSentence_5 (by decide) (fun c1 => ?_) (fun c1 => ?_)
  · rw [if_pos c1] at hf
    refine lv_iconst (v := 1) hx hb dX2_isSentence_16 (by decide) ?_
    refine lv_goto (tgt := 21) hx hb dX2_isSentence_17 (by decide) ?_
    subst hf
    exact hret rfl rfl rfl hP hD hS dX2_isSentence_21
  · rw [if_neg c1] at hf
    refine lv_aload_n hx hb dX2_isSentence_8 rfl (lv_at hl 0 rfl) ?_
    refine va_get (D := D) (ci := 2) (v := .int vrwst) (C := RX2) (T := TX2) (N := 2) hx hb hts inX2_isSentence_X2 hown hK hP 0 rfl rfl 0 (by decide) (hts (.fieldLink RX2 11 "WordScales$Row" "stage" "I") (List.mem_of_getElem? (i := 1) rfl)) (fun _ h9 => h9) rfl dX2_isSentence_9 ?_
    refine lv_iconst (v := 4) hx hb dX2_isSentence_12 (by decide) ?_
    refine lv_icmp_ne (tgt := 20) hx hb dX2_isSentence_13 (by decide) (fun c2 => ?_) (fun c2 => ?_)
    · rw [if_neg c2] at hf
      refine lv_iconst (v := 0) hx hb dX2_isSentence_20 (by decide) ?_
      subst hf
      exact hret rfl rfl rfl hP hD hS dX2_isSentence_21
    · rw [if_pos c2] at hf
      refine lv_iconst (v := 1) hx hb dX2_isSentence_16 (by decide) ?_
      refine lv_goto (tgt := 21) hx hb dX2_isSentence_17 (by decide) ?_
      subst hf
      exact hret rfl rfl rfl hP hD hS dX2_isSentence_21
def f_X0_begin : Int32 := 0
theorem inX0_begin_X0 : ∀ w ∈ wsX00, w ∈ wsX0_begin := fun w h => List.mem_cons_of_mem _ (List.mem_append_right _ h)
theorem yd_X0_begin : yX0_begin.cls ≠ "java/lang/invoke/MethodHandle" ∧ yX0_begin.cls ≠ "java/lang/invoke/VarHandle" ∧ (parseMethodDescriptor yX0_begin.desc).map (fun d => d.parameters.length) = some 0 := by decide +kernel
abbrev rmX0_begin : Room := { frames := 0, cells := 0, slots := 0, locals := 0 }
set_option maxHeartbeats 4000000 in
set_option maxRecDepth 100000 in
theorem k_X0_begin (l : Launch) (D : va_G) (K : Nat → ClassId) (ar : Nat) (vrdaw : Int32) (vrdac : Int32) (vrdsp : Int32) (vrdwo : Int32) (vrdot : Int32) (out : Int32) (hf : f_X0_begin = out) : kV l D K yX0_begin wsX0_begin rmX0_begin [.ref ar] (rdW ar vrdaw vrdac vrdsp vrdwo vrdot) (rdW ar out vrdac vrdsp vrdwo vrdot) := by
  refine kV.of (cc := cX0_begin) (maxL := 1) (by decide) rfl (Nat.le_of_ble_eq_true rfl) ?_
  intro p e s m args below meth c A H0 Q ls hx hb hml hown hts hK hN hA hP hD hS hl hret
  have hown : s.vm.findClass RX0 = some m.cls := hown
  have hl : lv_has ls 1 [(0, .ref ar)] := hl
  generalize hH : H0 = H at hP ⊢
  have hS : va_S A H0 H [] := by rw [← hH]; exact hS
  clear hH
  unfold f_X0_begin at hf
  refine lv_aload_n hx hb dX0_begin_0 rfl (lv_at hl 0 rfl) ?_
  refine lv_iconst (v := 0) hx hb dX0_begin_1 (by decide) ?_
  refine va_put (D := D) (ci := 0) (v := .int 0) (ty := .int) (C := RX0) (T := TX0) (N := 5) hx hb hts inX0_begin_X0 tyX0 tyX0_ok nmX0 hown hK hP hD hS 0 rfl rfl 0 (by decide) (hts (.fieldLink RX0 11 "WordScales$ActReader" "awaited" "I") (List.mem_of_getElem? (i := 1) rfl)) (fun _ h9 => h9) rfl (tyX0_ok 0 (by decide)) rfl rfl (Nat.le_of_ble_eq_true rfl) dX0_begin_2 (fun H locs hP hD hS => ?_)
  have hP : va_P D vwCl (rdW ar 0 vrdac vrdsp vrdwo vrdot) H := hP
  have hD : va_D A (rdW ar 0 vrdac vrdsp vrdwo vrdot) := hD
  subst hf
  exact hret rfl hP hD hS dX0_begin_5
def f_X0_isBetweenActs (vrdaw : Int32) : Int32 := if vrdaw = 0 then (1) else (0)
theorem inX0_isBetweenActs_X0 : ∀ w ∈ wsX00, w ∈ wsX0_isBetweenActs := fun w h => List.mem_cons_of_mem _ (List.mem_append_right _ h)
theorem yd_X0_isBetweenActs : yX0_isBetweenActs.cls ≠ "java/lang/invoke/MethodHandle" ∧ yX0_isBetweenActs.cls ≠ "java/lang/invoke/VarHandle" ∧ (parseMethodDescriptor yX0_isBetweenActs.desc).map (fun d => d.parameters.length) = some 0 := by decide +kernel
abbrev rmX0_isBetweenActs : Room := { frames := 0, cells := 0, slots := 0, locals := 0 }
set_option maxHeartbeats 4000000 in
set_option maxRecDepth 100000 in
theorem k_X0_isBetweenActs (l : Launch) (D : va_G) (K : Nat → ClassId) (ar : Nat) (vrdaw : Int32) (vrdac : Int32) (vrdsp : Int32) (vrdwo : Int32) (vrdot : Int32) (out : Int32) (hf : f_X0_isBetweenActs vrdaw = out) : kI l D K .boolean yX0_isBetweenActs wsX0_isBetweenActs rmX0_isBetweenActs [.ref ar] (rdW ar vrdaw vrdac vrdsp vrdwo vrdot) out (rdW ar vrdaw vrdac vrdsp vrdwo vrdot) := by
  refine kI.of (cc := cX0_isBetweenActs) (maxL := 1) (by decide) rfl (Nat.le_of_ble_eq_true rfl) ?_
  intro p e s m args below meth c A H0 Q ls hx hb hml hown hts hK hN hA hP hD hS hl hret
  have hown : s.vm.findClass RX0 = some m.cls := hown
  have hl : lv_has ls 1 [(0, .ref ar)] := hl
  generalize hH : H0 = H at hP ⊢
  have hS : va_S A H0 H [] := by rw [← hH]; exact hS
  clear hH
  unfold f_X0_isBetweenActs at hf
  refine lv_aload_n hx hb dX0_isBetweenActs_0 rfl (lv_at hl 0 rfl) ?_
  refine va_get (D := D) (ci := 0) (v := .int vrdaw) (C := RX0) (T := TX0) (N := 5) hx hb hts inX0_isBetweenActs_X0 hown hK hP 0 rfl rfl 0 (by decide) (hts (.fieldLink RX0 11 "WordScales$ActReader" "awaited" "I") (List.mem_of_getElem? (i := 1) rfl)) (fun _ h9 => h9) rfl dX0_isBetweenActs_1 ?_
  refine lv_if_ne (tgt := 11) hx hb dX0_isBetweenActs_4 (by decide) (fun c1 => ?_) (fun c1 => ?_)
  · rw [if_neg c1] at hf
    refine lv_iconst (v := 0) hx hb dX0_isBetweenActs_11 (by decide) ?_
    subst hf
    exact hret rfl rfl rfl hP hD hS dX0_isBetweenActs_12
  · rw [if_pos c1] at hf
    refine lv_iconst (v := 1) hx hb dX0_isBetweenActs_7 (by decide) ?_
    refine lv_goto (tgt := 12) hx hb dX0_isBetweenActs_8 (by decide) ?_
    subst hf
    exact hret rfl rfl rfl hP hD hS dX0_isBetweenActs_12
def f_X0_takeDot (vrdac : Int32) (p0 : Int32) : Int32 × Int32 := if p0 = 46 then ((1, 4)) else ((0, vrdac))
theorem inX0_takeDot_X0 : ∀ w ∈ wsX00, w ∈ wsX0_takeDot := fun w h => List.mem_cons_of_mem _ (List.mem_append_right _ h)
theorem yd_X0_takeDot : yX0_takeDot.cls ≠ "java/lang/invoke/MethodHandle" ∧ yX0_takeDot.cls ≠ "java/lang/invoke/VarHandle" ∧ (parseMethodDescriptor yX0_takeDot.desc).map (fun d => d.parameters.length) = some 1 := by decide +kernel
abbrev rmX0_takeDot : Room := { frames := 0, cells := 0, slots := 0, locals := 0 }
set_option maxHeartbeats 4000000 in
set_option maxRecDepth 100000 in
theorem k_X0_takeDot (l : Launch) (D : va_G) (K : Nat → ClassId) (ar : Nat) (vrdaw : Int32) (vrdac : Int32) (vrdsp : Int32) (vrdwo : Int32) (vrdot : Int32) (p0 : Int32) (out : Int32 × Int32) (hf : f_X0_takeDot vrdac p0 = out) : kI l D K .boolean yX0_takeDot wsX0_takeDot rmX0_takeDot [.ref ar, .int p0] (rdW ar vrdaw vrdac vrdsp vrdwo vrdot) out.1 (rdW ar vrdaw out.2 vrdsp vrdwo vrdot) := by
  refine kI.of (cc := cX0_takeDot) (maxL := 2) (by decide) rfl (Nat.le_of_ble_eq_true rfl) ?_
  intro p e s m args below meth c A H0 Q ls hx hb hml hown hts hK hN hA hP hD hS hl hret
  have hown : s.vm.findClass RX0 = some m.cls := hown
  have hl : lv_has ls 2 [(0, .ref ar), (1, .int p0)] := hl
  generalize hH : H0 = H at hP ⊢
  have hS : va_S A H0 H [] := by rw [← hH]; exact hS
  clear hH
  unfold f_X0_takeDot at hf
  refine lv_iload_n hx hb dX0_takeDot_0 rfl (lv_at hl 1 rfl) ?_
  refine lv_bipush (v := 46) hx hb dX0_takeDot_1 (by decide) ?_
  refine lv_icmp_eq (tgt := 8) hx hb dX0_takeDot_3 (by decide) (fun c1 => ?_) (fun c1 => ?_)
  · rw [if_pos c1] at hf
    refine lv_aload_n hx hb dX0_takeDot_8 rfl (lv_at hl 0 rfl) ?_
    refine lv_iconst (v := 4) hx hb dX0_takeDot_9 (by decide) ?_
    refine va_put (D := D) (ci := 0) (v := .int 4) (ty := .int) (C := RX0) (T := TX0) (N := 5) hx hb hts inX0_takeDot_X0 tyX0 tyX0_ok nmX0 hown hK hP hD hS 0 rfl rfl 1 (by decide) (hts (.fieldLink RX0 15 "WordScales$ActReader" "act" "I") (List.mem_of_getElem? (i := 1) rfl)) (fun _ h9 => h9) rfl (tyX0_ok 1 (by decide)) rfl rfl (Nat.le_of_ble_eq_true rfl) dX0_takeDot_10 (fun H locs hP hD hS => ?_)
    have hP : va_P D vwCl (rdW ar vrdaw 4 vrdsp vrdwo vrdot) H := hP
    have hD : va_D A (rdW ar vrdaw 4 vrdsp vrdwo vrdot) := hD
    refine lv_iconst (v := 1) hx hb dX0_takeDot_13 (by decide) ?_
    subst hf
    exact hret rfl rfl rfl hP hD hS dX0_takeDot_14
  · rw [if_neg c1] at hf
    refine lv_iconst (v := 0) hx hb dX0_takeDot_6 (by decide) ?_
    subst hf
    exact hret rfl rfl rfl hP hD hS dX0_takeDot_7
def f_X0_takeSpeaker (vrdaw : Int32) (vrdac : Int32) (vrdsp : Int32) (p0 : Int32) : Int32 × Int32 × Int32 × Int32 := bd (f_X4_isSpeaker (p0 - 65)) (fun o1 => if o1 = 0 then ((0, vrdaw, vrdac, vrdsp)) else ((1, 1, 2, (p0 - 65))))
theorem inX0_takeSpeaker_X0 : ∀ w ∈ wsX00, w ∈ wsX0_takeSpeaker := fun w h => List.mem_cons_of_mem _ (List.mem_append_right _ h)
theorem yd_X0_takeSpeaker : yX0_takeSpeaker.cls ≠ "java/lang/invoke/MethodHandle" ∧ yX0_takeSpeaker.cls ≠ "java/lang/invoke/VarHandle" ∧ (parseMethodDescriptor yX0_takeSpeaker.desc).map (fun d => d.parameters.length) = some 1 := by decide +kernel
abbrev rmX0_takeSpeaker : Room := { frames := 2, cells := 0, slots := 0, locals := 42 }
set_option maxHeartbeats 4000000 in
set_option maxRecDepth 100000 in
theorem k_X0_takeSpeaker (l : Launch) (D : va_G) (K : Nat → ClassId) (ar : Nat) (vrdaw : Int32) (vrdac : Int32) (vrdsp : Int32) (vrdwo : Int32) (vrdot : Int32) (p0 : Int32) (out : Int32 × Int32 × Int32 × Int32) (hf : f_X0_takeSpeaker vrdaw vrdac vrdsp p0 = out) : kI l D K .boolean yX0_takeSpeaker wsX0_takeSpeaker rmX0_takeSpeaker [.ref ar, .int p0] (rdW ar vrdaw vrdac vrdsp vrdwo vrdot) out.1 (rdW ar out.2.1 out.2.2.1 out.2.2.2 vrdwo vrdot) := by
  refine kI.of (cc := cX0_takeSpeaker) (maxL := 2) (by decide) rfl (Nat.le_of_ble_eq_true rfl) ?_
  intro p e s m args below meth c A H0 Q ls hx hb hml hown hts hK hN hA hP hD hS hl hret
  have hown : s.vm.findClass RX0 = some m.cls := hown
  have hl : lv_has ls 2 [(0, .ref ar), (1, .int p0)] := hl
  generalize hH : H0 = H at hP ⊢
  have hS : va_S A H0 H [] := by rw [← hH]; exact hS
  clear hH
  unfold f_X0_takeSpeaker at hf
  refine lv_iload_n hx hb dX0_takeSpeaker_0 rfl (lv_at hl 1 rfl) ?_
  refine lv_bipush (v := 65) hx hb dX0_takeSpeaker_1 (by decide) ?_
  refine lv_isub hx hb dX0_takeSpeaker_3 ?_
  obtain ⟨o1, ho1, hf⟩ := bd_el hf
  refine kc0_i (D := D) (va_runSN (As := [.int (p0 - 65)]) (rest := []) ⟨hx, hb, hml, hown, hts⟩ ((k_X4_isSpeaker l D K (p0 - 65) o1 ho1) H.size) ⟨va_cnB 1 hts gX0_takeSpeaker_X4_isSpeaker_n43 rfl rfl rfl (hN _ (List.mem_of_getElem? (i := 42) rfl)) (hts (.initialized RX4) (List.mem_of_getElem? (i := 5) rfl)) yd_X4_isSpeaker ⟨Nat.le_of_ble_eq_true rfl, Nat.le_of_ble_eq_true rfl⟩, (hts (.static yX4_isSpeaker) (List.mem_of_getElem? (i := 4) rfl)), trivial⟩ (kPreS va_P_nil (va_D_nil (A := fun _ => True)) hK hN) rfl rfl hl.1 rfl (lv_room (Nat.le_of_ble_eq_true rfl)) dX0_takeSpeaker_4 ⟨Nat.le_of_ble_eq_true rfl, Nat.le_of_ble_eq_true rfl⟩) hP hS hA (fun hzo1 H locs hP hS => ?_)
  refine lv_if_ne (tgt := 12) hx hb dX0_takeSpeaker_7 (by decide) (fun c2 => ?_) (fun c2 => ?_)
  · rw [if_neg c2] at hf
    refine lv_aload_n hx hb dX0_takeSpeaker_12 rfl (lv_at hl 0 rfl) ?_
    refine lv_iload_n hx hb dX0_takeSpeaker_13 rfl (lv_at hl 1 rfl) ?_
    refine lv_bipush (v := 65) hx hb dX0_takeSpeaker_14 (by decide) ?_
    refine lv_isub hx hb dX0_takeSpeaker_16 ?_
    refine va_put (D := D) (ci := 0) (v := .int (p0 - 65)) (ty := .int) (C := RX0) (T := TX0) (N := 5) hx hb hts inX0_takeSpeaker_X0 tyX0 tyX0_ok nmX0 hown hK hP hD hS 0 rfl rfl 2 (by decide) (hts (.fieldLink RX0 18 "WordScales$ActReader" "speaker" "I") (List.mem_of_getElem? (i := 1) rfl)) (fun _ h9 => h9) rfl (tyX0_ok 2 (by decide)) rfl rfl (Nat.le_of_ble_eq_true rfl) dX0_takeSpeaker_17 (fun H locs hP hD hS => ?_)
    have hP : va_P D vwCl (rdW ar vrdaw vrdac (p0 - 65) vrdwo vrdot) H := hP
    have hD : va_D A (rdW ar vrdaw vrdac (p0 - 65) vrdwo vrdot) := hD
    refine lv_aload_n hx hb dX0_takeSpeaker_20 rfl (lv_at hl 0 rfl) ?_
    refine lv_iconst (v := 2) hx hb dX0_takeSpeaker_21 (by decide) ?_
    refine va_put (D := D) (ci := 0) (v := .int 2) (ty := .int) (C := RX0) (T := TX0) (N := 5) hx hb hts inX0_takeSpeaker_X0 tyX0 tyX0_ok nmX0 hown hK hP hD hS 0 rfl rfl 1 (by decide) (hts (.fieldLink RX0 15 "WordScales$ActReader" "act" "I") (List.mem_of_getElem? (i := 2) rfl)) (fun _ h9 => h9) rfl (tyX0_ok 1 (by decide)) rfl rfl (Nat.le_of_ble_eq_true rfl) dX0_takeSpeaker_22 (fun H locs hP hD hS => ?_)
    have hP : va_P D vwCl (rdW ar vrdaw 2 (p0 - 65) vrdwo vrdot) H := hP
    have hD : va_D A (rdW ar vrdaw 2 (p0 - 65) vrdwo vrdot) := hD
    refine lv_aload_n hx hb dX0_takeSpeaker_25 rfl (lv_at hl 0 rfl) ?_
    refine lv_iconst (v := 1) hx hb dX0_takeSpeaker_26 (by decide) ?_
    refine va_put (D := D) (ci := 0) (v := .int 1) (ty := .int) (C := RX0) (T := TX0) (N := 5) hx hb hts inX0_takeSpeaker_X0 tyX0 tyX0_ok nmX0 hown hK hP hD hS 0 rfl rfl 0 (by decide) (hts (.fieldLink RX0 11 "WordScales$ActReader" "awaited" "I") (List.mem_of_getElem? (i := 3) rfl)) (fun _ h9 => h9) rfl (tyX0_ok 0 (by decide)) rfl rfl (Nat.le_of_ble_eq_true rfl) dX0_takeSpeaker_27 (fun H locs hP hD hS => ?_)
    have hP : va_P D vwCl (rdW ar 1 2 (p0 - 65) vrdwo vrdot) H := hP
    have hD : va_D A (rdW ar 1 2 (p0 - 65) vrdwo vrdot) := hD
    refine lv_iconst (v := 1) hx hb dX0_takeSpeaker_30 (by decide) ?_
    subst hf
    exact hret rfl rfl rfl hP hD hS dX0_takeSpeaker_31
  · rw [if_pos c2] at hf
    refine lv_iconst (v := 0) hx hb dX0_takeSpeaker_10 (by decide) ?_
    subst hf
    exact hret rfl rfl rfl hP hD hS dX0_takeSpeaker_11
def f_X0_takeMark (vrdaw : Int32) (vrdac : Int32) (p0 : Int32) : Int32 × Int32 × Int32 := if p0 = 43 then ((1, 3, 0)) else (if p0 = 45 then ((1, 3, 1)) else (if p0 = 62 then ((1, 2, 3)) else ((0, vrdaw, vrdac))))
theorem inX0_takeMark_X0 : ∀ w ∈ wsX00, w ∈ wsX0_takeMark := fun w h => List.mem_cons_of_mem _ (List.mem_append_right _ h)
theorem yd_X0_takeMark : yX0_takeMark.cls ≠ "java/lang/invoke/MethodHandle" ∧ yX0_takeMark.cls ≠ "java/lang/invoke/VarHandle" ∧ (parseMethodDescriptor yX0_takeMark.desc).map (fun d => d.parameters.length) = some 1 := by decide +kernel
abbrev rmX0_takeMark : Room := { frames := 0, cells := 0, slots := 0, locals := 0 }
set_option maxHeartbeats 4000000 in
set_option maxRecDepth 100000 in
theorem k_X0_takeMark (l : Launch) (D : va_G) (K : Nat → ClassId) (ar : Nat) (vrdaw : Int32) (vrdac : Int32) (vrdsp : Int32) (vrdwo : Int32) (vrdot : Int32) (p0 : Int32) (out : Int32 × Int32 × Int32) (hf : f_X0_takeMark vrdaw vrdac p0 = out) : kI l D K .boolean yX0_takeMark wsX0_takeMark rmX0_takeMark [.ref ar, .int p0] (rdW ar vrdaw vrdac vrdsp vrdwo vrdot) out.1 (rdW ar out.2.1 out.2.2 vrdsp vrdwo vrdot) := by
  refine kI.of (cc := cX0_takeMark) (maxL := 2) (by decide) rfl (Nat.le_of_ble_eq_true rfl) ?_
  intro p e s m args below meth c A H0 Q ls hx hb hml hown hts hK hN hA hP hD hS hl hret
  have hown : s.vm.findClass RX0 = some m.cls := hown
  have hl : lv_has ls 2 [(0, .ref ar), (1, .int p0)] := hl
  generalize hH : H0 = H at hP ⊢
  have hS : va_S A H0 H [] := by rw [← hH]; exact hS
  clear hH
  unfold f_X0_takeMark at hf
  refine lv_iload_n hx hb dX0_takeMark_0 rfl (lv_at hl 1 rfl) ?_
  refine lv_look3 (t0 := 36) (t1 := 48) (t2 := 60) (td := 72) hx hb dX0_takeMark_1 (by decide) (by decide) (by decide) (by decide) (fun c1 => ?_) (fun c1 c2 => ?_) (fun c1 c2 c3 => ?_) (fun c1 c2 c3 => ?_)
  · rw [if_pos c1] at hf
    refine lv_aload_n hx hb dX0_takeMark_36 rfl (lv_at hl 0 rfl) ?_
    refine lv_iconst (v := 0) hx hb dX0_takeMark_37 (by decide) ?_
    refine va_put (D := D) (ci := 0) (v := .int 0) (ty := .int) (C := RX0) (T := TX0) (N := 5) hx hb hts inX0_takeMark_X0 tyX0 tyX0_ok nmX0 hown hK hP hD hS 0 rfl rfl 1 (by decide) (hts (.fieldLink RX0 15 "WordScales$ActReader" "act" "I") (List.mem_of_getElem? (i := 1) rfl)) (fun _ h9 => h9) rfl (tyX0_ok 1 (by decide)) rfl rfl (Nat.le_of_ble_eq_true rfl) dX0_takeMark_38 (fun H locs hP hD hS => ?_)
    have hP : va_P D vwCl (rdW ar vrdaw 0 vrdsp vrdwo vrdot) H := hP
    have hD : va_D A (rdW ar vrdaw 0 vrdsp vrdwo vrdot) := hD
    refine lv_aload_n hx hb dX0_takeMark_41 rfl (lv_at hl 0 rfl) ?_
    refine lv_iconst (v := 3) hx hb dX0_takeMark_42 (by decide) ?_
    refine va_put (D := D) (ci := 0) (v := .int 3) (ty := .int) (C := RX0) (T := TX0) (N := 5) hx hb hts inX0_takeMark_X0 tyX0 tyX0_ok nmX0 hown hK hP hD hS 0 rfl rfl 0 (by decide) (hts (.fieldLink RX0 11 "WordScales$ActReader" "awaited" "I") (List.mem_of_getElem? (i := 2) rfl)) (fun _ h9 => h9) rfl (tyX0_ok 0 (by decide)) rfl rfl (Nat.le_of_ble_eq_true rfl) dX0_takeMark_43 (fun H locs hP hD hS => ?_)
    have hP : va_P D vwCl (rdW ar 3 0 vrdsp vrdwo vrdot) H := hP
    have hD : va_D A (rdW ar 3 0 vrdsp vrdwo vrdot) := hD
    refine lv_iconst (v := 1) hx hb dX0_takeMark_46 (by decide) ?_
    subst hf
    exact hret rfl rfl rfl hP hD hS dX0_takeMark_47
  · rw [if_neg c1, if_pos c2] at hf
    refine lv_aload_n hx hb dX0_takeMark_48 rfl (lv_at hl 0 rfl) ?_
    refine lv_iconst (v := 1) hx hb dX0_takeMark_49 (by decide) ?_
    refine va_put (D := D) (ci := 0) (v := .int 1) (ty := .int) (C := RX0) (T := TX0) (N := 5) hx hb hts inX0_takeMark_X0 tyX0 tyX0_ok nmX0 hown hK hP hD hS 0 rfl rfl 1 (by decide) (hts (.fieldLink RX0 15 "WordScales$ActReader" "act" "I") (List.mem_of_getElem? (i := 1) rfl)) (fun _ h9 => h9) rfl (tyX0_ok 1 (by decide)) rfl rfl (Nat.le_of_ble_eq_true rfl) dX0_takeMark_50 (fun H locs hP hD hS => ?_)
    have hP : va_P D vwCl (rdW ar vrdaw 1 vrdsp vrdwo vrdot) H := hP
    have hD : va_D A (rdW ar vrdaw 1 vrdsp vrdwo vrdot) := hD
    refine lv_aload_n hx hb dX0_takeMark_53 rfl (lv_at hl 0 rfl) ?_
    refine lv_iconst (v := 3) hx hb dX0_takeMark_54 (by decide) ?_
    refine va_put (D := D) (ci := 0) (v := .int 3) (ty := .int) (C := RX0) (T := TX0) (N := 5) hx hb hts inX0_takeMark_X0 tyX0 tyX0_ok nmX0 hown hK hP hD hS 0 rfl rfl 0 (by decide) (hts (.fieldLink RX0 11 "WordScales$ActReader" "awaited" "I") (List.mem_of_getElem? (i := 2) rfl)) (fun _ h9 => h9) rfl (tyX0_ok 0 (by decide)) rfl rfl (Nat.le_of_ble_eq_true rfl) dX0_takeMark_55 (fun H locs hP hD hS => ?_)
    have hP : va_P D vwCl (rdW ar 3 1 vrdsp vrdwo vrdot) H := hP
    have hD : va_D A (rdW ar 3 1 vrdsp vrdwo vrdot) := hD
    refine lv_iconst (v := 1) hx hb dX0_takeMark_58 (by decide) ?_
    subst hf
    exact hret rfl rfl rfl hP hD hS dX0_takeMark_59
  · rw [if_neg c1, if_neg c2, if_pos c3] at hf
    refine lv_aload_n hx hb dX0_takeMark_60 rfl (lv_at hl 0 rfl) ?_
    refine lv_iconst (v := 3) hx hb dX0_takeMark_61 (by decide) ?_
    refine va_put (D := D) (ci := 0) (v := .int 3) (ty := .int) (C := RX0) (T := TX0) (N := 5) hx hb hts inX0_takeMark_X0 tyX0 tyX0_ok nmX0 hown hK hP hD hS 0 rfl rfl 1 (by decide) (hts (.fieldLink RX0 15 "WordScales$ActReader" "act" "I") (List.mem_of_getElem? (i := 1) rfl)) (fun _ h9 => h9) rfl (tyX0_ok 1 (by decide)) rfl rfl (Nat.le_of_ble_eq_true rfl) dX0_takeMark_62 (fun H locs hP hD hS => ?_)
    have hP : va_P D vwCl (rdW ar vrdaw 3 vrdsp vrdwo vrdot) H := hP
    have hD : va_D A (rdW ar vrdaw 3 vrdsp vrdwo vrdot) := hD
    refine lv_aload_n hx hb dX0_takeMark_65 rfl (lv_at hl 0 rfl) ?_
    refine lv_iconst (v := 2) hx hb dX0_takeMark_66 (by decide) ?_
    refine va_put (D := D) (ci := 0) (v := .int 2) (ty := .int) (C := RX0) (T := TX0) (N := 5) hx hb hts inX0_takeMark_X0 tyX0 tyX0_ok nmX0 hown hK hP hD hS 0 rfl rfl 0 (by decide) (hts (.fieldLink RX0 11 "WordScales$ActReader" "awaited" "I") (List.mem_of_getElem? (i := 2) rfl)) (fun _ h9 => h9) rfl (tyX0_ok 0 (by decide)) rfl rfl (Nat.le_of_ble_eq_true rfl) dX0_takeMark_67 (fun H locs hP hD hS => ?_)
    have hP : va_P D vwCl (rdW ar 2 3 vrdsp vrdwo vrdot) H := hP
    have hD : va_D A (rdW ar 2 3 vrdsp vrdwo vrdot) := hD
    refine lv_iconst (v := 1) hx hb dX0_takeMark_70 (by decide) ?_
    subst hf
    exact hret rfl rfl rfl hP hD hS dX0_takeMark_71
  · rw [if_neg c1, if_neg c2, if_neg c3] at hf
    refine lv_iconst (v := 0) hx hb dX0_takeMark_72 (by decide) ?_
    subst hf
    exact hret rfl rfl rfl hP hD hS dX0_takeMark_73
def f_X0_takeOther (vrdaw : Int32) (vrdot : Int32) (p0 : Int32) : Int32 × Int32 × Int32 := bd (f_X4_isSpeaker (p0 - 65)) (fun o1 => if o1 = 0 then ((0, vrdaw, vrdot)) else ((1, 3, (p0 - 65))))
theorem inX0_takeOther_X0 : ∀ w ∈ wsX00, w ∈ wsX0_takeOther := fun w h => List.mem_cons_of_mem _ (List.mem_append_right _ h)
theorem yd_X0_takeOther : yX0_takeOther.cls ≠ "java/lang/invoke/MethodHandle" ∧ yX0_takeOther.cls ≠ "java/lang/invoke/VarHandle" ∧ (parseMethodDescriptor yX0_takeOther.desc).map (fun d => d.parameters.length) = some 1 := by decide +kernel
abbrev rmX0_takeOther : Room := { frames := 2, cells := 0, slots := 0, locals := 42 }
set_option maxHeartbeats 4000000 in
set_option maxRecDepth 100000 in
theorem k_X0_takeOther (l : Launch) (D : va_G) (K : Nat → ClassId) (ar : Nat) (vrdaw : Int32) (vrdac : Int32) (vrdsp : Int32) (vrdwo : Int32) (vrdot : Int32) (p0 : Int32) (out : Int32 × Int32 × Int32) (hf : f_X0_takeOther vrdaw vrdot p0 = out) : kI l D K .boolean yX0_takeOther wsX0_takeOther rmX0_takeOther [.ref ar, .int p0] (rdW ar vrdaw vrdac vrdsp vrdwo vrdot) out.1 (rdW ar out.2.1 vrdac vrdsp vrdwo out.2.2) := by
  refine kI.of (cc := cX0_takeOther) (maxL := 2) (by decide) rfl (Nat.le_of_ble_eq_true rfl) ?_
  intro p e s m args below meth c A H0 Q ls hx hb hml hown hts hK hN hA hP hD hS hl hret
  have hown : s.vm.findClass RX0 = some m.cls := hown
  have hl : lv_has ls 2 [(0, .ref ar), (1, .int p0)] := hl
  generalize hH : H0 = H at hP ⊢
  have hS : va_S A H0 H [] := by rw [← hH]; exact hS
  clear hH
  unfold f_X0_takeOther at hf
  refine lv_iload_n hx hb dX0_takeOther_0 rfl (lv_at hl 1 rfl) ?_
  refine lv_bipush (v := 65) hx hb dX0_takeOther_1 (by decide) ?_
  refine lv_isub hx hb dX0_takeOther_3 ?_
  obtain ⟨o1, ho1, hf⟩ := bd_el hf
  refine kc0_i (D := D) (va_runSN (As := [.int (p0 - 65)]) (rest := []) ⟨hx, hb, hml, hown, hts⟩ ((k_X4_isSpeaker l D K (p0 - 65) o1 ho1) H.size) ⟨va_cnB 1 hts gX0_takeOther_X4_isSpeaker_n43 rfl rfl rfl (hN _ (List.mem_of_getElem? (i := 42) rfl)) (hts (.initialized RX4) (List.mem_of_getElem? (i := 4) rfl)) yd_X4_isSpeaker ⟨Nat.le_of_ble_eq_true rfl, Nat.le_of_ble_eq_true rfl⟩, (hts (.static yX4_isSpeaker) (List.mem_of_getElem? (i := 3) rfl)), trivial⟩ (kPreS va_P_nil (va_D_nil (A := fun _ => True)) hK hN) rfl rfl hl.1 rfl (lv_room (Nat.le_of_ble_eq_true rfl)) dX0_takeOther_4 ⟨Nat.le_of_ble_eq_true rfl, Nat.le_of_ble_eq_true rfl⟩) hP hS hA (fun hzo1 H locs hP hS => ?_)
  refine lv_if_ne (tgt := 12) hx hb dX0_takeOther_7 (by decide) (fun c2 => ?_) (fun c2 => ?_)
  · rw [if_neg c2] at hf
    refine lv_aload_n hx hb dX0_takeOther_12 rfl (lv_at hl 0 rfl) ?_
    refine lv_iload_n hx hb dX0_takeOther_13 rfl (lv_at hl 1 rfl) ?_
    refine lv_bipush (v := 65) hx hb dX0_takeOther_14 (by decide) ?_
    refine lv_isub hx hb dX0_takeOther_16 ?_
    refine va_put (D := D) (ci := 0) (v := .int (p0 - 65)) (ty := .int) (C := RX0) (T := TX0) (N := 5) hx hb hts inX0_takeOther_X0 tyX0 tyX0_ok nmX0 hown hK hP hD hS 0 rfl rfl 4 (by decide) (hts (.fieldLink RX0 24 "WordScales$ActReader" "other" "I") (List.mem_of_getElem? (i := 1) rfl)) (fun _ h9 => h9) rfl (tyX0_ok 4 (by decide)) rfl rfl (Nat.le_of_ble_eq_true rfl) dX0_takeOther_17 (fun H locs hP hD hS => ?_)
    have hP : va_P D vwCl (rdW ar vrdaw vrdac vrdsp vrdwo (p0 - 65)) H := hP
    have hD : va_D A (rdW ar vrdaw vrdac vrdsp vrdwo (p0 - 65)) := hD
    refine lv_aload_n hx hb dX0_takeOther_20 rfl (lv_at hl 0 rfl) ?_
    refine lv_iconst (v := 3) hx hb dX0_takeOther_21 (by decide) ?_
    refine va_put (D := D) (ci := 0) (v := .int 3) (ty := .int) (C := RX0) (T := TX0) (N := 5) hx hb hts inX0_takeOther_X0 tyX0 tyX0_ok nmX0 hown hK hP hD hS 0 rfl rfl 0 (by decide) (hts (.fieldLink RX0 11 "WordScales$ActReader" "awaited" "I") (List.mem_of_getElem? (i := 2) rfl)) (fun _ h9 => h9) rfl (tyX0_ok 0 (by decide)) rfl rfl (Nat.le_of_ble_eq_true rfl) dX0_takeOther_22 (fun H locs hP hD hS => ?_)
    have hP : va_P D vwCl (rdW ar 3 vrdac vrdsp vrdwo (p0 - 65)) H := hP
    have hD : va_D A (rdW ar 3 vrdac vrdsp vrdwo (p0 - 65)) := hD
    refine lv_iconst (v := 1) hx hb dX0_takeOther_25 (by decide) ?_
    subst hf
    exact hret rfl rfl rfl hP hD hS dX0_takeOther_26
  · rw [if_pos c2] at hf
    refine lv_iconst (v := 0) hx hb dX0_takeOther_10 (by decide) ?_
    subst hf
    exact hret rfl rfl rfl hP hD hS dX0_takeOther_11
def f_X0_takeWord (vrdaw : Int32) (vrdwo : Int32) (p0 : Int32) : Int32 × Int32 × Int32 := bd (f_X4_isWord (p0 - 97)) (fun o1 => if o1 = 0 then ((0, vrdaw, vrdwo)) else ((1, 0, (p0 - 97))))
theorem inX0_takeWord_X0 : ∀ w ∈ wsX00, w ∈ wsX0_takeWord := fun w h => List.mem_cons_of_mem _ (List.mem_append_right _ h)
theorem yd_X0_takeWord : yX0_takeWord.cls ≠ "java/lang/invoke/MethodHandle" ∧ yX0_takeWord.cls ≠ "java/lang/invoke/VarHandle" ∧ (parseMethodDescriptor yX0_takeWord.desc).map (fun d => d.parameters.length) = some 1 := by decide +kernel
abbrev rmX0_takeWord : Room := { frames := 2, cells := 0, slots := 0, locals := 42 }
set_option maxHeartbeats 4000000 in
set_option maxRecDepth 100000 in
theorem k_X0_takeWord (l : Launch) (D : va_G) (K : Nat → ClassId) (ar : Nat) (vrdaw : Int32) (vrdac : Int32) (vrdsp : Int32) (vrdwo : Int32) (vrdot : Int32) (p0 : Int32) (out : Int32 × Int32 × Int32) (hf : f_X0_takeWord vrdaw vrdwo p0 = out) : kI l D K .boolean yX0_takeWord wsX0_takeWord rmX0_takeWord [.ref ar, .int p0] (rdW ar vrdaw vrdac vrdsp vrdwo vrdot) out.1 (rdW ar out.2.1 vrdac vrdsp out.2.2 vrdot) := by
  refine kI.of (cc := cX0_takeWord) (maxL := 2) (by decide) rfl (Nat.le_of_ble_eq_true rfl) ?_
  intro p e s m args below meth c A H0 Q ls hx hb hml hown hts hK hN hA hP hD hS hl hret
  have hown : s.vm.findClass RX0 = some m.cls := hown
  have hl : lv_has ls 2 [(0, .ref ar), (1, .int p0)] := hl
  generalize hH : H0 = H at hP ⊢
  have hS : va_S A H0 H [] := by rw [← hH]; exact hS
  clear hH
  unfold f_X0_takeWord at hf
  refine lv_iload_n hx hb dX0_takeWord_0 rfl (lv_at hl 1 rfl) ?_
  refine lv_bipush (v := 97) hx hb dX0_takeWord_1 (by decide) ?_
  refine lv_isub hx hb dX0_takeWord_3 ?_
  obtain ⟨o1, ho1, hf⟩ := bd_el hf
  refine kc0_i (D := D) (va_runSN (As := [.int (p0 - 97)]) (rest := []) ⟨hx, hb, hml, hown, hts⟩ ((k_X4_isWord l D K (p0 - 97) o1 ho1) H.size) ⟨va_cnB 1 hts gX0_takeWord_X4_isWord_n46 rfl rfl rfl (hN _ (List.mem_of_getElem? (i := 43) rfl)) (hts (.initialized RX4) (List.mem_of_getElem? (i := 4) rfl)) yd_X4_isWord ⟨Nat.le_of_ble_eq_true rfl, Nat.le_of_ble_eq_true rfl⟩, (hts (.static yX4_isWord) (List.mem_of_getElem? (i := 3) rfl)), trivial⟩ (kPreS va_P_nil (va_D_nil (A := fun _ => True)) hK hN) rfl rfl hl.1 rfl (lv_room (Nat.le_of_ble_eq_true rfl)) dX0_takeWord_4 ⟨Nat.le_of_ble_eq_true rfl, Nat.le_of_ble_eq_true rfl⟩) hP hS hA (fun hzo1 H locs hP hS => ?_)
  refine lv_if_ne (tgt := 12) hx hb dX0_takeWord_7 (by decide) (fun c2 => ?_) (fun c2 => ?_)
  · rw [if_neg c2] at hf
    refine lv_aload_n hx hb dX0_takeWord_12 rfl (lv_at hl 0 rfl) ?_
    refine lv_iload_n hx hb dX0_takeWord_13 rfl (lv_at hl 1 rfl) ?_
    refine lv_bipush (v := 97) hx hb dX0_takeWord_14 (by decide) ?_
    refine lv_isub hx hb dX0_takeWord_16 ?_
    refine va_put (D := D) (ci := 0) (v := .int (p0 - 97)) (ty := .int) (C := RX0) (T := TX0) (N := 5) hx hb hts inX0_takeWord_X0 tyX0 tyX0_ok nmX0 hown hK hP hD hS 0 rfl rfl 3 (by decide) (hts (.fieldLink RX0 21 "WordScales$ActReader" "word" "I") (List.mem_of_getElem? (i := 1) rfl)) (fun _ h9 => h9) rfl (tyX0_ok 3 (by decide)) rfl rfl (Nat.le_of_ble_eq_true rfl) dX0_takeWord_17 (fun H locs hP hD hS => ?_)
    have hP : va_P D vwCl (rdW ar vrdaw vrdac vrdsp (p0 - 97) vrdot) H := hP
    have hD : va_D A (rdW ar vrdaw vrdac vrdsp (p0 - 97) vrdot) := hD
    refine lv_aload_n hx hb dX0_takeWord_20 rfl (lv_at hl 0 rfl) ?_
    refine lv_iconst (v := 0) hx hb dX0_takeWord_21 (by decide) ?_
    refine va_put (D := D) (ci := 0) (v := .int 0) (ty := .int) (C := RX0) (T := TX0) (N := 5) hx hb hts inX0_takeWord_X0 tyX0 tyX0_ok nmX0 hown hK hP hD hS 0 rfl rfl 0 (by decide) (hts (.fieldLink RX0 11 "WordScales$ActReader" "awaited" "I") (List.mem_of_getElem? (i := 2) rfl)) (fun _ h9 => h9) rfl (tyX0_ok 0 (by decide)) rfl rfl (Nat.le_of_ble_eq_true rfl) dX0_takeWord_22 (fun H locs hP hD hS => ?_)
    have hP : va_P D vwCl (rdW ar 0 vrdac vrdsp (p0 - 97) vrdot) H := hP
    have hD : va_D A (rdW ar 0 vrdac vrdsp (p0 - 97) vrdot) := hD
    refine lv_iconst (v := 1) hx hb dX0_takeWord_25 (by decide) ?_
    subst hf
    exact hret rfl rfl rfl hP hD hS dX0_takeWord_26
  · rw [if_pos c2] at hf
    refine lv_iconst (v := 0) hx hb dX0_takeWord_10 (by decide) ?_
    subst hf
    exact hret rfl rfl rfl hP hD hS dX0_takeWord_11
def f_X0_take (vrdaw : Int32) (vrdac : Int32) (vrdsp : Int32) (vrdwo : Int32) (vrdot : Int32) (p0 : Int32) : Int32 × Int32 × Int32 × Int32 × Int32 × Int32 := if vrdaw = 0 then (bd (f_X0_takeDot vrdac p0) (fun o4 => if o4.1 = 0 then (bd (f_X0_takeSpeaker vrdaw o4.2 vrdsp p0) (fun o6 => if o6.1 = 0 then ((0, o6.2.1, o6.2.2.1, o6.2.2.2, vrdwo, vrdot)) else ((1, o6.2.1, o6.2.2.1, o6.2.2.2, vrdwo, vrdot)))) else ((1, vrdaw, o4.2, vrdsp, vrdwo, vrdot)))) else (if vrdaw = 1 then (bd (f_X0_takeMark vrdaw vrdac p0) (fun o8 => if o8.1 = 0 then (bd (f_X0_takeWord o8.2.1 vrdwo p0) (fun o10 => if o10.1 = 0 then ((0, o10.2.1, o8.2.2, vrdsp, o10.2.2, vrdot)) else ((1, o10.2.1, o8.2.2, vrdsp, o10.2.2, vrdot)))) else ((1, o8.2.1, o8.2.2, vrdsp, vrdwo, vrdot)))) else (if vrdaw = 2 then (bd (f_X0_takeOther vrdaw vrdot p0) (fun o12 => (o12.1, o12.2.1, vrdac, vrdsp, vrdwo, o12.2.2))) else (bd (f_X0_takeWord vrdaw vrdwo p0) (fun o13 => (o13.1, o13.2.1, vrdac, vrdsp, o13.2.2, vrdot)))))
theorem inX0_take_X0 : ∀ w ∈ wsX00, w ∈ wsX0_take := fun w h => List.mem_cons_of_mem _ (List.mem_append_right _ h)
theorem yd_X0_take : yX0_take.cls ≠ "java/lang/invoke/MethodHandle" ∧ yX0_take.cls ≠ "java/lang/invoke/VarHandle" ∧ (parseMethodDescriptor yX0_take.desc).map (fun d => d.parameters.length) = some 1 := by decide +kernel
abbrev rmX0_take : Room := { frames := 3, cells := 0, slots := 0, locals := 63 }
set_option maxHeartbeats 4000000 in
set_option maxRecDepth 100000 in
theorem k_X0_take (l : Launch) (D : va_G) (K : Nat → ClassId) (ar : Nat) (vrdaw : Int32) (vrdac : Int32) (vrdsp : Int32) (vrdwo : Int32) (vrdot : Int32) (p0 : Int32) (out : Int32 × Int32 × Int32 × Int32 × Int32 × Int32) (hf : f_X0_take vrdaw vrdac vrdsp vrdwo vrdot p0 = out) : kI l D K .boolean yX0_take wsX0_take rmX0_take [.ref ar, .int p0] (rdW ar vrdaw vrdac vrdsp vrdwo vrdot) out.1 (rdW ar out.2.1 out.2.2.1 out.2.2.2.1 out.2.2.2.2.1 out.2.2.2.2.2) := by
  refine kI.of (cc := cX0_take) (maxL := 2) (by decide) rfl (Nat.le_of_ble_eq_true rfl) ?_
  intro p e s m args below meth c A H0 Q ls hx hb hml hown hts hK hN hA hP hD hS hl hret
  have hown : s.vm.findClass RX0 = some m.cls := hown
  have hl : lv_has ls 2 [(0, .ref ar), (1, .int p0)] := hl
  generalize hH : H0 = H at hP ⊢
  have hS : va_S A H0 H [] := by rw [← hH]; exact hS
  clear hH
  unfold f_X0_take at hf
  refine lv_aload_n hx hb dX0_take_0 rfl (lv_at hl 0 rfl) ?_
  refine va_get (D := D) (ci := 0) (v := .int vrdaw) (C := RX0) (T := TX0) (N := 5) hx hb hts inX0_take_X0 hown hK hP 0 rfl rfl 0 (by decide) (hts (.fieldLink RX0 11 "WordScales$ActReader" "awaited" "I") (List.mem_of_getElem? (i := 1) rfl)) (fun _ h9 => h9) rfl dX0_take_1 ?_
  refine lv_tab3 (t0 := 32) (t1 := 54) (t2 := 76) (td := 82) hx hb dX0_take_4 (by decide) (by decide) (by decide) (by decide) (fun c1 => ?_) (fun c1 c2 => ?_) (fun c1 c2 c3 => ?_) (fun c1 c2 c3 => ?_)
  · rw [if_pos c1] at hf
    refine lv_aload_n hx hb dX0_take_32 rfl (lv_at hl 0 rfl) ?_
    refine lv_iload_n hx hb dX0_take_33 rfl (lv_at hl 1 rfl) ?_
    obtain ⟨o4, ho4, hf⟩ := bd_el hf
    refine kcw_i (D := D) (va_runV (As := [.int p0]) (rest := []) ⟨hx, hb, hml, hown, hts⟩ ((k_X0_takeDot l D K ar vrdaw vrdac vrdsp vrdwo vrdot p0 o4 ho4) H.size) (cwV 1 hts gX0_take_X0_takeDot rfl rfl rfl ⟨rfl, yd_X0_takeDot⟩ ⟨Nat.le_of_ble_eq_true rfl, Nat.le_of_ble_eq_true rfl⟩) (kPreV (ci := 0) (q0 := 0) hP rfl rfl hP hD hK hN) rfl rfl hl.1 rfl (lv_room (Nat.le_of_ble_eq_true rfl)) dX0_take_34 ⟨Nat.le_of_ble_eq_true rfl, Nat.le_of_ble_eq_true rfl⟩) hD hS hA (fun hzo4 H locs hP hD hS => ?_)
    have hP : va_P D vwCl (rdW ar vrdaw o4.2 vrdsp vrdwo vrdot) H := hP
    have hD : va_D A (rdW ar vrdaw o4.2 vrdsp vrdwo vrdot) := hD
    refine lv_if_ne (tgt := 48) hx hb dX0_take_37 (by decide) (fun c5 => ?_) (fun c5 => ?_)
    · rw [if_neg c5] at hf
      refine lv_iconst (v := 1) hx hb dX0_take_48 (by decide) ?_
      refine lv_goto (tgt := 53) hx hb dX0_take_49 (by decide) ?_
      subst hf
      exact hret rfl rfl rfl hP hD hS dX0_take_53
    · rw [if_pos c5] at hf
      refine lv_aload_n hx hb dX0_take_40 rfl (lv_at hl 0 rfl) ?_
      refine lv_iload_n hx hb dX0_take_41 rfl (lv_at hl 1 rfl) ?_
      obtain ⟨o6, ho6, hf⟩ := bd_el hf
      refine kcw_i (D := D) (va_runV (As := [.int p0]) (rest := []) ⟨hx, hb, hml, hown, hts⟩ ((k_X0_takeSpeaker l D K ar vrdaw o4.2 vrdsp vrdwo vrdot p0 o6 ho6) H.size) (cwV 1 hts gX0_take_X0_takeSpeaker rfl rfl rfl ⟨rfl, yd_X0_takeSpeaker⟩ ⟨Nat.le_of_ble_eq_true rfl, Nat.le_of_ble_eq_true rfl⟩) (kPreV (ci := 0) (q0 := 0) hP rfl rfl hP hD hK hN) rfl rfl hl.1 rfl (lv_room (Nat.le_of_ble_eq_true rfl)) dX0_take_42 ⟨Nat.le_of_ble_eq_true rfl, Nat.le_of_ble_eq_true rfl⟩) hD hS hA (fun hzo6 H locs hP hD hS => ?_)
      have hP : va_P D vwCl (rdW ar o6.2.1 o6.2.2.1 o6.2.2.2 vrdwo vrdot) H := hP
      have hD : va_D A (rdW ar o6.2.1 o6.2.2.1 o6.2.2.2 vrdwo vrdot) := hD
      refine lv_if_eq (tgt := 52) hx hb dX0_take_45 (by decide) (fun c7 => ?_) (fun c7 => ?_)
      · rw [if_pos c7] at hf
        refine lv_iconst (v := 0) hx hb dX0_take_52 (by decide) ?_
        subst hf
        exact hret rfl rfl rfl hP hD hS dX0_take_53
      · rw [if_neg c7] at hf
        refine lv_iconst (v := 1) hx hb dX0_take_48 (by decide) ?_
        refine lv_goto (tgt := 53) hx hb dX0_take_49 (by decide) ?_
        subst hf
        exact hret rfl rfl rfl hP hD hS dX0_take_53
  · rw [if_neg c1, if_pos c2] at hf
    refine lv_aload_n hx hb dX0_take_54 rfl (lv_at hl 0 rfl) ?_
    refine lv_iload_n hx hb dX0_take_55 rfl (lv_at hl 1 rfl) ?_
    obtain ⟨o8, ho8, hf⟩ := bd_el hf
    refine kcw_i (D := D) (va_runV (As := [.int p0]) (rest := []) ⟨hx, hb, hml, hown, hts⟩ ((k_X0_takeMark l D K ar vrdaw vrdac vrdsp vrdwo vrdot p0 o8 ho8) H.size) (cwV 1 hts gX0_take_X0_takeMark rfl rfl rfl ⟨rfl, yd_X0_takeMark⟩ ⟨Nat.le_of_ble_eq_true rfl, Nat.le_of_ble_eq_true rfl⟩) (kPreV (ci := 0) (q0 := 0) hP rfl rfl hP hD hK hN) rfl rfl hl.1 rfl (lv_room (Nat.le_of_ble_eq_true rfl)) dX0_take_56 ⟨Nat.le_of_ble_eq_true rfl, Nat.le_of_ble_eq_true rfl⟩) hD hS hA (fun hzo8 H locs hP hD hS => ?_)
    have hP : va_P D vwCl (rdW ar o8.2.1 o8.2.2 vrdsp vrdwo vrdot) H := hP
    have hD : va_D A (rdW ar o8.2.1 o8.2.2 vrdsp vrdwo vrdot) := hD
    refine lv_if_ne (tgt := 70) hx hb dX0_take_59 (by decide) (fun c9 => ?_) (fun c9 => ?_)
    · rw [if_neg c9] at hf
      refine lv_iconst (v := 1) hx hb dX0_take_70 (by decide) ?_
      refine lv_goto (tgt := 75) hx hb dX0_take_71 (by decide) ?_
      subst hf
      exact hret rfl rfl rfl hP hD hS dX0_take_75
    · rw [if_pos c9] at hf
      refine lv_aload_n hx hb dX0_take_62 rfl (lv_at hl 0 rfl) ?_
      refine lv_iload_n hx hb dX0_take_63 rfl (lv_at hl 1 rfl) ?_
      obtain ⟨o10, ho10, hf⟩ := bd_el hf
      refine kcw_i (D := D) (va_runV (As := [.int p0]) (rest := []) ⟨hx, hb, hml, hown, hts⟩ ((k_X0_takeWord l D K ar o8.2.1 o8.2.2 vrdsp vrdwo vrdot p0 o10 ho10) H.size) (cwV 1 hts gX0_take_X0_takeWord rfl rfl rfl ⟨rfl, yd_X0_takeWord⟩ ⟨Nat.le_of_ble_eq_true rfl, Nat.le_of_ble_eq_true rfl⟩) (kPreV (ci := 0) (q0 := 0) hP rfl rfl hP hD hK hN) rfl rfl hl.1 rfl (lv_room (Nat.le_of_ble_eq_true rfl)) dX0_take_64 ⟨Nat.le_of_ble_eq_true rfl, Nat.le_of_ble_eq_true rfl⟩) hD hS hA (fun hzo10 H locs hP hD hS => ?_)
      have hP : va_P D vwCl (rdW ar o10.2.1 o8.2.2 vrdsp o10.2.2 vrdot) H := hP
      have hD : va_D A (rdW ar o10.2.1 o8.2.2 vrdsp o10.2.2 vrdot) := hD
      refine lv_if_eq (tgt := 74) hx hb dX0_take_67 (by decide) (fun c11 => ?_) (fun c11 => ?_)
      · rw [if_pos c11] at hf
        refine lv_iconst (v := 0) hx hb dX0_take_74 (by decide) ?_
        subst hf
        exact hret rfl rfl rfl hP hD hS dX0_take_75
      · rw [if_neg c11] at hf
        refine lv_iconst (v := 1) hx hb dX0_take_70 (by decide) ?_
        refine lv_goto (tgt := 75) hx hb dX0_take_71 (by decide) ?_
        subst hf
        exact hret rfl rfl rfl hP hD hS dX0_take_75
  · rw [if_neg c1, if_neg c2, if_pos c3] at hf
    refine lv_aload_n hx hb dX0_take_76 rfl (lv_at hl 0 rfl) ?_
    refine lv_iload_n hx hb dX0_take_77 rfl (lv_at hl 1 rfl) ?_
    obtain ⟨o12, ho12, hf⟩ := bd_el hf
    refine kcw_i (D := D) (va_runV (As := [.int p0]) (rest := []) ⟨hx, hb, hml, hown, hts⟩ ((k_X0_takeOther l D K ar vrdaw vrdac vrdsp vrdwo vrdot p0 o12 ho12) H.size) (cwV 1 hts gX0_take_X0_takeOther rfl rfl rfl ⟨rfl, yd_X0_takeOther⟩ ⟨Nat.le_of_ble_eq_true rfl, Nat.le_of_ble_eq_true rfl⟩) (kPreV (ci := 0) (q0 := 0) hP rfl rfl hP hD hK hN) rfl rfl hl.1 rfl (lv_room (Nat.le_of_ble_eq_true rfl)) dX0_take_78 ⟨Nat.le_of_ble_eq_true rfl, Nat.le_of_ble_eq_true rfl⟩) hD hS hA (fun hzo12 H locs hP hD hS => ?_)
    have hP : va_P D vwCl (rdW ar o12.2.1 vrdac vrdsp vrdwo o12.2.2) H := hP
    have hD : va_D A (rdW ar o12.2.1 vrdac vrdsp vrdwo o12.2.2) := hD
    subst hf
    exact hret rfl rfl hzo12 hP hD hS dX0_take_81
  · rw [if_neg c1, if_neg c2, if_neg c3] at hf
    refine lv_aload_n hx hb dX0_take_82 rfl (lv_at hl 0 rfl) ?_
    refine lv_iload_n hx hb dX0_take_83 rfl (lv_at hl 1 rfl) ?_
    obtain ⟨o13, ho13, hf⟩ := bd_el hf
    refine kcw_i (D := D) (va_runV (As := [.int p0]) (rest := []) ⟨hx, hb, hml, hown, hts⟩ ((k_X0_takeWord l D K ar vrdaw vrdac vrdsp vrdwo vrdot p0 o13 ho13) H.size) (cwV 1 hts gX0_take_X0_takeWord rfl rfl rfl ⟨rfl, yd_X0_takeWord⟩ ⟨Nat.le_of_ble_eq_true rfl, Nat.le_of_ble_eq_true rfl⟩) (kPreV (ci := 0) (q0 := 0) hP rfl rfl hP hD hK hN) rfl rfl hl.1 rfl (lv_room (Nat.le_of_ble_eq_true rfl)) dX0_take_84 ⟨Nat.le_of_ble_eq_true rfl, Nat.le_of_ble_eq_true rfl⟩) hD hS hA (fun hzo13 H locs hP hD hS => ?_)
    have hP : va_P D vwCl (rdW ar o13.2.1 vrdac vrdsp o13.2.2 vrdot) H := hP
    have hD : va_D A (rdW ar o13.2.1 vrdac vrdsp o13.2.2 vrdot) := hD
    subst hf
    exact hret rfl rfl hzo13 hP hD hS dX0_take_87
end
