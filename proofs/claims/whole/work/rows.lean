section
-- ===== PART A: goes FIRST, ahead of the names: the tables' words, and 'selects' of the private methods out of them =====
/-- a private method of a class that the tables say can be made, by its rows of tables_1 -/
def lw_okq (q : MethodName × Nat) : Prop := (q.1.cls ≠ "java/lang/invoke/MethodHandle" ∧ q.1.cls ≠ "java/lang/invoke/VarHandle") ∧ Cond.instantiable q.1.cls q.2 ∈ tables_1 ∧ Cond.privateMethod q.1 ∈ tables_1 ∧ Cond.instanceMethod q.1 ∈ tables_1
theorem lw_p0 : lw_okq (⟨"KeptTree$Parser", "grow", "(III)I"⟩, 13) := ⟨⟨by decide +kernel, by decide +kernel⟩, List.mem_of_getElem? (i := 131) (by decide +kernel), List.mem_of_getElem? (i := 260) (by decide +kernel), List.mem_of_getElem? (i := 261) (by decide +kernel)⟩
theorem lw_p1 : lw_okq (⟨"KeptTree$Parser", "items", "(IZ)I"⟩, 13) := ⟨⟨by decide +kernel, by decide +kernel⟩, List.mem_of_getElem? (i := 131) (by decide +kernel), List.mem_of_getElem? (i := 264) (by decide +kernel), List.mem_of_getElem? (i := 265) (by decide +kernel)⟩
theorem lw_p2 : lw_okq (⟨"KeptTree$Parser", "anItem", "(I)I"⟩, 13) := ⟨⟨by decide +kernel, by decide +kernel⟩, List.mem_of_getElem? (i := 131) (by decide +kernel), List.mem_of_getElem? (i := 276) (by decide +kernel), List.mem_of_getElem? (i := 277) (by decide +kernel)⟩
theorem lw_p3 : lw_okq (⟨"KeptTree$Parser", "branch", "(II)I"⟩, 13) := ⟨⟨by decide +kernel, by decide +kernel⟩, List.mem_of_getElem? (i := 131) (by decide +kernel), List.mem_of_getElem? (i := 280) (by decide +kernel), List.mem_of_getElem? (i := 281) (by decide +kernel)⟩
theorem lw_p4 : lw_okq (⟨"KeptTree$Parser", "hang", "(II)V"⟩, 13) := ⟨⟨by decide +kernel, by decide +kernel⟩, List.mem_of_getElem? (i := 131) (by decide +kernel), List.mem_of_getElem? (i := 284) (by decide +kernel), List.mem_of_getElem? (i := 285) (by decide +kernel)⟩
theorem lw_p5 : lw_okq (⟨"KeptTree$Parser", "isHeld", "(I)Z"⟩, 13) := ⟨⟨by decide +kernel, by decide +kernel⟩, List.mem_of_getElem? (i := 131) (by decide +kernel), List.mem_of_getElem? (i := 288) (by decide +kernel), List.mem_of_getElem? (i := 289) (by decide +kernel)⟩
theorem lw_p6 : lw_okq (⟨"KeptTree$Parser", "expression", "(I)I"⟩, 13) := ⟨⟨by decide +kernel, by decide +kernel⟩, List.mem_of_getElem? (i := 131) (by decide +kernel), List.mem_of_getElem? (i := 292) (by decide +kernel), List.mem_of_getElem? (i := 293) (by decide +kernel)⟩
theorem lw_p7 : lw_okq (⟨"KeptTree$Parser", "term", "(I)I"⟩, 13) := ⟨⟨by decide +kernel, by decide +kernel⟩, List.mem_of_getElem? (i := 131) (by decide +kernel), List.mem_of_getElem? (i := 296) (by decide +kernel), List.mem_of_getElem? (i := 297) (by decide +kernel)⟩
theorem lw_p8 : lw_okq (⟨"KeptTree$Parser", "part", "(I)I"⟩, 13) := ⟨⟨by decide +kernel, by decide +kernel⟩, List.mem_of_getElem? (i := 131) (by decide +kernel), List.mem_of_getElem? (i := 300) (by decide +kernel), List.mem_of_getElem? (i := 301) (by decide +kernel)⟩
theorem lw_p9 : lw_okq (⟨"KeptTree$Parser", "isPlainWord", "()Z"⟩, 13) := ⟨⟨by decide +kernel, by decide +kernel⟩, List.mem_of_getElem? (i := 131) (by decide +kernel), List.mem_of_getElem? (i := 304) (by decide +kernel), List.mem_of_getElem? (i := 305) (by decide +kernel)⟩
theorem lw_p10 : lw_okq (⟨"KeptTree$Parser", "closing", "(I)I"⟩, 13) := ⟨⟨by decide +kernel, by decide +kernel⟩, List.mem_of_getElem? (i := 131) (by decide +kernel), List.mem_of_getElem? (i := 312) (by decide +kernel), List.mem_of_getElem? (i := 313) (by decide +kernel)⟩
theorem lw_p11 : lw_okq (⟨"KeptTree$Parser", "shut", "(I)I"⟩, 13) := ⟨⟨by decide +kernel, by decide +kernel⟩, List.mem_of_getElem? (i := 131) (by decide +kernel), List.mem_of_getElem? (i := 316) (by decide +kernel), List.mem_of_getElem? (i := 317) (by decide +kernel)⟩
theorem lw_p12 : lw_okq (⟨"KeptTree$Parser", "isNext", "(II)Z"⟩, 13) := ⟨⟨by decide +kernel, by decide +kernel⟩, List.mem_of_getElem? (i := 131) (by decide +kernel), List.mem_of_getElem? (i := 320) (by decide +kernel), List.mem_of_getElem? (i := 321) (by decide +kernel)⟩
theorem lw_p13 : lw_okq (⟨"KeptTree$Parser", "growOver", "(II)I"⟩, 13) := ⟨⟨by decide +kernel, by decide +kernel⟩, List.mem_of_getElem? (i := 131) (by decide +kernel), List.mem_of_getElem? (i := 324) (by decide +kernel), List.mem_of_getElem? (i := 325) (by decide +kernel)⟩
theorem lw_p14 : lw_okq (⟨"KeptTree$Parser", "body", "(I)I"⟩, 13) := ⟨⟨by decide +kernel, by decide +kernel⟩, List.mem_of_getElem? (i := 131) (by decide +kernel), List.mem_of_getElem? (i := 328) (by decide +kernel), List.mem_of_getElem? (i := 329) (by decide +kernel)⟩
theorem lw_p15 : lw_okq (⟨"KeptTree$Parser", "block", "(I)I"⟩, 13) := ⟨⟨by decide +kernel, by decide +kernel⟩, List.mem_of_getElem? (i := 131) (by decide +kernel), List.mem_of_getElem? (i := 332) (by decide +kernel), List.mem_of_getElem? (i := 333) (by decide +kernel)⟩
def lw_privs_1 : List (MethodName × Nat) := [(⟨"KeptTree$Parser", "grow", "(III)I"⟩, 13), (⟨"KeptTree$Parser", "items", "(IZ)I"⟩, 13), (⟨"KeptTree$Parser", "anItem", "(I)I"⟩, 13), (⟨"KeptTree$Parser", "branch", "(II)I"⟩, 13), (⟨"KeptTree$Parser", "hang", "(II)V"⟩, 13), (⟨"KeptTree$Parser", "isHeld", "(I)Z"⟩, 13), (⟨"KeptTree$Parser", "expression", "(I)I"⟩, 13), (⟨"KeptTree$Parser", "term", "(I)I"⟩, 13), (⟨"KeptTree$Parser", "part", "(I)I"⟩, 13), (⟨"KeptTree$Parser", "isPlainWord", "()Z"⟩, 13), (⟨"KeptTree$Parser", "closing", "(I)I"⟩, 13), (⟨"KeptTree$Parser", "shut", "(I)I"⟩, 13), (⟨"KeptTree$Parser", "isNext", "(II)Z"⟩, 13), (⟨"KeptTree$Parser", "growOver", "(II)I"⟩, 13), (⟨"KeptTree$Parser", "body", "(I)I"⟩, 13), (⟨"KeptTree$Parser", "block", "(I)I"⟩, 13)]
theorem lw_r1 : ∀ q ∈ lw_privs_1, lw_okq q := List.forall_mem_cons.mpr ⟨lw_p0, List.forall_mem_cons.mpr ⟨lw_p1, List.forall_mem_cons.mpr ⟨lw_p2, List.forall_mem_cons.mpr ⟨lw_p3, List.forall_mem_cons.mpr ⟨lw_p4, List.forall_mem_cons.mpr ⟨lw_p5, List.forall_mem_cons.mpr ⟨lw_p6, List.forall_mem_cons.mpr ⟨lw_p7, List.forall_mem_cons.mpr ⟨lw_p8, List.forall_mem_cons.mpr ⟨lw_p9, List.forall_mem_cons.mpr ⟨lw_p10, List.forall_mem_cons.mpr ⟨lw_p11, List.forall_mem_cons.mpr ⟨lw_p12, List.forall_mem_cons.mpr ⟨lw_p13, List.forall_mem_cons.mpr ⟨lw_p14, List.forall_mem_cons.mpr ⟨lw_p15, fun _ h => absurd h List.not_mem_nil⟩⟩⟩⟩⟩⟩⟩⟩⟩⟩⟩⟩⟩⟩⟩⟩
theorem lw_p16 : lw_okq (⟨"KeptTree$Parser", "assignment", "(I)I"⟩, 13) := ⟨⟨by decide +kernel, by decide +kernel⟩, List.mem_of_getElem? (i := 131) (by decide +kernel), List.mem_of_getElem? (i := 336) (by decide +kernel), List.mem_of_getElem? (i := 337) (by decide +kernel)⟩
theorem lw_p17 : lw_okq (⟨"KeptTree$Parser", "invocation", "(I)I"⟩, 13) := ⟨⟨by decide +kernel, by decide +kernel⟩, List.mem_of_getElem? (i := 131) (by decide +kernel), List.mem_of_getElem? (i := 340) (by decide +kernel), List.mem_of_getElem? (i := 341) (by decide +kernel)⟩
theorem lw_p18 : lw_okq (⟨"KeptTree$Parser", "follow", "(II)V"⟩, 13) := ⟨⟨by decide +kernel, by decide +kernel⟩, List.mem_of_getElem? (i := 131) (by decide +kernel), List.mem_of_getElem? (i := 344) (by decide +kernel), List.mem_of_getElem? (i := 345) (by decide +kernel)⟩
theorem lw_p19 : lw_okq (⟨"KeptTree$Parser", "balanced", "(I)I"⟩, 13) := ⟨⟨by decide +kernel, by decide +kernel⟩, List.mem_of_getElem? (i := 131) (by decide +kernel), List.mem_of_getElem? (i := 348) (by decide +kernel), List.mem_of_getElem? (i := 349) (by decide +kernel)⟩
theorem lw_p20 : lw_okq (⟨"KeptTree$Parser", "nextTo", "(I)I"⟩, 13) := ⟨⟨by decide +kernel, by decide +kernel⟩, List.mem_of_getElem? (i := 131) (by decide +kernel), List.mem_of_getElem? (i := 352) (by decide +kernel), List.mem_of_getElem? (i := 353) (by decide +kernel)⟩
theorem lw_p21 : lw_okq (⟨"KeptTree$Parser", "repeat", "(II)I"⟩, 13) := ⟨⟨by decide +kernel, by decide +kernel⟩, List.mem_of_getElem? (i := 131) (by decide +kernel), List.mem_of_getElem? (i := 356) (by decide +kernel), List.mem_of_getElem? (i := 357) (by decide +kernel)⟩
theorem lw_p22 : lw_okq (⟨"KeptTree$Parser", "lay", "(I)V"⟩, 13) := ⟨⟨by decide +kernel, by decide +kernel⟩, List.mem_of_getElem? (i := 131) (by decide +kernel), List.mem_of_getElem? (i := 360) (by decide +kernel), List.mem_of_getElem? (i := 361) (by decide +kernel)⟩
theorem lw_p23 : lw_okq (⟨"KeptTree$Parser", "nextAround", "(I)I"⟩, 13) := ⟨⟨by decide +kernel, by decide +kernel⟩, List.mem_of_getElem? (i := 131) (by decide +kernel), List.mem_of_getElem? (i := 380) (by decide +kernel), List.mem_of_getElem? (i := 381) (by decide +kernel)⟩
theorem lw_p24 : lw_okq (⟨"KeptTree$History", "forgetFirst", "()V"⟩, 3) := ⟨⟨by decide +kernel, by decide +kernel⟩, List.mem_of_getElem? (i := 41) (by decide +kernel), List.mem_of_getElem? (i := 485) (by decide +kernel), List.mem_of_getElem? (i := 486) (by decide +kernel)⟩
theorem lw_p25 : lw_okq (⟨"KeptTree", "renewWhole", "()V"⟩, 11) := ⟨⟨by decide +kernel, by decide +kernel⟩, List.mem_of_getElem? (i := 16) (by decide +kernel), List.mem_of_getElem? (i := 500) (by decide +kernel), List.mem_of_getElem? (i := 501) (by decide +kernel)⟩
theorem lw_p26 : lw_okq (⟨"KeptTree$Keeper", "rememberTokens", "()V"⟩, 18) := ⟨⟨by decide +kernel, by decide +kernel⟩, List.mem_of_getElem? (i := 177) (by decide +kernel), List.mem_of_getElem? (i := 508) (by decide +kernel), List.mem_of_getElem? (i := 509) (by decide +kernel)⟩
theorem lw_p27 : lw_okq (⟨"KeptTree$Keeper", "rememberNodes", "()V"⟩, 18) := ⟨⟨by decide +kernel, by decide +kernel⟩, List.mem_of_getElem? (i := 177) (by decide +kernel), List.mem_of_getElem? (i := 531) (by decide +kernel), List.mem_of_getElem? (i := 532) (by decide +kernel)⟩
theorem lw_p28 : lw_okq (⟨"KeptTree$Tokens", "scanOne", "(I)I"⟩, 7) := ⟨⟨by decide +kernel, by decide +kernel⟩, List.mem_of_getElem? (i := 60) (by decide +kernel), List.mem_of_getElem? (i := 550) (by decide +kernel), List.mem_of_getElem? (i := 551) (by decide +kernel)⟩
theorem lw_p29 : lw_okq (⟨"KeptTree$Tokens", "runEnd", "(IZ)I"⟩, 7) := ⟨⟨by decide +kernel, by decide +kernel⟩, List.mem_of_getElem? (i := 60) (by decide +kernel), List.mem_of_getElem? (i := 562) (by decide +kernel), List.mem_of_getElem? (i := 563) (by decide +kernel)⟩
theorem lw_p30 : lw_okq (⟨"KeptTree$Tokens", "add", "(IIIII)V"⟩, 7) := ⟨⟨by decide +kernel, by decide +kernel⟩, List.mem_of_getElem? (i := 60) (by decide +kernel), List.mem_of_getElem? (i := 626) (by decide +kernel), List.mem_of_getElem? (i := 627) (by decide +kernel)⟩
theorem lw_p31 : lw_okq (⟨"KeptTree$Tokens", "scanQuote", "(I)I"⟩, 7) := ⟨⟨by decide +kernel, by decide +kernel⟩, List.mem_of_getElem? (i := 60) (by decide +kernel), List.mem_of_getElem? (i := 630) (by decide +kernel), List.mem_of_getElem? (i := 631) (by decide +kernel)⟩
def lw_privs_2 : List (MethodName × Nat) := [(⟨"KeptTree$Parser", "assignment", "(I)I"⟩, 13), (⟨"KeptTree$Parser", "invocation", "(I)I"⟩, 13), (⟨"KeptTree$Parser", "follow", "(II)V"⟩, 13), (⟨"KeptTree$Parser", "balanced", "(I)I"⟩, 13), (⟨"KeptTree$Parser", "nextTo", "(I)I"⟩, 13), (⟨"KeptTree$Parser", "repeat", "(II)I"⟩, 13), (⟨"KeptTree$Parser", "lay", "(I)V"⟩, 13), (⟨"KeptTree$Parser", "nextAround", "(I)I"⟩, 13), (⟨"KeptTree$History", "forgetFirst", "()V"⟩, 3), (⟨"KeptTree", "renewWhole", "()V"⟩, 11), (⟨"KeptTree$Keeper", "rememberTokens", "()V"⟩, 18), (⟨"KeptTree$Keeper", "rememberNodes", "()V"⟩, 18), (⟨"KeptTree$Tokens", "scanOne", "(I)I"⟩, 7), (⟨"KeptTree$Tokens", "runEnd", "(IZ)I"⟩, 7), (⟨"KeptTree$Tokens", "add", "(IIIII)V"⟩, 7), (⟨"KeptTree$Tokens", "scanQuote", "(I)I"⟩, 7)]
theorem lw_r2 : ∀ q ∈ lw_privs_2, lw_okq q := List.forall_mem_cons.mpr ⟨lw_p16, List.forall_mem_cons.mpr ⟨lw_p17, List.forall_mem_cons.mpr ⟨lw_p18, List.forall_mem_cons.mpr ⟨lw_p19, List.forall_mem_cons.mpr ⟨lw_p20, List.forall_mem_cons.mpr ⟨lw_p21, List.forall_mem_cons.mpr ⟨lw_p22, List.forall_mem_cons.mpr ⟨lw_p23, List.forall_mem_cons.mpr ⟨lw_p24, List.forall_mem_cons.mpr ⟨lw_p25, List.forall_mem_cons.mpr ⟨lw_p26, List.forall_mem_cons.mpr ⟨lw_p27, List.forall_mem_cons.mpr ⟨lw_p28, List.forall_mem_cons.mpr ⟨lw_p29, List.forall_mem_cons.mpr ⟨lw_p30, List.forall_mem_cons.mpr ⟨lw_p31, fun _ h => absurd h List.not_mem_nil⟩⟩⟩⟩⟩⟩⟩⟩⟩⟩⟩⟩⟩⟩⟩⟩
theorem lw_p32 : lw_okq (⟨"KeptTree$Keeper", "compareNodes", "()V"⟩, 18) := ⟨⟨by decide +kernel, by decide +kernel⟩, List.mem_of_getElem? (i := 177) (by decide +kernel), List.mem_of_getElem? (i := 641) (by decide +kernel), List.mem_of_getElem? (i := 642) (by decide +kernel)⟩
theorem lw_p33 : lw_okq (⟨"KeptTree$Keeper", "findRuns", "()V"⟩, 18) := ⟨⟨by decide +kernel, by decide +kernel⟩, List.mem_of_getElem? (i := 177) (by decide +kernel), List.mem_of_getElem? (i := 645) (by decide +kernel), List.mem_of_getElem? (i := 646) (by decide +kernel)⟩
theorem lw_p34 : lw_okq (⟨"KeptTree$Keeper", "originOf", "(I)I"⟩, 18) := ⟨⟨by decide +kernel, by decide +kernel⟩, List.mem_of_getElem? (i := 177) (by decide +kernel), List.mem_of_getElem? (i := 649) (by decide +kernel), List.mem_of_getElem? (i := 650) (by decide +kernel)⟩
theorem lw_p35 : lw_okq (⟨"KeptTree$Keeper", "addLoss", "(II)V"⟩, 18) := ⟨⟨by decide +kernel, by decide +kernel⟩, List.mem_of_getElem? (i := 177) (by decide +kernel), List.mem_of_getElem? (i := 654) (by decide +kernel), List.mem_of_getElem? (i := 655) (by decide +kernel)⟩
theorem lw_p36 : lw_okq (⟨"KeptTree$Keeper", "wasThere", "(I)Z"⟩, 18) := ⟨⟨by decide +kernel, by decide +kernel⟩, List.mem_of_getElem? (i := 177) (by decide +kernel), List.mem_of_getElem? (i := 658) (by decide +kernel), List.mem_of_getElem? (i := 659) (by decide +kernel)⟩
theorem lw_p37 : lw_okq (⟨"KeptTree", "settle", "(II)I"⟩, 11) := ⟨⟨by decide +kernel, by decide +kernel⟩, List.mem_of_getElem? (i := 16) (by decide +kernel), List.mem_of_getElem? (i := 672) (by decide +kernel), List.mem_of_getElem? (i := 673) (by decide +kernel)⟩
theorem lw_p38 : lw_okq (⟨"KeptTree$Keeper", "originBy", "(IIII)I"⟩, 18) := ⟨⟨by decide +kernel, by decide +kernel⟩, List.mem_of_getElem? (i := 177) (by decide +kernel), List.mem_of_getElem? (i := 680) (by decide +kernel), List.mem_of_getElem? (i := 681) (by decide +kernel)⟩
theorem lw_p39 : lw_okq (⟨"KeptTree", "tapeBeginsWithLetters", "(I)Z"⟩, 11) := ⟨⟨by decide +kernel, by decide +kernel⟩, List.mem_of_getElem? (i := 16) (by decide +kernel), List.mem_of_getElem? (i := 697) (by decide +kernel), List.mem_of_getElem? (i := 698) (by decide +kernel)⟩
theorem lw_p40 : lw_okq (⟨"KeptTree", "draftRenamed", "(II)I"⟩, 11) := ⟨⟨by decide +kernel, by decide +kernel⟩, List.mem_of_getElem? (i := 16) (by decide +kernel), List.mem_of_getElem? (i := 704) (by decide +kernel), List.mem_of_getElem? (i := 705) (by decide +kernel)⟩
theorem lw_p41 : lw_okq (⟨"KeptTree", "isUse", "(II)Z"⟩, 11) := ⟨⟨by decide +kernel, by decide +kernel⟩, List.mem_of_getElem? (i := 16) (by decide +kernel), List.mem_of_getElem? (i := 708) (by decide +kernel), List.mem_of_getElem? (i := 709) (by decide +kernel)⟩
theorem lw_p42 : lw_okq (⟨"KeptTree", "firstUse", "(I)I"⟩, 11) := ⟨⟨by decide +kernel, by decide +kernel⟩, List.mem_of_getElem? (i := 16) (by decide +kernel), List.mem_of_getElem? (i := 730) (by decide +kernel), List.mem_of_getElem? (i := 731) (by decide +kernel)⟩
theorem lw_p43 : lw_okq (⟨"KeptTree", "lastUse", "(I)I"⟩, 11) := ⟨⟨by decide +kernel, by decide +kernel⟩, List.mem_of_getElem? (i := 16) (by decide +kernel), List.mem_of_getElem? (i := 734) (by decide +kernel), List.mem_of_getElem? (i := 735) (by decide +kernel)⟩
theorem lw_p44 : lw_okq (⟨"KeptTree$Tree", "areLike", "(II)Z"⟩, 12) := ⟨⟨by decide +kernel, by decide +kernel⟩, List.mem_of_getElem? (i := 88) (by decide +kernel), List.mem_of_getElem? (i := 950) (by decide +kernel), List.mem_of_getElem? (i := 951) (by decide +kernel)⟩
theorem lw_p45 : lw_okq (⟨"KeptTree", "nodeOrTokens", "(II)I"⟩, 11) := ⟨⟨by decide +kernel, by decide +kernel⟩, List.mem_of_getElem? (i := 16) (by decide +kernel), List.mem_of_getElem? (i := 963) (by decide +kernel), List.mem_of_getElem? (i := 964) (by decide +kernel)⟩
theorem lw_p46 : lw_okq (⟨"KeptTree$Worth", "ofOne", "(I)J"⟩, 3) := ⟨⟨by decide +kernel, by decide +kernel⟩, List.mem_of_getElem? (i := 239) (by decide +kernel), List.mem_of_getElem? (i := 1018) (by decide +kernel), List.mem_of_getElem? (i := 1019) (by decide +kernel)⟩
theorem lw_p47 : lw_okq (⟨"KeptTree$Worth", "ofDigits", "(II)J"⟩, 3) := ⟨⟨by decide +kernel, by decide +kernel⟩, List.mem_of_getElem? (i := 239) (by decide +kernel), List.mem_of_getElem? (i := 1024) (by decide +kernel), List.mem_of_getElem? (i := 1025) (by decide +kernel)⟩
def lw_privs_3 : List (MethodName × Nat) := [(⟨"KeptTree$Keeper", "compareNodes", "()V"⟩, 18), (⟨"KeptTree$Keeper", "findRuns", "()V"⟩, 18), (⟨"KeptTree$Keeper", "originOf", "(I)I"⟩, 18), (⟨"KeptTree$Keeper", "addLoss", "(II)V"⟩, 18), (⟨"KeptTree$Keeper", "wasThere", "(I)Z"⟩, 18), (⟨"KeptTree", "settle", "(II)I"⟩, 11), (⟨"KeptTree$Keeper", "originBy", "(IIII)I"⟩, 18), (⟨"KeptTree", "tapeBeginsWithLetters", "(I)Z"⟩, 11), (⟨"KeptTree", "draftRenamed", "(II)I"⟩, 11), (⟨"KeptTree", "isUse", "(II)Z"⟩, 11), (⟨"KeptTree", "firstUse", "(I)I"⟩, 11), (⟨"KeptTree", "lastUse", "(I)I"⟩, 11), (⟨"KeptTree$Tree", "areLike", "(II)Z"⟩, 12), (⟨"KeptTree", "nodeOrTokens", "(II)I"⟩, 11), (⟨"KeptTree$Worth", "ofOne", "(I)J"⟩, 3), (⟨"KeptTree$Worth", "ofDigits", "(II)J"⟩, 3)]
theorem lw_r3 : ∀ q ∈ lw_privs_3, lw_okq q := List.forall_mem_cons.mpr ⟨lw_p32, List.forall_mem_cons.mpr ⟨lw_p33, List.forall_mem_cons.mpr ⟨lw_p34, List.forall_mem_cons.mpr ⟨lw_p35, List.forall_mem_cons.mpr ⟨lw_p36, List.forall_mem_cons.mpr ⟨lw_p37, List.forall_mem_cons.mpr ⟨lw_p38, List.forall_mem_cons.mpr ⟨lw_p39, List.forall_mem_cons.mpr ⟨lw_p40, List.forall_mem_cons.mpr ⟨lw_p41, List.forall_mem_cons.mpr ⟨lw_p42, List.forall_mem_cons.mpr ⟨lw_p43, List.forall_mem_cons.mpr ⟨lw_p44, List.forall_mem_cons.mpr ⟨lw_p45, List.forall_mem_cons.mpr ⟨lw_p46, List.forall_mem_cons.mpr ⟨lw_p47, fun _ h => absurd h List.not_mem_nil⟩⟩⟩⟩⟩⟩⟩⟩⟩⟩⟩⟩⟩⟩⟩⟩
theorem lw_p48 : lw_okq (⟨"KeptTree$Worth", "known", "(I)J"⟩, 3) := ⟨⟨by decide +kernel, by decide +kernel⟩, List.mem_of_getElem? (i := 239) (by decide +kernel), List.mem_of_getElem? (i := 1033) (by decide +kernel), List.mem_of_getElem? (i := 1034) (by decide +kernel)⟩
theorem lw_p49 : lw_okq (⟨"KeptTreeModel", "reads", "()V"⟩, 70) := ⟨⟨by decide +kernel, by decide +kernel⟩, List.mem_of_getElem? (i := 1057) (by decide +kernel), List.mem_of_getElem? (i := 1063) (by decide +kernel), List.mem_of_getElem? (i := 1064) (by decide +kernel)⟩
theorem lw_p50 : lw_okq (⟨"KeptTreeModel", "splits", "()V"⟩, 70) := ⟨⟨by decide +kernel, by decide +kernel⟩, List.mem_of_getElem? (i := 1057) (by decide +kernel), List.mem_of_getElem? (i := 1067) (by decide +kernel), List.mem_of_getElem? (i := 1068) (by decide +kernel)⟩
theorem lw_p51 : lw_okq (⟨"KeptTreeModel", "lineEnd", "(I)I"⟩, 70) := ⟨⟨by decide +kernel, by decide +kernel⟩, List.mem_of_getElem? (i := 1057) (by decide +kernel), List.mem_of_getElem? (i := 1071) (by decide +kernel), List.mem_of_getElem? (i := 1072) (by decide +kernel)⟩
theorem lw_p52 : lw_okq (⟨"KeptTreeModel", "wordFrom", "(I)I"⟩, 70) := ⟨⟨by decide +kernel, by decide +kernel⟩, List.mem_of_getElem? (i := 1057) (by decide +kernel), List.mem_of_getElem? (i := 1081) (by decide +kernel), List.mem_of_getElem? (i := 1082) (by decide +kernel)⟩
theorem lw_p53 : lw_okq (⟨"KeptTreeModel", "tokenIs", "(IIII)V"⟩, 70) := ⟨⟨by decide +kernel, by decide +kernel⟩, List.mem_of_getElem? (i := 1057) (by decide +kernel), List.mem_of_getElem? (i := 1085) (by decide +kernel), List.mem_of_getElem? (i := 1086) (by decide +kernel)⟩
theorem lw_p54 : lw_okq (⟨"KeptTreeModel", "numberFrom", "(I)I"⟩, 70) := ⟨⟨by decide +kernel, by decide +kernel⟩, List.mem_of_getElem? (i := 1057) (by decide +kernel), List.mem_of_getElem? (i := 1092) (by decide +kernel), List.mem_of_getElem? (i := 1093) (by decide +kernel)⟩
theorem lw_p55 : lw_okq (⟨"KeptTreeModel", "quoteFrom", "(I)I"⟩, 70) := ⟨⟨by decide +kernel, by decide +kernel⟩, List.mem_of_getElem? (i := 1057) (by decide +kernel), List.mem_of_getElem? (i := 1096) (by decide +kernel), List.mem_of_getElem? (i := 1097) (by decide +kernel)⟩
theorem lw_p56 : lw_okq (⟨"KeptTreeModel", "builds", "()V"⟩, 70) := ⟨⟨by decide +kernel, by decide +kernel⟩, List.mem_of_getElem? (i := 1057) (by decide +kernel), List.mem_of_getElem? (i := 1103) (by decide +kernel), List.mem_of_getElem? (i := 1104) (by decide +kernel)⟩
theorem lw_p57 : lw_okq (⟨"KeptTreeModel", "makes", "(I)I"⟩, 70) := ⟨⟨by decide +kernel, by decide +kernel⟩, List.mem_of_getElem? (i := 1057) (by decide +kernel), List.mem_of_getElem? (i := 1107) (by decide +kernel), List.mem_of_getElem? (i := 1108) (by decide +kernel)⟩
theorem lw_p58 : lw_okq (⟨"KeptTreeModel", "pushes", "(II)V"⟩, 70) := ⟨⟨by decide +kernel, by decide +kernel⟩, List.mem_of_getElem? (i := 1057) (by decide +kernel), List.mem_of_getElem? (i := 1111) (by decide +kernel), List.mem_of_getElem? (i := 1112) (by decide +kernel)⟩
theorem lw_p59 : lw_okq (⟨"KeptTreeModel", "step", "()V"⟩, 70) := ⟨⟨by decide +kernel, by decide +kernel⟩, List.mem_of_getElem? (i := 1057) (by decide +kernel), List.mem_of_getElem? (i := 1115) (by decide +kernel), List.mem_of_getElem? (i := 1116) (by decide +kernel)⟩
theorem lw_p60 : lw_okq (⟨"KeptTreeModel", "stepItems", "(I)V"⟩, 70) := ⟨⟨by decide +kernel, by decide +kernel⟩, List.mem_of_getElem? (i := 1057) (by decide +kernel), List.mem_of_getElem? (i := 1119) (by decide +kernel), List.mem_of_getElem? (i := 1120) (by decide +kernel)⟩
theorem lw_p61 : lw_okq (⟨"KeptTreeModel", "isNext", "(I)Z"⟩, 70) := ⟨⟨by decide +kernel, by decide +kernel⟩, List.mem_of_getElem? (i := 1057) (by decide +kernel), List.mem_of_getElem? (i := 1123) (by decide +kernel), List.mem_of_getElem? (i := 1124) (by decide +kernel)⟩
theorem lw_p62 : lw_okq (⟨"KeptTreeModel", "balances", "(I)I"⟩, 70) := ⟨⟨by decide +kernel, by decide +kernel⟩, List.mem_of_getElem? (i := 1057) (by decide +kernel), List.mem_of_getElem? (i := 1127) (by decide +kernel), List.mem_of_getElem? (i := 1128) (by decide +kernel)⟩
theorem lw_p63 : lw_okq (⟨"KeptTreeModel", "joins", "(II)I"⟩, 70) := ⟨⟨by decide +kernel, by decide +kernel⟩, List.mem_of_getElem? (i := 1057) (by decide +kernel), List.mem_of_getElem? (i := 1131) (by decide +kernel), List.mem_of_getElem? (i := 1132) (by decide +kernel)⟩
def lw_privs_4 : List (MethodName × Nat) := [(⟨"KeptTree$Worth", "known", "(I)J"⟩, 3), (⟨"KeptTreeModel", "reads", "()V"⟩, 70), (⟨"KeptTreeModel", "splits", "()V"⟩, 70), (⟨"KeptTreeModel", "lineEnd", "(I)I"⟩, 70), (⟨"KeptTreeModel", "wordFrom", "(I)I"⟩, 70), (⟨"KeptTreeModel", "tokenIs", "(IIII)V"⟩, 70), (⟨"KeptTreeModel", "numberFrom", "(I)I"⟩, 70), (⟨"KeptTreeModel", "quoteFrom", "(I)I"⟩, 70), (⟨"KeptTreeModel", "builds", "()V"⟩, 70), (⟨"KeptTreeModel", "makes", "(I)I"⟩, 70), (⟨"KeptTreeModel", "pushes", "(II)V"⟩, 70), (⟨"KeptTreeModel", "step", "()V"⟩, 70), (⟨"KeptTreeModel", "stepItems", "(I)V"⟩, 70), (⟨"KeptTreeModel", "isNext", "(I)Z"⟩, 70), (⟨"KeptTreeModel", "balances", "(I)I"⟩, 70), (⟨"KeptTreeModel", "joins", "(II)I"⟩, 70)]
theorem lw_r4 : ∀ q ∈ lw_privs_4, lw_okq q := List.forall_mem_cons.mpr ⟨lw_p48, List.forall_mem_cons.mpr ⟨lw_p49, List.forall_mem_cons.mpr ⟨lw_p50, List.forall_mem_cons.mpr ⟨lw_p51, List.forall_mem_cons.mpr ⟨lw_p52, List.forall_mem_cons.mpr ⟨lw_p53, List.forall_mem_cons.mpr ⟨lw_p54, List.forall_mem_cons.mpr ⟨lw_p55, List.forall_mem_cons.mpr ⟨lw_p56, List.forall_mem_cons.mpr ⟨lw_p57, List.forall_mem_cons.mpr ⟨lw_p58, List.forall_mem_cons.mpr ⟨lw_p59, List.forall_mem_cons.mpr ⟨lw_p60, List.forall_mem_cons.mpr ⟨lw_p61, List.forall_mem_cons.mpr ⟨lw_p62, List.forall_mem_cons.mpr ⟨lw_p63, fun _ h => absurd h List.not_mem_nil⟩⟩⟩⟩⟩⟩⟩⟩⟩⟩⟩⟩⟩⟩⟩⟩
theorem lw_p64 : lw_okq (⟨"KeptTreeModel", "adds", "(II)V"⟩, 70) := ⟨⟨by decide +kernel, by decide +kernel⟩, List.mem_of_getElem? (i := 1057) (by decide +kernel), List.mem_of_getElem? (i := 1135) (by decide +kernel), List.mem_of_getElem? (i := 1136) (by decide +kernel)⟩
theorem lw_p65 : lw_okq (⟨"KeptTreeModel", "ends", "(I)V"⟩, 70) := ⟨⟨by decide +kernel, by decide +kernel⟩, List.mem_of_getElem? (i := 1057) (by decide +kernel), List.mem_of_getElem? (i := 1139) (by decide +kernel), List.mem_of_getElem? (i := 1140) (by decide +kernel)⟩
theorem lw_p66 : lw_okq (⟨"KeptTreeModel", "stepItem", "(I)V"⟩, 70) := ⟨⟨by decide +kernel, by decide +kernel⟩, List.mem_of_getElem? (i := 1057) (by decide +kernel), List.mem_of_getElem? (i := 1143) (by decide +kernel), List.mem_of_getElem? (i := 1144) (by decide +kernel)⟩
theorem lw_p67 : lw_okq (⟨"KeptTreeModel", "beginsItem", "(I)V"⟩, 70) := ⟨⟨by decide +kernel, by decide +kernel⟩, List.mem_of_getElem? (i := 1057) (by decide +kernel), List.mem_of_getElem? (i := 1147) (by decide +kernel), List.mem_of_getElem? (i := 1148) (by decide +kernel)⟩
theorem lw_p68 : lw_okq (⟨"KeptTreeModel", "keyNext", "()I"⟩, 70) := ⟨⟨by decide +kernel, by decide +kernel⟩, List.mem_of_getElem? (i := 1057) (by decide +kernel), List.mem_of_getElem? (i := 1151) (by decide +kernel), List.mem_of_getElem? (i := 1152) (by decide +kernel)⟩
theorem lw_p69 : lw_okq (⟨"KeptTreeModel", "makesLeaf", "(I)I"⟩, 70) := ⟨⟨by decide +kernel, by decide +kernel⟩, List.mem_of_getElem? (i := 1057) (by decide +kernel), List.mem_of_getElem? (i := 1158) (by decide +kernel), List.mem_of_getElem? (i := 1159) (by decide +kernel)⟩
theorem lw_p70 : lw_okq (⟨"KeptTreeModel", "beginsNested", "(II)V"⟩, 70) := ⟨⟨by decide +kernel, by decide +kernel⟩, List.mem_of_getElem? (i := 1057) (by decide +kernel), List.mem_of_getElem? (i := 1162) (by decide +kernel), List.mem_of_getElem? (i := 1163) (by decide +kernel)⟩
theorem lw_p71 : lw_okq (⟨"KeptTreeModel", "goes", "(IIII)V"⟩, 70) := ⟨⟨by decide +kernel, by decide +kernel⟩, List.mem_of_getElem? (i := 1057) (by decide +kernel), List.mem_of_getElem? (i := 1166) (by decide +kernel), List.mem_of_getElem? (i := 1167) (by decide +kernel)⟩
theorem lw_p72 : lw_okq (⟨"KeptTreeModel", "isWordNext", "()Z"⟩, 70) := ⟨⟨by decide +kernel, by decide +kernel⟩, List.mem_of_getElem? (i := 1057) (by decide +kernel), List.mem_of_getElem? (i := 1170) (by decide +kernel), List.mem_of_getElem? (i := 1171) (by decide +kernel)⟩
theorem lw_p73 : lw_okq (⟨"KeptTreeModel", "isBehind", "(I)Z"⟩, 70) := ⟨⟨by decide +kernel, by decide +kernel⟩, List.mem_of_getElem? (i := 1057) (by decide +kernel), List.mem_of_getElem? (i := 1174) (by decide +kernel), List.mem_of_getElem? (i := 1175) (by decide +kernel)⟩
theorem lw_p74 : lw_okq (⟨"KeptTreeModel", "beginsList", "(I)V"⟩, 70) := ⟨⟨by decide +kernel, by decide +kernel⟩, List.mem_of_getElem? (i := 1057) (by decide +kernel), List.mem_of_getElem? (i := 1178) (by decide +kernel), List.mem_of_getElem? (i := 1179) (by decide +kernel)⟩
theorem lw_p75 : lw_okq (⟨"KeptTreeModel", "endsCall", "(I)V"⟩, 70) := ⟨⟨by decide +kernel, by decide +kernel⟩, List.mem_of_getElem? (i := 1057) (by decide +kernel), List.mem_of_getElem? (i := 1182) (by decide +kernel), List.mem_of_getElem? (i := 1183) (by decide +kernel)⟩
theorem lw_p76 : lw_okq (⟨"KeptTreeModel", "signs", "(II)V"⟩, 70) := ⟨⟨by decide +kernel, by decide +kernel⟩, List.mem_of_getElem? (i := 1057) (by decide +kernel), List.mem_of_getElem? (i := 1186) (by decide +kernel), List.mem_of_getElem? (i := 1187) (by decide +kernel)⟩
theorem lw_p77 : lw_okq (⟨"KeptTreeModel", "makesMissing", "(I)I"⟩, 70) := ⟨⟨by decide +kernel, by decide +kernel⟩, List.mem_of_getElem? (i := 1057) (by decide +kernel), List.mem_of_getElem? (i := 1190) (by decide +kernel), List.mem_of_getElem? (i := 1191) (by decide +kernel)⟩
theorem lw_p78 : lw_okq (⟨"KeptTreeModel", "endsNested", "(I)V"⟩, 70) := ⟨⟨by decide +kernel, by decide +kernel⟩, List.mem_of_getElem? (i := 1057) (by decide +kernel), List.mem_of_getElem? (i := 1194) (by decide +kernel), List.mem_of_getElem? (i := 1195) (by decide +kernel)⟩
theorem lw_p79 : lw_okq (⟨"KeptTreeModel", "stepBody", "(I)V"⟩, 70) := ⟨⟨by decide +kernel, by decide +kernel⟩, List.mem_of_getElem? (i := 1057) (by decide +kernel), List.mem_of_getElem? (i := 1198) (by decide +kernel), List.mem_of_getElem? (i := 1199) (by decide +kernel)⟩
def lw_privs_5 : List (MethodName × Nat) := [(⟨"KeptTreeModel", "adds", "(II)V"⟩, 70), (⟨"KeptTreeModel", "ends", "(I)V"⟩, 70), (⟨"KeptTreeModel", "stepItem", "(I)V"⟩, 70), (⟨"KeptTreeModel", "beginsItem", "(I)V"⟩, 70), (⟨"KeptTreeModel", "keyNext", "()I"⟩, 70), (⟨"KeptTreeModel", "makesLeaf", "(I)I"⟩, 70), (⟨"KeptTreeModel", "beginsNested", "(II)V"⟩, 70), (⟨"KeptTreeModel", "goes", "(IIII)V"⟩, 70), (⟨"KeptTreeModel", "isWordNext", "()Z"⟩, 70), (⟨"KeptTreeModel", "isBehind", "(I)Z"⟩, 70), (⟨"KeptTreeModel", "beginsList", "(I)V"⟩, 70), (⟨"KeptTreeModel", "endsCall", "(I)V"⟩, 70), (⟨"KeptTreeModel", "signs", "(II)V"⟩, 70), (⟨"KeptTreeModel", "makesMissing", "(I)I"⟩, 70), (⟨"KeptTreeModel", "endsNested", "(I)V"⟩, 70), (⟨"KeptTreeModel", "stepBody", "(I)V"⟩, 70)]
theorem lw_r5 : ∀ q ∈ lw_privs_5, lw_okq q := List.forall_mem_cons.mpr ⟨lw_p64, List.forall_mem_cons.mpr ⟨lw_p65, List.forall_mem_cons.mpr ⟨lw_p66, List.forall_mem_cons.mpr ⟨lw_p67, List.forall_mem_cons.mpr ⟨lw_p68, List.forall_mem_cons.mpr ⟨lw_p69, List.forall_mem_cons.mpr ⟨lw_p70, List.forall_mem_cons.mpr ⟨lw_p71, List.forall_mem_cons.mpr ⟨lw_p72, List.forall_mem_cons.mpr ⟨lw_p73, List.forall_mem_cons.mpr ⟨lw_p74, List.forall_mem_cons.mpr ⟨lw_p75, List.forall_mem_cons.mpr ⟨lw_p76, List.forall_mem_cons.mpr ⟨lw_p77, List.forall_mem_cons.mpr ⟨lw_p78, List.forall_mem_cons.mpr ⟨lw_p79, fun _ h => absurd h List.not_mem_nil⟩⟩⟩⟩⟩⟩⟩⟩⟩⟩⟩⟩⟩⟩⟩⟩
theorem lw_p80 : lw_okq (⟨"KeptTreeModel", "stepPart", "(I)V"⟩, 70) := ⟨⟨by decide +kernel, by decide +kernel⟩, List.mem_of_getElem? (i := 1057) (by decide +kernel), List.mem_of_getElem? (i := 1202) (by decide +kernel), List.mem_of_getElem? (i := 1203) (by decide +kernel)⟩
theorem lw_p81 : lw_okq (⟨"KeptTreeModel", "stepRow", "(I)V"⟩, 70) := ⟨⟨by decide +kernel, by decide +kernel⟩, List.mem_of_getElem? (i := 1057) (by decide +kernel), List.mem_of_getElem? (i := 1206) (by decide +kernel), List.mem_of_getElem? (i := 1207) (by decide +kernel)⟩
theorem lw_p82 : lw_okq (⟨"KeptTreeModel", "isSignOf", "(I)Z"⟩, 70) := ⟨⟨by decide +kernel, by decide +kernel⟩, List.mem_of_getElem? (i := 1057) (by decide +kernel), List.mem_of_getElem? (i := 1210) (by decide +kernel), List.mem_of_getElem? (i := 1211) (by decide +kernel)⟩
theorem lw_p83 : lw_okq (⟨"KeptTreeModel", "numbers", "()V"⟩, 70) := ⟨⟨by decide +kernel, by decide +kernel⟩, List.mem_of_getElem? (i := 1057) (by decide +kernel), List.mem_of_getElem? (i := 1214) (by decide +kernel), List.mem_of_getElem? (i := 1215) (by decide +kernel)⟩
theorem lw_p84 : lw_okq (⟨"KeptTreeModel", "takes", "(I)V"⟩, 70) := ⟨⟨by decide +kernel, by decide +kernel⟩, List.mem_of_getElem? (i := 1057) (by decide +kernel), List.mem_of_getElem? (i := 1218) (by decide +kernel), List.mem_of_getElem? (i := 1219) (by decide +kernel)⟩
theorem lw_p85 : lw_okq (⟨"KeptTreeModel", "behind", "(I)I"⟩, 70) := ⟨⟨by decide +kernel, by decide +kernel⟩, List.mem_of_getElem? (i := 1057) (by decide +kernel), List.mem_of_getElem? (i := 1222) (by decide +kernel), List.mem_of_getElem? (i := 1223) (by decide +kernel)⟩
theorem lw_p86 : lw_okq (⟨"KeptTreeModel", "lines", "()V"⟩, 70) := ⟨⟨by decide +kernel, by decide +kernel⟩, List.mem_of_getElem? (i := 1057) (by decide +kernel), List.mem_of_getElem? (i := 1226) (by decide +kernel), List.mem_of_getElem? (i := 1227) (by decide +kernel)⟩
theorem lw_p87 : lw_okq (⟨"KeptTreeModel", "forgets", "()V"⟩, 70) := ⟨⟨by decide +kernel, by decide +kernel⟩, List.mem_of_getElem? (i := 1057) (by decide +kernel), List.mem_of_getElem? (i := 1230) (by decide +kernel), List.mem_of_getElem? (i := 1231) (by decide +kernel)⟩
theorem lw_p88 : lw_okq (⟨"KeptTreeModel", "four", "(I)V"⟩, 70) := ⟨⟨by decide +kernel, by decide +kernel⟩, List.mem_of_getElem? (i := 1057) (by decide +kernel), List.mem_of_getElem? (i := 1449) (by decide +kernel), List.mem_of_getElem? (i := 1450) (by decide +kernel)⟩
theorem lw_p89 : lw_okq (⟨"KeptTreeModel", "act", "()V"⟩, 70) := ⟨⟨by decide +kernel, by decide +kernel⟩, List.mem_of_getElem? (i := 1057) (by decide +kernel), List.mem_of_getElem? (i := 1457) (by decide +kernel), List.mem_of_getElem? (i := 1458) (by decide +kernel)⟩
theorem lw_p90 : lw_okq (⟨"KeptTreeModel", "notes", "()V"⟩, 70) := ⟨⟨by decide +kernel, by decide +kernel⟩, List.mem_of_getElem? (i := 1057) (by decide +kernel), List.mem_of_getElem? (i := 1461) (by decide +kernel), List.mem_of_getElem? (i := 1462) (by decide +kernel)⟩
theorem lw_p91 : lw_okq (⟨"KeptTreeModel", "writesText", "([II)V"⟩, 70) := ⟨⟨by decide +kernel, by decide +kernel⟩, List.mem_of_getElem? (i := 1057) (by decide +kernel), List.mem_of_getElem? (i := 1468) (by decide +kernel), List.mem_of_getElem? (i := 1469) (by decide +kernel)⟩
theorem lw_p92 : lw_okq (⟨"KeptTreeModel", "remembers", "()V"⟩, 70) := ⟨⟨by decide +kernel, by decide +kernel⟩, List.mem_of_getElem? (i := 1057) (by decide +kernel), List.mem_of_getElem? (i := 1472) (by decide +kernel), List.mem_of_getElem? (i := 1473) (by decide +kernel)⟩
theorem lw_p93 : lw_okq (⟨"KeptTreeModel", "comes", "(I)V"⟩, 70) := ⟨⟨by decide +kernel, by decide +kernel⟩, List.mem_of_getElem? (i := 1057) (by decide +kernel), List.mem_of_getElem? (i := 1480) (by decide +kernel), List.mem_of_getElem? (i := 1481) (by decide +kernel)⟩
theorem lw_p94 : lw_okq (⟨"KeptTreeModel", "edits", "(II)V"⟩, 70) := ⟨⟨by decide +kernel, by decide +kernel⟩, List.mem_of_getElem? (i := 1057) (by decide +kernel), List.mem_of_getElem? (i := 1484) (by decide +kernel), List.mem_of_getElem? (i := 1485) (by decide +kernel)⟩
theorem lw_p95 : lw_okq (⟨"KeptTreeModel", "keeps", "(III)V"⟩, 70) := ⟨⟨by decide +kernel, by decide +kernel⟩, List.mem_of_getElem? (i := 1057) (by decide +kernel), List.mem_of_getElem? (i := 1488) (by decide +kernel), List.mem_of_getElem? (i := 1489) (by decide +kernel)⟩
def lw_privs_6 : List (MethodName × Nat) := [(⟨"KeptTreeModel", "stepPart", "(I)V"⟩, 70), (⟨"KeptTreeModel", "stepRow", "(I)V"⟩, 70), (⟨"KeptTreeModel", "isSignOf", "(I)Z"⟩, 70), (⟨"KeptTreeModel", "numbers", "()V"⟩, 70), (⟨"KeptTreeModel", "takes", "(I)V"⟩, 70), (⟨"KeptTreeModel", "behind", "(I)I"⟩, 70), (⟨"KeptTreeModel", "lines", "()V"⟩, 70), (⟨"KeptTreeModel", "forgets", "()V"⟩, 70), (⟨"KeptTreeModel", "four", "(I)V"⟩, 70), (⟨"KeptTreeModel", "act", "()V"⟩, 70), (⟨"KeptTreeModel", "notes", "()V"⟩, 70), (⟨"KeptTreeModel", "writesText", "([II)V"⟩, 70), (⟨"KeptTreeModel", "remembers", "()V"⟩, 70), (⟨"KeptTreeModel", "comes", "(I)V"⟩, 70), (⟨"KeptTreeModel", "edits", "(II)V"⟩, 70), (⟨"KeptTreeModel", "keeps", "(III)V"⟩, 70)]
theorem lw_r6 : ∀ q ∈ lw_privs_6, lw_okq q := List.forall_mem_cons.mpr ⟨lw_p80, List.forall_mem_cons.mpr ⟨lw_p81, List.forall_mem_cons.mpr ⟨lw_p82, List.forall_mem_cons.mpr ⟨lw_p83, List.forall_mem_cons.mpr ⟨lw_p84, List.forall_mem_cons.mpr ⟨lw_p85, List.forall_mem_cons.mpr ⟨lw_p86, List.forall_mem_cons.mpr ⟨lw_p87, List.forall_mem_cons.mpr ⟨lw_p88, List.forall_mem_cons.mpr ⟨lw_p89, List.forall_mem_cons.mpr ⟨lw_p90, List.forall_mem_cons.mpr ⟨lw_p91, List.forall_mem_cons.mpr ⟨lw_p92, List.forall_mem_cons.mpr ⟨lw_p93, List.forall_mem_cons.mpr ⟨lw_p94, List.forall_mem_cons.mpr ⟨lw_p95, fun _ h => absurd h List.not_mem_nil⟩⟩⟩⟩⟩⟩⟩⟩⟩⟩⟩⟩⟩⟩⟩⟩
theorem lw_p96 : lw_okq (⟨"KeptTreeModel", "wasOf", "(IIII)I"⟩, 70) := ⟨⟨by decide +kernel, by decide +kernel⟩, List.mem_of_getElem? (i := 1057) (by decide +kernel), List.mem_of_getElem? (i := 1492) (by decide +kernel), List.mem_of_getElem? (i := 1493) (by decide +kernel)⟩
theorem lw_p97 : lw_okq (⟨"KeptTreeModel", "isLike", "(IIIII)Z"⟩, 70) := ⟨⟨by decide +kernel, by decide +kernel⟩, List.mem_of_getElem? (i := 1057) (by decide +kernel), List.mem_of_getElem? (i := 1496) (by decide +kernel), List.mem_of_getElem? (i := 1497) (by decide +kernel)⟩
theorem lw_p98 : lw_okq (⟨"KeptTreeModel", "wereAll", "(I)Z"⟩, 70) := ⟨⟨by decide +kernel, by decide +kernel⟩, List.mem_of_getElem? (i := 1057) (by decide +kernel), List.mem_of_getElem? (i := 1500) (by decide +kernel), List.mem_of_getElem? (i := 1501) (by decide +kernel)⟩
theorem lw_p99 : lw_okq (⟨"KeptTreeModel", "wasThere", "(III)Z"⟩, 70) := ⟨⟨by decide +kernel, by decide +kernel⟩, List.mem_of_getElem? (i := 1057) (by decide +kernel), List.mem_of_getElem? (i := 1504) (by decide +kernel), List.mem_of_getElem? (i := 1505) (by decide +kernel)⟩
theorem lw_p100 : lw_okq (⟨"KeptTreeModel", "isOf", "(II)Z"⟩, 70) := ⟨⟨by decide +kernel, by decide +kernel⟩, List.mem_of_getElem? (i := 1057) (by decide +kernel), List.mem_of_getElem? (i := 1512) (by decide +kernel), List.mem_of_getElem? (i := 1513) (by decide +kernel)⟩
theorem lw_p101 : lw_okq (⟨"KeptTreeModel", "isNode", "(I)Z"⟩, 70) := ⟨⟨by decide +kernel, by decide +kernel⟩, List.mem_of_getElem? (i := 1057) (by decide +kernel), List.mem_of_getElem? (i := 1516) (by decide +kernel), List.mem_of_getElem? (i := 1517) (by decide +kernel)⟩
theorem lw_p102 : lw_okq (⟨"KeptTreeModel", "isTapeWord", "(I)Z"⟩, 70) := ⟨⟨by decide +kernel, by decide +kernel⟩, List.mem_of_getElem? (i := 1057) (by decide +kernel), List.mem_of_getElem? (i := 1520) (by decide +kernel), List.mem_of_getElem? (i := 1521) (by decide +kernel)⟩
theorem lw_p103 : lw_okq (⟨"KeptTreeModel", "usesOf", "(I)I"⟩, 70) := ⟨⟨by decide +kernel, by decide +kernel⟩, List.mem_of_getElem? (i := 1057) (by decide +kernel), List.mem_of_getElem? (i := 1524) (by decide +kernel), List.mem_of_getElem? (i := 1525) (by decide +kernel)⟩
theorem lw_p104 : lw_okq (⟨"KeptTreeModel", "areNames", "(II)Z"⟩, 70) := ⟨⟨by decide +kernel, by decide +kernel⟩, List.mem_of_getElem? (i := 1057) (by decide +kernel), List.mem_of_getElem? (i := 1528) (by decide +kernel), List.mem_of_getElem? (i := 1529) (by decide +kernel)⟩
theorem lw_p105 : lw_okq (⟨"KeptTreeModel", "isLikeToken", "(II)Z"⟩, 70) := ⟨⟨by decide +kernel, by decide +kernel⟩, List.mem_of_getElem? (i := 1057) (by decide +kernel), List.mem_of_getElem? (i := 1532) (by decide +kernel), List.mem_of_getElem? (i := 1533) (by decide +kernel)⟩
theorem lw_p106 : lw_okq (⟨"KeptTreeModel", "isTapeLike", "(II)Z"⟩, 70) := ⟨⟨by decide +kernel, by decide +kernel⟩, List.mem_of_getElem? (i := 1057) (by decide +kernel), List.mem_of_getElem? (i := 1536) (by decide +kernel), List.mem_of_getElem? (i := 1537) (by decide +kernel)⟩
theorem lw_p107 : lw_okq (⟨"KeptTreeModel", "from", "(I)I"⟩, 70) := ⟨⟨by decide +kernel, by decide +kernel⟩, List.mem_of_getElem? (i := 1057) (by decide +kernel), List.mem_of_getElem? (i := 1540) (by decide +kernel), List.mem_of_getElem? (i := 1541) (by decide +kernel)⟩
theorem lw_p108 : lw_okq (⟨"KeptTreeModel", "tokenEnd", "(I)I"⟩, 70) := ⟨⟨by decide +kernel, by decide +kernel⟩, List.mem_of_getElem? (i := 1057) (by decide +kernel), List.mem_of_getElem? (i := 1544) (by decide +kernel), List.mem_of_getElem? (i := 1545) (by decide +kernel)⟩
theorem lw_p109 : lw_okq (⟨"KeptTreeModel", "comeText", "(II)V"⟩, 70) := ⟨⟨by decide +kernel, by decide +kernel⟩, List.mem_of_getElem? (i := 1057) (by decide +kernel), List.mem_of_getElem? (i := 1548) (by decide +kernel), List.mem_of_getElem? (i := 1549) (by decide +kernel)⟩
theorem lw_p110 : lw_okq (⟨"KeptTreeModel", "to", "(I)I"⟩, 70) := ⟨⟨by decide +kernel, by decide +kernel⟩, List.mem_of_getElem? (i := 1057) (by decide +kernel), List.mem_of_getElem? (i := 1552) (by decide +kernel), List.mem_of_getElem? (i := 1553) (by decide +kernel)⟩
theorem lw_p111 : lw_okq (⟨"KeptTreeModel", "isItem", "(I)Z"⟩, 70) := ⟨⟨by decide +kernel, by decide +kernel⟩, List.mem_of_getElem? (i := 1057) (by decide +kernel), List.mem_of_getElem? (i := 1560) (by decide +kernel), List.mem_of_getElem? (i := 1561) (by decide +kernel)⟩
def lw_privs_7 : List (MethodName × Nat) := [(⟨"KeptTreeModel", "wasOf", "(IIII)I"⟩, 70), (⟨"KeptTreeModel", "isLike", "(IIIII)Z"⟩, 70), (⟨"KeptTreeModel", "wereAll", "(I)Z"⟩, 70), (⟨"KeptTreeModel", "wasThere", "(III)Z"⟩, 70), (⟨"KeptTreeModel", "isOf", "(II)Z"⟩, 70), (⟨"KeptTreeModel", "isNode", "(I)Z"⟩, 70), (⟨"KeptTreeModel", "isTapeWord", "(I)Z"⟩, 70), (⟨"KeptTreeModel", "usesOf", "(I)I"⟩, 70), (⟨"KeptTreeModel", "areNames", "(II)Z"⟩, 70), (⟨"KeptTreeModel", "isLikeToken", "(II)Z"⟩, 70), (⟨"KeptTreeModel", "isTapeLike", "(II)Z"⟩, 70), (⟨"KeptTreeModel", "from", "(I)I"⟩, 70), (⟨"KeptTreeModel", "tokenEnd", "(I)I"⟩, 70), (⟨"KeptTreeModel", "comeText", "(II)V"⟩, 70), (⟨"KeptTreeModel", "to", "(I)I"⟩, 70), (⟨"KeptTreeModel", "isItem", "(I)Z"⟩, 70)]
theorem lw_r7 : ∀ q ∈ lw_privs_7, lw_okq q := List.forall_mem_cons.mpr ⟨lw_p96, List.forall_mem_cons.mpr ⟨lw_p97, List.forall_mem_cons.mpr ⟨lw_p98, List.forall_mem_cons.mpr ⟨lw_p99, List.forall_mem_cons.mpr ⟨lw_p100, List.forall_mem_cons.mpr ⟨lw_p101, List.forall_mem_cons.mpr ⟨lw_p102, List.forall_mem_cons.mpr ⟨lw_p103, List.forall_mem_cons.mpr ⟨lw_p104, List.forall_mem_cons.mpr ⟨lw_p105, List.forall_mem_cons.mpr ⟨lw_p106, List.forall_mem_cons.mpr ⟨lw_p107, List.forall_mem_cons.mpr ⟨lw_p108, List.forall_mem_cons.mpr ⟨lw_p109, List.forall_mem_cons.mpr ⟨lw_p110, List.forall_mem_cons.mpr ⟨lw_p111, fun _ h => absurd h List.not_mem_nil⟩⟩⟩⟩⟩⟩⟩⟩⟩⟩⟩⟩⟩⟩⟩⟩
theorem lw_p112 : lw_okq (⟨"KeptTreeModel", "isIn", "(II)Z"⟩, 70) := ⟨⟨by decide +kernel, by decide +kernel⟩, List.mem_of_getElem? (i := 1057) (by decide +kernel), List.mem_of_getElem? (i := 1572) (by decide +kernel), List.mem_of_getElem? (i := 1573) (by decide +kernel)⟩
theorem lw_p113 : lw_okq (⟨"KeptTreeModel", "lastChild", "(I)I"⟩, 70) := ⟨⟨by decide +kernel, by decide +kernel⟩, List.mem_of_getElem? (i := 1057) (by decide +kernel), List.mem_of_getElem? (i := 1584) (by decide +kernel), List.mem_of_getElem? (i := 1585) (by decide +kernel)⟩
theorem lw_p114 : lw_okq (⟨"KeptTreeModel", "childOf", "(II)I"⟩, 70) := ⟨⟨by decide +kernel, by decide +kernel⟩, List.mem_of_getElem? (i := 1057) (by decide +kernel), List.mem_of_getElem? (i := 1588) (by decide +kernel), List.mem_of_getElem? (i := 1589) (by decide +kernel)⟩
theorem lw_p115 : lw_okq (⟨"KeptTreeModel", "isMended", "(I)Z"⟩, 70) := ⟨⟨by decide +kernel, by decide +kernel⟩, List.mem_of_getElem? (i := 1057) (by decide +kernel), List.mem_of_getElem? (i := 1596) (by decide +kernel), List.mem_of_getElem? (i := 1597) (by decide +kernel)⟩
theorem lw_p116 : lw_okq (⟨"KeptTreeModel", "readsText", "([II)V"⟩, 70) := ⟨⟨by decide +kernel, by decide +kernel⟩, List.mem_of_getElem? (i := 1057) (by decide +kernel), List.mem_of_getElem? (i := 1604) (by decide +kernel), List.mem_of_getElem? (i := 1605) (by decide +kernel)⟩
theorem lw_p117 : lw_okq (⟨"KeptTreeModel", "deepest", "()I"⟩, 70) := ⟨⟨by decide +kernel, by decide +kernel⟩, List.mem_of_getElem? (i := 1057) (by decide +kernel), List.mem_of_getElem? (i := 1616) (by decide +kernel), List.mem_of_getElem? (i := 1617) (by decide +kernel)⟩
theorem lw_p118 : lw_okq (⟨"KeptTreeModel", "tokenWith", "(I)I"⟩, 70) := ⟨⟨by decide +kernel, by decide +kernel⟩, List.mem_of_getElem? (i := 1057) (by decide +kernel), List.mem_of_getElem? (i := 1632) (by decide +kernel), List.mem_of_getElem? (i := 1633) (by decide +kernel)⟩
theorem lw_p119 : lw_okq (⟨"KeptTreeModel", "commonOf", "(II)I"⟩, 70) := ⟨⟨by decide +kernel, by decide +kernel⟩, List.mem_of_getElem? (i := 1057) (by decide +kernel), List.mem_of_getElem? (i := 1662) (by decide +kernel), List.mem_of_getElem? (i := 1663) (by decide +kernel)⟩
theorem lw_p120 : lw_okq (⟨"KeptTreeModel", "mateOf", "(I)I"⟩, 70) := ⟨⟨by decide +kernel, by decide +kernel⟩, List.mem_of_getElem? (i := 1057) (by decide +kernel), List.mem_of_getElem? (i := 1670) (by decide +kernel), List.mem_of_getElem? (i := 1671) (by decide +kernel)⟩
theorem lw_p121 : lw_okq (⟨"KeptTreeModel", "lineOf", "(I)I"⟩, 70) := ⟨⟨by decide +kernel, by decide +kernel⟩, List.mem_of_getElem? (i := 1057) (by decide +kernel), List.mem_of_getElem? (i := 1678) (by decide +kernel), List.mem_of_getElem? (i := 1679) (by decide +kernel)⟩
theorem lw_p122 : lw_okq (⟨"KeptTreeModel", "isLine", "(I)Z"⟩, 70) := ⟨⟨by decide +kernel, by decide +kernel⟩, List.mem_of_getElem? (i := 1057) (by decide +kernel), List.mem_of_getElem? (i := 1690) (by decide +kernel), List.mem_of_getElem? (i := 1691) (by decide +kernel)⟩
theorem lw_p123 : lw_okq (⟨"KeptTreeModel", "byteAt", "(I)I"⟩, 70) := ⟨⟨by decide +kernel, by decide +kernel⟩, List.mem_of_getElem? (i := 1057) (by decide +kernel), List.mem_of_getElem? (i := 1706) (by decide +kernel), List.mem_of_getElem? (i := 1707) (by decide +kernel)⟩
theorem lw_p124 : lw_okq (⟨"KeptTreeModel", "areAlike", "(II)Z"⟩, 70) := ⟨⟨by decide +kernel, by decide +kernel⟩, List.mem_of_getElem? (i := 1057) (by decide +kernel), List.mem_of_getElem? (i := 1714) (by decide +kernel), List.mem_of_getElem? (i := 1715) (by decide +kernel)⟩
theorem lw_p125 : lw_okq (⟨"KeptTreeModel", "isLikeNode", "(II)Z"⟩, 70) := ⟨⟨by decide +kernel, by decide +kernel⟩, List.mem_of_getElem? (i := 1057) (by decide +kernel), List.mem_of_getElem? (i := 1718) (by decide +kernel), List.mem_of_getElem? (i := 1719) (by decide +kernel)⟩
theorem lw_p126 : lw_okq (⟨"KeptTreeModel", "wrongAt", "(I)I"⟩, 70) := ⟨⟨by decide +kernel, by decide +kernel⟩, List.mem_of_getElem? (i := 1057) (by decide +kernel), List.mem_of_getElem? (i := 1734) (by decide +kernel), List.mem_of_getElem? (i := 1735) (by decide +kernel)⟩
theorem lw_p127 : lw_okq (⟨"KeptTreeModel", "isWrong", "(I)Z"⟩, 70) := ⟨⟨by decide +kernel, by decide +kernel⟩, List.mem_of_getElem? (i := 1057) (by decide +kernel), List.mem_of_getElem? (i := 1738) (by decide +kernel), List.mem_of_getElem? (i := 1739) (by decide +kernel)⟩
def lw_privs_8 : List (MethodName × Nat) := [(⟨"KeptTreeModel", "isIn", "(II)Z"⟩, 70), (⟨"KeptTreeModel", "lastChild", "(I)I"⟩, 70), (⟨"KeptTreeModel", "childOf", "(II)I"⟩, 70), (⟨"KeptTreeModel", "isMended", "(I)Z"⟩, 70), (⟨"KeptTreeModel", "readsText", "([II)V"⟩, 70), (⟨"KeptTreeModel", "deepest", "()I"⟩, 70), (⟨"KeptTreeModel", "tokenWith", "(I)I"⟩, 70), (⟨"KeptTreeModel", "commonOf", "(II)I"⟩, 70), (⟨"KeptTreeModel", "mateOf", "(I)I"⟩, 70), (⟨"KeptTreeModel", "lineOf", "(I)I"⟩, 70), (⟨"KeptTreeModel", "isLine", "(I)Z"⟩, 70), (⟨"KeptTreeModel", "byteAt", "(I)I"⟩, 70), (⟨"KeptTreeModel", "areAlike", "(II)Z"⟩, 70), (⟨"KeptTreeModel", "isLikeNode", "(II)Z"⟩, 70), (⟨"KeptTreeModel", "wrongAt", "(I)I"⟩, 70), (⟨"KeptTreeModel", "isWrong", "(I)Z"⟩, 70)]
theorem lw_r8 : ∀ q ∈ lw_privs_8, lw_okq q := List.forall_mem_cons.mpr ⟨lw_p112, List.forall_mem_cons.mpr ⟨lw_p113, List.forall_mem_cons.mpr ⟨lw_p114, List.forall_mem_cons.mpr ⟨lw_p115, List.forall_mem_cons.mpr ⟨lw_p116, List.forall_mem_cons.mpr ⟨lw_p117, List.forall_mem_cons.mpr ⟨lw_p118, List.forall_mem_cons.mpr ⟨lw_p119, List.forall_mem_cons.mpr ⟨lw_p120, List.forall_mem_cons.mpr ⟨lw_p121, List.forall_mem_cons.mpr ⟨lw_p122, List.forall_mem_cons.mpr ⟨lw_p123, List.forall_mem_cons.mpr ⟨lw_p124, List.forall_mem_cons.mpr ⟨lw_p125, List.forall_mem_cons.mpr ⟨lw_p126, List.forall_mem_cons.mpr ⟨lw_p127, fun _ h => absurd h List.not_mem_nil⟩⟩⟩⟩⟩⟩⟩⟩⟩⟩⟩⟩⟩⟩⟩⟩
theorem lw_p128 : lw_okq (⟨"KeptTreeModel", "isWithinKept", "(I)Z"⟩, 70) := ⟨⟨by decide +kernel, by decide +kernel⟩, List.mem_of_getElem? (i := 1057) (by decide +kernel), List.mem_of_getElem? (i := 1758) (by decide +kernel), List.mem_of_getElem? (i := 1759) (by decide +kernel)⟩
theorem lw_p129 : lw_okq (⟨"KeptTreeModel", "isFirstName", "(I)Z"⟩, 70) := ⟨⟨by decide +kernel, by decide +kernel⟩, List.mem_of_getElem? (i := 1057) (by decide +kernel), List.mem_of_getElem? (i := 1770) (by decide +kernel), List.mem_of_getElem? (i := 1771) (by decide +kernel)⟩
theorem lw_p130 : lw_okq (⟨"KeptTreeModel", "hasValue", "(I)Z"⟩, 70) := ⟨⟨by decide +kernel, by decide +kernel⟩, List.mem_of_getElem? (i := 1057) (by decide +kernel), List.mem_of_getElem? (i := 1782) (by decide +kernel), List.mem_of_getElem? (i := 1783) (by decide +kernel)⟩
theorem lw_p131 : lw_okq (⟨"KeptTreeModel", "valueOf", "(I)J"⟩, 70) := ⟨⟨by decide +kernel, by decide +kernel⟩, List.mem_of_getElem? (i := 1057) (by decide +kernel), List.mem_of_getElem? (i := 1787) (by decide +kernel), List.mem_of_getElem? (i := 1788) (by decide +kernel)⟩
theorem lw_p132 : lw_okq (⟨"KeptTreeModel", "numberTold", "(I)J"⟩, 70) := ⟨⟨by decide +kernel, by decide +kernel⟩, List.mem_of_getElem? (i := 1057) (by decide +kernel), List.mem_of_getElem? (i := 1791) (by decide +kernel), List.mem_of_getElem? (i := 1792) (by decide +kernel)⟩
theorem lw_p133 : lw_okq (⟨"KeptTreeModel", "reckoned", "(I)J"⟩, 70) := ⟨⟨by decide +kernel, by decide +kernel⟩, List.mem_of_getElem? (i := 1057) (by decide +kernel), List.mem_of_getElem? (i := 1798) (by decide +kernel), List.mem_of_getElem? (i := 1799) (by decide +kernel)⟩
theorem lw_p134 : lw_okq (⟨"KeptTreeModel", "aroundOf", "(III)I"⟩, 70) := ⟨⟨by decide +kernel, by decide +kernel⟩, List.mem_of_getElem? (i := 1057) (by decide +kernel), List.mem_of_getElem? (i := 1810) (by decide +kernel), List.mem_of_getElem? (i := 1811) (by decide +kernel)⟩
def lw_privs_9 : List (MethodName × Nat) := [(⟨"KeptTreeModel", "isWithinKept", "(I)Z"⟩, 70), (⟨"KeptTreeModel", "isFirstName", "(I)Z"⟩, 70), (⟨"KeptTreeModel", "hasValue", "(I)Z"⟩, 70), (⟨"KeptTreeModel", "valueOf", "(I)J"⟩, 70), (⟨"KeptTreeModel", "numberTold", "(I)J"⟩, 70), (⟨"KeptTreeModel", "reckoned", "(I)J"⟩, 70), (⟨"KeptTreeModel", "aroundOf", "(III)I"⟩, 70)]
theorem lw_r9 : ∀ q ∈ lw_privs_9, lw_okq q := List.forall_mem_cons.mpr ⟨lw_p128, List.forall_mem_cons.mpr ⟨lw_p129, List.forall_mem_cons.mpr ⟨lw_p130, List.forall_mem_cons.mpr ⟨lw_p131, List.forall_mem_cons.mpr ⟨lw_p132, List.forall_mem_cons.mpr ⟨lw_p133, List.forall_mem_cons.mpr ⟨lw_p134, fun _ h => absurd h List.not_mem_nil⟩⟩⟩⟩⟩⟩⟩
def lw_privs : List (MethodName × Nat) := lw_privs_1 ++ (lw_privs_2 ++ (lw_privs_3 ++ (lw_privs_4 ++ (lw_privs_5 ++ (lw_privs_6 ++ (lw_privs_7 ++ (lw_privs_8 ++ (lw_privs_9))))))))
def lw_tbl : List Cond := k2_sels lw_privs ++ tables_1
theorem lw_privs_ok : ∀ q ∈ lw_privs, lw_okq q := by
  show ∀ q ∈ lw_privs_1 ++ (lw_privs_2 ++ (lw_privs_3 ++ (lw_privs_4 ++ (lw_privs_5 ++ (lw_privs_6 ++ (lw_privs_7 ++ (lw_privs_8 ++ (lw_privs_9)))))))), lw_okq q
  exact List.forall_mem_append.mpr ⟨lw_r1, List.forall_mem_append.mpr ⟨lw_r2, List.forall_mem_append.mpr ⟨lw_r3, List.forall_mem_append.mpr ⟨lw_r4, List.forall_mem_append.mpr ⟨lw_r5, List.forall_mem_append.mpr ⟨lw_r6, List.forall_mem_append.mpr ⟨lw_r7, List.forall_mem_append.mpr ⟨lw_r8, lw_r9⟩⟩⟩⟩⟩⟩⟩⟩
-- ===== end of PART A; then your names; then what follows =====
end
section
def RX0 : String := "KeptTree$Bytes"
def TX0 : u_T := fun k => match k with
  | 0 => ("KeptTree$Bytes", "row", "[I", true)
  | 1 => ("KeptTree$Bytes", "held", "I", false)
  | _ => ("KeptTree$Bytes", "spilled", "Z", false)
def tyX0 : Nat → FieldType := fun k => match k with
  | 0 => .array .int
  | 1 => .int
  | _ => .boolean
abbrev wsX00 : List Cond := u_ws RX0 TX0 3
theorem nmX0 : ∀ a, a < 3 → ∀ b, b < 3 → a ≠ b → (TX0 a).2.1 ≠ (TX0 b).2.1 := by decide +kernel
theorem tyX0_ok : ∀ k, k < 3 → parseFieldDescriptor (TX0 k).2.2.1 = some (tyX0 k) := by decide +kernel
def RX1 : String := "KeptTree$History"
def TX1 : u_T := fun k => match k with
  | 0 => ("KeptTree$History", "texts", "[LKeptTree$Bytes;", true)
  | 1 => ("KeptTree$History", "now", "I", false)
  | _ => ("KeptTree$History", "last", "I", false)
def tyX1 : Nat → FieldType := fun k => match k with
  | 0 => .array (.object "KeptTree$Bytes")
  | 1 => .int
  | _ => .int
abbrev wsX10 : List Cond := u_ws RX1 TX1 3
theorem nmX1 : ∀ a, a < 3 → ∀ b, b < 3 → a ≠ b → (TX1 a).2.1 ≠ (TX1 b).2.1 := by decide +kernel
theorem tyX1_ok : ∀ k, k < 3 → parseFieldDescriptor (TX1 k).2.2.1 = some (tyX1 k) := by decide +kernel
def RX2 : String := "KeptTree$Keeper"
def TX2 : u_T := fun k => match k with
  | 0 => ("KeptTree$Keeper", "tokens", "LKeptTree$Tokens;", true)
  | 1 => ("KeptTree$Keeper", "tree", "LKeptTree$Tree;", true)
  | 2 => ("KeptTree$Keeper", "oldTokenSorts", "[I", true)
  | 3 => ("KeptTree$Keeper", "oldTokenLengths", "[I", true)
  | 4 => ("KeptTree$Keeper", "oldTokenReads", "[I", true)
  | 5 => ("KeptTree$Keeper", "oldTokenAt", "[I", true)
  | 6 => ("KeptTree$Keeper", "oldTokens", "I", false)
  | 7 => ("KeptTree$Keeper", "oldSorts", "[I", true)
  | 8 => ("KeptTree$Keeper", "oldFroms", "[I", true)
  | 9 => ("KeptTree$Keeper", "oldTakens", "[I", true)
  | 10 => ("KeptTree$Keeper", "oldNodeAt", "[I", true)
  | 11 => ("KeptTree$Keeper", "oldNodes", "I", false)
  | 12 => ("KeptTree$Keeper", "origins", "[I", true)
  | 13 => ("KeptTree$Keeper", "runs", "[I", true)
  | 14 => ("KeptTree$Keeper", "kept", "[Z", true)
  | 15 => ("KeptTree$Keeper", "losses", "[I", true)
  | 16 => ("KeptTree$Keeper", "tokensKept", "I", false)
  | _ => ("KeptTree$Keeper", "nodesKept", "I", false)
def tyX2 : Nat → FieldType := fun k => match k with
  | 0 => .object "KeptTree$Tokens"
  | 1 => .object "KeptTree$Tree"
  | 2 => .array .int
  | 3 => .array .int
  | 4 => .array .int
  | 5 => .array .int
  | 6 => .int
  | 7 => .array .int
  | 8 => .array .int
  | 9 => .array .int
  | 10 => .array .int
  | 11 => .int
  | 12 => .array .int
  | 13 => .array .int
  | 14 => .array .boolean
  | 15 => .array .int
  | 16 => .int
  | _ => .int
abbrev wsX20 : List Cond := u_ws RX2 TX2 18
theorem nmX2 : ∀ a, a < 18 → ∀ b, b < 18 → a ≠ b → (TX2 a).2.1 ≠ (TX2 b).2.1 := by decide +kernel
theorem tyX2_ok : ∀ k, k < 18 → parseFieldDescriptor (TX2 k).2.2.1 = some (tyX2 k) := by decide +kernel
def RX3 : String := "KeptTree$Parser"
def TX3 : u_T := fun k => match k with
  | 0 => ("KeptTree$Parser", "tokens", "LKeptTree$Tokens;", true)
  | 1 => ("KeptTree$Parser", "tree", "LKeptTree$Tree;", true)
  | 2 => ("KeptTree$Parser", "sorts", "[I", true)
  | 3 => ("KeptTree$Parser", "froms", "[I", true)
  | 4 => ("KeptTree$Parser", "uptos", "[I", true)
  | 5 => ("KeptTree$Parser", "signs", "[I", true)
  | 6 => ("KeptTree$Parser", "ups", "[I", true)
  | 7 => ("KeptTree$Parser", "firstKids", "[I", true)
  | 8 => ("KeptTree$Parser", "lastKids", "[I", true)
  | 9 => ("KeptTree$Parser", "nexts", "[I", true)
  | 10 => ("KeptTree$Parser", "places", "[I", true)
  | 11 => ("KeptTree$Parser", "held", "I", false)
  | _ => ("KeptTree$Parser", "at", "I", false)
def tyX3 : Nat → FieldType := fun k => match k with
  | 0 => .object "KeptTree$Tokens"
  | 1 => .object "KeptTree$Tree"
  | 2 => .array .int
  | 3 => .array .int
  | 4 => .array .int
  | 5 => .array .int
  | 6 => .array .int
  | 7 => .array .int
  | 8 => .array .int
  | 9 => .array .int
  | 10 => .array .int
  | 11 => .int
  | _ => .int
abbrev wsX30 : List Cond := u_ws RX3 TX3 13
theorem nmX3 : ∀ a, a < 13 → ∀ b, b < 13 → a ≠ b → (TX3 a).2.1 ≠ (TX3 b).2.1 := by decide +kernel
theorem tyX3_ok : ∀ k, k < 13 → parseFieldDescriptor (TX3 k).2.2.1 = some (tyX3 k) := by decide +kernel
def RX4 : String := "KeptTree$Tokens"
def TX4 : u_T := fun k => match k with
  | 0 => ("KeptTree$Tokens", "text", "LKeptTree$Bytes;", true)
  | 1 => ("KeptTree$Tokens", "sorts", "[I", true)
  | 2 => ("KeptTree$Tokens", "firsts", "[I", true)
  | 3 => ("KeptTree$Tokens", "ends", "[I", true)
  | 4 => ("KeptTree$Tokens", "reads", "[I", true)
  | 5 => ("KeptTree$Tokens", "signs", "[I", true)
  | _ => ("KeptTree$Tokens", "held", "I", false)
def tyX4 : Nat → FieldType := fun k => match k with
  | 0 => .object "KeptTree$Bytes"
  | 1 => .array .int
  | 2 => .array .int
  | 3 => .array .int
  | 4 => .array .int
  | 5 => .array .int
  | _ => .int
abbrev wsX40 : List Cond := u_ws RX4 TX4 7
theorem nmX4 : ∀ a, a < 7 → ∀ b, b < 7 → a ≠ b → (TX4 a).2.1 ≠ (TX4 b).2.1 := by decide +kernel
theorem tyX4_ok : ∀ k, k < 7 → parseFieldDescriptor (TX4 k).2.2.1 = some (tyX4 k) := by decide +kernel
def RX5 : String := "KeptTree$Tree"
def TX5 : u_T := fun k => match k with
  | 0 => ("KeptTree$Tree", "text", "LKeptTree$Bytes;", true)
  | 1 => ("KeptTree$Tree", "tokens", "LKeptTree$Tokens;", true)
  | 2 => ("KeptTree$Tree", "sorts", "[I", true)
  | 3 => ("KeptTree$Tree", "ups", "[I", true)
  | 4 => ("KeptTree$Tree", "kids", "[I", true)
  | 5 => ("KeptTree$Tree", "sizes", "[I", true)
  | 6 => ("KeptTree$Tree", "depths", "[I", true)
  | 7 => ("KeptTree$Tree", "froms", "[I", true)
  | 8 => ("KeptTree$Tree", "takens", "[I", true)
  | 9 => ("KeptTree$Tree", "signs", "[I", true)
  | 10 => ("KeptTree$Tree", "leaves", "[I", true)
  | _ => ("KeptTree$Tree", "held", "I", false)
def tyX5 : Nat → FieldType := fun k => match k with
  | 0 => .object "KeptTree$Bytes"
  | 1 => .object "KeptTree$Tokens"
  | 2 => .array .int
  | 3 => .array .int
  | 4 => .array .int
  | 5 => .array .int
  | 6 => .array .int
  | 7 => .array .int
  | 8 => .array .int
  | 9 => .array .int
  | 10 => .array .int
  | _ => .int
abbrev wsX50 : List Cond := u_ws RX5 TX5 12
theorem nmX5 : ∀ a, a < 12 → ∀ b, b < 12 → a ≠ b → (TX5 a).2.1 ≠ (TX5 b).2.1 := by decide +kernel
theorem tyX5_ok : ∀ k, k < 12 → parseFieldDescriptor (TX5 k).2.2.1 = some (tyX5 k) := by decide +kernel
def RX6 : String := "KeptTree$Worth"
def TX6 : u_T := fun k => match k with
  | 0 => ("KeptTree$Worth", "text", "LKeptTree$Bytes;", true)
  | 1 => ("KeptTree$Worth", "tree", "LKeptTree$Tree;", true)
  | _ => ("KeptTree$Worth", "worths", "[J", true)
def tyX6 : Nat → FieldType := fun k => match k with
  | 0 => .object "KeptTree$Bytes"
  | 1 => .object "KeptTree$Tree"
  | _ => .array .long
abbrev wsX60 : List Cond := u_ws RX6 TX6 3
theorem nmX6 : ∀ a, a < 3 → ∀ b, b < 3 → a ≠ b → (TX6 a).2.1 ≠ (TX6 b).2.1 := by decide +kernel
theorem tyX6_ok : ∀ k, k < 3 → parseFieldDescriptor (TX6 k).2.2.1 = some (tyX6 k) := by decide +kernel
def RX7 : String := "KeptTree"
def TX7 : u_T := fun k => match k with
  | 0 => ("KeptTree", "text", "LKeptTree$Bytes;", true)
  | 1 => ("KeptTree", "tape", "LKeptTree$Bytes;", true)
  | 2 => ("KeptTree", "draft", "LKeptTree$Bytes;", true)
  | 3 => ("KeptTree", "history", "LKeptTree$History;", true)
  | 4 => ("KeptTree", "tokens", "LKeptTree$Tokens;", true)
  | 5 => ("KeptTree", "tree", "LKeptTree$Tree;", true)
  | 6 => ("KeptTree", "parser", "LKeptTree$Parser;", true)
  | 7 => ("KeptTree", "keeper", "LKeptTree$Keeper;", true)
  | 8 => ("KeptTree", "worth", "LKeptTree$Worth;", true)
  | 9 => ("KeptTree", "editsKept", "J", false)
  | _ => ("KeptTree", "editsNodes", "J", false)
def tyX7 : Nat → FieldType := fun k => match k with
  | 0 => .object "KeptTree$Bytes"
  | 1 => .object "KeptTree$Bytes"
  | 2 => .object "KeptTree$Bytes"
  | 3 => .object "KeptTree$History"
  | 4 => .object "KeptTree$Tokens"
  | 5 => .object "KeptTree$Tree"
  | 6 => .object "KeptTree$Parser"
  | 7 => .object "KeptTree$Keeper"
  | 8 => .object "KeptTree$Worth"
  | 9 => .long
  | _ => .long
abbrev wsX70 : List Cond := u_ws RX7 TX7 11
theorem nmX7 : ∀ a, a < 11 → ∀ b, b < 11 → a ≠ b → (TX7 a).2.1 ≠ (TX7 b).2.1 := by decide +kernel
theorem tyX7_ok : ∀ k, k < 11 → parseFieldDescriptor (TX7 k).2.2.1 = some (tyX7 k) := by decide +kernel
def RX8 : String := "KeptTreeModel"
def TX8 : u_T := fun k => match k with
  | 0 => ("KeptTreeModel", "tape", "[I", true)
  | 1 => ("KeptTreeModel", "text", "[I", true)
  | 2 => ("KeptTreeModel", "fresh", "[I", true)
  | 3 => ("KeptTreeModel", "taped", "I", false)
  | 4 => ("KeptTreeModel", "size", "I", false)
  | 5 => ("KeptTreeModel", "freshMany", "I", false)
  | 6 => ("KeptTreeModel", "tokenSort", "[I", true)
  | 7 => ("KeptTreeModel", "tokenAt", "[I", true)
  | 8 => ("KeptTreeModel", "tokenLong", "[I", true)
  | 9 => ("KeptTreeModel", "tokenRead", "[I", true)
  | 10 => ("KeptTreeModel", "tokens", "I", false)
  | 11 => ("KeptTreeModel", "madeSort", "[I", true)
  | 12 => ("KeptTreeModel", "madeToken", "[I", true)
  | 13 => ("KeptTreeModel", "madeSign", "[I", true)
  | 14 => ("KeptTreeModel", "madeNext", "[I", true)
  | 15 => ("KeptTreeModel", "madeChild", "[I", true)
  | 16 => ("KeptTreeModel", "madeLast", "[I", true)
  | 17 => ("KeptTreeModel", "madeSibling", "[I", true)
  | 18 => ("KeptTreeModel", "madeParent", "[I", true)
  | 19 => ("KeptTreeModel", "made", "I", false)
  | 20 => ("KeptTreeModel", "openKind", "[I", true)
  | 21 => ("KeptTreeModel", "openStep", "[I", true)
  | 22 => ("KeptTreeModel", "openNode", "[I", true)
  | 23 => ("KeptTreeModel", "openMore", "[I", true)
  | 24 => ("KeptTreeModel", "row", "[I", true)
  | 25 => ("KeptTreeModel", "pieceNode", "[I", true)
  | 26 => ("KeptTreeModel", "pieceLong", "[I", true)
  | 27 => ("KeptTreeModel", "open", "I", false)
  | 28 => ("KeptTreeModel", "at", "I", false)
  | 29 => ("KeptTreeModel", "nest", "I", false)
  | 30 => ("KeptTreeModel", "rowLong", "I", false)
  | 31 => ("KeptTreeModel", "result", "I", false)
  | 32 => ("KeptTreeModel", "sortOf", "[I", true)
  | 33 => ("KeptTreeModel", "parentOf", "[I", true)
  | 34 => ("KeptTreeModel", "depthOf", "[I", true)
  | 35 => ("KeptTreeModel", "childMany", "[I", true)
  | 36 => ("KeptTreeModel", "siblingOf", "[I", true)
  | 37 => ("KeptTreeModel", "tokenFirst", "[I", true)
  | 38 => ("KeptTreeModel", "tokenMany", "[I", true)
  | 39 => ("KeptTreeModel", "within", "[I", true)
  | 40 => ("KeptTreeModel", "signOf", "[I", true)
  | 41 => ("KeptTreeModel", "nextOf", "[I", true)
  | 42 => ("KeptTreeModel", "numberOf", "[I", true)
  | 43 => ("KeptTreeModel", "leafOf", "[I", true)
  | 44 => ("KeptTreeModel", "nodes", "I", false)
  | 45 => ("KeptTreeModel", "many", "[I", true)
  | 46 => ("KeptTreeModel", "oldMany", "[I", true)
  | 47 => ("KeptTreeModel", "lost", "[I", true)
  | 48 => ("KeptTreeModel", "lineAt", "[I", true)
  | 49 => ("KeptTreeModel", "lineMany", "I", false)
  | 50 => ("KeptTreeModel", "oldSort", "[I", true)
  | 51 => ("KeptTreeModel", "oldAt", "[I", true)
  | 52 => ("KeptTreeModel", "oldLong", "[I", true)
  | 53 => ("KeptTreeModel", "oldRead", "[I", true)
  | 54 => ("KeptTreeModel", "oldNodeSort", "[I", true)
  | 55 => ("KeptTreeModel", "oldNodeFirst", "[I", true)
  | 56 => ("KeptTreeModel", "oldNodeMany", "[I", true)
  | 57 => ("KeptTreeModel", "wasToken", "[I", true)
  | 58 => ("KeptTreeModel", "isKept", "[Z", true)
  | 59 => ("KeptTreeModel", "oldTokens", "I", false)
  | 60 => ("KeptTreeModel", "oldNodes", "I", false)
  | 61 => ("KeptTreeModel", "keptTokens", "I", false)
  | 62 => ("KeptTreeModel", "keptNodes", "I", false)
  | 63 => ("KeptTreeModel", "past", "[I", true)
  | 64 => ("KeptTreeModel", "future", "[I", true)
  | 65 => ("KeptTreeModel", "pastMany", "I", false)
  | 66 => ("KeptTreeModel", "futureMany", "I", false)
  | 67 => ("KeptTreeModel", "sharedKept", "I", false)
  | 68 => ("KeptTreeModel", "sharedNodes", "I", false)
  | _ => ("KeptTreeModel", "values", "[J", true)
def tyX8 : Nat → FieldType := fun k => match k with
  | 0 => .array .int
  | 1 => .array .int
  | 2 => .array .int
  | 3 => .int
  | 4 => .int
  | 5 => .int
  | 6 => .array .int
  | 7 => .array .int
  | 8 => .array .int
  | 9 => .array .int
  | 10 => .int
  | 11 => .array .int
  | 12 => .array .int
  | 13 => .array .int
  | 14 => .array .int
  | 15 => .array .int
  | 16 => .array .int
  | 17 => .array .int
  | 18 => .array .int
  | 19 => .int
  | 20 => .array .int
  | 21 => .array .int
  | 22 => .array .int
  | 23 => .array .int
  | 24 => .array .int
  | 25 => .array .int
  | 26 => .array .int
  | 27 => .int
  | 28 => .int
  | 29 => .int
  | 30 => .int
  | 31 => .int
  | 32 => .array .int
  | 33 => .array .int
  | 34 => .array .int
  | 35 => .array .int
  | 36 => .array .int
  | 37 => .array .int
  | 38 => .array .int
  | 39 => .array .int
  | 40 => .array .int
  | 41 => .array .int
  | 42 => .array .int
  | 43 => .array .int
  | 44 => .int
  | 45 => .array .int
  | 46 => .array .int
  | 47 => .array .int
  | 48 => .array .int
  | 49 => .int
  | 50 => .array .int
  | 51 => .array .int
  | 52 => .array .int
  | 53 => .array .int
  | 54 => .array .int
  | 55 => .array .int
  | 56 => .array .int
  | 57 => .array .int
  | 58 => .array .boolean
  | 59 => .int
  | 60 => .int
  | 61 => .int
  | 62 => .int
  | 63 => .array .int
  | 64 => .array .int
  | 65 => .int
  | 66 => .int
  | 67 => .int
  | 68 => .int
  | _ => .array .long
abbrev wsX80 : List Cond := u_ws RX8 TX8 70
theorem nmX8 : ∀ a, a < 70 → ∀ b, b < 70 → a ≠ b → (TX8 a).2.1 ≠ (TX8 b).2.1 := by decide +kernel
theorem tyX8_ok : ∀ k, k < 70 → parseFieldDescriptor (TX8 k).2.2.1 = some (tyX8 k) := by decide +kernel
abbrev vwCl : List vw_C := [(RX0, TX0, 3), (RX1, TX1, 3), (RX2, TX2, 18), (RX3, TX3, 13), (RX4, TX4, 7), (RX5, TX5, 12), (RX6, TX6, 3), (RX7, TX7, 11), (RX8, TX8, 70)]
end
section
/-! THE SMALL MACHINE: values are (tag, number): 0 int, 1 long, 2 reference (0 null, 1 on: the cells in the order of their making, -1 the script), 9 nothing.
A state: how many cells, how many slots, what each cell is (kind, length), what it holds. Kinds 0 to 8: the classes of vwCl; 9 int[], 10 long[], 11 boolean[], 12 Bytes[]. -/
abbrev zV : Type := Nat × Int
abbrev zM : Type := Int → Int → Int
abbrev zS : Type := Nat × Nat × (Int → Nat × Nat) × zM
abbrev zO : Type := Nat × Nat × Int × Int × Int × List (Int × Int)
def z_w (x : Int) : Int := (x + 2147483648) % 4294967296 - 2147483648
def z_W (x : Int) : Int := (x + 9223372036854775808) % 18446744073709551616 - 9223372036854775808
def z_upd (M : zM) (a i v : Int) : zM := fun a' i' => if a' = a ∧ i' = i then v else M a' i'
def z_shu (f : Int → Nat × Nat) (a : Int) (v : Nat × Nat) : Int → Nat × Nat := fun a' => if a' = a then v else f a'
def z_i32 (x : Int) : Prop := -2147483648 ≤ x ∧ x < 2147483648
def z_i64 (x : Int) : Prop := -9223372036854775808 ≤ x ∧ x < 9223372036854775808
def z_okv (v : zV) : Prop := (v.1 = 0 → z_i32 v.2) ∧ (v.1 = 1 → z_i64 v.2)
/-- a field's type by a number: 0 int, 1 long, 2 reference, 3 boolean -/
def z_tag : FieldType → Nat
  | .int => 0
  | .long => 1
  | .boolean => 3
  | _ => 2
def z_tyF (ci : Nat) : Nat → FieldType := match ci with
  | 0 => tyX0
  | 1 => tyX1
  | 2 => tyX2
  | 3 => tyX3
  | 4 => tyX4
  | 5 => tyX5
  | 6 => tyX6
  | 7 => tyX7
  | _ => tyX8
/-- the type of place i of a cell of a kind -/
def z_mt (kind i : Nat) : Nat := match kind with
  | 9 => 0
  | 10 => 1
  | 11 => 3
  | 12 => 2
  | ci => z_tag (z_tyF ci i)
/-- the tag on the stack of a type -/
def z_st (t : Nat) : Nat := if t = 3 then 0 else t
def z_fitv (t : Nat) (x : Int) : Bool := if t = 3 then decide (x = 0 ∨ x = 1) else true
/-- int arithmetic -/
def z_alu (k x y : Int) : Option Int :=
  if k = 0 then some (z_w (x + y)) else
  if k = 1 then some (z_w (x - y)) else
  if k = 2 then some (z_w (x * y)) else
  if k = 3 then (if y = 255 then some (x % 256) else if y = 63 then some (x % 64) else none) else
  if k = 4 then (if y = 0 then some x else if y = 8 then some (x / 256) else if y = 16 then some (x / 65536) else if y = 24 then some (x / 16777216) else none) else
  if k = 5 then (if y = 8 then some (x % 4294967296 / 256) else if y = 16 then some (x % 4294967296 / 65536) else if y = 24 then some (x % 4294967296 / 16777216) else none) else
  if k = 6 then (if y = 0 then none else some (z_w (x.tdiv y))) else none
def z_lalu (k x y : Int) : Option Int :=
  if k = 0 then some (z_W (x + y)) else
  if k = 1 then some (z_W (x - y)) else
  if k = 2 then some (z_W (x * y)) else
  if k = 3 then (if y = 0 then none else some (z_W (x.tdiv y))) else none
def z_cmp (x y : Int) : Int := if y < x then 1 else if x = y then 0 else -1
/-- conditions: 0 eq, 1 ne, 2 lt, 3 ge, 4 gt, 5 le -/
def z_cnd (k x y : Int) : Bool :=
  if k = 0 then decide (x = y) else
  if k = 1 then decide (¬ x = y) else
  if k = 2 then decide (x < y) else
  if k = 3 then decide (y ≤ x) else
  if k = 4 then decide (y < x) else decide (x ≤ y)
def z_sw (d x : Int) : List (Int × Int) → Int
  | [] => d
  | q :: l => if x = q.1 then q.2 else z_sw d x l
/-- may a value be stored at place i: the one ahead of it is no long -/
def z_pre (ll : List zV) : Nat → Bool
  | 0 => true
  | i + 1 => !((ll.getD i (0, 0)).1 == 1)
def z_set (ll : List zV) (i : Nat) (v : zV) : List zV := if v.1 = 1 then (ll.set i v).set (i + 1) (9, 0) else ll.set i v
/-- the three words of the class: -2 if, -3 else, -4 while -/
def z_str (a : Int) : List Int := if a = -2 then [105, 102] else if a = -3 then [101, 108, 115, 101] else [119, 104, 105, 108, 101]
/-- one instruction, but calls and returns: where it goes on, locals, stack, state -/
def z_stp (o : zO) (ll st : List zV) (σ : zS) : Option (Nat × List zV × List zV × zS) :=
  match o, st with
  | (0, n, x, _, _, _), st => some (n, ll, (0, x) :: st, σ)
  | (1, n, i, t, _, _), st => match ll[i.toNat]? with
    | some v => if (v.1 : Int) = t ∧ v.1 < 3 then some (n, ll, v :: st, σ) else none
    | none => none
  | (2, n, i, t, _, _), v :: st => if (v.1 : Int) = t ∧ v.1 < 3 ∧ i.toNat + v.1 % 2 < ll.length ∧ z_pre ll i.toNat = true then some (n, z_set ll i.toNat v, st, σ) else none
  | (3, n, i, k, _, _), st => match ll[i.toNat]? with
    | some (0, x) => if z_pre ll i.toNat = true then some (n, ll.set i.toNat (0, z_w (x + k)), st, σ) else none
    | _ => none
  | (4, n, k, _, _, _), (0, y) :: (0, x) :: st => match z_alu k x y with
    | some z => some (n, ll, (0, z) :: st, σ)
    | none => none
  | (5, n, k, _, _, _), (1, y) :: (1, x) :: st => if k = 4 then some (n, ll, (0, z_cmp x y) :: st, σ) else match z_lalu k x y with
    | some z => some (n, ll, (1, z) :: st, σ)
    | none => none
  | (6, n, k, _, _, _), (t, x) :: st => if t = 0 ∧ k = 0 then some (n, ll, (1, x) :: st, σ) else if t = 1 ∧ k = 1 then some (n, ll, (0, z_w x) :: st, σ) else none
  | (7, n, _, _, _, _), v :: st => if v.1 = 0 ∨ v.1 = 2 then some (n, ll, v :: v :: st, σ) else none
  | (8, n, _, _, _, _), v :: st => if v.1 = 0 ∨ v.1 = 2 then some (n, ll, st, σ) else none
  | (9, n, _, _, _, _), v :: w :: st => if (v.1 = 0 ∨ v.1 = 2) ∧ (w.1 = 0 ∨ w.1 = 2) then some (n, ll, v :: w :: v :: w :: st, σ) else none
  | (10, n, k, t, _, _), (0, x) :: st => some (if z_cnd k x 0 then t.toNat else n, ll, st, σ)
  | (11, n, k, t, _, _), (0, y) :: (0, x) :: st => some (if z_cnd k x y then t.toNat else n, ll, st, σ)
  | (12, _, t, _, _, _), st => some (t.toNat, ll, st, σ)
  | (13, _, d, _, _, l), (0, x) :: st => some ((z_sw d x l).toNat, ll, st, σ)
  | (14, _, d, _, _, l), (0, x) :: st => some ((z_sw d x l).toNat, ll, st, σ)
  | (15, n, ci, k, t, _), (2, a) :: st => if ((σ.2.2.1 a).1 : Int) = ci then some (n, ll, (z_st t.toNat, σ.2.2.2 a k) :: st, σ) else none
  | (16, n, ci, k, t, _), (u, x) :: (2, a) :: st => if ((σ.2.2.1 a).1 : Int) = ci ∧ u = z_st t.toNat ∧ z_fitv t.toNat x = true then some (n, ll, st, (σ.1, σ.2.1, σ.2.2.1, z_upd σ.2.2.2 a k x)) else none
  | (17, n, kd, _, _, _), (0, i) :: (2, a) :: st => if ((σ.2.2.1 a).1 : Int) = kd ∧ 0 ≤ i ∧ i < ((σ.2.2.1 a).2 : Int) then some (n, ll, (z_st (z_mt kd.toNat 0), σ.2.2.2 a i) :: st, σ) else none
  | (18, n, kd, _, _, _), (u, x) :: (0, i) :: (2, a) :: st => if ((σ.2.2.1 a).1 : Int) = kd ∧ 0 < a ∧ 0 ≤ i ∧ i < ((σ.2.2.1 a).2 : Int) ∧ u = z_st (z_mt kd.toNat 0) ∧ z_fitv (z_mt kd.toNat 0) x = true ∧ (kd = 12 → (σ.2.2.1 x).1 = 0) then some (n, ll, st, (σ.1, σ.2.1, σ.2.2.1, z_upd σ.2.2.2 a i x)) else none
  | (19, n, _, _, _, _), (2, a) :: st => if 9 ≤ (σ.2.2.1 a).1 ∧ (σ.2.2.1 a).1 ≤ 12 then some (n, ll, (0, ((σ.2.2.1 a).2 : Int)) :: st, σ) else none
  | (20, n, ci, w, _, _), st => some (n, ll, (2, (σ.1 : Int) + 1) :: st, (σ.1 + 1, σ.2.1 + w.toNat, z_shu σ.2.2.1 ((σ.1 : Int) + 1) (ci.toNat, w.toNat), fun a i => if a = (σ.1 : Int) + 1 then 0 else σ.2.2.2 a i))
  | (22, n, _, _, _, _), (0, x) :: st => if 0 ≤ x ∧ x ≤ 4000 then some (n, ll, (2, (σ.1 : Int) + 1) :: st, (σ.1 + 1, σ.2.1 + x.toNat, z_shu σ.2.2.1 ((σ.1 : Int) + 1) (12, x.toNat), fun a i => if a = (σ.1 : Int) + 1 then 0 else σ.2.2.2 a i)) else none
  | (21, n, kd, _, _, _), (0, x) :: st => if 0 ≤ x ∧ x ≤ 4000 then some (n, ll, (2, (σ.1 : Int) + 1) :: st, (σ.1 + 1, σ.2.1 + x.toNat, z_shu σ.2.2.1 ((σ.1 : Int) + 1) (kd.toNat, x.toNat), fun a i => if a = (σ.1 : Int) + 1 then 0 else σ.2.2.2 a i)) else none
  | (23, n, _, _, _, _), (2, a) :: st => if 0 < a ∧ (σ.2.2.1 a).1 < 9 ∧ st.length ≤ 4 then some (n, ll, st, σ) else none
  | (24, n, x, _, _, _), st => some (n, ll, (1, x) :: st, σ)
  | (28, n, k, _, _, _), (0, y) :: (0, x) :: st => if 4 < st.length then none else if k = 0 then some (n, ll, (0, if x < y then y else x) :: st, σ) else some (n, ll, (0, if y < x then y else x) :: st, σ)
  | (29, n, j, _, _, _), st => if 0 ≤ j ∧ j < 3 then some (n, ll, (2, -2 - j) :: st, σ) else none
  | (30, n, _, _, _, _), (2, a) :: st => if -4 ≤ a ∧ a ≤ -2 ∧ st.length ≤ 4 then some (n, ll, (0, ((z_str a).length : Int)) :: st, σ) else none
  | (31, n, _, _, _, _), (0, i) :: (2, a) :: st => if -4 ≤ a ∧ a ≤ -2 ∧ 0 ≤ i ∧ i < ((z_str a).length : Int) ∧ st.length ≤ 4 then some (n, ll, (0, (z_str a).getD i.toNat 0) :: st, σ) else none
  | _, _ => none
/-- a method's locals at its start -/
def z_sl (vs : List zV) : List zV := vs.flatMap fun v => if v.1 = 1 then [v, (9, 0)] else [v]
def z_ent (maxL : Nat) (vs : List zV) : List zV := z_sl vs ++ List.replicate (maxL - (z_sl vs).length) (9, 0)
/-- what a return gives: the type t of the method (4: nothing) -/
def z_ret (t : Int) (st : List zV) : Option (Option zV) :=
  match st with
  | [] => if t = 4 then some none else none
  | [v] => if 0 ≤ t ∧ t < 4 ∧ v.1 = z_st t.toNat ∧ z_fitv t.toNat v.2 = true then some (some v) else none
  | _ => none
/-- is the first argument a cell of the kind that a call wants -/
def z_rcv (σ : zS) (kd : Int) (as : List zV) : Bool := if kd = -1 then true else match as with
  | (2, a) :: _ => decide (0 < a ∧ ((σ.2.2.1 a).1 : Int) = kd)
  | _ => false
/-- the machine: code, locals' number of each method; fuel, depth, method, place -/
def z_ex (cd : Nat → Nat → zO) (ml : Nat → Nat) : Nat → Nat → Nat → Nat → List zV → List zV → zS → Option (Option zV × zS)
  | 0, _, _, _, _, _, _ => none
  | f + 1, d, m, pc, ll, st, σ =>
    match cd m pc with
    | (25, n, k, na, kd, _) => match d with
      | 0 => none
      | d' + 1 => if na.toNat ≤ st.length ∧ st.length ≤ na.toNat + 4 ∧ z_rcv σ kd (st.take na.toNat).reverse = true ∧ (z_sl (st.take na.toNat).reverse).length ≤ ml k.toNat ∧ (st.take na.toNat).all (fun v => decide (v.1 < 3)) = true then
          match z_ex cd ml f d' k.toNat 0 (z_ent (ml k.toNat) (st.take na.toNat).reverse) [] σ with
          | some (rv, σ1) => z_ex cd ml f d m n ll (rv.toList ++ st.drop na.toNat) σ1
          | none => none
        else none
    | (26, _, t, _, _, _) => match z_ret t st with
      | some rv => some (rv, σ)
      | none => none
    | o => match z_stp o ll st σ with
      | some (pc', ll', st', σ') => z_ex cd ml f d m pc' ll' st' σ'
      | none => none
end
section
/-! THE GROUND OF THE SMALL MACHINE: words, numbers, what the heap holds -/
def z_T : List Cond := lw_tbl.filter goodWord
theorem z_inT {i : Nat} {w : Cond} (h : lw_tbl[i]? = some w) (hg : goodWord w = true) : w ∈ z_T := List.mem_filter.mpr ⟨List.mem_of_getElem? h, hg⟩
theorem z_goodT {w : Cond} (h : w ∈ z_T) : goodWord w = true := (List.mem_filter.mp h).2
/-- a word by its place -/
def z_wd (i : Int) (w : Cond) : Bool := decide (lw_tbl[i.toNat]? = some w) && goodWord w
theorem z_wd_in {i : Int} {w : Cond} (h : z_wd i w = true) : w ∈ z_T := by
  simp only [z_wd, Bool.and_eq_true, decide_eq_true_eq] at h
  exact z_inT h.1 h.2
-- numbers
theorem z_t32 (x : Int) : (Int32.ofInt x).toInt = z_w x := by
  rw [Int32.toInt_ofInt]
  unfold z_w Int.bmod
  simp only [Int32.size]
  split <;> omega
theorem z_t64 (x : Int) : (Int64.ofInt x).toInt = z_W x := by
  rw [Int64.toInt_ofInt]
  unfold z_W Int.bmod
  simp only [Int64.size]
  split <;> omega
theorem z_w_id {x : Int} (h : z_i32 x) : z_w x = x := by
  unfold z_i32 at h
  unfold z_w
  omega
theorem z_W_id {x : Int} (h : z_i64 x) : z_W x = x := by
  unfold z_i64 at h
  unfold z_W
  omega
theorem z_w_in (x : Int) : z_i32 (z_w x) := by
  unfold z_i32 z_w
  omega
theorem z_W_in (x : Int) : z_i64 (z_W x) := by
  unfold z_i64 z_W
  omega
theorem z_t32i {x : Int} (h : z_i32 x) : (Int32.ofInt x).toInt = x := (z_t32 x).trans (z_w_id h)
theorem z_t64i {x : Int} (h : z_i64 x) : (Int64.ofInt x).toInt = x := (z_t64 x).trans (z_W_id h)
theorem z_o32 (x : Int) : Int32.ofInt (z_w x) = Int32.ofInt x := Int32.toInt_inj.mp (by rw [z_t32i (z_w_in x), z_t32])
theorem z_o64 (x : Int) : Int64.ofInt (z_W x) = Int64.ofInt x := Int64.toInt_inj.mp (by rw [z_t64i (z_W_in x), z_t64])
theorem z_i32_64 {x : Int} (h : z_i32 x) : z_i64 x := by
  unfold z_i32 at h
  unfold z_i64
  omega
theorem z_nat32 {n : Nat} (h : n < 2147483648) : z_i32 (n : Int) := by
  unfold z_i32
  omega
theorem z_on {n : Nat} : Int32.ofNat n = Int32.ofInt (n : Int) := by
  first | rfl | (simp [Int32.ofInt_eq_ofNat]; done) | exact (Int32.ofInt_natCast n).symm
/-- the index of a place -/
theorem z_ix {i : Int} {n : Nat} (h0 : 0 ≤ i) (h1 : i < (n : Int)) (hn : n < 2147483648) : vp_in (Int32.ofInt i) n ∧ (Int32.ofInt i).toNatClampNeg = i.toNat := by
  have h32 : z_i32 i := by unfold z_i32; omega
  have ht := z_t32i h32
  refine ⟨vp_in_iff.mpr ⟨by rw [ht]; exact h0, by rw [ht]; exact h1⟩, ?_⟩
  show (Int32.ofInt i).toInt.toNat = i.toNat
  rw [ht]
-- values
def z_fv (ad : Int → Option Nat) (t : Nat) (x : Int) : Value := if t = 0 ∨ t = 3 then .int (Int32.ofInt x) else if t = 1 then .long (Int64.ofInt x) else va_rf (ad x)
def z_cv (ad : Int → Option Nat) (v : zV) : Value := z_fv ad v.1 v.2
theorem z_cv0 {ad : Int → Option Nat} (x : Int) : z_cv ad (0, x) = .int (Int32.ofInt x) := rfl
theorem z_cv1 {ad : Int → Option Nat} (x : Int) : z_cv ad (1, x) = .long (Int64.ofInt x) := rfl
theorem z_cv2 {ad : Int → Option Nat} (x : Int) : z_cv ad (2, x) = va_rf (ad x) := rfl
theorem z_cat {ad : Int → Option Nat} {v : zV} (h : v.1 = 0 ∨ v.1 = 2) : (z_cv ad v).category = 1 := by
  obtain ⟨t, x⟩ := v
  rcases h with h | h
  · cases h; rfl
  · cases h
    rw [z_cv2]
    cases ad x <;> rfl
theorem z_catl {ad : Int → Option Nat} {v : zV} (h : v.1 < 3) : (z_cv ad v).category = 2 ↔ v.1 = 1 := by
  obtain ⟨t, x⟩ := v
  match t, h with
  | 0, _ => exact ⟨fun h => (by cases h), fun h => (by cases h)⟩
  | 1, _ => exact ⟨fun _ => rfl, fun _ => rfl⟩
  | 2, _ =>
    rw [z_cv2]
    cases ad x <;> exact ⟨fun h => (by cases h), fun h => (by cases h)⟩
/-- where the cells lie -/
def z_A (ad : Int → Option Nat) (B : Nat) : Prop := ad 0 = none ∧ ∀ k : Nat, ad ((k : Int) + 1) = some (B + k)
def z_cel (ca : Nat → ClassId) (ad : Int → Option Nat) (σ : zS) (a : Int) : va_E :=
  if (σ.2.2.1 a).1 = 9 then .inl (ca 0, (σ.2.2.1 a).2, .inl (fun i => Int32.ofInt (σ.2.2.2 a (i : Int)))) else
  if (σ.2.2.1 a).1 = 10 then .inl (ca 1, (σ.2.2.1 a).2, .inr (.inl (fun i => Int64.ofInt (σ.2.2.2 a (i : Int))))) else
  if (σ.2.2.1 a).1 = 11 then .inl (ca 2, (σ.2.2.1 a).2, .inl (fun i => Int32.ofInt (σ.2.2.2 a (i : Int)))) else
  if (σ.2.2.1 a).1 = 12 then .inl (ca 3, (σ.2.2.1 a).2, .inr (.inr (.inr (.inr (fun i => ad (σ.2.2.2 a (i : Int))))))) else
  .inr ((σ.2.2.1 a).1, (List.range (σ.2.2.1 a).2).map (fun j => z_fv ad (z_mt (σ.2.2.1 a).1 j) (σ.2.2.2 a (j : Int))))
def z_ws (ca : Nat → ClassId) (ad : Int → Option Nat) (B : Nat) (σ : zS) : va_W := (List.range σ.1).map (fun j => (B + j, z_cel ca ad σ ((j : Int) + 1)))
def z_tys (ca : Nat → ClassId) : List (ClassId × FieldType) := [(ca 0, .int), (ca 1, .long), (ca 2, .boolean), (ca 3, .object RX0)]
def z_rng (t : Nat) (x : Int) : Prop := (t = 0 ∨ t = 3 → z_i32 x) ∧ (t = 1 → z_i64 x)
def z_N (ci : Nat) : Nat := (vwCl.getD ci ("", TX0, 0)).2.2
/-- a state is whole: what is a cell was made; lengths; numbers in their ranges -/
def z_ok (σ : zS) : Prop :=
  (∀ a, (σ.2.2.1 a).1 < 13 → a = -1 ∨ (1 ≤ a ∧ a ≤ (σ.1 : Int))) ∧ (∀ a, (σ.2.2.1 a).1 < 9 → (σ.2.2.1 a).2 = z_N (σ.2.2.1 a).1) ∧ (∀ a, (σ.2.2.1 a).2 < 2147483648) ∧ (σ.2.2.1 (-1)).1 = 9 ∧
  ∀ (a : Int) (i : Nat), (σ.2.2.1 a).1 < 13 → z_rng (z_mt (σ.2.2.1 a).1 i) (σ.2.2.2 a (i : Int))
def z_X (ad : Int → Option Nat) (B : Nat) (σ : zS) (U : State) (H : Heap) : Prop := ∃ b : Nat, ad (-1) = some b ∧ b < B ∧ va_X b (σ.2.2.1 (-1)).2 (fun j => Int32.ofInt (σ.2.2.2 (-1) (j : Int))) U H
/-- the three words of the class, and two statics, as they lie below all cells -/
def z_byt : List (List Int32) := [[105, 102], [101, 108, 115, 101], [119, 104, 105, 108, 101]]
def z_E (ad : Int → Option Nat) (B : Nat) (U : State) (H : Heap) : Prop := ∃ adK adV : Nat → Nat, (∀ i : Nat, i < 3 → ad (-2 - (i : Int)) = some (adK i)) ∧ vk_S 3 [2, 4, 5] z_byt adK adV (fun q => B ≤ q) U H ∧ va_Z "java/lang/String" "COMPACT_STRINGS" "Z" (.int 1) (fun q => B ≤ q) U H ∧ va_Zq "jdk/internal/util/Preconditions" "SIOOBE_FORMATTER" "Ljava/util/function/BiFunction;" (fun q => B ≤ q) U H
theorem z_E_moved {ad : Int → Option Nat} {B : Nat} {u U : State} {H : Heap} (hvm : u.vm.Alike U.vm) (h : z_E ad B u H) : z_E ad B U H := by
  obtain ⟨k, v, h1, h2, h3, h4⟩ := h
  exact ⟨k, v, h1, h2.moved hvm, h3.moved hvm, h4.moved hvm⟩
theorem z_E_kept {ad : Int → Option Nat} {B : Nat} {U : State} {H H1 H0 : Heap} {locs locs1 : List Loc} (h : z_E ad B U H) (hB : B ≤ H0.size) (hS : va_S (fun q => B ≤ q) H0 H locs) (hS1 : va_S (fun q => B ≤ q) H0 H1 locs1) : z_E ad B U H1 := by
  have hq : ∀ a : Nat, a < H.size → ¬ B ≤ a → H1[a]? = H[a]? := fun a _ ha => by rw [hS.2.1 a (by omega) ha, hS1.2.1 a (by omega) ha]
  obtain ⟨k, v, h1, h2, h3, h4⟩ := h
  exact ⟨k, v, h1, h2.kept hq, h3.kept hq, h4.kept hq⟩
/-- what is known of the classes -/
def z_U (D : va_G) (ca : Nat → ClassId) (ad : Int → Option Nat) (U : State) : Prop := va_K D vwCl (z_tys ca) U ∧ va_AO RX0 U ∧ ∀ i : Nat, i < 3 → ∃ a : Nat, ad (-2 - (i : Int)) = some a ∧ vk_R RX4 ([85, 91, 93].getD i 0) (["if", "else", "while"].getD i "") a U
theorem z_U_warm {D : va_G} {ca : Nat → ClassId} {ad : Int → Option Nat} {s U : State} (hW : s.WarmedH U.vm) (h : z_U D ca ad s) : z_U D ca ad U := by
  refine ⟨va_K.moved hW.alike h.1, va_AO.moved hW.alike h.2.1, fun i hi => ?_⟩
  obtain ⟨a, h1, h2⟩ := h.2.2 i hi
  exact ⟨a, h1, h2.warm hW⟩
theorem z_U_same {D : va_G} {ca : Nat → ClassId} {ad : Int → Option Nat} {s U : State} (hv : U.vm = s.vm) (h : z_U D ca ad s) : z_U D ca ad U := by
  have hA : s.vm.Alike U.vm := by rw [hv]; exact Vm.Alike.refl _
  refine ⟨va_K.moved hA h.1, va_AO.moved hA h.2.1, fun i hi => ?_⟩
  obtain ⟨a, h1, h2⟩ := h.2.2 i hi
  exact ⟨a, h1, h2.same hv⟩
def z_H (D : va_G) (ca : Nat → ClassId) (ad : Int → Option Nat) (B : Nat) (σ : zS) (U : State) (H : Heap) : Prop :=
  va_P D vwCl (z_ws ca ad B σ) H ∧ z_ok σ ∧ z_X ad B σ U H ∧ z_E ad B U H
def z_L (ad : Int → Option Nat) (nL : Nat) (ls : Array Slot) (ll : List zV) : Prop :=
  ls.size = nL ∧ lv_wf ls ∧ ll.length = nL ∧ (∀ (i : Nat) (v : zV), ll[i]? = some v → v.1 < 3 → ls[i]? = some (.val (z_cv ad v))) ∧ ∀ v ∈ ll, z_okv v
theorem z_ws_get {ca : Nat → ClassId} {ad : Int → Option Nat} {B : Nat} {σ : zS} {j : Nat} (h : j < σ.1) : (z_ws ca ad B σ)[j]? = some (B + j, z_cel ca ad σ ((j : Int) + 1)) := by
  unfold z_ws
  rw [List.getElem?_map, List.getElem?_range h]
  rfl
theorem z_ws_inv {ca : Nat → ClassId} {ad : Int → Option Nat} {B : Nat} {σ : zS} {j : Nat} {q : Nat × va_E} (h : (z_ws ca ad B σ)[j]? = some q) : j < σ.1 ∧ q = (B + j, z_cel ca ad σ ((j : Int) + 1)) := by
  have hl : j < (z_ws ca ad B σ).length := (List.getElem?_eq_some_iff.mp h).1
  have hj : j < σ.1 := by simpa [z_ws] using hl
  rw [z_ws_get hj] at h
  exact ⟨hj, (Option.some.inj h).symm⟩
theorem z_D {ca : Nat → ClassId} {ad : Int → Option Nat} {B : Nat} {σ : zS} : va_D (fun q => B ≤ q) (z_ws ca ad B σ) := by
  refine ⟨fun i j x y hi hj hxy => ?_, fun k x hx => ?_⟩
  · obtain ⟨-, e1⟩ := z_ws_inv hi
    obtain ⟨-, e2⟩ := z_ws_inv hj
    rw [e1, e2] at hxy
    simp only at hxy
    omega
  · obtain ⟨-, e1⟩ := z_ws_inv hx
    rw [e1]
    exact Nat.le_add_right _ _
/-- a cell that was made, by its number -/
theorem z_cell {ca : Nat → ClassId} {ad : Int → Option Nat} {B : Nat} {σ : zS} {a : Int} (hA : z_A ad B) (hok : z_ok σ) (h : (σ.2.2.1 a).1 < 13) (h1 : a ≠ -1) :
    ∃ j : Nat, j < σ.1 ∧ a = (j : Int) + 1 ∧ ad a = some (B + j) ∧ (z_ws ca ad B σ)[j]? = some (B + j, z_cel ca ad σ a) := by
  rcases hok.1 a h with h2 | ⟨h2, h3⟩
  · exact absurd h2 h1
  · have e : a = ((a.toNat - 1 : Nat) : Int) + 1 := by omega
    refine ⟨a.toNat - 1, by omega, e, ?_, ?_⟩
    · have h4 := hA.2 (a.toNat - 1)
      rw [← e] at h4
      exact h4
    · rw [z_ws_get (by omega), ← e]
end
section
/-! THE SMALL MACHINE'S INSTRUCTIONS, each by the kit's row -/
/-- the instruction that an entry of the table stands for -/
def z_ins (o : zO) (pc : Nat) : Jvm.ClassFile.Instr × Nat := match o with
  | (0, _, x, f, _, _) => if f = 0 then (.iconst x, 1) else if f = 1 then (.bipush x, 2) else (.sipush x, 3)
  | (1, _, i, t, f, _) => if t = 0 then (if f = 0 then (.iload_n (Fin.ofNat 4 i.toNat), 1) else (.iload i.toNat, 2)) else if t = 1 then (if f = 0 then (.lload_n (Fin.ofNat 4 i.toNat), 1) else (.lload i.toNat, 2)) else (if f = 0 then (.aload_n (Fin.ofNat 4 i.toNat), 1) else (.aload i.toNat, 2))
  | (2, _, i, t, f, _) => if t = 0 then (if f = 0 then (.istore_n (Fin.ofNat 4 i.toNat), 1) else (.istore i.toNat, 2)) else if t = 1 then (if f = 0 then (.lstore_n (Fin.ofNat 4 i.toNat), 1) else (.lstore i.toNat, 2)) else (if f = 0 then (.astore_n (Fin.ofNat 4 i.toNat), 1) else (.astore i.toNat, 2))
  | (3, _, i, k, _, _) => (.iinc i.toNat k, 3)
  | (4, _, k, _, _, _) => (if k = 0 then .iadd else if k = 1 then .isub else if k = 2 then .imul else if k = 3 then .iand else if k = 4 then .ishr else if k = 5 then .iushr else .idiv, 1)
  | (5, _, k, _, _, _) => (if k = 0 then .ladd else if k = 1 then .lsub else if k = 2 then .lmul else if k = 3 then .ldiv else .lcmp, 1)
  | (6, _, k, _, _, _) => (if k = 0 then .i2l else .l2i, 1)
  | (7, _, _, _, _, _) => (.dup, 1)
  | (8, _, _, _, _, _) => (.pop, 1)
  | (9, _, _, _, _, _) => (.dup2, 1)
  | (10, _, k, t, _, _) => (if k = 0 then .ifCond .eq (t - pc) else if k = 1 then .ifCond .ne (t - pc) else if k = 2 then .ifCond .lt (t - pc) else if k = 3 then .ifCond .ge (t - pc) else if k = 4 then .ifCond .gt (t - pc) else .ifCond .le (t - pc), 3)
  | (11, _, k, t, _, _) => (if k = 0 then .if_icmp .eq (t - pc) else if k = 1 then .if_icmp .ne (t - pc) else if k = 2 then .if_icmp .lt (t - pc) else if k = 3 then .if_icmp .ge (t - pc) else if k = 4 then .if_icmp .gt (t - pc) else .if_icmp .le (t - pc), 3)
  | (12, _, t, _, _, _) => (.goto (t - pc), 3)
  | (13, n, d, lo, hi, q) => (.tableswitch (d - pc) lo hi (q.map (fun r => r.2 - (pc : Int))).toArray, n)
  | (14, n, d, _, _, q) => (.lookupswitch (d - pc) (q.map (fun r => (r.1, r.2 - (pc : Int)))).toArray, n)
  | (15, _, _, _, _, (i, _) :: _) => (.getfield i.toNat, 3)
  | (16, _, _, _, _, (i, _) :: _) => (.putfield i.toNat, 3)
  | (17, _, kd, _, _, _) => (if kd = 9 then .iaload else if kd = 10 then .laload else if kd = 11 then .baload else .aaload, 1)
  | (18, _, kd, _, _, _) => (if kd = 9 then .iastore else if kd = 10 then .lastore else if kd = 11 then .bastore else .aastore, 1)
  | (19, _, _, _, _, _) => (.arraylength, 1)
  | (20, _, _, _, i, _) => (.new i.toNat, 3)
  | (21, _, kd, _, _, _) => (.newarray (if kd = 9 then .int else if kd = 10 then .long else .boolean), 2)
  | (22, _, i, _, _, _) => (.anewarray i.toNat, 3)
  | (23, _, i, _, _, _) => (.invokespecial i.toNat, 3)
  | (24, _, x, i, _, _) => if i = 0 then (.lconst (Fin.ofNat 2 x.toNat), 1) else (.ldc2_w i.toNat, 3)
  | (25, _, _, _, kd, (i, _) :: (f, _) :: _) => (if kd = -1 then .invokestatic i.toNat else if f = 1 then .invokespecial i.toNat else .invokevirtual i.toNat, 3)
  | (26, _, t, _, _, _) => (if t = 4 then .return_ else if t = 1 then .lreturn else if t = 2 then .areturn else .ireturn, 1)
  | (28, _, _, i, _, _) => (.invokestatic i.toNat, 3)
  | (29, _, _, i, _, _) => (.ldc i.toNat, 2)
  | (30, _, i, _, _, _) => (.invokevirtual i.toNat, 3)
  | (31, _, i, _, _, _) => (.invokevirtual i.toNat, 3)
  | _ => (.nop, 1)
def z_cl (ci : Int) : vw_C := vwCl.getD ci.toNat ("", TX0, 0)
/-- what else is asked of an entry: own: the class whose code it is; isI: is the method a constructor; rt: the type that it returns -/
def z_xtr (own : String) (isI : Bool) (rt : Option FieldType) (pc : Nat) (o : zO) : Bool := match o with
  | (0, n, x, f, _, _) => if f = 0 then decide (n = pc + 1 ∧ z_w x = x) else if f = 1 then decide (n = pc + 2 ∧ -128 ≤ x ∧ x < 128) else decide (n = pc + 3 ∧ -32768 ≤ x ∧ x < 32768)
  | (1, n, i, t, f, _) => decide (0 ≤ i ∧ 0 ≤ t ∧ t ≤ 2) && (if f = 0 then decide (n = pc + 1 ∧ i < 4) else decide (n = pc + 2))
  | (2, n, i, t, f, _) => decide (0 ≤ i ∧ 0 ≤ t ∧ t ≤ 2) && (if f = 0 then decide (n = pc + 1 ∧ i < 4) else decide (n = pc + 2))
  | (3, n, i, _, _, _) => decide (n = pc + 3 ∧ 0 ≤ i)
  | (4, n, k, _, _, _) => decide (n = pc + 1 ∧ 0 ≤ k ∧ k ≤ 6)
  | (5, n, k, _, _, _) => decide (n = pc + 1 ∧ 0 ≤ k ∧ k ≤ 4)
  | (6, n, k, _, _, _) => decide (n = pc + 1 ∧ 0 ≤ k ∧ k ≤ 1)
  | (7, n, _, _, _, _) => decide (n = pc + 1)
  | (8, n, _, _, _, _) => decide (n = pc + 1)
  | (9, n, _, _, _, _) => decide (n = pc + 1)
  | (10, n, k, t, _, _) => decide (n = pc + 3 ∧ 0 ≤ t ∧ 0 ≤ k ∧ k ≤ 5)
  | (11, n, k, t, _, _) => decide (n = pc + 3 ∧ 0 ≤ t ∧ 0 ≤ k ∧ k ≤ 5)
  | (12, _, t, _, _, _) => decide (0 ≤ t)
  | (13, _, d, lo, hi, q) => decide (0 ≤ d ∧ (q.length : Int) = hi - lo + 1) && decide (q.map (fun r => r.1) = (List.range q.length).map (fun (j : Nat) => lo + (j : Int))) && q.all (fun r => decide (0 ≤ r.2))
  | (14, _, d, _, _, q) => decide (0 ≤ d) && ((q.map (fun r => (r.1, r.2 - (pc : Int)))).zip ((q.map (fun r => (r.1, r.2 - (pc : Int)))).drop 1)).all (fun (a, next) => a.1 < next.1) && q.all (fun r => decide (0 ≤ r.2))
  | (15, n, ci, k, t, (i, w) :: _) => decide (n = pc + 3 ∧ 0 ≤ ci ∧ ci < 9 ∧ 0 ≤ k ∧ k < (z_cl ci).2.2 ∧ t = z_mt ci.toNat k.toNat) && z_wd w (.fieldLink own i.toNat ((z_cl ci).2.1 k.toNat).1 ((z_cl ci).2.1 k.toNat).2.1 ((z_cl ci).2.1 k.toNat).2.2.1)
  | (16, n, ci, k, t, (i, w) :: _) => decide (n = pc + 3 ∧ 0 ≤ ci ∧ ci < 9 ∧ 0 ≤ k ∧ k < (z_cl ci).2.2 ∧ t = z_mt ci.toNat k.toNat) && z_wd w (.fieldLink own i.toNat ((z_cl ci).2.1 k.toNat).1 ((z_cl ci).2.1 k.toNat).2.1 ((z_cl ci).2.1 k.toNat).2.2.1) && (if ((z_cl ci).2.1 k.toNat).2.2.2 = true then isI && decide (((z_cl ci).2.1 k.toNat).1 = own) else true)
  | (17, n, kd, _, _, _) => decide (n = pc + 1 ∧ 9 ≤ kd ∧ kd ≤ 12)
  | (18, n, kd, _, _, _) => decide (n = pc + 1 ∧ 9 ≤ kd ∧ kd ≤ 12)
  | (19, n, _, _, _, _) => decide (n = pc + 1)
  | (20, n, ci, w, i, q) => decide (n = pc + 3 ∧ 0 ≤ ci ∧ ci < 9 ∧ w = (z_cl ci).2.2) && match q with
    | [(p1, p2), (p3, _)] => z_wd p1 (.classLink own i.toNat (z_cl ci).1) && z_wd p2 (.instantiable (z_cl ci).1 (z_cl ci).2.2) && z_wd p3 (.initialized (z_cl ci).1)
    | _ => false
  | (21, n, kd, _, _, q) => decide (n = pc + 2 ∧ 9 ≤ kd ∧ kd ≤ 11) && match q with
    | [(p1, _)] => z_wd p1 (.arrayClass (if kd = 9 then .int else if kd = 10 then .long else .boolean))
    | _ => false
  | (22, n, i, _, _, q) => decide (n = pc + 3) && match q with
    | [(p1, _)] => z_wd p1 (.classLink own i.toNat RX0)
    | _ => false
  | (23, n, i, _, _, q) => decide (n = pc + 3) && match q with
    | [(p1, p2), (p3, _)] => z_wd p1 (.methodLink own i.toNat objectInit) && z_wd p2 (.instanceMethod objectInit) && z_wd p3 (.code objectInit ⟨#[0xb1]⟩ 1 none)
    | _ => false
  | (24, n, x, i, _, q) => if i = 0 then decide (n = pc + 1 ∧ 0 ≤ x ∧ x ≤ 1) else decide (n = pc + 3 ∧ z_W x = x) && match q with
    | [(p1, _)] => z_wd p1 (.constantLong own i.toNat (Int64.ofInt x))
    | _ => false
  | (26, _, t, _, _, _) => if t = 4 then decide (rt = none) else if t = 1 then decide (rt = some .long) else if t = 0 then decide (rt = some .int) else if t = 3 then decide (rt = some .boolean) else if t = 2 then decide (rt = some (.object RX0)) else false
  | (28, n, k, i, _, q) => decide (n = pc + 3 ∧ 0 ≤ k ∧ k ≤ 1) && match q with
    | [(p1, p2), (p3, p4)] => z_wd p3 (.initialized "java/lang/Math") && (if k = 0 then z_wd p1 (.methodLink own i.toNat Lib.Math.max.name) && z_wd p2 (.static Lib.Math.max.name) && z_wd p4 (.code Lib.Math.max.name Lib.Math.max.code 2 (some .int)) else z_wd p1 (.methodLink own i.toNat Lib.Math.min.name) && z_wd p2 (.static Lib.Math.min.name) && z_wd p4 (.code Lib.Math.min.name Lib.Math.min.code 2 (some .int)))
    | _ => false
  | (29, n, j, i, _, _) => decide (n = pc + 2 ∧ own = RX4 ∧ i = (if j = 0 then 85 else if j = 1 then 91 else 93))
  | (30, n, i, _, _, q) => decide (n = pc + 3) && match q with
    | [(p1, _)] => z_wd p1 (.methodLink own i.toNat ⟨"java/lang/String", "length", "()I"⟩)
    | _ => false
  | (31, n, i, _, _, q) => decide (n = pc + 3) && match q with
    | [(p1, _)] => z_wd p1 (.methodLink own i.toNat ⟨"java/lang/String", "charAt", "(I)C"⟩)
    | _ => false
  | _ => false
def z_good (own : String) (isI : Bool) (rt : Option FieldType) (cc : ByteArray) (pc : Nat) (o : zO) : Bool := decide (decode cc pc = .ok (z_ins o pc)) && z_xtr own isI rt pc o
theorem z_good_inv {own : String} {isI : Bool} {rt : Option FieldType} {cc : ByteArray} {pc : Nat} {o : zO} (h : z_good own isI rt cc pc o = true) : decode cc pc = .ok (z_ins o pc) ∧ z_xtr own isI rt pc o = true := by
  simp only [z_good, Bool.and_eq_true, decide_eq_true_eq] at h
  exact h
def z_C (p : Program) (s : State) (m : MethodId) (args : Array Value) (c : Code) (cc : ByteArray) (nL : Nat) (own : String) (D : va_G) (ca : Nat → ClassId) (ad : Int → Option Nat) (B n0 : Nat) : Prop :=
  p.tables.exec = Jvm.exec ∧ c.code = cc ∧ c.maxLocals = nL ∧ s.vm.findClass own = some m.cls ∧ (∀ w ∈ z_T, w.before args s = true) ∧ z_U D ca ad s ∧ z_A ad B ∧ s.heap.size = B + n0
def z_G (p : Program) (l : Launch) (e : Env) (R : Room) (s : State) (m : MethodId) (args : Array Value) (below : List Frame) (meth : Method) (c : Code) (Q : State → Prop) (nL : Nat) (D : va_G) (ca : Nat → ClassId) (ad : Int → Option Nat) (B n0 s0 : Nat) (pc : Nat) (ll st : List zV) (σ : zS) : Prop :=
  ∀ (H : Heap) (locs : List Loc) (ls : Array Slot), z_H D ca ad B σ s H → va_S (fun q => B ≤ q) s.heap H locs → z_L ad nL ls ll → (∀ v ∈ st, z_okv v) → n0 ≤ σ.1 → s0 ≤ σ.2.1 → W p l e R s m args below meth c H locs (σ.1 - n0) (σ.2.1 - s0) Q (F0 m pc ls (st.map (z_cv ad)))
section ZS
variable {p : Program} {l : Launch} {e : Env} {R : Room} {s : State} {m : MethodId} {args : Array Value} {below : List Frame} {meth : Method} {c : Code} {Q : State → Prop}
variable {cc : ByteArray} {nL : Nat} {own : String} {D : va_G} {ca : Nat → ClassId} {ad : Int → Option Nat} {B n0 s0 : Nat}
variable {isI : Bool} {rt : Option FieldType} {pc n : Nat} {ll st : List zV} {σ : zS} {g : Int} {q : List (Int × Int)}
theorem z_okI {x : Int} (h : z_i32 x) : z_okv (0, x) := ⟨fun _ => h, fun h => by cases h⟩
theorem z_okL {x : Int} (h : z_i64 x) : z_okv (1, x) := ⟨fun h => (by cases h), fun _ => h⟩
theorem z_okR {x : Int} : z_okv (2, x) := ⟨fun h => (by cases h), fun h => (by cases h)⟩
theorem z_okN {x : Int} : z_okv (9, x) := ⟨fun h => (by cases h), fun h => (by cases h)⟩
theorem z_all1 {v : zV} (h : z_okv v) (hs : ∀ w ∈ st, z_okv w) : ∀ w ∈ v :: st, z_okv w := List.forall_mem_cons.mpr ⟨h, hs⟩
theorem zs_0 {x f : Int} (C : z_C p s m args c cc nL own D ca ad B n0) (hg : z_good own isI rt cc pc (0, n, x, f, g, q) = true) (k : z_G p l e R s m args below meth c Q nL D ca ad B n0 s0 n ll ((0, x) :: st) σ) : z_G p l e R s m args below meth c Q nL D ca ad B n0 s0 pc ll st σ := by
  obtain ⟨hd, hx⟩ := z_good_inv hg
  intro H locs ls hH hS hL hst h1 h2
  simp only [z_ins] at hd
  simp only [z_xtr] at hx
  by_cases f0 : f = 0
  · rw [if_pos f0] at hd hx
    simp only [decide_eq_true_eq] at hx
    obtain ⟨rfl, hx⟩ := hx
    exact lv_iconst C.1 C.2.1 hd rfl (k H locs ls hH hS hL (z_all1 (z_okI (by rw [← hx]; exact z_w_in x)) hst) h1 h2)
  · rw [if_neg f0] at hd hx
    by_cases f1 : f = 1
    · rw [if_pos f1] at hd hx
      simp only [decide_eq_true_eq] at hx
      obtain ⟨rfl, hx1, hx2⟩ := hx
      have h32 : z_i32 x := by unfold z_i32; omega
      refine lv_bipush C.1 C.2.1 hd ?_ (k H locs ls hH hS hL (z_all1 (z_okI h32) hst) h1 h2)
      apply Int32.toInt_inj.mp
      rw [Int8.toInt_toInt32, z_t32i h32, Int8.toInt_ofInt]
      unfold Int.bmod
      simp only [Int8.size]
      split <;> omega
    · rw [if_neg f1] at hd hx
      simp only [decide_eq_true_eq] at hx
      obtain ⟨rfl, hx1, hx2⟩ := hx
      have h32 : z_i32 x := by unfold z_i32; omega
      refine lv_sipush C.1 C.2.1 hd ?_ (k H locs ls hH hS hL (z_all1 (z_okI h32) hst) h1 h2)
      apply Int32.toInt_inj.mp
      rw [Int16.toInt_toInt32, z_t32i h32, Int16.toInt_ofInt]
      unfold Int.bmod
      simp only [Int16.size]
      split <;> omega
theorem z_fin4 {i : Int} (h0 : 0 ≤ i) (h : i < 4) : ((Fin.ofNat 4 i.toNat : Fin 4) : Nat) = i.toNat := by
  show i.toNat % 4 = i.toNat
  omega
theorem zs_1 {i t f : Int} {v : zV} (C : z_C p s m args c cc nL own D ca ad B n0) (hg : z_good own isI rt cc pc (1, n, i, t, f, q) = true) (hv : ll[i.toNat]? = some v) (ht : (v.1 : Int) = t ∧ v.1 < 3) (k : z_G p l e R s m args below meth c Q nL D ca ad B n0 s0 n ll (v :: st) σ) : z_G p l e R s m args below meth c Q nL D ca ad B n0 s0 pc ll st σ := by
  obtain ⟨hd, hx⟩ := z_good_inv hg
  intro H locs ls hH hS hL hst h1 h2
  have hs : ls[i.toNat]? = some (.val (z_cv ad v)) := hL.2.2.2.1 _ v hv ht.2
  have kk := k H locs ls hH hS hL (z_all1 (hL.2.2.2.2 v (List.mem_of_getElem? hv)) hst) h1 h2
  simp only [z_ins] at hd
  simp only [z_xtr, Bool.and_eq_true, decide_eq_true_eq] at hx
  obtain ⟨⟨hi, ht0, ht2⟩, hx⟩ := hx
  obtain ⟨tv, x⟩ := v
  obtain ⟨ht, ht3⟩ := ht
  by_cases f0 : f = 0
  · simp only [f0, if_true, decide_eq_true_eq] at hd hx
    obtain ⟨rfl, h4⟩ := hx
    match tv, ht3 with
    | 0, _ =>
      cases ht
      exact lv_iload_n C.1 C.2.1 hd (z_fin4 hi h4) hs kk
    | 1, _ =>
      cases ht
      exact lv_lload_n C.1 C.2.1 hd (z_fin4 hi h4) hs kk
    | 2, _ =>
      cases ht
      cases ha : ad x with
      | none =>
        simp only [z_cv2, ha, List.map_cons] at hs kk
        exact lv_aload_nN C.1 C.2.1 hd (z_fin4 hi h4) hs kk
      | some a =>
        simp only [z_cv2, ha, List.map_cons] at hs kk
        exact lv_aload_n C.1 C.2.1 hd (z_fin4 hi h4) hs kk
  · simp only [f0, if_false, decide_eq_true_eq] at hd hx
    cases hx
    match tv, ht3 with
    | 0, _ =>
      cases ht
      exact lv_iload C.1 C.2.1 hd hs kk
    | 1, _ =>
      cases ht
      exact lv_lload C.1 C.2.1 hd hs kk
    | 2, _ =>
      cases ht
      cases ha : ad x with
      | none =>
        simp only [z_cv2, ha, List.map_cons] at hs kk
        exact lv_aloadN C.1 C.2.1 hd hs kk
      | some a =>
        simp only [z_cv2, ha, List.map_cons] at hs kk
        exact lv_aload C.1 C.2.1 hd hs kk
end ZS
end
section
section ZS
variable {p : Program} {l : Launch} {e : Env} {R : Room} {s : State} {m : MethodId} {args : Array Value} {below : List Frame} {meth : Method} {c : Code} {Q : State → Prop}
variable {cc : ByteArray} {nL : Nat} {own : String} {D : va_G} {ca : Nat → ClassId} {ad : Int → Option Nat} {B n0 s0 : Nat}
variable {isI : Bool} {rt : Option FieldType} {pc n : Nat} {ll st : List zV} {σ : zS} {g : Int} {q : List (Int × Int)}
/-- the locals as the kit lists them -/
def z_lst (ad : Int → Option Nat) (ll : List zV) : List (Nat × Value) := (List.range ll.length).filterMap (fun i => match ll[i]? with
  | some v => if v.1 < 3 then some (i, z_cv ad v) else none
  | none => none)
theorem z_lst_mem {i : Nat} {v : zV} (h : ll[i]? = some v) (h3 : v.1 < 3) : (i, z_cv ad v) ∈ z_lst ad ll := by
  unfold z_lst
  refine List.mem_filterMap.mpr ⟨i, List.mem_range.mpr (List.getElem?_eq_some_iff.mp h).1, ?_⟩
  rw [h]
  simp only [h3, if_true]
theorem z_lst_has {ls : Array Slot} (h : z_L ad nL ls ll) : lv_has ls nL (z_lst ad ll) := by
  refine ⟨h.1, h.2.1, fun q hq => ?_⟩
  obtain ⟨i, -, hi⟩ := List.mem_filterMap.mp hq
  cases hv : ll[i]? with
  | none => rw [hv] at hi; cases hi
  | some v =>
    rw [hv] at hi
    simp only at hi
    split at hi
    · rename_i h3
      cases hi
      exact h.2.2.2.1 i v hv h3
    · cases hi
theorem z_pre_ok {i : Nat} {w : zV} (h : z_pre ll i = true) (j : Nat) (hj : ll[j]? = some w) (h1 : j + 1 = i) : ¬ w.1 = 1 := by
  subst h1
  simp only [z_pre, List.getD_eq_getElem?_getD, hj, Option.getD_some] at h
  simpa using h
/-- storing a value of one slot -/
theorem z_L_set {ls' : Array Slot} {i : Nat} {v : zV} (hv : v.1 = 0 ∨ v.1 = 2) (hok : z_okv v) (hp : z_pre ll i = true) (hlen : ll.length = nL) (hall : ∀ w ∈ ll, z_okv w)
    (h : lv_has ls' nL ((i, z_cv ad v) :: (z_lst ad ll).filter (fun q => !(q.1 == i) && !(q.1 + 1 == i && q.2.category == 2)))) : z_L ad nL ls' (ll.set i v) := by
  obtain ⟨h1, h2, h3⟩ := h
  refine ⟨h1, h2, by simp [hlen], fun j w hj hw => ?_, fun w hw => ?_⟩
  · by_cases e : j = i
    · subst e
      have hl : j < ll.length := by
        have := (List.getElem?_eq_some_iff.mp hj).1
        simpa using this
      rw [List.getElem?_set_self hl] at hj
      cases hj
      exact h3 _ List.mem_cons_self
    · rw [List.getElem?_set_ne (fun z => e z.symm)] at hj
      refine h3 (j, z_cv ad w) (List.mem_cons_of_mem _ (List.mem_filter.mpr ⟨z_lst_mem hj hw, ?_⟩))
      have h5 : ¬ (j + 1 = i ∧ (z_cv ad w).category = 2) := fun ⟨a, b⟩ => z_pre_ok hp j hj a ((z_catl hw).mp b)
      simp only [Bool.and_eq_true, Bool.not_eq_true', beq_eq_false_iff_ne, Bool.and_eq_false_iff]
      refine ⟨e, ?_⟩
      by_cases a : j + 1 = i
      · exact Or.inr (fun b => h5 ⟨a, b⟩)
      · exact Or.inl a
  · rcases List.mem_or_eq_of_mem_set hw with h | h
    · exact hall w h
    · rw [h]; exact hok
/-- storing a long -/
theorem z_L_set2 {ls' : Array Slot} {i : Nat} {v : zV} (hv : v.1 = 1) (hok : z_okv v) (hp : z_pre ll i = true) (hlen : ll.length = nL) (hi : i + 1 < nL) (hall : ∀ w ∈ ll, z_okv w)
    (h : lv_has ls' nL ((i, z_cv ad v) :: (z_lst ad ll).filter (fun q => !(q.1 == i) && (!(q.1 == i + 1) && !(q.1 + 1 == i && q.2.category == 2))))) : z_L ad nL ls' ((ll.set i v).set (i + 1) (9, 0)) := by
  obtain ⟨h1, h2, h3⟩ := h
  refine ⟨h1, h2, by simp [hlen], fun j w hj hw => ?_, fun w hw => ?_⟩
  · by_cases e1 : j = i + 1
    · subst e1
      rw [List.getElem?_set_self (by simp; omega)] at hj
      cases hj
      exact absurd hw (by decide)
    · rw [List.getElem?_set_ne (fun z => e1 z.symm)] at hj
      by_cases e : j = i
      · subst e
        rw [List.getElem?_set_self (by omega)] at hj
        cases hj
        exact h3 _ List.mem_cons_self
      · rw [List.getElem?_set_ne (fun z => e z.symm)] at hj
        refine h3 (j, z_cv ad w) (List.mem_cons_of_mem _ (List.mem_filter.mpr ⟨z_lst_mem hj hw, ?_⟩))
        have h5 : ¬ (j + 1 = i ∧ (z_cv ad w).category = 2) := fun ⟨a, b⟩ => z_pre_ok hp j hj a ((z_catl hw).mp b)
        simp only [Bool.and_eq_true, Bool.not_eq_true', beq_eq_false_iff_ne, Bool.and_eq_false_iff]
        refine ⟨e, e1, ?_⟩
        by_cases a : j + 1 = i
        · exact Or.inr (fun b => h5 ⟨a, b⟩)
        · exact Or.inl a
  · rcases List.mem_or_eq_of_mem_set hw with h | h
    · rcases List.mem_or_eq_of_mem_set h with h | h
      · exact hall w h
      · rw [h]; exact hok
    · rw [h]; exact z_okN
theorem zs_2 {i t f : Int} {v : zV} (C : z_C p s m args c cc nL own D ca ad B n0) (hg : z_good own isI rt cc pc (2, n, i, t, f, q) = true) (ht : (v.1 : Int) = t ∧ v.1 < 3 ∧ i.toNat + v.1 % 2 < ll.length ∧ z_pre ll i.toNat = true) (k : z_G p l e R s m args below meth c Q nL D ca ad B n0 s0 n (z_set ll i.toNat v) st σ) : z_G p l e R s m args below meth c Q nL D ca ad B n0 s0 pc ll (v :: st) σ := by
  obtain ⟨hd, hx⟩ := z_good_inv hg
  intro H locs ls hH hS hL hst h1 h2
  obtain ⟨hvo, hst⟩ := List.forall_mem_cons.mp hst
  have kk := fun ls' hL' => k H locs ls' hH hS hL' hst h1 h2
  have hh := z_lst_has hL
  simp only [z_ins] at hd
  simp only [z_xtr, Bool.and_eq_true, decide_eq_true_eq] at hx
  obtain ⟨⟨hi, ht0, ht2⟩, hx⟩ := hx
  obtain ⟨tv, x⟩ := v
  obtain ⟨ht, ht3, hlt, hpre⟩ := ht
  have hlen := hL.2.2.1
  by_cases f0 : f = 0
  · simp only [f0, if_true, decide_eq_true_eq] at hd hx
    obtain ⟨rfl, h4⟩ := hx
    match tv, ht3 with
    | 0, _ =>
      cases ht
      exact lv_istore_n C.1 C.2.1 hd (z_fin4 hi h4) hh (by rw [← hlen]; exact hlt) rfl (fun ls' h' => kk ls' (z_L_set (Or.inl rfl) hvo hpre hlen hL.2.2.2.2 h'))
    | 1, _ =>
      cases ht
      exact lv_lstore_n C.1 C.2.1 hd (z_fin4 hi h4) hh (by rw [← hlen]; exact hlt) rfl (fun ls' h' => kk ls' (z_L_set2 rfl hvo hpre hlen (by rw [← hlen]; exact hlt) hL.2.2.2.2 h'))
    | 2, _ =>
      cases ht
      rw [List.map_cons, z_cv2]
      cases ha : ad x with
      | none => exact lv_astore_nN C.1 C.2.1 hd (z_fin4 hi h4) hh (by rw [← hlen]; exact Nat.lt_of_le_of_lt (Nat.le_add_right _ _) hlt) rfl (fun ls' h' => kk ls' (z_L_set (Or.inr rfl) hvo hpre hlen hL.2.2.2.2 (by rw [z_cv2, ha]; exact h')))
      | some a => exact lv_astore_n C.1 C.2.1 hd (z_fin4 hi h4) hh (by rw [← hlen]; exact Nat.lt_of_le_of_lt (Nat.le_add_right _ _) hlt) rfl (fun ls' h' => kk ls' (z_L_set (Or.inr rfl) hvo hpre hlen hL.2.2.2.2 (by rw [z_cv2, ha]; exact h')))
  · simp only [f0, if_false, decide_eq_true_eq] at hd hx
    cases hx
    match tv, ht3 with
    | 0, _ =>
      cases ht
      exact lv_istore C.1 C.2.1 hd hh (by rw [← hlen]; exact hlt) rfl (fun ls' h' => kk ls' (z_L_set (Or.inl rfl) hvo hpre hlen hL.2.2.2.2 h'))
    | 1, _ =>
      cases ht
      exact lv_lstore C.1 C.2.1 hd hh (by rw [← hlen]; exact hlt) rfl (fun ls' h' => kk ls' (z_L_set2 rfl hvo hpre hlen (by rw [← hlen]; exact hlt) hL.2.2.2.2 h'))
    | 2, _ =>
      cases ht
      rw [List.map_cons, z_cv2]
      cases ha : ad x with
      | none => exact lv_astoreN C.1 C.2.1 hd hh (by rw [← hlen]; exact Nat.lt_of_le_of_lt (Nat.le_add_right _ _) hlt) rfl (fun ls' h' => kk ls' (z_L_set (Or.inr rfl) hvo hpre hlen hL.2.2.2.2 (by rw [z_cv2, ha]; exact h')))
      | some a => exact lv_astore C.1 C.2.1 hd hh (by rw [← hlen]; exact Nat.lt_of_le_of_lt (Nat.le_add_right _ _) hlt) rfl (fun ls' h' => kk ls' (z_L_set (Or.inr rfl) hvo hpre hlen hL.2.2.2.2 (by rw [z_cv2, ha]; exact h')))
theorem zs_3 {i kc : Int} {x : Int} (C : z_C p s m args c cc nL own D ca ad B n0) (hg : z_good own isI rt cc pc (3, n, i, kc, g, q) = true) (hv : ll[i.toNat]? = some (0, x)) (hpre : z_pre ll i.toNat = true) (k : z_G p l e R s m args below meth c Q nL D ca ad B n0 s0 n (ll.set i.toNat (0, z_w (x + kc))) st σ) : z_G p l e R s m args below meth c Q nL D ca ad B n0 s0 pc ll st σ := by
  obtain ⟨hd, hx⟩ := z_good_inv hg
  intro H locs ls hH hS hL hst h1 h2
  simp only [z_ins] at hd
  simp only [z_xtr, decide_eq_true_eq] at hx
  obtain ⟨rfl, hi⟩ := hx
  have hh := z_lst_has hL
  obtain ⟨j, hj⟩ := List.getElem?_of_mem (z_lst_mem (ad := ad) hv (show (0 : Nat) < 3 by decide))
  have hlt : i.toNat < ll.length := (List.getElem?_eq_some_iff.mp hv).1
  exact lv_iinc (v := Int32.ofInt (z_w (x + kc))) C.1 C.2.1 hd hh hj (by rw [z_o32, Int32.ofInt_add]) (by rw [← hL.2.2.1]; exact hlt) rfl (fun ls' h' => k H locs ls' hH hS (z_L_set (Or.inl rfl) (z_okI (z_w_in _)) hpre hL.2.2.1 hL.2.2.2.2 h') hst h1 h2)
theorem z_eq32 {x y : Int} (hx : z_i32 x) (hy : z_i32 y) : Int32.ofInt x = Int32.ofInt y ↔ x = y := by
  rw [← Int32.toInt_inj, z_t32i hx, z_t32i hy]
theorem z_lt32 {x y : Int} (hx : z_i32 x) (hy : z_i32 y) : Int32.ofInt x < Int32.ofInt y ↔ x < y := by
  rw [Int32.lt_iff_toInt_lt, z_t32i hx, z_t32i hy]
theorem z_le32 {x y : Int} (hx : z_i32 x) (hy : z_i32 y) : Int32.ofInt x ≤ Int32.ofInt y ↔ x ≤ y := by
  rw [Int32.le_iff_toInt_le, z_t32i hx, z_t32i hy]
theorem z_i32_0 : z_i32 0 := by unfold z_i32; omega
theorem z_o320 : Int32.ofInt 0 = 0 := rfl
theorem z_and255 (x : Int) : Int32.ofInt x &&& Int32.ofInt 255 = Int32.ofInt (x % 256) := by
  apply Int32.toBitVec_inj.mp
  rw [Int32.toBitVec_and, Int32.toBitVec_ofInt, Int32.toBitVec_ofInt, Int32.toBitVec_ofInt]
  apply BitVec.eq_of_toNat_eq
  rw [BitVec.toNat_and, BitVec.toNat_ofInt, BitVec.toNat_ofInt, BitVec.toNat_ofInt]
  have h := Nat.and_two_pow_sub_one_eq_mod (x % 4294967296).toNat 8
  show (x % 4294967296).toNat &&& (2 ^ 8 - 1) = (x % 256 % 4294967296).toNat
  rw [h]
  omega
theorem z_and63 (x : Int) : Int32.ofInt x &&& Int32.ofInt 63 = Int32.ofInt (x % 64) := by
  apply Int32.toBitVec_inj.mp
  rw [Int32.toBitVec_and, Int32.toBitVec_ofInt, Int32.toBitVec_ofInt, Int32.toBitVec_ofInt]
  apply BitVec.eq_of_toNat_eq
  rw [BitVec.toNat_and, BitVec.toNat_ofInt, BitVec.toNat_ofInt, BitVec.toNat_ofInt]
  have h := Nat.and_two_pow_sub_one_eq_mod (x % 4294967296).toNat 6
  show (x % 4294967296).toNat &&& (2 ^ 6 - 1) = (x % 64 % 4294967296).toNat
  rw [h]
  omega
theorem z_shr {x : Int} (hx : z_i32 x) (w : Nat) (hw : w = 0 ∨ w = 8 ∨ w = 16 ∨ w = 24) : Int32.ofInt x >>> (Int32.ofInt (w : Int) &&& 31) = Int32.ofInt (x / 2 ^ w) := by
  apply Int32.toInt_inj.mp
  have hr : z_i32 (x / 2 ^ w) := by
    unfold z_i32 at *
    rcases hw with rfl | rfl | rfl | rfl <;> omega
  rw [z_t32i hr]
  have hb : (Int32.ofInt (w : Int) &&& 31).toBitVec.smod 32 = BitVec.ofNat 32 w := by
    rcases hw with rfl | rfl | rfl | rfl <;> decide
  have e : (Int32.ofInt x >>> (Int32.ofInt (w : Int) &&& 31)).toInt = (Int32.ofInt x).toInt >>> w := by
    show (BitVec.sshiftRight' (Int32.ofInt x).toBitVec ((Int32.ofInt (w : Int) &&& 31).toBitVec.smod 32)).toInt = (Int32.ofInt x).toBitVec.toInt >>> w
    rw [hb, BitVec.sshiftRight'_ofNat_eq_sshiftRight, BitVec.toInt_sshiftRight]
    rcases hw with rfl | rfl | rfl | rfl <;> rfl
  rw [e, z_t32i hx, Int.shiftRight_eq_div_pow]
  rcases hw with rfl | rfl | rfl | rfl <;> rfl
theorem z_ushr {x : Int} (w : Nat) (hw : w = 8 ∨ w = 16 ∨ w = 24) : ((Int32.ofInt x).toUInt32 >>> ((Int32.ofInt (w : Int)).toUInt32 &&& Int32.toUInt32 31)).toInt32 = Int32.ofInt (x % 4294967296 / 2 ^ w) := by
  apply Int32.toBitVec_inj.mp
  rw [UInt32.toBitVec_toInt32, Int32.toBitVec_ofInt]
  apply BitVec.eq_of_toNat_eq
  rw [BitVec.toNat_ofInt]
  show ((Int32.ofInt x).toUInt32 >>> ((Int32.ofInt (w : Int)).toUInt32 &&& Int32.toUInt32 31)).toNat = _
  rw [UInt32.toNat_shiftRight]
  have hb : ((Int32.ofInt (w : Int)).toUInt32 &&& Int32.toUInt32 31).toNat % 32 = w := by
    rcases hw with rfl | rfl | rfl <;> decide
  rw [hb, Nat.shiftRight_eq_div_pow]
  have hx : (Int32.ofInt x).toUInt32.toNat = (x % 4294967296).toNat := by
    show (BitVec.ofInt 32 x).toNat = _
    rw [BitVec.toNat_ofInt]
    rfl
  rw [hx]
  rcases hw with rfl | rfl | rfl
  · show (x % 4294967296).toNat / 256 = (x % 4294967296 / 256 % 4294967296).toNat
    omega
  · show (x % 4294967296).toNat / 65536 = (x % 4294967296 / 65536 % 4294967296).toNat
    omega
  · show (x % 4294967296).toNat / 16777216 = (x % 4294967296 / 16777216 % 4294967296).toNat
    omega
theorem z_alu_ok {k x y z : Int} (hx : z_i32 x) (hy : z_i32 y) (h : z_alu k x y = some z) : z_i32 z := by
  unfold z_alu at h
  unfold z_i32 at *
  repeat' split at h
  all_goals first | (cases h; done) | (cases h; first | exact z_w_in _ | omega)
theorem zs_4 {kc x y z : Int} {g2 : Int} (C : z_C p s m args c cc nL own D ca ad B n0) (hg : z_good own isI rt cc pc (4, n, kc, g, g2, q) = true) (hz : z_alu kc x y = some z) (k : z_G p l e R s m args below meth c Q nL D ca ad B n0 s0 n ll ((0, z) :: st) σ) : z_G p l e R s m args below meth c Q nL D ca ad B n0 s0 pc ll ((0, y) :: (0, x) :: st) σ := by
  obtain ⟨hd, hxx⟩ := z_good_inv hg
  intro H locs ls hH hS hL hst h1 h2
  simp only [z_ins] at hd
  simp only [z_xtr, decide_eq_true_eq] at hxx
  obtain ⟨rfl, hk0, hk6⟩ := hxx
  obtain ⟨hy, hst⟩ := List.forall_mem_cons.mp hst
  obtain ⟨hx, hst⟩ := List.forall_mem_cons.mp hst
  have hx := hx.1 rfl
  have hy := hy.1 rfl
  have kk := k H locs ls hH hS hL (z_all1 (z_okI (z_alu_ok hx hy hz)) hst) h1 h2
  simp only [List.map_cons, z_cv0] at kk ⊢
  have hc : kc = 0 ∨ kc = 1 ∨ kc = 2 ∨ kc = 3 ∨ kc = 4 ∨ kc = 5 ∨ kc = 6 := by omega
  rcases hc with rfl | rfl | rfl | rfl | rfl | rfl | rfl
  · cases hz
    rw [z_o32, Int32.ofInt_add] at kk
    exact lv_iadd C.1 C.2.1 hd kk
  · cases hz
    rw [z_o32, Int32.ofInt_sub] at kk
    exact lv_isub C.1 C.2.1 hd kk
  · cases hz
    rw [z_o32, Int32.ofInt_mul] at kk
    exact lv_imul C.1 C.2.1 hd kk
  · have hz : (if y = 255 then some (x % 256) else if y = 63 then some (x % 64) else none) = some z := hz
    split at hz
    · rename_i h
      subst h
      cases hz
      rw [← z_and255] at kk
      exact lv_iand C.1 C.2.1 hd kk
    · split at hz
      · rename_i h
        subst h
        cases hz
        rw [← z_and63] at kk
        exact lv_iand C.1 C.2.1 hd kk
      · cases hz
  · have hz : (if y = 0 then some x else if y = 8 then some (x / 256) else if y = 16 then some (x / 65536) else if y = 24 then some (x / 16777216) else none) = some z := hz
    have key : ∃ w : Nat, (w = 0 ∨ w = 8 ∨ w = 16 ∨ w = 24) ∧ y = (w : Int) ∧ z = x / 2 ^ w := by
      split at hz
      · rename_i h; cases hz; exact ⟨0, by decide, h, by simp⟩
      · split at hz
        · rename_i h; cases hz; exact ⟨8, by decide, h, rfl⟩
        · split at hz
          · rename_i h; cases hz; exact ⟨16, by decide, h, rfl⟩
          · split at hz
            · rename_i h; cases hz; exact ⟨24, by decide, h, rfl⟩
            · cases hz
    obtain ⟨w, hw, rfl, rfl⟩ := key
    rw [← z_shr hx w hw] at kk
    exact lv_ishr C.1 C.2.1 hd kk
  · have hz : (if y = 8 then some (x % 4294967296 / 256) else if y = 16 then some (x % 4294967296 / 65536) else if y = 24 then some (x % 4294967296 / 16777216) else none) = some z := hz
    have key : ∃ w : Nat, (w = 8 ∨ w = 16 ∨ w = 24) ∧ y = (w : Int) ∧ z = x % 4294967296 / 2 ^ w := by
      split at hz
      · rename_i h; cases hz; exact ⟨8, by decide, h, rfl⟩
      · split at hz
        · rename_i h; cases hz; exact ⟨16, by decide, h, rfl⟩
        · split at hz
          · rename_i h; cases hz; exact ⟨24, by decide, h, rfl⟩
          · cases hz
    obtain ⟨w, hw, rfl, rfl⟩ := key
    exact lv_iushr C.1 C.2.1 hd (z_ushr w hw) kk
  · have hz : (if y = 0 then none else some (z_w (x.tdiv y))) = some z := hz
    by_cases hy0 : y = 0
    · rw [if_pos hy0] at hz; cases hz
    · rw [if_neg hy0] at hz
      cases hz
      refine lv_idiv C.1 C.2.1 hd (fun h => hy0 ((z_eq32 hy z_i32_0).mp h)) ?_
      have e : Int32.ofInt x / Int32.ofInt y = Int32.ofInt (z_w (x.tdiv y)) := by
        apply Int32.toInt_inj.mp
        rw [Int32.toInt_div, z_t32i hx, z_t32i hy, z_t32, z_w_id (z_w_in _)]
        unfold z_w Int.bmod
        simp only [Int32.size]
        split <;> omega
      rw [e]
      exact kk
end ZS
end
section
section ZS
variable {p : Program} {l : Launch} {e : Env} {R : Room} {s : State} {m : MethodId} {args : Array Value} {below : List Frame} {meth : Method} {c : Code} {Q : State → Prop}
variable {cc : ByteArray} {nL : Nat} {own : String} {D : va_G} {ca : Nat → ClassId} {ad : Int → Option Nat} {B n0 s0 : Nat}
variable {isI : Bool} {rt : Option FieldType} {pc n : Nat} {ll st : List zV} {σ : zS} {g g2 g3 : Int} {q : List (Int × Int)}
theorem z_eq64 {x y : Int} (hx : z_i64 x) (hy : z_i64 y) : Int64.ofInt x = Int64.ofInt y ↔ x = y := by
  rw [← Int64.toInt_inj, z_t64i hx, z_t64i hy]
theorem z_lt64 {x y : Int} (hx : z_i64 x) (hy : z_i64 y) : Int64.ofInt x < Int64.ofInt y ↔ x < y := by
  rw [Int64.lt_iff_toInt_lt, z_t64i hx, z_t64i hy]
theorem z_i64_0 : z_i64 0 := by unfold z_i64; omega
theorem z_lalu_ok {k x y z : Int} (h : z_lalu k x y = some z) : z_i64 z := by
  unfold z_lalu at h
  repeat' split at h
  all_goals first | (cases h; done) | (cases h; exact z_W_in _)
theorem zs_5c {x y : Int} (C : z_C p s m args c cc nL own D ca ad B n0) (hg : z_good own isI rt cc pc (5, n, 4, g, g2, q) = true) (k : z_G p l e R s m args below meth c Q nL D ca ad B n0 s0 n ll ((0, z_cmp x y) :: st) σ) : z_G p l e R s m args below meth c Q nL D ca ad B n0 s0 pc ll ((1, y) :: (1, x) :: st) σ := by
  obtain ⟨hd, hxx⟩ := z_good_inv hg
  intro H locs ls hH hS hL hst h1 h2
  simp only [z_ins] at hd
  simp only [z_xtr, decide_eq_true_eq] at hxx
  obtain ⟨rfl, hk0, hk6⟩ := hxx
  obtain ⟨hy, hst⟩ := List.forall_mem_cons.mp hst
  obtain ⟨hx, hst⟩ := List.forall_mem_cons.mp hst
  have hx := hx.2 rfl
  have hy := hy.2 rfl
  have hok : z_i32 (z_cmp x y) := by
    unfold z_cmp z_i32
    split
    · omega
    · split <;> omega
  have kk := k H locs ls hH hS hL (z_all1 (z_okI hok) hst) h1 h2
  simp only [List.map_cons, z_cv0, z_cv1] at kk ⊢
  have e : lg_cmp (Int64.ofInt x) (Int64.ofInt y) = Int32.ofInt (z_cmp x y) := by
    unfold lg_cmp z_cmp
    simp only [gt_iff_lt, z_lt64 hy hx, z_eq64 hx hy]
    split
    · rfl
    · split <;> rfl
  refine W.lcmp C.1 C.2.1 hd ?_
  rw [e]
  exact kk
theorem zs_5 {kc x y z : Int} (C : z_C p s m args c cc nL own D ca ad B n0) (hg : z_good own isI rt cc pc (5, n, kc, g, g2, q) = true) (hz : z_lalu kc x y = some z) (h4 : ¬ kc = 4) (k : z_G p l e R s m args below meth c Q nL D ca ad B n0 s0 n ll ((1, z) :: st) σ) : z_G p l e R s m args below meth c Q nL D ca ad B n0 s0 pc ll ((1, y) :: (1, x) :: st) σ := by
  obtain ⟨hd, hxx⟩ := z_good_inv hg
  intro H locs ls hH hS hL hst h1 h2
  simp only [z_ins] at hd
  simp only [z_xtr, decide_eq_true_eq] at hxx
  obtain ⟨rfl, hk0, hk6⟩ := hxx
  obtain ⟨hy, hst⟩ := List.forall_mem_cons.mp hst
  obtain ⟨hx, hst⟩ := List.forall_mem_cons.mp hst
  have hx := hx.2 rfl
  have hy := hy.2 rfl
  have kk := k H locs ls hH hS hL (z_all1 (z_okL (z_lalu_ok hz)) hst) h1 h2
  simp only [List.map_cons, z_cv1] at kk ⊢
  have hc : kc = 0 ∨ kc = 1 ∨ kc = 2 ∨ kc = 3 := by omega
  rcases hc with rfl | rfl | rfl | rfl
  · cases hz
    rw [z_o64, Int64.ofInt_add] at kk
    exact lv_ladd C.1 C.2.1 hd kk
  · cases hz
    rw [z_o64, Int64.ofInt_sub] at kk
    exact lv_lsub C.1 C.2.1 hd kk
  · cases hz
    rw [z_o64, Int64.ofInt_mul] at kk
    exact lv_lmul C.1 C.2.1 hd kk
  · have hz : (if y = 0 then none else some (z_W (x.tdiv y))) = some z := hz
    by_cases hy0 : y = 0
    · rw [if_pos hy0] at hz; cases hz
    · rw [if_neg hy0] at hz
      cases hz
      refine lv_ldiv C.1 C.2.1 hd (fun h => hy0 ((z_eq64 hy z_i64_0).mp h)) ?_
      have e : Int64.ofInt x / Int64.ofInt y = Int64.ofInt (z_W (x.tdiv y)) := by
        apply Int64.toInt_inj.mp
        rw [Int64.toInt_div, z_t64i hx, z_t64i hy, z_t64, z_W_id (z_W_in _)]
        unfold z_W Int.bmod
        simp only [Int64.size]
        split <;> omega
      rw [e]
      exact kk
theorem zs_6a {x : Int} (C : z_C p s m args c cc nL own D ca ad B n0) (hg : z_good own isI rt cc pc (6, n, 0, g, g2, q) = true) (k : z_G p l e R s m args below meth c Q nL D ca ad B n0 s0 n ll ((1, x) :: st) σ) : z_G p l e R s m args below meth c Q nL D ca ad B n0 s0 pc ll ((0, x) :: st) σ := by
  obtain ⟨hd, hxx⟩ := z_good_inv hg
  intro H locs ls hH hS hL hst h1 h2
  simp only [z_ins] at hd
  simp only [z_xtr, decide_eq_true_eq] at hxx
  obtain ⟨rfl, hk0, hk6⟩ := hxx
  obtain ⟨hx, hst⟩ := List.forall_mem_cons.mp hst
  have hx := hx.1 rfl
  have kk := k H locs ls hH hS hL (z_all1 (z_okL (z_i32_64 hx)) hst) h1 h2
  exact lv_i2l C.1 C.2.1 hd (Int64.toInt_inj.mp (by rw [Int32.toInt_toInt64, z_t32i hx, z_t64i (z_i32_64 hx)])) kk
theorem zs_6b {x : Int} (C : z_C p s m args c cc nL own D ca ad B n0) (hg : z_good own isI rt cc pc (6, n, 1, g, g2, q) = true) (k : z_G p l e R s m args below meth c Q nL D ca ad B n0 s0 n ll ((0, z_w x) :: st) σ) : z_G p l e R s m args below meth c Q nL D ca ad B n0 s0 pc ll ((1, x) :: st) σ := by
  obtain ⟨hd, hxx⟩ := z_good_inv hg
  intro H locs ls hH hS hL hst h1 h2
  simp only [z_ins] at hd
  simp only [z_xtr, decide_eq_true_eq] at hxx
  obtain ⟨rfl, hk0, hk6⟩ := hxx
  obtain ⟨hx, hst⟩ := List.forall_mem_cons.mp hst
  have hx := hx.2 rfl
  have kk := k H locs ls hH hS hL (z_all1 (z_okI (z_w_in _)) hst) h1 h2
  refine lv_l2i C.1 C.2.1 hd (Int32.toInt_inj.mp ?_) kk
  rw [Int64.toInt_toInt32, z_t64i hx, z_t32i (z_w_in _)]
  show Int.bmod x 4294967296 = z_w x
  unfold z_w Int.bmod
  dsimp only
  split <;> omega
theorem zs_7 {v : zV} (C : z_C p s m args c cc nL own D ca ad B n0) (hg : z_good own isI rt cc pc (7, n, g3, g, g2, q) = true) (hv : v.1 = 0 ∨ v.1 = 2) (k : z_G p l e R s m args below meth c Q nL D ca ad B n0 s0 n ll (v :: v :: st) σ) : z_G p l e R s m args below meth c Q nL D ca ad B n0 s0 pc ll (v :: st) σ := by
  obtain ⟨hd, hxx⟩ := z_good_inv hg
  intro H locs ls hH hS hL hst h1 h2
  simp only [z_ins] at hd
  simp only [z_xtr, decide_eq_true_eq] at hxx
  subst hxx
  obtain ⟨hx, -⟩ := List.forall_mem_cons.mp hst
  exact lv_dup C.1 C.2.1 hd (z_cat hv) (k H locs ls hH hS hL (z_all1 hx hst) h1 h2)
theorem zs_8 {v : zV} (C : z_C p s m args c cc nL own D ca ad B n0) (hg : z_good own isI rt cc pc (8, n, g3, g, g2, q) = true) (hv : v.1 = 0 ∨ v.1 = 2) (k : z_G p l e R s m args below meth c Q nL D ca ad B n0 s0 n ll st σ) : z_G p l e R s m args below meth c Q nL D ca ad B n0 s0 pc ll (v :: st) σ := by
  obtain ⟨hd, hxx⟩ := z_good_inv hg
  intro H locs ls hH hS hL hst h1 h2
  simp only [z_ins] at hd
  simp only [z_xtr, decide_eq_true_eq] at hxx
  subst hxx
  obtain ⟨-, hst⟩ := List.forall_mem_cons.mp hst
  exact lv_pop C.1 C.2.1 hd (z_cat hv) (k H locs ls hH hS hL hst h1 h2)
theorem zs_9 {v w : zV} (C : z_C p s m args c cc nL own D ca ad B n0) (hg : z_good own isI rt cc pc (9, n, g3, g, g2, q) = true) (hv : (v.1 = 0 ∨ v.1 = 2) ∧ (w.1 = 0 ∨ w.1 = 2)) (k : z_G p l e R s m args below meth c Q nL D ca ad B n0 s0 n ll (v :: w :: v :: w :: st) σ) : z_G p l e R s m args below meth c Q nL D ca ad B n0 s0 pc ll (v :: w :: st) σ := by
  obtain ⟨hd, hxx⟩ := z_good_inv hg
  intro H locs ls hH hS hL hst h1 h2
  simp only [z_ins] at hd
  simp only [z_xtr, decide_eq_true_eq] at hxx
  subst hxx
  obtain ⟨hx, hs⟩ := List.forall_mem_cons.mp hst
  obtain ⟨hy, -⟩ := List.forall_mem_cons.mp hs
  exact lv_dup2_11 C.1 C.2.1 hd (z_cat hv.1) (z_cat hv.2) (k H locs ls hH hS hL (z_all1 hx (z_all1 hy hst)) h1 h2)
theorem z_tgt {t : Int} (h : 0 ≤ t) : (pc : Int) + (t - (pc : Int)) = ((t.toNat : Nat) : Int) := by omega
theorem zs_10 {kc t x : Int} (C : z_C p s m args c cc nL own D ca ad B n0) (hg : z_good own isI rt cc pc (10, n, kc, t, g2, q) = true) (k : z_G p l e R s m args below meth c Q nL D ca ad B n0 s0 (if z_cnd kc x 0 then t.toNat else n) ll st σ) : z_G p l e R s m args below meth c Q nL D ca ad B n0 s0 pc ll ((0, x) :: st) σ := by
  obtain ⟨hd, hxx⟩ := z_good_inv hg
  intro H locs ls hH hS hL hst h1 h2
  simp only [z_ins] at hd
  simp only [z_xtr, decide_eq_true_eq] at hxx
  obtain ⟨rfl, ht, hk0, hk6⟩ := hxx
  obtain ⟨hx, hst⟩ := List.forall_mem_cons.mp hst
  have hx := hx.1 rfl
  have kk := k H locs ls hH hS hL hst h1 h2
  have h0 := z_i32_0
  have hc : kc = 0 ∨ kc = 1 ∨ kc = 2 ∨ kc = 3 ∨ kc = 4 ∨ kc = 5 := by omega
  rcases hc with rfl | rfl | rfl | rfl | rfl | rfl
  · exact lv_if_eq C.1 C.2.1 hd (z_tgt ht) (fun h => by rw [show z_cnd 0 x 0 = true from decide_eq_true ((z_eq32 hx h0).mp h)] at kk; exact kk) (fun h => by rw [show z_cnd 0 x 0 = false from decide_eq_false (fun z => h ((z_eq32 hx h0).mpr z))] at kk; exact kk)
  · exact lv_if_ne C.1 C.2.1 hd (z_tgt ht) (fun h => by rw [show z_cnd 1 x 0 = true from decide_eq_true (fun z => h ((z_eq32 hx h0).mpr z))] at kk; exact kk) (fun h => by rw [show z_cnd 1 x 0 = false from decide_eq_false (fun z => z ((z_eq32 hx h0).mp h))] at kk; exact kk)
  · exact lv_if_lt C.1 C.2.1 hd (z_tgt ht) (fun h => by rw [show z_cnd 2 x 0 = true from decide_eq_true ((z_lt32 hx h0).mp h)] at kk; exact kk) (fun h => by rw [show z_cnd 2 x 0 = false from decide_eq_false (fun z => h ((z_lt32 hx h0).mpr z))] at kk; exact kk)
  · exact lv_if_ge C.1 C.2.1 hd (z_tgt ht) (fun h => by rw [show z_cnd 3 x 0 = true from decide_eq_true ((z_le32 h0 hx).mp h)] at kk; exact kk) (fun h => by rw [show z_cnd 3 x 0 = false from decide_eq_false (fun z => h ((z_le32 h0 hx).mpr z))] at kk; exact kk)
  · exact lv_if_gt C.1 C.2.1 hd (z_tgt ht) (fun h => by rw [show z_cnd 4 x 0 = true from decide_eq_true ((z_lt32 h0 hx).mp h)] at kk; exact kk) (fun h => by rw [show z_cnd 4 x 0 = false from decide_eq_false (fun z => h ((z_lt32 h0 hx).mpr z))] at kk; exact kk)
  · exact lv_if_le C.1 C.2.1 hd (z_tgt ht) (fun h => by rw [show z_cnd 5 x 0 = true from decide_eq_true ((z_le32 hx h0).mp h)] at kk; exact kk) (fun h => by rw [show z_cnd 5 x 0 = false from decide_eq_false (fun z => h ((z_le32 hx h0).mpr z))] at kk; exact kk)
theorem zs_11 {kc t x y : Int} (C : z_C p s m args c cc nL own D ca ad B n0) (hg : z_good own isI rt cc pc (11, n, kc, t, g2, q) = true) (k : z_G p l e R s m args below meth c Q nL D ca ad B n0 s0 (if z_cnd kc x y then t.toNat else n) ll st σ) : z_G p l e R s m args below meth c Q nL D ca ad B n0 s0 pc ll ((0, y) :: (0, x) :: st) σ := by
  obtain ⟨hd, hxx⟩ := z_good_inv hg
  intro H locs ls hH hS hL hst h1 h2
  simp only [z_ins] at hd
  simp only [z_xtr, decide_eq_true_eq] at hxx
  obtain ⟨rfl, ht, hk0, hk6⟩ := hxx
  obtain ⟨hy, hst⟩ := List.forall_mem_cons.mp hst
  obtain ⟨hx, hst⟩ := List.forall_mem_cons.mp hst
  have hx := hx.1 rfl
  have h0 := hy.1 rfl
  have kk := k H locs ls hH hS hL hst h1 h2
  have hc : kc = 0 ∨ kc = 1 ∨ kc = 2 ∨ kc = 3 ∨ kc = 4 ∨ kc = 5 := by omega
  rcases hc with rfl | rfl | rfl | rfl | rfl | rfl
  · exact lv_icmp_eq C.1 C.2.1 hd (z_tgt ht) (fun h => by rw [show z_cnd 0 x y = true from decide_eq_true ((z_eq32 hx h0).mp h)] at kk; exact kk) (fun h => by rw [show z_cnd 0 x y = false from decide_eq_false (fun z => h ((z_eq32 hx h0).mpr z))] at kk; exact kk)
  · exact lv_icmp_ne C.1 C.2.1 hd (z_tgt ht) (fun h => by rw [show z_cnd 1 x y = true from decide_eq_true (fun z => h ((z_eq32 hx h0).mpr z))] at kk; exact kk) (fun h => by rw [show z_cnd 1 x y = false from decide_eq_false (fun z => z ((z_eq32 hx h0).mp h))] at kk; exact kk)
  · exact lv_icmp_lt C.1 C.2.1 hd (z_tgt ht) (fun h => by rw [show z_cnd 2 x y = true from decide_eq_true ((z_lt32 hx h0).mp h)] at kk; exact kk) (fun h => by rw [show z_cnd 2 x y = false from decide_eq_false (fun z => h ((z_lt32 hx h0).mpr z))] at kk; exact kk)
  · exact lv_icmp_ge C.1 C.2.1 hd (z_tgt ht) (fun h => by rw [show z_cnd 3 x y = true from decide_eq_true ((z_le32 h0 hx).mp h)] at kk; exact kk) (fun h => by rw [show z_cnd 3 x y = false from decide_eq_false (fun z => h ((z_le32 h0 hx).mpr z))] at kk; exact kk)
  · exact lv_icmp_gt C.1 C.2.1 hd (z_tgt ht) (fun h => by rw [show z_cnd 4 x y = true from decide_eq_true ((z_lt32 h0 hx).mp h)] at kk; exact kk) (fun h => by rw [show z_cnd 4 x y = false from decide_eq_false (fun z => h ((z_lt32 h0 hx).mpr z))] at kk; exact kk)
  · exact lv_icmp_le C.1 C.2.1 hd (z_tgt ht) (fun h => by rw [show z_cnd 5 x y = true from decide_eq_true ((z_le32 hx h0).mp h)] at kk; exact kk) (fun h => by rw [show z_cnd 5 x y = false from decide_eq_false (fun z => h ((z_le32 hx h0).mpr z))] at kk; exact kk)
theorem zs_12 {t : Int} (C : z_C p s m args c cc nL own D ca ad B n0) (hg : z_good own isI rt cc pc (12, n, t, g, g2, q) = true) (k : z_G p l e R s m args below meth c Q nL D ca ad B n0 s0 t.toNat ll st σ) : z_G p l e R s m args below meth c Q nL D ca ad B n0 s0 pc ll st σ := by
  obtain ⟨hd, hxx⟩ := z_good_inv hg
  intro H locs ls hH hS hL hst h1 h2
  simp only [z_ins] at hd
  simp only [z_xtr, decide_eq_true_eq] at hxx
  exact lv_goto C.1 C.2.1 hd (z_tgt hxx) (k H locs ls hH hS hL hst h1 h2)
/-- a table of switch targets, found -/
theorem z_sw_at {d x : Int} : ∀ (q : List (Int × Int)) (lo : Int), q.map (fun r => r.1) = (List.range q.length).map (fun (j : Nat) => lo + (j : Int)) → ∀ j : Nat, x = lo + (j : Int) → j < q.length → ∃ r : Int × Int, q[j]? = some r ∧ z_sw d x q = r.2
  | [], _, _, j, _, h => absurd h (Nat.not_lt_zero j)
  | r :: q, lo, h, j, hx, hj => by
    have hr : r.1 = lo := by
      have := congrArg List.head? h
      simpa [List.range_succ_eq_map] using this
    cases j with
    | zero =>
      refine ⟨r, rfl, ?_⟩
      unfold z_sw
      rw [if_pos (by rw [hx, hr]; simp)]
    | succ j =>
      have h' : q.map (fun r => r.1) = (List.range q.length).map (fun (j : Nat) => (lo + 1) + (j : Int)) := by
        have := congrArg List.tail h
        simp only [List.map_cons, List.tail_cons, List.length_cons, List.range_succ_eq_map, List.map_map] at this
        rw [this]
        apply List.map_congr_left
        intro a _
        simp only [Function.comp]
        omega
      obtain ⟨r', h1, h2⟩ := z_sw_at (d := d) (x := x) q (lo + 1) h' j (by rw [hx]; omega) (by simpa using hj)
      refine ⟨r', by simpa using h1, ?_⟩
      unfold z_sw
      rw [if_neg (by rw [hx, hr]; omega)]
      exact h2
theorem z_sw_out {d x : Int} : ∀ (q : List (Int × Int)), (∀ r ∈ q, ¬ x = r.1) → z_sw d x q = d
  | [], _ => rfl
  | r :: q, h => by
    unfold z_sw
    rw [if_neg (h r List.mem_cons_self)]
    exact z_sw_out q (fun r' h' => h r' (List.mem_cons_of_mem _ h'))
theorem zs_13 {d lo hi x : Int} (C : z_C p s m args c cc nL own D ca ad B n0) (hg : z_good own isI rt cc pc (13, n, d, lo, hi, q) = true) (k : z_G p l e R s m args below meth c Q nL D ca ad B n0 s0 (z_sw d x q).toNat ll st σ) : z_G p l e R s m args below meth c Q nL D ca ad B n0 s0 pc ll ((0, x) :: st) σ := by
  obtain ⟨hd, hxx⟩ := z_good_inv hg
  intro H locs ls hH hS hL hst h1 h2
  simp only [z_ins] at hd
  simp only [z_xtr, Bool.and_eq_true, decide_eq_true_eq] at hxx
  obtain ⟨⟨⟨hd0, hlen⟩, hq⟩, hall⟩ := hxx
  obtain ⟨hx, hst⟩ := List.forall_mem_cons.mp hst
  have hx := hx.1 rfl
  have kk := k H locs ls hH hS hL hst h1 h2
  by_cases hin : x < lo ∨ hi < x
  · rw [z_sw_out q (fun r hr e => by
      have h3 : r.1 ∈ q.map (fun r => r.1) := List.mem_map.mpr ⟨r, hr, rfl⟩
      rw [hq] at h3
      obtain ⟨j, hj, ej⟩ := List.mem_map.mp h3
      have := List.mem_range.mp hj
      omega)] at kk
    exact lv_tableOut C.1 C.2.1 hd (by rw [z_t32i hx]; exact hin) (z_tgt hd0) kk
  · have hj : (x - lo).toNat < q.length := by omega
    obtain ⟨r, hr1, hr2⟩ := z_sw_at (d := d) (x := x) q lo hq (x - lo).toNat (by omega) hj
    rw [hr2] at kk
    have hr0 : 0 ≤ r.2 := by
      have := List.all_eq_true.mp hall r (List.mem_of_getElem? hr1)
      simpa using this
    refine lv_tableIn (off := r.2 - (pc : Int)) C.1 C.2.1 hd (by rw [z_t32i hx]; omega) (by rw [z_t32i hx]; omega) ?_ (z_tgt hr0) kk
    rw [z_t32i hx]
    simp [hr1]
end ZS
end
section
/-! places of the words of the fields, class by class (written by wip/whole/src/gen.py) -/
def z_lp0 : List Int := [167, 169, 171]
theorem z_lay0 : (List.range 3).all (fun k => z_wd (z_lp0.getD k 0) (u_lay RX0 TX0 k)) = true := by decide +kernel
def z_lp1 : List Int := [187, 189, 191]
theorem z_lay1 : (List.range 3).all (fun k => z_wd (z_lp1.getD k 0) (u_lay RX1 TX1 k)) = true := by decide +kernel
def z_lp2 : List Int := [335, 337, 339, 341, 343, 345, 347, 349, 351, 353, 355, 357, 359, 361, 363, 365, 367, 369]
theorem z_lay2 : (List.range 18).all (fun k => z_wd (z_lp2.getD k 0) (u_lay RX2 TX2 k)) = true := by decide +kernel
def z_lp3 : List Int := [284, 286, 288, 290, 292, 294, 296, 298, 300, 302, 304, 306, 308]
theorem z_lay3 : (List.range 13).all (fun k => z_wd (z_lp3.getD k 0) (u_lay RX3 TX3 k)) = true := by decide +kernel
def z_lp4 : List Int := [207, 209, 211, 213, 215, 217, 219]
theorem z_lay4 : (List.range 7).all (fun k => z_wd (z_lp4.getD k 0) (u_lay RX4 TX4 k)) = true := by decide +kernel
def z_lp5 : List Int := [240, 242, 244, 246, 248, 250, 252, 254, 256, 258, 260, 262]
theorem z_lay5 : (List.range 12).all (fun k => z_wd (z_lp5.getD k 0) (u_lay RX5 TX5 k)) = true := by decide +kernel
def z_lp6 : List Int := [382, 384, 386]
theorem z_lay6 : (List.range 3).all (fun k => z_wd (z_lp6.getD k 0) (u_lay RX6 TX6 k)) = true := by decide +kernel
def z_lp7 : List Int := [553, 555, 557, 559, 561, 563, 565, 567, 569, 571, 573]
theorem z_lay7 : (List.range 11).all (fun k => z_wd (z_lp7.getD k 0) (u_lay RX7 TX7 k)) = true := by decide +kernel
def z_lp8 : List Int := [1438, 1440, 1442, 1444, 1446, 1448, 1450, 1452, 1454, 1456, 1458, 1460, 1462, 1464, 1466, 1468, 1470, 1472, 1474, 1476, 1478, 1480, 1482, 1484, 1486, 1488, 1490, 1492, 1494, 1496, 1498, 1500, 1502, 1504, 1506, 1508, 1510, 1512, 1514, 1516, 1518, 1520, 1522, 1524, 1526, 1528, 1530, 1532, 1534, 1536, 1538, 1540, 1542, 1544, 1546, 1548, 1550, 1552, 1554, 1556, 1558, 1560, 1562, 1564, 1566, 1568, 1570, 1572, 1574, 1576]
theorem z_lay8 : (List.range 70).all (fun k => z_wd (z_lp8.getD k 0) (u_lay RX8 TX8 k)) = true := by decide +kernel

theorem z_cls_in {C : String} {F : u_T} {N : Nat} {pl : List Int} (h : (List.range N).all (fun k => z_wd (pl.getD k 0) (u_lay C F k)) = true) : ∀ w ∈ u_ws C F N, w ∈ z_T := by
  intro w hw
  obtain ⟨k, hk, rfl⟩ := List.mem_map.mp hw
  exact z_wd_in (List.all_eq_true.mp h k hk)
theorem z_cls {ci : Int} (h0 : 0 ≤ ci) (h9 : ci < 9) : vwCl[ci.toNat]? = some (z_cl ci) ∧ (∀ w ∈ u_ws (z_cl ci).1 (z_cl ci).2.1 (z_cl ci).2.2, w ∈ z_T) ∧
    (∀ k, k < (z_cl ci).2.2 → parseFieldDescriptor ((z_cl ci).2.1 k).2.2.1 = some (z_tyF ci.toNat k)) ∧ (∀ a, a < (z_cl ci).2.2 → ∀ b, b < (z_cl ci).2.2 → a ≠ b → ((z_cl ci).2.1 a).2.1 ≠ ((z_cl ci).2.1 b).2.1) ∧ (z_cl ci).2.2 = z_N ci.toNat := by
  have hc : ci = 0 ∨ ci = 1 ∨ ci = 2 ∨ ci = 3 ∨ ci = 4 ∨ ci = 5 ∨ ci = 6 ∨ ci = 7 ∨ ci = 8 := by omega
  rcases hc with rfl | rfl | rfl | rfl | rfl | rfl | rfl | rfl | rfl
  · exact ⟨rfl, z_cls_in z_lay0, tyX0_ok, nmX0, rfl⟩
  · exact ⟨rfl, z_cls_in z_lay1, tyX1_ok, nmX1, rfl⟩
  · exact ⟨rfl, z_cls_in z_lay2, tyX2_ok, nmX2, rfl⟩
  · exact ⟨rfl, z_cls_in z_lay3, tyX3_ok, nmX3, rfl⟩
  · exact ⟨rfl, z_cls_in z_lay4, tyX4_ok, nmX4, rfl⟩
  · exact ⟨rfl, z_cls_in z_lay5, tyX5_ok, nmX5, rfl⟩
  · exact ⟨rfl, z_cls_in z_lay6, tyX6_ok, nmX6, rfl⟩
  · exact ⟨rfl, z_cls_in z_lay7, tyX7_ok, nmX7, rfl⟩
  · exact ⟨rfl, z_cls_in z_lay8, tyX8_ok, nmX8, rfl⟩
section ZS
variable {p : Program} {l : Launch} {e : Env} {R : Room} {s : State} {m : MethodId} {args : Array Value} {below : List Frame} {meth : Method} {c : Code} {Q : State → Prop}
variable {cc : ByteArray} {nL : Nat} {own : String} {D : va_G} {ca : Nat → ClassId} {ad : Int → Option Nat} {B n0 s0 : Nat}
variable {isI : Bool} {rt : Option FieldType} {pc n : Nat} {ll st : List zV} {σ : zS} {g g2 g3 : Int} {q : List (Int × Int)}
theorem zs_14 {d x : Int} (C : z_C p s m args c cc nL own D ca ad B n0) (hg : z_good own isI rt cc pc (14, n, d, g, g2, q) = true) (k : z_G p l e R s m args below meth c Q nL D ca ad B n0 s0 (z_sw d x q).toNat ll st σ) : z_G p l e R s m args below meth c Q nL D ca ad B n0 s0 pc ll ((0, x) :: st) σ := by
  obtain ⟨hd, hxx⟩ := z_good_inv hg
  intro H locs ls hH hS hL hst h1 h2
  simp only [z_ins] at hd
  simp only [z_xtr, Bool.and_eq_true, decide_eq_true_eq] at hxx
  obtain ⟨⟨hd0, hsort⟩, hall⟩ := hxx
  obtain ⟨hx, hst⟩ := List.forall_mem_cons.mp hst
  have hx := hx.1 rfl
  have kk := k H locs ls hH hS hL hst h1 h2
  have hoff : ∀ q : List (Int × Int), q.all (fun r => decide (0 ≤ r.2)) = true → Op.lookupswitch.offset (q.map (fun r => (r.1, r.2 - (pc : Int)))) (d - (pc : Int)) x = z_sw d x q - (pc : Int) ∧ 0 ≤ z_sw d x q := by
    intro q
    induction q with
    | nil => intro _; exact ⟨rfl, hd0⟩
    | cons r q ih =>
      intro hq
      rw [List.all_cons, Bool.and_eq_true, decide_eq_true_eq] at hq
      obtain ⟨i1, i2⟩ := ih hq.2
      rw [List.map_cons, Op.lookupswitch.offset_cons]
      unfold z_sw
      by_cases e : r.1 = x
      · rw [if_pos e, if_pos e.symm]
        exact ⟨rfl, hq.1⟩
      · rw [if_neg e, if_neg (fun z => e z.symm)]
        exact ⟨i1, i2⟩
  obtain ⟨o1, o2⟩ := hoff q hall
  refine lv_lookup (off := z_sw d x q - (pc : Int)) C.1 C.2.1 hd (by simpa using hsort) ?_ (z_tgt o2) kk
  rw [z_t32i hx]
  exact o1
theorem zs_24 {x i : Int} (C : z_C p s m args c cc nL own D ca ad B n0) (hg : z_good own isI rt cc pc (24, n, x, i, g, q) = true) (k : z_G p l e R s m args below meth c Q nL D ca ad B n0 s0 n ll ((1, x) :: st) σ) : z_G p l e R s m args below meth c Q nL D ca ad B n0 s0 pc ll st σ := by
  obtain ⟨hd, hxx⟩ := z_good_inv hg
  intro H locs ls hH hS hL hst h1 h2
  simp only [z_ins] at hd
  simp only [z_xtr] at hxx
  by_cases i0 : i = 0
  · simp only [i0, if_true, decide_eq_true_eq] at hd hxx
    obtain ⟨rfl, x0, x1⟩ := hxx
    have h64 : z_i64 x := by unfold z_i64; omega
    refine lv_lconst C.1 C.2.1 hd ?_ (k H locs ls hH hS hL (z_all1 (z_okL h64) hst) h1 h2)
    have hc : x = 0 ∨ x = 1 := by omega
    rcases hc with rfl | rfl <;> rfl
  · simp only [i0, if_false, Bool.and_eq_true, decide_eq_true_eq] at hd hxx
    obtain ⟨⟨rfl, hx⟩, hw⟩ := hxx
    have h64 : z_i64 x := by rw [← hx]; exact z_W_in x
    split at hw
    · exact lv_ldc2 C.1 C.2.1 C.2.2.2.1 (C.2.2.2.2.1 _ (z_wd_in hw)) hd (k H locs ls hH hS hL (z_all1 (z_okL h64) hst) h1 h2)
    · cases hw
theorem z_sum4 : ∀ (st : List zV), ((st.map (z_cv ad)).map fun v => v.category).sum ≤ 2 * st.length
  | [] => Nat.le_refl _
  | v :: st => by
    have := z_sum4 st
    have hc := lv_cat (z_cv ad v)
    simp only [List.map_cons, List.sum_cons, List.length_cons]
    omega
theorem zs_28 {kc i x y : Int} (C : z_C p s m args c cc nL own D ca ad B n0) (hR : 1 ≤ R.frames ∧ 32 ≤ R.locals) (hcap : σ.1 - n0 ≤ R.cells ∧ σ.2.1 - s0 ≤ R.slots) (hg : z_good own isI rt cc pc (28, n, kc, i, g, q) = true) (h4 : st.length ≤ 4) (k : z_G p l e R s m args below meth c Q nL D ca ad B n0 s0 n ll ((0, if kc = 0 then (if x < y then y else x) else (if y < x then y else x)) :: st) σ) : z_G p l e R s m args below meth c Q nL D ca ad B n0 s0 pc ll ((0, y) :: (0, x) :: st) σ := by
  obtain ⟨hd, hxx⟩ := z_good_inv hg
  intro H locs ls hH hS hL hst h1 h2
  simp only [z_ins] at hd
  simp only [z_xtr, Bool.and_eq_true, decide_eq_true_eq] at hxx
  obtain ⟨⟨rfl, hk0, hk1⟩, hw⟩ := hxx
  obtain ⟨hy, hst⟩ := List.forall_mem_cons.mp hst
  obtain ⟨hx, hst⟩ := List.forall_mem_cons.mp hst
  have hx := hx.1 rfl
  have hy := hy.1 rfl
  have hsum := z_sum4 (ad := ad) st
  have hts := C.2.2.2.2.1
  split at hw
  · rename_i p1 p2 p3 p4
    simp only [Bool.and_eq_true] at hw
    obtain ⟨hini, hw⟩ := hw
    have hc : kc = 0 ∨ kc = 1 := by omega
    rcases hc with rfl | rfl
    · simp only [if_true, Bool.and_eq_true] at hw k
      obtain ⟨⟨a1, a2⟩, a3⟩ := hw
      have kk := k H locs ls hH hS hL (z_all1 (z_okI (by split <;> assumption)) hst) h1 h2
      refine va_mmax C.1 C.2.1 (by rw [C.2.2.1, hL.1]) C.2.2.2.1 (hts _ (z_wd_in a1)) (hts _ (z_wd_in a2)) (hts _ (z_wd_in hini)) (hts _ (z_wd_in a3)) hR.1 (by omega) hcap.1 hcap.2 hd ?_
      have e : (if Int32.ofInt x < Int32.ofInt y then Int32.ofInt y else Int32.ofInt x) = Int32.ofInt (if x < y then y else x) := by
        by_cases h : x < y
        · rw [if_pos h, if_pos ((z_lt32 hx hy).mpr h)]
        · rw [if_neg h, if_neg (fun z => h ((z_lt32 hx hy).mp z))]
      rw [e]
      exact kk
    · simp only [show ¬ (1 : Int) = 0 by decide, if_false, Bool.and_eq_true] at hw k
      obtain ⟨⟨a1, a2⟩, a3⟩ := hw
      have kk := k H locs ls hH hS hL (z_all1 (z_okI (by split <;> assumption)) hst) h1 h2
      refine va_mmin C.1 C.2.1 (by rw [C.2.2.1, hL.1]) C.2.2.2.1 (hts _ (z_wd_in a1)) (hts _ (z_wd_in a2)) (hts _ (z_wd_in hini)) (hts _ (z_wd_in a3)) hR.1 (by omega) hcap.1 hcap.2 hd ?_
      have e : (if Int32.ofInt y < Int32.ofInt x then Int32.ofInt y else Int32.ofInt x) = Int32.ofInt (if y < x then y else x) := by
        by_cases h : y < x
        · rw [if_pos h, if_pos ((z_lt32 hy hx).mpr h)]
        · rw [if_neg h, if_neg (fun z => h ((z_lt32 hy hx).mp z))]
      rw [e]
      exact kk
  · cases hw
end ZS
end
section
section ZS
variable {p : Program} {l : Launch} {e : Env} {R : Room} {s : State} {m : MethodId} {args : Array Value} {below : List Frame} {meth : Method} {c : Code} {Q : State → Prop}
variable {cc : ByteArray} {nL : Nat} {own : String} {D : va_G} {ca : Nat → ClassId} {ad : Int → Option Nat} {B n0 s0 : Nat}
variable {isI : Bool} {rt : Option FieldType} {pc n : Nat} {ll st : List zV} {σ : zS} {g g2 g3 : Int} {q : List (Int × Int)}
/-- how large the heap is, inside a walk -/
theorem z_sized {H : Heap} {locs : List Loc} {f : JFrame} (hs : s.heap.size = B + n0) (hn : n0 ≤ σ.1) (hP : va_P D vwCl (z_ws ca ad B σ) H) (hS : va_S (fun q => B ≤ q) s.heap H locs) {cs sl : Nat} (hcs : cs = σ.1 - n0) (k : H.size = B + σ.1 → W p l e R s m args below meth c H locs cs sl Q f) : W p l e R s m args below meth c H locs cs sl Q f := by
  intro T hT X
  refine k ?_ T hT X
  have h1 := X.heapSize
  rw [hT] at h1
  have h2 : B + σ.1 ≤ H.size := by
    by_cases h0 : σ.1 = 0
    · have := hS.1
      omega
    · have := (hP (σ.1 - 1) _ (z_ws_get (by omega))).lt
      simp only at this
      omega
  omega
theorem z_cel_ne {a i x b : Int} (h : b ≠ a) : z_cel ca ad (σ.1, σ.2.1, σ.2.2.1, z_upd σ.2.2.2 a i x) b = z_cel ca ad σ b := by
  have e : ∀ j : Int, z_upd σ.2.2.2 a i x b j = σ.2.2.2 b j := fun j => by simp [z_upd, h]
  unfold z_cel
  simp only [e]
theorem z_ws_upd {a i x : Int} {j : Nat} (hj : j < σ.1) (ha : a = (j : Int) + 1) : (z_ws ca ad B σ).set j (B + j, z_cel ca ad (σ.1, σ.2.1, σ.2.2.1, z_upd σ.2.2.2 a i x) a) = z_ws ca ad B (σ.1, σ.2.1, σ.2.2.1, z_upd σ.2.2.2 a i x) := by
  apply List.ext_getElem?
  intro k
  by_cases hk : k < σ.1
  · rw [z_ws_get (σ := (σ.1, σ.2.1, σ.2.2.1, z_upd σ.2.2.2 a i x)) hk]
    by_cases e : k = j
    · subst e
      rw [List.getElem?_set_self (by simpa [z_ws] using hk), ← ha]
    · rw [List.getElem?_set_ne (fun z => e z.symm), z_ws_get hk, z_cel_ne (by omega)]
  · rw [List.getElem?_eq_none (by simp [z_ws]; omega), List.getElem?_eq_none (by simp [z_ws]; omega)]
theorem z_ok_upd {a i x : Int} (hok : z_ok σ) (h1 : a ≠ -1) (hr : ∀ k : Nat, i = (k : Int) → z_rng (z_mt (σ.2.2.1 a).1 k) x) : z_ok (σ.1, σ.2.1, σ.2.2.1, z_upd σ.2.2.2 a i x) := by
  refine ⟨hok.1, hok.2.1, hok.2.2.1, hok.2.2.2.1, fun b k hb => ?_⟩
  show z_rng (z_mt (σ.2.2.1 b).1 k) (z_upd σ.2.2.2 a i x b k)
  unfold z_upd
  split
  · rename_i h
    obtain ⟨rfl, h⟩ := h
    exact hr k h.symm
  · exact hok.2.2.2.2 b k hb
theorem z_X_upd {a i x : Int} {U : State} {H : Heap} (h : z_X ad B σ U H) (h1 : a ≠ -1) : z_X ad B (σ.1, σ.2.1, σ.2.2.1, z_upd σ.2.2.2 a i x) U H := by
  obtain ⟨b, e1, e2, e3⟩ := h
  have e : ∀ j : Int, z_upd σ.2.2.2 a i x (-1) j = σ.2.2.2 (-1) j := fun j => by unfold z_upd; rw [if_neg (fun z => h1 z.1.symm)]
  refine ⟨b, e1, e2, ?_⟩
  simp only [e]
  exact e3
theorem z_X_kept {U : State} {H H1 : Heap} {locs : List Loc} {H0 : Heap} {locs1 : List Loc} (h : z_X ad B σ U H) (hB : B ≤ H0.size) (hS : va_S (fun q => B ≤ q) H0 H locs) (hS1 : va_S (fun q => B ≤ q) H0 H1 locs1) : z_X ad B σ U H1 := by
  obtain ⟨b, e1, e2, e3⟩ := h
  refine ⟨b, e1, e2, e3.kept ?_⟩
  rw [hS.2.1 b (by omega) (by show ¬ B ≤ b; omega), hS1.2.1 b (by omega) (by show ¬ B ≤ b; omega)]
theorem z_cel_obj {a : Int} (h : (σ.2.2.1 a).1 < 9) : z_cel ca ad σ a = .inr ((σ.2.2.1 a).1, (List.range (σ.2.2.1 a).2).map (fun j => z_fv ad (z_mt (σ.2.2.1 a).1 j) (σ.2.2.2 a (j : Int)))) := by
  unfold z_cel
  rw [if_neg (by omega), if_neg (by omega), if_neg (by omega), if_neg (by omega)]
theorem z_fv_st {t : Nat} {x : Int} : z_fv ad t x = z_cv ad (z_st t, x) := by
  unfold z_cv z_st z_fv
  by_cases h : t = 3
  · simp [h]
  · simp [h]
theorem z_ok_st {t : Nat} {x : Int} (h : z_rng t x) : z_okv (z_st t, x) := by
  unfold z_st
  by_cases h3 : t = 3
  · rw [if_pos h3]; exact ⟨fun _ => h.1 (Or.inr h3), fun z => (by cases z)⟩
  · rw [if_neg h3]; exact ⟨fun z => h.1 (Or.inl z), fun z => h.2 z⟩
theorem z_rng_st {t : Nat} {x : Int} (h : z_okv (z_st t, x)) : z_rng t x := by
  unfold z_st at h
  by_cases h3 : t = 3
  · rw [if_pos h3] at h; exact ⟨fun _ => h.1 rfl, fun z => (by omega)⟩
  · rw [if_neg h3] at h; exact ⟨fun z => h.1 (by rcases z with z | z <;> first | exact z | exact absurd z h3), h.2⟩
theorem zs_15 {ci k t a : Int} (C : z_C p s m args c cc nL own D ca ad B n0) (hg : z_good own isI rt cc pc (15, n, ci, k, t, q) = true) (ha : ((σ.2.2.1 a).1 : Int) = ci) (kk : z_G p l e R s m args below meth c Q nL D ca ad B n0 s0 n ll ((z_st t.toNat, σ.2.2.2 a k) :: st) σ) : z_G p l e R s m args below meth c Q nL D ca ad B n0 s0 pc ll ((2, a) :: st) σ := by
  obtain ⟨hd, hxx⟩ := z_good_inv hg
  intro H locs ls hH hS hL hst h1 h2
  obtain ⟨-, hst⟩ := List.forall_mem_cons.mp hst
  cases q with
  | nil => exact absurd hxx (by simp [z_xtr])
  | cons iw q =>
    obtain ⟨i, w⟩ := iw
    simp only [z_ins] at hd
    simp only [z_xtr, Bool.and_eq_true, decide_eq_true_eq] at hxx
    obtain ⟨⟨rfl, c0, c9, k0, kN, ht⟩, hw⟩ := hxx
    obtain ⟨hc, hin, -, -, hN⟩ := z_cls c0 c9
    have hk9 : (σ.2.2.1 a).1 < 9 := by omega
    have ha1 : a ≠ -1 := fun z => by rw [z, hH.2.1.2.2.2.1] at hk9; omega
    obtain ⟨j, hj, ej, had, hget⟩ := z_cell (ca := ca) C.2.2.2.2.2.2.1 hH.2.1 (by omega) ha1
    have hci : (σ.2.2.1 a).1 = ci.toNat := by omega
    have hlen := hH.2.1.2.1 a hk9
    rw [z_cel_obj hk9, hci] at hget
    have hkl : k.toNat < (σ.2.2.1 a).2 := by rw [hlen, hci, ← hN]; omega
    have ek : ((k.toNat : Nat) : Int) = k := by omega
    have hrng : z_rng (z_mt ci.toNat k.toNat) (σ.2.2.2 a k) := by
      have := hH.2.1.2.2.2.2 a k.toNat (by omega)
      rw [hci, ek] at this
      exact this
    have et : t.toNat = z_mt ci.toNat k.toNat := by omega
    rw [et] at kk
    have k2 := kk H locs ls hH hS hL (z_all1 (z_ok_st hrng) hst) h1 h2
    rw [List.map_cons, z_cv2, had]
    refine va_get (v := z_fv ad (z_mt ci.toNat k.toNat) (σ.2.2.2 a k)) C.1 C.2.1 C.2.2.2.2.1 hin C.2.2.2.1 C.2.2.2.2.2.1.1 hH.1 j hget hc k.toNat (by omega) (C.2.2.2.2.1 _ (z_wd_in hw)) (fun _ h => h) ?_ hd ?_
    · rw [List.getElem?_map, List.getElem?_range hkl]
      simp only [Option.map_some, ek]
    · rw [z_fv_st]
      exact k2
theorem z_narrow {F : FieldType} {x : Int} (hf : z_fitv (z_tag F) x = true) (hF : F = .int ∨ F = .long ∨ F = .boolean ∨ (∃ C, F = .object C) ∨ ∃ T, F = .array T) (hn : z_tag F = 2 → ad x ≠ none ∨ ad x = none) : narrow F (z_fv ad (z_tag F) x) = z_fv ad (z_tag F) x ∧ fits F (z_fv ad (z_tag F) x) = true := by
  rcases hF with rfl | rfl | rfl | ⟨C, rfl⟩ | ⟨T, rfl⟩
  · exact ⟨rfl, rfl⟩
  · exact ⟨rfl, rfl⟩
  · have h : x = 0 ∨ x = 1 := by simpa [z_fitv, z_tag] using hf
    rcases h with rfl | rfl
    · show narrow .boolean (.int (Int32.ofInt 0)) = .int (Int32.ofInt 0) ∧ fits .boolean (.int (Int32.ofInt 0)) = true
      exact ⟨by decide, by decide⟩
    · show narrow .boolean (.int (Int32.ofInt 1)) = .int (Int32.ofInt 1) ∧ fits .boolean (.int (Int32.ofInt 1)) = true
      exact ⟨by decide, by decide⟩
  · show narrow (.object C) (va_rf (ad x)) = va_rf (ad x) ∧ fits (.object C) (va_rf (ad x)) = true
    cases ad x <;> exact ⟨rfl, rfl⟩
  · show narrow (.array T) (va_rf (ad x)) = va_rf (ad x) ∧ fits (.array T) (va_rf (ad x)) = true
    cases ad x <;> exact ⟨rfl, rfl⟩
theorem z_tyF_is : ∀ ci, ci < 9 → ∀ k, k < z_N ci → z_tyF ci k = .int ∨ z_tyF ci k = .long ∨ z_tyF ci k = .boolean ∨ (∃ C, z_tyF ci k = .object C) ∨ ∃ T, z_tyF ci k = .array T := by
  have h : ∀ F : FieldType, (match F with | .int => true | .long => true | .boolean => true | .object _ => true | .array _ => true | _ => false) = true → F = .int ∨ F = .long ∨ F = .boolean ∨ (∃ C, F = .object C) ∨ ∃ T, F = .array T := by
    intro F hF
    cases F <;> first | (cases hF; done) | simp
  have h2 : ∀ ci, ci < 9 → ∀ k, k < z_N ci → (match z_tyF ci k with | .int => true | .long => true | .boolean => true | .object _ => true | .array _ => true | _ => false) = true := by decide +kernel
  exact fun ci hc k hk => h _ (h2 ci hc k hk)
theorem z_mt_obj {ci k : Nat} (h : ci < 9) : z_mt ci k = z_tag (z_tyF ci k) := by
  match ci, h with
  | 0, _ => rfl
  | 1, _ => rfl
  | 2, _ => rfl
  | 3, _ => rfl
  | 4, _ => rfl
  | 5, _ => rfl
  | 6, _ => rfl
  | 7, _ => rfl
  | 8, _ => rfl
theorem z_map_set {N k : Nat} {f h : Nat → Value} {v : Value} (hk : k < N) (h1 : h k = v) (h2 : ∀ j, j ≠ k → h j = f j) : (List.range N).map h = ((List.range N).map f).set k v := by
  apply List.ext_getElem?
  intro j
  by_cases hj : j < N
  · rw [List.getElem?_map, List.getElem?_range hj]
    by_cases e : j = k
    · subst e
      rw [List.getElem?_set_self (by simpa using hj)]
      simp [h1]
    · rw [List.getElem?_set_ne (fun z => e z.symm), List.getElem?_map, List.getElem?_range hj]
      simp [h2 j e]
  · rw [List.getElem?_eq_none (by simp; omega), List.getElem?_eq_none (by simp; omega)]
theorem zs_16 {ci k t a x : Int} {u : Nat} (C : z_C p s m args c cc nL own D ca ad B n0) (hin2 : isI = true → meth.name = "<init>") (hg : z_good own isI rt cc pc (16, n, ci, k, t, q) = true) (ha : ((σ.2.2.1 a).1 : Int) = ci) (hu : u = z_st t.toNat) (hfit : z_fitv t.toNat x = true)
    (kk : z_G p l e R s m args below meth c Q nL D ca ad B n0 s0 n ll st (σ.1, σ.2.1, σ.2.2.1, z_upd σ.2.2.2 a k x)) : z_G p l e R s m args below meth c Q nL D ca ad B n0 s0 pc ll ((u, x) :: (2, a) :: st) σ := by
  obtain ⟨hd, hxx⟩ := z_good_inv hg
  intro H locs ls hH hS hL hst h1 h2
  obtain ⟨hxo, hst⟩ := List.forall_mem_cons.mp hst
  obtain ⟨-, hst⟩ := List.forall_mem_cons.mp hst
  cases q with
  | nil => exact absurd hxx (by simp [z_xtr])
  | cons iw q =>
    obtain ⟨i, w⟩ := iw
    simp only [z_ins] at hd
    simp only [z_xtr, Bool.and_eq_true, decide_eq_true_eq] at hxx
    obtain ⟨⟨⟨rfl, c0, c9, k0, kN, ht⟩, hw⟩, hfin⟩ := hxx
    obtain ⟨hc, hin, hty, hnm, hN⟩ := z_cls c0 c9
    have hk9 : (σ.2.2.1 a).1 < 9 := by omega
    have ha1 : a ≠ -1 := fun z => by rw [z, hH.2.1.2.2.2.1] at hk9; omega
    obtain ⟨j, hj, ej, had, hget⟩ := z_cell (ca := ca) C.2.2.2.2.2.2.1 hH.2.1 (by omega) ha1
    have hci : (σ.2.2.1 a).1 = ci.toNat := by omega
    have hlen := hH.2.1.2.1 a hk9
    rw [z_cel_obj hk9, hci] at hget
    have hkl : k.toNat < (σ.2.2.1 a).2 := by rw [hlen, hci, ← hN]; omega
    have ek : ((k.toNat : Nat) : Int) = k := by omega
    have et : t.toNat = z_mt ci.toNat k.toNat := by omega
    have htag : z_mt ci.toNat k.toNat = z_tag (z_tyF ci.toNat k.toNat) := z_mt_obj (by omega)
    have hrng : z_rng (z_mt ci.toNat k.toNat) x := by
      rw [hu, et] at hxo
      exact z_rng_st hxo
    rw [et, htag] at hfit
    obtain ⟨hnar, hfits⟩ := z_narrow (ad := ad) hfit (z_tyF_is ci.toNat (by omega) k.toNat (by rw [← hN]; omega)) (fun _ => by cases ad x <;> simp)
    rw [List.map_cons, List.map_cons, z_cv2, had, hu, et, ← z_fv_st, htag]
    have hfs : k.toNat < ((List.range (σ.2.2.1 a).2).map (fun j => z_fv ad (z_mt ci.toNat j) (σ.2.2.2 a (j : Int)))).length := by simpa using hkl
    have hcel : z_cel ca ad (σ.1, σ.2.1, σ.2.2.1, z_upd σ.2.2.2 a k x) a = .inr (ci.toNat, ((List.range (σ.2.2.1 a).2).map (fun j => z_fv ad (z_mt ci.toNat j) (σ.2.2.2 a (j : Int)))).set k.toNat (z_fv ad (z_tag (z_tyF ci.toNat k.toNat)) x)) := by
      rw [z_cel_obj (σ := (σ.1, σ.2.1, σ.2.2.1, z_upd σ.2.2.2 a k x)) hk9]
      show Sum.inr ((σ.2.2.1 a).1, (List.range (σ.2.2.1 a).2).map (fun j => z_fv ad (z_mt (σ.2.2.1 a).1 j) (z_upd σ.2.2.2 a k x a (j : Int)))) = _
      rw [hci, z_map_set hkl ?_ ?_]
      · unfold z_upd
        rw [if_pos ⟨rfl, ek⟩, htag]
      · intro j2 hj2
        unfold z_upd
        rw [if_neg (fun z => hj2 (by omega))]
    have fin : ∀ (H1 : Heap) (locs1 : List Loc), va_P D vwCl ((z_ws ca ad B σ).set j (B + j, .inr (ci.toNat, ((List.range (σ.2.2.1 a).2).map (fun j => z_fv ad (z_mt ci.toNat j) (σ.2.2.2 a (j : Int)))).set k.toNat (z_fv ad (z_tag (z_tyF ci.toNat k.toNat)) x)))) H1 → va_S (fun q => B ≤ q) s.heap H1 locs1 → W p l e R s m args below meth c H1 locs1 (σ.1 - n0) (σ.2.1 - s0) Q (F0 m (pc + 3) ls (st.map (z_cv ad))) := by
      intro H1 locs1 hP1 hS1
      rw [← hcel, z_ws_upd hj ej] at hP1
      refine kk H1 locs1 ls ⟨hP1, z_ok_upd hH.2.1 ha1 (fun k2 e2 => ?_), z_X_upd (z_X_kept hH.2.2.1 (by rw [C.2.2.2.2.2.2.2]; omega) hS hS1) ha1, z_E_kept hH.2.2.2 (by rw [C.2.2.2.2.2.2.2]; omega) hS hS1⟩ hS1 hL hst h1 h2
      rw [show k2 = k.toNat by omega, hci]
      exact hrng
    by_cases hf : ((z_cl ci).2.1 k.toNat).2.2.2 = true
    · rw [if_pos hf, Bool.and_eq_true, decide_eq_true_eq] at hfin
      exact va_putF C.1 C.2.1 C.2.2.2.2.1 hin (z_tyF ci.toNat) hty hnm C.2.2.2.1 C.2.2.2.2.2.1.1 hH.1 z_D hS j hget hc k.toNat (by omega) (C.2.2.2.2.1 _ (z_wd_in hw)) (fun _ h => h) hf (hin2 hfin.1) hfin.2 (hty k.toNat (by omega)) hnar hfits hfs hd (fun H1 locs1 a1 _ a3 => fin H1 locs1 a1 a3)
    · exact va_put C.1 C.2.1 C.2.2.2.2.1 hin (z_tyF ci.toNat) hty hnm C.2.2.2.1 C.2.2.2.2.2.1.1 hH.1 z_D hS j hget hc k.toNat (by omega) (C.2.2.2.2.1 _ (z_wd_in hw)) (fun _ h => h) (by simpa using hf) (hty k.toNat (by omega)) hnar hfits hfs hd (fun H1 locs1 a1 _ a3 => fin H1 locs1 a1 a3)
end ZS
end
section
section ZS
variable {p : Program} {l : Launch} {e : Env} {R : Room} {s : State} {m : MethodId} {args : Array Value} {below : List Frame} {meth : Method} {c : Code} {Q : State → Prop}
variable {cc : ByteArray} {nL : Nat} {own : String} {D : va_G} {ca : Nat → ClassId} {ad : Int → Option Nat} {B n0 s0 : Nat}
variable {isI : Bool} {rt : Option FieldType} {pc n : Nat} {ll st : List zV} {σ : zS} {g g2 g3 : Int} {q : List (Int × Int)}
theorem z_cel9 {a : Int} (h : (σ.2.2.1 a).1 = 9) : z_cel ca ad σ a = .inl (ca 0, (σ.2.2.1 a).2, .inl (fun i => Int32.ofInt (σ.2.2.2 a (i : Int)))) := by
  unfold z_cel
  rw [if_pos h]
theorem z_cel10 {a : Int} (h : (σ.2.2.1 a).1 = 10) : z_cel ca ad σ a = .inl (ca 1, (σ.2.2.1 a).2, .inr (.inl (fun i => Int64.ofInt (σ.2.2.2 a (i : Int))))) := by
  unfold z_cel
  rw [if_neg (by omega), if_pos h]
theorem z_cel11 {a : Int} (h : (σ.2.2.1 a).1 = 11) : z_cel ca ad σ a = .inl (ca 2, (σ.2.2.1 a).2, .inl (fun i => Int32.ofInt (σ.2.2.2 a (i : Int)))) := by
  unfold z_cel
  rw [if_neg (by omega), if_neg (by omega), if_pos h]
theorem z_cel12 {a : Int} (h : (σ.2.2.1 a).1 = 12) : z_cel ca ad σ a = .inl (ca 3, (σ.2.2.1 a).2, .inr (.inr (.inr (.inr (fun i => ad (σ.2.2.2 a (i : Int))))))) := by
  unfold z_cel
  rw [if_neg (by omega), if_neg (by omega), if_neg (by omega), if_pos h]
theorem z_kind {a : Int} {kd : Int} (ha : ((σ.2.2.1 a).1 : Int) = kd) (h9 : 9 ≤ kd) (h12 : kd ≤ 12) : (kd = 9 ∧ (σ.2.2.1 a).1 = 9) ∨ (kd = 10 ∧ (σ.2.2.1 a).1 = 10) ∨ (kd = 11 ∧ (σ.2.2.1 a).1 = 11) ∨ (kd = 12 ∧ (σ.2.2.1 a).1 = 12) := by omega
theorem zs_17 {kd a i : Int} (C : z_C p s m args c cc nL own D ca ad B n0) (hg : z_good own isI rt cc pc (17, n, kd, g, g2, q) = true) (ha : ((σ.2.2.1 a).1 : Int) = kd) (h0 : 0 ≤ i) (hi : i < ((σ.2.2.1 a).2 : Int)) (k : z_G p l e R s m args below meth c Q nL D ca ad B n0 s0 n ll ((z_st (z_mt kd.toNat 0), σ.2.2.2 a i) :: st) σ) : z_G p l e R s m args below meth c Q nL D ca ad B n0 s0 pc ll ((0, i) :: (2, a) :: st) σ := by
  obtain ⟨hd, hxx⟩ := z_good_inv hg
  intro H locs ls hH hS hL hst h1 h2
  replace hst := (List.forall_mem_cons.mp (List.forall_mem_cons.mp hst).2).2
  simp only [z_ins] at hd
  simp only [z_xtr, decide_eq_true_eq] at hxx
  obtain ⟨rfl, k9, k12⟩ := hxx
  have ei : ((i.toNat : Nat) : Int) = i := by omega
  obtain ⟨hin, hcl⟩ := z_ix h0 hi (hH.2.1.2.2.1 a)
  have hr := hH.2.1.2.2.2.2 a i.toNat (by omega)
  rw [ei] at hr
  have hK := C.2.2.2.2.2.1.1
  by_cases ha1 : a = -1
  · subst ha1
    have h9 := hH.2.1.2.2.2.1
    rw [h9] at ha hr
    cases ha
    obtain ⟨b, e1, e2, scr, x1, x2, x3, x4, x5⟩ := hH.2.2.1
    have k2 := k H locs ls hH hS hL (z_all1 (z_ok_st hr) hst) h1 h2
    simp only [List.map_cons, z_cv2, e1]
    refine W.iald (v := .int (Int32.ofInt (σ.2.2.2 (-1) i))) C.1 C.2.1 x1 x2 x3 (by rw [x4]; exact hin) ?_ rfl rfl hd k2
    rw [hcl, x5 _ (by omega)]
    simp only [ei]
  · obtain ⟨j, hj, ej, had, hget⟩ := z_cell (ca := ca) C.2.2.2.2.2.2.1 hH.2.1 (by omega) ha1
    simp only [List.map_cons, z_cv2, had]
    rcases z_kind ha k9 k12 with ⟨rfl, e9⟩ | ⟨rfl, e9⟩ | ⟨rfl, e9⟩ | ⟨rfl, e9⟩
    · rw [z_cel9 e9] at hget
      rw [e9] at hr
      have k2 := k H locs ls hH hS hL (z_all1 (z_ok_st hr) hst) h1 h2
      refine va_iald C.1 C.2.1 hK hH.1 j 0 hget rfl hin hd ?_
      simp only [hcl, ei]
      exact k2
    · rw [z_cel10 e9] at hget
      rw [e9] at hr
      have k2 := k H locs ls hH hS hL (z_all1 (z_ok_st hr) hst) h1 h2
      refine va_lald C.1 C.2.1 hK hH.1 j 1 hget rfl hin hd ?_
      simp only [hcl, ei]
      exact k2
    · rw [z_cel11 e9] at hget
      rw [e9] at hr
      have k2 := k H locs ls hH hS hL (z_all1 (z_ok_st hr) hst) h1 h2
      refine va_zald C.1 C.2.1 hK hH.1 j 2 hget rfl hin hd ?_
      simp only [hcl, ei]
      exact k2
    · rw [z_cel12 e9] at hget
      rw [e9] at hr
      have k2 := k H locs ls hH hS hL (z_all1 (z_ok_st hr) hst) h1 h2
      refine va_aldq C.1 C.2.1 hK hH.1 j 3 hget rfl hin hd ?_
      simp only [hcl, ei]
      exact k2
theorem z_upd_s {M : zM} {a i x : Int} : z_upd M a i x a i = x := by simp [z_upd]
theorem z_upd_n {M : zM} {a i x j : Int} (h : j ≠ i) : z_upd M a i x a j = M a j := by simp [z_upd, h]
theorem zs_18 {kd a i x : Int} {u : Nat} (C : z_C p s m args c cc nL own D ca ad B n0) (hg : z_good own isI rt cc pc (18, n, kd, g, g2, q) = true) (ha : ((σ.2.2.1 a).1 : Int) = kd) (hpos : 0 < a) (h0 : 0 ≤ i) (hi : i < ((σ.2.2.1 a).2 : Int)) (hu : u = z_st (z_mt kd.toNat 0)) (hfit : z_fitv (z_mt kd.toNat 0) x = true) (href : kd = 12 → (σ.2.2.1 x).1 = 0)
    (kk : z_G p l e R s m args below meth c Q nL D ca ad B n0 s0 n ll st (σ.1, σ.2.1, σ.2.2.1, z_upd σ.2.2.2 a i x)) : z_G p l e R s m args below meth c Q nL D ca ad B n0 s0 pc ll ((u, x) :: (0, i) :: (2, a) :: st) σ := by
  obtain ⟨hd, hxx⟩ := z_good_inv hg
  intro H locs ls hH hS hL hst h1 h2
  obtain ⟨hxo, hst⟩ := List.forall_mem_cons.mp hst
  obtain ⟨-, hst⟩ := List.forall_mem_cons.mp hst
  obtain ⟨-, hst⟩ := List.forall_mem_cons.mp hst
  simp only [z_ins] at hd
  simp only [z_xtr, decide_eq_true_eq] at hxx
  obtain ⟨rfl, k9, k12⟩ := hxx
  have ei : ((i.toNat : Nat) : Int) = i := by omega
  obtain ⟨hin, hcl⟩ := z_ix h0 hi (hH.2.1.2.2.1 a)
  have hK := C.2.2.2.2.2.1.1
  have ha1 : a ≠ -1 := by omega
  obtain ⟨j, hj, ej, had, hget⟩ := z_cell (ca := ca) C.2.2.2.2.2.2.1 hH.2.1 (by omega) ha1
  have fin : ∀ (H1 : Heap) (locs1 : List Loc) (ee : va_E), ee = z_cel ca ad (σ.1, σ.2.1, σ.2.2.1, z_upd σ.2.2.2 a i x) a → (∀ k2 : Nat, z_rng (z_mt (σ.2.2.1 a).1 k2) x) → va_P D vwCl ((z_ws ca ad B σ).set j (B + j, ee)) H1 → va_S (fun q => B ≤ q) s.heap H1 locs1 → W p l e R s m args below meth c H1 locs1 (σ.1 - n0) (σ.2.1 - s0) Q (F0 m (pc + 1) ls (st.map (z_cv ad))) := by
    intro H1 locs1 ee he hr hP1 hS1
    rw [he, z_ws_upd hj ej] at hP1
    exact kk H1 locs1 ls ⟨hP1, z_ok_upd hH.2.1 ha1 (fun k2 _ => hr k2), z_X_upd (z_X_kept hH.2.2.1 (by rw [C.2.2.2.2.2.2.2]; omega) hS hS1) ha1, z_E_kept hH.2.2.2 (by rw [C.2.2.2.2.2.2.2]; omega) hS hS1⟩ hS1 hL hst h1 h2
  have hup : ∀ (α : Type) (f : Int → α) (k2 : Nat), f (z_upd σ.2.2.2 a i x a (k2 : Int)) = if k2 = i.toNat then f x else f (σ.2.2.2 a (k2 : Int)) := by
    intro α f k2
    by_cases e : k2 = i.toNat
    · rw [if_pos e, show (k2 : Int) = i by omega, z_upd_s]
    · rw [if_neg e, z_upd_n (by omega)]
  simp only [List.map_cons, z_cv2, had]
  rcases z_kind ha k9 k12 with ⟨rfl, e9⟩ | ⟨rfl, e9⟩ | ⟨rfl, e9⟩ | ⟨rfl, e9⟩
  · rw [z_cel9 e9] at hget
    subst hu
    refine va_iast (x := Int32.ofInt x) C.1 C.2.1 hK hH.1 z_D hS j 0 hget rfl hin hd (fun H1 locs1 a1 _ a3 => fin H1 locs1 _ ?_ (fun k2 => by rw [e9]; exact z_rng_st (t := 0) hxo) a1 a3)
    rw [z_cel9 (σ := (σ.1, σ.2.1, σ.2.2.1, z_upd σ.2.2.2 a i x)) e9]
    congr 4
    funext k2
    rw [hup _ Int32.ofInt k2, hcl]
    rfl
  · rw [z_cel10 e9] at hget
    subst hu
    refine va_last (x := Int64.ofInt x) C.1 C.2.1 hK hH.1 z_D hS j 1 hget rfl hin hd (fun H1 locs1 a1 _ a3 => fin H1 locs1 _ ?_ (fun k2 => by rw [e9]; exact z_rng_st (t := 1) hxo) a1 a3)
    rw [z_cel10 (σ := (σ.1, σ.2.1, σ.2.2.1, z_upd σ.2.2.2 a i x)) e9]
    congr 5
    funext k2
    rw [hup _ Int64.ofInt k2, hcl]
    rfl
  · rw [z_cel11 e9] at hget
    subst hu
    have hb : vp_nar .boolean (Int32.ofInt x) = Int32.ofInt x := by
      have h : x = 0 ∨ x = 1 := by simpa [z_fitv, z_mt] using hfit
      rcases h with rfl | rfl <;> decide
    refine va_zast (x := Int32.ofInt x) C.1 C.2.1 hK hH.1 z_D hS j 2 hget rfl hin hd (fun H1 locs1 a1 _ a3 => fin H1 locs1 _ ?_ (fun k2 => by rw [e9]; exact z_rng_st (t := 3) hxo) a1 a3)
    rw [z_cel11 (σ := (σ.1, σ.2.1, σ.2.2.1, z_upd σ.2.2.2 a i x)) e9, hb]
    congr 4
    funext k2
    rw [hup _ Int32.ofInt k2, hcl]
    rfl
  · rw [z_cel12 e9] at hget
    subst hu
    have hx0 := href rfl
    have hx1 : x ≠ -1 := fun z => by rw [z, hH.2.1.2.2.2.1] at hx0; omega
    obtain ⟨j2, hj2, ej2, had2, hget2⟩ := z_cell (ca := ca) C.2.2.2.2.2.2.1 hH.2.1 (a := x) (by omega) hx1
    rw [z_cel_obj (by omega), hx0] at hget2
    have ecv : z_cv ad (z_st (z_mt (12 : Int).toNat 0), x) = .ref (B + j2) := by
      show va_rf (ad x) = _
      rw [had2]
      rfl
    rw [ecv]
    refine va_astq (r := (RX0, TX0, 3)) C.1 C.2.1 hK hH.1 z_D hS j 3 j2 0 hget rfl hget2 rfl hin hd (fun H1 locs1 a1 _ a3 => fin H1 locs1 _ ?_ (fun k2 => by rw [e9]; exact ⟨fun z => (by rcases z with z | z <;> cases z), fun z => (by cases z)⟩) a1 a3)
    rw [z_cel12 (σ := (σ.1, σ.2.1, σ.2.2.1, z_upd σ.2.2.2 a i x)) e9]
    congr 7
    funext k2
    rw [hup _ ad k2, hcl, had2]
    rfl
theorem zs_19 {a : Int} (C : z_C p s m args c cc nL own D ca ad B n0) (hg : z_good own isI rt cc pc (19, n, g3, g, g2, q) = true) (ha : 9 ≤ (σ.2.2.1 a).1 ∧ (σ.2.2.1 a).1 ≤ 12) (k : z_G p l e R s m args below meth c Q nL D ca ad B n0 s0 n ll ((0, ((σ.2.2.1 a).2 : Int)) :: st) σ) : z_G p l e R s m args below meth c Q nL D ca ad B n0 s0 pc ll ((2, a) :: st) σ := by
  obtain ⟨hd, hxx⟩ := z_good_inv hg
  intro H locs ls hH hS hL hst h1 h2
  obtain ⟨-, hst⟩ := List.forall_mem_cons.mp hst
  simp only [z_ins] at hd
  simp only [z_xtr, decide_eq_true_eq] at hxx
  subst hxx
  have hK := C.2.2.2.2.2.1.1
  have k2 := k H locs ls hH hS hL (z_all1 (z_okI (z_nat32 (hH.2.1.2.2.1 a))) hst) h1 h2
  by_cases ha1 : a = -1
  · subst ha1
    obtain ⟨b, e1, e2, scr, x1, x2, x3, x4, x5⟩ := hH.2.2.1
    simp only [List.map_cons, z_cv2, e1]
    refine W.alen (n := Int32.ofInt ((σ.2.2.1 (-1)).2 : Int)) C.1 C.2.1 x1 x2 ?_ rfl rfl hd k2
    rw [x4]
    exact z_on
  · obtain ⟨j, hj, ej, had, hget⟩ := z_cell (ca := ca) C.2.2.2.2.2.2.1 hH.2.1 (by omega) ha1
    simp only [List.map_cons, z_cv2, had]
    rcases z_kind (σ := σ) (a := a) rfl (by omega) (by omega) with ⟨-, e9⟩ | ⟨-, e9⟩ | ⟨-, e9⟩ | ⟨-, e9⟩
    · rw [z_cel9 e9] at hget
      exact va_alen C.1 C.2.1 hK hH.1 j 0 hget rfl z_on hd k2
    · rw [z_cel10 e9] at hget
      exact va_alen C.1 C.2.1 hK hH.1 j 1 hget rfl z_on hd k2
    · rw [z_cel11 e9] at hget
      exact va_alen C.1 C.2.1 hK hH.1 j 2 hget rfl z_on hd k2
    · rw [z_cel12 e9] at hget
      exact va_alen C.1 C.2.1 hK hH.1 j 3 hget rfl z_on hd k2
end ZS
end
section
section ZS
variable {p : Program} {l : Launch} {e : Env} {R : Room} {s : State} {m : MethodId} {args : Array Value} {below : List Frame} {meth : Method} {c : Code} {Q : State → Prop}
variable {cc : ByteArray} {nL : Nat} {own : String} {D : va_G} {ca : Nat → ClassId} {ad : Int → Option Nat} {B n0 s0 : Nat}
variable {isI : Bool} {rt : Option FieldType} {pc n : Nat} {ll st : List zV} {σ : zS} {g g2 g3 : Int} {q : List (Int × Int)}
/-- the state with one cell more -/
def z_mk (σ : zS) (kd w : Nat) : zS := (σ.1 + 1, σ.2.1 + w, z_shu σ.2.2.1 ((σ.1 : Int) + 1) (kd, w), fun a i => if a = (σ.1 : Int) + 1 then 0 else σ.2.2.2 a i)
theorem z_mk_sh {kd w : Nat} {a : Int} (h : a ≠ (σ.1 : Int) + 1) : (z_mk σ kd w).2.2.1 a = σ.2.2.1 a := by
  show z_shu σ.2.2.1 ((σ.1 : Int) + 1) (kd, w) a = _
  unfold z_shu
  rw [if_neg h]
theorem z_mk_shs {kd w : Nat} : (z_mk σ kd w).2.2.1 ((σ.1 : Int) + 1) = (kd, w) := by
  show z_shu σ.2.2.1 ((σ.1 : Int) + 1) (kd, w) _ = _
  unfold z_shu
  rw [if_pos rfl]
theorem z_mk_m {kd w : Nat} {a i : Int} (h : a ≠ (σ.1 : Int) + 1) : (z_mk σ kd w).2.2.2 a i = σ.2.2.2 a i := by
  show (if a = (σ.1 : Int) + 1 then 0 else σ.2.2.2 a i) = _
  rw [if_neg h]
theorem z_mk_ms {kd w : Nat} {i : Int} : (z_mk σ kd w).2.2.2 ((σ.1 : Int) + 1) i = 0 := by
  show (if ((σ.1 : Int) + 1) = (σ.1 : Int) + 1 then 0 else σ.2.2.2 _ i) = _
  rw [if_pos rfl]
theorem z_mk_cel {kd w : Nat} {a : Int} (h : a ≠ (σ.1 : Int) + 1) : z_cel ca ad (z_mk σ kd w) a = z_cel ca ad σ a := by
  have e1 := z_mk_sh (kd := kd) (w := w) h
  have e2 : ∀ i, (z_mk σ kd w).2.2.2 a i = σ.2.2.2 a i := fun i => z_mk_m h
  unfold z_cel
  simp only [e1, e2]
theorem z_mk_ws {kd w : Nat} : z_ws ca ad B (z_mk σ kd w) = z_ws ca ad B σ ++ [(B + σ.1, z_cel ca ad (z_mk σ kd w) ((σ.1 : Int) + 1))] := by
  unfold z_ws
  show (List.range (σ.1 + 1)).map _ = _
  rw [List.range_succ, List.map_append]
  congr 1
  apply List.map_congr_left
  intro j hj
  have := List.mem_range.mp hj
  rw [z_mk_cel (by omega)]
theorem z_mk_ok {kd w : Nat} (hok : z_ok σ) (hw : w < 2147483648) (hkd : kd < 9 → w = z_N kd) : z_ok (z_mk σ kd w) := by
  refine ⟨fun a ha => ?_, fun a ha => ?_, fun a => ?_, ?_, fun a i ha => ?_⟩
  · show a = -1 ∨ (1 ≤ a ∧ a ≤ ((σ.1 + 1 : Nat) : Int))
    by_cases e : a = (σ.1 : Int) + 1
    · right; omega
    · rw [z_mk_sh e] at ha
      rcases hok.1 a ha with h | h
      · exact Or.inl h
      · right; omega
  · by_cases e : a = (σ.1 : Int) + 1
    · subst e
      rw [z_mk_shs] at ha ⊢
      exact hkd ha
    · rw [z_mk_sh e] at ha ⊢
      exact hok.2.1 a ha
  · by_cases e : a = (σ.1 : Int) + 1
    · subst e
      rw [z_mk_shs]
      exact hw
    · rw [z_mk_sh e]
      exact hok.2.2.1 a
  · rw [z_mk_sh (by omega)]
    exact hok.2.2.2.1
  · by_cases e : a = (σ.1 : Int) + 1
    · subst e
      rw [z_mk_ms]
      exact ⟨fun _ => z_i32_0, fun _ => z_i64_0⟩
    · rw [z_mk_sh e] at ha ⊢
      rw [z_mk_m e]
      exact hok.2.2.2.2 a i ha
theorem z_mk_X {kd w : Nat} {U : State} {H : Heap} (h : z_X ad B σ U H) : z_X ad B (z_mk σ kd w) U H := by
  obtain ⟨b, e1, e2, e3⟩ := h
  refine ⟨b, e1, e2, ?_⟩
  have e : ∀ i, (z_mk σ kd w).2.2.2 (-1) i = σ.2.2.2 (-1) i := fun i => z_mk_m (by omega)
  simp only [z_mk_sh (σ := σ) (kd := kd) (w := w) (a := -1) (by omega), e]
  exact e3
/-- the address of a new cell: the next one -/
theorem z_next {H1 : Heap} {x : Nat} {ee : va_E} (hP : va_P D vwCl (z_ws ca ad B σ ++ [(x, ee)]) H1) (hD : va_D (fun q => B ≤ q) (z_ws ca ad B σ ++ [(x, ee)])) (hz : H1.size ≤ B + σ.1 + 1) : x = B + σ.1 := by
  have hl : (z_ws ca ad B σ).length = σ.1 := by simp [z_ws]
  have hx : (z_ws ca ad B σ ++ [(x, ee)])[σ.1]? = some (x, ee) := by
    rw [List.getElem?_append_right (by omega), hl]
    simp
  have h1 : x < H1.size := (hP σ.1 _ hx).lt
  have h2 : B ≤ x := hD.2 σ.1 _ hx
  by_cases h : x = B + σ.1
  · exact h
  · exfalso
    have hlt : x - B < σ.1 := by omega
    have hy : (z_ws ca ad B σ ++ [(x, ee)])[x - B]? = some (B + (x - B), z_cel ca ad σ (((x - B : Nat) : Int) + 1)) := by
      rw [List.getElem?_append_left (by omega)]
      exact z_ws_get hlt
    have := hD.1 (x - B) σ.1 _ _ hy hx (by show B + (x - B) = x; omega)
    omega
/-- .. and what goes on behind it -/
theorem z_mk_go {kd w npc : Nat} {H1 : Heap} {locs : List Loc} {H : Heap} {ls : Array Slot} {x : Nat} (hs : s.heap.size = B + n0) (hA : z_A ad B) (hH : z_H D ca ad B σ s H) (hS : va_S (fun q => B ≤ q) s.heap H locs) (hL : z_L ad nL ls ll) (hst : ∀ v ∈ st, z_okv v) (h1 : n0 ≤ σ.1) (h2 : s0 ≤ σ.2.1)
    (hw : w < 2147483648) (hkd : kd < 9 → w = z_N kd) (hP1 : va_P D vwCl (z_ws ca ad B σ ++ [(x, z_cel ca ad (z_mk σ kd w) ((σ.1 : Int) + 1))]) H1) (hD1 : va_D (fun q => B ≤ q) (z_ws ca ad B σ ++ [(x, z_cel ca ad (z_mk σ kd w) ((σ.1 : Int) + 1))])) (hS1 : va_S (fun q => B ≤ q) s.heap H1 locs)
    (k : z_G p l e R s m args below meth c Q nL D ca ad B n0 s0 npc ll ((2, (σ.1 : Int) + 1) :: st) (z_mk σ kd w)) : W p l e R s m args below meth c H1 locs (σ.1 - n0 + 1) (σ.2.1 - s0 + w) Q (F0 m npc ls (.ref x :: st.map (z_cv ad))) := by
  intro T hT X
  have hz := X.heapSize
  rw [hT] at hz
  have ex : x = B + σ.1 := z_next hP1 hD1 (by omega)
  subst ex
  rw [← z_mk_ws] at hP1
  have k2 := k H1 locs ls ⟨hP1, z_mk_ok hH.2.1 hw hkd, z_mk_X (z_X_kept hH.2.2.1 (by omega) hS hS1), z_E_kept hH.2.2.2 (by omega) hS hS1⟩ hS1 hL (z_all1 z_okR hst) (by show n0 ≤ σ.1 + 1; omega) (by show s0 ≤ σ.2.1 + w; omega)
  rw [List.map_cons, z_cv2, hA.2 σ.1, show (z_mk σ kd w).1 - n0 = σ.1 - n0 + 1 by show σ.1 + 1 - n0 = _; omega, show (z_mk σ kd w).2.1 - s0 = σ.2.1 - s0 + w by show σ.2.1 + w - s0 = _; omega] at k2
  exact k2 T hT X
theorem z_def {F : FieldType} (hF : F = .int ∨ F = .long ∨ F = .boolean ∨ (∃ C, F = .object C) ∨ ∃ T, F = .array T) (h0 : ad 0 = none) : defaultValue F = z_fv ad (z_tag F) 0 := by
  rcases hF with rfl | rfl | rfl | ⟨C, rfl⟩ | ⟨T, rfl⟩
  · rfl
  · rfl
  · rfl
  · show Value.null = va_rf (ad 0)
    rw [h0]
    rfl
  · show Value.null = va_rf (ad 0)
    rw [h0]
    rfl
theorem zs_20 {ci w i : Int} (C : z_C p s m args c cc nL own D ca ad B n0) (hcap : σ.1 + 1 - n0 ≤ R.cells ∧ σ.2.1 + w.toNat - s0 ≤ R.slots) (hg : z_good own isI rt cc pc (20, n, ci, w, i, q) = true) (k : z_G p l e R s m args below meth c Q nL D ca ad B n0 s0 n ll ((2, (σ.1 : Int) + 1) :: st) (z_mk σ ci.toNat w.toNat)) : z_G p l e R s m args below meth c Q nL D ca ad B n0 s0 pc ll st σ := by
  obtain ⟨hd, hxx⟩ := z_good_inv hg
  intro H locs ls hH hS hL hst h1 h2
  simp only [z_ins] at hd
  simp only [z_xtr, Bool.and_eq_true, decide_eq_true_eq] at hxx
  obtain ⟨⟨rfl, c0, c9, rfl⟩, hw⟩ := hxx
  have hts := C.2.2.2.2.1
  split at hw
  · simp only [Bool.and_eq_true] at hw
    obtain ⟨⟨w1, w2⟩, w3⟩ := hw
    obtain ⟨hc, hin, hty, hnm, hN⟩ := z_cls c0 c9
    have e9 : (z_mk σ ci.toNat ((z_cl ci).2.2 : Int).toNat).2.2.1 ((σ.1 : Int) + 1) = (ci.toNat, (z_cl ci).2.2) := by rw [z_mk_shs]; simp
    have hcel : z_cel ca ad (z_mk σ ci.toNat ((z_cl ci).2.2 : Int).toNat) ((σ.1 : Int) + 1) = .inr (ci.toNat, (List.range (z_cl ci).2.2).map (fun j => z_fv ad (z_mt ci.toNat j) 0)) := by
      rw [z_cel_obj (by rw [e9]; show ci.toNat < 9; omega), e9]
      simp only [z_mk_ms]
    refine va_new (fs := (List.range (z_cl ci).2.2).map (fun j => z_fv ad (z_mt ci.toNat j) 0)) C.1 C.2.1 hts hin (z_tyF ci.toNat) hty C.2.2.2.1 (hts _ (z_wd_in w1)) (hts _ (z_wd_in w2)) (hts _ (z_wd_in w3)) C.2.2.2.2.2.1.1 hH.1 z_D hS (fun q hq => by rw [C.2.2.2.2.2.2.2] at hq; show B ≤ q; omega) hc (fun j hj => ?_) (by omega) (by simp at hcap; omega) hd (fun x H1 a1 a2 a3 => ?_)
    · show _ = ((List.range (z_cl ci).2.2).map (fun j => z_fv ad (z_mt ci.toNat j) 0)).getD j .null
      rw [List.getD_eq_getElem?_getD, List.getElem?_map, List.getElem?_range hj]
      simp only [Option.map_some, Option.getD_some]
      rw [z_mt_obj (by omega)]
      exact z_def (z_tyF_is ci.toNat (by omega) j (by rw [← hN]; exact hj)) C.2.2.2.2.2.2.1.1
    · rw [← hcel] at a1 a2
      have := z_mk_go C.2.2.2.2.2.2.2 C.2.2.2.2.2.2.1 hH hS hL hst h1 h2 (by
        have hb : ∀ c, c < 9 → z_N c < 2147483648 := by decide +kernel
        have := hb ci.toNat (by omega)
        rw [← hN] at this
        omega) (fun _ => by rw [← hN]; omega) a1 a2 a3 k
      simpa using this
  · cases hw
theorem z_arr {ty : FieldType} {cA cB : ClassId} (hty : ty = .int ∨ ty = .long ∨ ty = .boolean) (h1 : va_RA s cA ty) (h2 : va_RA s cB ty) : cA = cB := by
  rcases hty with rfl | rfl | rfl <;> exact Option.some.inj (h1.symm.trans h2)
theorem zs_21 {kd x : Int} (C : z_C p s m args c cc nL own D ca ad B n0) (hcap : σ.1 + 1 - n0 ≤ R.cells ∧ σ.2.1 + x.toNat - s0 ≤ R.slots) (hg : z_good own isI rt cc pc (21, n, kd, g, g2, q) = true) (hx : 0 ≤ x ∧ x ≤ 4000) (k : z_G p l e R s m args below meth c Q nL D ca ad B n0 s0 n ll ((2, (σ.1 : Int) + 1) :: st) (z_mk σ kd.toNat x.toNat)) : z_G p l e R s m args below meth c Q nL D ca ad B n0 s0 pc ll ((0, x) :: st) σ := by
  obtain ⟨hd, hxx⟩ := z_good_inv hg
  intro H locs ls hH hS hL hst h1 h2
  replace hst := (List.forall_mem_cons.mp hst).2
  simp only [z_ins] at hd
  simp only [z_xtr, Bool.and_eq_true, decide_eq_true_eq] at hxx
  obtain ⟨⟨rfl, k9, k11⟩, hw⟩ := hxx
  have hts := C.2.2.2.2.1
  have hK := C.2.2.2.2.2.1.1
  have h32 : z_i32 x := by unfold z_i32; omega
  have hn0 : ¬ Int32.ofInt x < 0 := fun z => by have := (z_lt32 h32 z_i32_0).mp z; omega
  have hcl : (Int32.ofInt x).toNatClampNeg = x.toNat := by
    show (Int32.ofInt x).toInt.toNat = x.toNat
    rw [z_t32i h32]
  have hA9 : ∀ q : Nat, s.heap.size ≤ q → (fun q => B ≤ q) q := fun q hq => by rw [C.2.2.2.2.2.2.2] at hq; show B ≤ q; omega
  have go := fun (kd' : Nat) (k' : z_G p l e R s m args below meth c Q nL D ca ad B n0 s0 (pc + 2) ll ((2, (σ.1 : Int) + 1) :: st) (z_mk σ kd' x.toNat)) (x1 : Nat) (H1 : Heap) (hkd : kd' < 9 → x.toNat = z_N kd') a1 a2 a3 => z_mk_go (x := x1) (H1 := H1) C.2.2.2.2.2.2.2 C.2.2.2.2.2.2.1 hH hS hL hst h1 h2 (w := x.toNat) (by omega) hkd a1 a2 a3 k'
  split at hw
  · have hc : kd = 9 ∨ kd = 10 ∨ kd = 11 := by omega
    rcases hc with rfl | rfl | rfl
    · have e9 : (z_mk σ 9 x.toNat).2.2.1 ((σ.1 : Int) + 1) = (9, x.toNat) := z_mk_shs
      have hcel : z_cel ca ad (z_mk σ 9 x.toNat) ((σ.1 : Int) + 1) = .inl (ca 0, x.toNat, .inl (fun _ => Int32.ofInt 0)) := by
        rw [z_cel9 (by rw [e9]), e9]
        simp only [z_mk_ms]
      refine va_newa (atype := .int) (ty := .int) (a0 := (x.toNat, .inl (fun _ => Int32.ofInt 0))) C.1 C.2.1 (hts _ (z_wd_in hw)) rfl hK hH.1 z_D hS hA9 (fun _ => rfl) hn0 hcl (by show x.toNat * 4 ≤ _; omega) (by omega) (by omega) hd (fun x1 cA H1 a0 a1 a2 a3 => ?_)
      have ec : cA = ca 0 := z_arr (Or.inl rfl) (a0.2 4 (cA, .int) rfl).2 (hK.2 0 (ca 0, .int) rfl).2
      subst ec
      rw [← hcel] at a1 a2
      exact go 9 k x1 H1 (fun h => (by omega)) a1 a2 a3
    · have e9 : (z_mk σ 10 x.toNat).2.2.1 ((σ.1 : Int) + 1) = (10, x.toNat) := z_mk_shs
      have hcel : z_cel ca ad (z_mk σ 10 x.toNat) ((σ.1 : Int) + 1) = .inl (ca 1, x.toNat, .inr (.inl (fun _ => Int64.ofInt 0))) := by
        rw [z_cel10 (by rw [e9]), e9]
        simp only [z_mk_ms]
      refine va_newa (atype := .long) (ty := .long) (a0 := (x.toNat, .inr (.inl (fun _ => Int64.ofInt 0)))) C.1 C.2.1 (hts _ (z_wd_in hw)) rfl hK hH.1 z_D hS hA9 (fun _ => rfl) hn0 hcl (by show x.toNat * 8 ≤ _; omega) (by omega) (by omega) hd (fun x1 cA H1 a0 a1 a2 a3 => ?_)
      have ec : cA = ca 1 := z_arr (Or.inr (Or.inl rfl)) (a0.2 4 (cA, .long) rfl).2 (hK.2 1 (ca 1, .long) rfl).2
      subst ec
      rw [← hcel] at a1 a2
      exact go 10 k x1 H1 (fun h => (by omega)) a1 a2 a3
    · have e9 : (z_mk σ 11 x.toNat).2.2.1 ((σ.1 : Int) + 1) = (11, x.toNat) := z_mk_shs
      have hcel : z_cel ca ad (z_mk σ 11 x.toNat) ((σ.1 : Int) + 1) = .inl (ca 2, x.toNat, .inl (fun _ => Int32.ofInt 0)) := by
        rw [z_cel11 (by rw [e9]), e9]
        simp only [z_mk_ms]
      refine va_newa (atype := .boolean) (ty := .boolean) (a0 := (x.toNat, .inl (fun _ => Int32.ofInt 0))) C.1 C.2.1 (hts _ (z_wd_in hw)) rfl hK hH.1 z_D hS hA9 (fun _ => rfl) hn0 hcl (by show x.toNat * 1 ≤ _; omega) (by omega) (by omega) hd (fun x1 cA H1 a0 a1 a2 a3 => ?_)
      have ec : cA = ca 2 := z_arr (Or.inr (Or.inr rfl)) (a0.2 4 (cA, .boolean) rfl).2 (hK.2 2 (ca 2, .boolean) rfl).2
      subst ec
      rw [← hcel] at a1 a2
      exact go 11 k x1 H1 (fun h => (by omega)) a1 a2 a3
  · cases hw
theorem zs_22 {i x : Int} (C : z_C p s m args c cc nL own D ca ad B n0) (hcap : σ.1 + 1 - n0 ≤ R.cells ∧ σ.2.1 + x.toNat - s0 ≤ R.slots) (hg : z_good own isI rt cc pc (22, n, i, g, g2, q) = true) (hx : 0 ≤ x ∧ x ≤ 4000) (k : z_G p l e R s m args below meth c Q nL D ca ad B n0 s0 n ll ((2, (σ.1 : Int) + 1) :: st) (z_mk σ 12 x.toNat)) : z_G p l e R s m args below meth c Q nL D ca ad B n0 s0 pc ll ((0, x) :: st) σ := by
  obtain ⟨hd, hxx⟩ := z_good_inv hg
  intro H locs ls hH hS hL hst h1 h2
  replace hst := (List.forall_mem_cons.mp hst).2
  simp only [z_ins] at hd
  simp only [z_xtr, Bool.and_eq_true, decide_eq_true_eq] at hxx
  obtain ⟨rfl, hw⟩ := hxx
  have hts := C.2.2.2.2.1
  have hK := C.2.2.2.2.2.1.1
  have h32 : z_i32 x := by unfold z_i32; omega
  have hn0 : ¬ Int32.ofInt x < 0 := fun z => by have := (z_lt32 h32 z_i32_0).mp z; omega
  have hcl : (Int32.ofInt x).toNatClampNeg = x.toNat := by
    show (Int32.ofInt x).toInt.toNat = x.toNat
    rw [z_t32i h32]
  have hA9 : ∀ q : Nat, s.heap.size ≤ q → (fun q => B ≤ q) q := fun q hq => by rw [C.2.2.2.2.2.2.2] at hq; show B ≤ q; omega
  split at hw
  · have e9 : (z_mk σ 12 x.toNat).2.2.1 ((σ.1 : Int) + 1) = (12, x.toNat) := z_mk_shs
    have hcel : z_cel ca ad (z_mk σ 12 x.toNat) ((σ.1 : Int) + 1) = .inl (ca 3, x.toNat, .inr (.inr (.inr (.inr (fun _ => none))))) := by
      rw [z_cel12 (by rw [e9]), e9]
      simp only [z_mk_ms, C.2.2.2.2.2.2.1.1]
    refine va_newq (C := RX0) C.1 C.2.1 C.2.2.2.1 (hts _ (z_wd_in hw)) C.2.2.2.2.2.1.2.1 hK hH.1 z_D hS hA9 hn0 hcl (by omega) (by omega) (by omega) hd (fun x1 cA H1 a0 a1 a2 a3 => ?_)
    have ec : cA = ca 3 := by
      obtain ⟨_, _, _, _, _, r1⟩ := (a0.2 4 (cA, .object RX0) rfl).2
      obtain ⟨_, _, _, _, _, r2⟩ := (hK.2 3 (ca 3, .object RX0) rfl).2
      exact Option.some.inj (r1.symm.trans r2)
    subst ec
    rw [← hcel] at a1 a2
    exact z_mk_go (x := x1) (H1 := H1) C.2.2.2.2.2.2.2 C.2.2.2.2.2.2.1 hH hS hL hst h1 h2 (w := x.toNat) (by omega) (fun h => (by omega)) a1 a2 a3 k
  · cases hw
theorem zs_23 {i a : Int} (C : z_C p s m args c cc nL own D ca ad B n0) (hR : 1 ≤ R.frames ∧ 32 ≤ R.locals) (hg : z_good own isI rt cc pc (23, n, i, g, g2, q) = true) (ha : 0 < a ∧ (σ.2.2.1 a).1 < 9 ∧ st.length ≤ 4) (k : z_G p l e R s m args below meth c Q nL D ca ad B n0 s0 n ll st σ) : z_G p l e R s m args below meth c Q nL D ca ad B n0 s0 pc ll ((2, a) :: st) σ := by
  obtain ⟨hd, hxx⟩ := z_good_inv hg
  intro H locs ls hH hS hL hst h1 h2
  replace hst := (List.forall_mem_cons.mp hst).2
  simp only [z_ins] at hd
  simp only [z_xtr, Bool.and_eq_true, decide_eq_true_eq] at hxx
  obtain ⟨rfl, hw⟩ := hxx
  have hts := C.2.2.2.2.1
  have hsum := z_sum4 (ad := ad) st
  obtain ⟨j, hj, ej, had, hget⟩ := z_cell (ca := ca) C.2.2.2.2.2.2.1 hH.2.1 (a := a) (by omega) (by omega)
  split at hw
  · simp only [Bool.and_eq_true] at hw
    obtain ⟨⟨w1, w2⟩, w3⟩ := hw
    have k2 := k H locs ls hH hS hL hst h1 h2
    simp only [List.map_cons, z_cv2, had]
    exact W.objInit C.1 C.2.1 C.2.2.2.1 (hts _ (z_wd_in w1)) (hts _ (z_wd_in w2)) (hts _ (z_wd_in w3)) rfl (by rw [C.2.2.1]; exact hL.1) rfl hd hR.1 (by show 2 * 0 + _ + 12 ≤ _; omega) k2
  · cases hw
end ZS
end
section
/-! CALLS, RETURNS, AND THE WHOLE RUN -/
/-- a method: name, code, what it returns, the kind of its receiver (-1: none), how many parameters, the places of its words (code, instance or static, selects, initialized) -/
abbrev zI : Type := MethodName × ByteArray × Option FieldType × Int × Nat × List Int
def z_cok (mi : Nat → zI) (NM : Nat) (own : String) (cc : ByteArray) (pc : Nat) (o : zO) : Bool := match o with
  | (25, n, k, na, kd, (i, w) :: (f, _) :: _) => decide (decode cc pc = .ok (z_ins o pc)) && decide (n = pc + 3 ∧ 0 ≤ k ∧ k < NM ∧ kd = (mi k.toNat).2.2.2.1 ∧ na = ((mi k.toNat).2.2.2.2.1 : Int) + (if kd = -1 then 0 else 1) ∧ f = (if (mi k.toNat).1.name = "<init>" then 1 else 0)) && z_wd w (.methodLink own i.toNat (mi k.toNat).1)
  | _ => false
def z_opok (mi : Nat → zI) (NM : Nat) (own : String) (isI : Bool) (rt : Option FieldType) (cc : ByteArray) (pc : Nat) (o : zO) : Bool :=
  if o.1 = 99 then true else if o.1 = 25 then z_cok mi NM own cc pc o else z_good own isI rt cc pc o
def z_mok (I : zI) (mL : Nat) : Bool :=
  z_wd (I.2.2.2.2.2.getD 0 0) (.code I.1 I.2.1 mL I.2.2.1) && z_wd (I.2.2.2.2.2.getD 3 0) (.initialized I.1.cls) && decide (plainName I.1.cls = true) && decide (I.1.cls ≠ "java/lang/invoke/MethodHandle" ∧ I.1.cls ≠ "java/lang/invoke/VarHandle" ∧ (parseMethodDescriptor I.1.desc).map (fun d => d.parameters.length) = some I.2.2.2.2.1 ∧ mL ≤ 20) &&
  (if I.2.2.2.1 = -1 then z_wd (I.2.2.2.2.2.getD 1 0) (.static I.1) else decide (0 ≤ I.2.2.2.1 ∧ I.2.2.2.1 < 9 ∧ (z_cl I.2.2.2.1).1 = I.1.cls) && z_wd (I.2.2.2.2.2.getD 1 0) (.instanceMethod I.1) && (if I.1.name = "<init>" then decide (I.2.2.1 = none) else z_wd (I.2.2.2.2.2.getD 2 0) (.selects I.1.cls I.1 I.1)))
def z_room (d mc ms : Nat) : Room := { frames := d + 1, cells := mc, slots := ms, locals := 40 * (d + 1) }
def z_Pc (D : va_G) (ca : Nat → ClassId) (ad : Int → Option Nat) (B : Nat) (σ : zS) (vs : List zV) : Array Value → State → Prop := va_Pc (vs.map (z_cv ad)) (fun U => U.heap.size = B + σ.1 ∧ z_U D ca ad U ∧ z_H D ca ad B σ U U.heap)
def z_Qc (D : va_G) (ca : Nat → ClassId) (ad : Int → Option Nat) (B : Nat) (σ' : zS) (rv : Option zV) : Array Value → State → Outcome → State → Prop := fun _ st o t => o = .returned (rv.map (z_cv ad)) ∧ z_H D ca ad B σ' t t.heap ∧ va_F (fun q => B ≤ q) st t ∧ ∀ v, rv = some v → z_okv v
theorem z_H_moved {D : va_G} {ca : Nat → ClassId} {ad : Int → Option Nat} {B : Nat} {σ : zS} {u U : State} {H : Heap} (hvm : u.vm.Alike U.vm) (h : z_H D ca ad B σ u H) : z_H D ca ad B σ U H := by
  obtain ⟨h1, h2, ⟨b, h3, h4, h5⟩, h6⟩ := h
  exact ⟨h1, h2, ⟨b, h3, h4, h5.moved hvm⟩, z_E_moved hvm h6⟩
theorem z_blind {D : va_G} {ca : Nat → ClassId} {ad : Int → Option Nat} {B : Nat} {σ : zS} {vs : List zV} : FrameBlind (z_Pc D ca ad B σ vs) := by
  intro a U g mk h
  obtain ⟨h0, h1, h2, h3⟩ := h
  exact ⟨h0, h1, z_U_same (s := U) (U := U.calling g mk a) rfl h2, z_H_moved (u := U) (U := U.calling g mk a) (Vm.Alike.refl U.vm) h3⟩
/-- the locals at a method's start -/
theorem z_lg {ad : Int → Option Nat} : ∀ (vs : List zV), (∀ v ∈ vs, v.1 < 3) → lg_sl (vs.map (z_cv ad)) = (z_sl vs).map (fun v => if v.1 = 9 then Slot.second else Slot.val (z_cv ad v))
  | [], _ => rfl
  | v :: vs, h => by
    have hv := h v List.mem_cons_self
    have ih := z_lg (ad := ad) vs (fun w hw => h w (List.mem_cons_of_mem _ hw))
    have e1 : lg_sl ((v :: vs).map (z_cv ad)) = (if (z_cv ad v).category = 2 then [Slot.val (z_cv ad v), .second] else [Slot.val (z_cv ad v)]) ++ lg_sl (vs.map (z_cv ad)) := rfl
    have e2 : z_sl (v :: vs) = (if v.1 = 1 then [v, (9, 0)] else [v]) ++ z_sl vs := rfl
    rw [e1, e2, List.map_append, ih]
    congr 1
    by_cases h1 : v.1 = 1
    · rw [if_pos ((z_catl hv).mpr h1), if_pos h1]
      simp [show ¬ v.1 = 9 by omega]
    · rw [if_neg (fun z => h1 ((z_catl hv).mp z)), if_neg h1]
      simp [show ¬ v.1 = 9 by omega]
theorem z_entry {ad : Int → Option Nat} {vs : List zV} {nL : Nat} (h3 : ∀ v ∈ vs, v.1 < 3) (hok : ∀ v ∈ vs, z_okv v) (hlen : (z_sl vs).length ≤ nL) :
    z_L ad nL ((lg_sl (vs.map (z_cv ad)) ++ List.replicate (nL - (lg_sl (vs.map (z_cv ad))).length) Slot.unset).toArray) (z_ent nL vs) := by
  have hl : (lg_sl (vs.map (z_cv ad))).length = (z_sl vs).length := by rw [z_lg vs h3, List.length_map]
  obtain ⟨e1, e2, -⟩ := lv_entry (vs.map (z_cv ad)) (n := nL) (by rw [hl]; exact hlen)
  refine ⟨e1, e2, by unfold z_ent; simp; omega, fun i v hi hv => ?_, fun v hv => ?_⟩
  · have hlt : i < (z_sl vs).length := by
      rcases Nat.lt_or_ge i (z_sl vs).length with h | h
      · exact h
      · unfold z_ent at hi
        rw [List.getElem?_append_right h] at hi
        have := List.eq_of_mem_replicate (List.mem_of_getElem? hi)
        rw [this] at hv
        exact absurd hv (by decide)
    unfold z_ent at hi
    rw [List.getElem?_append_left hlt] at hi
    rw [List.getElem?_toArray, List.getElem?_append_left (by rw [hl]; exact hlt), z_lg vs h3, List.getElem?_map, hi]
    simp [show ¬ v.1 = 9 by omega]
  · unfold z_ent at hv
    rcases List.mem_append.mp hv with h | h
    · obtain ⟨w, hw, h⟩ := List.mem_flatMap.mp h
      split at h
      · rcases List.mem_cons.mp h with h | h
        · rw [h]; exact hok w hw
        · rw [List.mem_singleton.mp h]; exact z_okN
      · rw [List.mem_singleton.mp h]; exact hok w hw
    · rw [List.eq_of_mem_replicate h]; exact z_okN
section ZS
variable {p : Program} {l : Launch} {e : Env} {R : Room} {s : State} {m : MethodId} {args : Array Value} {below : List Frame} {meth : Method} {c : Code} {Q : State → Prop}
variable {cc : ByteArray} {nL : Nat} {own : String} {D : va_G} {ca : Nat → ClassId} {ad : Int → Option Nat} {B n0 s0 : Nat}
variable {isI : Bool} {rt : Option FieldType} {pc n : Nat} {ll st : List zV} {σ : zS} {g g2 g3 : Int} {q : List (Int × Int)}
/-- a return -/
theorem zs_26 {t : Int} {rv : Option zV} (C : z_C p s m args c cc nL own D ca ad B n0) (hlocks : meth.locks = false) (hrt : meth.sig.returnType = rt) (hg : z_good own isI rt cc pc (26, n, t, g, g2, q) = true) (hr : z_ret t st = some rv) :
    z_G p l e R s m args below meth c (MQ below (z_Qc D ca ad B σ rv) args s (σ.1 - n0) (σ.2.1 - s0) (fun q => B ≤ q)) nL D ca ad B n0 s0 pc ll st σ := by
  obtain ⟨hd, hxx⟩ := z_good_inv hg
  intro H locs ls hH hS hL hst h1 h2
  simp only [z_ins] at hd
  simp only [z_xtr] at hxx
  have hrv : ∀ v, rv = some v → z_okv v := by
    intro v hv
    subst hv
    match st, hr with
    | [], hr =>
      simp only [z_ret] at hr
      split at hr <;> cases hr
    | [w], hr =>
      simp only [z_ret] at hr
      split at hr
      · cases hr
        exact hst _ List.mem_cons_self
      · cases hr
  have fin : ∀ t' : State, t'.heap = H → s.WarmedH t'.vm → z_Qc D ca ad B σ rv args s (.returned (rv.map (z_cv ad))) t' := fun t' ht hW => ⟨rfl, by rw [ht]; exact z_H_moved hW.alike hH, hS.F ht, hrv⟩
  match st, hr with
  | [], hr =>
    simp only [z_ret] at hr
    by_cases h4 : t = 4
    · rw [if_pos h4] at hr hxx hd
      cases hr
      simp only [decide_eq_true_eq] at hxx
      exact W.vret C.1 C.2.1 (hrt.trans hxx) fin hS.2.2 hd
    · rw [if_neg h4] at hr
      cases hr
  | [v], hr =>
    simp only [z_ret] at hr
    split at hr
    · rename_i hc
      obtain ⟨t0, t4, hv, hf⟩ := hc
      cases hr
      obtain ⟨vt, x⟩ := v
      have hc : t = 0 ∨ t = 1 ∨ t = 2 ∨ t = 3 := by omega
      rcases hc with rfl | rfl | rfl | rfl
      · cases hv
        simp only [decide_eq_true_eq, show ¬ (0 : Int) = 4 by decide, show ¬ (0 : Int) = 1 by decide, show ¬ (0 : Int) = 2 by decide, if_false, if_true] at hxx hd
        exact W.iret C.1 C.2.1 (hrt.trans hxx) fin hS.2.2 hd
      · cases hv
        simp only [decide_eq_true_eq, show ¬ (1 : Int) = 4 by decide, if_false, if_true] at hxx hd
        exact W.lret C.1 C.2.1 (hrt.trans hxx) fin hS.2.2 hd
      · cases hv
        simp only [decide_eq_true_eq, show ¬ (2 : Int) = 4 by decide, show ¬ (2 : Int) = 1 by decide, show ¬ (2 : Int) = 0 by decide, show ¬ (2 : Int) = 3 by decide, if_false, if_true] at hxx hd
        exact W.aret C.1 C.2.1 (hrt.trans hxx) (Or.inl ⟨_, rfl⟩) (by show va_rf (ad x) = _ ∨ ∃ a, va_rf (ad x) = _; cases ad x with | none => exact Or.inl rfl | some a => exact Or.inr ⟨a, rfl⟩) fin hS.2.2 hd
      · cases hv
        simp only [decide_eq_true_eq, show ¬ (3 : Int) = 4 by decide, show ¬ (3 : Int) = 1 by decide, show ¬ (3 : Int) = 0 by decide, show ¬ (3 : Int) = 2 by decide, if_false, if_true] at hxx hd
        have hb : x = 0 ∨ x = 1 := by simpa [z_fitv] using hf
        exact W.zret C.1 C.2.1 (hrt.trans hxx) (by rcases hb with rfl | rfl <;> decide) fin hS.2.2 hd
    · cases hr
/-- what goes on behind a call -/
theorem z_back {mc ms : Nat} {σ1 : zS} {rv : Option zV} {rest : List zV} {H : Heap} {locs : List Loc} {ls : Array Slot} {st0 : List Value} {a : Array Value} (hs : s.heap.size = B + n0)
    (hr : va_Run p l e R s m args below meth c H locs (σ.1 - n0) (σ.2.1 - s0) mc ms (F0 m pc ls st0) (rest.map (z_cv ad)) (z_Qc D ca ad B σ1 rv a) (fun q => B ≤ q)) (hS : va_S (fun q => B ≤ q) s.heap H locs) (hL : z_L ad nL ls ll) (hst : ∀ v ∈ rest, z_okv v) (h1 : n0 ≤ σ.1) (h2 : s0 ≤ σ.2.1)
    (hm : σ.1 ≤ σ1.1 ∧ σ.2.1 ≤ σ1.2.1) (hmc : mc = σ1.1 - σ.1) (hms : ms = σ1.2.1 - σ.2.1) (k : z_G p l e R s m args below meth c Q nL D ca ad B n0 s0 (pc + 3) ll (rv.toList ++ rest) σ1) : W p l e R s m args below meth c H locs (σ.1 - n0) (σ.2.1 - s0) Q (F0 m pc ls st0) := by
  intro T hT X
  obtain ⟨v, st₀, t, T', L, h0, X', hLo, e1, e2, ⟨hv, hH1, ⟨hz, hk⟩, hrv⟩, go⟩ := hr T hT X
  have hv : v = rv.map (z_cv ad) := Outcome.returned.inj hv
  subst hv
  rw [h0] at hz hk
  have hS1 : va_S (fun q => B ≤ q) s.heap T'.heap (locs ++ L) := ⟨Nat.le_trans hS.1 (by rw [e1]; exact hz), fun q q1 q2 => by rw [e1, hk q (Nat.lt_of_lt_of_le q1 hS.1) q2]; exact hS.2.1 q q1 q2, fun q hq => by
    rcases List.mem_append.mp hq with h | h
    · exact hS.2.2 q h
    · exact hLo q h⟩
  have hvm : t.vm.Alike s.vm := by rw [← e2]; exact X'.warmed.alike.symm
  have hst' : ∀ v ∈ rv.toList ++ rest, z_okv v := fun w hw => by
    rcases List.mem_append.mp hw with h | h
    · exact hrv w (Option.mem_toList.mp h)
    · exact hst w h
  have k2 := k T'.heap (locs ++ L) ls (by rw [e1]; exact z_H_moved hvm hH1) hS1 hL hst' (by omega) (by omega)
  rw [show σ1.1 - n0 = σ.1 - n0 + mc by omega, show σ1.2.1 - s0 = σ.2.1 - s0 + ms by omega] at k2
  obtain ⟨t2, a1, b1⟩ := k2 T' rfl X'
  refine ⟨t2, go t2 ?_, b1⟩
  have ef : (rv.toList ++ rest).map (z_cv ad) = (rv.map (z_cv ad)).toList ++ rest.map (z_cv ad) := by
    cases rv <;> rfl
  rw [ef] at a1
  exact a1
end ZS
end
section
section ZS
variable {p : Program} {l : Launch} {e : Env} {R : Room} {s : State} {m : MethodId} {args : Array Value} {below : List Frame} {meth : Method} {c : Code} {Q : State → Prop}
variable {cc : ByteArray} {nL : Nat} {own : String} {D : va_G} {ca : Nat → ClassId} {ad : Int → Option Nat} {B n0 s0 : Nat}
variable {isI : Bool} {rt : Option FieldType} {pc n : Nat} {ll st : List zV} {σ : zS} {g g2 g3 : Int} {q : List (Int × Int)}
theorem z_stp_mono {o : zO} {pc' : Nat} {ll' st' : List zV} {σ1 : zS} (hz : z_stp o ll st σ = some (pc', ll', st', σ1)) : σ.1 ≤ σ1.1 ∧ σ.2.1 ≤ σ1.2.1 := by
  unfold z_stp at hz
  repeat' split at hz
  all_goals first | (cases hz; done) | (cases hz; exact ⟨Nat.le_refl _, Nat.le_refl _⟩) | (cases hz; exact ⟨Nat.le_succ _, Nat.le_add_right _ _⟩)
theorem zs_29 {j i : Int} (C : z_C p s m args c cc nL own D ca ad B n0) (hg : z_good own isI rt cc pc (29, n, j, i, g, q) = true) (hj : 0 ≤ j ∧ j < 3) (k : z_G p l e R s m args below meth c Q nL D ca ad B n0 s0 n ll ((2, -2 - j) :: st) σ) : z_G p l e R s m args below meth c Q nL D ca ad B n0 s0 pc ll st σ := by
  sorry
theorem zs_30 {i a : Int} (C : z_C p s m args c cc nL own D ca ad B n0) (hR : 1 ≤ R.frames ∧ 32 ≤ R.locals) (hcap : σ.1 - n0 ≤ R.cells ∧ σ.2.1 - s0 ≤ R.slots) (hg : z_good own isI rt cc pc (30, n, i, g, g2, q) = true) (ha : -4 ≤ a ∧ a ≤ -2 ∧ st.length ≤ 4) (k : z_G p l e R s m args below meth c Q nL D ca ad B n0 s0 n ll ((0, ((z_str a).length : Int)) :: st) σ) : z_G p l e R s m args below meth c Q nL D ca ad B n0 s0 pc ll ((2, a) :: st) σ := by
  sorry
theorem zs_31 {i a x : Int} (C : z_C p s m args c cc nL own D ca ad B n0) (hR : 1 ≤ R.frames ∧ 32 ≤ R.locals) (hcap : σ.1 - n0 ≤ R.cells ∧ σ.2.1 - s0 ≤ R.slots) (hg : z_good own isI rt cc pc (31, n, i, g, g2, q) = true) (ha : -4 ≤ a ∧ a ≤ -2 ∧ 0 ≤ x ∧ x < ((z_str a).length : Int) ∧ st.length ≤ 4) (k : z_G p l e R s m args below meth c Q nL D ca ad B n0 s0 n ll ((0, (z_str a).getD x.toNat 0) :: st) σ) : z_G p l e R s m args below meth c Q nL D ca ad B n0 s0 pc ll ((0, x) :: (2, a) :: st) σ := by
  sorry
set_option maxHeartbeats 4000000 in
theorem zs_all {o : zO} {pc' : Nat} {ll' st' : List zV} {σ1 : zS} (C : z_C p s m args c cc nL own D ca ad B n0) (hR : 1 ≤ R.frames ∧ 32 ≤ R.locals) (hcap : σ1.1 - n0 ≤ R.cells ∧ σ1.2.1 - s0 ≤ R.slots) (hin2 : isI = true → meth.name = "<init>") (hg : z_good own isI rt cc pc o = true) (hz : z_stp o ll st σ = some (pc', ll', st', σ1)) (k : z_G p l e R s m args below meth c Q nL D ca ad B n0 s0 pc' ll' st' σ1) : z_G p l e R s m args below meth c Q nL D ca ad B n0 s0 pc ll st σ := by
  unfold z_stp at hz
  split at hz
  · cases hz; exact zs_0 C hg k
  · split at hz
    · split at hz
      · rename_i h1 h2; cases hz; exact zs_1 C hg h1 h2 k
      · cases hz
    · cases hz
  · split at hz
    · rename_i h1; cases hz; exact zs_2 C hg h1 k
    · cases hz
  · split at hz
    · split at hz
      · rename_i h1 h2; cases hz; exact zs_3 C hg h1 h2 k
      · cases hz
    · cases hz
  · split at hz
    · rename_i h1; cases hz; exact zs_4 C hg h1 k
    · cases hz
  · split at hz
    · rename_i h1; subst h1; cases hz; exact zs_5c C hg k
    · rename_i h4
      split at hz
      · rename_i h1; cases hz; exact zs_5 C hg h1 h4 k
      · cases hz
  · split at hz
    · rename_i h1; obtain ⟨rfl, rfl⟩ := h1; cases hz; exact zs_6a C hg k
    · split at hz
      · rename_i h1; obtain ⟨rfl, rfl⟩ := h1; cases hz; exact zs_6b C hg k
      · cases hz
  · split at hz
    · rename_i h1; cases hz; exact zs_7 C hg h1 k
    · cases hz
  · split at hz
    · rename_i h1; cases hz; exact zs_8 C hg h1 k
    · cases hz
  · split at hz
    · rename_i h1; cases hz; exact zs_9 C hg h1 k
    · cases hz
  · cases hz; exact zs_10 C hg k
  · cases hz; exact zs_11 C hg k
  · cases hz; exact zs_12 C hg k
  · cases hz; exact zs_13 C hg k
  · cases hz; exact zs_14 C hg k
  · split at hz
    · rename_i h1; cases hz; exact zs_15 C hg h1 k
    · cases hz
  · split at hz
    · rename_i h1; cases hz; exact zs_16 C hin2 hg h1.1 h1.2.1 h1.2.2 k
    · cases hz
  · split at hz
    · rename_i h1; cases hz; exact zs_17 C hg h1.1 h1.2.1 h1.2.2 k
    · cases hz
  · split at hz
    · rename_i h1; cases hz; exact zs_18 C hg h1.1 h1.2.1 h1.2.2.1 h1.2.2.2.1 h1.2.2.2.2.1 h1.2.2.2.2.2.1 h1.2.2.2.2.2.2 k
    · cases hz
  · split at hz
    · rename_i h1; cases hz; exact zs_19 C hg h1 k
    · cases hz
  · cases hz; exact zs_20 C hcap hg k
  · split at hz
    · rename_i h1; cases hz; exact zs_22 C hcap hg h1 k
    · cases hz
  · split at hz
    · rename_i h1; cases hz; exact zs_21 C hcap hg h1 k
    · cases hz
  · split at hz
    · rename_i h1; cases hz; exact zs_23 C hR hg h1 k
    · cases hz
  · cases hz; exact zs_24 C hg k
  · split at hz
    · cases hz
    · rename_i h4
      split at hz
      · rename_i h1; subst h1; cases hz
        exact zs_28 C hR hcap hg (by omega) k
      · rename_i h1; cases hz
        refine zs_28 C hR hcap hg (by omega) ?_
        rw [if_neg h1]
        exact k
  · split at hz
    · rename_i h1; cases hz; exact zs_29 C hg h1 k
    · cases hz
  · split at hz
    · rename_i h1; cases hz; exact zs_30 C hR hcap hg h1 k
    · cases hz
  · split at hz
    · rename_i h1; cases hz; exact zs_31 C hR hcap hg h1 k
    · cases hz
  · cases hz
end ZS
theorem z_ex_mono {cd : Nat → Nat → zO} {ml : Nat → Nat} : ∀ (f d k pc : Nat) (ll st : List zV) (σ : zS) (rv : Option zV) (σ' : zS), z_ex cd ml f d k pc ll st σ = some (rv, σ') → σ.1 ≤ σ'.1 ∧ σ.2.1 ≤ σ'.2.1
  | 0, _, _, _, _, _, _, _, _, h => by simp [z_ex] at h
  | f + 1, d, k, pc, ll, st, σ, rv, σ', h => by
    unfold z_ex at h
    split at h
    · split at h
      · cases h
      · split at h
        · split at h
          · rename_i h1
            have a := z_ex_mono f _ _ _ _ _ _ _ _ h1
            have b := z_ex_mono f _ _ _ _ _ _ _ _ h
            omega
          · cases h
        · cases h
    · split at h
      · cases h; exact ⟨Nat.le_refl _, Nat.le_refl _⟩
      · cases h
    · split at h
      · rename_i h1
        have a := z_stp_mono h1
        have b := z_ex_mono f _ _ _ _ _ _ _ _ h
        omega
      · cases h
end
section
/-- what a run of the small machine says of the machine -/
def z_Run (cd : Nat → Nat → zO) (ml : Nat → Nat) (mi : Nat → zI) (NM : Nat) (f : Nat) : Prop :=
  ∀ (d k pc : Nat) (ll st : List zV) (σ : zS) (rv : Option zV) (σ' : zS), z_ex cd ml f d k pc ll st σ = some (rv, σ') →
  ∀ (p : Program) (l : Launch) (e : Env) (R : Room) (s : State) (m : MethodId) (args : Array Value) (below : List Frame) (meth : Method) (c : Code) (Q : State → Prop) (D : va_G) (ca : Nat → ClassId) (ad : Int → Option Nat) (B n0 s0 : Nat) (own : String) (cc : ByteArray) (isI : Bool) (rt : Option FieldType),
  (∀ pc, z_opok mi NM own isI rt cc pc (cd k pc) = true) → z_C p s m args c cc (ml k) own D ca ad B n0 → d + 1 ≤ R.frames → 40 * (d + 1) ≤ R.locals → (σ'.1 - n0 ≤ R.cells ∧ σ'.2.1 - s0 ≤ R.slots) → (isI = true → meth.name = "<init>") →
  (∀ (pc' : Nat) (ll' st' : List zV), (cd k pc').1 = 26 → z_ret (cd k pc').2.2.1 st' = some rv → z_G p l e R s m args below meth c Q (ml k) D ca ad B n0 s0 pc' ll' st' σ') →
  z_G p l e R s m args below meth c Q (ml k) D ca ad B n0 s0 pc ll st σ
/-- every method of the table is as the tables say -/
def z_All (cd : Nat → Nat → zO) (ml : Nat → Nat) (mi : Nat → zI) (NM : Nat) : Prop := ∀ k, k < NM → z_mok (mi k) (ml k) = true ∧ ∀ pc, z_opok mi NM (mi k).1.cls (decide ((mi k).1.name = "<init>")) (mi k).2.2.1 (mi k).2.1 pc (cd k pc) = true
theorem z_goodIn {y : MethodName} {cc : ByteArray} {mL : Nat} {ret : Option FieldType} (h : Cond.code y cc mL ret ∈ z_T) : GoodIn z_T (Cond.code y cc mL ret :: z_T) := by
  intro w hw
  have hm : w ∈ z_T := by
    rcases List.mem_cons.mp hw with e | e
    · rw [e]; exact h
    · exact e
  exact ⟨hm, good_of_word (z_goodT hm)⟩
/-- a method's contract out of a run -/
theorem z_met {cd : Nat → Nat → zO} {ml : Nat → Nat} {mi : Nat → zI} {NM : Nat} {f : Nat} (hall : z_All cd ml mi NM) (ih : z_Run cd ml mi NM f) {d k : Nat} (hk : k < NM) {vs : List zV} {σ σ' : zS} {rv : Option zV} (h : z_ex cd ml f d k 0 (z_ent (ml k) vs) [] σ = some (rv, σ')) (h3 : ∀ v ∈ vs, v.1 < 3) (hok : ∀ v ∈ vs, z_okv v) (hlen : (z_sl vs).length ≤ ml k)
    (l : Launch) {D : va_G} {ca : Nat → ClassId} {ad : Int → Option Nat} {B : Nat} (hA : z_A ad B) :
    Met l (mi k).1 (.code (mi k).1 (mi k).2.1 (ml k) (mi k).2.2.1 :: z_T) (z_room d (σ'.1 - σ.1) (σ'.2.1 - σ.2.1)) (z_Pc D ca ad B σ vs) (z_Qc D ca ad B σ' rv) (σ'.1 - σ.1) (σ'.2.1 - σ.2.1) (fun q => B ≤ q) := by
  obtain ⟨hm, ho⟩ := hall k hk
  simp only [z_mok, Bool.and_eq_true, decide_eq_true_eq] at hm
  obtain ⟨⟨⟨⟨w0, w3⟩, hpl⟩, hcl1, hcl2, hnp, hml⟩, hw⟩ := hm
  refine Met.ofW (cc := (mi k).2.1) (maxL := ml k) (ret := (mi k).2.2.1) hpl rfl ?_
  intro p e s m args below meth c s₁ Bd hmL hv
  obtain ⟨rfl, hsz, hK, hH⟩ := hv
  have hts : ∀ w ∈ z_T, w.before (vs.map (z_cv ad)).toArray s = true := fun w hw => atoms_spec (ws := .code (mi k).1 (mi k).2.1 (ml k) (mi k).2.2.1 :: z_T) Bd.pre w (List.mem_cons_of_mem _ hw)
  have hown : s.vm.findClass (mi k).1.cls = some m.cls := findClass_of_methodNamed Bd.named
  have C : z_C p s m (vs.map (z_cv ad)).toArray c (mi k).2.1 (ml k) (mi k).1.cls D ca ad B σ.1 := ⟨Bd.exec, Bd.bytes, hmL, hown, hts, hK, hA, hsz⟩
  have hin2 : decide ((mi k).1.name = "<init>") = true → meth.name = "<init>" := fun z => by
    rw [decide_eq_true_eq] at z
    rw [(name_of_methodNamed Bd.named Bd.method).1]
    exact z
  have G := ih d k 0 (z_ent (ml k) vs) [] σ rv σ' h p l e (headSpec (.code (mi k).1 (mi k).2.1 (ml k) (mi k).2.2.1 :: z_T) (z_room d (σ'.1 - σ.1) (σ'.2.1 - σ.2.1))).room s m (vs.map (z_cv ad)).toArray below meth c (MQ below (z_Qc D ca ad B σ' rv) (vs.map (z_cv ad)).toArray s (σ'.1 - σ.1) (σ'.2.1 - σ.2.1) (fun q => B ≤ q)) D ca ad B σ.1 σ.2.1 (mi k).1.cls (mi k).2.1 (decide ((mi k).1.name = "<init>")) (mi k).2.2.1 ho C (Nat.le_refl _) (Nat.le_refl _) ⟨Nat.le_refl _, Nat.le_refl _⟩ hin2 ?_
  · rw [lg_entry_eq]
    have := G s.heap [] _ hH va_S.rf (z_entry h3 hok hlen) (fun v hv => by cases hv) (Nat.le_refl _) (Nat.le_refl _)
    rw [Nat.sub_self, Nat.sub_self] at this
    exact this
  · intro pc' ll' st' h26 hret
    have hop := ho pc'
    generalize cd k pc' = o at h26 hret hop
    obtain ⟨oc, n, a, b, cx, q⟩ := o
    cases h26
    have hg : z_good (mi k).1.cls (decide ((mi k).1.name = "<init>")) (mi k).2.2.1 (mi k).2.1 pc' (26, n, a, b, cx, q) = true := hop
    exact zs_26 C Bd.notSynchronized Bd.returns hg hret
theorem z_run {cd : Nat → Nat → zO} {ml : Nat → Nat} {mi : Nat → zI} {NM : Nat} (hall : z_All cd ml mi NM) : ∀ f, z_Run cd ml mi NM f := by
  intro f
  induction f with
  | zero =>
    intro d k pc ll st σ rv σ' h
    simp [z_ex] at h
  | succ f ih =>
    intro d k pc ll st σ rv σ' h p l e R s m args below meth c Q D ca ad B n0 s0 own cc isI rt ho C hfr hlo hcap hin2 hret
    have hop := ho pc
    have hre := hret pc
    unfold z_ex at h
    generalize cd k pc = o at h hop hre
    split at h
    · rename_i n kk na kd q
      split at h
      · cases h
      · rename_i d'
        split at h
        · rename_i hcnd
          obtain ⟨hna, hst4, hrcv, hsl, hall3⟩ := hcnd
          split at h
          · rename_i rv1 σ1 hcall
            have hcok : z_cok mi NM own cc pc (25, n, kk, na, kd, q) = true := hop
            match q, hcok with
            | (i, w) :: (fm, w2) :: q, hcok =>
              simp only [z_cok, Bool.and_eq_true, decide_eq_true_eq] at hcok
              obtain ⟨⟨hd, rfl, hk0, hkN, hkd, hnae, hfm⟩, hlink⟩ := hcok
              have hkM : kk.toNat < NM := by omega
              obtain ⟨hm, -⟩ := hall kk.toNat hkM
              simp only [z_mok, Bool.and_eq_true, decide_eq_true_eq] at hm
              obtain ⟨⟨⟨⟨w0, w3⟩, hpl⟩, hcl1, hcl2, hnp, hml⟩, hw⟩ := hm
              have m1 := z_ex_mono f _ _ _ _ _ _ _ _ hcall
              have m2 := z_ex_mono f _ _ _ _ _ _ _ _ h
              have G2 := ih (d' + 1) k (pc + 3) ll (rv1.toList ++ st.drop na.toNat) σ1 rv σ' h p l e R s m args below meth c Q D ca ad B n0 s0 own cc isI rt ho C hfr hlo hcap hin2 hret
              intro H locs ls hH hS hL hst h1 h2
              have hA := C.2.2.2.2.2.2.1
              have hts := C.2.2.2.2.1
              have hs := C.2.2.2.2.2.2.2
              have hargs : ∀ v ∈ (st.take na.toNat).reverse, v.1 < 3 := fun v hv => by
                have := List.all_eq_true.mp hall3 v (List.mem_reverse.mp hv)
                simpa using this
              have hargok : ∀ v ∈ (st.take na.toNat).reverse, z_okv v := fun v hv => hst v (List.mem_of_mem_take (List.mem_reverse.mp hv))
              have hM := z_met hall ih hkM hcall hargs hargok hsl l (D := D) (ca := ca) hA
              have hrest : ∀ v ∈ st.drop na.toNat, z_okv v := fun v hv => hst v (List.mem_of_mem_drop hv)
              have hsum := z_sum4 (ad := ad) (st.drop na.toNat)
              have hdl : (st.drop na.toNat).length ≤ 4 := by rw [List.length_drop]; omega
              have cb : CallB R s args own i.toNat (mi kk.toNat).1 (mi kk.toNat).2.1 (ml kk.toNat) (mi kk.toNat).2.2.1 (.code (mi kk.toNat).1 (mi kk.toNat).2.1 (ml kk.toNat) (mi kk.toNat).2.2.1 :: z_T) (z_room d' (σ1.1 - σ.1) (σ1.2.1 - σ.2.1)) (σ1.1 - σ.1) (σ1.2.1 - σ.2.1) (mi kk.toNat).2.2.2.2.1 :=
                callB_of _ hts (z_goodIn (z_wd_in w0)) rfl rfl rfl (hts _ (z_wd_in w3)) (hts _ (z_wd_in hlink)) ⟨hcl1, hcl2, hnp⟩ ⟨by show d' + 1 + 1 ≤ _; omega, by show 8 + (ml kk.toNat + 11) + 40 * (d' + 1) ≤ _; omega⟩
              refine z_sized hs h1 hH.1 hS rfl (fun hsize => ?_)
              have hpre : ∀ U : State, U.heap = H → s.WarmedH U.vm → z_Pc D ca ad B σ (st.take na.toNat).reverse ((st.take na.toNat).reverse.map (z_cv ad)).toArray U := fun U hU hW => ⟨rfl, by rw [hU]; exact hsize, z_U_warm hW C.2.2.2.2.2.1, by rw [hU]; exact z_H_moved hW.alike hH⟩
              have hroom : 2 * (F0 m pc ls (st.map (z_cv ad))).monitorRoom + (((st.drop na.toNat).map (z_cv ad)).map fun v => v.category).sum ≤ 8 := lv_room (by omega)
              have hfit : σ.1 - n0 + (σ1.1 - σ.1) ≤ R.cells ∧ σ.2.1 - s0 + (σ1.2.1 - σ.2.1) ≤ R.slots := by omega
              have hstk : st.map (z_cv ad) = ((st.take na.toNat).reverse.map (z_cv ad)).reverse ++ (st.drop na.toNat).map (z_cv ad) := by
                rw [List.map_reverse, List.reverse_reverse, ← List.map_append, List.take_append_drop]
              simp only [z_ins] at hd
              by_cases hsta : kd = -1
              · rw [if_pos hsta] at hd hnae
                rw [← hkd, if_pos hsta] at hw
                refine z_back hs (va_runS (As := (st.take na.toNat).reverse.map (z_cv ad)) ⟨C.1, C.2.1, C.2.2.1, C.2.2.2.1, hts⟩ hM ⟨cb, hts _ (z_wd_in hw)⟩ ⟨z_blind, hpre⟩ rfl (by simp; omega) hL.1 hstk hroom hd hfit) hS hL hrest h1 h2 m1 rfl rfl G2
              · rw [if_neg hsta] at hd hnae
                rw [← hkd, if_neg hsta] at hw
                simp only [Bool.and_eq_true, decide_eq_true_eq] at hw
                obtain ⟨⟨⟨k0, k9, hcn⟩, winst⟩, hsel⟩ := hw
                unfold z_rcv at hrcv
                rw [if_neg hsta] at hrcv
                cases hal : (st.take na.toNat).reverse with
                | nil => rw [hal] at hrcv; simp at hrcv
                | cons v as =>
                  obtain ⟨vt, va⟩ := v
                  rw [hal] at hrcv
                  have hvt : vt = 2 := by
                    by_cases z : vt = 2
                    · exact z
                    · exfalso
                      split at hrcv
                      · rename_i hh; cases hh; exact z rfl
                      · cases hrcv
                  subst hvt
                  simp only [decide_eq_true_eq] at hrcv
                  obtain ⟨ha0, hak⟩ := hrcv
                  obtain ⟨j, hj, ej, had, hget⟩ := z_cell (ca := ca) hA hH.2.1 (a := va) (by omega) (by omega)
                  rw [z_cel_obj (by omega)] at hget
                  have hlen : as.length = (mi kk.toNat).2.2.2.2.1 := by
                    have := congrArg List.length hal
                    simp at this
                    omega
                  have hstk2 : st.map (z_cv ad) = (as.map (z_cv ad)).reverse ++ .ref (B + j) :: (st.drop na.toNat).map (z_cv ad) := by
                    rw [hstk, hal, List.map_cons, z_cv2, had, List.reverse_cons, List.append_assoc]
                    rfl
                  have hpre2 : ∀ U : State, U.heap = H → s.WarmedH U.vm → z_Pc D ca ad B σ (st.take na.toNat).reverse (Value.ref (B + j) :: as.map (z_cv ad)).toArray U := fun U hU hW => by
                    have := hpre U hU hW
                    rw [hal, List.map_cons, z_cv2, had] at this
                    rw [hal]
                    exact this
                  by_cases hinit : (mi kk.toNat).1.name = "<init>"
                  · rw [if_pos hinit] at hfm hsel
                    subst hfm
                    simp only [decide_eq_true_eq] at hsel
                    simp only [if_true] at hd
                    rw [hsel] at cb hM
                    exact z_back hs (va_runI (b := B + j) (As := as.map (z_cv ad)) ⟨C.1, C.2.1, C.2.2.1, C.2.2.2.1, hts⟩ hM ⟨cb, hinit, hts _ (z_wd_in winst)⟩ ⟨z_blind, hpre2⟩ rfl (by simp; omega) hL.1 hstk2 hroom hd hfit) hS hL hrest h1 h2 m1 rfl rfl G2
                  · rw [if_neg hinit] at hfm hsel
                    subst hfm
                    simp only [show ¬ (0 : Int) = 1 by decide, if_false] at hd
                    have hrecv := va_recv (q0 := j) (ci := kd.toNat) (q := z_cl kd) C.2.2.2.2.2.1.1 hH.1 (by rw [(z_cls k0 k9).1]) (by rw [hget, show (σ.2.2.1 va).1 = kd.toNat by omega])
                    rw [hcn] at hrecv
                    exact z_back hs (va_runV (b := B + j) (As := as.map (z_cv ad)) ⟨C.1, C.2.1, C.2.2.1, C.2.2.2.1, hts⟩ hM ⟨cb, hts _ (z_wd_in winst), hts _ (z_wd_in hsel)⟩ ⟨z_blind, hrecv, hpre2⟩ rfl (by simp; omega) hL.1 hstk2 hroom hd hfit) hS hL hrest h1 h2 m1 rfl rfl G2
          · cases h
        · cases h
    · split at h
      · rename_i hr
        cases h
        exact hre ll st rfl hr
      · cases h
    · rename_i n25 n26
      split at h
      · rename_i pc' ll' st' σ1 hz
        have G2 := ih d k pc' ll' st' σ1 rv σ' h p l e R s m args below meth c Q D ca ad B n0 s0 own cc isI rt ho C hfr hlo hcap hin2 hret
        have m2 := z_ex_mono f _ _ _ _ _ _ _ _ h
        have hg : z_good own isI rt cc pc o = true := by
          unfold z_opok at hop
          by_cases h99 : o.1 = 99
          · exfalso
            obtain ⟨oc, o2⟩ := o
            cases h99
            simp [z_stp] at hz
          · rw [if_neg h99] at hop
            by_cases h25 : o.1 = 25
            · exfalso
              obtain ⟨oc, o1, o2, o3, o4, o5⟩ := o
              cases h25
              exact n25 _ _ _ _ _ rfl
            · rw [if_neg h25] at hop
              exact hop
        exact zs_all C ⟨by omega, by omega⟩ ⟨by omega, by omega⟩ hin2 hg hz G2
      · cases h
end
