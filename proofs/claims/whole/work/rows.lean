section
-- ===== PART A: goes FIRST, ahead of the names: the tables' words, and 'selects' of the private methods out of them =====
/-- a private method of a class that the tables say can be made, by its rows of tables_1 -/
def lw_okq (q : MethodName × Nat) : Prop := (q.1.cls ≠ "java/lang/invoke/MethodHandle" ∧ q.1.cls ≠ "java/lang/invoke/VarHandle") ∧ Cond.instantiable q.1.cls q.2 ∈ tables_1 ∧ Cond.privateMethod q.1 ∈ tables_1 ∧ Cond.instanceMethod q.1 ∈ tables_1
theorem lw_p0 : lw_okq (⟨"MergedOutline$Outline", "shift", "(III)V"⟩, 1) := ⟨⟨by decide +kernel, by decide +kernel⟩, List.mem_of_getElem? (i := 29) (by decide +kernel), List.mem_of_getElem? (i := 286) (by decide +kernel), List.mem_of_getElem? (i := 287) (by decide +kernel)⟩
theorem lw_p1 : lw_okq (⟨"MergedOutline", "settled", "(I)I"⟩, 10) := ⟨⟨by decide +kernel, by decide +kernel⟩, List.mem_of_getElem? (i := 15) (by decide +kernel), List.mem_of_getElem? (i := 299) (by decide +kernel), List.mem_of_getElem? (i := 300) (by decide +kernel)⟩
theorem lw_p2 : lw_okq (⟨"MergedOutline", "refuse", "(I)I"⟩, 10) := ⟨⟨by decide +kernel, by decide +kernel⟩, List.mem_of_getElem? (i := 15) (by decide +kernel), List.mem_of_getElem? (i := 303) (by decide +kernel), List.mem_of_getElem? (i := 304) (by decide +kernel)⟩
theorem lw_p3 : lw_okq (⟨"MergedOutline$History", "slot", "(I)LMergedOutline$Desk;"⟩, 3) := ⟨⟨by decide +kernel, by decide +kernel⟩, List.mem_of_getElem? (i := 69) (by decide +kernel), List.mem_of_getElem? (i := 311) (by decide +kernel), List.mem_of_getElem? (i := 312) (by decide +kernel)⟩
theorem lw_p4 : lw_okq (⟨"MergedOutline", "outline", "(I)LMergedOutline$Outline;"⟩, 10) := ⟨⟨by decide +kernel, by decide +kernel⟩, List.mem_of_getElem? (i := 15) (by decide +kernel), List.mem_of_getElem? (i := 395) (by decide +kernel), List.mem_of_getElem? (i := 396) (by decide +kernel)⟩
theorem lw_p5 : lw_okq (⟨"MergedOutline$Merger", "chooseSections", "()V"⟩, 6) := ⟨⟨by decide +kernel, by decide +kernel⟩, List.mem_of_getElem? (i := 89) (by decide +kernel), List.mem_of_getElem? (i := 410) (by decide +kernel), List.mem_of_getElem? (i := 411) (by decide +kernel)⟩
theorem lw_p6 : lw_okq (⟨"MergedOutline$Merger", "isChanged", "(ILMergedOutline$Outline;)Z"⟩, 6) := ⟨⟨by decide +kernel, by decide +kernel⟩, List.mem_of_getElem? (i := 89) (by decide +kernel), List.mem_of_getElem? (i := 416) (by decide +kernel), List.mem_of_getElem? (i := 417) (by decide +kernel)⟩
theorem lw_p7 : lw_okq (⟨"MergedOutline$Merger", "isOther", "(ILMergedOutline$Outline;I)Z"⟩, 6) := ⟨⟨by decide +kernel, by decide +kernel⟩, List.mem_of_getElem? (i := 89) (by decide +kernel), List.mem_of_getElem? (i := 420) (by decide +kernel), List.mem_of_getElem? (i := 421) (by decide +kernel)⟩
theorem lw_p8 : lw_okq (⟨"MergedOutline$Merger", "hasNewChild", "(ILMergedOutline$Outline;)Z"⟩, 6) := ⟨⟨by decide +kernel, by decide +kernel⟩, List.mem_of_getElem? (i := 89) (by decide +kernel), List.mem_of_getElem? (i := 425) (by decide +kernel), List.mem_of_getElem? (i := 426) (by decide +kernel)⟩
theorem lw_p9 : lw_okq (⟨"MergedOutline$Merger", "chooseTraits", "(II)V"⟩, 6) := ⟨⟨by decide +kernel, by decide +kernel⟩, List.mem_of_getElem? (i := 89) (by decide +kernel), List.mem_of_getElem? (i := 434) (by decide +kernel), List.mem_of_getElem? (i := 435) (by decide +kernel)⟩
theorem lw_p10 : lw_okq (⟨"MergedOutline$Merger", "sourceOf", "(II)LMergedOutline$Outline;"⟩, 6) := ⟨⟨by decide +kernel, by decide +kernel⟩, List.mem_of_getElem? (i := 89) (by decide +kernel), List.mem_of_getElem? (i := 438) (by decide +kernel), List.mem_of_getElem? (i := 439) (by decide +kernel)⟩
theorem lw_p11 : lw_okq (⟨"MergedOutline$Merger", "isDisputed", "(II)Z"⟩, 6) := ⟨⟨by decide +kernel, by decide +kernel⟩, List.mem_of_getElem? (i := 89) (by decide +kernel), List.mem_of_getElem? (i := 451) (by decide +kernel), List.mem_of_getElem? (i := 452) (by decide +kernel)⟩
theorem lw_p12 : lw_okq (⟨"MergedOutline$Merger", "rehang", "()V"⟩, 6) := ⟨⟨by decide +kernel, by decide +kernel⟩, List.mem_of_getElem? (i := 89) (by decide +kernel), List.mem_of_getElem? (i := 455) (by decide +kernel), List.mem_of_getElem? (i := 456) (by decide +kernel)⟩
theorem lw_p13 : lw_okq (⟨"MergedOutline$Merger", "nearest", "(I)I"⟩, 6) := ⟨⟨by decide +kernel, by decide +kernel⟩, List.mem_of_getElem? (i := 89) (by decide +kernel), List.mem_of_getElem? (i := 459) (by decide +kernel), List.mem_of_getElem? (i := 460) (by decide +kernel)⟩
theorem lw_p14 : lw_okq (⟨"MergedOutline$Merger", "undoRings", "()V"⟩, 6) := ⟨⟨by decide +kernel, by decide +kernel⟩, List.mem_of_getElem? (i := 89) (by decide +kernel), List.mem_of_getElem? (i := 463) (by decide +kernel), List.mem_of_getElem? (i := 464) (by decide +kernel)⟩
theorem lw_p15 : lw_okq (⟨"MergedOutline$Merger", "leastInRing", "()I"⟩, 6) := ⟨⟨by decide +kernel, by decide +kernel⟩, List.mem_of_getElem? (i := 89) (by decide +kernel), List.mem_of_getElem? (i := 467) (by decide +kernel), List.mem_of_getElem? (i := 468) (by decide +kernel)⟩
def lw_privs_1 : List (MethodName × Nat) := [(⟨"MergedOutline$Outline", "shift", "(III)V"⟩, 1), (⟨"MergedOutline", "settled", "(I)I"⟩, 10), (⟨"MergedOutline", "refuse", "(I)I"⟩, 10), (⟨"MergedOutline$History", "slot", "(I)LMergedOutline$Desk;"⟩, 3), (⟨"MergedOutline", "outline", "(I)LMergedOutline$Outline;"⟩, 10), (⟨"MergedOutline$Merger", "chooseSections", "()V"⟩, 6), (⟨"MergedOutline$Merger", "isChanged", "(ILMergedOutline$Outline;)Z"⟩, 6), (⟨"MergedOutline$Merger", "isOther", "(ILMergedOutline$Outline;I)Z"⟩, 6), (⟨"MergedOutline$Merger", "hasNewChild", "(ILMergedOutline$Outline;)Z"⟩, 6), (⟨"MergedOutline$Merger", "chooseTraits", "(II)V"⟩, 6), (⟨"MergedOutline$Merger", "sourceOf", "(II)LMergedOutline$Outline;"⟩, 6), (⟨"MergedOutline$Merger", "isDisputed", "(II)Z"⟩, 6), (⟨"MergedOutline$Merger", "rehang", "()V"⟩, 6), (⟨"MergedOutline$Merger", "nearest", "(I)I"⟩, 6), (⟨"MergedOutline$Merger", "undoRings", "()V"⟩, 6), (⟨"MergedOutline$Merger", "leastInRing", "()I"⟩, 6)]
theorem lw_r1 : ∀ q ∈ lw_privs_1, lw_okq q := List.forall_mem_cons.mpr ⟨lw_p0, List.forall_mem_cons.mpr ⟨lw_p1, List.forall_mem_cons.mpr ⟨lw_p2, List.forall_mem_cons.mpr ⟨lw_p3, List.forall_mem_cons.mpr ⟨lw_p4, List.forall_mem_cons.mpr ⟨lw_p5, List.forall_mem_cons.mpr ⟨lw_p6, List.forall_mem_cons.mpr ⟨lw_p7, List.forall_mem_cons.mpr ⟨lw_p8, List.forall_mem_cons.mpr ⟨lw_p9, List.forall_mem_cons.mpr ⟨lw_p10, List.forall_mem_cons.mpr ⟨lw_p11, List.forall_mem_cons.mpr ⟨lw_p12, List.forall_mem_cons.mpr ⟨lw_p13, List.forall_mem_cons.mpr ⟨lw_p14, List.forall_mem_cons.mpr ⟨lw_p15, fun _ h => absurd h List.not_mem_nil⟩⟩⟩⟩⟩⟩⟩⟩⟩⟩⟩⟩⟩⟩⟩⟩
theorem lw_p16 : lw_okq (⟨"MergedOutline$Merger", "leastToPutBack", "(I)I"⟩, 6) := ⟨⟨by decide +kernel, by decide +kernel⟩, List.mem_of_getElem? (i := 89) (by decide +kernel), List.mem_of_getElem? (i := 472) (by decide +kernel), List.mem_of_getElem? (i := 473) (by decide +kernel)⟩
theorem lw_p17 : lw_okq (⟨"MergedOutline$Merger", "isMoveOfOther", "(I)Z"⟩, 6) := ⟨⟨by decide +kernel, by decide +kernel⟩, List.mem_of_getElem? (i := 89) (by decide +kernel), List.mem_of_getElem? (i := 476) (by decide +kernel), List.mem_of_getElem? (i := 477) (by decide +kernel)⟩
theorem lw_p18 : lw_okq (⟨"MergedOutline$Merger", "rehangFromRing", "(II)V"⟩, 6) := ⟨⟨by decide +kernel, by decide +kernel⟩, List.mem_of_getElem? (i := 89) (by decide +kernel), List.mem_of_getElem? (i := 483) (by decide +kernel), List.mem_of_getElem? (i := 484) (by decide +kernel)⟩
theorem lw_p19 : lw_okq (⟨"MergedOutline$Merger", "orderChildren", "()V"⟩, 6) := ⟨⟨by decide +kernel, by decide +kernel⟩, List.mem_of_getElem? (i := 89) (by decide +kernel), List.mem_of_getElem? (i := 487) (by decide +kernel), List.mem_of_getElem? (i := 488) (by decide +kernel)⟩
theorem lw_p20 : lw_okq (⟨"MergedOutline$Merger", "keyOf", "(I)I"⟩, 6) := ⟨⟨by decide +kernel, by decide +kernel⟩, List.mem_of_getElem? (i := 89) (by decide +kernel), List.mem_of_getElem? (i := 491) (by decide +kernel), List.mem_of_getElem? (i := 492) (by decide +kernel)⟩
theorem lw_p21 : lw_okq (⟨"MergedOutline$Merger", "countAhead", "(I)I"⟩, 6) := ⟨⟨by decide +kernel, by decide +kernel⟩, List.mem_of_getElem? (i := 89) (by decide +kernel), List.mem_of_getElem? (i := 495) (by decide +kernel), List.mem_of_getElem? (i := 496) (by decide +kernel)⟩
theorem lw_p22 : lw_okq (⟨"MergedOutline$Merger", "isAhead", "(II)Z"⟩, 6) := ⟨⟨by decide +kernel, by decide +kernel⟩, List.mem_of_getElem? (i := 89) (by decide +kernel), List.mem_of_getElem? (i := 499) (by decide +kernel), List.mem_of_getElem? (i := 500) (by decide +kernel)⟩
theorem lw_p23 : lw_okq (⟨"MergedOutline$Outline", "depthOf", "(I)I"⟩, 1) := ⟨⟨by decide +kernel, by decide +kernel⟩, List.mem_of_getElem? (i := 29) (by decide +kernel), List.mem_of_getElem? (i := 549) (by decide +kernel), List.mem_of_getElem? (i := 550) (by decide +kernel)⟩
theorem lw_p24 : lw_okq (⟨"MergedOutline$Outline", "isSame", "(ILMergedOutline$Outline;)Z"⟩, 1) := ⟨⟨by decide +kernel, by decide +kernel⟩, List.mem_of_getElem? (i := 29) (by decide +kernel), List.mem_of_getElem? (i := 562) (by decide +kernel), List.mem_of_getElem? (i := 563) (by decide +kernel)⟩
theorem lw_p25 : lw_okq (⟨"MergedOutline$Script", "writeChange", "(LMergedOutline$Outline;LMergedOutline$Outline;III)V"⟩, 1) := ⟨⟨by decide +kernel, by decide +kernel⟩, List.mem_of_getElem? (i := 145) (by decide +kernel), List.mem_of_getElem? (i := 587) (by decide +kernel), List.mem_of_getElem? (i := 588) (by decide +kernel)⟩
theorem lw_p26 : lw_okq (⟨"MergedOutline$Matching", "pairAll", "(I)V"⟩, 3) := ⟨⟨by decide +kernel, by decide +kernel⟩, List.mem_of_getElem? (i := 158) (by decide +kernel), List.mem_of_getElem? (i := 606) (by decide +kernel), List.mem_of_getElem? (i := 607) (by decide +kernel)⟩
theorem lw_p27 : lw_okq (⟨"MergedOutline", "tellDesk", "(I)I"⟩, 10) := ⟨⟨by decide +kernel, by decide +kernel⟩, List.mem_of_getElem? (i := 15) (by decide +kernel), List.mem_of_getElem? (i := 619) (by decide +kernel), List.mem_of_getElem? (i := 620) (by decide +kernel)⟩
theorem lw_p28 : lw_okq (⟨"MergedOutline$Typed", "takes", "(I)Z"⟩, 8) := ⟨⟨by decide +kernel, by decide +kernel⟩, List.mem_of_getElem? (i := 174) (by decide +kernel), List.mem_of_getElem? (i := 651) (by decide +kernel), List.mem_of_getElem? (i := 652) (by decide +kernel)⟩
theorem lw_p29 : lw_okq (⟨"MergedOutline$Typed", "opens", "(I)Z"⟩, 8) := ⟨⟨by decide +kernel, by decide +kernel⟩, List.mem_of_getElem? (i := 174) (by decide +kernel), List.mem_of_getElem? (i := 655) (by decide +kernel), List.mem_of_getElem? (i := 656) (by decide +kernel)⟩
theorem lw_p30 : lw_okq (⟨"MergedOutline$Typed", "put", "(III)V"⟩, 8) := ⟨⟨by decide +kernel, by decide +kernel⟩, List.mem_of_getElem? (i := 174) (by decide +kernel), List.mem_of_getElem? (i := 662) (by decide +kernel), List.mem_of_getElem? (i := 663) (by decide +kernel)⟩
theorem lw_p31 : lw_okq (⟨"MergedOutline$Typed", "takesFigure", "(I)Z"⟩, 8) := ⟨⟨by decide +kernel, by decide +kernel⟩, List.mem_of_getElem? (i := 174) (by decide +kernel), List.mem_of_getElem? (i := 669) (by decide +kernel), List.mem_of_getElem? (i := 670) (by decide +kernel)⟩
def lw_privs_2 : List (MethodName × Nat) := [(⟨"MergedOutline$Merger", "leastToPutBack", "(I)I"⟩, 6), (⟨"MergedOutline$Merger", "isMoveOfOther", "(I)Z"⟩, 6), (⟨"MergedOutline$Merger", "rehangFromRing", "(II)V"⟩, 6), (⟨"MergedOutline$Merger", "orderChildren", "()V"⟩, 6), (⟨"MergedOutline$Merger", "keyOf", "(I)I"⟩, 6), (⟨"MergedOutline$Merger", "countAhead", "(I)I"⟩, 6), (⟨"MergedOutline$Merger", "isAhead", "(II)Z"⟩, 6), (⟨"MergedOutline$Outline", "depthOf", "(I)I"⟩, 1), (⟨"MergedOutline$Outline", "isSame", "(ILMergedOutline$Outline;)Z"⟩, 1), (⟨"MergedOutline$Script", "writeChange", "(LMergedOutline$Outline;LMergedOutline$Outline;III)V"⟩, 1), (⟨"MergedOutline$Matching", "pairAll", "(I)V"⟩, 3), (⟨"MergedOutline", "tellDesk", "(I)I"⟩, 10), (⟨"MergedOutline$Typed", "takes", "(I)Z"⟩, 8), (⟨"MergedOutline$Typed", "opens", "(I)Z"⟩, 8), (⟨"MergedOutline$Typed", "put", "(III)V"⟩, 8), (⟨"MergedOutline$Typed", "takesFigure", "(I)Z"⟩, 8)]
theorem lw_r2 : ∀ q ∈ lw_privs_2, lw_okq q := List.forall_mem_cons.mpr ⟨lw_p16, List.forall_mem_cons.mpr ⟨lw_p17, List.forall_mem_cons.mpr ⟨lw_p18, List.forall_mem_cons.mpr ⟨lw_p19, List.forall_mem_cons.mpr ⟨lw_p20, List.forall_mem_cons.mpr ⟨lw_p21, List.forall_mem_cons.mpr ⟨lw_p22, List.forall_mem_cons.mpr ⟨lw_p23, List.forall_mem_cons.mpr ⟨lw_p24, List.forall_mem_cons.mpr ⟨lw_p25, List.forall_mem_cons.mpr ⟨lw_p26, List.forall_mem_cons.mpr ⟨lw_p27, List.forall_mem_cons.mpr ⟨lw_p28, List.forall_mem_cons.mpr ⟨lw_p29, List.forall_mem_cons.mpr ⟨lw_p30, List.forall_mem_cons.mpr ⟨lw_p31, fun _ h => absurd h List.not_mem_nil⟩⟩⟩⟩⟩⟩⟩⟩⟩⟩⟩⟩⟩⟩⟩⟩
theorem lw_p32 : lw_okq (⟨"MergedOutline$Typed", "closes", "()Z"⟩, 8) := ⟨⟨by decide +kernel, by decide +kernel⟩, List.mem_of_getElem? (i := 174) (by decide +kernel), List.mem_of_getElem? (i := 677) (by decide +kernel), List.mem_of_getElem? (i := 678) (by decide +kernel)⟩
theorem lw_p33 : lw_okq (⟨"MergedOutline", "perform", "(I)I"⟩, 10) := ⟨⟨by decide +kernel, by decide +kernel⟩, List.mem_of_getElem? (i := 15) (by decide +kernel), List.mem_of_getElem? (i := 681) (by decide +kernel), List.mem_of_getElem? (i := 682) (by decide +kernel)⟩
theorem lw_p34 : lw_okq (⟨"MergedOutline", "tellCount", "(I)I"⟩, 10) := ⟨⟨by decide +kernel, by decide +kernel⟩, List.mem_of_getElem? (i := 15) (by decide +kernel), List.mem_of_getElem? (i := 698) (by decide +kernel), List.mem_of_getElem? (i := 699) (by decide +kernel)⟩
theorem lw_p35 : lw_okq (⟨"MergedOutlineModel", "save", "()V"⟩, 22) := ⟨⟨by decide +kernel, by decide +kernel⟩, List.mem_of_getElem? (i := 717) (by decide +kernel), List.mem_of_getElem? (i := 794) (by decide +kernel), List.mem_of_getElem? (i := 795) (by decide +kernel)⟩
theorem lw_p36 : lw_okq (⟨"MergedOutlineModel", "add", "(IIIII)I"⟩, 22) := ⟨⟨by decide +kernel, by decide +kernel⟩, List.mem_of_getElem? (i := 717) (by decide +kernel), List.mem_of_getElem? (i := 801) (by decide +kernel), List.mem_of_getElem? (i := 802) (by decide +kernel)⟩
theorem lw_p37 : lw_okq (⟨"MergedOutlineModel", "isThere", "(II)Z"⟩, 22) := ⟨⟨by decide +kernel, by decide +kernel⟩, List.mem_of_getElem? (i := 717) (by decide +kernel), List.mem_of_getElem? (i := 811) (by decide +kernel), List.mem_of_getElem? (i := 812) (by decide +kernel)⟩
theorem lw_p38 : lw_okq (⟨"MergedOutlineModel", "isIn", "(II)Z"⟩, 22) := ⟨⟨by decide +kernel, by decide +kernel⟩, List.mem_of_getElem? (i := 717) (by decide +kernel), List.mem_of_getElem? (i := 815) (by decide +kernel), List.mem_of_getElem? (i := 816) (by decide +kernel)⟩
theorem lw_p39 : lw_okq (⟨"MergedOutlineModel", "childrenOf", "(II)I"⟩, 22) := ⟨⟨by decide +kernel, by decide +kernel⟩, List.mem_of_getElem? (i := 717) (by decide +kernel), List.mem_of_getElem? (i := 819) (by decide +kernel), List.mem_of_getElem? (i := 820) (by decide +kernel)⟩
theorem lw_p40 : lw_okq (⟨"MergedOutlineModel", "parentOf", "(II)I"⟩, 22) := ⟨⟨by decide +kernel, by decide +kernel⟩, List.mem_of_getElem? (i := 717) (by decide +kernel), List.mem_of_getElem? (i := 823) (by decide +kernel), List.mem_of_getElem? (i := 824) (by decide +kernel)⟩
theorem lw_p41 : lw_okq (⟨"MergedOutlineModel", "hang", "(IIII)V"⟩, 22) := ⟨⟨by decide +kernel, by decide +kernel⟩, List.mem_of_getElem? (i := 717) (by decide +kernel), List.mem_of_getElem? (i := 830) (by decide +kernel), List.mem_of_getElem? (i := 831) (by decide +kernel)⟩
theorem lw_p42 : lw_okq (⟨"MergedOutlineModel", "push", "(IIII)V"⟩, 22) := ⟨⟨by decide +kernel, by decide +kernel⟩, List.mem_of_getElem? (i := 717) (by decide +kernel), List.mem_of_getElem? (i := 834) (by decide +kernel), List.mem_of_getElem? (i := 835) (by decide +kernel)⟩
theorem lw_p43 : lw_okq (⟨"MergedOutlineModel", "placeOf", "(II)I"⟩, 22) := ⟨⟨by decide +kernel, by decide +kernel⟩, List.mem_of_getElem? (i := 717) (by decide +kernel), List.mem_of_getElem? (i := 838) (by decide +kernel), List.mem_of_getElem? (i := 839) (by decide +kernel)⟩
theorem lw_p44 : lw_okq (⟨"MergedOutlineModel", "finish", "(I)I"⟩, 22) := ⟨⟨by decide +kernel, by decide +kernel⟩, List.mem_of_getElem? (i := 717) (by decide +kernel), List.mem_of_getElem? (i := 842) (by decide +kernel), List.mem_of_getElem? (i := 843) (by decide +kernel)⟩
theorem lw_p45 : lw_okq (⟨"MergedOutlineModel", "refuse", "(I)I"⟩, 22) := ⟨⟨by decide +kernel, by decide +kernel⟩, List.mem_of_getElem? (i := 717) (by decide +kernel), List.mem_of_getElem? (i := 849) (by decide +kernel), List.mem_of_getElem? (i := 850) (by decide +kernel)⟩
theorem lw_p46 : lw_okq (⟨"MergedOutlineModel", "move", "(IIII)I"⟩, 22) := ⟨⟨by decide +kernel, by decide +kernel⟩, List.mem_of_getElem? (i := 717) (by decide +kernel), List.mem_of_getElem? (i := 857) (by decide +kernel), List.mem_of_getElem? (i := 858) (by decide +kernel)⟩
theorem lw_p47 : lw_okq (⟨"MergedOutlineModel", "belowOf", "(II)I"⟩, 22) := ⟨⟨by decide +kernel, by decide +kernel⟩, List.mem_of_getElem? (i := 717) (by decide +kernel), List.mem_of_getElem? (i := 861) (by decide +kernel), List.mem_of_getElem? (i := 862) (by decide +kernel)⟩
def lw_privs_3 : List (MethodName × Nat) := [(⟨"MergedOutline$Typed", "closes", "()Z"⟩, 8), (⟨"MergedOutline", "perform", "(I)I"⟩, 10), (⟨"MergedOutline", "tellCount", "(I)I"⟩, 10), (⟨"MergedOutlineModel", "save", "()V"⟩, 22), (⟨"MergedOutlineModel", "add", "(IIIII)I"⟩, 22), (⟨"MergedOutlineModel", "isThere", "(II)Z"⟩, 22), (⟨"MergedOutlineModel", "isIn", "(II)Z"⟩, 22), (⟨"MergedOutlineModel", "childrenOf", "(II)I"⟩, 22), (⟨"MergedOutlineModel", "parentOf", "(II)I"⟩, 22), (⟨"MergedOutlineModel", "hang", "(IIII)V"⟩, 22), (⟨"MergedOutlineModel", "push", "(IIII)V"⟩, 22), (⟨"MergedOutlineModel", "placeOf", "(II)I"⟩, 22), (⟨"MergedOutlineModel", "finish", "(I)I"⟩, 22), (⟨"MergedOutlineModel", "refuse", "(I)I"⟩, 22), (⟨"MergedOutlineModel", "move", "(IIII)I"⟩, 22), (⟨"MergedOutlineModel", "belowOf", "(II)I"⟩, 22)]
theorem lw_r3 : ∀ q ∈ lw_privs_3, lw_okq q := List.forall_mem_cons.mpr ⟨lw_p32, List.forall_mem_cons.mpr ⟨lw_p33, List.forall_mem_cons.mpr ⟨lw_p34, List.forall_mem_cons.mpr ⟨lw_p35, List.forall_mem_cons.mpr ⟨lw_p36, List.forall_mem_cons.mpr ⟨lw_p37, List.forall_mem_cons.mpr ⟨lw_p38, List.forall_mem_cons.mpr ⟨lw_p39, List.forall_mem_cons.mpr ⟨lw_p40, List.forall_mem_cons.mpr ⟨lw_p41, List.forall_mem_cons.mpr ⟨lw_p42, List.forall_mem_cons.mpr ⟨lw_p43, List.forall_mem_cons.mpr ⟨lw_p44, List.forall_mem_cons.mpr ⟨lw_p45, List.forall_mem_cons.mpr ⟨lw_p46, List.forall_mem_cons.mpr ⟨lw_p47, fun _ h => absurd h List.not_mem_nil⟩⟩⟩⟩⟩⟩⟩⟩⟩⟩⟩⟩⟩⟩⟩⟩
theorem lw_p48 : lw_okq (⟨"MergedOutlineModel", "unhang", "(II)V"⟩, 22) := ⟨⟨by decide +kernel, by decide +kernel⟩, List.mem_of_getElem? (i := 717) (by decide +kernel), List.mem_of_getElem? (i := 865) (by decide +kernel), List.mem_of_getElem? (i := 866) (by decide +kernel)⟩
theorem lw_p49 : lw_okq (⟨"MergedOutlineModel", "put", "(IIII)I"⟩, 22) := ⟨⟨by decide +kernel, by decide +kernel⟩, List.mem_of_getElem? (i := 717) (by decide +kernel), List.mem_of_getElem? (i := 873) (by decide +kernel), List.mem_of_getElem? (i := 874) (by decide +kernel)⟩
theorem lw_p50 : lw_okq (⟨"MergedOutlineModel", "delete", "(II)I"⟩, 22) := ⟨⟨by decide +kernel, by decide +kernel⟩, List.mem_of_getElem? (i := 717) (by decide +kernel), List.mem_of_getElem? (i := 885) (by decide +kernel), List.mem_of_getElem? (i := 886) (by decide +kernel)⟩
theorem lw_p51 : lw_okq (⟨"MergedOutlineModel", "fork", "()I"⟩, 22) := ⟨⟨by decide +kernel, by decide +kernel⟩, List.mem_of_getElem? (i := 717) (by decide +kernel), List.mem_of_getElem? (i := 896) (by decide +kernel), List.mem_of_getElem? (i := 897) (by decide +kernel)⟩
theorem lw_p52 : lw_okq (⟨"MergedOutlineModel", "manyIn", "(I)I"⟩, 22) := ⟨⟨by decide +kernel, by decide +kernel⟩, List.mem_of_getElem? (i := 717) (by decide +kernel), List.mem_of_getElem? (i := 900) (by decide +kernel), List.mem_of_getElem? (i := 901) (by decide +kernel)⟩
theorem lw_p53 : lw_okq (⟨"MergedOutlineModel", "prefer", "(I)I"⟩, 22) := ⟨⟨by decide +kernel, by decide +kernel⟩, List.mem_of_getElem? (i := 717) (by decide +kernel), List.mem_of_getElem? (i := 908) (by decide +kernel), List.mem_of_getElem? (i := 909) (by decide +kernel)⟩
theorem lw_p54 : lw_okq (⟨"MergedOutlineModel", "merge", "()V"⟩, 22) := ⟨⟨by decide +kernel, by decide +kernel⟩, List.mem_of_getElem? (i := 717) (by decide +kernel), List.mem_of_getElem? (i := 916) (by decide +kernel), List.mem_of_getElem? (i := 917) (by decide +kernel)⟩
theorem lw_p55 : lw_okq (⟨"MergedOutlineModel", "mergeIn", "(I)V"⟩, 22) := ⟨⟨by decide +kernel, by decide +kernel⟩, List.mem_of_getElem? (i := 717) (by decide +kernel), List.mem_of_getElem? (i := 920) (by decide +kernel), List.mem_of_getElem? (i := 921) (by decide +kernel)⟩
theorem lw_p56 : lw_okq (⟨"MergedOutlineModel", "isChanged", "(II)Z"⟩, 22) := ⟨⟨by decide +kernel, by decide +kernel⟩, List.mem_of_getElem? (i := 717) (by decide +kernel), List.mem_of_getElem? (i := 924) (by decide +kernel), List.mem_of_getElem? (i := 925) (by decide +kernel)⟩
theorem lw_p57 : lw_okq (⟨"MergedOutlineModel", "nameOf", "(II)I"⟩, 22) := ⟨⟨by decide +kernel, by decide +kernel⟩, List.mem_of_getElem? (i := 717) (by decide +kernel), List.mem_of_getElem? (i := 928) (by decide +kernel), List.mem_of_getElem? (i := 929) (by decide +kernel)⟩
theorem lw_p58 : lw_okq (⟨"MergedOutlineModel", "textOf", "(II)I"⟩, 22) := ⟨⟨by decide +kernel, by decide +kernel⟩, List.mem_of_getElem? (i := 717) (by decide +kernel), List.mem_of_getElem? (i := 932) (by decide +kernel), List.mem_of_getElem? (i := 933) (by decide +kernel)⟩
theorem lw_p59 : lw_okq (⟨"MergedOutlineModel", "conflict", "(III)V"⟩, 22) := ⟨⟨by decide +kernel, by decide +kernel⟩, List.mem_of_getElem? (i := 717) (by decide +kernel), List.mem_of_getElem? (i := 936) (by decide +kernel), List.mem_of_getElem? (i := 937) (by decide +kernel)⟩
theorem lw_p60 : lw_okq (⟨"MergedOutlineModel", "settle", "(III)V"⟩, 22) := ⟨⟨by decide +kernel, by decide +kernel⟩, List.mem_of_getElem? (i := 717) (by decide +kernel), List.mem_of_getElem? (i := 940) (by decide +kernel), List.mem_of_getElem? (i := 941) (by decide +kernel)⟩
theorem lw_p61 : lw_okq (⟨"MergedOutlineModel", "nearest", "(I)I"⟩, 22) := ⟨⟨by decide +kernel, by decide +kernel⟩, List.mem_of_getElem? (i := 717) (by decide +kernel), List.mem_of_getElem? (i := 944) (by decide +kernel), List.mem_of_getElem? (i := 945) (by decide +kernel)⟩
theorem lw_p62 : lw_okq (⟨"MergedOutlineModel", "breakRings", "()V"⟩, 22) := ⟨⟨by decide +kernel, by decide +kernel⟩, List.mem_of_getElem? (i := 717) (by decide +kernel), List.mem_of_getElem? (i := 948) (by decide +kernel), List.mem_of_getElem? (i := 949) (by decide +kernel)⟩
theorem lw_p63 : lw_okq (⟨"MergedOutlineModel", "isOnRing", "(I)Z"⟩, 22) := ⟨⟨by decide +kernel, by decide +kernel⟩, List.mem_of_getElem? (i := 717) (by decide +kernel), List.mem_of_getElem? (i := 952) (by decide +kernel), List.mem_of_getElem? (i := 953) (by decide +kernel)⟩
def lw_privs_4 : List (MethodName × Nat) := [(⟨"MergedOutlineModel", "unhang", "(II)V"⟩, 22), (⟨"MergedOutlineModel", "put", "(IIII)I"⟩, 22), (⟨"MergedOutlineModel", "delete", "(II)I"⟩, 22), (⟨"MergedOutlineModel", "fork", "()I"⟩, 22), (⟨"MergedOutlineModel", "manyIn", "(I)I"⟩, 22), (⟨"MergedOutlineModel", "prefer", "(I)I"⟩, 22), (⟨"MergedOutlineModel", "merge", "()V"⟩, 22), (⟨"MergedOutlineModel", "mergeIn", "(I)V"⟩, 22), (⟨"MergedOutlineModel", "isChanged", "(II)Z"⟩, 22), (⟨"MergedOutlineModel", "nameOf", "(II)I"⟩, 22), (⟨"MergedOutlineModel", "textOf", "(II)I"⟩, 22), (⟨"MergedOutlineModel", "conflict", "(III)V"⟩, 22), (⟨"MergedOutlineModel", "settle", "(III)V"⟩, 22), (⟨"MergedOutlineModel", "nearest", "(I)I"⟩, 22), (⟨"MergedOutlineModel", "breakRings", "()V"⟩, 22), (⟨"MergedOutlineModel", "isOnRing", "(I)Z"⟩, 22)]
theorem lw_r4 : ∀ q ∈ lw_privs_4, lw_okq q := List.forall_mem_cons.mpr ⟨lw_p48, List.forall_mem_cons.mpr ⟨lw_p49, List.forall_mem_cons.mpr ⟨lw_p50, List.forall_mem_cons.mpr ⟨lw_p51, List.forall_mem_cons.mpr ⟨lw_p52, List.forall_mem_cons.mpr ⟨lw_p53, List.forall_mem_cons.mpr ⟨lw_p54, List.forall_mem_cons.mpr ⟨lw_p55, List.forall_mem_cons.mpr ⟨lw_p56, List.forall_mem_cons.mpr ⟨lw_p57, List.forall_mem_cons.mpr ⟨lw_p58, List.forall_mem_cons.mpr ⟨lw_p59, List.forall_mem_cons.mpr ⟨lw_p60, List.forall_mem_cons.mpr ⟨lw_p61, List.forall_mem_cons.mpr ⟨lw_p62, List.forall_mem_cons.mpr ⟨lw_p63, fun _ h => absurd h List.not_mem_nil⟩⟩⟩⟩⟩⟩⟩⟩⟩⟩⟩⟩⟩⟩⟩⟩
theorem lw_p64 : lw_okq (⟨"MergedOutlineModel", "ringFrom", "(I)I"⟩, 22) := ⟨⟨by decide +kernel, by decide +kernel⟩, List.mem_of_getElem? (i := 717) (by decide +kernel), List.mem_of_getElem? (i := 956) (by decide +kernel), List.mem_of_getElem? (i := 957) (by decide +kernel)⟩
theorem lw_p65 : lw_okq (⟨"MergedOutlineModel", "keyOf", "(I)I"⟩, 22) := ⟨⟨by decide +kernel, by decide +kernel⟩, List.mem_of_getElem? (i := 717) (by decide +kernel), List.mem_of_getElem? (i := 960) (by decide +kernel), List.mem_of_getElem? (i := 961) (by decide +kernel)⟩
theorem lw_p66 : lw_okq (⟨"MergedOutlineModel", "isAsked", "(I)Z"⟩, 22) := ⟨⟨by decide +kernel, by decide +kernel⟩, List.mem_of_getElem? (i := 717) (by decide +kernel), List.mem_of_getElem? (i := 968) (by decide +kernel), List.mem_of_getElem? (i := 969) (by decide +kernel)⟩
theorem lw_p67 : lw_okq (⟨"MergedOutlineModel", "ofSection", "(III)I"⟩, 22) := ⟨⟨by decide +kernel, by decide +kernel⟩, List.mem_of_getElem? (i := 717) (by decide +kernel), List.mem_of_getElem? (i := 976) (by decide +kernel), List.mem_of_getElem? (i := 977) (by decide +kernel)⟩
theorem lw_p68 : lw_okq (⟨"MergedOutlineModel", "walkAll", "(I)I"⟩, 22) := ⟨⟨by decide +kernel, by decide +kernel⟩, List.mem_of_getElem? (i := 717) (by decide +kernel), List.mem_of_getElem? (i := 984) (by decide +kernel), List.mem_of_getElem? (i := 985) (by decide +kernel)⟩
theorem lw_p69 : lw_okq (⟨"MergedOutlineModel", "deepOf", "(I)I"⟩, 22) := ⟨⟨by decide +kernel, by decide +kernel⟩, List.mem_of_getElem? (i := 717) (by decide +kernel), List.mem_of_getElem? (i := 992) (by decide +kernel), List.mem_of_getElem? (i := 993) (by decide +kernel)⟩
theorem lw_p70 : lw_okq (⟨"MergedOutlineModel", "layScript", "(I)V"⟩, 22) := ⟨⟨by decide +kernel, by decide +kernel⟩, List.mem_of_getElem? (i := 717) (by decide +kernel), List.mem_of_getElem? (i := 1008) (by decide +kernel), List.mem_of_getElem? (i := 1009) (by decide +kernel)⟩
theorem lw_p71 : lw_okq (⟨"MergedOutlineModel", "step", "(II)V"⟩, 22) := ⟨⟨by decide +kernel, by decide +kernel⟩, List.mem_of_getElem? (i := 717) (by decide +kernel), List.mem_of_getElem? (i := 1012) (by decide +kernel), List.mem_of_getElem? (i := 1013) (by decide +kernel)⟩
theorem lw_p72 : lw_okq (⟨"MergedOutlineModel", "layMatches", "(I)V"⟩, 22) := ⟨⟨by decide +kernel, by decide +kernel⟩, List.mem_of_getElem? (i := 717) (by decide +kernel), List.mem_of_getElem? (i := 1020) (by decide +kernel), List.mem_of_getElem? (i := 1021) (by decide +kernel)⟩
theorem lw_p73 : lw_okq (⟨"MergedOutlineModel", "scoreOf", "(III)I"⟩, 22) := ⟨⟨by decide +kernel, by decide +kernel⟩, List.mem_of_getElem? (i := 717) (by decide +kernel), List.mem_of_getElem? (i := 1024) (by decide +kernel), List.mem_of_getElem? (i := 1025) (by decide +kernel)⟩
theorem lw_p74 : lw_okq (⟨"MergedOutlineModel", "toldOf", "(I)I"⟩, 22) := ⟨⟨by decide +kernel, by decide +kernel⟩, List.mem_of_getElem? (i := 717) (by decide +kernel), List.mem_of_getElem? (i := 1032) (by decide +kernel), List.mem_of_getElem? (i := 1033) (by decide +kernel)⟩
theorem lw_p75 : lw_okq (⟨"MergedOutlineModel", "strangers", "(I)I"⟩, 22) := ⟨⟨by decide +kernel, by decide +kernel⟩, List.mem_of_getElem? (i := 717) (by decide +kernel), List.mem_of_getElem? (i := 1036) (by decide +kernel), List.mem_of_getElem? (i := 1037) (by decide +kernel)⟩
theorem lw_p76 : lw_okq (⟨"MergedOutlineModel", "readText", "()I"⟩, 22) := ⟨⟨by decide +kernel, by decide +kernel⟩, List.mem_of_getElem? (i := 717) (by decide +kernel), List.mem_of_getElem? (i := 1052) (by decide +kernel), List.mem_of_getElem? (i := 1053) (by decide +kernel)⟩
theorem lw_p77 : lw_okq (⟨"MergedOutlineModel", "readByte", "(I)Z"⟩, 22) := ⟨⟨by decide +kernel, by decide +kernel⟩, List.mem_of_getElem? (i := 717) (by decide +kernel), List.mem_of_getElem? (i := 1056) (by decide +kernel), List.mem_of_getElem? (i := 1057) (by decide +kernel)⟩
theorem lw_p78 : lw_okq (⟨"MergedOutlineModel", "doOrder", "(I)I"⟩, 22) := ⟨⟨by decide +kernel, by decide +kernel⟩, List.mem_of_getElem? (i := 717) (by decide +kernel), List.mem_of_getElem? (i := 1063) (by decide +kernel), List.mem_of_getElem? (i := 1064) (by decide +kernel)⟩
theorem lw_p79 : lw_okq (⟨"MergedOutlineModel", "numberOf", "(II)I"⟩, 22) := ⟨⟨by decide +kernel, by decide +kernel⟩, List.mem_of_getElem? (i := 717) (by decide +kernel), List.mem_of_getElem? (i := 1067) (by decide +kernel), List.mem_of_getElem? (i := 1068) (by decide +kernel)⟩
def lw_privs_5 : List (MethodName × Nat) := [(⟨"MergedOutlineModel", "ringFrom", "(I)I"⟩, 22), (⟨"MergedOutlineModel", "keyOf", "(I)I"⟩, 22), (⟨"MergedOutlineModel", "isAsked", "(I)Z"⟩, 22), (⟨"MergedOutlineModel", "ofSection", "(III)I"⟩, 22), (⟨"MergedOutlineModel", "walkAll", "(I)I"⟩, 22), (⟨"MergedOutlineModel", "deepOf", "(I)I"⟩, 22), (⟨"MergedOutlineModel", "layScript", "(I)V"⟩, 22), (⟨"MergedOutlineModel", "step", "(II)V"⟩, 22), (⟨"MergedOutlineModel", "layMatches", "(I)V"⟩, 22), (⟨"MergedOutlineModel", "scoreOf", "(III)I"⟩, 22), (⟨"MergedOutlineModel", "toldOf", "(I)I"⟩, 22), (⟨"MergedOutlineModel", "strangers", "(I)I"⟩, 22), (⟨"MergedOutlineModel", "readText", "()I"⟩, 22), (⟨"MergedOutlineModel", "readByte", "(I)Z"⟩, 22), (⟨"MergedOutlineModel", "doOrder", "(I)I"⟩, 22), (⟨"MergedOutlineModel", "numberOf", "(II)I"⟩, 22)]
theorem lw_r5 : ∀ q ∈ lw_privs_5, lw_okq q := List.forall_mem_cons.mpr ⟨lw_p64, List.forall_mem_cons.mpr ⟨lw_p65, List.forall_mem_cons.mpr ⟨lw_p66, List.forall_mem_cons.mpr ⟨lw_p67, List.forall_mem_cons.mpr ⟨lw_p68, List.forall_mem_cons.mpr ⟨lw_p69, List.forall_mem_cons.mpr ⟨lw_p70, List.forall_mem_cons.mpr ⟨lw_p71, List.forall_mem_cons.mpr ⟨lw_p72, List.forall_mem_cons.mpr ⟨lw_p73, List.forall_mem_cons.mpr ⟨lw_p74, List.forall_mem_cons.mpr ⟨lw_p75, List.forall_mem_cons.mpr ⟨lw_p76, List.forall_mem_cons.mpr ⟨lw_p77, List.forall_mem_cons.mpr ⟨lw_p78, List.forall_mem_cons.mpr ⟨lw_p79, fun _ h => absurd h List.not_mem_nil⟩⟩⟩⟩⟩⟩⟩⟩⟩⟩⟩⟩⟩⟩⟩⟩
theorem lw_p80 : lw_okq (⟨"MergedOutlineModel", "refusedOf", "(I)I"⟩, 22) := ⟨⟨by decide +kernel, by decide +kernel⟩, List.mem_of_getElem? (i := 717) (by decide +kernel), List.mem_of_getElem? (i := 1079) (by decide +kernel), List.mem_of_getElem? (i := 1080) (by decide +kernel)⟩
def lw_privs_6 : List (MethodName × Nat) := [(⟨"MergedOutlineModel", "refusedOf", "(I)I"⟩, 22)]
theorem lw_r6 : ∀ q ∈ lw_privs_6, lw_okq q := List.forall_mem_cons.mpr ⟨lw_p80, fun _ h => absurd h List.not_mem_nil⟩
def lw_privs : List (MethodName × Nat) := lw_privs_1 ++ (lw_privs_2 ++ (lw_privs_3 ++ (lw_privs_4 ++ (lw_privs_5 ++ (lw_privs_6)))))
def lw_tbl : List Cond := k2_sels lw_privs ++ tables_1
theorem lw_privs_ok : ∀ q ∈ lw_privs, lw_okq q := by
  show ∀ q ∈ lw_privs_1 ++ (lw_privs_2 ++ (lw_privs_3 ++ (lw_privs_4 ++ (lw_privs_5 ++ (lw_privs_6))))), lw_okq q
  exact List.forall_mem_append.mpr ⟨lw_r1, List.forall_mem_append.mpr ⟨lw_r2, List.forall_mem_append.mpr ⟨lw_r3, List.forall_mem_append.mpr ⟨lw_r4, List.forall_mem_append.mpr ⟨lw_r5, lw_r6⟩⟩⟩⟩⟩
-- ===== end of PART A; then your names; then what follows =====
end
section
/-! ===== BEGIN printed: names, fields, word lists, decode rows ===== -/
def RX0 : String := "MergedOutline$Desk"
def TX0 : u_T := fun k => match k with
  | 0 => ("MergedOutline$Desk", "base", "LMergedOutline$Outline;", true)
  | 1 => ("MergedOutline$Desk", "left", "LMergedOutline$Outline;", true)
  | 2 => ("MergedOutline$Desk", "right", "LMergedOutline$Outline;", true)
  | 3 => ("MergedOutline$Desk", "preferred", "I", false)
  | _ => ("MergedOutline$Desk", "free", "I", false)
def tyX0 : Nat → FieldType := fun k => match k with
  | 0 => .object "MergedOutline$Outline"
  | 1 => .object "MergedOutline$Outline"
  | 2 => .object "MergedOutline$Outline"
  | 3 => .int
  | _ => .int
abbrev wsX00 : List Cond := u_ws RX0 TX0 5
theorem nmX0 : ∀ a, a < 5 → ∀ b, b < 5 → a ≠ b → (TX0 a).2.1 ≠ (TX0 b).2.1 := by decide +kernel
theorem tyX0_ok : ∀ k, k < 5 → parseFieldDescriptor (TX0 k).2.2.1 = some (tyX0 k) := by decide +kernel
abbrev cX0_init : ByteArray := prog_2_method_1_code
def yX0_init : MethodName := ⟨RX0, "<init>", "()V"⟩
abbrev cX0_copyFrom : ByteArray := prog_2_method_2_code
def yX0_copyFrom : MethodName := ⟨RX0, "copyFrom", "(LMergedOutline$Desk;)V"⟩
abbrev cX0_outline : ByteArray := prog_2_method_3_code
def yX0_outline : MethodName := ⟨RX0, "outline", "(I)LMergedOutline$Outline;"⟩
abbrev cX0_preferredSide : ByteArray := prog_2_method_4_code
def yX0_preferredSide : MethodName := ⟨RX0, "preferredSide", "()LMergedOutline$Outline;"⟩
abbrev cX0_otherSide : ByteArray := prog_2_method_5_code
def yX0_otherSide : MethodName := ⟨RX0, "otherSide", "()LMergedOutline$Outline;"⟩
abbrev cX0_add : ByteArray := prog_2_method_6_code
def yX0_add : MethodName := ⟨RX0, "add", "(IIIII)I"⟩
abbrev cX0_move : ByteArray := prog_2_method_7_code
def yX0_move : MethodName := ⟨RX0, "move", "(IIII)I"⟩
abbrev cX0_retell : ByteArray := prog_2_method_8_code
def yX0_retell : MethodName := ⟨RX0, "retell", "(IIII)I"⟩
abbrev cX0_delete : ByteArray := prog_2_method_9_code
def yX0_delete : MethodName := ⟨RX0, "delete", "(II)I"⟩
abbrev cX0_fork : ByteArray := prog_2_method_10_code
def yX0_fork : MethodName := ⟨RX0, "fork", "()I"⟩
abbrev cX0_prefer : ByteArray := prog_2_method_11_code
def yX0_prefer : MethodName := ⟨RX0, "prefer", "(I)I"⟩
abbrev cX0_adopt : ByteArray := prog_2_method_12_code
def yX0_adopt : MethodName := ⟨RX0, "adopt", "(LMergedOutline$Outline;)I"⟩
def RX1 : String := "MergedOutline$History"
def TX1 : u_T := fun k => match k with
  | 0 => ("MergedOutline$History", "kept", "[LMergedOutline$Desk;", true)
  | 1 => ("MergedOutline$History", "next", "I", false)
  | _ => ("MergedOutline$History", "count", "I", false)
def tyX1 : Nat → FieldType := fun k => match k with
  | 0 => .array (.object "MergedOutline$Desk")
  | 1 => .int
  | _ => .int
abbrev wsX10 : List Cond := u_ws RX1 TX1 3
theorem nmX1 : ∀ a, a < 3 → ∀ b, b < 3 → a ≠ b → (TX1 a).2.1 ≠ (TX1 b).2.1 := by decide +kernel
theorem tyX1_ok : ∀ k, k < 3 → parseFieldDescriptor (TX1 k).2.2.1 = some (tyX1 k) := by decide +kernel
abbrev cX1_init : ByteArray := prog_3_method_1_code
def yX1_init : MethodName := ⟨RX1, "<init>", "()V"⟩
abbrev cX1_keep : ByteArray := prog_3_method_2_code
def yX1_keep : MethodName := ⟨RX1, "keep", "(LMergedOutline$Desk;)V"⟩
abbrev cX1_takeBack : ByteArray := prog_3_method_3_code
def yX1_takeBack : MethodName := ⟨RX1, "takeBack", "(LMergedOutline$Desk;)V"⟩
abbrev cX1_slot : ByteArray := prog_3_method_4_code
def yX1_slot : MethodName := ⟨RX1, "slot", "(I)LMergedOutline$Desk;"⟩
def RX2 : String := "MergedOutline$Matching"
def TX2 : u_T := fun k => match k with
  | 0 => ("MergedOutline$Matching", "scores", "[I", true)
  | 1 => ("MergedOutline$Matching", "partners", "[I", true)
  | _ => ("MergedOutline$Matching", "taken", "[Z", true)
def tyX2 : Nat → FieldType := fun k => match k with
  | 0 => .array .int
  | 1 => .array .int
  | _ => .array .boolean
abbrev wsX20 : List Cond := u_ws RX2 TX2 3
theorem nmX2 : ∀ a, a < 3 → ∀ b, b < 3 → a ≠ b → (TX2 a).2.1 ≠ (TX2 b).2.1 := by decide +kernel
theorem tyX2_ok : ∀ k, k < 3 → parseFieldDescriptor (TX2 k).2.2.1 = some (tyX2 k) := by decide +kernel
abbrev cX2_init : ByteArray := prog_4_method_1_code
def yX2_init : MethodName := ⟨RX2, "<init>", "()V"⟩
abbrev cX2_match : ByteArray := prog_4_method_2_code
def yX2_match : MethodName := ⟨RX2, "match", "(LMergedOutline$Outline;LMergedOutline$Outline;)V"⟩
abbrev cX2_score : ByteArray := prog_4_method_3_code
def yX2_score : MethodName := ⟨RX2, "score", "(LMergedOutline$Outline;ILMergedOutline$Outline;I)I"⟩
abbrev cX2_pairAll : ByteArray := prog_4_method_4_code
def yX2_pairAll : MethodName := ⟨RX2, "pairAll", "(I)V"⟩
abbrev cX2_partnerOf : ByteArray := prog_4_method_5_code
def yX2_partnerOf : MethodName := ⟨RX2, "partnerOf", "(I)I"⟩
abbrev cX2_countStrangers : ByteArray := prog_4_method_6_code
def yX2_countStrangers : MethodName := ⟨RX2, "countStrangers", "()I"⟩
def RX3 : String := "MergedOutline$Merger"
def TX3 : u_T := fun k => match k with
  | 0 => ("MergedOutline$Merger", "desk", "LMergedOutline$Desk;", true)
  | 1 => ("MergedOutline$Merger", "merged", "LMergedOutline$Outline;", true)
  | 2 => ("MergedOutline$Merger", "conflictRows", "LMergedOutline$Table;", true)
  | 3 => ("MergedOutline$Merger", "putBack", "[Z", true)
  | 4 => ("MergedOutline$Merger", "keys", "[I", true)
  | _ => ("MergedOutline$Merger", "isOld", "Z", false)
def tyX3 : Nat → FieldType := fun k => match k with
  | 0 => .object "MergedOutline$Desk"
  | 1 => .object "MergedOutline$Outline"
  | 2 => .object "MergedOutline$Table"
  | 3 => .array .boolean
  | 4 => .array .int
  | _ => .boolean
abbrev wsX30 : List Cond := u_ws RX3 TX3 6
theorem nmX3 : ∀ a, a < 6 → ∀ b, b < 6 → a ≠ b → (TX3 a).2.1 ≠ (TX3 b).2.1 := by decide +kernel
theorem tyX3_ok : ∀ k, k < 6 → parseFieldDescriptor (TX3 k).2.2.1 = some (tyX3 k) := by decide +kernel
abbrev cX3_init : ByteArray := prog_5_method_1_code
def yX3_init : MethodName := ⟨RX3, "<init>", "()V"⟩
abbrev cX3_refresh : ByteArray := prog_5_method_2_code
def yX3_refresh : MethodName := ⟨RX3, "refresh", "(LMergedOutline$Desk;)V"⟩
abbrev cX3_chooseSections : ByteArray := prog_5_method_3_code
def yX3_chooseSections : MethodName := ⟨RX3, "chooseSections", "()V"⟩
abbrev cX3_isChanged : ByteArray := prog_5_method_4_code
def yX3_isChanged : MethodName := ⟨RX3, "isChanged", "(ILMergedOutline$Outline;)Z"⟩
abbrev cX3_isOther : ByteArray := prog_5_method_5_code
def yX3_isOther : MethodName := ⟨RX3, "isOther", "(ILMergedOutline$Outline;I)Z"⟩
abbrev cX3_hasNewChild : ByteArray := prog_5_method_6_code
def yX3_hasNewChild : MethodName := ⟨RX3, "hasNewChild", "(ILMergedOutline$Outline;)Z"⟩
abbrev cX3_chooseTraits : ByteArray := prog_5_method_7_code
def yX3_chooseTraits : MethodName := ⟨RX3, "chooseTraits", "(II)V"⟩
abbrev cX3_sourceOf : ByteArray := prog_5_method_8_code
def yX3_sourceOf : MethodName := ⟨RX3, "sourceOf", "(II)LMergedOutline$Outline;"⟩
abbrev cX3_isDisputed : ByteArray := prog_5_method_9_code
def yX3_isDisputed : MethodName := ⟨RX3, "isDisputed", "(II)Z"⟩
abbrev cX3_rehang : ByteArray := prog_5_method_10_code
def yX3_rehang : MethodName := ⟨RX3, "rehang", "()V"⟩
abbrev cX3_nearest : ByteArray := prog_5_method_11_code
def yX3_nearest : MethodName := ⟨RX3, "nearest", "(I)I"⟩
abbrev cX3_undoRings : ByteArray := prog_5_method_12_code
def yX3_undoRings : MethodName := ⟨RX3, "undoRings", "()V"⟩
abbrev cX3_leastInRing : ByteArray := prog_5_method_13_code
def yX3_leastInRing : MethodName := ⟨RX3, "leastInRing", "()I"⟩
abbrev cX3_rehangFromRing : ByteArray := prog_5_method_14_code
def yX3_rehangFromRing : MethodName := ⟨RX3, "rehangFromRing", "(II)V"⟩
abbrev cX3_leastToPutBack : ByteArray := prog_5_method_15_code
def yX3_leastToPutBack : MethodName := ⟨RX3, "leastToPutBack", "(I)I"⟩
abbrev cX3_isMoveOfOther : ByteArray := prog_5_method_16_code
def yX3_isMoveOfOther : MethodName := ⟨RX3, "isMoveOfOther", "(I)Z"⟩
abbrev cX3_orderChildren : ByteArray := prog_5_method_17_code
def yX3_orderChildren : MethodName := ⟨RX3, "orderChildren", "()V"⟩
abbrev cX3_keyOf : ByteArray := prog_5_method_18_code
def yX3_keyOf : MethodName := ⟨RX3, "keyOf", "(I)I"⟩
abbrev cX3_countAhead : ByteArray := prog_5_method_19_code
def yX3_countAhead : MethodName := ⟨RX3, "countAhead", "(I)I"⟩
abbrev cX3_isAhead : ByteArray := prog_5_method_20_code
def yX3_isAhead : MethodName := ⟨RX3, "isAhead", "(II)Z"⟩
def RX4 : String := "MergedOutline$Outline"
def TX4 : u_T := fun k => match k with
  | _ => ("MergedOutline$Outline", "cells", "[I", true)
def tyX4 : Nat → FieldType := fun k => match k with
  | _ => .array .int
abbrev wsX40 : List Cond := u_ws RX4 TX4 1
theorem nmX4 : ∀ a, a < 1 → ∀ b, b < 1 → a ≠ b → (TX4 a).2.1 ≠ (TX4 b).2.1 := by decide +kernel
theorem tyX4_ok : ∀ k, k < 1 → parseFieldDescriptor (TX4 k).2.2.1 = some (tyX4 k) := by decide +kernel
abbrev cX4_init : ByteArray := prog_6_method_1_code
def yX4_init : MethodName := ⟨RX4, "<init>", "()V"⟩
abbrev cX4_reset : ByteArray := prog_6_method_2_code
def yX4_reset : MethodName := ⟨RX4, "reset", "()V"⟩
abbrev cX4_copyFrom : ByteArray := prog_6_method_3_code
def yX4_copyFrom : MethodName := ⟨RX4, "copyFrom", "(LMergedOutline$Outline;)V"⟩
abbrev cX4_holds : ByteArray := prog_6_method_4_code
def yX4_holds : MethodName := ⟨RX4, "holds", "(I)Z"⟩
abbrev cX4_trait : ByteArray := prog_6_method_5_code
def yX4_trait : MethodName := ⟨RX4, "trait", "(II)I"⟩
abbrev cX4_put : ByteArray := prog_6_method_6_code
def yX4_put : MethodName := ⟨RX4, "put", "(III)V"⟩
abbrev cX4_include : ByteArray := prog_6_method_7_code
def yX4_include : MethodName := ⟨RX4, "include", "(I)V"⟩
abbrev cX4_count : ByteArray := prog_6_method_8_code
def yX4_count : MethodName := ⟨RX4, "count", "()I"⟩
abbrev cX4_isChild : ByteArray := prog_6_method_9_code
def yX4_isChild : MethodName := ⟨RX4, "isChild", "(II)Z"⟩
abbrev cX4_childCount : ByteArray := prog_6_method_10_code
def yX4_childCount : MethodName := ⟨RX4, "childCount", "(I)I"⟩
abbrev cX4_childAt : ByteArray := prog_6_method_11_code
def yX4_childAt : MethodName := ⟨RX4, "childAt", "(II)I"⟩
abbrev cX4_isBelow : ByteArray := prog_6_method_12_code
def yX4_isBelow : MethodName := ⟨RX4, "isBelow", "(II)Z"⟩
abbrev cX4_countBelow : ByteArray := prog_6_method_13_code
def yX4_countBelow : MethodName := ⟨RX4, "countBelow", "(I)I"⟩
abbrev cX4_depth : ByteArray := prog_6_method_14_code
def yX4_depth : MethodName := ⟨RX4, "depth", "()I"⟩
abbrev cX4_depthOf : ByteArray := prog_6_method_15_code
def yX4_depthOf : MethodName := ⟨RX4, "depthOf", "(I)I"⟩
abbrev cX4_following : ByteArray := prog_6_method_16_code
def yX4_following : MethodName := ⟨RX4, "following", "(I)I"⟩
abbrev cX4_countShared : ByteArray := prog_6_method_17_code
def yX4_countShared : MethodName := ⟨RX4, "countShared", "(LMergedOutline$Outline;)I"⟩
abbrev cX4_isSame : ByteArray := prog_6_method_18_code
def yX4_isSame : MethodName := ⟨RX4, "isSame", "(ILMergedOutline$Outline;)Z"⟩
abbrev cX4_attach : ByteArray := prog_6_method_19_code
def yX4_attach : MethodName := ⟨RX4, "attach", "(III)V"⟩
abbrev cX4_detach : ByteArray := prog_6_method_20_code
def yX4_detach : MethodName := ⟨RX4, "detach", "(I)V"⟩
abbrev cX4_shift : ByteArray := prog_6_method_21_code
def yX4_shift : MethodName := ⟨RX4, "shift", "(III)V"⟩
abbrev cX4_drop : ByteArray := prog_6_method_22_code
def yX4_drop : MethodName := ⟨RX4, "drop", "(I)I"⟩
def RX5 : String := "MergedOutline$Script"
def TX5 : u_T := fun k => match k with
  | _ => ("MergedOutline$Script", "rows", "LMergedOutline$Table;", true)
def tyX5 : Nat → FieldType := fun k => match k with
  | _ => .object "MergedOutline$Table"
abbrev wsX50 : List Cond := u_ws RX5 TX5 1
theorem nmX5 : ∀ a, a < 1 → ∀ b, b < 1 → a ≠ b → (TX5 a).2.1 ≠ (TX5 b).2.1 := by decide +kernel
theorem tyX5_ok : ∀ k, k < 1 → parseFieldDescriptor (TX5 k).2.2.1 = some (tyX5 k) := by decide +kernel
abbrev cX5_init : ByteArray := prog_7_method_1_code
def yX5_init : MethodName := ⟨RX5, "<init>", "()V"⟩
abbrev cX5_write : ByteArray := prog_7_method_2_code
def yX5_write : MethodName := ⟨RX5, "write", "(LMergedOutline$Outline;LMergedOutline$Outline;)V"⟩
abbrev cX5_writeChange : ByteArray := prog_7_method_3_code
def yX5_writeChange : MethodName := ⟨RX5, "writeChange", "(LMergedOutline$Outline;LMergedOutline$Outline;III)V"⟩
def RX6 : String := "MergedOutline$Table"
def TX6 : u_T := fun k => match k with
  | 0 => ("MergedOutline$Table", "kinds", "[I", true)
  | 1 => ("MergedOutline$Table", "ones", "[I", true)
  | 2 => ("MergedOutline$Table", "others", "[I", true)
  | _ => ("MergedOutline$Table", "count", "I", false)
def tyX6 : Nat → FieldType := fun k => match k with
  | 0 => .array .int
  | 1 => .array .int
  | 2 => .array .int
  | _ => .int
abbrev wsX60 : List Cond := u_ws RX6 TX6 4
theorem nmX6 : ∀ a, a < 4 → ∀ b, b < 4 → a ≠ b → (TX6 a).2.1 ≠ (TX6 b).2.1 := by decide +kernel
theorem tyX6_ok : ∀ k, k < 4 → parseFieldDescriptor (TX6 k).2.2.1 = some (tyX6 k) := by decide +kernel
abbrev cX6_init : ByteArray := prog_8_method_1_code
def yX6_init : MethodName := ⟨RX6, "<init>", "(I)V"⟩
abbrev cX6_wipe : ByteArray := prog_8_method_2_code
def yX6_wipe : MethodName := ⟨RX6, "wipe", "()V"⟩
abbrev cX6_tell : ByteArray := prog_8_method_3_code
def yX6_tell : MethodName := ⟨RX6, "tell", "(III)V"⟩
abbrev cX6_answer : ByteArray := prog_8_method_4_code
def yX6_answer : MethodName := ⟨RX6, "answer", "(II)I"⟩
def RX7 : String := "MergedOutline$Typed"
def TX7 : u_T := fun k => match k with
  | 0 => ("MergedOutline$Typed", "bytes", "[I", true)
  | 1 => ("MergedOutline$Typed", "orders", "[I", true)
  | 2 => ("MergedOutline$Typed", "length", "I", false)
  | 3 => ("MergedOutline$Typed", "orderCount", "I", false)
  | 4 => ("MergedOutline$Typed", "isOpen", "Z", false)
  | 5 => ("MergedOutline$Typed", "wanted", "I", false)
  | 6 => ("MergedOutline$Typed", "given", "I", false)
  | _ => ("MergedOutline$Typed", "figures", "I", false)
def tyX7 : Nat → FieldType := fun k => match k with
  | 0 => .array .int
  | 1 => .array .int
  | 2 => .int
  | 3 => .int
  | 4 => .boolean
  | 5 => .int
  | 6 => .int
  | _ => .int
abbrev wsX70 : List Cond := u_ws RX7 TX7 8
theorem nmX7 : ∀ a, a < 8 → ∀ b, b < 8 → a ≠ b → (TX7 a).2.1 ≠ (TX7 b).2.1 := by decide +kernel
theorem tyX7_ok : ∀ k, k < 8 → parseFieldDescriptor (TX7 k).2.2.1 = some (tyX7 k) := by decide +kernel
abbrev cX7_init : ByteArray := prog_9_method_1_code
def yX7_init : MethodName := ⟨RX7, "<init>", "()V"⟩
abbrev cX7_append : ByteArray := prog_9_method_2_code
def yX7_append : MethodName := ⟨RX7, "append", "(I)Z"⟩
abbrev cX7_wipe : ByteArray := prog_9_method_3_code
def yX7_wipe : MethodName := ⟨RX7, "wipe", "()I"⟩
abbrev cX7_read : ByteArray := prog_9_method_4_code
def yX7_read : MethodName := ⟨RX7, "read", "()I"⟩
abbrev cX7_takes : ByteArray := prog_9_method_5_code
def yX7_takes : MethodName := ⟨RX7, "takes", "(I)Z"⟩
abbrev cX7_opens : ByteArray := prog_9_method_6_code
def yX7_opens : MethodName := ⟨RX7, "opens", "(I)Z"⟩
abbrev cX7_numbersOf : ByteArray := prog_9_method_7_code
def yX7_numbersOf : MethodName := ⟨RX7, "numbersOf", "(I)I"⟩
abbrev cX7_takesFigure : ByteArray := prog_9_method_8_code
def yX7_takesFigure : MethodName := ⟨RX7, "takesFigure", "(I)Z"⟩
abbrev cX7_closes : ByteArray := prog_9_method_9_code
def yX7_closes : MethodName := ⟨RX7, "closes", "()Z"⟩
abbrev cX7_put : ByteArray := prog_9_method_10_code
def yX7_put : MethodName := ⟨RX7, "put", "(III)V"⟩
abbrev cX7_cell : ByteArray := prog_9_method_11_code
def yX7_cell : MethodName := ⟨RX7, "cell", "(II)I"⟩
abbrev cX7_isCell : ByteArray := prog_9_method_12_code
def yX7_isCell : MethodName := ⟨RX7, "isCell", "(II)Z"⟩
def RX8 : String := "MergedOutline"
def TX8 : u_T := fun k => match k with
  | 0 => ("MergedOutline", "desk", "LMergedOutline$Desk;", true)
  | 1 => ("MergedOutline", "before", "LMergedOutline$Desk;", true)
  | 2 => ("MergedOutline", "history", "LMergedOutline$History;", true)
  | 3 => ("MergedOutline", "merger", "LMergedOutline$Merger;", true)
  | 4 => ("MergedOutline", "script", "LMergedOutline$Script;", true)
  | 5 => ("MergedOutline", "matching", "LMergedOutline$Matching;", true)
  | 6 => ("MergedOutline", "typed", "LMergedOutline$Typed;", true)
  | 7 => ("MergedOutline", "badCount", "I", false)
  | 8 => ("MergedOutline", "noCount", "I", false)
  | _ => ("MergedOutline", "fullCount", "I", false)
def tyX8 : Nat → FieldType := fun k => match k with
  | 0 => .object "MergedOutline$Desk"
  | 1 => .object "MergedOutline$Desk"
  | 2 => .object "MergedOutline$History"
  | 3 => .object "MergedOutline$Merger"
  | 4 => .object "MergedOutline$Script"
  | 5 => .object "MergedOutline$Matching"
  | 6 => .object "MergedOutline$Typed"
  | 7 => .int
  | 8 => .int
  | _ => .int
abbrev wsX80 : List Cond := u_ws RX8 TX8 10
theorem nmX8 : ∀ a, a < 10 → ∀ b, b < 10 → a ≠ b → (TX8 a).2.1 ≠ (TX8 b).2.1 := by decide +kernel
theorem tyX8_ok : ∀ k, k < 10 → parseFieldDescriptor (TX8 k).2.2.1 = some (tyX8 k) := by decide +kernel
abbrev cX8_init : ByteArray := prog_1_method_1_code
def yX8_init : MethodName := ⟨RX8, "<init>", "()V"⟩
abbrev cX8_adds : ByteArray := prog_1_method_2_code
def yX8_adds : MethodName := ⟨RX8, "adds", "(IIIII)I"⟩
abbrev cX8_moves : ByteArray := prog_1_method_3_code
def yX8_moves : MethodName := ⟨RX8, "moves", "(IIII)I"⟩
abbrev cX8_renames : ByteArray := prog_1_method_4_code
def yX8_renames : MethodName := ⟨RX8, "renames", "(III)I"⟩
abbrev cX8_edits : ByteArray := prog_1_method_5_code
def yX8_edits : MethodName := ⟨RX8, "edits", "(III)I"⟩
abbrev cX8_deletes : ByteArray := prog_1_method_6_code
def yX8_deletes : MethodName := ⟨RX8, "deletes", "(II)I"⟩
abbrev cX8_forks : ByteArray := prog_1_method_7_code
def yX8_forks : MethodName := ⟨RX8, "forks", "()I"⟩
abbrev cX8_prefers : ByteArray := prog_1_method_8_code
def yX8_prefers : MethodName := ⟨RX8, "prefers", "(I)I"⟩
abbrev cX8_adopts : ByteArray := prog_1_method_9_code
def yX8_adopts : MethodName := ⟨RX8, "adopts", "()I"⟩
abbrev cX8_has : ByteArray := prog_1_method_10_code
def yX8_has : MethodName := ⟨RX8, "has", "(II)I"⟩
abbrev cX8_of : ByteArray := prog_1_method_11_code
def yX8_of : MethodName := ⟨RX8, "of", "(III)I"⟩
abbrev cX8_walk : ByteArray := prog_1_method_12_code
def yX8_walk : MethodName := ⟨RX8, "walk", "(II)I"⟩
abbrev cX8_size : ByteArray := prog_1_method_13_code
def yX8_size : MethodName := ⟨RX8, "size", "(II)I"⟩
abbrev cX8_alike : ByteArray := prog_1_method_14_code
def yX8_alike : MethodName := ⟨RX8, "alike", "(II)I"⟩
abbrev cX8_conflicts : ByteArray := prog_1_method_15_code
def yX8_conflicts : MethodName := ⟨RX8, "conflicts", "(II)I"⟩
abbrev cX8_script : ByteArray := prog_1_method_16_code
def yX8_script : MethodName := ⟨RX8, "script", "(III)I"⟩
abbrev cX8_matches : ByteArray := prog_1_method_17_code
def yX8_matches : MethodName := ⟨RX8, "matches", "(II)I"⟩
abbrev cX8_told : ByteArray := prog_1_method_18_code
def yX8_told : MethodName := ⟨RX8, "told", "(I)I"⟩
abbrev cX8_type : ByteArray := prog_1_method_19_code
def yX8_type : MethodName := ⟨RX8, "type", "(I)I"⟩
abbrev cX8_clear : ByteArray := prog_1_method_20_code
def yX8_clear : MethodName := ⟨RX8, "clear", "()I"⟩
abbrev cX8_does : ByteArray := prog_1_method_21_code
def yX8_does : MethodName := ⟨RX8, "does", "()I"⟩
abbrev cX8_back : ByteArray := prog_1_method_22_code
def yX8_back : MethodName := ⟨RX8, "back", "()I"⟩
abbrev cX8_refused : ByteArray := prog_1_method_23_code
def yX8_refused : MethodName := ⟨RX8, "refused", "(I)I"⟩
abbrev cX8_digest : ByteArray := prog_1_method_24_code
def yX8_digest : MethodName := ⟨RX8, "digest", "()J"⟩
abbrev cX8_settled : ByteArray := prog_1_method_25_code
def yX8_settled : MethodName := ⟨RX8, "settled", "(I)I"⟩
abbrev cX8_refuse : ByteArray := prog_1_method_26_code
def yX8_refuse : MethodName := ⟨RX8, "refuse", "(I)I"⟩
abbrev cX8_outline : ByteArray := prog_1_method_27_code
def yX8_outline : MethodName := ⟨RX8, "outline", "(I)LMergedOutline$Outline;"⟩
abbrev cX8_perform : ByteArray := prog_1_method_28_code
def yX8_perform : MethodName := ⟨RX8, "perform", "(I)I"⟩
abbrev cX8_tellCount : ByteArray := prog_1_method_29_code
def yX8_tellCount : MethodName := ⟨RX8, "tellCount", "(I)I"⟩
abbrev cX8_tellDesk : ByteArray := prog_1_method_30_code
def yX8_tellDesk : MethodName := ⟨RX8, "tellDesk", "(I)I"⟩
abbrev cX8_mixed : ByteArray := prog_1_method_31_code
def yX8_mixed : MethodName := ⟨RX8, "mixed", "(JI)J"⟩
abbrev cX8_mixedOutline : ByteArray := prog_1_method_32_code
def yX8_mixedOutline : MethodName := ⟨RX8, "mixedOutline", "(JLMergedOutline$Outline;)J"⟩
abbrev cX8_mixedConflicts : ByteArray := prog_1_method_33_code
def yX8_mixedConflicts : MethodName := ⟨RX8, "mixedConflicts", "(JLMergedOutline$Table;)J"⟩
abbrev cX8_isRowAsked : ByteArray := prog_1_method_34_code
def yX8_isRowAsked : MethodName := ⟨RX8, "isRowAsked", "(III)Z"⟩
abbrev cX8_isNumber : ByteArray := prog_1_method_35_code
def yX8_isNumber : MethodName := ⟨RX8, "isNumber", "(I)Z"⟩
abbrev cX8_isValue : ByteArray := prog_1_method_36_code
def yX8_isValue : MethodName := ⟨RX8, "isValue", "(I)Z"⟩
abbrev cX8_isSide : ByteArray := prog_1_method_37_code
def yX8_isSide : MethodName := ⟨RX8, "isSide", "(I)Z"⟩
abbrev cX8_isOwnOutline : ByteArray := prog_1_method_38_code
def yX8_isOwnOutline : MethodName := ⟨RX8, "isOwnOutline", "(I)Z"⟩
abbrev cX8_isAnyOutline : ByteArray := prog_1_method_39_code
def yX8_isAnyOutline : MethodName := ⟨RX8, "isAnyOutline", "(I)Z"⟩
def RX9 : String := "MergedOutlineModel"
def TX9 : u_T := fun k => match k with
  | 0 => ("MergedOutlineModel", "now", "[I", true)
  | 1 => ("MergedOutlineModel", "aside", "[I", true)
  | 2 => ("MergedOutlineModel", "before", "[I", true)
  | 3 => ("MergedOutlineModel", "past", "[I", true)
  | 4 => ("MergedOutlineModel", "states", "I", false)
  | 5 => ("MergedOutlineModel", "refusals", "[I", true)
  | 6 => ("MergedOutlineModel", "text", "[I", true)
  | 7 => ("MergedOutlineModel", "bytes", "I", false)
  | 8 => ("MergedOutlineModel", "orderLetter", "[I", true)
  | 9 => ("MergedOutlineModel", "orderFrom", "[I", true)
  | 10 => ("MergedOutlineModel", "numbers", "[I", true)
  | 11 => ("MergedOutlineModel", "orders", "I", false)
  | 12 => ("MergedOutlineModel", "found", "[I", true)
  | 13 => ("MergedOutlineModel", "conflictMany", "I", false)
  | 14 => ("MergedOutlineModel", "walked", "[I", true)
  | 15 => ("MergedOutlineModel", "waiting", "[I", true)
  | 16 => ("MergedOutlineModel", "steps", "[I", true)
  | 17 => ("MergedOutlineModel", "stepMany", "I", false)
  | 18 => ("MergedOutlineModel", "matchOf", "[I", true)
  | 19 => ("MergedOutlineModel", "letter", "I", false)
  | 20 => ("MergedOutlineModel", "begun", "I", false)
  | _ => ("MergedOutlineModel", "figures", "I", false)
def tyX9 : Nat → FieldType := fun k => match k with
  | 0 => .array .int
  | 1 => .array .int
  | 2 => .array .int
  | 3 => .array .int
  | 4 => .int
  | 5 => .array .int
  | 6 => .array .int
  | 7 => .int
  | 8 => .array .int
  | 9 => .array .int
  | 10 => .array .int
  | 11 => .int
  | 12 => .array .int
  | 13 => .int
  | 14 => .array .int
  | 15 => .array .int
  | 16 => .array .int
  | 17 => .int
  | 18 => .array .int
  | 19 => .int
  | 20 => .int
  | _ => .int
abbrev wsX90 : List Cond := u_ws RX9 TX9 22
theorem nmX9 : ∀ a, a < 22 → ∀ b, b < 22 → a ≠ b → (TX9 a).2.1 ≠ (TX9 b).2.1 := by decide +kernel
theorem tyX9_ok : ∀ k, k < 22 → parseFieldDescriptor (TX9 k).2.2.1 = some (tyX9 k) := by decide +kernel
abbrev cX9_init : ByteArray := prog_11_method_1_code
def yX9_init : MethodName := ⟨RX9, "<init>", "()V"⟩
abbrev cX9_in : ByteArray := prog_11_method_2_code
def yX9_in : MethodName := ⟨RX9, "in", "(III)Z"⟩
abbrev cX9_bring : ByteArray := prog_11_method_3_code
def yX9_bring : MethodName := ⟨RX9, "bring", "([II[III)V"⟩
abbrev cX9_refuse : ByteArray := prog_11_method_4_code
def yX9_refuse : MethodName := ⟨RX9, "refuse", "(I)I"⟩
abbrev cX9_save : ByteArray := prog_11_method_5_code
def yX9_save : MethodName := ⟨RX9, "save", "()V"⟩
abbrev cX9_isRefused : ByteArray := prog_11_method_6_code
def yX9_isRefused : MethodName := ⟨RX9, "isRefused", "(I)Z"⟩
abbrev cX9_finish : ByteArray := prog_11_method_7_code
def yX9_finish : MethodName := ⟨RX9, "finish", "(I)I"⟩
abbrev cX9_isIn : ByteArray := prog_11_method_8_code
def yX9_isIn : MethodName := ⟨RX9, "isIn", "(II)Z"⟩
abbrev cX9_isThere : ByteArray := prog_11_method_9_code
def yX9_isThere : MethodName := ⟨RX9, "isThere", "(II)Z"⟩
abbrev cX9_parentOf : ByteArray := prog_11_method_10_code
def yX9_parentOf : MethodName := ⟨RX9, "parentOf", "(II)I"⟩
abbrev cX9_placeOf : ByteArray := prog_11_method_11_code
def yX9_placeOf : MethodName := ⟨RX9, "placeOf", "(II)I"⟩
abbrev cX9_nameOf : ByteArray := prog_11_method_12_code
def yX9_nameOf : MethodName := ⟨RX9, "nameOf", "(II)I"⟩
abbrev cX9_textOf : ByteArray := prog_11_method_13_code
def yX9_textOf : MethodName := ⟨RX9, "textOf", "(II)I"⟩
abbrev cX9_childrenOf : ByteArray := prog_11_method_14_code
def yX9_childrenOf : MethodName := ⟨RX9, "childrenOf", "(II)I"⟩
abbrev cX9_manyIn : ByteArray := prog_11_method_15_code
def yX9_manyIn : MethodName := ⟨RX9, "manyIn", "(I)I"⟩
abbrev cX9_belowOf : ByteArray := prog_11_method_16_code
def yX9_belowOf : MethodName := ⟨RX9, "belowOf", "(II)I"⟩
abbrev cX9_ones : ByteArray := prog_11_method_17_code
def yX9_ones : MethodName := ⟨RX9, "ones", "(I)I"⟩
abbrev cX9_push : ByteArray := prog_11_method_18_code
def yX9_push : MethodName := ⟨RX9, "push", "(IIII)V"⟩
abbrev cX9_hang : ByteArray := prog_11_method_19_code
def yX9_hang : MethodName := ⟨RX9, "hang", "(IIII)V"⟩
abbrev cX9_unhang : ByteArray := prog_11_method_20_code
def yX9_unhang : MethodName := ⟨RX9, "unhang", "(II)V"⟩
abbrev cX9_isOutline : ByteArray := prog_11_method_21_code
def yX9_isOutline : MethodName := ⟨RX9, "isOutline", "(I)Z"⟩
abbrev cX9_isWord : ByteArray := prog_11_method_22_code
def yX9_isWord : MethodName := ⟨RX9, "isWord", "(I)Z"⟩
abbrev cX9_add : ByteArray := prog_11_method_23_code
def yX9_add : MethodName := ⟨RX9, "add", "(IIIII)I"⟩
abbrev cX9_move : ByteArray := prog_11_method_24_code
def yX9_move : MethodName := ⟨RX9, "move", "(IIII)I"⟩
abbrev cX9_put : ByteArray := prog_11_method_25_code
def yX9_put : MethodName := ⟨RX9, "put", "(IIII)I"⟩
abbrev cX9_delete : ByteArray := prog_11_method_26_code
def yX9_delete : MethodName := ⟨RX9, "delete", "(II)I"⟩
abbrev cX9_fork : ByteArray := prog_11_method_27_code
def yX9_fork : MethodName := ⟨RX9, "fork", "()I"⟩
abbrev cX9_prefer : ByteArray := prog_11_method_28_code
def yX9_prefer : MethodName := ⟨RX9, "prefer", "(I)I"⟩
abbrev cX9_adds : ByteArray := prog_11_method_29_code
def yX9_adds : MethodName := ⟨RX9, "adds", "(IIIII)I"⟩
abbrev cX9_moves : ByteArray := prog_11_method_30_code
def yX9_moves : MethodName := ⟨RX9, "moves", "(IIII)I"⟩
abbrev cX9_renames : ByteArray := prog_11_method_31_code
def yX9_renames : MethodName := ⟨RX9, "renames", "(III)I"⟩
abbrev cX9_edits : ByteArray := prog_11_method_32_code
def yX9_edits : MethodName := ⟨RX9, "edits", "(III)I"⟩
abbrev cX9_deletes : ByteArray := prog_11_method_33_code
def yX9_deletes : MethodName := ⟨RX9, "deletes", "(II)I"⟩
abbrev cX9_forks : ByteArray := prog_11_method_34_code
def yX9_forks : MethodName := ⟨RX9, "forks", "()I"⟩
abbrev cX9_prefers : ByteArray := prog_11_method_35_code
def yX9_prefers : MethodName := ⟨RX9, "prefers", "(I)I"⟩
abbrev cX9_adopts : ByteArray := prog_11_method_36_code
def yX9_adopts : MethodName := ⟨RX9, "adopts", "()I"⟩
abbrev cX9_conflict : ByteArray := prog_11_method_37_code
def yX9_conflict : MethodName := ⟨RX9, "conflict", "(III)V"⟩
abbrev cX9_isChanged : ByteArray := prog_11_method_38_code
def yX9_isChanged : MethodName := ⟨RX9, "isChanged", "(II)Z"⟩
abbrev cX9_mergeIn : ByteArray := prog_11_method_39_code
def yX9_mergeIn : MethodName := ⟨RX9, "mergeIn", "(I)V"⟩
abbrev cX9_settle : ByteArray := prog_11_method_40_code
def yX9_settle : MethodName := ⟨RX9, "settle", "(III)V"⟩
abbrev cX9_nearest : ByteArray := prog_11_method_41_code
def yX9_nearest : MethodName := ⟨RX9, "nearest", "(I)I"⟩
abbrev cX9_isOnRing : ByteArray := prog_11_method_42_code
def yX9_isOnRing : MethodName := ⟨RX9, "isOnRing", "(I)Z"⟩
abbrev cX9_ringFrom : ByteArray := prog_11_method_43_code
def yX9_ringFrom : MethodName := ⟨RX9, "ringFrom", "(I)I"⟩
abbrev cX9_breakRings : ByteArray := prog_11_method_44_code
def yX9_breakRings : MethodName := ⟨RX9, "breakRings", "()V"⟩
abbrev cX9_keyOf : ByteArray := prog_11_method_45_code
def yX9_keyOf : MethodName := ⟨RX9, "keyOf", "(I)I"⟩
abbrev cX9_merge : ByteArray := prog_11_method_46_code
def yX9_merge : MethodName := ⟨RX9, "merge", "()V"⟩
abbrev cX9_isAsked : ByteArray := prog_11_method_47_code
def yX9_isAsked : MethodName := ⟨RX9, "isAsked", "(I)Z"⟩
abbrev cX9_has : ByteArray := prog_11_method_48_code
def yX9_has : MethodName := ⟨RX9, "has", "(II)I"⟩
abbrev cX9_ofSection : ByteArray := prog_11_method_49_code
def yX9_ofSection : MethodName := ⟨RX9, "ofSection", "(III)I"⟩
abbrev cX9_of : ByteArray := prog_11_method_50_code
def yX9_of : MethodName := ⟨RX9, "of", "(III)I"⟩
abbrev cX9_walkAll : ByteArray := prog_11_method_51_code
def yX9_walkAll : MethodName := ⟨RX9, "walkAll", "(I)I"⟩
abbrev cX9_walk : ByteArray := prog_11_method_52_code
def yX9_walk : MethodName := ⟨RX9, "walk", "(II)I"⟩
abbrev cX9_deepOf : ByteArray := prog_11_method_53_code
def yX9_deepOf : MethodName := ⟨RX9, "deepOf", "(I)I"⟩
abbrev cX9_size : ByteArray := prog_11_method_54_code
def yX9_size : MethodName := ⟨RX9, "size", "(II)I"⟩
abbrev cX9_alike : ByteArray := prog_11_method_55_code
def yX9_alike : MethodName := ⟨RX9, "alike", "(II)I"⟩
abbrev cX9_conflicts : ByteArray := prog_11_method_56_code
def yX9_conflicts : MethodName := ⟨RX9, "conflicts", "(II)I"⟩
abbrev cX9_step : ByteArray := prog_11_method_57_code
def yX9_step : MethodName := ⟨RX9, "step", "(II)V"⟩
abbrev cX9_layScript : ByteArray := prog_11_method_58_code
def yX9_layScript : MethodName := ⟨RX9, "layScript", "(I)V"⟩
abbrev cX9_script : ByteArray := prog_11_method_59_code
def yX9_script : MethodName := ⟨RX9, "script", "(III)I"⟩
abbrev cX9_scoreOf : ByteArray := prog_11_method_60_code
def yX9_scoreOf : MethodName := ⟨RX9, "scoreOf", "(III)I"⟩
abbrev cX9_layMatches : ByteArray := prog_11_method_61_code
def yX9_layMatches : MethodName := ⟨RX9, "layMatches", "(I)V"⟩
abbrev cX9_matches : ByteArray := prog_11_method_62_code
def yX9_matches : MethodName := ⟨RX9, "matches", "(II)I"⟩
abbrev cX9_strangers : ByteArray := prog_11_method_63_code
def yX9_strangers : MethodName := ⟨RX9, "strangers", "(I)I"⟩
abbrev cX9_toldOf : ByteArray := prog_11_method_64_code
def yX9_toldOf : MethodName := ⟨RX9, "toldOf", "(I)I"⟩
abbrev cX9_told : ByteArray := prog_11_method_65_code
def yX9_told : MethodName := ⟨RX9, "told", "(I)I"⟩
abbrev cX9_type : ByteArray := prog_11_method_66_code
def yX9_type : MethodName := ⟨RX9, "type", "(I)I"⟩
abbrev cX9_clear : ByteArray := prog_11_method_67_code
def yX9_clear : MethodName := ⟨RX9, "clear", "()I"⟩
abbrev cX9_wantsOf : ByteArray := prog_11_method_68_code
def yX9_wantsOf : MethodName := ⟨RX9, "wantsOf", "(I)I"⟩
abbrev cX9_readByte : ByteArray := prog_11_method_69_code
def yX9_readByte : MethodName := ⟨RX9, "readByte", "(I)Z"⟩
abbrev cX9_readText : ByteArray := prog_11_method_70_code
def yX9_readText : MethodName := ⟨RX9, "readText", "()I"⟩
abbrev cX9_numberOf : ByteArray := prog_11_method_71_code
def yX9_numberOf : MethodName := ⟨RX9, "numberOf", "(II)I"⟩
abbrev cX9_doOrder : ByteArray := prog_11_method_72_code
def yX9_doOrder : MethodName := ⟨RX9, "doOrder", "(I)I"⟩
abbrev cX9_does : ByteArray := prog_11_method_73_code
def yX9_does : MethodName := ⟨RX9, "does", "()I"⟩
abbrev cX9_back : ByteArray := prog_11_method_74_code
def yX9_back : MethodName := ⟨RX9, "back", "()I"⟩
abbrev cX9_refusedOf : ByteArray := prog_11_method_75_code
def yX9_refusedOf : MethodName := ⟨RX9, "refusedOf", "(I)I"⟩
abbrev cX9_refused : ByteArray := prog_11_method_76_code
def yX9_refused : MethodName := ⟨RX9, "refused", "(I)I"⟩
abbrev cX9_digest : ByteArray := prog_11_method_77_code
def yX9_digest : MethodName := ⟨RX9, "digest", "()J"⟩
def RJ6 : String := "java/lang/Integer"
def TJ6 : u_T := fun k => match k with
  | _ => ("", "", "", false)
def tyJ6 : Nat → FieldType := fun k => match k with
  | _ => .int
abbrev wsJ60 : List Cond := u_ws RJ6 TJ6 0
theorem nmJ6 : ∀ a, a < 0 → ∀ b, b < 0 → a ≠ b → (TJ6 a).2.1 ≠ (TJ6 b).2.1 := by decide +kernel
theorem tyJ6_ok : ∀ k, k < 0 → parseFieldDescriptor (TJ6 k).2.2.1 = some (tyJ6 k) := by decide +kernel
abbrev cJ6_bitCount_0f7a4 : ByteArray := prog_12_method_49_code
def yJ6_bitCount_0f7a4 : MethodName := ⟨RJ6, "bitCount", "(I)I"⟩
def RJ9 : String := "java/lang/Math"
def TJ9 : u_T := fun k => match k with
  | _ => ("", "", "", false)
def tyJ9 : Nat → FieldType := fun k => match k with
  | _ => .int
abbrev wsJ90 : List Cond := u_ws RJ9 TJ9 0
theorem nmJ9 : ∀ a, a < 0 → ∀ b, b < 0 → a ≠ b → (TJ9 a).2.1 ≠ (TJ9 b).2.1 := by decide +kernel
theorem tyJ9_ok : ∀ k, k < 0 → parseFieldDescriptor (TJ9 k).2.2.1 = some (tyJ9 k) := by decide +kernel
abbrev cJ9_max_7cf53 : ByteArray := prog_13_method_65_code
def yJ9_max_7cf53 : MethodName := ⟨RJ9, "max", "(II)I"⟩
abbrev cJ9_min_7cf53 : ByteArray := prog_13_method_69_code
def yJ9_min_7cf53 : MethodName := ⟨RJ9, "min", "(II)I"⟩
def RJ10 : String := "java/lang/System"
def TJ10 : u_T := fun k => match k with
  | _ => ("", "", "", false)
def tyJ10 : Nat → FieldType := fun k => match k with
  | _ => .int
abbrev wsJ100 : List Cond := u_ws RJ10 TJ10 0
theorem nmJ10 : ∀ a, a < 0 → ∀ b, b < 0 → a ≠ b → (TJ10 a).2.1 ≠ (TJ10 b).2.1 := by decide +kernel
theorem tyJ10_ok : ∀ k, k < 0 → parseFieldDescriptor (TJ10 k).2.2.1 = some (tyJ10 k) := by decide +kernel
def RL : String := "MergedOutlineLaw"
abbrev cL_law : ByteArray := code
def yL_law : MethodName := ⟨RL, "law", "([I)Z"⟩
abbrev vwCl : List vw_C := [(RX0, TX0, 5), (RX1, TX1, 3), (RX2, TX2, 3), (RX3, TX3, 6), (RX4, TX4, 1), (RX5, TX5, 1), (RX6, TX6, 4), (RX7, TX7, 8), (RX8, TX8, 10), (RX9, TX9, 22)]
end
section
theorem dX0_init_0 : decode cX0_init 0 = .ok (.aload_n 0, 1) := by decide +kernel
theorem dX0_init_1 : decode cX0_init 1 = .ok (.invokespecial 3, 3) := by decide +kernel
theorem dX0_init_4 : decode cX0_init 4 = .ok (.aload_n 0, 1) := by decide +kernel
theorem dX0_init_5 : decode cX0_init 5 = .ok (.new 9, 3) := by decide +kernel
theorem dX0_init_8 : decode cX0_init 8 = .ok (.dup, 1) := by decide +kernel
theorem dX0_init_9 : decode cX0_init 9 = .ok (.invokespecial 11, 3) := by decide +kernel
theorem dX0_init_12 : decode cX0_init 12 = .ok (.putfield 12, 3) := by decide +kernel
theorem dX0_init_15 : decode cX0_init 15 = .ok (.aload_n 0, 1) := by decide +kernel
theorem dX0_init_16 : decode cX0_init 16 = .ok (.new 9, 3) := by decide +kernel
theorem dX0_init_19 : decode cX0_init 19 = .ok (.dup, 1) := by decide +kernel
theorem dX0_init_20 : decode cX0_init 20 = .ok (.invokespecial 11, 3) := by decide +kernel
theorem dX0_init_23 : decode cX0_init 23 = .ok (.putfield 18, 3) := by decide +kernel
theorem dX0_init_26 : decode cX0_init 26 = .ok (.aload_n 0, 1) := by decide +kernel
theorem dX0_init_27 : decode cX0_init 27 = .ok (.new 9, 3) := by decide +kernel
theorem dX0_init_30 : decode cX0_init 30 = .ok (.dup, 1) := by decide +kernel
theorem dX0_init_31 : decode cX0_init 31 = .ok (.invokespecial 11, 3) := by decide +kernel
theorem dX0_init_34 : decode cX0_init 34 = .ok (.putfield 21, 3) := by decide +kernel
theorem dX0_init_37 : decode cX0_init 37 = .ok (.aload_n 0, 1) := by decide +kernel
theorem dX0_init_38 : decode cX0_init 38 = .ok (.iconst 1, 1) := by decide +kernel
theorem dX0_init_39 : decode cX0_init 39 = .ok (.putfield 24, 3) := by decide +kernel
theorem dX0_init_42 : decode cX0_init 42 = .ok (.aload_n 0, 1) := by decide +kernel
theorem dX0_init_43 : decode cX0_init 43 = .ok (.iconst 1, 1) := by decide +kernel
theorem dX0_init_44 : decode cX0_init 44 = .ok (.putfield 28, 3) := by decide +kernel
theorem dX0_init_47 : decode cX0_init 47 = .ok (.return_, 1) := by decide +kernel
theorem dX0_copyFrom_0 : decode cX0_copyFrom 0 = .ok (.aload_n 0, 1) := by decide +kernel
theorem dX0_copyFrom_1 : decode cX0_copyFrom 1 = .ok (.getfield 12, 3) := by decide +kernel
theorem dX0_copyFrom_4 : decode cX0_copyFrom 4 = .ok (.aload_n 1, 1) := by decide +kernel
theorem dX0_copyFrom_5 : decode cX0_copyFrom 5 = .ok (.getfield 12, 3) := by decide +kernel
theorem dX0_copyFrom_8 : decode cX0_copyFrom 8 = .ok (.invokevirtual 31, 3) := by decide +kernel
theorem dX0_copyFrom_11 : decode cX0_copyFrom 11 = .ok (.aload_n 0, 1) := by decide +kernel
theorem dX0_copyFrom_12 : decode cX0_copyFrom 12 = .ok (.getfield 18, 3) := by decide +kernel
theorem dX0_copyFrom_15 : decode cX0_copyFrom 15 = .ok (.aload_n 1, 1) := by decide +kernel
theorem dX0_copyFrom_16 : decode cX0_copyFrom 16 = .ok (.getfield 18, 3) := by decide +kernel
theorem dX0_copyFrom_19 : decode cX0_copyFrom 19 = .ok (.invokevirtual 31, 3) := by decide +kernel
theorem dX0_copyFrom_22 : decode cX0_copyFrom 22 = .ok (.aload_n 0, 1) := by decide +kernel
theorem dX0_copyFrom_23 : decode cX0_copyFrom 23 = .ok (.getfield 21, 3) := by decide +kernel
theorem dX0_copyFrom_26 : decode cX0_copyFrom 26 = .ok (.aload_n 1, 1) := by decide +kernel
theorem dX0_copyFrom_27 : decode cX0_copyFrom 27 = .ok (.getfield 21, 3) := by decide +kernel
theorem dX0_copyFrom_30 : decode cX0_copyFrom 30 = .ok (.invokevirtual 31, 3) := by decide +kernel
theorem dX0_copyFrom_33 : decode cX0_copyFrom 33 = .ok (.aload_n 0, 1) := by decide +kernel
theorem dX0_copyFrom_34 : decode cX0_copyFrom 34 = .ok (.aload_n 1, 1) := by decide +kernel
theorem dX0_copyFrom_35 : decode cX0_copyFrom 35 = .ok (.getfield 24, 3) := by decide +kernel
theorem dX0_copyFrom_38 : decode cX0_copyFrom 38 = .ok (.putfield 24, 3) := by decide +kernel
theorem dX0_copyFrom_41 : decode cX0_copyFrom 41 = .ok (.aload_n 0, 1) := by decide +kernel
theorem dX0_copyFrom_42 : decode cX0_copyFrom 42 = .ok (.aload_n 1, 1) := by decide +kernel
theorem dX0_copyFrom_43 : decode cX0_copyFrom 43 = .ok (.getfield 28, 3) := by decide +kernel
theorem dX0_copyFrom_46 : decode cX0_copyFrom 46 = .ok (.putfield 28, 3) := by decide +kernel
theorem dX0_copyFrom_49 : decode cX0_copyFrom 49 = .ok (.return_, 1) := by decide +kernel
theorem dX0_outline_0 : decode cX0_outline 0 = .ok (.iload_n 1, 1) := by decide +kernel
theorem dX0_outline_1 : decode cX0_outline 1 = .ok (.iconst 1, 1) := by decide +kernel
theorem dX0_outline_2 : decode cX0_outline 2 = .ok (.if_icmp .ne 8, 3) := by decide +kernel
theorem dX0_outline_5 : decode cX0_outline 5 = .ok (.aload_n 0, 1) := by decide +kernel
theorem dX0_outline_6 : decode cX0_outline 6 = .ok (.getfield 18, 3) := by decide +kernel
theorem dX0_outline_9 : decode cX0_outline 9 = .ok (.areturn, 1) := by decide +kernel
theorem dX0_outline_10 : decode cX0_outline 10 = .ok (.iload_n 1, 1) := by decide +kernel
theorem dX0_outline_11 : decode cX0_outline 11 = .ok (.iconst 2, 1) := by decide +kernel
theorem dX0_outline_12 : decode cX0_outline 12 = .ok (.if_icmp .ne 10, 3) := by decide +kernel
theorem dX0_outline_15 : decode cX0_outline 15 = .ok (.aload_n 0, 1) := by decide +kernel
theorem dX0_outline_16 : decode cX0_outline 16 = .ok (.getfield 21, 3) := by decide +kernel
theorem dX0_outline_19 : decode cX0_outline 19 = .ok (.goto 7, 3) := by decide +kernel
theorem dX0_outline_22 : decode cX0_outline 22 = .ok (.aload_n 0, 1) := by decide +kernel
theorem dX0_outline_23 : decode cX0_outline 23 = .ok (.getfield 12, 3) := by decide +kernel
theorem dX0_outline_26 : decode cX0_outline 26 = .ok (.areturn, 1) := by decide +kernel
theorem dX0_preferredSide_0 : decode cX0_preferredSide 0 = .ok (.aload_n 0, 1) := by decide +kernel
theorem dX0_preferredSide_1 : decode cX0_preferredSide 1 = .ok (.getfield 24, 3) := by decide +kernel
theorem dX0_preferredSide_4 : decode cX0_preferredSide 4 = .ok (.iconst 2, 1) := by decide +kernel
theorem dX0_preferredSide_5 : decode cX0_preferredSide 5 = .ok (.if_icmp .ne 10, 3) := by decide +kernel
theorem dX0_preferredSide_8 : decode cX0_preferredSide 8 = .ok (.aload_n 0, 1) := by decide +kernel
theorem dX0_preferredSide_9 : decode cX0_preferredSide 9 = .ok (.getfield 21, 3) := by decide +kernel
theorem dX0_preferredSide_12 : decode cX0_preferredSide 12 = .ok (.goto 7, 3) := by decide +kernel
theorem dX0_preferredSide_15 : decode cX0_preferredSide 15 = .ok (.aload_n 0, 1) := by decide +kernel
theorem dX0_preferredSide_16 : decode cX0_preferredSide 16 = .ok (.getfield 18, 3) := by decide +kernel
theorem dX0_preferredSide_19 : decode cX0_preferredSide 19 = .ok (.areturn, 1) := by decide +kernel
theorem dX0_otherSide_0 : decode cX0_otherSide 0 = .ok (.aload_n 0, 1) := by decide +kernel
theorem dX0_otherSide_1 : decode cX0_otherSide 1 = .ok (.getfield 24, 3) := by decide +kernel
theorem dX0_otherSide_4 : decode cX0_otherSide 4 = .ok (.iconst 2, 1) := by decide +kernel
theorem dX0_otherSide_5 : decode cX0_otherSide 5 = .ok (.if_icmp .ne 10, 3) := by decide +kernel
theorem dX0_otherSide_8 : decode cX0_otherSide 8 = .ok (.aload_n 0, 1) := by decide +kernel
theorem dX0_otherSide_9 : decode cX0_otherSide 9 = .ok (.getfield 18, 3) := by decide +kernel
theorem dX0_otherSide_12 : decode cX0_otherSide 12 = .ok (.goto 7, 3) := by decide +kernel
theorem dX0_otherSide_15 : decode cX0_otherSide 15 = .ok (.aload_n 0, 1) := by decide +kernel
theorem dX0_otherSide_16 : decode cX0_otherSide 16 = .ok (.getfield 21, 3) := by decide +kernel
theorem dX0_otherSide_19 : decode cX0_otherSide 19 = .ok (.areturn, 1) := by decide +kernel
theorem dX0_add_0 : decode cX0_add 0 = .ok (.iload_n 1, 1) := by decide +kernel
theorem dX0_add_1 : decode cX0_add 1 = .ok (.invokestatic 35, 3) := by decide +kernel
theorem dX0_add_4 : decode cX0_add 4 = .ok (.ifCond .eq 19, 3) := by decide +kernel
theorem dX0_add_7 : decode cX0_add 7 = .ok (.iload 4, 2) := by decide +kernel
theorem dX0_add_9 : decode cX0_add 9 = .ok (.invokestatic 39, 3) := by decide +kernel
theorem dX0_add_12 : decode cX0_add 12 = .ok (.ifCond .eq 11, 3) := by decide +kernel
theorem dX0_add_15 : decode cX0_add 15 = .ok (.iload 5, 2) := by decide +kernel
theorem dX0_add_17 : decode cX0_add 17 = .ok (.invokestatic 39, 3) := by decide +kernel
theorem dX0_add_20 : decode cX0_add 20 = .ok (.ifCond .ne 6, 3) := by decide +kernel
theorem dX0_add_23 : decode cX0_add 23 = .ok (.bipush (-2), 2) := by decide +kernel
theorem dX0_add_25 : decode cX0_add 25 = .ok (.ireturn, 1) := by decide +kernel
theorem dX0_add_26 : decode cX0_add 26 = .ok (.aload_n 0, 1) := by decide +kernel
theorem dX0_add_27 : decode cX0_add 27 = .ok (.iload_n 1, 1) := by decide +kernel
theorem dX0_add_28 : decode cX0_add 28 = .ok (.invokevirtual 42, 3) := by decide +kernel
theorem dX0_add_31 : decode cX0_add 31 = .ok (.astore 6, 2) := by decide +kernel
theorem dX0_add_33 : decode cX0_add 33 = .ok (.aload 6, 2) := by decide +kernel
theorem dX0_add_35 : decode cX0_add 35 = .ok (.iload_n 2, 1) := by decide +kernel
theorem dX0_add_36 : decode cX0_add 36 = .ok (.invokevirtual 46, 3) := by decide +kernel
theorem dX0_add_39 : decode cX0_add 39 = .ok (.ifCond .eq 17, 3) := by decide +kernel
theorem dX0_add_42 : decode cX0_add 42 = .ok (.iload_n 3, 1) := by decide +kernel
theorem dX0_add_43 : decode cX0_add 43 = .ok (.ifCond .lt 13, 3) := by decide +kernel
theorem dX0_add_46 : decode cX0_add 46 = .ok (.iload_n 3, 1) := by decide +kernel
theorem dX0_add_47 : decode cX0_add 47 = .ok (.aload 6, 2) := by decide +kernel
theorem dX0_add_49 : decode cX0_add 49 = .ok (.iload_n 2, 1) := by decide +kernel
theorem dX0_add_50 : decode cX0_add 50 = .ok (.invokevirtual 49, 3) := by decide +kernel
theorem dX0_add_53 : decode cX0_add 53 = .ok (.if_icmp .le 6, 3) := by decide +kernel
theorem dX0_add_56 : decode cX0_add 56 = .ok (.bipush (-2), 2) := by decide +kernel
theorem dX0_add_58 : decode cX0_add 58 = .ok (.ireturn, 1) := by decide +kernel
theorem dX0_add_59 : decode cX0_add 59 = .ok (.aload_n 0, 1) := by decide +kernel
theorem dX0_add_60 : decode cX0_add 60 = .ok (.getfield 28, 3) := by decide +kernel
theorem dX0_add_63 : decode cX0_add 63 = .ok (.bipush 16, 2) := by decide +kernel
theorem dX0_add_65 : decode cX0_add 65 = .ok (.if_icmp .lt 6, 3) := by decide +kernel
theorem dX0_add_68 : decode cX0_add 68 = .ok (.bipush (-4), 2) := by decide +kernel
theorem dX0_add_70 : decode cX0_add 70 = .ok (.ireturn, 1) := by decide +kernel
theorem dX0_add_71 : decode cX0_add 71 = .ok (.aload_n 0, 1) := by decide +kernel
theorem dX0_add_72 : decode cX0_add 72 = .ok (.getfield 28, 3) := by decide +kernel
theorem dX0_add_75 : decode cX0_add 75 = .ok (.istore 7, 2) := by decide +kernel
theorem dX0_add_77 : decode cX0_add 77 = .ok (.aload_n 0, 1) := by decide +kernel
theorem dX0_add_78 : decode cX0_add 78 = .ok (.dup, 1) := by decide +kernel
theorem dX0_add_79 : decode cX0_add 79 = .ok (.getfield 28, 3) := by decide +kernel
theorem dX0_add_82 : decode cX0_add 82 = .ok (.iconst 1, 1) := by decide +kernel
theorem dX0_add_83 : decode cX0_add 83 = .ok (.iadd, 1) := by decide +kernel
theorem dX0_add_84 : decode cX0_add 84 = .ok (.putfield 28, 3) := by decide +kernel
theorem dX0_add_87 : decode cX0_add 87 = .ok (.aload 6, 2) := by decide +kernel
theorem dX0_add_89 : decode cX0_add 89 = .ok (.iload 7, 2) := by decide +kernel
theorem dX0_add_91 : decode cX0_add 91 = .ok (.iload_n 2, 1) := by decide +kernel
theorem dX0_add_92 : decode cX0_add 92 = .ok (.iload_n 3, 1) := by decide +kernel
theorem dX0_add_93 : decode cX0_add 93 = .ok (.invokevirtual 53, 3) := by decide +kernel
theorem dX0_add_96 : decode cX0_add 96 = .ok (.aload 6, 2) := by decide +kernel
theorem dX0_add_98 : decode cX0_add 98 = .ok (.iload 7, 2) := by decide +kernel
theorem dX0_add_100 : decode cX0_add 100 = .ok (.iconst 2, 1) := by decide +kernel
theorem dX0_add_101 : decode cX0_add 101 = .ok (.iload 4, 2) := by decide +kernel
theorem dX0_add_103 : decode cX0_add 103 = .ok (.invokevirtual 57, 3) := by decide +kernel
theorem dX0_add_106 : decode cX0_add 106 = .ok (.aload 6, 2) := by decide +kernel
theorem dX0_add_108 : decode cX0_add 108 = .ok (.iload 7, 2) := by decide +kernel
theorem dX0_add_110 : decode cX0_add 110 = .ok (.iconst 3, 1) := by decide +kernel
theorem dX0_add_111 : decode cX0_add 111 = .ok (.iload 5, 2) := by decide +kernel
theorem dX0_add_113 : decode cX0_add 113 = .ok (.invokevirtual 57, 3) := by decide +kernel
theorem dX0_add_116 : decode cX0_add 116 = .ok (.iload 7, 2) := by decide +kernel
theorem dX0_add_118 : decode cX0_add 118 = .ok (.ireturn, 1) := by decide +kernel
theorem dX0_move_0 : decode cX0_move 0 = .ok (.iload_n 1, 1) := by decide +kernel
theorem dX0_move_1 : decode cX0_move 1 = .ok (.invokestatic 35, 3) := by decide +kernel
theorem dX0_move_4 : decode cX0_move 4 = .ok (.ifCond .eq 7, 3) := by decide +kernel
theorem dX0_move_7 : decode cX0_move 7 = .ok (.iload_n 2, 1) := by decide +kernel
theorem dX0_move_8 : decode cX0_move 8 = .ok (.ifCond .ne 6, 3) := by decide +kernel
theorem dX0_move_11 : decode cX0_move 11 = .ok (.bipush (-2), 2) := by decide +kernel
theorem dX0_move_13 : decode cX0_move 13 = .ok (.ireturn, 1) := by decide +kernel
theorem dX0_move_14 : decode cX0_move 14 = .ok (.aload_n 0, 1) := by decide +kernel
theorem dX0_move_15 : decode cX0_move 15 = .ok (.iload_n 1, 1) := by decide +kernel
theorem dX0_move_16 : decode cX0_move 16 = .ok (.invokevirtual 42, 3) := by decide +kernel
theorem dX0_move_19 : decode cX0_move 19 = .ok (.astore 5, 2) := by decide +kernel
theorem dX0_move_21 : decode cX0_move 21 = .ok (.aload 5, 2) := by decide +kernel
theorem dX0_move_23 : decode cX0_move 23 = .ok (.iload_n 2, 1) := by decide +kernel
theorem dX0_move_24 : decode cX0_move 24 = .ok (.invokevirtual 46, 3) := by decide +kernel
theorem dX0_move_27 : decode cX0_move 27 = .ok (.ifCond .eq 12, 3) := by decide +kernel
theorem dX0_move_30 : decode cX0_move 30 = .ok (.aload 5, 2) := by decide +kernel
theorem dX0_move_32 : decode cX0_move 32 = .ok (.iload_n 3, 1) := by decide +kernel
theorem dX0_move_33 : decode cX0_move 33 = .ok (.invokevirtual 46, 3) := by decide +kernel
theorem dX0_move_36 : decode cX0_move 36 = .ok (.ifCond .ne 6, 3) := by decide +kernel
theorem dX0_move_39 : decode cX0_move 39 = .ok (.bipush (-2), 2) := by decide +kernel
theorem dX0_move_41 : decode cX0_move 41 = .ok (.ireturn, 1) := by decide +kernel
theorem dX0_move_42 : decode cX0_move 42 = .ok (.aload 5, 2) := by decide +kernel
theorem dX0_move_44 : decode cX0_move 44 = .ok (.iload_n 3, 1) := by decide +kernel
theorem dX0_move_45 : decode cX0_move 45 = .ok (.invokevirtual 49, 3) := by decide +kernel
theorem dX0_move_48 : decode cX0_move 48 = .ok (.aload 5, 2) := by decide +kernel
theorem dX0_move_50 : decode cX0_move 50 = .ok (.iload_n 2, 1) := by decide +kernel
theorem dX0_move_51 : decode cX0_move 51 = .ok (.iload_n 3, 1) := by decide +kernel
theorem dX0_move_52 : decode cX0_move 52 = .ok (.invokevirtual 60, 3) := by decide +kernel
theorem dX0_move_55 : decode cX0_move 55 = .ok (.ifCond .eq 7, 3) := by decide +kernel
theorem dX0_move_58 : decode cX0_move 58 = .ok (.iconst 1, 1) := by decide +kernel
theorem dX0_move_59 : decode cX0_move 59 = .ok (.goto 4, 3) := by decide +kernel
theorem dX0_move_62 : decode cX0_move 62 = .ok (.iconst 0, 1) := by decide +kernel
theorem dX0_move_63 : decode cX0_move 63 = .ok (.isub, 1) := by decide +kernel
theorem dX0_move_64 : decode cX0_move 64 = .ok (.istore 6, 2) := by decide +kernel
theorem dX0_move_66 : decode cX0_move 66 = .ok (.iload 4, 2) := by decide +kernel
theorem dX0_move_68 : decode cX0_move 68 = .ok (.ifCond .lt 10, 3) := by decide +kernel
theorem dX0_move_71 : decode cX0_move 71 = .ok (.iload 4, 2) := by decide +kernel
theorem dX0_move_73 : decode cX0_move 73 = .ok (.iload 6, 2) := by decide +kernel
theorem dX0_move_75 : decode cX0_move 75 = .ok (.if_icmp .le 6, 3) := by decide +kernel
theorem dX0_move_78 : decode cX0_move 78 = .ok (.bipush (-2), 2) := by decide +kernel
theorem dX0_move_80 : decode cX0_move 80 = .ok (.ireturn, 1) := by decide +kernel
theorem dX0_move_81 : decode cX0_move 81 = .ok (.aload 5, 2) := by decide +kernel
theorem dX0_move_83 : decode cX0_move 83 = .ok (.iload_n 3, 1) := by decide +kernel
theorem dX0_move_84 : decode cX0_move 84 = .ok (.iload_n 2, 1) := by decide +kernel
theorem dX0_move_85 : decode cX0_move 85 = .ok (.invokevirtual 64, 3) := by decide +kernel
theorem dX0_move_88 : decode cX0_move 88 = .ok (.ifCond .eq 6, 3) := by decide +kernel
theorem dX0_move_91 : decode cX0_move 91 = .ok (.bipush (-3), 2) := by decide +kernel
theorem dX0_move_93 : decode cX0_move 93 = .ok (.ireturn, 1) := by decide +kernel
theorem dX0_move_94 : decode cX0_move 94 = .ok (.aload 5, 2) := by decide +kernel
theorem dX0_move_96 : decode cX0_move 96 = .ok (.iload_n 2, 1) := by decide +kernel
theorem dX0_move_97 : decode cX0_move 97 = .ok (.iconst 1, 1) := by decide +kernel
theorem dX0_move_98 : decode cX0_move 98 = .ok (.invokevirtual 67, 3) := by decide +kernel
theorem dX0_move_101 : decode cX0_move 101 = .ok (.istore 7, 2) := by decide +kernel
theorem dX0_move_103 : decode cX0_move 103 = .ok (.aload 5, 2) := by decide +kernel
theorem dX0_move_105 : decode cX0_move 105 = .ok (.iload_n 2, 1) := by decide +kernel
theorem dX0_move_106 : decode cX0_move 106 = .ok (.invokevirtual 71, 3) := by decide +kernel
theorem dX0_move_109 : decode cX0_move 109 = .ok (.aload 5, 2) := by decide +kernel
theorem dX0_move_111 : decode cX0_move 111 = .ok (.iload_n 2, 1) := by decide +kernel
theorem dX0_move_112 : decode cX0_move 112 = .ok (.iload_n 3, 1) := by decide +kernel
theorem dX0_move_113 : decode cX0_move 113 = .ok (.iload 4, 2) := by decide +kernel
theorem dX0_move_115 : decode cX0_move 115 = .ok (.invokevirtual 53, 3) := by decide +kernel
theorem dX0_move_118 : decode cX0_move 118 = .ok (.iload 7, 2) := by decide +kernel
theorem dX0_move_120 : decode cX0_move 120 = .ok (.ireturn, 1) := by decide +kernel
theorem dX0_retell_0 : decode cX0_retell 0 = .ok (.iload_n 1, 1) := by decide +kernel
theorem dX0_retell_1 : decode cX0_retell 1 = .ok (.invokestatic 35, 3) := by decide +kernel
theorem dX0_retell_4 : decode cX0_retell 4 = .ok (.ifCond .eq 11, 3) := by decide +kernel
theorem dX0_retell_7 : decode cX0_retell 7 = .ok (.iload 4, 2) := by decide +kernel
theorem dX0_retell_9 : decode cX0_retell 9 = .ok (.invokestatic 39, 3) := by decide +kernel
theorem dX0_retell_12 : decode cX0_retell 12 = .ok (.ifCond .ne 6, 3) := by decide +kernel
theorem dX0_retell_15 : decode cX0_retell 15 = .ok (.bipush (-2), 2) := by decide +kernel
theorem dX0_retell_17 : decode cX0_retell 17 = .ok (.ireturn, 1) := by decide +kernel
theorem dX0_retell_18 : decode cX0_retell 18 = .ok (.aload_n 0, 1) := by decide +kernel
theorem dX0_retell_19 : decode cX0_retell 19 = .ok (.iload_n 1, 1) := by decide +kernel
theorem dX0_retell_20 : decode cX0_retell 20 = .ok (.invokevirtual 42, 3) := by decide +kernel
theorem dX0_retell_23 : decode cX0_retell 23 = .ok (.astore 5, 2) := by decide +kernel
theorem dX0_retell_25 : decode cX0_retell 25 = .ok (.aload 5, 2) := by decide +kernel
theorem dX0_retell_27 : decode cX0_retell 27 = .ok (.iload_n 2, 1) := by decide +kernel
theorem dX0_retell_28 : decode cX0_retell 28 = .ok (.invokevirtual 46, 3) := by decide +kernel
theorem dX0_retell_31 : decode cX0_retell 31 = .ok (.ifCond .ne 6, 3) := by decide +kernel
theorem dX0_retell_34 : decode cX0_retell 34 = .ok (.bipush (-2), 2) := by decide +kernel
theorem dX0_retell_36 : decode cX0_retell 36 = .ok (.ireturn, 1) := by decide +kernel
theorem dX0_retell_37 : decode cX0_retell 37 = .ok (.aload 5, 2) := by decide +kernel
theorem dX0_retell_39 : decode cX0_retell 39 = .ok (.iload_n 2, 1) := by decide +kernel
theorem dX0_retell_40 : decode cX0_retell 40 = .ok (.iload_n 3, 1) := by decide +kernel
theorem dX0_retell_41 : decode cX0_retell 41 = .ok (.invokevirtual 67, 3) := by decide +kernel
theorem dX0_retell_44 : decode cX0_retell 44 = .ok (.istore 6, 2) := by decide +kernel
theorem dX0_retell_46 : decode cX0_retell 46 = .ok (.aload 5, 2) := by decide +kernel
theorem dX0_retell_48 : decode cX0_retell 48 = .ok (.iload_n 2, 1) := by decide +kernel
theorem dX0_retell_49 : decode cX0_retell 49 = .ok (.iload_n 3, 1) := by decide +kernel
theorem dX0_retell_50 : decode cX0_retell 50 = .ok (.iload 4, 2) := by decide +kernel
theorem dX0_retell_52 : decode cX0_retell 52 = .ok (.invokevirtual 57, 3) := by decide +kernel
theorem dX0_retell_55 : decode cX0_retell 55 = .ok (.iload 6, 2) := by decide +kernel
theorem dX0_retell_57 : decode cX0_retell 57 = .ok (.ireturn, 1) := by decide +kernel
theorem dX0_delete_0 : decode cX0_delete 0 = .ok (.iload_n 1, 1) := by decide +kernel
theorem dX0_delete_1 : decode cX0_delete 1 = .ok (.invokestatic 35, 3) := by decide +kernel
theorem dX0_delete_4 : decode cX0_delete 4 = .ok (.ifCond .eq 19, 3) := by decide +kernel
theorem dX0_delete_7 : decode cX0_delete 7 = .ok (.iload_n 2, 1) := by decide +kernel
theorem dX0_delete_8 : decode cX0_delete 8 = .ok (.ifCond .eq 15, 3) := by decide +kernel
theorem dX0_delete_11 : decode cX0_delete 11 = .ok (.aload_n 0, 1) := by decide +kernel
theorem dX0_delete_12 : decode cX0_delete 12 = .ok (.iload_n 1, 1) := by decide +kernel
theorem dX0_delete_13 : decode cX0_delete 13 = .ok (.invokevirtual 42, 3) := by decide +kernel
theorem dX0_delete_16 : decode cX0_delete 16 = .ok (.iload_n 2, 1) := by decide +kernel
theorem dX0_delete_17 : decode cX0_delete 17 = .ok (.invokevirtual 46, 3) := by decide +kernel
theorem dX0_delete_20 : decode cX0_delete 20 = .ok (.ifCond .ne 6, 3) := by decide +kernel
theorem dX0_delete_23 : decode cX0_delete 23 = .ok (.bipush (-2), 2) := by decide +kernel
theorem dX0_delete_25 : decode cX0_delete 25 = .ok (.ireturn, 1) := by decide +kernel
theorem dX0_delete_26 : decode cX0_delete 26 = .ok (.aload_n 0, 1) := by decide +kernel
theorem dX0_delete_27 : decode cX0_delete 27 = .ok (.iload_n 1, 1) := by decide +kernel
theorem dX0_delete_28 : decode cX0_delete 28 = .ok (.invokevirtual 42, 3) := by decide +kernel
theorem dX0_delete_31 : decode cX0_delete 31 = .ok (.iload_n 2, 1) := by decide +kernel
theorem dX0_delete_32 : decode cX0_delete 32 = .ok (.invokevirtual 75, 3) := by decide +kernel
theorem dX0_delete_35 : decode cX0_delete 35 = .ok (.ireturn, 1) := by decide +kernel
theorem dX0_fork_0 : decode cX0_fork 0 = .ok (.aload_n 0, 1) := by decide +kernel
theorem dX0_fork_1 : decode cX0_fork 1 = .ok (.getfield 18, 3) := by decide +kernel
theorem dX0_fork_4 : decode cX0_fork 4 = .ok (.aload_n 0, 1) := by decide +kernel
theorem dX0_fork_5 : decode cX0_fork 5 = .ok (.getfield 12, 3) := by decide +kernel
theorem dX0_fork_8 : decode cX0_fork 8 = .ok (.invokevirtual 31, 3) := by decide +kernel
theorem dX0_fork_11 : decode cX0_fork 11 = .ok (.aload_n 0, 1) := by decide +kernel
theorem dX0_fork_12 : decode cX0_fork 12 = .ok (.getfield 21, 3) := by decide +kernel
theorem dX0_fork_15 : decode cX0_fork 15 = .ok (.aload_n 0, 1) := by decide +kernel
theorem dX0_fork_16 : decode cX0_fork 16 = .ok (.getfield 12, 3) := by decide +kernel
theorem dX0_fork_19 : decode cX0_fork 19 = .ok (.invokevirtual 31, 3) := by decide +kernel
theorem dX0_fork_22 : decode cX0_fork 22 = .ok (.aload_n 0, 1) := by decide +kernel
theorem dX0_fork_23 : decode cX0_fork 23 = .ok (.getfield 12, 3) := by decide +kernel
theorem dX0_fork_26 : decode cX0_fork 26 = .ok (.invokevirtual 78, 3) := by decide +kernel
theorem dX0_fork_29 : decode cX0_fork 29 = .ok (.ireturn, 1) := by decide +kernel
theorem dX0_prefer_0 : decode cX0_prefer 0 = .ok (.iload_n 1, 1) := by decide +kernel
theorem dX0_prefer_1 : decode cX0_prefer 1 = .ok (.invokestatic 82, 3) := by decide +kernel
theorem dX0_prefer_4 : decode cX0_prefer 4 = .ok (.ifCond .ne 6, 3) := by decide +kernel
theorem dX0_prefer_7 : decode cX0_prefer 7 = .ok (.bipush (-2), 2) := by decide +kernel
theorem dX0_prefer_9 : decode cX0_prefer 9 = .ok (.ireturn, 1) := by decide +kernel
theorem dX0_prefer_10 : decode cX0_prefer 10 = .ok (.aload_n 0, 1) := by decide +kernel
theorem dX0_prefer_11 : decode cX0_prefer 11 = .ok (.getfield 24, 3) := by decide +kernel
theorem dX0_prefer_14 : decode cX0_prefer 14 = .ok (.istore_n 2, 1) := by decide +kernel
theorem dX0_prefer_15 : decode cX0_prefer 15 = .ok (.aload_n 0, 1) := by decide +kernel
theorem dX0_prefer_16 : decode cX0_prefer 16 = .ok (.iload_n 1, 1) := by decide +kernel
theorem dX0_prefer_17 : decode cX0_prefer 17 = .ok (.putfield 24, 3) := by decide +kernel
theorem dX0_prefer_20 : decode cX0_prefer 20 = .ok (.iload_n 2, 1) := by decide +kernel
theorem dX0_prefer_21 : decode cX0_prefer 21 = .ok (.ireturn, 1) := by decide +kernel
theorem dX0_adopt_0 : decode cX0_adopt 0 = .ok (.aload_n 0, 1) := by decide +kernel
theorem dX0_adopt_1 : decode cX0_adopt 1 = .ok (.getfield 12, 3) := by decide +kernel
theorem dX0_adopt_4 : decode cX0_adopt 4 = .ok (.aload_n 1, 1) := by decide +kernel
theorem dX0_adopt_5 : decode cX0_adopt 5 = .ok (.invokevirtual 31, 3) := by decide +kernel
theorem dX0_adopt_8 : decode cX0_adopt 8 = .ok (.aload_n 0, 1) := by decide +kernel
theorem dX0_adopt_9 : decode cX0_adopt 9 = .ok (.invokevirtual 85, 3) := by decide +kernel
theorem dX0_adopt_12 : decode cX0_adopt 12 = .ok (.ireturn, 1) := by decide +kernel
theorem dX1_init_0 : decode cX1_init 0 = .ok (.aload_n 0, 1) := by decide +kernel
theorem dX1_init_1 : decode cX1_init 1 = .ok (.invokespecial 3, 3) := by decide +kernel
theorem dX1_init_4 : decode cX1_init 4 = .ok (.aload_n 0, 1) := by decide +kernel
theorem dX1_init_5 : decode cX1_init 5 = .ok (.iconst 5, 1) := by decide +kernel
theorem dX1_init_6 : decode cX1_init 6 = .ok (.anewarray 9, 3) := by decide +kernel
theorem dX1_init_9 : decode cX1_init 9 = .ok (.putfield 11, 3) := by decide +kernel
theorem dX1_init_12 : decode cX1_init 12 = .ok (.aload_n 0, 1) := by decide +kernel
theorem dX1_init_13 : decode cX1_init 13 = .ok (.iconst 0, 1) := by decide +kernel
theorem dX1_init_14 : decode cX1_init 14 = .ok (.putfield 17, 3) := by decide +kernel
theorem dX1_init_17 : decode cX1_init 17 = .ok (.aload_n 0, 1) := by decide +kernel
theorem dX1_init_18 : decode cX1_init 18 = .ok (.iconst 0, 1) := by decide +kernel
theorem dX1_init_19 : decode cX1_init 19 = .ok (.putfield 21, 3) := by decide +kernel
theorem dX1_init_22 : decode cX1_init 22 = .ok (.iconst 0, 1) := by decide +kernel
theorem dX1_init_23 : decode cX1_init 23 = .ok (.istore_n 1, 1) := by decide +kernel
theorem dX1_init_24 : decode cX1_init 24 = .ok (.iload_n 1, 1) := by decide +kernel
theorem dX1_init_25 : decode cX1_init 25 = .ok (.iconst 5, 1) := by decide +kernel
theorem dX1_init_26 : decode cX1_init 26 = .ok (.if_icmp .ge 22, 3) := by decide +kernel
theorem dX1_init_29 : decode cX1_init 29 = .ok (.aload_n 0, 1) := by decide +kernel
theorem dX1_init_30 : decode cX1_init 30 = .ok (.getfield 11, 3) := by decide +kernel
theorem dX1_init_33 : decode cX1_init 33 = .ok (.iload_n 1, 1) := by decide +kernel
theorem dX1_init_34 : decode cX1_init 34 = .ok (.new 9, 3) := by decide +kernel
theorem dX1_init_37 : decode cX1_init 37 = .ok (.dup, 1) := by decide +kernel
theorem dX1_init_38 : decode cX1_init 38 = .ok (.invokespecial 24, 3) := by decide +kernel
theorem dX1_init_41 : decode cX1_init 41 = .ok (.aastore, 1) := by decide +kernel
theorem dX1_init_42 : decode cX1_init 42 = .ok (.iinc 1 1, 3) := by decide +kernel
theorem dX1_init_45 : decode cX1_init 45 = .ok (.goto (-21), 3) := by decide +kernel
theorem dX1_init_48 : decode cX1_init 48 = .ok (.return_, 1) := by decide +kernel
theorem dX1_keep_0 : decode cX1_keep 0 = .ok (.aload_n 0, 1) := by decide +kernel
theorem dX1_keep_1 : decode cX1_keep 1 = .ok (.aload_n 0, 1) := by decide +kernel
theorem dX1_keep_2 : decode cX1_keep 2 = .ok (.getfield 17, 3) := by decide +kernel
theorem dX1_keep_5 : decode cX1_keep 5 = .ok (.invokevirtual 25, 3) := by decide +kernel
theorem dX1_keep_8 : decode cX1_keep 8 = .ok (.astore_n 2, 1) := by decide +kernel
theorem dX1_keep_9 : decode cX1_keep 9 = .ok (.aload_n 2, 1) := by decide +kernel
theorem dX1_keep_10 : decode cX1_keep 10 = .ok (.ifnull 8, 3) := by decide +kernel
theorem dX1_keep_13 : decode cX1_keep 13 = .ok (.aload_n 2, 1) := by decide +kernel
theorem dX1_keep_14 : decode cX1_keep 14 = .ok (.aload_n 1, 1) := by decide +kernel
theorem dX1_keep_15 : decode cX1_keep 15 = .ok (.invokevirtual 29, 3) := by decide +kernel
theorem dX1_keep_18 : decode cX1_keep 18 = .ok (.aload_n 0, 1) := by decide +kernel
theorem dX1_keep_19 : decode cX1_keep 19 = .ok (.aload_n 0, 1) := by decide +kernel
theorem dX1_keep_20 : decode cX1_keep 20 = .ok (.getfield 17, 3) := by decide +kernel
theorem dX1_keep_23 : decode cX1_keep 23 = .ok (.iconst 1, 1) := by decide +kernel
theorem dX1_keep_24 : decode cX1_keep 24 = .ok (.iadd, 1) := by decide +kernel
theorem dX1_keep_25 : decode cX1_keep 25 = .ok (.iconst 5, 1) := by decide +kernel
theorem dX1_keep_26 : decode cX1_keep 26 = .ok (.if_icmp .ge 12, 3) := by decide +kernel
theorem dX1_keep_29 : decode cX1_keep 29 = .ok (.aload_n 0, 1) := by decide +kernel
theorem dX1_keep_30 : decode cX1_keep 30 = .ok (.getfield 17, 3) := by decide +kernel
theorem dX1_keep_33 : decode cX1_keep 33 = .ok (.iconst 1, 1) := by decide +kernel
theorem dX1_keep_34 : decode cX1_keep 34 = .ok (.iadd, 1) := by decide +kernel
theorem dX1_keep_35 : decode cX1_keep 35 = .ok (.goto 4, 3) := by decide +kernel
theorem dX1_keep_38 : decode cX1_keep 38 = .ok (.iconst 0, 1) := by decide +kernel
theorem dX1_keep_39 : decode cX1_keep 39 = .ok (.putfield 17, 3) := by decide +kernel
theorem dX1_keep_42 : decode cX1_keep 42 = .ok (.aload_n 0, 1) := by decide +kernel
theorem dX1_keep_43 : decode cX1_keep 43 = .ok (.aload_n 0, 1) := by decide +kernel
theorem dX1_keep_44 : decode cX1_keep 44 = .ok (.getfield 21, 3) := by decide +kernel
theorem dX1_keep_47 : decode cX1_keep 47 = .ok (.iconst 1, 1) := by decide +kernel
theorem dX1_keep_48 : decode cX1_keep 48 = .ok (.iadd, 1) := by decide +kernel
theorem dX1_keep_49 : decode cX1_keep 49 = .ok (.iconst 5, 1) := by decide +kernel
theorem dX1_keep_50 : decode cX1_keep 50 = .ok (.invokestatic 33, 3) := by decide +kernel
theorem dX1_keep_53 : decode cX1_keep 53 = .ok (.putfield 21, 3) := by decide +kernel
theorem dX1_keep_56 : decode cX1_keep 56 = .ok (.return_, 1) := by decide +kernel
theorem dX1_takeBack_0 : decode cX1_takeBack 0 = .ok (.aload_n 0, 1) := by decide +kernel
theorem dX1_takeBack_1 : decode cX1_takeBack 1 = .ok (.getfield 21, 3) := by decide +kernel
theorem dX1_takeBack_4 : decode cX1_takeBack 4 = .ok (.ifCond .ne 4, 3) := by decide +kernel
theorem dX1_takeBack_7 : decode cX1_takeBack 7 = .ok (.return_, 1) := by decide +kernel
theorem dX1_takeBack_8 : decode cX1_takeBack 8 = .ok (.aload_n 0, 1) := by decide +kernel
theorem dX1_takeBack_9 : decode cX1_takeBack 9 = .ok (.aload_n 0, 1) := by decide +kernel
theorem dX1_takeBack_10 : decode cX1_takeBack 10 = .ok (.getfield 17, 3) := by decide +kernel
theorem dX1_takeBack_13 : decode cX1_takeBack 13 = .ok (.ifCond .le 12, 3) := by decide +kernel
theorem dX1_takeBack_16 : decode cX1_takeBack 16 = .ok (.aload_n 0, 1) := by decide +kernel
theorem dX1_takeBack_17 : decode cX1_takeBack 17 = .ok (.getfield 17, 3) := by decide +kernel
theorem dX1_takeBack_20 : decode cX1_takeBack 20 = .ok (.iconst 1, 1) := by decide +kernel
theorem dX1_takeBack_21 : decode cX1_takeBack 21 = .ok (.isub, 1) := by decide +kernel
theorem dX1_takeBack_22 : decode cX1_takeBack 22 = .ok (.goto 4, 3) := by decide +kernel
theorem dX1_takeBack_25 : decode cX1_takeBack 25 = .ok (.iconst 4, 1) := by decide +kernel
theorem dX1_takeBack_26 : decode cX1_takeBack 26 = .ok (.putfield 17, 3) := by decide +kernel
theorem dX1_takeBack_29 : decode cX1_takeBack 29 = .ok (.aload_n 0, 1) := by decide +kernel
theorem dX1_takeBack_30 : decode cX1_takeBack 30 = .ok (.dup, 1) := by decide +kernel
theorem dX1_takeBack_31 : decode cX1_takeBack 31 = .ok (.getfield 21, 3) := by decide +kernel
theorem dX1_takeBack_34 : decode cX1_takeBack 34 = .ok (.iconst 1, 1) := by decide +kernel
theorem dX1_takeBack_35 : decode cX1_takeBack 35 = .ok (.isub, 1) := by decide +kernel
theorem dX1_takeBack_36 : decode cX1_takeBack 36 = .ok (.putfield 21, 3) := by decide +kernel
theorem dX1_takeBack_39 : decode cX1_takeBack 39 = .ok (.aload_n 0, 1) := by decide +kernel
theorem dX1_takeBack_40 : decode cX1_takeBack 40 = .ok (.aload_n 0, 1) := by decide +kernel
theorem dX1_takeBack_41 : decode cX1_takeBack 41 = .ok (.getfield 17, 3) := by decide +kernel
theorem dX1_takeBack_44 : decode cX1_takeBack 44 = .ok (.invokevirtual 25, 3) := by decide +kernel
theorem dX1_takeBack_47 : decode cX1_takeBack 47 = .ok (.astore_n 2, 1) := by decide +kernel
theorem dX1_takeBack_48 : decode cX1_takeBack 48 = .ok (.aload_n 2, 1) := by decide +kernel
theorem dX1_takeBack_49 : decode cX1_takeBack 49 = .ok (.ifnull 8, 3) := by decide +kernel
theorem dX1_takeBack_52 : decode cX1_takeBack 52 = .ok (.aload_n 1, 1) := by decide +kernel
theorem dX1_takeBack_53 : decode cX1_takeBack 53 = .ok (.aload_n 2, 1) := by decide +kernel
theorem dX1_takeBack_54 : decode cX1_takeBack 54 = .ok (.invokevirtual 29, 3) := by decide +kernel
theorem dX1_takeBack_57 : decode cX1_takeBack 57 = .ok (.return_, 1) := by decide +kernel
theorem dX1_slot_0 : decode cX1_slot 0 = .ok (.iload_n 1, 1) := by decide +kernel
theorem dX1_slot_1 : decode cX1_slot 1 = .ok (.ifCond .lt 17, 3) := by decide +kernel
theorem dX1_slot_4 : decode cX1_slot 4 = .ok (.iload_n 1, 1) := by decide +kernel
theorem dX1_slot_5 : decode cX1_slot 5 = .ok (.iconst 5, 1) := by decide +kernel
theorem dX1_slot_6 : decode cX1_slot 6 = .ok (.if_icmp .ge 12, 3) := by decide +kernel
theorem dX1_slot_9 : decode cX1_slot 9 = .ok (.aload_n 0, 1) := by decide +kernel
theorem dX1_slot_10 : decode cX1_slot 10 = .ok (.getfield 11, 3) := by decide +kernel
theorem dX1_slot_13 : decode cX1_slot 13 = .ok (.iload_n 1, 1) := by decide +kernel
theorem dX1_slot_14 : decode cX1_slot 14 = .ok (.aaload, 1) := by decide +kernel
theorem dX1_slot_15 : decode cX1_slot 15 = .ok (.goto 4, 3) := by decide +kernel
theorem dX1_slot_18 : decode cX1_slot 18 = .ok (.aconst_null, 1) := by decide +kernel
theorem dX1_slot_19 : decode cX1_slot 19 = .ok (.areturn, 1) := by decide +kernel
theorem dX2_init_0 : decode cX2_init 0 = .ok (.aload_n 0, 1) := by decide +kernel
theorem dX2_init_1 : decode cX2_init 1 = .ok (.invokespecial 3, 3) := by decide +kernel
theorem dX2_init_4 : decode cX2_init 4 = .ok (.aload_n 0, 1) := by decide +kernel
theorem dX2_init_5 : decode cX2_init 5 = .ok (.sipush 256, 3) := by decide +kernel
theorem dX2_init_8 : decode cX2_init 8 = .ok (.newarray .int, 2) := by decide +kernel
theorem dX2_init_10 : decode cX2_init 10 = .ok (.putfield 9, 3) := by decide +kernel
theorem dX2_init_13 : decode cX2_init 13 = .ok (.aload_n 0, 1) := by decide +kernel
theorem dX2_init_14 : decode cX2_init 14 = .ok (.bipush 16, 2) := by decide +kernel
theorem dX2_init_16 : decode cX2_init 16 = .ok (.newarray .int, 2) := by decide +kernel
theorem dX2_init_18 : decode cX2_init 18 = .ok (.putfield 15, 3) := by decide +kernel
theorem dX2_init_21 : decode cX2_init 21 = .ok (.aload_n 0, 1) := by decide +kernel
theorem dX2_init_22 : decode cX2_init 22 = .ok (.bipush 16, 2) := by decide +kernel
theorem dX2_init_24 : decode cX2_init 24 = .ok (.newarray .boolean, 2) := by decide +kernel
theorem dX2_init_26 : decode cX2_init 26 = .ok (.putfield 18, 3) := by decide +kernel
theorem dX2_init_29 : decode cX2_init 29 = .ok (.return_, 1) := by decide +kernel
theorem dX2_match_0 : decode cX2_match 0 = .ok (.iconst 0, 1) := by decide +kernel
theorem dX2_match_1 : decode cX2_match 1 = .ok (.istore_n 3, 1) := by decide +kernel
theorem dX2_match_2 : decode cX2_match 2 = .ok (.iload_n 3, 1) := by decide +kernel
theorem dX2_match_3 : decode cX2_match 3 = .ok (.bipush 16, 2) := by decide +kernel
theorem dX2_match_5 : decode cX2_match 5 = .ok (.if_icmp .ge 35, 3) := by decide +kernel
theorem dX2_match_8 : decode cX2_match 8 = .ok (.aload_n 0, 1) := by decide +kernel
theorem dX2_match_9 : decode cX2_match 9 = .ok (.getfield 15, 3) := by decide +kernel
theorem dX2_match_12 : decode cX2_match 12 = .ok (.iload_n 3, 1) := by decide +kernel
theorem dX2_match_13 : decode cX2_match 13 = .ok (.iconst (-1), 1) := by decide +kernel
theorem dX2_match_14 : decode cX2_match 14 = .ok (.iastore, 1) := by decide +kernel
theorem dX2_match_15 : decode cX2_match 15 = .ok (.aload_n 0, 1) := by decide +kernel
theorem dX2_match_16 : decode cX2_match 16 = .ok (.getfield 18, 3) := by decide +kernel
theorem dX2_match_19 : decode cX2_match 19 = .ok (.iload_n 3, 1) := by decide +kernel
theorem dX2_match_20 : decode cX2_match 20 = .ok (.aload_n 1, 1) := by decide +kernel
theorem dX2_match_21 : decode cX2_match 21 = .ok (.iload_n 3, 1) := by decide +kernel
theorem dX2_match_22 : decode cX2_match 22 = .ok (.invokevirtual 22, 3) := by decide +kernel
theorem dX2_match_25 : decode cX2_match 25 = .ok (.ifCond .ne 7, 3) := by decide +kernel
theorem dX2_match_28 : decode cX2_match 28 = .ok (.iconst 1, 1) := by decide +kernel
theorem dX2_match_29 : decode cX2_match 29 = .ok (.goto 4, 3) := by decide +kernel
theorem dX2_match_32 : decode cX2_match 32 = .ok (.iconst 0, 1) := by decide +kernel
theorem dX2_match_33 : decode cX2_match 33 = .ok (.bastore, 1) := by decide +kernel
theorem dX2_match_34 : decode cX2_match 34 = .ok (.iinc 3 1, 3) := by decide +kernel
theorem dX2_match_37 : decode cX2_match 37 = .ok (.goto (-35), 3) := by decide +kernel
theorem dX2_match_40 : decode cX2_match 40 = .ok (.iconst 1, 1) := by decide +kernel
theorem dX2_match_41 : decode cX2_match 41 = .ok (.istore_n 3, 1) := by decide +kernel
theorem dX2_match_42 : decode cX2_match 42 = .ok (.iload_n 3, 1) := by decide +kernel
theorem dX2_match_43 : decode cX2_match 43 = .ok (.bipush 16, 2) := by decide +kernel
theorem dX2_match_45 : decode cX2_match 45 = .ok (.if_icmp .ge 54, 3) := by decide +kernel
theorem dX2_match_48 : decode cX2_match 48 = .ok (.iconst 1, 1) := by decide +kernel
theorem dX2_match_49 : decode cX2_match 49 = .ok (.istore 4, 2) := by decide +kernel
theorem dX2_match_51 : decode cX2_match 51 = .ok (.iload 4, 2) := by decide +kernel
theorem dX2_match_53 : decode cX2_match 53 = .ok (.bipush 16, 2) := by decide +kernel
theorem dX2_match_55 : decode cX2_match 55 = .ok (.if_icmp .ge 38, 3) := by decide +kernel
theorem dX2_match_58 : decode cX2_match 58 = .ok (.aload_n 0, 1) := by decide +kernel
theorem dX2_match_59 : decode cX2_match 59 = .ok (.getfield 18, 3) := by decide +kernel
theorem dX2_match_62 : decode cX2_match 62 = .ok (.iload_n 3, 1) := by decide +kernel
theorem dX2_match_63 : decode cX2_match 63 = .ok (.baload, 1) := by decide +kernel
theorem dX2_match_64 : decode cX2_match 64 = .ok (.ifCond .ne 29, 3) := by decide +kernel
theorem dX2_match_67 : decode cX2_match 67 = .ok (.aload_n 0, 1) := by decide +kernel
theorem dX2_match_68 : decode cX2_match 68 = .ok (.getfield 9, 3) := by decide +kernel
theorem dX2_match_71 : decode cX2_match 71 = .ok (.iload_n 3, 1) := by decide +kernel
theorem dX2_match_72 : decode cX2_match 72 = .ok (.bipush 16, 2) := by decide +kernel
theorem dX2_match_74 : decode cX2_match 74 = .ok (.imul, 1) := by decide +kernel
theorem dX2_match_75 : decode cX2_match 75 = .ok (.iload 4, 2) := by decide +kernel
theorem dX2_match_77 : decode cX2_match 77 = .ok (.iadd, 1) := by decide +kernel
theorem dX2_match_78 : decode cX2_match 78 = .ok (.aload_n 1, 1) := by decide +kernel
theorem dX2_match_79 : decode cX2_match 79 = .ok (.iload_n 3, 1) := by decide +kernel
theorem dX2_match_80 : decode cX2_match 80 = .ok (.aload_n 2, 1) := by decide +kernel
theorem dX2_match_81 : decode cX2_match 81 = .ok (.iload 4, 2) := by decide +kernel
theorem dX2_match_83 : decode cX2_match 83 = .ok (.invokestatic 28, 3) := by decide +kernel
theorem dX2_match_86 : decode cX2_match 86 = .ok (.iastore, 1) := by decide +kernel
theorem dX2_match_87 : decode cX2_match 87 = .ok (.iinc 4 1, 3) := by decide +kernel
theorem dX2_match_90 : decode cX2_match 90 = .ok (.goto (-39), 3) := by decide +kernel
theorem dX2_match_93 : decode cX2_match 93 = .ok (.iinc 3 1, 3) := by decide +kernel
theorem dX2_match_96 : decode cX2_match 96 = .ok (.goto (-54), 3) := by decide +kernel
theorem dX2_match_99 : decode cX2_match 99 = .ok (.bipush 9, 2) := by decide +kernel
theorem dX2_match_101 : decode cX2_match 101 = .ok (.istore_n 3, 1) := by decide +kernel
theorem dX2_match_102 : decode cX2_match 102 = .ok (.iload_n 3, 1) := by decide +kernel
theorem dX2_match_103 : decode cX2_match 103 = .ok (.iconst 3, 1) := by decide +kernel
theorem dX2_match_104 : decode cX2_match 104 = .ok (.if_icmp .lt 14, 3) := by decide +kernel
theorem dX2_match_107 : decode cX2_match 107 = .ok (.aload_n 0, 1) := by decide +kernel
theorem dX2_match_108 : decode cX2_match 108 = .ok (.iload_n 3, 1) := by decide +kernel
theorem dX2_match_109 : decode cX2_match 109 = .ok (.invokevirtual 32, 3) := by decide +kernel
theorem dX2_match_112 : decode cX2_match 112 = .ok (.iinc 3 (-1), 3) := by decide +kernel
theorem dX2_match_115 : decode cX2_match 115 = .ok (.goto (-13), 3) := by decide +kernel
theorem dX2_match_118 : decode cX2_match 118 = .ok (.return_, 1) := by decide +kernel
theorem dX2_score_0 : decode cX2_score 0 = .ok (.aload_n 2, 1) := by decide +kernel
theorem dX2_score_1 : decode cX2_score 1 = .ok (.iload_n 3, 1) := by decide +kernel
theorem dX2_score_2 : decode cX2_score 2 = .ok (.invokevirtual 22, 3) := by decide +kernel
theorem dX2_score_5 : decode cX2_score 5 = .ok (.ifCond .ne 5, 3) := by decide +kernel
theorem dX2_score_8 : decode cX2_score 8 = .ok (.iconst 0, 1) := by decide +kernel
theorem dX2_score_9 : decode cX2_score 9 = .ok (.ireturn, 1) := by decide +kernel
theorem dX2_score_10 : decode cX2_score 10 = .ok (.aload_n 0, 1) := by decide +kernel
theorem dX2_score_11 : decode cX2_score 11 = .ok (.iload_n 1, 1) := by decide +kernel
theorem dX2_score_12 : decode cX2_score 12 = .ok (.iconst 2, 1) := by decide +kernel
theorem dX2_score_13 : decode cX2_score 13 = .ok (.invokevirtual 36, 3) := by decide +kernel
theorem dX2_score_16 : decode cX2_score 16 = .ok (.aload_n 2, 1) := by decide +kernel
theorem dX2_score_17 : decode cX2_score 17 = .ok (.iload_n 3, 1) := by decide +kernel
theorem dX2_score_18 : decode cX2_score 18 = .ok (.iconst 2, 1) := by decide +kernel
theorem dX2_score_19 : decode cX2_score 19 = .ok (.invokevirtual 36, 3) := by decide +kernel
theorem dX2_score_22 : decode cX2_score 22 = .ok (.if_icmp .ne 7, 3) := by decide +kernel
theorem dX2_score_25 : decode cX2_score 25 = .ok (.iconst 4, 1) := by decide +kernel
theorem dX2_score_26 : decode cX2_score 26 = .ok (.goto 4, 3) := by decide +kernel
theorem dX2_score_29 : decode cX2_score 29 = .ok (.iconst 0, 1) := by decide +kernel
theorem dX2_score_30 : decode cX2_score 30 = .ok (.istore 4, 2) := by decide +kernel
theorem dX2_score_32 : decode cX2_score 32 = .ok (.iload 4, 2) := by decide +kernel
theorem dX2_score_34 : decode cX2_score 34 = .ok (.aload_n 0, 1) := by decide +kernel
theorem dX2_score_35 : decode cX2_score 35 = .ok (.iload_n 1, 1) := by decide +kernel
theorem dX2_score_36 : decode cX2_score 36 = .ok (.iconst 3, 1) := by decide +kernel
theorem dX2_score_37 : decode cX2_score 37 = .ok (.invokevirtual 36, 3) := by decide +kernel
theorem dX2_score_40 : decode cX2_score 40 = .ok (.aload_n 2, 1) := by decide +kernel
theorem dX2_score_41 : decode cX2_score 41 = .ok (.iload_n 3, 1) := by decide +kernel
theorem dX2_score_42 : decode cX2_score 42 = .ok (.iconst 3, 1) := by decide +kernel
theorem dX2_score_43 : decode cX2_score 43 = .ok (.invokevirtual 36, 3) := by decide +kernel
theorem dX2_score_46 : decode cX2_score 46 = .ok (.if_icmp .ne 7, 3) := by decide +kernel
theorem dX2_score_49 : decode cX2_score 49 = .ok (.iconst 2, 1) := by decide +kernel
theorem dX2_score_50 : decode cX2_score 50 = .ok (.goto 4, 3) := by decide +kernel
theorem dX2_score_53 : decode cX2_score 53 = .ok (.iconst 0, 1) := by decide +kernel
theorem dX2_score_54 : decode cX2_score 54 = .ok (.iadd, 1) := by decide +kernel
theorem dX2_score_55 : decode cX2_score 55 = .ok (.istore 4, 2) := by decide +kernel
theorem dX2_score_57 : decode cX2_score 57 = .ok (.aload_n 0, 1) := by decide +kernel
theorem dX2_score_58 : decode cX2_score 58 = .ok (.iload_n 1, 1) := by decide +kernel
theorem dX2_score_59 : decode cX2_score 59 = .ok (.iconst 0, 1) := by decide +kernel
theorem dX2_score_60 : decode cX2_score 60 = .ok (.invokevirtual 36, 3) := by decide +kernel
theorem dX2_score_63 : decode cX2_score 63 = .ok (.istore 5, 2) := by decide +kernel
theorem dX2_score_65 : decode cX2_score 65 = .ok (.aload_n 2, 1) := by decide +kernel
theorem dX2_score_66 : decode cX2_score 66 = .ok (.iload_n 3, 1) := by decide +kernel
theorem dX2_score_67 : decode cX2_score 67 = .ok (.iconst 0, 1) := by decide +kernel
theorem dX2_score_68 : decode cX2_score 68 = .ok (.invokevirtual 36, 3) := by decide +kernel
theorem dX2_score_71 : decode cX2_score 71 = .ok (.istore 6, 2) := by decide +kernel
theorem dX2_score_73 : decode cX2_score 73 = .ok (.iload 4, 2) := by decide +kernel
theorem dX2_score_75 : decode cX2_score 75 = .ok (.aload_n 0, 1) := by decide +kernel
theorem dX2_score_76 : decode cX2_score 76 = .ok (.iload 5, 2) := by decide +kernel
theorem dX2_score_78 : decode cX2_score 78 = .ok (.iconst 2, 1) := by decide +kernel
theorem dX2_score_79 : decode cX2_score 79 = .ok (.invokevirtual 36, 3) := by decide +kernel
theorem dX2_score_82 : decode cX2_score 82 = .ok (.aload_n 2, 1) := by decide +kernel
theorem dX2_score_83 : decode cX2_score 83 = .ok (.iload 6, 2) := by decide +kernel
theorem dX2_score_85 : decode cX2_score 85 = .ok (.iconst 2, 1) := by decide +kernel
theorem dX2_score_86 : decode cX2_score 86 = .ok (.invokevirtual 36, 3) := by decide +kernel
theorem dX2_score_89 : decode cX2_score 89 = .ok (.if_icmp .ne 7, 3) := by decide +kernel
theorem dX2_score_92 : decode cX2_score 92 = .ok (.iconst 2, 1) := by decide +kernel
theorem dX2_score_93 : decode cX2_score 93 = .ok (.goto 4, 3) := by decide +kernel
theorem dX2_score_96 : decode cX2_score 96 = .ok (.iconst 0, 1) := by decide +kernel
theorem dX2_score_97 : decode cX2_score 97 = .ok (.iadd, 1) := by decide +kernel
theorem dX2_score_98 : decode cX2_score 98 = .ok (.istore 4, 2) := by decide +kernel
theorem dX2_score_100 : decode cX2_score 100 = .ok (.iload 4, 2) := by decide +kernel
theorem dX2_score_102 : decode cX2_score 102 = .ok (.aload_n 0, 1) := by decide +kernel
theorem dX2_score_103 : decode cX2_score 103 = .ok (.iload_n 1, 1) := by decide +kernel
theorem dX2_score_104 : decode cX2_score 104 = .ok (.iconst 1, 1) := by decide +kernel
theorem dX2_score_105 : decode cX2_score 105 = .ok (.invokevirtual 36, 3) := by decide +kernel
theorem dX2_score_108 : decode cX2_score 108 = .ok (.aload_n 2, 1) := by decide +kernel
theorem dX2_score_109 : decode cX2_score 109 = .ok (.iload_n 3, 1) := by decide +kernel
theorem dX2_score_110 : decode cX2_score 110 = .ok (.iconst 1, 1) := by decide +kernel
theorem dX2_score_111 : decode cX2_score 111 = .ok (.invokevirtual 36, 3) := by decide +kernel
theorem dX2_score_114 : decode cX2_score 114 = .ok (.if_icmp .ne 7, 3) := by decide +kernel
theorem dX2_score_117 : decode cX2_score 117 = .ok (.iconst 1, 1) := by decide +kernel
theorem dX2_score_118 : decode cX2_score 118 = .ok (.goto 4, 3) := by decide +kernel
theorem dX2_score_121 : decode cX2_score 121 = .ok (.iconst 0, 1) := by decide +kernel
theorem dX2_score_122 : decode cX2_score 122 = .ok (.iadd, 1) := by decide +kernel
theorem dX2_score_123 : decode cX2_score 123 = .ok (.ireturn, 1) := by decide +kernel
theorem dX2_pairAll_0 : decode cX2_pairAll 0 = .ok (.iconst 1, 1) := by decide +kernel
theorem dX2_pairAll_1 : decode cX2_pairAll 1 = .ok (.istore_n 2, 1) := by decide +kernel
theorem dX2_pairAll_2 : decode cX2_pairAll 2 = .ok (.iload_n 2, 1) := by decide +kernel
theorem dX2_pairAll_3 : decode cX2_pairAll 3 = .ok (.bipush 16, 2) := by decide +kernel
theorem dX2_pairAll_5 : decode cX2_pairAll 5 = .ok (.if_icmp .ge 71, 3) := by decide +kernel
theorem dX2_pairAll_8 : decode cX2_pairAll 8 = .ok (.iconst 1, 1) := by decide +kernel
theorem dX2_pairAll_9 : decode cX2_pairAll 9 = .ok (.istore_n 3, 1) := by decide +kernel
theorem dX2_pairAll_10 : decode cX2_pairAll 10 = .ok (.iload_n 3, 1) := by decide +kernel
theorem dX2_pairAll_11 : decode cX2_pairAll 11 = .ok (.bipush 16, 2) := by decide +kernel
theorem dX2_pairAll_13 : decode cX2_pairAll 13 = .ok (.if_icmp .ge 57, 3) := by decide +kernel
theorem dX2_pairAll_16 : decode cX2_pairAll 16 = .ok (.aload_n 0, 1) := by decide +kernel
theorem dX2_pairAll_17 : decode cX2_pairAll 17 = .ok (.getfield 18, 3) := by decide +kernel
theorem dX2_pairAll_20 : decode cX2_pairAll 20 = .ok (.iload_n 2, 1) := by decide +kernel
theorem dX2_pairAll_21 : decode cX2_pairAll 21 = .ok (.baload, 1) := by decide +kernel
theorem dX2_pairAll_22 : decode cX2_pairAll 22 = .ok (.ifCond .ne 48, 3) := by decide +kernel
theorem dX2_pairAll_25 : decode cX2_pairAll 25 = .ok (.aload_n 0, 1) := by decide +kernel
theorem dX2_pairAll_26 : decode cX2_pairAll 26 = .ok (.getfield 9, 3) := by decide +kernel
theorem dX2_pairAll_29 : decode cX2_pairAll 29 = .ok (.iload_n 2, 1) := by decide +kernel
theorem dX2_pairAll_30 : decode cX2_pairAll 30 = .ok (.bipush 16, 2) := by decide +kernel
theorem dX2_pairAll_32 : decode cX2_pairAll 32 = .ok (.imul, 1) := by decide +kernel
theorem dX2_pairAll_33 : decode cX2_pairAll 33 = .ok (.iload_n 3, 1) := by decide +kernel
theorem dX2_pairAll_34 : decode cX2_pairAll 34 = .ok (.iadd, 1) := by decide +kernel
theorem dX2_pairAll_35 : decode cX2_pairAll 35 = .ok (.iaload, 1) := by decide +kernel
theorem dX2_pairAll_36 : decode cX2_pairAll 36 = .ok (.iload_n 1, 1) := by decide +kernel
theorem dX2_pairAll_37 : decode cX2_pairAll 37 = .ok (.if_icmp .ne 27, 3) := by decide +kernel
theorem dX2_pairAll_40 : decode cX2_pairAll 40 = .ok (.aload_n 0, 1) := by decide +kernel
theorem dX2_pairAll_41 : decode cX2_pairAll 41 = .ok (.getfield 15, 3) := by decide +kernel
theorem dX2_pairAll_44 : decode cX2_pairAll 44 = .ok (.iload_n 3, 1) := by decide +kernel
theorem dX2_pairAll_45 : decode cX2_pairAll 45 = .ok (.iaload, 1) := by decide +kernel
theorem dX2_pairAll_46 : decode cX2_pairAll 46 = .ok (.iconst (-1), 1) := by decide +kernel
theorem dX2_pairAll_47 : decode cX2_pairAll 47 = .ok (.if_icmp .ne 17, 3) := by decide +kernel
theorem dX2_pairAll_50 : decode cX2_pairAll 50 = .ok (.aload_n 0, 1) := by decide +kernel
theorem dX2_pairAll_51 : decode cX2_pairAll 51 = .ok (.getfield 18, 3) := by decide +kernel
theorem dX2_pairAll_54 : decode cX2_pairAll 54 = .ok (.iload_n 2, 1) := by decide +kernel
theorem dX2_pairAll_55 : decode cX2_pairAll 55 = .ok (.iconst 1, 1) := by decide +kernel
theorem dX2_pairAll_56 : decode cX2_pairAll 56 = .ok (.bastore, 1) := by decide +kernel
theorem dX2_pairAll_57 : decode cX2_pairAll 57 = .ok (.aload_n 0, 1) := by decide +kernel
theorem dX2_pairAll_58 : decode cX2_pairAll 58 = .ok (.getfield 15, 3) := by decide +kernel
theorem dX2_pairAll_61 : decode cX2_pairAll 61 = .ok (.iload_n 3, 1) := by decide +kernel
theorem dX2_pairAll_62 : decode cX2_pairAll 62 = .ok (.iload_n 2, 1) := by decide +kernel
theorem dX2_pairAll_63 : decode cX2_pairAll 63 = .ok (.iastore, 1) := by decide +kernel
theorem dX2_pairAll_64 : decode cX2_pairAll 64 = .ok (.iinc 3 1, 3) := by decide +kernel
theorem dX2_pairAll_67 : decode cX2_pairAll 67 = .ok (.goto (-57), 3) := by decide +kernel
theorem dX2_pairAll_70 : decode cX2_pairAll 70 = .ok (.iinc 2 1, 3) := by decide +kernel
theorem dX2_pairAll_73 : decode cX2_pairAll 73 = .ok (.goto (-71), 3) := by decide +kernel
theorem dX2_pairAll_76 : decode cX2_pairAll 76 = .ok (.return_, 1) := by decide +kernel
theorem dX2_partnerOf_0 : decode cX2_partnerOf 0 = .ok (.iload_n 1, 1) := by decide +kernel
theorem dX2_partnerOf_1 : decode cX2_partnerOf 1 = .ok (.invokestatic 40, 3) := by decide +kernel
theorem dX2_partnerOf_4 : decode cX2_partnerOf 4 = .ok (.ifCond .eq 12, 3) := by decide +kernel
theorem dX2_partnerOf_7 : decode cX2_partnerOf 7 = .ok (.aload_n 0, 1) := by decide +kernel
theorem dX2_partnerOf_8 : decode cX2_partnerOf 8 = .ok (.getfield 15, 3) := by decide +kernel
theorem dX2_partnerOf_11 : decode cX2_partnerOf 11 = .ok (.iload_n 1, 1) := by decide +kernel
theorem dX2_partnerOf_12 : decode cX2_partnerOf 12 = .ok (.iaload, 1) := by decide +kernel
theorem dX2_partnerOf_13 : decode cX2_partnerOf 13 = .ok (.goto 4, 3) := by decide +kernel
theorem dX2_partnerOf_16 : decode cX2_partnerOf 16 = .ok (.iconst (-1), 1) := by decide +kernel
theorem dX2_partnerOf_17 : decode cX2_partnerOf 17 = .ok (.ireturn, 1) := by decide +kernel
theorem dX2_countStrangers_0 : decode cX2_countStrangers 0 = .ok (.iconst 0, 1) := by decide +kernel
theorem dX2_countStrangers_1 : decode cX2_countStrangers 1 = .ok (.istore_n 1, 1) := by decide +kernel
theorem dX2_countStrangers_2 : decode cX2_countStrangers 2 = .ok (.iconst 1, 1) := by decide +kernel
theorem dX2_countStrangers_3 : decode cX2_countStrangers 3 = .ok (.istore_n 2, 1) := by decide +kernel
theorem dX2_countStrangers_4 : decode cX2_countStrangers 4 = .ok (.iload_n 2, 1) := by decide +kernel
theorem dX2_countStrangers_5 : decode cX2_countStrangers 5 = .ok (.bipush 16, 2) := by decide +kernel
theorem dX2_countStrangers_7 : decode cX2_countStrangers 7 = .ok (.if_icmp .ge 37, 3) := by decide +kernel
theorem dX2_countStrangers_10 : decode cX2_countStrangers 10 = .ok (.iload_n 1, 1) := by decide +kernel
theorem dX2_countStrangers_11 : decode cX2_countStrangers 11 = .ok (.aload_n 0, 1) := by decide +kernel
theorem dX2_countStrangers_12 : decode cX2_countStrangers 12 = .ok (.getfield 15, 3) := by decide +kernel
theorem dX2_countStrangers_15 : decode cX2_countStrangers 15 = .ok (.iload_n 2, 1) := by decide +kernel
theorem dX2_countStrangers_16 : decode cX2_countStrangers 16 = .ok (.iaload, 1) := by decide +kernel
theorem dX2_countStrangers_17 : decode cX2_countStrangers 17 = .ok (.iconst (-1), 1) := by decide +kernel
theorem dX2_countStrangers_18 : decode cX2_countStrangers 18 = .ok (.if_icmp .eq 17, 3) := by decide +kernel
theorem dX2_countStrangers_21 : decode cX2_countStrangers 21 = .ok (.aload_n 0, 1) := by decide +kernel
theorem dX2_countStrangers_22 : decode cX2_countStrangers 22 = .ok (.getfield 15, 3) := by decide +kernel
theorem dX2_countStrangers_25 : decode cX2_countStrangers 25 = .ok (.iload_n 2, 1) := by decide +kernel
theorem dX2_countStrangers_26 : decode cX2_countStrangers 26 = .ok (.iaload, 1) := by decide +kernel
theorem dX2_countStrangers_27 : decode cX2_countStrangers 27 = .ok (.iload_n 2, 1) := by decide +kernel
theorem dX2_countStrangers_28 : decode cX2_countStrangers 28 = .ok (.if_icmp .eq 7, 3) := by decide +kernel
theorem dX2_countStrangers_31 : decode cX2_countStrangers 31 = .ok (.iconst 1, 1) := by decide +kernel
theorem dX2_countStrangers_32 : decode cX2_countStrangers 32 = .ok (.goto 4, 3) := by decide +kernel
theorem dX2_countStrangers_35 : decode cX2_countStrangers 35 = .ok (.iconst 0, 1) := by decide +kernel
theorem dX2_countStrangers_36 : decode cX2_countStrangers 36 = .ok (.iadd, 1) := by decide +kernel
theorem dX2_countStrangers_37 : decode cX2_countStrangers 37 = .ok (.istore_n 1, 1) := by decide +kernel
theorem dX2_countStrangers_38 : decode cX2_countStrangers 38 = .ok (.iinc 2 1, 3) := by decide +kernel
theorem dX2_countStrangers_41 : decode cX2_countStrangers 41 = .ok (.goto (-37), 3) := by decide +kernel
theorem dX2_countStrangers_44 : decode cX2_countStrangers 44 = .ok (.iload_n 1, 1) := by decide +kernel
theorem dX2_countStrangers_45 : decode cX2_countStrangers 45 = .ok (.ireturn, 1) := by decide +kernel
theorem dX3_init_0 : decode cX3_init 0 = .ok (.aload_n 0, 1) := by decide +kernel
theorem dX3_init_1 : decode cX3_init 1 = .ok (.invokespecial 3, 3) := by decide +kernel
theorem dX3_init_4 : decode cX3_init 4 = .ok (.aload_n 0, 1) := by decide +kernel
theorem dX3_init_5 : decode cX3_init 5 = .ok (.new 9, 3) := by decide +kernel
theorem dX3_init_8 : decode cX3_init 8 = .ok (.dup, 1) := by decide +kernel
theorem dX3_init_9 : decode cX3_init 9 = .ok (.invokespecial 11, 3) := by decide +kernel
theorem dX3_init_12 : decode cX3_init 12 = .ok (.putfield 12, 3) := by decide +kernel
theorem dX3_init_15 : decode cX3_init 15 = .ok (.aload_n 0, 1) := by decide +kernel
theorem dX3_init_16 : decode cX3_init 16 = .ok (.new 18, 3) := by decide +kernel
theorem dX3_init_19 : decode cX3_init 19 = .ok (.dup, 1) := by decide +kernel
theorem dX3_init_20 : decode cX3_init 20 = .ok (.invokespecial 20, 3) := by decide +kernel
theorem dX3_init_23 : decode cX3_init 23 = .ok (.putfield 21, 3) := by decide +kernel
theorem dX3_init_26 : decode cX3_init 26 = .ok (.aload_n 0, 1) := by decide +kernel
theorem dX3_init_27 : decode cX3_init 27 = .ok (.new 25, 3) := by decide +kernel
theorem dX3_init_30 : decode cX3_init 30 = .ok (.dup, 1) := by decide +kernel
theorem dX3_init_31 : decode cX3_init 31 = .ok (.sipush 128, 3) := by decide +kernel
theorem dX3_init_34 : decode cX3_init 34 = .ok (.invokespecial 27, 3) := by decide +kernel
theorem dX3_init_37 : decode cX3_init 37 = .ok (.putfield 30, 3) := by decide +kernel
theorem dX3_init_40 : decode cX3_init 40 = .ok (.aload_n 0, 1) := by decide +kernel
theorem dX3_init_41 : decode cX3_init 41 = .ok (.bipush 16, 2) := by decide +kernel
theorem dX3_init_43 : decode cX3_init 43 = .ok (.newarray .boolean, 2) := by decide +kernel
theorem dX3_init_45 : decode cX3_init 45 = .ok (.putfield 34, 3) := by decide +kernel
theorem dX3_init_48 : decode cX3_init 48 = .ok (.aload_n 0, 1) := by decide +kernel
theorem dX3_init_49 : decode cX3_init 49 = .ok (.bipush 16, 2) := by decide +kernel
theorem dX3_init_51 : decode cX3_init 51 = .ok (.newarray .int, 2) := by decide +kernel
theorem dX3_init_53 : decode cX3_init 53 = .ok (.putfield 38, 3) := by decide +kernel
theorem dX3_init_56 : decode cX3_init 56 = .ok (.aload_n 0, 1) := by decide +kernel
theorem dX3_init_57 : decode cX3_init 57 = .ok (.iconst 1, 1) := by decide +kernel
theorem dX3_init_58 : decode cX3_init 58 = .ok (.putfield 42, 3) := by decide +kernel
theorem dX3_init_61 : decode cX3_init 61 = .ok (.return_, 1) := by decide +kernel
theorem dX3_refresh_0 : decode cX3_refresh 0 = .ok (.aload_n 0, 1) := by decide +kernel
theorem dX3_refresh_1 : decode cX3_refresh 1 = .ok (.getfield 42, 3) := by decide +kernel
theorem dX3_refresh_4 : decode cX3_refresh 4 = .ok (.ifCond .ne 4, 3) := by decide +kernel
theorem dX3_refresh_7 : decode cX3_refresh 7 = .ok (.return_, 1) := by decide +kernel
theorem dX3_refresh_8 : decode cX3_refresh 8 = .ok (.aload_n 0, 1) := by decide +kernel
theorem dX3_refresh_9 : decode cX3_refresh 9 = .ok (.iconst 0, 1) := by decide +kernel
theorem dX3_refresh_10 : decode cX3_refresh 10 = .ok (.putfield 42, 3) := by decide +kernel
theorem dX3_refresh_13 : decode cX3_refresh 13 = .ok (.aload_n 0, 1) := by decide +kernel
theorem dX3_refresh_14 : decode cX3_refresh 14 = .ok (.getfield 12, 3) := by decide +kernel
theorem dX3_refresh_17 : decode cX3_refresh 17 = .ok (.aload_n 1, 1) := by decide +kernel
theorem dX3_refresh_18 : decode cX3_refresh 18 = .ok (.invokevirtual 46, 3) := by decide +kernel
theorem dX3_refresh_21 : decode cX3_refresh 21 = .ok (.aload_n 0, 1) := by decide +kernel
theorem dX3_refresh_22 : decode cX3_refresh 22 = .ok (.getfield 21, 3) := by decide +kernel
theorem dX3_refresh_25 : decode cX3_refresh 25 = .ok (.invokevirtual 50, 3) := by decide +kernel
theorem dX3_refresh_28 : decode cX3_refresh 28 = .ok (.aload_n 0, 1) := by decide +kernel
theorem dX3_refresh_29 : decode cX3_refresh 29 = .ok (.getfield 30, 3) := by decide +kernel
theorem dX3_refresh_32 : decode cX3_refresh 32 = .ok (.invokevirtual 53, 3) := by decide +kernel
theorem dX3_refresh_35 : decode cX3_refresh 35 = .ok (.aload_n 0, 1) := by decide +kernel
theorem dX3_refresh_36 : decode cX3_refresh 36 = .ok (.invokevirtual 56, 3) := by decide +kernel
theorem dX3_refresh_39 : decode cX3_refresh 39 = .ok (.aload_n 0, 1) := by decide +kernel
theorem dX3_refresh_40 : decode cX3_refresh 40 = .ok (.iconst 2, 1) := by decide +kernel
theorem dX3_refresh_41 : decode cX3_refresh 41 = .ok (.iconst 0, 1) := by decide +kernel
theorem dX3_refresh_42 : decode cX3_refresh 42 = .ok (.invokevirtual 59, 3) := by decide +kernel
theorem dX3_refresh_45 : decode cX3_refresh 45 = .ok (.aload_n 0, 1) := by decide +kernel
theorem dX3_refresh_46 : decode cX3_refresh 46 = .ok (.iconst 3, 1) := by decide +kernel
theorem dX3_refresh_47 : decode cX3_refresh 47 = .ok (.iconst 1, 1) := by decide +kernel
theorem dX3_refresh_48 : decode cX3_refresh 48 = .ok (.invokevirtual 59, 3) := by decide +kernel
theorem dX3_refresh_51 : decode cX3_refresh 51 = .ok (.aload_n 0, 1) := by decide +kernel
theorem dX3_refresh_52 : decode cX3_refresh 52 = .ok (.iconst 0, 1) := by decide +kernel
theorem dX3_refresh_53 : decode cX3_refresh 53 = .ok (.iconst 2, 1) := by decide +kernel
theorem dX3_refresh_54 : decode cX3_refresh 54 = .ok (.invokevirtual 59, 3) := by decide +kernel
theorem dX3_refresh_57 : decode cX3_refresh 57 = .ok (.aload_n 0, 1) := by decide +kernel
theorem dX3_refresh_58 : decode cX3_refresh 58 = .ok (.invokevirtual 63, 3) := by decide +kernel
theorem dX3_refresh_61 : decode cX3_refresh 61 = .ok (.aload_n 0, 1) := by decide +kernel
theorem dX3_refresh_62 : decode cX3_refresh 62 = .ok (.invokevirtual 66, 3) := by decide +kernel
theorem dX3_refresh_65 : decode cX3_refresh 65 = .ok (.aload_n 0, 1) := by decide +kernel
theorem dX3_refresh_66 : decode cX3_refresh 66 = .ok (.invokevirtual 69, 3) := by decide +kernel
theorem dX3_refresh_69 : decode cX3_refresh 69 = .ok (.return_, 1) := by decide +kernel
theorem dX3_chooseSections_0 : decode cX3_chooseSections 0 = .ok (.iconst 1, 1) := by decide +kernel
theorem dX3_chooseSections_1 : decode cX3_chooseSections 1 = .ok (.istore_n 1, 1) := by decide +kernel
theorem dX3_chooseSections_2 : decode cX3_chooseSections 2 = .ok (.iload_n 1, 1) := by decide +kernel
theorem dX3_chooseSections_3 : decode cX3_chooseSections 3 = .ok (.bipush 16, 2) := by decide +kernel
theorem dX3_chooseSections_5 : decode cX3_chooseSections 5 = .ok (.if_icmp .ge 133, 3) := by decide +kernel
theorem dX3_chooseSections_8 : decode cX3_chooseSections 8 = .ok (.aload_n 0, 1) := by decide +kernel
theorem dX3_chooseSections_9 : decode cX3_chooseSections 9 = .ok (.getfield 12, 3) := by decide +kernel
theorem dX3_chooseSections_12 : decode cX3_chooseSections 12 = .ok (.getfield 72, 3) := by decide +kernel
theorem dX3_chooseSections_15 : decode cX3_chooseSections 15 = .ok (.iload_n 1, 1) := by decide +kernel
theorem dX3_chooseSections_16 : decode cX3_chooseSections 16 = .ok (.invokevirtual 75, 3) := by decide +kernel
theorem dX3_chooseSections_19 : decode cX3_chooseSections 19 = .ok (.istore_n 2, 1) := by decide +kernel
theorem dX3_chooseSections_20 : decode cX3_chooseSections 20 = .ok (.aload_n 0, 1) := by decide +kernel
theorem dX3_chooseSections_21 : decode cX3_chooseSections 21 = .ok (.getfield 12, 3) := by decide +kernel
theorem dX3_chooseSections_24 : decode cX3_chooseSections 24 = .ok (.getfield 79, 3) := by decide +kernel
theorem dX3_chooseSections_27 : decode cX3_chooseSections 27 = .ok (.iload_n 1, 1) := by decide +kernel
theorem dX3_chooseSections_28 : decode cX3_chooseSections 28 = .ok (.invokevirtual 75, 3) := by decide +kernel
theorem dX3_chooseSections_31 : decode cX3_chooseSections 31 = .ok (.istore_n 3, 1) := by decide +kernel
theorem dX3_chooseSections_32 : decode cX3_chooseSections 32 = .ok (.aload_n 0, 1) := by decide +kernel
theorem dX3_chooseSections_33 : decode cX3_chooseSections 33 = .ok (.getfield 12, 3) := by decide +kernel
theorem dX3_chooseSections_36 : decode cX3_chooseSections 36 = .ok (.getfield 82, 3) := by decide +kernel
theorem dX3_chooseSections_39 : decode cX3_chooseSections 39 = .ok (.iload_n 1, 1) := by decide +kernel
theorem dX3_chooseSections_40 : decode cX3_chooseSections 40 = .ok (.invokevirtual 75, 3) := by decide +kernel
theorem dX3_chooseSections_43 : decode cX3_chooseSections 43 = .ok (.ifCond .ne 22, 3) := by decide +kernel
theorem dX3_chooseSections_46 : decode cX3_chooseSections 46 = .ok (.iload_n 2, 1) := by decide +kernel
theorem dX3_chooseSections_47 : decode cX3_chooseSections 47 = .ok (.ifCond .ne 7, 3) := by decide +kernel
theorem dX3_chooseSections_50 : decode cX3_chooseSections 50 = .ok (.iload_n 3, 1) := by decide +kernel
theorem dX3_chooseSections_51 : decode cX3_chooseSections 51 = .ok (.ifCond .eq 81, 3) := by decide +kernel
theorem dX3_chooseSections_54 : decode cX3_chooseSections 54 = .ok (.aload_n 0, 1) := by decide +kernel
theorem dX3_chooseSections_55 : decode cX3_chooseSections 55 = .ok (.getfield 21, 3) := by decide +kernel
theorem dX3_chooseSections_58 : decode cX3_chooseSections 58 = .ok (.iload_n 1, 1) := by decide +kernel
theorem dX3_chooseSections_59 : decode cX3_chooseSections 59 = .ok (.invokevirtual 85, 3) := by decide +kernel
theorem dX3_chooseSections_62 : decode cX3_chooseSections 62 = .ok (.goto 70, 3) := by decide +kernel
theorem dX3_chooseSections_65 : decode cX3_chooseSections 65 = .ok (.iload_n 2, 1) := by decide +kernel
theorem dX3_chooseSections_66 : decode cX3_chooseSections 66 = .ok (.ifCond .eq 18, 3) := by decide +kernel
theorem dX3_chooseSections_69 : decode cX3_chooseSections 69 = .ok (.iload_n 3, 1) := by decide +kernel
theorem dX3_chooseSections_70 : decode cX3_chooseSections 70 = .ok (.ifCond .eq 14, 3) := by decide +kernel
theorem dX3_chooseSections_73 : decode cX3_chooseSections 73 = .ok (.aload_n 0, 1) := by decide +kernel
theorem dX3_chooseSections_74 : decode cX3_chooseSections 74 = .ok (.getfield 21, 3) := by decide +kernel
theorem dX3_chooseSections_77 : decode cX3_chooseSections 77 = .ok (.iload_n 1, 1) := by decide +kernel
theorem dX3_chooseSections_78 : decode cX3_chooseSections 78 = .ok (.invokevirtual 85, 3) := by decide +kernel
theorem dX3_chooseSections_81 : decode cX3_chooseSections 81 = .ok (.goto 51, 3) := by decide +kernel
theorem dX3_chooseSections_84 : decode cX3_chooseSections 84 = .ok (.aload_n 0, 1) := by decide +kernel
theorem dX3_chooseSections_85 : decode cX3_chooseSections 85 = .ok (.iload_n 1, 1) := by decide +kernel
theorem dX3_chooseSections_86 : decode cX3_chooseSections 86 = .ok (.aload_n 0, 1) := by decide +kernel
theorem dX3_chooseSections_87 : decode cX3_chooseSections 87 = .ok (.getfield 12, 3) := by decide +kernel
theorem dX3_chooseSections_90 : decode cX3_chooseSections 90 = .ok (.getfield 72, 3) := by decide +kernel
theorem dX3_chooseSections_93 : decode cX3_chooseSections 93 = .ok (.invokevirtual 88, 3) := by decide +kernel
theorem dX3_chooseSections_96 : decode cX3_chooseSections 96 = .ok (.ifCond .ne 18, 3) := by decide +kernel
theorem dX3_chooseSections_99 : decode cX3_chooseSections 99 = .ok (.aload_n 0, 1) := by decide +kernel
theorem dX3_chooseSections_100 : decode cX3_chooseSections 100 = .ok (.iload_n 1, 1) := by decide +kernel
theorem dX3_chooseSections_101 : decode cX3_chooseSections 101 = .ok (.aload_n 0, 1) := by decide +kernel
theorem dX3_chooseSections_102 : decode cX3_chooseSections 102 = .ok (.getfield 12, 3) := by decide +kernel
theorem dX3_chooseSections_105 : decode cX3_chooseSections 105 = .ok (.getfield 79, 3) := by decide +kernel
theorem dX3_chooseSections_108 : decode cX3_chooseSections 108 = .ok (.invokevirtual 88, 3) := by decide +kernel
theorem dX3_chooseSections_111 : decode cX3_chooseSections 111 = .ok (.ifCond .eq 21, 3) := by decide +kernel
theorem dX3_chooseSections_114 : decode cX3_chooseSections 114 = .ok (.aload_n 0, 1) := by decide +kernel
theorem dX3_chooseSections_115 : decode cX3_chooseSections 115 = .ok (.getfield 21, 3) := by decide +kernel
theorem dX3_chooseSections_118 : decode cX3_chooseSections 118 = .ok (.iload_n 1, 1) := by decide +kernel
theorem dX3_chooseSections_119 : decode cX3_chooseSections 119 = .ok (.invokevirtual 85, 3) := by decide +kernel
theorem dX3_chooseSections_122 : decode cX3_chooseSections 122 = .ok (.aload_n 0, 1) := by decide +kernel
theorem dX3_chooseSections_123 : decode cX3_chooseSections 123 = .ok (.getfield 30, 3) := by decide +kernel
theorem dX3_chooseSections_126 : decode cX3_chooseSections 126 = .ok (.iconst 3, 1) := by decide +kernel
theorem dX3_chooseSections_127 : decode cX3_chooseSections 127 = .ok (.iload_n 1, 1) := by decide +kernel
theorem dX3_chooseSections_128 : decode cX3_chooseSections 128 = .ok (.iload_n 1, 1) := by decide +kernel
theorem dX3_chooseSections_129 : decode cX3_chooseSections 129 = .ok (.invokevirtual 92, 3) := by decide +kernel
theorem dX3_chooseSections_132 : decode cX3_chooseSections 132 = .ok (.iinc 1 1, 3) := by decide +kernel
theorem dX3_chooseSections_135 : decode cX3_chooseSections 135 = .ok (.goto (-133), 3) := by decide +kernel
theorem dX3_chooseSections_138 : decode cX3_chooseSections 138 = .ok (.return_, 1) := by decide +kernel
theorem dX3_isChanged_0 : decode cX3_isChanged 0 = .ok (.aload_n 0, 1) := by decide +kernel
theorem dX3_isChanged_1 : decode cX3_isChanged 1 = .ok (.getfield 12, 3) := by decide +kernel
theorem dX3_isChanged_4 : decode cX3_isChanged 4 = .ok (.getfield 82, 3) := by decide +kernel
theorem dX3_isChanged_7 : decode cX3_isChanged 7 = .ok (.iload_n 1, 1) := by decide +kernel
theorem dX3_isChanged_8 : decode cX3_isChanged 8 = .ok (.invokevirtual 75, 3) := by decide +kernel
theorem dX3_isChanged_11 : decode cX3_isChanged 11 = .ok (.ifCond .eq 11, 3) := by decide +kernel
theorem dX3_isChanged_14 : decode cX3_isChanged 14 = .ok (.aload_n 2, 1) := by decide +kernel
theorem dX3_isChanged_15 : decode cX3_isChanged 15 = .ok (.iload_n 1, 1) := by decide +kernel
theorem dX3_isChanged_16 : decode cX3_isChanged 16 = .ok (.invokevirtual 75, 3) := by decide +kernel
theorem dX3_isChanged_19 : decode cX3_isChanged 19 = .ok (.ifCond .ne 5, 3) := by decide +kernel
theorem dX3_isChanged_22 : decode cX3_isChanged 22 = .ok (.iconst 0, 1) := by decide +kernel
theorem dX3_isChanged_23 : decode cX3_isChanged 23 = .ok (.ireturn, 1) := by decide +kernel
theorem dX3_isChanged_24 : decode cX3_isChanged 24 = .ok (.aload_n 0, 1) := by decide +kernel
theorem dX3_isChanged_25 : decode cX3_isChanged 25 = .ok (.iload_n 1, 1) := by decide +kernel
theorem dX3_isChanged_26 : decode cX3_isChanged 26 = .ok (.aload_n 2, 1) := by decide +kernel
theorem dX3_isChanged_27 : decode cX3_isChanged 27 = .ok (.iconst 2, 1) := by decide +kernel
theorem dX3_isChanged_28 : decode cX3_isChanged 28 = .ok (.invokevirtual 96, 3) := by decide +kernel
theorem dX3_isChanged_31 : decode cX3_isChanged 31 = .ok (.ifCond .ne 32, 3) := by decide +kernel
theorem dX3_isChanged_34 : decode cX3_isChanged 34 = .ok (.aload_n 0, 1) := by decide +kernel
theorem dX3_isChanged_35 : decode cX3_isChanged 35 = .ok (.iload_n 1, 1) := by decide +kernel
theorem dX3_isChanged_36 : decode cX3_isChanged 36 = .ok (.aload_n 2, 1) := by decide +kernel
theorem dX3_isChanged_37 : decode cX3_isChanged 37 = .ok (.iconst 3, 1) := by decide +kernel
theorem dX3_isChanged_38 : decode cX3_isChanged 38 = .ok (.invokevirtual 96, 3) := by decide +kernel
theorem dX3_isChanged_41 : decode cX3_isChanged 41 = .ok (.ifCond .ne 22, 3) := by decide +kernel
theorem dX3_isChanged_44 : decode cX3_isChanged 44 = .ok (.aload_n 0, 1) := by decide +kernel
theorem dX3_isChanged_45 : decode cX3_isChanged 45 = .ok (.iload_n 1, 1) := by decide +kernel
theorem dX3_isChanged_46 : decode cX3_isChanged 46 = .ok (.aload_n 2, 1) := by decide +kernel
theorem dX3_isChanged_47 : decode cX3_isChanged 47 = .ok (.iconst 0, 1) := by decide +kernel
theorem dX3_isChanged_48 : decode cX3_isChanged 48 = .ok (.invokevirtual 96, 3) := by decide +kernel
theorem dX3_isChanged_51 : decode cX3_isChanged 51 = .ok (.ifCond .ne 12, 3) := by decide +kernel
theorem dX3_isChanged_54 : decode cX3_isChanged 54 = .ok (.aload_n 0, 1) := by decide +kernel
theorem dX3_isChanged_55 : decode cX3_isChanged 55 = .ok (.iload_n 1, 1) := by decide +kernel
theorem dX3_isChanged_56 : decode cX3_isChanged 56 = .ok (.aload_n 2, 1) := by decide +kernel
theorem dX3_isChanged_57 : decode cX3_isChanged 57 = .ok (.invokevirtual 100, 3) := by decide +kernel
theorem dX3_isChanged_60 : decode cX3_isChanged 60 = .ok (.ifCond .eq 7, 3) := by decide +kernel
theorem dX3_isChanged_63 : decode cX3_isChanged 63 = .ok (.iconst 1, 1) := by decide +kernel
theorem dX3_isChanged_64 : decode cX3_isChanged 64 = .ok (.goto 4, 3) := by decide +kernel
theorem dX3_isChanged_67 : decode cX3_isChanged 67 = .ok (.iconst 0, 1) := by decide +kernel
theorem dX3_isChanged_68 : decode cX3_isChanged 68 = .ok (.ireturn, 1) := by decide +kernel
theorem dX3_isOther_0 : decode cX3_isOther 0 = .ok (.aload_n 2, 1) := by decide +kernel
theorem dX3_isOther_1 : decode cX3_isOther 1 = .ok (.iload_n 1, 1) := by decide +kernel
theorem dX3_isOther_2 : decode cX3_isOther 2 = .ok (.iload_n 3, 1) := by decide +kernel
theorem dX3_isOther_3 : decode cX3_isOther 3 = .ok (.invokevirtual 103, 3) := by decide +kernel
theorem dX3_isOther_6 : decode cX3_isOther 6 = .ok (.aload_n 0, 1) := by decide +kernel
theorem dX3_isOther_7 : decode cX3_isOther 7 = .ok (.getfield 12, 3) := by decide +kernel
theorem dX3_isOther_10 : decode cX3_isOther 10 = .ok (.getfield 82, 3) := by decide +kernel
theorem dX3_isOther_13 : decode cX3_isOther 13 = .ok (.iload_n 1, 1) := by decide +kernel
theorem dX3_isOther_14 : decode cX3_isOther 14 = .ok (.iload_n 3, 1) := by decide +kernel
theorem dX3_isOther_15 : decode cX3_isOther 15 = .ok (.invokevirtual 103, 3) := by decide +kernel
theorem dX3_isOther_18 : decode cX3_isOther 18 = .ok (.if_icmp .eq 7, 3) := by decide +kernel
theorem dX3_isOther_21 : decode cX3_isOther 21 = .ok (.iconst 1, 1) := by decide +kernel
theorem dX3_isOther_22 : decode cX3_isOther 22 = .ok (.goto 4, 3) := by decide +kernel
theorem dX3_isOther_25 : decode cX3_isOther 25 = .ok (.iconst 0, 1) := by decide +kernel
theorem dX3_isOther_26 : decode cX3_isOther 26 = .ok (.ireturn, 1) := by decide +kernel
theorem dX3_hasNewChild_0 : decode cX3_hasNewChild 0 = .ok (.iconst 1, 1) := by decide +kernel
theorem dX3_hasNewChild_1 : decode cX3_hasNewChild 1 = .ok (.istore_n 3, 1) := by decide +kernel
theorem dX3_hasNewChild_2 : decode cX3_hasNewChild 2 = .ok (.iload_n 3, 1) := by decide +kernel
theorem dX3_hasNewChild_3 : decode cX3_hasNewChild 3 = .ok (.bipush 16, 2) := by decide +kernel
theorem dX3_hasNewChild_5 : decode cX3_hasNewChild 5 = .ok (.if_icmp .ge 35, 3) := by decide +kernel
theorem dX3_hasNewChild_8 : decode cX3_hasNewChild 8 = .ok (.aload_n 2, 1) := by decide +kernel
theorem dX3_hasNewChild_9 : decode cX3_hasNewChild 9 = .ok (.iload_n 3, 1) := by decide +kernel
theorem dX3_hasNewChild_10 : decode cX3_hasNewChild 10 = .ok (.iload_n 1, 1) := by decide +kernel
theorem dX3_hasNewChild_11 : decode cX3_hasNewChild 11 = .ok (.invokevirtual 107, 3) := by decide +kernel
theorem dX3_hasNewChild_14 : decode cX3_hasNewChild 14 = .ok (.ifCond .eq 20, 3) := by decide +kernel
theorem dX3_hasNewChild_17 : decode cX3_hasNewChild 17 = .ok (.aload_n 0, 1) := by decide +kernel
theorem dX3_hasNewChild_18 : decode cX3_hasNewChild 18 = .ok (.getfield 12, 3) := by decide +kernel
theorem dX3_hasNewChild_21 : decode cX3_hasNewChild 21 = .ok (.getfield 82, 3) := by decide +kernel
theorem dX3_hasNewChild_24 : decode cX3_hasNewChild 24 = .ok (.iload_n 3, 1) := by decide +kernel
theorem dX3_hasNewChild_25 : decode cX3_hasNewChild 25 = .ok (.iload_n 1, 1) := by decide +kernel
theorem dX3_hasNewChild_26 : decode cX3_hasNewChild 26 = .ok (.invokevirtual 107, 3) := by decide +kernel
theorem dX3_hasNewChild_29 : decode cX3_hasNewChild 29 = .ok (.ifCond .ne 5, 3) := by decide +kernel
theorem dX3_hasNewChild_32 : decode cX3_hasNewChild 32 = .ok (.iconst 1, 1) := by decide +kernel
theorem dX3_hasNewChild_33 : decode cX3_hasNewChild 33 = .ok (.ireturn, 1) := by decide +kernel
theorem dX3_hasNewChild_34 : decode cX3_hasNewChild 34 = .ok (.iinc 3 1, 3) := by decide +kernel
theorem dX3_hasNewChild_37 : decode cX3_hasNewChild 37 = .ok (.goto (-35), 3) := by decide +kernel
theorem dX3_hasNewChild_40 : decode cX3_hasNewChild 40 = .ok (.iconst 0, 1) := by decide +kernel
theorem dX3_hasNewChild_41 : decode cX3_hasNewChild 41 = .ok (.ireturn, 1) := by decide +kernel
theorem dX3_chooseTraits_0 : decode cX3_chooseTraits 0 = .ok (.iconst 0, 1) := by decide +kernel
theorem dX3_chooseTraits_1 : decode cX3_chooseTraits 1 = .ok (.istore_n 3, 1) := by decide +kernel
theorem dX3_chooseTraits_2 : decode cX3_chooseTraits 2 = .ok (.iload_n 3, 1) := by decide +kernel
theorem dX3_chooseTraits_3 : decode cX3_chooseTraits 3 = .ok (.bipush 16, 2) := by decide +kernel
theorem dX3_chooseTraits_5 : decode cX3_chooseTraits 5 = .ok (.if_icmp .ge 89, 3) := by decide +kernel
theorem dX3_chooseTraits_8 : decode cX3_chooseTraits 8 = .ok (.aload_n 0, 1) := by decide +kernel
theorem dX3_chooseTraits_9 : decode cX3_chooseTraits 9 = .ok (.getfield 21, 3) := by decide +kernel
theorem dX3_chooseTraits_12 : decode cX3_chooseTraits 12 = .ok (.iload_n 3, 1) := by decide +kernel
theorem dX3_chooseTraits_13 : decode cX3_chooseTraits 13 = .ok (.invokevirtual 75, 3) := by decide +kernel
theorem dX3_chooseTraits_16 : decode cX3_chooseTraits 16 = .ok (.ifCond .ne 6, 3) := by decide +kernel
theorem dX3_chooseTraits_19 : decode cX3_chooseTraits 19 = .ok (.goto 69, 3) := by decide +kernel
theorem dX3_chooseTraits_22 : decode cX3_chooseTraits 22 = .ok (.aload_n 0, 1) := by decide +kernel
theorem dX3_chooseTraits_23 : decode cX3_chooseTraits 23 = .ok (.iload_n 3, 1) := by decide +kernel
theorem dX3_chooseTraits_24 : decode cX3_chooseTraits 24 = .ok (.iload_n 1, 1) := by decide +kernel
theorem dX3_chooseTraits_25 : decode cX3_chooseTraits 25 = .ok (.invokevirtual 111, 3) := by decide +kernel
theorem dX3_chooseTraits_28 : decode cX3_chooseTraits 28 = .ok (.astore 4, 2) := by decide +kernel
theorem dX3_chooseTraits_30 : decode cX3_chooseTraits 30 = .ok (.aload_n 0, 1) := by decide +kernel
theorem dX3_chooseTraits_31 : decode cX3_chooseTraits 31 = .ok (.getfield 21, 3) := by decide +kernel
theorem dX3_chooseTraits_34 : decode cX3_chooseTraits 34 = .ok (.iload_n 3, 1) := by decide +kernel
theorem dX3_chooseTraits_35 : decode cX3_chooseTraits 35 = .ok (.iload_n 1, 1) := by decide +kernel
theorem dX3_chooseTraits_36 : decode cX3_chooseTraits 36 = .ok (.aload 4, 2) := by decide +kernel
theorem dX3_chooseTraits_38 : decode cX3_chooseTraits 38 = .ok (.iload_n 3, 1) := by decide +kernel
theorem dX3_chooseTraits_39 : decode cX3_chooseTraits 39 = .ok (.iload_n 1, 1) := by decide +kernel
theorem dX3_chooseTraits_40 : decode cX3_chooseTraits 40 = .ok (.invokevirtual 103, 3) := by decide +kernel
theorem dX3_chooseTraits_43 : decode cX3_chooseTraits 43 = .ok (.invokevirtual 115, 3) := by decide +kernel
theorem dX3_chooseTraits_46 : decode cX3_chooseTraits 46 = .ok (.aload_n 0, 1) := by decide +kernel
theorem dX3_chooseTraits_47 : decode cX3_chooseTraits 47 = .ok (.iload_n 3, 1) := by decide +kernel
theorem dX3_chooseTraits_48 : decode cX3_chooseTraits 48 = .ok (.iload_n 1, 1) := by decide +kernel
theorem dX3_chooseTraits_49 : decode cX3_chooseTraits 49 = .ok (.invokevirtual 118, 3) := by decide +kernel
theorem dX3_chooseTraits_52 : decode cX3_chooseTraits 52 = .ok (.ifCond .eq 36, 3) := by decide +kernel
theorem dX3_chooseTraits_55 : decode cX3_chooseTraits 55 = .ok (.iload_n 1, 1) := by decide +kernel
theorem dX3_chooseTraits_56 : decode cX3_chooseTraits 56 = .ok (.ifCond .ne 18, 3) := by decide +kernel
theorem dX3_chooseTraits_59 : decode cX3_chooseTraits 59 = .ok (.aload_n 0, 1) := by decide +kernel
theorem dX3_chooseTraits_60 : decode cX3_chooseTraits 60 = .ok (.getfield 12, 3) := by decide +kernel
theorem dX3_chooseTraits_63 : decode cX3_chooseTraits 63 = .ok (.invokevirtual 121, 3) := by decide +kernel
theorem dX3_chooseTraits_66 : decode cX3_chooseTraits 66 = .ok (.iload_n 3, 1) := by decide +kernel
theorem dX3_chooseTraits_67 : decode cX3_chooseTraits 67 = .ok (.iconst 0, 1) := by decide +kernel
theorem dX3_chooseTraits_68 : decode cX3_chooseTraits 68 = .ok (.invokevirtual 103, 3) := by decide +kernel
theorem dX3_chooseTraits_71 : decode cX3_chooseTraits 71 = .ok (.goto 4, 3) := by decide +kernel
theorem dX3_chooseTraits_74 : decode cX3_chooseTraits 74 = .ok (.iload_n 3, 1) := by decide +kernel
theorem dX3_chooseTraits_75 : decode cX3_chooseTraits 75 = .ok (.istore 5, 2) := by decide +kernel
theorem dX3_chooseTraits_77 : decode cX3_chooseTraits 77 = .ok (.aload_n 0, 1) := by decide +kernel
theorem dX3_chooseTraits_78 : decode cX3_chooseTraits 78 = .ok (.getfield 30, 3) := by decide +kernel
theorem dX3_chooseTraits_81 : decode cX3_chooseTraits 81 = .ok (.iload_n 2, 1) := by decide +kernel
theorem dX3_chooseTraits_82 : decode cX3_chooseTraits 82 = .ok (.iload_n 3, 1) := by decide +kernel
theorem dX3_chooseTraits_83 : decode cX3_chooseTraits 83 = .ok (.iload 5, 2) := by decide +kernel
theorem dX3_chooseTraits_85 : decode cX3_chooseTraits 85 = .ok (.invokevirtual 92, 3) := by decide +kernel
theorem dX3_chooseTraits_88 : decode cX3_chooseTraits 88 = .ok (.iinc 3 1, 3) := by decide +kernel
theorem dX3_chooseTraits_91 : decode cX3_chooseTraits 91 = .ok (.goto (-89), 3) := by decide +kernel
theorem dX3_chooseTraits_94 : decode cX3_chooseTraits 94 = .ok (.return_, 1) := by decide +kernel
theorem dX3_sourceOf_0 : decode cX3_sourceOf 0 = .ok (.aload_n 0, 1) := by decide +kernel
theorem dX3_sourceOf_1 : decode cX3_sourceOf 1 = .ok (.getfield 12, 3) := by decide +kernel
theorem dX3_sourceOf_4 : decode cX3_sourceOf 4 = .ok (.invokevirtual 125, 3) := by decide +kernel
theorem dX3_sourceOf_7 : decode cX3_sourceOf 7 = .ok (.astore_n 3, 1) := by decide +kernel
theorem dX3_sourceOf_8 : decode cX3_sourceOf 8 = .ok (.aload_n 0, 1) := by decide +kernel
theorem dX3_sourceOf_9 : decode cX3_sourceOf 9 = .ok (.getfield 12, 3) := by decide +kernel
theorem dX3_sourceOf_12 : decode cX3_sourceOf 12 = .ok (.invokevirtual 121, 3) := by decide +kernel
theorem dX3_sourceOf_15 : decode cX3_sourceOf 15 = .ok (.astore 4, 2) := by decide +kernel
theorem dX3_sourceOf_17 : decode cX3_sourceOf 17 = .ok (.aload_n 3, 1) := by decide +kernel
theorem dX3_sourceOf_18 : decode cX3_sourceOf 18 = .ok (.iload_n 1, 1) := by decide +kernel
theorem dX3_sourceOf_19 : decode cX3_sourceOf 19 = .ok (.invokevirtual 75, 3) := by decide +kernel
theorem dX3_sourceOf_22 : decode cX3_sourceOf 22 = .ok (.ifCond .ne 6, 3) := by decide +kernel
theorem dX3_sourceOf_25 : decode cX3_sourceOf 25 = .ok (.aload 4, 2) := by decide +kernel
theorem dX3_sourceOf_27 : decode cX3_sourceOf 27 = .ok (.areturn, 1) := by decide +kernel
theorem dX3_sourceOf_28 : decode cX3_sourceOf 28 = .ok (.aload_n 0, 1) := by decide +kernel
theorem dX3_sourceOf_29 : decode cX3_sourceOf 29 = .ok (.getfield 12, 3) := by decide +kernel
theorem dX3_sourceOf_32 : decode cX3_sourceOf 32 = .ok (.getfield 82, 3) := by decide +kernel
theorem dX3_sourceOf_35 : decode cX3_sourceOf 35 = .ok (.iload_n 1, 1) := by decide +kernel
theorem dX3_sourceOf_36 : decode cX3_sourceOf 36 = .ok (.invokevirtual 75, 3) := by decide +kernel
theorem dX3_sourceOf_39 : decode cX3_sourceOf 39 = .ok (.ifCond .eq 17, 3) := by decide +kernel
theorem dX3_sourceOf_42 : decode cX3_sourceOf 42 = .ok (.aload_n 0, 1) := by decide +kernel
theorem dX3_sourceOf_43 : decode cX3_sourceOf 43 = .ok (.iload_n 1, 1) := by decide +kernel
theorem dX3_sourceOf_44 : decode cX3_sourceOf 44 = .ok (.aload_n 3, 1) := by decide +kernel
theorem dX3_sourceOf_45 : decode cX3_sourceOf 45 = .ok (.iload_n 2, 1) := by decide +kernel
theorem dX3_sourceOf_46 : decode cX3_sourceOf 46 = .ok (.invokevirtual 96, 3) := by decide +kernel
theorem dX3_sourceOf_49 : decode cX3_sourceOf 49 = .ok (.ifCond .ne 7, 3) := by decide +kernel
theorem dX3_sourceOf_52 : decode cX3_sourceOf 52 = .ok (.iconst 1, 1) := by decide +kernel
theorem dX3_sourceOf_53 : decode cX3_sourceOf 53 = .ok (.goto 4, 3) := by decide +kernel
theorem dX3_sourceOf_56 : decode cX3_sourceOf 56 = .ok (.iconst 0, 1) := by decide +kernel
theorem dX3_sourceOf_57 : decode cX3_sourceOf 57 = .ok (.istore 5, 2) := by decide +kernel
theorem dX3_sourceOf_59 : decode cX3_sourceOf 59 = .ok (.aload 4, 2) := by decide +kernel
theorem dX3_sourceOf_61 : decode cX3_sourceOf 61 = .ok (.iload_n 1, 1) := by decide +kernel
theorem dX3_sourceOf_62 : decode cX3_sourceOf 62 = .ok (.invokevirtual 75, 3) := by decide +kernel
theorem dX3_sourceOf_65 : decode cX3_sourceOf 65 = .ok (.ifCond .eq 13, 3) := by decide +kernel
theorem dX3_sourceOf_68 : decode cX3_sourceOf 68 = .ok (.iload 5, 2) := by decide +kernel
theorem dX3_sourceOf_70 : decode cX3_sourceOf 70 = .ok (.ifCond .eq 8, 3) := by decide +kernel
theorem dX3_sourceOf_73 : decode cX3_sourceOf 73 = .ok (.aload 4, 2) := by decide +kernel
theorem dX3_sourceOf_75 : decode cX3_sourceOf 75 = .ok (.goto 4, 3) := by decide +kernel
theorem dX3_sourceOf_78 : decode cX3_sourceOf 78 = .ok (.aload_n 3, 1) := by decide +kernel
theorem dX3_sourceOf_79 : decode cX3_sourceOf 79 = .ok (.areturn, 1) := by decide +kernel
theorem dX3_isDisputed_0 : decode cX3_isDisputed 0 = .ok (.aload_n 0, 1) := by decide +kernel
theorem dX3_isDisputed_1 : decode cX3_isDisputed 1 = .ok (.getfield 12, 3) := by decide +kernel
theorem dX3_isDisputed_4 : decode cX3_isDisputed 4 = .ok (.invokevirtual 125, 3) := by decide +kernel
theorem dX3_isDisputed_7 : decode cX3_isDisputed 7 = .ok (.astore_n 3, 1) := by decide +kernel
theorem dX3_isDisputed_8 : decode cX3_isDisputed 8 = .ok (.aload_n 0, 1) := by decide +kernel
theorem dX3_isDisputed_9 : decode cX3_isDisputed 9 = .ok (.getfield 12, 3) := by decide +kernel
theorem dX3_isDisputed_12 : decode cX3_isDisputed 12 = .ok (.invokevirtual 121, 3) := by decide +kernel
theorem dX3_isDisputed_15 : decode cX3_isDisputed 15 = .ok (.astore 4, 2) := by decide +kernel
theorem dX3_isDisputed_17 : decode cX3_isDisputed 17 = .ok (.aload_n 3, 1) := by decide +kernel
theorem dX3_isDisputed_18 : decode cX3_isDisputed 18 = .ok (.iload_n 1, 1) := by decide +kernel
theorem dX3_isDisputed_19 : decode cX3_isDisputed 19 = .ok (.invokevirtual 75, 3) := by decide +kernel
theorem dX3_isDisputed_22 : decode cX3_isDisputed 22 = .ok (.ifCond .eq 28, 3) := by decide +kernel
theorem dX3_isDisputed_25 : decode cX3_isDisputed 25 = .ok (.aload 4, 2) := by decide +kernel
theorem dX3_isDisputed_27 : decode cX3_isDisputed 27 = .ok (.iload_n 1, 1) := by decide +kernel
theorem dX3_isDisputed_28 : decode cX3_isDisputed 28 = .ok (.invokevirtual 75, 3) := by decide +kernel
theorem dX3_isDisputed_31 : decode cX3_isDisputed 31 = .ok (.ifCond .eq 19, 3) := by decide +kernel
theorem dX3_isDisputed_34 : decode cX3_isDisputed 34 = .ok (.aload_n 3, 1) := by decide +kernel
theorem dX3_isDisputed_35 : decode cX3_isDisputed 35 = .ok (.iload_n 1, 1) := by decide +kernel
theorem dX3_isDisputed_36 : decode cX3_isDisputed 36 = .ok (.iload_n 2, 1) := by decide +kernel
theorem dX3_isDisputed_37 : decode cX3_isDisputed 37 = .ok (.invokevirtual 103, 3) := by decide +kernel
theorem dX3_isDisputed_40 : decode cX3_isDisputed 40 = .ok (.aload 4, 2) := by decide +kernel
theorem dX3_isDisputed_42 : decode cX3_isDisputed 42 = .ok (.iload_n 1, 1) := by decide +kernel
theorem dX3_isDisputed_43 : decode cX3_isDisputed 43 = .ok (.iload_n 2, 1) := by decide +kernel
theorem dX3_isDisputed_44 : decode cX3_isDisputed 44 = .ok (.invokevirtual 103, 3) := by decide +kernel
theorem dX3_isDisputed_47 : decode cX3_isDisputed 47 = .ok (.if_icmp .ne 5, 3) := by decide +kernel
theorem dX3_isDisputed_50 : decode cX3_isDisputed 50 = .ok (.iconst 0, 1) := by decide +kernel
theorem dX3_isDisputed_51 : decode cX3_isDisputed 51 = .ok (.ireturn, 1) := by decide +kernel
theorem dX3_isDisputed_52 : decode cX3_isDisputed 52 = .ok (.aload_n 0, 1) := by decide +kernel
theorem dX3_isDisputed_53 : decode cX3_isDisputed 53 = .ok (.getfield 12, 3) := by decide +kernel
theorem dX3_isDisputed_56 : decode cX3_isDisputed 56 = .ok (.getfield 82, 3) := by decide +kernel
theorem dX3_isDisputed_59 : decode cX3_isDisputed 59 = .ok (.iload_n 1, 1) := by decide +kernel
theorem dX3_isDisputed_60 : decode cX3_isDisputed 60 = .ok (.invokevirtual 75, 3) := by decide +kernel
theorem dX3_isDisputed_63 : decode cX3_isDisputed 63 = .ok (.ifCond .eq 24, 3) := by decide +kernel
theorem dX3_isDisputed_66 : decode cX3_isDisputed 66 = .ok (.aload_n 0, 1) := by decide +kernel
theorem dX3_isDisputed_67 : decode cX3_isDisputed 67 = .ok (.iload_n 1, 1) := by decide +kernel
theorem dX3_isDisputed_68 : decode cX3_isDisputed 68 = .ok (.aload_n 3, 1) := by decide +kernel
theorem dX3_isDisputed_69 : decode cX3_isDisputed 69 = .ok (.iload_n 2, 1) := by decide +kernel
theorem dX3_isDisputed_70 : decode cX3_isDisputed 70 = .ok (.invokevirtual 96, 3) := by decide +kernel
theorem dX3_isDisputed_73 : decode cX3_isDisputed 73 = .ok (.ifCond .eq 18, 3) := by decide +kernel
theorem dX3_isDisputed_76 : decode cX3_isDisputed 76 = .ok (.aload_n 0, 1) := by decide +kernel
theorem dX3_isDisputed_77 : decode cX3_isDisputed 77 = .ok (.iload_n 1, 1) := by decide +kernel
theorem dX3_isDisputed_78 : decode cX3_isDisputed 78 = .ok (.aload 4, 2) := by decide +kernel
theorem dX3_isDisputed_80 : decode cX3_isDisputed 80 = .ok (.iload_n 2, 1) := by decide +kernel
theorem dX3_isDisputed_81 : decode cX3_isDisputed 81 = .ok (.invokevirtual 96, 3) := by decide +kernel
theorem dX3_isDisputed_84 : decode cX3_isDisputed 84 = .ok (.ifCond .eq 7, 3) := by decide +kernel
theorem dX3_isDisputed_87 : decode cX3_isDisputed 87 = .ok (.iconst 1, 1) := by decide +kernel
theorem dX3_isDisputed_88 : decode cX3_isDisputed 88 = .ok (.goto 4, 3) := by decide +kernel
theorem dX3_isDisputed_91 : decode cX3_isDisputed 91 = .ok (.iconst 0, 1) := by decide +kernel
theorem dX3_isDisputed_92 : decode cX3_isDisputed 92 = .ok (.ireturn, 1) := by decide +kernel
theorem dX3_rehang_0 : decode cX3_rehang 0 = .ok (.iconst 1, 1) := by decide +kernel
theorem dX3_rehang_1 : decode cX3_rehang 1 = .ok (.istore_n 1, 1) := by decide +kernel
theorem dX3_rehang_2 : decode cX3_rehang 2 = .ok (.iload_n 1, 1) := by decide +kernel
theorem dX3_rehang_3 : decode cX3_rehang 3 = .ok (.bipush 16, 2) := by decide +kernel
theorem dX3_rehang_5 : decode cX3_rehang 5 = .ok (.if_icmp .ge 65, 3) := by decide +kernel
theorem dX3_rehang_8 : decode cX3_rehang 8 = .ok (.aload_n 0, 1) := by decide +kernel
theorem dX3_rehang_9 : decode cX3_rehang 9 = .ok (.getfield 21, 3) := by decide +kernel
theorem dX3_rehang_12 : decode cX3_rehang 12 = .ok (.iload_n 1, 1) := by decide +kernel
theorem dX3_rehang_13 : decode cX3_rehang 13 = .ok (.iconst 0, 1) := by decide +kernel
theorem dX3_rehang_14 : decode cX3_rehang 14 = .ok (.invokevirtual 103, 3) := by decide +kernel
theorem dX3_rehang_17 : decode cX3_rehang 17 = .ok (.istore_n 2, 1) := by decide +kernel
theorem dX3_rehang_18 : decode cX3_rehang 18 = .ok (.aload_n 0, 1) := by decide +kernel
theorem dX3_rehang_19 : decode cX3_rehang 19 = .ok (.getfield 21, 3) := by decide +kernel
theorem dX3_rehang_22 : decode cX3_rehang 22 = .ok (.iload_n 1, 1) := by decide +kernel
theorem dX3_rehang_23 : decode cX3_rehang 23 = .ok (.invokevirtual 75, 3) := by decide +kernel
theorem dX3_rehang_26 : decode cX3_rehang 26 = .ok (.ifCond .eq 38, 3) := by decide +kernel
theorem dX3_rehang_29 : decode cX3_rehang 29 = .ok (.aload_n 0, 1) := by decide +kernel
theorem dX3_rehang_30 : decode cX3_rehang 30 = .ok (.getfield 21, 3) := by decide +kernel
theorem dX3_rehang_33 : decode cX3_rehang 33 = .ok (.iload_n 2, 1) := by decide +kernel
theorem dX3_rehang_34 : decode cX3_rehang 34 = .ok (.invokevirtual 75, 3) := by decide +kernel
theorem dX3_rehang_37 : decode cX3_rehang 37 = .ok (.ifCond .ne 27, 3) := by decide +kernel
theorem dX3_rehang_40 : decode cX3_rehang 40 = .ok (.aload_n 0, 1) := by decide +kernel
theorem dX3_rehang_41 : decode cX3_rehang 41 = .ok (.getfield 21, 3) := by decide +kernel
theorem dX3_rehang_44 : decode cX3_rehang 44 = .ok (.iload_n 1, 1) := by decide +kernel
theorem dX3_rehang_45 : decode cX3_rehang 45 = .ok (.iconst 0, 1) := by decide +kernel
theorem dX3_rehang_46 : decode cX3_rehang 46 = .ok (.aload_n 0, 1) := by decide +kernel
theorem dX3_rehang_47 : decode cX3_rehang 47 = .ok (.iload_n 2, 1) := by decide +kernel
theorem dX3_rehang_48 : decode cX3_rehang 48 = .ok (.invokevirtual 128, 3) := by decide +kernel
theorem dX3_rehang_51 : decode cX3_rehang 51 = .ok (.invokevirtual 115, 3) := by decide +kernel
theorem dX3_rehang_54 : decode cX3_rehang 54 = .ok (.aload_n 0, 1) := by decide +kernel
theorem dX3_rehang_55 : decode cX3_rehang 55 = .ok (.getfield 30, 3) := by decide +kernel
theorem dX3_rehang_58 : decode cX3_rehang 58 = .ok (.iconst 4, 1) := by decide +kernel
theorem dX3_rehang_59 : decode cX3_rehang 59 = .ok (.iload_n 1, 1) := by decide +kernel
theorem dX3_rehang_60 : decode cX3_rehang 60 = .ok (.iload_n 2, 1) := by decide +kernel
theorem dX3_rehang_61 : decode cX3_rehang 61 = .ok (.invokevirtual 92, 3) := by decide +kernel
theorem dX3_rehang_64 : decode cX3_rehang 64 = .ok (.iinc 1 1, 3) := by decide +kernel
theorem dX3_rehang_67 : decode cX3_rehang 67 = .ok (.goto (-65), 3) := by decide +kernel
theorem dX3_rehang_70 : decode cX3_rehang 70 = .ok (.return_, 1) := by decide +kernel
theorem dX3_nearest_0 : decode cX3_nearest 0 = .ok (.iload_n 1, 1) := by decide +kernel
theorem dX3_nearest_1 : decode cX3_nearest 1 = .ok (.istore_n 2, 1) := by decide +kernel
theorem dX3_nearest_2 : decode cX3_nearest 2 = .ok (.iconst 0, 1) := by decide +kernel
theorem dX3_nearest_3 : decode cX3_nearest 3 = .ok (.istore_n 3, 1) := by decide +kernel
theorem dX3_nearest_4 : decode cX3_nearest 4 = .ok (.iload_n 3, 1) := by decide +kernel
theorem dX3_nearest_5 : decode cX3_nearest 5 = .ok (.bipush 16, 2) := by decide +kernel
theorem dX3_nearest_7 : decode cX3_nearest 7 = .ok (.if_icmp .ge 35, 3) := by decide +kernel
theorem dX3_nearest_10 : decode cX3_nearest 10 = .ok (.aload_n 0, 1) := by decide +kernel
theorem dX3_nearest_11 : decode cX3_nearest 11 = .ok (.getfield 21, 3) := by decide +kernel
theorem dX3_nearest_14 : decode cX3_nearest 14 = .ok (.iload_n 2, 1) := by decide +kernel
theorem dX3_nearest_15 : decode cX3_nearest 15 = .ok (.invokevirtual 75, 3) := by decide +kernel
theorem dX3_nearest_18 : decode cX3_nearest 18 = .ok (.ifCond .eq 5, 3) := by decide +kernel
theorem dX3_nearest_21 : decode cX3_nearest 21 = .ok (.iload_n 2, 1) := by decide +kernel
theorem dX3_nearest_22 : decode cX3_nearest 22 = .ok (.ireturn, 1) := by decide +kernel
theorem dX3_nearest_23 : decode cX3_nearest 23 = .ok (.aload_n 0, 1) := by decide +kernel
theorem dX3_nearest_24 : decode cX3_nearest 24 = .ok (.getfield 12, 3) := by decide +kernel
theorem dX3_nearest_27 : decode cX3_nearest 27 = .ok (.getfield 82, 3) := by decide +kernel
theorem dX3_nearest_30 : decode cX3_nearest 30 = .ok (.iload_n 2, 1) := by decide +kernel
theorem dX3_nearest_31 : decode cX3_nearest 31 = .ok (.iconst 0, 1) := by decide +kernel
theorem dX3_nearest_32 : decode cX3_nearest 32 = .ok (.invokevirtual 103, 3) := by decide +kernel
theorem dX3_nearest_35 : decode cX3_nearest 35 = .ok (.istore_n 2, 1) := by decide +kernel
theorem dX3_nearest_36 : decode cX3_nearest 36 = .ok (.iinc 3 1, 3) := by decide +kernel
theorem dX3_nearest_39 : decode cX3_nearest 39 = .ok (.goto (-35), 3) := by decide +kernel
theorem dX3_nearest_42 : decode cX3_nearest 42 = .ok (.iconst 0, 1) := by decide +kernel
theorem dX3_nearest_43 : decode cX3_nearest 43 = .ok (.ireturn, 1) := by decide +kernel
theorem dX3_undoRings_0 : decode cX3_undoRings 0 = .ok (.iconst 0, 1) := by decide +kernel
theorem dX3_undoRings_1 : decode cX3_undoRings 1 = .ok (.istore_n 1, 1) := by decide +kernel
theorem dX3_undoRings_2 : decode cX3_undoRings 2 = .ok (.iload_n 1, 1) := by decide +kernel
theorem dX3_undoRings_3 : decode cX3_undoRings 3 = .ok (.bipush 16, 2) := by decide +kernel
theorem dX3_undoRings_5 : decode cX3_undoRings 5 = .ok (.if_icmp .ge 16, 3) := by decide +kernel
theorem dX3_undoRings_8 : decode cX3_undoRings 8 = .ok (.aload_n 0, 1) := by decide +kernel
theorem dX3_undoRings_9 : decode cX3_undoRings 9 = .ok (.getfield 34, 3) := by decide +kernel
theorem dX3_undoRings_12 : decode cX3_undoRings 12 = .ok (.iload_n 1, 1) := by decide +kernel
theorem dX3_undoRings_13 : decode cX3_undoRings 13 = .ok (.iconst 0, 1) := by decide +kernel
theorem dX3_undoRings_14 : decode cX3_undoRings 14 = .ok (.bastore, 1) := by decide +kernel
theorem dX3_undoRings_15 : decode cX3_undoRings 15 = .ok (.iinc 1 1, 3) := by decide +kernel
theorem dX3_undoRings_18 : decode cX3_undoRings 18 = .ok (.goto (-16), 3) := by decide +kernel
theorem dX3_undoRings_21 : decode cX3_undoRings 21 = .ok (.aload_n 0, 1) := by decide +kernel
theorem dX3_undoRings_22 : decode cX3_undoRings 22 = .ok (.invokevirtual 132, 3) := by decide +kernel
theorem dX3_undoRings_25 : decode cX3_undoRings 25 = .ok (.istore_n 1, 1) := by decide +kernel
theorem dX3_undoRings_26 : decode cX3_undoRings 26 = .ok (.iconst 0, 1) := by decide +kernel
theorem dX3_undoRings_27 : decode cX3_undoRings 27 = .ok (.istore_n 2, 1) := by decide +kernel
theorem dX3_undoRings_28 : decode cX3_undoRings 28 = .ok (.iload_n 2, 1) := by decide +kernel
theorem dX3_undoRings_29 : decode cX3_undoRings 29 = .ok (.bipush 32, 2) := by decide +kernel
theorem dX3_undoRings_31 : decode cX3_undoRings 31 = .ok (.if_icmp .ge 69, 3) := by decide +kernel
theorem dX3_undoRings_34 : decode cX3_undoRings 34 = .ok (.iload_n 1, 1) := by decide +kernel
theorem dX3_undoRings_35 : decode cX3_undoRings 35 = .ok (.iconst (-1), 1) := by decide +kernel
theorem dX3_undoRings_36 : decode cX3_undoRings 36 = .ok (.if_icmp .eq 64, 3) := by decide +kernel
theorem dX3_undoRings_39 : decode cX3_undoRings 39 = .ok (.aload_n 0, 1) := by decide +kernel
theorem dX3_undoRings_40 : decode cX3_undoRings 40 = .ok (.iload_n 1, 1) := by decide +kernel
theorem dX3_undoRings_41 : decode cX3_undoRings 41 = .ok (.invokevirtual 136, 3) := by decide +kernel
theorem dX3_undoRings_44 : decode cX3_undoRings 44 = .ok (.istore_n 3, 1) := by decide +kernel
theorem dX3_undoRings_45 : decode cX3_undoRings 45 = .ok (.iload_n 3, 1) := by decide +kernel
theorem dX3_undoRings_46 : decode cX3_undoRings 46 = .ok (.invokestatic 139, 3) := by decide +kernel
theorem dX3_undoRings_49 : decode cX3_undoRings 49 = .ok (.ifCond .eq 34, 3) := by decide +kernel
theorem dX3_undoRings_52 : decode cX3_undoRings 52 = .ok (.aload_n 0, 1) := by decide +kernel
theorem dX3_undoRings_53 : decode cX3_undoRings 53 = .ok (.iload_n 3, 1) := by decide +kernel
theorem dX3_undoRings_54 : decode cX3_undoRings 54 = .ok (.aload_n 0, 1) := by decide +kernel
theorem dX3_undoRings_55 : decode cX3_undoRings 55 = .ok (.aload_n 0, 1) := by decide +kernel
theorem dX3_undoRings_56 : decode cX3_undoRings 56 = .ok (.getfield 12, 3) := by decide +kernel
theorem dX3_undoRings_59 : decode cX3_undoRings 59 = .ok (.getfield 82, 3) := by decide +kernel
theorem dX3_undoRings_62 : decode cX3_undoRings 62 = .ok (.iload_n 3, 1) := by decide +kernel
theorem dX3_undoRings_63 : decode cX3_undoRings 63 = .ok (.iconst 0, 1) := by decide +kernel
theorem dX3_undoRings_64 : decode cX3_undoRings 64 = .ok (.invokevirtual 103, 3) := by decide +kernel
theorem dX3_undoRings_67 : decode cX3_undoRings 67 = .ok (.invokevirtual 128, 3) := by decide +kernel
theorem dX3_undoRings_70 : decode cX3_undoRings 70 = .ok (.invokevirtual 142, 3) := by decide +kernel
theorem dX3_undoRings_73 : decode cX3_undoRings 73 = .ok (.aload_n 0, 1) := by decide +kernel
theorem dX3_undoRings_74 : decode cX3_undoRings 74 = .ok (.getfield 34, 3) := by decide +kernel
theorem dX3_undoRings_77 : decode cX3_undoRings 77 = .ok (.iload_n 3, 1) := by decide +kernel
theorem dX3_undoRings_78 : decode cX3_undoRings 78 = .ok (.iconst 1, 1) := by decide +kernel
theorem dX3_undoRings_79 : decode cX3_undoRings 79 = .ok (.bastore, 1) := by decide +kernel
theorem dX3_undoRings_80 : decode cX3_undoRings 80 = .ok (.goto 9, 3) := by decide +kernel
theorem dX3_undoRings_83 : decode cX3_undoRings 83 = .ok (.aload_n 0, 1) := by decide +kernel
theorem dX3_undoRings_84 : decode cX3_undoRings 84 = .ok (.iload_n 1, 1) := by decide +kernel
theorem dX3_undoRings_85 : decode cX3_undoRings 85 = .ok (.iconst 0, 1) := by decide +kernel
theorem dX3_undoRings_86 : decode cX3_undoRings 86 = .ok (.invokevirtual 142, 3) := by decide +kernel
theorem dX3_undoRings_89 : decode cX3_undoRings 89 = .ok (.aload_n 0, 1) := by decide +kernel
theorem dX3_undoRings_90 : decode cX3_undoRings 90 = .ok (.invokevirtual 132, 3) := by decide +kernel
theorem dX3_undoRings_93 : decode cX3_undoRings 93 = .ok (.istore_n 1, 1) := by decide +kernel
theorem dX3_undoRings_94 : decode cX3_undoRings 94 = .ok (.iinc 2 1, 3) := by decide +kernel
theorem dX3_undoRings_97 : decode cX3_undoRings 97 = .ok (.goto (-69), 3) := by decide +kernel
theorem dX3_undoRings_100 : decode cX3_undoRings 100 = .ok (.return_, 1) := by decide +kernel
theorem dX3_leastInRing_0 : decode cX3_leastInRing 0 = .ok (.iconst 1, 1) := by decide +kernel
theorem dX3_leastInRing_1 : decode cX3_leastInRing 1 = .ok (.istore_n 1, 1) := by decide +kernel
theorem dX3_leastInRing_2 : decode cX3_leastInRing 2 = .ok (.iload_n 1, 1) := by decide +kernel
theorem dX3_leastInRing_3 : decode cX3_leastInRing 3 = .ok (.bipush 16, 2) := by decide +kernel
theorem dX3_leastInRing_5 : decode cX3_leastInRing 5 = .ok (.if_icmp .ge 42, 3) := by decide +kernel
theorem dX3_leastInRing_8 : decode cX3_leastInRing 8 = .ok (.aload_n 0, 1) := by decide +kernel
theorem dX3_leastInRing_9 : decode cX3_leastInRing 9 = .ok (.getfield 21, 3) := by decide +kernel
theorem dX3_leastInRing_12 : decode cX3_leastInRing 12 = .ok (.iload_n 1, 1) := by decide +kernel
theorem dX3_leastInRing_13 : decode cX3_leastInRing 13 = .ok (.invokevirtual 75, 3) := by decide +kernel
theorem dX3_leastInRing_16 : decode cX3_leastInRing 16 = .ok (.ifCond .eq 25, 3) := by decide +kernel
theorem dX3_leastInRing_19 : decode cX3_leastInRing 19 = .ok (.aload_n 0, 1) := by decide +kernel
theorem dX3_leastInRing_20 : decode cX3_leastInRing 20 = .ok (.getfield 21, 3) := by decide +kernel
theorem dX3_leastInRing_23 : decode cX3_leastInRing 23 = .ok (.aload_n 0, 1) := by decide +kernel
theorem dX3_leastInRing_24 : decode cX3_leastInRing 24 = .ok (.getfield 21, 3) := by decide +kernel
theorem dX3_leastInRing_27 : decode cX3_leastInRing 27 = .ok (.iload_n 1, 1) := by decide +kernel
theorem dX3_leastInRing_28 : decode cX3_leastInRing 28 = .ok (.iconst 0, 1) := by decide +kernel
theorem dX3_leastInRing_29 : decode cX3_leastInRing 29 = .ok (.invokevirtual 103, 3) := by decide +kernel
theorem dX3_leastInRing_32 : decode cX3_leastInRing 32 = .ok (.iload_n 1, 1) := by decide +kernel
theorem dX3_leastInRing_33 : decode cX3_leastInRing 33 = .ok (.invokevirtual 145, 3) := by decide +kernel
theorem dX3_leastInRing_36 : decode cX3_leastInRing 36 = .ok (.ifCond .eq 5, 3) := by decide +kernel
theorem dX3_leastInRing_39 : decode cX3_leastInRing 39 = .ok (.iload_n 1, 1) := by decide +kernel
theorem dX3_leastInRing_40 : decode cX3_leastInRing 40 = .ok (.ireturn, 1) := by decide +kernel
theorem dX3_leastInRing_41 : decode cX3_leastInRing 41 = .ok (.iinc 1 1, 3) := by decide +kernel
theorem dX3_leastInRing_44 : decode cX3_leastInRing 44 = .ok (.goto (-42), 3) := by decide +kernel
theorem dX3_leastInRing_47 : decode cX3_leastInRing 47 = .ok (.iconst (-1), 1) := by decide +kernel
theorem dX3_leastInRing_48 : decode cX3_leastInRing 48 = .ok (.ireturn, 1) := by decide +kernel
theorem dX3_rehangFromRing_0 : decode cX3_rehangFromRing 0 = .ok (.aload_n 0, 1) := by decide +kernel
theorem dX3_rehangFromRing_1 : decode cX3_rehangFromRing 1 = .ok (.getfield 30, 3) := by decide +kernel
theorem dX3_rehangFromRing_4 : decode cX3_rehangFromRing 4 = .ok (.iconst 5, 1) := by decide +kernel
theorem dX3_rehangFromRing_5 : decode cX3_rehangFromRing 5 = .ok (.iload_n 1, 1) := by decide +kernel
theorem dX3_rehangFromRing_6 : decode cX3_rehangFromRing 6 = .ok (.aload_n 0, 1) := by decide +kernel
theorem dX3_rehangFromRing_7 : decode cX3_rehangFromRing 7 = .ok (.getfield 21, 3) := by decide +kernel
theorem dX3_rehangFromRing_10 : decode cX3_rehangFromRing 10 = .ok (.iload_n 1, 1) := by decide +kernel
theorem dX3_rehangFromRing_11 : decode cX3_rehangFromRing 11 = .ok (.iconst 0, 1) := by decide +kernel
theorem dX3_rehangFromRing_12 : decode cX3_rehangFromRing 12 = .ok (.invokevirtual 103, 3) := by decide +kernel
theorem dX3_rehangFromRing_15 : decode cX3_rehangFromRing 15 = .ok (.invokevirtual 92, 3) := by decide +kernel
theorem dX3_rehangFromRing_18 : decode cX3_rehangFromRing 18 = .ok (.aload_n 0, 1) := by decide +kernel
theorem dX3_rehangFromRing_19 : decode cX3_rehangFromRing 19 = .ok (.getfield 21, 3) := by decide +kernel
theorem dX3_rehangFromRing_22 : decode cX3_rehangFromRing 22 = .ok (.iload_n 1, 1) := by decide +kernel
theorem dX3_rehangFromRing_23 : decode cX3_rehangFromRing 23 = .ok (.iconst 0, 1) := by decide +kernel
theorem dX3_rehangFromRing_24 : decode cX3_rehangFromRing 24 = .ok (.iload_n 2, 1) := by decide +kernel
theorem dX3_rehangFromRing_25 : decode cX3_rehangFromRing 25 = .ok (.invokevirtual 115, 3) := by decide +kernel
theorem dX3_rehangFromRing_28 : decode cX3_rehangFromRing 28 = .ok (.return_, 1) := by decide +kernel
theorem dX3_leastToPutBack_0 : decode cX3_leastToPutBack 0 = .ok (.iconst 1, 1) := by decide +kernel
theorem dX3_leastToPutBack_1 : decode cX3_leastToPutBack 1 = .ok (.istore_n 2, 1) := by decide +kernel
theorem dX3_leastToPutBack_2 : decode cX3_leastToPutBack 2 = .ok (.iload_n 2, 1) := by decide +kernel
theorem dX3_leastToPutBack_3 : decode cX3_leastToPutBack 3 = .ok (.bipush 16, 2) := by decide +kernel
theorem dX3_leastToPutBack_5 : decode cX3_leastToPutBack 5 = .ok (.if_icmp .ge 40, 3) := by decide +kernel
theorem dX3_leastToPutBack_8 : decode cX3_leastToPutBack 8 = .ok (.aload_n 0, 1) := by decide +kernel
theorem dX3_leastToPutBack_9 : decode cX3_leastToPutBack 9 = .ok (.getfield 21, 3) := by decide +kernel
theorem dX3_leastToPutBack_12 : decode cX3_leastToPutBack 12 = .ok (.iload_n 1, 1) := by decide +kernel
theorem dX3_leastToPutBack_13 : decode cX3_leastToPutBack 13 = .ok (.iload_n 2, 1) := by decide +kernel
theorem dX3_leastToPutBack_14 : decode cX3_leastToPutBack 14 = .ok (.invokevirtual 145, 3) := by decide +kernel
theorem dX3_leastToPutBack_17 : decode cX3_leastToPutBack 17 = .ok (.ifCond .eq 22, 3) := by decide +kernel
theorem dX3_leastToPutBack_20 : decode cX3_leastToPutBack 20 = .ok (.aload_n 0, 1) := by decide +kernel
theorem dX3_leastToPutBack_21 : decode cX3_leastToPutBack 21 = .ok (.getfield 34, 3) := by decide +kernel
theorem dX3_leastToPutBack_24 : decode cX3_leastToPutBack 24 = .ok (.iload_n 2, 1) := by decide +kernel
theorem dX3_leastToPutBack_25 : decode cX3_leastToPutBack 25 = .ok (.baload, 1) := by decide +kernel
theorem dX3_leastToPutBack_26 : decode cX3_leastToPutBack 26 = .ok (.ifCond .ne 13, 3) := by decide +kernel
theorem dX3_leastToPutBack_29 : decode cX3_leastToPutBack 29 = .ok (.aload_n 0, 1) := by decide +kernel
theorem dX3_leastToPutBack_30 : decode cX3_leastToPutBack 30 = .ok (.iload_n 2, 1) := by decide +kernel
theorem dX3_leastToPutBack_31 : decode cX3_leastToPutBack 31 = .ok (.invokevirtual 148, 3) := by decide +kernel
theorem dX3_leastToPutBack_34 : decode cX3_leastToPutBack 34 = .ok (.ifCond .eq 5, 3) := by decide +kernel
theorem dX3_leastToPutBack_37 : decode cX3_leastToPutBack 37 = .ok (.iload_n 2, 1) := by decide +kernel
theorem dX3_leastToPutBack_38 : decode cX3_leastToPutBack 38 = .ok (.ireturn, 1) := by decide +kernel
theorem dX3_leastToPutBack_39 : decode cX3_leastToPutBack 39 = .ok (.iinc 2 1, 3) := by decide +kernel
theorem dX3_leastToPutBack_42 : decode cX3_leastToPutBack 42 = .ok (.goto (-40), 3) := by decide +kernel
theorem dX3_leastToPutBack_45 : decode cX3_leastToPutBack 45 = .ok (.iconst (-1), 1) := by decide +kernel
theorem dX3_leastToPutBack_46 : decode cX3_leastToPutBack 46 = .ok (.ireturn, 1) := by decide +kernel
theorem dX3_isMoveOfOther_0 : decode cX3_isMoveOfOther 0 = .ok (.aload_n 0, 1) := by decide +kernel
theorem dX3_isMoveOfOther_1 : decode cX3_isMoveOfOther 1 = .ok (.getfield 12, 3) := by decide +kernel
theorem dX3_isMoveOfOther_4 : decode cX3_isMoveOfOther 4 = .ok (.invokevirtual 121, 3) := by decide +kernel
theorem dX3_isMoveOfOther_7 : decode cX3_isMoveOfOther 7 = .ok (.astore_n 2, 1) := by decide +kernel
theorem dX3_isMoveOfOther_8 : decode cX3_isMoveOfOther 8 = .ok (.aload_n 0, 1) := by decide +kernel
theorem dX3_isMoveOfOther_9 : decode cX3_isMoveOfOther 9 = .ok (.getfield 12, 3) := by decide +kernel
theorem dX3_isMoveOfOther_12 : decode cX3_isMoveOfOther 12 = .ok (.getfield 82, 3) := by decide +kernel
theorem dX3_isMoveOfOther_15 : decode cX3_isMoveOfOther 15 = .ok (.iload_n 1, 1) := by decide +kernel
theorem dX3_isMoveOfOther_16 : decode cX3_isMoveOfOther 16 = .ok (.invokevirtual 75, 3) := by decide +kernel
theorem dX3_isMoveOfOther_19 : decode cX3_isMoveOfOther 19 = .ok (.ifCond .eq 11, 3) := by decide +kernel
theorem dX3_isMoveOfOther_22 : decode cX3_isMoveOfOther 22 = .ok (.aload_n 2, 1) := by decide +kernel
theorem dX3_isMoveOfOther_23 : decode cX3_isMoveOfOther 23 = .ok (.iload_n 1, 1) := by decide +kernel
theorem dX3_isMoveOfOther_24 : decode cX3_isMoveOfOther 24 = .ok (.invokevirtual 75, 3) := by decide +kernel
theorem dX3_isMoveOfOther_27 : decode cX3_isMoveOfOther 27 = .ok (.ifCond .ne 5, 3) := by decide +kernel
theorem dX3_isMoveOfOther_30 : decode cX3_isMoveOfOther 30 = .ok (.iconst 0, 1) := by decide +kernel
theorem dX3_isMoveOfOther_31 : decode cX3_isMoveOfOther 31 = .ok (.ireturn, 1) := by decide +kernel
theorem dX3_isMoveOfOther_32 : decode cX3_isMoveOfOther 32 = .ok (.aload_n 0, 1) := by decide +kernel
theorem dX3_isMoveOfOther_33 : decode cX3_isMoveOfOther 33 = .ok (.getfield 21, 3) := by decide +kernel
theorem dX3_isMoveOfOther_36 : decode cX3_isMoveOfOther 36 = .ok (.iload_n 1, 1) := by decide +kernel
theorem dX3_isMoveOfOther_37 : decode cX3_isMoveOfOther 37 = .ok (.iconst 0, 1) := by decide +kernel
theorem dX3_isMoveOfOther_38 : decode cX3_isMoveOfOther 38 = .ok (.invokevirtual 103, 3) := by decide +kernel
theorem dX3_isMoveOfOther_41 : decode cX3_isMoveOfOther 41 = .ok (.istore_n 3, 1) := by decide +kernel
theorem dX3_isMoveOfOther_42 : decode cX3_isMoveOfOther 42 = .ok (.iload_n 3, 1) := by decide +kernel
theorem dX3_isMoveOfOther_43 : decode cX3_isMoveOfOther 43 = .ok (.aload_n 2, 1) := by decide +kernel
theorem dX3_isMoveOfOther_44 : decode cX3_isMoveOfOther 44 = .ok (.iload_n 1, 1) := by decide +kernel
theorem dX3_isMoveOfOther_45 : decode cX3_isMoveOfOther 45 = .ok (.iconst 0, 1) := by decide +kernel
theorem dX3_isMoveOfOther_46 : decode cX3_isMoveOfOther 46 = .ok (.invokevirtual 103, 3) := by decide +kernel
theorem dX3_isMoveOfOther_49 : decode cX3_isMoveOfOther 49 = .ok (.if_icmp .ne 23, 3) := by decide +kernel
theorem dX3_isMoveOfOther_52 : decode cX3_isMoveOfOther 52 = .ok (.iload_n 3, 1) := by decide +kernel
theorem dX3_isMoveOfOther_53 : decode cX3_isMoveOfOther 53 = .ok (.aload_n 0, 1) := by decide +kernel
theorem dX3_isMoveOfOther_54 : decode cX3_isMoveOfOther 54 = .ok (.getfield 12, 3) := by decide +kernel
theorem dX3_isMoveOfOther_57 : decode cX3_isMoveOfOther 57 = .ok (.getfield 82, 3) := by decide +kernel
theorem dX3_isMoveOfOther_60 : decode cX3_isMoveOfOther 60 = .ok (.iload_n 1, 1) := by decide +kernel
theorem dX3_isMoveOfOther_61 : decode cX3_isMoveOfOther 61 = .ok (.iconst 0, 1) := by decide +kernel
theorem dX3_isMoveOfOther_62 : decode cX3_isMoveOfOther 62 = .ok (.invokevirtual 103, 3) := by decide +kernel
theorem dX3_isMoveOfOther_65 : decode cX3_isMoveOfOther 65 = .ok (.if_icmp .eq 7, 3) := by decide +kernel
theorem dX3_isMoveOfOther_68 : decode cX3_isMoveOfOther 68 = .ok (.iconst 1, 1) := by decide +kernel
theorem dX3_isMoveOfOther_69 : decode cX3_isMoveOfOther 69 = .ok (.goto 4, 3) := by decide +kernel
theorem dX3_isMoveOfOther_72 : decode cX3_isMoveOfOther 72 = .ok (.iconst 0, 1) := by decide +kernel
theorem dX3_isMoveOfOther_73 : decode cX3_isMoveOfOther 73 = .ok (.ireturn, 1) := by decide +kernel
theorem dX3_orderChildren_0 : decode cX3_orderChildren 0 = .ok (.iconst 1, 1) := by decide +kernel
theorem dX3_orderChildren_1 : decode cX3_orderChildren 1 = .ok (.istore_n 1, 1) := by decide +kernel
theorem dX3_orderChildren_2 : decode cX3_orderChildren 2 = .ok (.iload_n 1, 1) := by decide +kernel
theorem dX3_orderChildren_3 : decode cX3_orderChildren 3 = .ok (.bipush 16, 2) := by decide +kernel
theorem dX3_orderChildren_5 : decode cX3_orderChildren 5 = .ok (.if_icmp .ge 20, 3) := by decide +kernel
theorem dX3_orderChildren_8 : decode cX3_orderChildren 8 = .ok (.aload_n 0, 1) := by decide +kernel
theorem dX3_orderChildren_9 : decode cX3_orderChildren 9 = .ok (.getfield 38, 3) := by decide +kernel
theorem dX3_orderChildren_12 : decode cX3_orderChildren 12 = .ok (.iload_n 1, 1) := by decide +kernel
theorem dX3_orderChildren_13 : decode cX3_orderChildren 13 = .ok (.aload_n 0, 1) := by decide +kernel
theorem dX3_orderChildren_14 : decode cX3_orderChildren 14 = .ok (.iload_n 1, 1) := by decide +kernel
theorem dX3_orderChildren_15 : decode cX3_orderChildren 15 = .ok (.invokevirtual 151, 3) := by decide +kernel
theorem dX3_orderChildren_18 : decode cX3_orderChildren 18 = .ok (.iastore, 1) := by decide +kernel
theorem dX3_orderChildren_19 : decode cX3_orderChildren 19 = .ok (.iinc 1 1, 3) := by decide +kernel
theorem dX3_orderChildren_22 : decode cX3_orderChildren 22 = .ok (.goto (-20), 3) := by decide +kernel
theorem dX3_orderChildren_25 : decode cX3_orderChildren 25 = .ok (.iconst 1, 1) := by decide +kernel
theorem dX3_orderChildren_26 : decode cX3_orderChildren 26 = .ok (.istore_n 1, 1) := by decide +kernel
theorem dX3_orderChildren_27 : decode cX3_orderChildren 27 = .ok (.iload_n 1, 1) := by decide +kernel
theorem dX3_orderChildren_28 : decode cX3_orderChildren 28 = .ok (.bipush 16, 2) := by decide +kernel
theorem dX3_orderChildren_30 : decode cX3_orderChildren 30 = .ok (.if_icmp .ge 34, 3) := by decide +kernel
theorem dX3_orderChildren_33 : decode cX3_orderChildren 33 = .ok (.aload_n 0, 1) := by decide +kernel
theorem dX3_orderChildren_34 : decode cX3_orderChildren 34 = .ok (.getfield 21, 3) := by decide +kernel
theorem dX3_orderChildren_37 : decode cX3_orderChildren 37 = .ok (.iload_n 1, 1) := by decide +kernel
theorem dX3_orderChildren_38 : decode cX3_orderChildren 38 = .ok (.invokevirtual 75, 3) := by decide +kernel
theorem dX3_orderChildren_41 : decode cX3_orderChildren 41 = .ok (.ifCond .eq 17, 3) := by decide +kernel
theorem dX3_orderChildren_44 : decode cX3_orderChildren 44 = .ok (.aload_n 0, 1) := by decide +kernel
theorem dX3_orderChildren_45 : decode cX3_orderChildren 45 = .ok (.getfield 21, 3) := by decide +kernel
theorem dX3_orderChildren_48 : decode cX3_orderChildren 48 = .ok (.iload_n 1, 1) := by decide +kernel
theorem dX3_orderChildren_49 : decode cX3_orderChildren 49 = .ok (.iconst 1, 1) := by decide +kernel
theorem dX3_orderChildren_50 : decode cX3_orderChildren 50 = .ok (.aload_n 0, 1) := by decide +kernel
theorem dX3_orderChildren_51 : decode cX3_orderChildren 51 = .ok (.iload_n 1, 1) := by decide +kernel
theorem dX3_orderChildren_52 : decode cX3_orderChildren 52 = .ok (.invokevirtual 154, 3) := by decide +kernel
theorem dX3_orderChildren_55 : decode cX3_orderChildren 55 = .ok (.invokevirtual 115, 3) := by decide +kernel
theorem dX3_orderChildren_58 : decode cX3_orderChildren 58 = .ok (.iinc 1 1, 3) := by decide +kernel
theorem dX3_orderChildren_61 : decode cX3_orderChildren 61 = .ok (.goto (-34), 3) := by decide +kernel
theorem dX3_orderChildren_64 : decode cX3_orderChildren 64 = .ok (.return_, 1) := by decide +kernel
theorem dX3_keyOf_0 : decode cX3_keyOf 0 = .ok (.aload_n 0, 1) := by decide +kernel
theorem dX3_keyOf_1 : decode cX3_keyOf 1 = .ok (.getfield 21, 3) := by decide +kernel
theorem dX3_keyOf_4 : decode cX3_keyOf 4 = .ok (.iload_n 1, 1) := by decide +kernel
theorem dX3_keyOf_5 : decode cX3_keyOf 5 = .ok (.iconst 0, 1) := by decide +kernel
theorem dX3_keyOf_6 : decode cX3_keyOf 6 = .ok (.invokevirtual 103, 3) := by decide +kernel
theorem dX3_keyOf_9 : decode cX3_keyOf 9 = .ok (.istore_n 2, 1) := by decide +kernel
theorem dX3_keyOf_10 : decode cX3_keyOf 10 = .ok (.aload_n 0, 1) := by decide +kernel
theorem dX3_keyOf_11 : decode cX3_keyOf 11 = .ok (.getfield 12, 3) := by decide +kernel
theorem dX3_keyOf_14 : decode cX3_keyOf 14 = .ok (.invokevirtual 125, 3) := by decide +kernel
theorem dX3_keyOf_17 : decode cX3_keyOf 17 = .ok (.astore_n 3, 1) := by decide +kernel
theorem dX3_keyOf_18 : decode cX3_keyOf 18 = .ok (.aload_n 3, 1) := by decide +kernel
theorem dX3_keyOf_19 : decode cX3_keyOf 19 = .ok (.iload_n 1, 1) := by decide +kernel
theorem dX3_keyOf_20 : decode cX3_keyOf 20 = .ok (.iload_n 2, 1) := by decide +kernel
theorem dX3_keyOf_21 : decode cX3_keyOf 21 = .ok (.invokevirtual 107, 3) := by decide +kernel
theorem dX3_keyOf_24 : decode cX3_keyOf 24 = .ok (.ifCond .eq 12, 3) := by decide +kernel
theorem dX3_keyOf_27 : decode cX3_keyOf 27 = .ok (.iconst 2, 1) := by decide +kernel
theorem dX3_keyOf_28 : decode cX3_keyOf 28 = .ok (.aload_n 3, 1) := by decide +kernel
theorem dX3_keyOf_29 : decode cX3_keyOf 29 = .ok (.iload_n 1, 1) := by decide +kernel
theorem dX3_keyOf_30 : decode cX3_keyOf 30 = .ok (.iconst 1, 1) := by decide +kernel
theorem dX3_keyOf_31 : decode cX3_keyOf 31 = .ok (.invokevirtual 103, 3) := by decide +kernel
theorem dX3_keyOf_34 : decode cX3_keyOf 34 = .ok (.imul, 1) := by decide +kernel
theorem dX3_keyOf_35 : decode cX3_keyOf 35 = .ok (.ireturn, 1) := by decide +kernel
theorem dX3_keyOf_36 : decode cX3_keyOf 36 = .ok (.aload_n 0, 1) := by decide +kernel
theorem dX3_keyOf_37 : decode cX3_keyOf 37 = .ok (.getfield 12, 3) := by decide +kernel
theorem dX3_keyOf_40 : decode cX3_keyOf 40 = .ok (.invokevirtual 121, 3) := by decide +kernel
theorem dX3_keyOf_43 : decode cX3_keyOf 43 = .ok (.astore 4, 2) := by decide +kernel
theorem dX3_keyOf_45 : decode cX3_keyOf 45 = .ok (.aload 4, 2) := by decide +kernel
theorem dX3_keyOf_47 : decode cX3_keyOf 47 = .ok (.iload_n 1, 1) := by decide +kernel
theorem dX3_keyOf_48 : decode cX3_keyOf 48 = .ok (.iload_n 2, 1) := by decide +kernel
theorem dX3_keyOf_49 : decode cX3_keyOf 49 = .ok (.invokevirtual 107, 3) := by decide +kernel
theorem dX3_keyOf_52 : decode cX3_keyOf 52 = .ok (.ifCond .eq 17, 3) := by decide +kernel
theorem dX3_keyOf_55 : decode cX3_keyOf 55 = .ok (.iconst 2, 1) := by decide +kernel
theorem dX3_keyOf_56 : decode cX3_keyOf 56 = .ok (.aload 4, 2) := by decide +kernel
theorem dX3_keyOf_58 : decode cX3_keyOf 58 = .ok (.iload_n 1, 1) := by decide +kernel
theorem dX3_keyOf_59 : decode cX3_keyOf 59 = .ok (.iconst 1, 1) := by decide +kernel
theorem dX3_keyOf_60 : decode cX3_keyOf 60 = .ok (.invokevirtual 103, 3) := by decide +kernel
theorem dX3_keyOf_63 : decode cX3_keyOf 63 = .ok (.imul, 1) := by decide +kernel
theorem dX3_keyOf_64 : decode cX3_keyOf 64 = .ok (.iconst 1, 1) := by decide +kernel
theorem dX3_keyOf_65 : decode cX3_keyOf 65 = .ok (.iadd, 1) := by decide +kernel
theorem dX3_keyOf_66 : decode cX3_keyOf 66 = .ok (.goto 5, 3) := by decide +kernel
theorem dX3_keyOf_69 : decode cX3_keyOf 69 = .ok (.bipush 100, 2) := by decide +kernel
theorem dX3_keyOf_71 : decode cX3_keyOf 71 = .ok (.ireturn, 1) := by decide +kernel
theorem dX3_countAhead_0 : decode cX3_countAhead 0 = .ok (.iconst 0, 1) := by decide +kernel
theorem dX3_countAhead_1 : decode cX3_countAhead 1 = .ok (.istore_n 2, 1) := by decide +kernel
theorem dX3_countAhead_2 : decode cX3_countAhead 2 = .ok (.aload_n 0, 1) := by decide +kernel
theorem dX3_countAhead_3 : decode cX3_countAhead 3 = .ok (.getfield 21, 3) := by decide +kernel
theorem dX3_countAhead_6 : decode cX3_countAhead 6 = .ok (.iload_n 1, 1) := by decide +kernel
theorem dX3_countAhead_7 : decode cX3_countAhead 7 = .ok (.iconst 0, 1) := by decide +kernel
theorem dX3_countAhead_8 : decode cX3_countAhead 8 = .ok (.invokevirtual 103, 3) := by decide +kernel
theorem dX3_countAhead_11 : decode cX3_countAhead 11 = .ok (.istore_n 3, 1) := by decide +kernel
theorem dX3_countAhead_12 : decode cX3_countAhead 12 = .ok (.iconst 1, 1) := by decide +kernel
theorem dX3_countAhead_13 : decode cX3_countAhead 13 = .ok (.istore 4, 2) := by decide +kernel
theorem dX3_countAhead_15 : decode cX3_countAhead 15 = .ok (.iload 4, 2) := by decide +kernel
theorem dX3_countAhead_17 : decode cX3_countAhead 17 = .ok (.bipush 16, 2) := by decide +kernel
theorem dX3_countAhead_19 : decode cX3_countAhead 19 = .ok (.if_icmp .ge 40, 3) := by decide +kernel
theorem dX3_countAhead_22 : decode cX3_countAhead 22 = .ok (.iload_n 2, 1) := by decide +kernel
theorem dX3_countAhead_23 : decode cX3_countAhead 23 = .ok (.aload_n 0, 1) := by decide +kernel
theorem dX3_countAhead_24 : decode cX3_countAhead 24 = .ok (.getfield 21, 3) := by decide +kernel
theorem dX3_countAhead_27 : decode cX3_countAhead 27 = .ok (.iload 4, 2) := by decide +kernel
theorem dX3_countAhead_29 : decode cX3_countAhead 29 = .ok (.iload_n 3, 1) := by decide +kernel
theorem dX3_countAhead_30 : decode cX3_countAhead 30 = .ok (.invokevirtual 107, 3) := by decide +kernel
theorem dX3_countAhead_33 : decode cX3_countAhead 33 = .ok (.ifCond .eq 17, 3) := by decide +kernel
theorem dX3_countAhead_36 : decode cX3_countAhead 36 = .ok (.aload_n 0, 1) := by decide +kernel
theorem dX3_countAhead_37 : decode cX3_countAhead 37 = .ok (.iload 4, 2) := by decide +kernel
theorem dX3_countAhead_39 : decode cX3_countAhead 39 = .ok (.iload_n 1, 1) := by decide +kernel
theorem dX3_countAhead_40 : decode cX3_countAhead 40 = .ok (.invokevirtual 157, 3) := by decide +kernel
theorem dX3_countAhead_43 : decode cX3_countAhead 43 = .ok (.ifCond .eq 7, 3) := by decide +kernel
theorem dX3_countAhead_46 : decode cX3_countAhead 46 = .ok (.iconst 1, 1) := by decide +kernel
theorem dX3_countAhead_47 : decode cX3_countAhead 47 = .ok (.goto 4, 3) := by decide +kernel
theorem dX3_countAhead_50 : decode cX3_countAhead 50 = .ok (.iconst 0, 1) := by decide +kernel
theorem dX3_countAhead_51 : decode cX3_countAhead 51 = .ok (.iadd, 1) := by decide +kernel
theorem dX3_countAhead_52 : decode cX3_countAhead 52 = .ok (.istore_n 2, 1) := by decide +kernel
theorem dX3_countAhead_53 : decode cX3_countAhead 53 = .ok (.iinc 4 1, 3) := by decide +kernel
theorem dX3_countAhead_56 : decode cX3_countAhead 56 = .ok (.goto (-41), 3) := by decide +kernel
theorem dX3_countAhead_59 : decode cX3_countAhead 59 = .ok (.iload_n 2, 1) := by decide +kernel
theorem dX3_countAhead_60 : decode cX3_countAhead 60 = .ok (.ireturn, 1) := by decide +kernel
theorem dX3_isAhead_0 : decode cX3_isAhead 0 = .ok (.iload_n 1, 1) := by decide +kernel
theorem dX3_isAhead_1 : decode cX3_isAhead 1 = .ok (.invokestatic 139, 3) := by decide +kernel
theorem dX3_isAhead_4 : decode cX3_isAhead 4 = .ok (.ifCond .eq 10, 3) := by decide +kernel
theorem dX3_isAhead_7 : decode cX3_isAhead 7 = .ok (.iload_n 2, 1) := by decide +kernel
theorem dX3_isAhead_8 : decode cX3_isAhead 8 = .ok (.invokestatic 139, 3) := by decide +kernel
theorem dX3_isAhead_11 : decode cX3_isAhead 11 = .ok (.ifCond .ne 5, 3) := by decide +kernel
theorem dX3_isAhead_14 : decode cX3_isAhead 14 = .ok (.iconst 0, 1) := by decide +kernel
theorem dX3_isAhead_15 : decode cX3_isAhead 15 = .ok (.ireturn, 1) := by decide +kernel
theorem dX3_isAhead_16 : decode cX3_isAhead 16 = .ok (.aload_n 0, 1) := by decide +kernel
theorem dX3_isAhead_17 : decode cX3_isAhead 17 = .ok (.getfield 38, 3) := by decide +kernel
theorem dX3_isAhead_20 : decode cX3_isAhead 20 = .ok (.iload_n 1, 1) := by decide +kernel
theorem dX3_isAhead_21 : decode cX3_isAhead 21 = .ok (.iaload, 1) := by decide +kernel
theorem dX3_isAhead_22 : decode cX3_isAhead 22 = .ok (.aload_n 0, 1) := by decide +kernel
theorem dX3_isAhead_23 : decode cX3_isAhead 23 = .ok (.getfield 38, 3) := by decide +kernel
theorem dX3_isAhead_26 : decode cX3_isAhead 26 = .ok (.iload_n 2, 1) := by decide +kernel
theorem dX3_isAhead_27 : decode cX3_isAhead 27 = .ok (.iaload, 1) := by decide +kernel
theorem dX3_isAhead_28 : decode cX3_isAhead 28 = .ok (.if_icmp .lt 23, 3) := by decide +kernel
theorem dX3_isAhead_31 : decode cX3_isAhead 31 = .ok (.aload_n 0, 1) := by decide +kernel
theorem dX3_isAhead_32 : decode cX3_isAhead 32 = .ok (.getfield 38, 3) := by decide +kernel
theorem dX3_isAhead_35 : decode cX3_isAhead 35 = .ok (.iload_n 1, 1) := by decide +kernel
theorem dX3_isAhead_36 : decode cX3_isAhead 36 = .ok (.iaload, 1) := by decide +kernel
theorem dX3_isAhead_37 : decode cX3_isAhead 37 = .ok (.aload_n 0, 1) := by decide +kernel
theorem dX3_isAhead_38 : decode cX3_isAhead 38 = .ok (.getfield 38, 3) := by decide +kernel
theorem dX3_isAhead_41 : decode cX3_isAhead 41 = .ok (.iload_n 2, 1) := by decide +kernel
theorem dX3_isAhead_42 : decode cX3_isAhead 42 = .ok (.iaload, 1) := by decide +kernel
theorem dX3_isAhead_43 : decode cX3_isAhead 43 = .ok (.if_icmp .ne 12, 3) := by decide +kernel
theorem dX3_isAhead_46 : decode cX3_isAhead 46 = .ok (.iload_n 1, 1) := by decide +kernel
theorem dX3_isAhead_47 : decode cX3_isAhead 47 = .ok (.iload_n 2, 1) := by decide +kernel
theorem dX3_isAhead_48 : decode cX3_isAhead 48 = .ok (.if_icmp .ge 7, 3) := by decide +kernel
theorem dX3_isAhead_51 : decode cX3_isAhead 51 = .ok (.iconst 1, 1) := by decide +kernel
theorem dX3_isAhead_52 : decode cX3_isAhead 52 = .ok (.goto 4, 3) := by decide +kernel
theorem dX3_isAhead_55 : decode cX3_isAhead 55 = .ok (.iconst 0, 1) := by decide +kernel
theorem dX3_isAhead_56 : decode cX3_isAhead 56 = .ok (.ireturn, 1) := by decide +kernel
theorem dX4_init_0 : decode cX4_init 0 = .ok (.aload_n 0, 1) := by decide +kernel
theorem dX4_init_1 : decode cX4_init 1 = .ok (.invokespecial 3, 3) := by decide +kernel
theorem dX4_init_4 : decode cX4_init 4 = .ok (.aload_n 0, 1) := by decide +kernel
theorem dX4_init_5 : decode cX4_init 5 = .ok (.bipush 80, 2) := by decide +kernel
theorem dX4_init_7 : decode cX4_init 7 = .ok (.newarray .int, 2) := by decide +kernel
theorem dX4_init_9 : decode cX4_init 9 = .ok (.putfield 9, 3) := by decide +kernel
theorem dX4_init_12 : decode cX4_init 12 = .ok (.aload_n 0, 1) := by decide +kernel
theorem dX4_init_13 : decode cX4_init 13 = .ok (.invokevirtual 15, 3) := by decide +kernel
theorem dX4_init_16 : decode cX4_init 16 = .ok (.return_, 1) := by decide +kernel
theorem dX4_reset_0 : decode cX4_reset 0 = .ok (.iconst 0, 1) := by decide +kernel
theorem dX4_reset_1 : decode cX4_reset 1 = .ok (.istore_n 1, 1) := by decide +kernel
theorem dX4_reset_2 : decode cX4_reset 2 = .ok (.iload_n 1, 1) := by decide +kernel
theorem dX4_reset_3 : decode cX4_reset 3 = .ok (.bipush 80, 2) := by decide +kernel
theorem dX4_reset_5 : decode cX4_reset 5 = .ok (.if_icmp .ge 16, 3) := by decide +kernel
theorem dX4_reset_8 : decode cX4_reset 8 = .ok (.aload_n 0, 1) := by decide +kernel
theorem dX4_reset_9 : decode cX4_reset 9 = .ok (.getfield 9, 3) := by decide +kernel
theorem dX4_reset_12 : decode cX4_reset 12 = .ok (.iload_n 1, 1) := by decide +kernel
theorem dX4_reset_13 : decode cX4_reset 13 = .ok (.iconst 0, 1) := by decide +kernel
theorem dX4_reset_14 : decode cX4_reset 14 = .ok (.iastore, 1) := by decide +kernel
theorem dX4_reset_15 : decode cX4_reset 15 = .ok (.iinc 1 1, 3) := by decide +kernel
theorem dX4_reset_18 : decode cX4_reset 18 = .ok (.goto (-16), 3) := by decide +kernel
theorem dX4_reset_21 : decode cX4_reset 21 = .ok (.aload_n 0, 1) := by decide +kernel
theorem dX4_reset_22 : decode cX4_reset 22 = .ok (.iconst 0, 1) := by decide +kernel
theorem dX4_reset_23 : decode cX4_reset 23 = .ok (.iconst 4, 1) := by decide +kernel
theorem dX4_reset_24 : decode cX4_reset 24 = .ok (.iconst 1, 1) := by decide +kernel
theorem dX4_reset_25 : decode cX4_reset 25 = .ok (.invokevirtual 18, 3) := by decide +kernel
theorem dX4_reset_28 : decode cX4_reset 28 = .ok (.aload_n 0, 1) := by decide +kernel
theorem dX4_reset_29 : decode cX4_reset 29 = .ok (.iconst 0, 1) := by decide +kernel
theorem dX4_reset_30 : decode cX4_reset 30 = .ok (.iconst 0, 1) := by decide +kernel
theorem dX4_reset_31 : decode cX4_reset 31 = .ok (.iconst (-1), 1) := by decide +kernel
theorem dX4_reset_32 : decode cX4_reset 32 = .ok (.invokevirtual 18, 3) := by decide +kernel
theorem dX4_reset_35 : decode cX4_reset 35 = .ok (.return_, 1) := by decide +kernel
theorem dX4_copyFrom_0 : decode cX4_copyFrom 0 = .ok (.aload_n 1, 1) := by decide +kernel
theorem dX4_copyFrom_1 : decode cX4_copyFrom 1 = .ok (.getfield 9, 3) := by decide +kernel
theorem dX4_copyFrom_4 : decode cX4_copyFrom 4 = .ok (.iconst 0, 1) := by decide +kernel
theorem dX4_copyFrom_5 : decode cX4_copyFrom 5 = .ok (.aload_n 0, 1) := by decide +kernel
theorem dX4_copyFrom_6 : decode cX4_copyFrom 6 = .ok (.getfield 9, 3) := by decide +kernel
theorem dX4_copyFrom_9 : decode cX4_copyFrom 9 = .ok (.iconst 0, 1) := by decide +kernel
theorem dX4_copyFrom_10 : decode cX4_copyFrom 10 = .ok (.bipush 80, 2) := by decide +kernel
theorem dX4_copyFrom_12 : decode cX4_copyFrom 12 = .ok (.invokestatic 22, 3) := by decide +kernel
theorem dX4_copyFrom_15 : decode cX4_copyFrom 15 = .ok (.return_, 1) := by decide +kernel
theorem dX4_holds_0 : decode cX4_holds 0 = .ok (.iload_n 1, 1) := by decide +kernel
theorem dX4_holds_1 : decode cX4_holds 1 = .ok (.ifCond .lt 26, 3) := by decide +kernel
theorem dX4_holds_4 : decode cX4_holds 4 = .ok (.iload_n 1, 1) := by decide +kernel
theorem dX4_holds_5 : decode cX4_holds 5 = .ok (.bipush 16, 2) := by decide +kernel
theorem dX4_holds_7 : decode cX4_holds 7 = .ok (.if_icmp .ge 20, 3) := by decide +kernel
theorem dX4_holds_10 : decode cX4_holds 10 = .ok (.aload_n 0, 1) := by decide +kernel
theorem dX4_holds_11 : decode cX4_holds 11 = .ok (.getfield 9, 3) := by decide +kernel
theorem dX4_holds_14 : decode cX4_holds 14 = .ok (.bipush 64, 2) := by decide +kernel
theorem dX4_holds_16 : decode cX4_holds 16 = .ok (.iload_n 1, 1) := by decide +kernel
theorem dX4_holds_17 : decode cX4_holds 17 = .ok (.iadd, 1) := by decide +kernel
theorem dX4_holds_18 : decode cX4_holds 18 = .ok (.iaload, 1) := by decide +kernel
theorem dX4_holds_19 : decode cX4_holds 19 = .ok (.iconst 1, 1) := by decide +kernel
theorem dX4_holds_20 : decode cX4_holds 20 = .ok (.if_icmp .ne 7, 3) := by decide +kernel
theorem dX4_holds_23 : decode cX4_holds 23 = .ok (.iconst 1, 1) := by decide +kernel
theorem dX4_holds_24 : decode cX4_holds 24 = .ok (.goto 4, 3) := by decide +kernel
theorem dX4_holds_27 : decode cX4_holds 27 = .ok (.iconst 0, 1) := by decide +kernel
theorem dX4_holds_28 : decode cX4_holds 28 = .ok (.ireturn, 1) := by decide +kernel
theorem dX4_trait_0 : decode cX4_trait 0 = .ok (.iload_n 1, 1) := by decide +kernel
theorem dX4_trait_1 : decode cX4_trait 1 = .ok (.ifCond .lt 30, 3) := by decide +kernel
theorem dX4_trait_4 : decode cX4_trait 4 = .ok (.iload_n 1, 1) := by decide +kernel
theorem dX4_trait_5 : decode cX4_trait 5 = .ok (.bipush 16, 2) := by decide +kernel
theorem dX4_trait_7 : decode cX4_trait 7 = .ok (.if_icmp .ge 24, 3) := by decide +kernel
theorem dX4_trait_10 : decode cX4_trait 10 = .ok (.iload_n 2, 1) := by decide +kernel
theorem dX4_trait_11 : decode cX4_trait 11 = .ok (.ifCond .lt 20, 3) := by decide +kernel
theorem dX4_trait_14 : decode cX4_trait 14 = .ok (.iload_n 2, 1) := by decide +kernel
theorem dX4_trait_15 : decode cX4_trait 15 = .ok (.iconst 5, 1) := by decide +kernel
theorem dX4_trait_16 : decode cX4_trait 16 = .ok (.if_icmp .ge 15, 3) := by decide +kernel
theorem dX4_trait_19 : decode cX4_trait 19 = .ok (.aload_n 0, 1) := by decide +kernel
theorem dX4_trait_20 : decode cX4_trait 20 = .ok (.getfield 9, 3) := by decide +kernel
theorem dX4_trait_23 : decode cX4_trait 23 = .ok (.bipush 64, 2) := by decide +kernel
theorem dX4_trait_25 : decode cX4_trait 25 = .ok (.iload_n 1, 1) := by decide +kernel
theorem dX4_trait_26 : decode cX4_trait 26 = .ok (.iadd, 1) := by decide +kernel
theorem dX4_trait_27 : decode cX4_trait 27 = .ok (.iaload, 1) := by decide +kernel
theorem dX4_trait_28 : decode cX4_trait 28 = .ok (.ifCond .ne 5, 3) := by decide +kernel
theorem dX4_trait_31 : decode cX4_trait 31 = .ok (.iconst (-1), 1) := by decide +kernel
theorem dX4_trait_32 : decode cX4_trait 32 = .ok (.ireturn, 1) := by decide +kernel
theorem dX4_trait_33 : decode cX4_trait 33 = .ok (.aload_n 0, 1) := by decide +kernel
theorem dX4_trait_34 : decode cX4_trait 34 = .ok (.getfield 9, 3) := by decide +kernel
theorem dX4_trait_37 : decode cX4_trait 37 = .ok (.iload_n 2, 1) := by decide +kernel
theorem dX4_trait_38 : decode cX4_trait 38 = .ok (.bipush 16, 2) := by decide +kernel
theorem dX4_trait_40 : decode cX4_trait 40 = .ok (.imul, 1) := by decide +kernel
theorem dX4_trait_41 : decode cX4_trait 41 = .ok (.iload_n 1, 1) := by decide +kernel
theorem dX4_trait_42 : decode cX4_trait 42 = .ok (.iadd, 1) := by decide +kernel
theorem dX4_trait_43 : decode cX4_trait 43 = .ok (.iaload, 1) := by decide +kernel
theorem dX4_trait_44 : decode cX4_trait 44 = .ok (.ireturn, 1) := by decide +kernel
theorem dX4_put_0 : decode cX4_put 0 = .ok (.iload_n 1, 1) := by decide +kernel
theorem dX4_put_1 : decode cX4_put 1 = .ok (.ifCond .lt 30, 3) := by decide +kernel
theorem dX4_put_4 : decode cX4_put 4 = .ok (.iload_n 1, 1) := by decide +kernel
theorem dX4_put_5 : decode cX4_put 5 = .ok (.bipush 16, 2) := by decide +kernel
theorem dX4_put_7 : decode cX4_put 7 = .ok (.if_icmp .ge 24, 3) := by decide +kernel
theorem dX4_put_10 : decode cX4_put 10 = .ok (.iload_n 2, 1) := by decide +kernel
theorem dX4_put_11 : decode cX4_put 11 = .ok (.ifCond .lt 20, 3) := by decide +kernel
theorem dX4_put_14 : decode cX4_put 14 = .ok (.iload_n 2, 1) := by decide +kernel
theorem dX4_put_15 : decode cX4_put 15 = .ok (.iconst 5, 1) := by decide +kernel
theorem dX4_put_16 : decode cX4_put 16 = .ok (.if_icmp .ge 15, 3) := by decide +kernel
theorem dX4_put_19 : decode cX4_put 19 = .ok (.aload_n 0, 1) := by decide +kernel
theorem dX4_put_20 : decode cX4_put 20 = .ok (.getfield 9, 3) := by decide +kernel
theorem dX4_put_23 : decode cX4_put 23 = .ok (.iload_n 2, 1) := by decide +kernel
theorem dX4_put_24 : decode cX4_put 24 = .ok (.bipush 16, 2) := by decide +kernel
theorem dX4_put_26 : decode cX4_put 26 = .ok (.imul, 1) := by decide +kernel
theorem dX4_put_27 : decode cX4_put 27 = .ok (.iload_n 1, 1) := by decide +kernel
theorem dX4_put_28 : decode cX4_put 28 = .ok (.iadd, 1) := by decide +kernel
theorem dX4_put_29 : decode cX4_put 29 = .ok (.iload_n 3, 1) := by decide +kernel
theorem dX4_put_30 : decode cX4_put 30 = .ok (.iastore, 1) := by decide +kernel
theorem dX4_put_31 : decode cX4_put 31 = .ok (.return_, 1) := by decide +kernel
theorem dX4_include_0 : decode cX4_include 0 = .ok (.aload_n 0, 1) := by decide +kernel
theorem dX4_include_1 : decode cX4_include 1 = .ok (.iload_n 1, 1) := by decide +kernel
theorem dX4_include_2 : decode cX4_include 2 = .ok (.iconst 4, 1) := by decide +kernel
theorem dX4_include_3 : decode cX4_include 3 = .ok (.iconst 1, 1) := by decide +kernel
theorem dX4_include_4 : decode cX4_include 4 = .ok (.invokevirtual 18, 3) := by decide +kernel
theorem dX4_include_7 : decode cX4_include 7 = .ok (.return_, 1) := by decide +kernel
theorem dX4_count_0 : decode cX4_count 0 = .ok (.iconst 0, 1) := by decide +kernel
theorem dX4_count_1 : decode cX4_count 1 = .ok (.istore_n 1, 1) := by decide +kernel
theorem dX4_count_2 : decode cX4_count 2 = .ok (.iconst 0, 1) := by decide +kernel
theorem dX4_count_3 : decode cX4_count 3 = .ok (.istore_n 2, 1) := by decide +kernel
theorem dX4_count_4 : decode cX4_count 4 = .ok (.iload_n 2, 1) := by decide +kernel
theorem dX4_count_5 : decode cX4_count 5 = .ok (.bipush 16, 2) := by decide +kernel
theorem dX4_count_7 : decode cX4_count 7 = .ok (.if_icmp .ge 25, 3) := by decide +kernel
theorem dX4_count_10 : decode cX4_count 10 = .ok (.iload_n 1, 1) := by decide +kernel
theorem dX4_count_11 : decode cX4_count 11 = .ok (.aload_n 0, 1) := by decide +kernel
theorem dX4_count_12 : decode cX4_count 12 = .ok (.iload_n 2, 1) := by decide +kernel
theorem dX4_count_13 : decode cX4_count 13 = .ok (.invokevirtual 28, 3) := by decide +kernel
theorem dX4_count_16 : decode cX4_count 16 = .ok (.ifCond .eq 7, 3) := by decide +kernel
theorem dX4_count_19 : decode cX4_count 19 = .ok (.iconst 1, 1) := by decide +kernel
theorem dX4_count_20 : decode cX4_count 20 = .ok (.goto 4, 3) := by decide +kernel
theorem dX4_count_23 : decode cX4_count 23 = .ok (.iconst 0, 1) := by decide +kernel
theorem dX4_count_24 : decode cX4_count 24 = .ok (.iadd, 1) := by decide +kernel
theorem dX4_count_25 : decode cX4_count 25 = .ok (.istore_n 1, 1) := by decide +kernel
theorem dX4_count_26 : decode cX4_count 26 = .ok (.iinc 2 1, 3) := by decide +kernel
theorem dX4_count_29 : decode cX4_count 29 = .ok (.goto (-25), 3) := by decide +kernel
theorem dX4_count_32 : decode cX4_count 32 = .ok (.iload_n 1, 1) := by decide +kernel
theorem dX4_count_33 : decode cX4_count 33 = .ok (.ireturn, 1) := by decide +kernel
theorem dX4_isChild_0 : decode cX4_isChild 0 = .ok (.iload_n 1, 1) := by decide +kernel
theorem dX4_isChild_1 : decode cX4_isChild 1 = .ok (.ifCond .le 38, 3) := by decide +kernel
theorem dX4_isChild_4 : decode cX4_isChild 4 = .ok (.iload_n 1, 1) := by decide +kernel
theorem dX4_isChild_5 : decode cX4_isChild 5 = .ok (.bipush 16, 2) := by decide +kernel
theorem dX4_isChild_7 : decode cX4_isChild 7 = .ok (.if_icmp .ge 32, 3) := by decide +kernel
theorem dX4_isChild_10 : decode cX4_isChild 10 = .ok (.aload_n 0, 1) := by decide +kernel
theorem dX4_isChild_11 : decode cX4_isChild 11 = .ok (.getfield 9, 3) := by decide +kernel
theorem dX4_isChild_14 : decode cX4_isChild 14 = .ok (.bipush 64, 2) := by decide +kernel
theorem dX4_isChild_16 : decode cX4_isChild 16 = .ok (.iload_n 1, 1) := by decide +kernel
theorem dX4_isChild_17 : decode cX4_isChild 17 = .ok (.iadd, 1) := by decide +kernel
theorem dX4_isChild_18 : decode cX4_isChild 18 = .ok (.iaload, 1) := by decide +kernel
theorem dX4_isChild_19 : decode cX4_isChild 19 = .ok (.iconst 1, 1) := by decide +kernel
theorem dX4_isChild_20 : decode cX4_isChild 20 = .ok (.if_icmp .ne 19, 3) := by decide +kernel
theorem dX4_isChild_23 : decode cX4_isChild 23 = .ok (.aload_n 0, 1) := by decide +kernel
theorem dX4_isChild_24 : decode cX4_isChild 24 = .ok (.getfield 9, 3) := by decide +kernel
theorem dX4_isChild_27 : decode cX4_isChild 27 = .ok (.iconst 0, 1) := by decide +kernel
theorem dX4_isChild_28 : decode cX4_isChild 28 = .ok (.iload_n 1, 1) := by decide +kernel
theorem dX4_isChild_29 : decode cX4_isChild 29 = .ok (.iadd, 1) := by decide +kernel
theorem dX4_isChild_30 : decode cX4_isChild 30 = .ok (.iaload, 1) := by decide +kernel
theorem dX4_isChild_31 : decode cX4_isChild 31 = .ok (.iload_n 2, 1) := by decide +kernel
theorem dX4_isChild_32 : decode cX4_isChild 32 = .ok (.if_icmp .ne 7, 3) := by decide +kernel
theorem dX4_isChild_35 : decode cX4_isChild 35 = .ok (.iconst 1, 1) := by decide +kernel
theorem dX4_isChild_36 : decode cX4_isChild 36 = .ok (.goto 4, 3) := by decide +kernel
theorem dX4_isChild_39 : decode cX4_isChild 39 = .ok (.iconst 0, 1) := by decide +kernel
theorem dX4_isChild_40 : decode cX4_isChild 40 = .ok (.ireturn, 1) := by decide +kernel
theorem dX4_childCount_0 : decode cX4_childCount 0 = .ok (.iconst 0, 1) := by decide +kernel
theorem dX4_childCount_1 : decode cX4_childCount 1 = .ok (.istore_n 2, 1) := by decide +kernel
theorem dX4_childCount_2 : decode cX4_childCount 2 = .ok (.iconst 0, 1) := by decide +kernel
theorem dX4_childCount_3 : decode cX4_childCount 3 = .ok (.istore_n 3, 1) := by decide +kernel
theorem dX4_childCount_4 : decode cX4_childCount 4 = .ok (.iload_n 3, 1) := by decide +kernel
theorem dX4_childCount_5 : decode cX4_childCount 5 = .ok (.bipush 16, 2) := by decide +kernel
theorem dX4_childCount_7 : decode cX4_childCount 7 = .ok (.if_icmp .ge 26, 3) := by decide +kernel
theorem dX4_childCount_10 : decode cX4_childCount 10 = .ok (.iload_n 2, 1) := by decide +kernel
theorem dX4_childCount_11 : decode cX4_childCount 11 = .ok (.aload_n 0, 1) := by decide +kernel
theorem dX4_childCount_12 : decode cX4_childCount 12 = .ok (.iload_n 3, 1) := by decide +kernel
theorem dX4_childCount_13 : decode cX4_childCount 13 = .ok (.iload_n 1, 1) := by decide +kernel
theorem dX4_childCount_14 : decode cX4_childCount 14 = .ok (.invokevirtual 32, 3) := by decide +kernel
theorem dX4_childCount_17 : decode cX4_childCount 17 = .ok (.ifCond .eq 7, 3) := by decide +kernel
theorem dX4_childCount_20 : decode cX4_childCount 20 = .ok (.iconst 1, 1) := by decide +kernel
theorem dX4_childCount_21 : decode cX4_childCount 21 = .ok (.goto 4, 3) := by decide +kernel
theorem dX4_childCount_24 : decode cX4_childCount 24 = .ok (.iconst 0, 1) := by decide +kernel
theorem dX4_childCount_25 : decode cX4_childCount 25 = .ok (.iadd, 1) := by decide +kernel
theorem dX4_childCount_26 : decode cX4_childCount 26 = .ok (.istore_n 2, 1) := by decide +kernel
theorem dX4_childCount_27 : decode cX4_childCount 27 = .ok (.iinc 3 1, 3) := by decide +kernel
theorem dX4_childCount_30 : decode cX4_childCount 30 = .ok (.goto (-26), 3) := by decide +kernel
theorem dX4_childCount_33 : decode cX4_childCount 33 = .ok (.iload_n 2, 1) := by decide +kernel
theorem dX4_childCount_34 : decode cX4_childCount 34 = .ok (.ireturn, 1) := by decide +kernel
theorem dX4_childAt_0 : decode cX4_childAt 0 = .ok (.iconst 0, 1) := by decide +kernel
theorem dX4_childAt_1 : decode cX4_childAt 1 = .ok (.istore_n 3, 1) := by decide +kernel
theorem dX4_childAt_2 : decode cX4_childAt 2 = .ok (.iload_n 3, 1) := by decide +kernel
theorem dX4_childAt_3 : decode cX4_childAt 3 = .ok (.bipush 16, 2) := by decide +kernel
theorem dX4_childAt_5 : decode cX4_childAt 5 = .ok (.if_icmp .ge 30, 3) := by decide +kernel
theorem dX4_childAt_8 : decode cX4_childAt 8 = .ok (.aload_n 0, 1) := by decide +kernel
theorem dX4_childAt_9 : decode cX4_childAt 9 = .ok (.iload_n 3, 1) := by decide +kernel
theorem dX4_childAt_10 : decode cX4_childAt 10 = .ok (.iload_n 1, 1) := by decide +kernel
theorem dX4_childAt_11 : decode cX4_childAt 11 = .ok (.invokevirtual 32, 3) := by decide +kernel
theorem dX4_childAt_14 : decode cX4_childAt 14 = .ok (.ifCond .eq 15, 3) := by decide +kernel
theorem dX4_childAt_17 : decode cX4_childAt 17 = .ok (.aload_n 0, 1) := by decide +kernel
theorem dX4_childAt_18 : decode cX4_childAt 18 = .ok (.iload_n 3, 1) := by decide +kernel
theorem dX4_childAt_19 : decode cX4_childAt 19 = .ok (.iconst 1, 1) := by decide +kernel
theorem dX4_childAt_20 : decode cX4_childAt 20 = .ok (.invokevirtual 36, 3) := by decide +kernel
theorem dX4_childAt_23 : decode cX4_childAt 23 = .ok (.iload_n 2, 1) := by decide +kernel
theorem dX4_childAt_24 : decode cX4_childAt 24 = .ok (.if_icmp .ne 5, 3) := by decide +kernel
theorem dX4_childAt_27 : decode cX4_childAt 27 = .ok (.iload_n 3, 1) := by decide +kernel
theorem dX4_childAt_28 : decode cX4_childAt 28 = .ok (.ireturn, 1) := by decide +kernel
theorem dX4_childAt_29 : decode cX4_childAt 29 = .ok (.iinc 3 1, 3) := by decide +kernel
theorem dX4_childAt_32 : decode cX4_childAt 32 = .ok (.goto (-30), 3) := by decide +kernel
theorem dX4_childAt_35 : decode cX4_childAt 35 = .ok (.iconst (-1), 1) := by decide +kernel
theorem dX4_childAt_36 : decode cX4_childAt 36 = .ok (.ireturn, 1) := by decide +kernel
theorem dX4_isBelow_0 : decode cX4_isBelow 0 = .ok (.iload_n 1, 1) := by decide +kernel
theorem dX4_isBelow_1 : decode cX4_isBelow 1 = .ok (.istore_n 3, 1) := by decide +kernel
theorem dX4_isBelow_2 : decode cX4_isBelow 2 = .ok (.iconst 0, 1) := by decide +kernel
theorem dX4_isBelow_3 : decode cX4_isBelow 3 = .ok (.istore 4, 2) := by decide +kernel
theorem dX4_isBelow_5 : decode cX4_isBelow 5 = .ok (.iload 4, 2) := by decide +kernel
theorem dX4_isBelow_7 : decode cX4_isBelow 7 = .ok (.bipush 16, 2) := by decide +kernel
theorem dX4_isBelow_9 : decode cX4_isBelow 9 = .ok (.if_icmp .ge 23, 3) := by decide +kernel
theorem dX4_isBelow_12 : decode cX4_isBelow 12 = .ok (.iload_n 3, 1) := by decide +kernel
theorem dX4_isBelow_13 : decode cX4_isBelow 13 = .ok (.iload_n 2, 1) := by decide +kernel
theorem dX4_isBelow_14 : decode cX4_isBelow 14 = .ok (.if_icmp .ne 5, 3) := by decide +kernel
theorem dX4_isBelow_17 : decode cX4_isBelow 17 = .ok (.iconst 1, 1) := by decide +kernel
theorem dX4_isBelow_18 : decode cX4_isBelow 18 = .ok (.ireturn, 1) := by decide +kernel
theorem dX4_isBelow_19 : decode cX4_isBelow 19 = .ok (.aload_n 0, 1) := by decide +kernel
theorem dX4_isBelow_20 : decode cX4_isBelow 20 = .ok (.iload_n 3, 1) := by decide +kernel
theorem dX4_isBelow_21 : decode cX4_isBelow 21 = .ok (.iconst 0, 1) := by decide +kernel
theorem dX4_isBelow_22 : decode cX4_isBelow 22 = .ok (.invokevirtual 36, 3) := by decide +kernel
theorem dX4_isBelow_25 : decode cX4_isBelow 25 = .ok (.istore_n 3, 1) := by decide +kernel
theorem dX4_isBelow_26 : decode cX4_isBelow 26 = .ok (.iinc 4 1, 3) := by decide +kernel
theorem dX4_isBelow_29 : decode cX4_isBelow 29 = .ok (.goto (-24), 3) := by decide +kernel
theorem dX4_isBelow_32 : decode cX4_isBelow 32 = .ok (.iconst 0, 1) := by decide +kernel
theorem dX4_isBelow_33 : decode cX4_isBelow 33 = .ok (.ireturn, 1) := by decide +kernel
theorem dX4_countBelow_0 : decode cX4_countBelow 0 = .ok (.iconst 0, 1) := by decide +kernel
theorem dX4_countBelow_1 : decode cX4_countBelow 1 = .ok (.istore_n 2, 1) := by decide +kernel
theorem dX4_countBelow_2 : decode cX4_countBelow 2 = .ok (.iconst 0, 1) := by decide +kernel
theorem dX4_countBelow_3 : decode cX4_countBelow 3 = .ok (.istore_n 3, 1) := by decide +kernel
theorem dX4_countBelow_4 : decode cX4_countBelow 4 = .ok (.iload_n 3, 1) := by decide +kernel
theorem dX4_countBelow_5 : decode cX4_countBelow 5 = .ok (.bipush 16, 2) := by decide +kernel
theorem dX4_countBelow_7 : decode cX4_countBelow 7 = .ok (.if_icmp .ge 34, 3) := by decide +kernel
theorem dX4_countBelow_10 : decode cX4_countBelow 10 = .ok (.iload_n 2, 1) := by decide +kernel
theorem dX4_countBelow_11 : decode cX4_countBelow 11 = .ok (.aload_n 0, 1) := by decide +kernel
theorem dX4_countBelow_12 : decode cX4_countBelow 12 = .ok (.iload_n 3, 1) := by decide +kernel
theorem dX4_countBelow_13 : decode cX4_countBelow 13 = .ok (.invokevirtual 28, 3) := by decide +kernel
theorem dX4_countBelow_16 : decode cX4_countBelow 16 = .ok (.ifCond .eq 16, 3) := by decide +kernel
theorem dX4_countBelow_19 : decode cX4_countBelow 19 = .ok (.aload_n 0, 1) := by decide +kernel
theorem dX4_countBelow_20 : decode cX4_countBelow 20 = .ok (.iload_n 3, 1) := by decide +kernel
theorem dX4_countBelow_21 : decode cX4_countBelow 21 = .ok (.iload_n 1, 1) := by decide +kernel
theorem dX4_countBelow_22 : decode cX4_countBelow 22 = .ok (.invokevirtual 40, 3) := by decide +kernel
theorem dX4_countBelow_25 : decode cX4_countBelow 25 = .ok (.ifCond .eq 7, 3) := by decide +kernel
theorem dX4_countBelow_28 : decode cX4_countBelow 28 = .ok (.iconst 1, 1) := by decide +kernel
theorem dX4_countBelow_29 : decode cX4_countBelow 29 = .ok (.goto 4, 3) := by decide +kernel
theorem dX4_countBelow_32 : decode cX4_countBelow 32 = .ok (.iconst 0, 1) := by decide +kernel
theorem dX4_countBelow_33 : decode cX4_countBelow 33 = .ok (.iadd, 1) := by decide +kernel
theorem dX4_countBelow_34 : decode cX4_countBelow 34 = .ok (.istore_n 2, 1) := by decide +kernel
theorem dX4_countBelow_35 : decode cX4_countBelow 35 = .ok (.iinc 3 1, 3) := by decide +kernel
theorem dX4_countBelow_38 : decode cX4_countBelow 38 = .ok (.goto (-34), 3) := by decide +kernel
theorem dX4_countBelow_41 : decode cX4_countBelow 41 = .ok (.iload_n 2, 1) := by decide +kernel
theorem dX4_countBelow_42 : decode cX4_countBelow 42 = .ok (.ireturn, 1) := by decide +kernel
theorem dX4_depth_0 : decode cX4_depth 0 = .ok (.iconst 0, 1) := by decide +kernel
theorem dX4_depth_1 : decode cX4_depth 1 = .ok (.istore_n 1, 1) := by decide +kernel
theorem dX4_depth_2 : decode cX4_depth 2 = .ok (.iconst 0, 1) := by decide +kernel
theorem dX4_depth_3 : decode cX4_depth 3 = .ok (.istore_n 2, 1) := by decide +kernel
theorem dX4_depth_4 : decode cX4_depth 4 = .ok (.iload_n 2, 1) := by decide +kernel
theorem dX4_depth_5 : decode cX4_depth 5 = .ok (.bipush 16, 2) := by decide +kernel
theorem dX4_depth_7 : decode cX4_depth 7 = .ok (.if_icmp .ge 19, 3) := by decide +kernel
theorem dX4_depth_10 : decode cX4_depth 10 = .ok (.iload_n 1, 1) := by decide +kernel
theorem dX4_depth_11 : decode cX4_depth 11 = .ok (.aload_n 0, 1) := by decide +kernel
theorem dX4_depth_12 : decode cX4_depth 12 = .ok (.iload_n 2, 1) := by decide +kernel
theorem dX4_depth_13 : decode cX4_depth 13 = .ok (.invokevirtual 43, 3) := by decide +kernel
theorem dX4_depth_16 : decode cX4_depth 16 = .ok (.invokestatic 47, 3) := by decide +kernel
theorem dX4_depth_19 : decode cX4_depth 19 = .ok (.istore_n 1, 1) := by decide +kernel
theorem dX4_depth_20 : decode cX4_depth 20 = .ok (.iinc 2 1, 3) := by decide +kernel
theorem dX4_depth_23 : decode cX4_depth 23 = .ok (.goto (-19), 3) := by decide +kernel
theorem dX4_depth_26 : decode cX4_depth 26 = .ok (.iload_n 1, 1) := by decide +kernel
theorem dX4_depth_27 : decode cX4_depth 27 = .ok (.ireturn, 1) := by decide +kernel
theorem dX4_depthOf_0 : decode cX4_depthOf 0 = .ok (.iconst 0, 1) := by decide +kernel
theorem dX4_depthOf_1 : decode cX4_depthOf 1 = .ok (.istore_n 2, 1) := by decide +kernel
theorem dX4_depthOf_2 : decode cX4_depthOf 2 = .ok (.aload_n 0, 1) := by decide +kernel
theorem dX4_depthOf_3 : decode cX4_depthOf 3 = .ok (.iload_n 1, 1) := by decide +kernel
theorem dX4_depthOf_4 : decode cX4_depthOf 4 = .ok (.iconst 0, 1) := by decide +kernel
theorem dX4_depthOf_5 : decode cX4_depthOf 5 = .ok (.invokevirtual 36, 3) := by decide +kernel
theorem dX4_depthOf_8 : decode cX4_depthOf 8 = .ok (.istore_n 3, 1) := by decide +kernel
theorem dX4_depthOf_9 : decode cX4_depthOf 9 = .ok (.iconst 0, 1) := by decide +kernel
theorem dX4_depthOf_10 : decode cX4_depthOf 10 = .ok (.istore 4, 2) := by decide +kernel
theorem dX4_depthOf_12 : decode cX4_depthOf 12 = .ok (.iload 4, 2) := by decide +kernel
theorem dX4_depthOf_14 : decode cX4_depthOf 14 = .ok (.bipush 16, 2) := by decide +kernel
theorem dX4_depthOf_16 : decode cX4_depthOf 16 = .ok (.if_icmp .ge 24, 3) := by decide +kernel
theorem dX4_depthOf_19 : decode cX4_depthOf 19 = .ok (.iload_n 3, 1) := by decide +kernel
theorem dX4_depthOf_20 : decode cX4_depthOf 20 = .ok (.iconst (-1), 1) := by decide +kernel
theorem dX4_depthOf_21 : decode cX4_depthOf 21 = .ok (.if_icmp .eq 19, 3) := by decide +kernel
theorem dX4_depthOf_24 : decode cX4_depthOf 24 = .ok (.iinc 2 1, 3) := by decide +kernel
theorem dX4_depthOf_27 : decode cX4_depthOf 27 = .ok (.aload_n 0, 1) := by decide +kernel
theorem dX4_depthOf_28 : decode cX4_depthOf 28 = .ok (.iload_n 3, 1) := by decide +kernel
theorem dX4_depthOf_29 : decode cX4_depthOf 29 = .ok (.iconst 0, 1) := by decide +kernel
theorem dX4_depthOf_30 : decode cX4_depthOf 30 = .ok (.invokevirtual 36, 3) := by decide +kernel
theorem dX4_depthOf_33 : decode cX4_depthOf 33 = .ok (.istore_n 3, 1) := by decide +kernel
theorem dX4_depthOf_34 : decode cX4_depthOf 34 = .ok (.iinc 4 1, 3) := by decide +kernel
theorem dX4_depthOf_37 : decode cX4_depthOf 37 = .ok (.goto (-25), 3) := by decide +kernel
theorem dX4_depthOf_40 : decode cX4_depthOf 40 = .ok (.iload_n 2, 1) := by decide +kernel
theorem dX4_depthOf_41 : decode cX4_depthOf 41 = .ok (.ireturn, 1) := by decide +kernel
theorem dX4_following_0 : decode cX4_following 0 = .ok (.aload_n 0, 1) := by decide +kernel
theorem dX4_following_1 : decode cX4_following 1 = .ok (.iload_n 1, 1) := by decide +kernel
theorem dX4_following_2 : decode cX4_following 2 = .ok (.iconst 0, 1) := by decide +kernel
theorem dX4_following_3 : decode cX4_following 3 = .ok (.invokevirtual 52, 3) := by decide +kernel
theorem dX4_following_6 : decode cX4_following 6 = .ok (.istore_n 2, 1) := by decide +kernel
theorem dX4_following_7 : decode cX4_following 7 = .ok (.iload_n 1, 1) := by decide +kernel
theorem dX4_following_8 : decode cX4_following 8 = .ok (.istore_n 3, 1) := by decide +kernel
theorem dX4_following_9 : decode cX4_following 9 = .ok (.iconst 0, 1) := by decide +kernel
theorem dX4_following_10 : decode cX4_following 10 = .ok (.istore 4, 2) := by decide +kernel
theorem dX4_following_12 : decode cX4_following 12 = .ok (.iload 4, 2) := by decide +kernel
theorem dX4_following_14 : decode cX4_following 14 = .ok (.bipush 16, 2) := by decide +kernel
theorem dX4_following_16 : decode cX4_following 16 = .ok (.if_icmp .ge 45, 3) := by decide +kernel
theorem dX4_following_19 : decode cX4_following 19 = .ok (.iload_n 2, 1) := by decide +kernel
theorem dX4_following_20 : decode cX4_following 20 = .ok (.iconst (-1), 1) := by decide +kernel
theorem dX4_following_21 : decode cX4_following 21 = .ok (.if_icmp .ne 40, 3) := by decide +kernel
theorem dX4_following_24 : decode cX4_following 24 = .ok (.iload_n 3, 1) := by decide +kernel
theorem dX4_following_25 : decode cX4_following 25 = .ok (.iconst (-1), 1) := by decide +kernel
theorem dX4_following_26 : decode cX4_following 26 = .ok (.if_icmp .eq 35, 3) := by decide +kernel
theorem dX4_following_29 : decode cX4_following 29 = .ok (.aload_n 0, 1) := by decide +kernel
theorem dX4_following_30 : decode cX4_following 30 = .ok (.aload_n 0, 1) := by decide +kernel
theorem dX4_following_31 : decode cX4_following 31 = .ok (.iload_n 3, 1) := by decide +kernel
theorem dX4_following_32 : decode cX4_following 32 = .ok (.iconst 0, 1) := by decide +kernel
theorem dX4_following_33 : decode cX4_following 33 = .ok (.invokevirtual 36, 3) := by decide +kernel
theorem dX4_following_36 : decode cX4_following 36 = .ok (.aload_n 0, 1) := by decide +kernel
theorem dX4_following_37 : decode cX4_following 37 = .ok (.iload_n 3, 1) := by decide +kernel
theorem dX4_following_38 : decode cX4_following 38 = .ok (.iconst 1, 1) := by decide +kernel
theorem dX4_following_39 : decode cX4_following 39 = .ok (.invokevirtual 36, 3) := by decide +kernel
theorem dX4_following_42 : decode cX4_following 42 = .ok (.iconst 1, 1) := by decide +kernel
theorem dX4_following_43 : decode cX4_following 43 = .ok (.iadd, 1) := by decide +kernel
theorem dX4_following_44 : decode cX4_following 44 = .ok (.invokevirtual 52, 3) := by decide +kernel
theorem dX4_following_47 : decode cX4_following 47 = .ok (.istore_n 2, 1) := by decide +kernel
theorem dX4_following_48 : decode cX4_following 48 = .ok (.aload_n 0, 1) := by decide +kernel
theorem dX4_following_49 : decode cX4_following 49 = .ok (.iload_n 3, 1) := by decide +kernel
theorem dX4_following_50 : decode cX4_following 50 = .ok (.iconst 0, 1) := by decide +kernel
theorem dX4_following_51 : decode cX4_following 51 = .ok (.invokevirtual 36, 3) := by decide +kernel
theorem dX4_following_54 : decode cX4_following 54 = .ok (.istore_n 3, 1) := by decide +kernel
theorem dX4_following_55 : decode cX4_following 55 = .ok (.iinc 4 1, 3) := by decide +kernel
theorem dX4_following_58 : decode cX4_following 58 = .ok (.goto (-46), 3) := by decide +kernel
theorem dX4_following_61 : decode cX4_following 61 = .ok (.iload_n 2, 1) := by decide +kernel
end
section
theorem dX4_following_62 : decode cX4_following 62 = .ok (.ireturn, 1) := by decide +kernel
theorem dX4_countShared_0 : decode cX4_countShared 0 = .ok (.iconst 0, 1) := by decide +kernel
theorem dX4_countShared_1 : decode cX4_countShared 1 = .ok (.istore_n 2, 1) := by decide +kernel
theorem dX4_countShared_2 : decode cX4_countShared 2 = .ok (.iconst 0, 1) := by decide +kernel
theorem dX4_countShared_3 : decode cX4_countShared 3 = .ok (.istore_n 3, 1) := by decide +kernel
theorem dX4_countShared_4 : decode cX4_countShared 4 = .ok (.iload_n 3, 1) := by decide +kernel
theorem dX4_countShared_5 : decode cX4_countShared 5 = .ok (.bipush 16, 2) := by decide +kernel
theorem dX4_countShared_7 : decode cX4_countShared 7 = .ok (.if_icmp .ge 42, 3) := by decide +kernel
theorem dX4_countShared_10 : decode cX4_countShared 10 = .ok (.iload_n 2, 1) := by decide +kernel
theorem dX4_countShared_11 : decode cX4_countShared 11 = .ok (.aload_n 0, 1) := by decide +kernel
theorem dX4_countShared_12 : decode cX4_countShared 12 = .ok (.iload_n 3, 1) := by decide +kernel
theorem dX4_countShared_13 : decode cX4_countShared 13 = .ok (.invokevirtual 28, 3) := by decide +kernel
theorem dX4_countShared_16 : decode cX4_countShared 16 = .ok (.ifCond .eq 24, 3) := by decide +kernel
theorem dX4_countShared_19 : decode cX4_countShared 19 = .ok (.aload_n 1, 1) := by decide +kernel
theorem dX4_countShared_20 : decode cX4_countShared 20 = .ok (.iload_n 3, 1) := by decide +kernel
theorem dX4_countShared_21 : decode cX4_countShared 21 = .ok (.invokevirtual 28, 3) := by decide +kernel
theorem dX4_countShared_24 : decode cX4_countShared 24 = .ok (.ifCond .eq 16, 3) := by decide +kernel
theorem dX4_countShared_27 : decode cX4_countShared 27 = .ok (.aload_n 0, 1) := by decide +kernel
theorem dX4_countShared_28 : decode cX4_countShared 28 = .ok (.iload_n 3, 1) := by decide +kernel
theorem dX4_countShared_29 : decode cX4_countShared 29 = .ok (.aload_n 1, 1) := by decide +kernel
theorem dX4_countShared_30 : decode cX4_countShared 30 = .ok (.invokevirtual 55, 3) := by decide +kernel
theorem dX4_countShared_33 : decode cX4_countShared 33 = .ok (.ifCond .eq 7, 3) := by decide +kernel
theorem dX4_countShared_36 : decode cX4_countShared 36 = .ok (.iconst 1, 1) := by decide +kernel
theorem dX4_countShared_37 : decode cX4_countShared 37 = .ok (.goto 4, 3) := by decide +kernel
theorem dX4_countShared_40 : decode cX4_countShared 40 = .ok (.iconst 0, 1) := by decide +kernel
theorem dX4_countShared_41 : decode cX4_countShared 41 = .ok (.iadd, 1) := by decide +kernel
theorem dX4_countShared_42 : decode cX4_countShared 42 = .ok (.istore_n 2, 1) := by decide +kernel
theorem dX4_countShared_43 : decode cX4_countShared 43 = .ok (.iinc 3 1, 3) := by decide +kernel
theorem dX4_countShared_46 : decode cX4_countShared 46 = .ok (.goto (-42), 3) := by decide +kernel
theorem dX4_countShared_49 : decode cX4_countShared 49 = .ok (.iload_n 2, 1) := by decide +kernel
theorem dX4_countShared_50 : decode cX4_countShared 50 = .ok (.ireturn, 1) := by decide +kernel
theorem dX4_isSame_0 : decode cX4_isSame 0 = .ok (.iconst 0, 1) := by decide +kernel
theorem dX4_isSame_1 : decode cX4_isSame 1 = .ok (.istore_n 3, 1) := by decide +kernel
theorem dX4_isSame_2 : decode cX4_isSame 2 = .ok (.iload_n 3, 1) := by decide +kernel
theorem dX4_isSame_3 : decode cX4_isSame 3 = .ok (.iconst 3, 1) := by decide +kernel
theorem dX4_isSame_4 : decode cX4_isSame 4 = .ok (.if_icmp .gt 26, 3) := by decide +kernel
theorem dX4_isSame_7 : decode cX4_isSame 7 = .ok (.aload_n 0, 1) := by decide +kernel
theorem dX4_isSame_8 : decode cX4_isSame 8 = .ok (.iload_n 1, 1) := by decide +kernel
theorem dX4_isSame_9 : decode cX4_isSame 9 = .ok (.iload_n 3, 1) := by decide +kernel
theorem dX4_isSame_10 : decode cX4_isSame 10 = .ok (.invokevirtual 36, 3) := by decide +kernel
theorem dX4_isSame_13 : decode cX4_isSame 13 = .ok (.aload_n 2, 1) := by decide +kernel
theorem dX4_isSame_14 : decode cX4_isSame 14 = .ok (.iload_n 1, 1) := by decide +kernel
theorem dX4_isSame_15 : decode cX4_isSame 15 = .ok (.iload_n 3, 1) := by decide +kernel
theorem dX4_isSame_16 : decode cX4_isSame 16 = .ok (.invokevirtual 36, 3) := by decide +kernel
theorem dX4_isSame_19 : decode cX4_isSame 19 = .ok (.if_icmp .eq 5, 3) := by decide +kernel
theorem dX4_isSame_22 : decode cX4_isSame 22 = .ok (.iconst 0, 1) := by decide +kernel
theorem dX4_isSame_23 : decode cX4_isSame 23 = .ok (.ireturn, 1) := by decide +kernel
theorem dX4_isSame_24 : decode cX4_isSame 24 = .ok (.iinc 3 1, 3) := by decide +kernel
theorem dX4_isSame_27 : decode cX4_isSame 27 = .ok (.goto (-25), 3) := by decide +kernel
theorem dX4_isSame_30 : decode cX4_isSame 30 = .ok (.iconst 1, 1) := by decide +kernel
theorem dX4_isSame_31 : decode cX4_isSame 31 = .ok (.ireturn, 1) := by decide +kernel
theorem dX4_attach_0 : decode cX4_attach 0 = .ok (.aload_n 0, 1) := by decide +kernel
theorem dX4_attach_1 : decode cX4_attach 1 = .ok (.iload_n 2, 1) := by decide +kernel
theorem dX4_attach_2 : decode cX4_attach 2 = .ok (.iload_n 3, 1) := by decide +kernel
theorem dX4_attach_3 : decode cX4_attach 3 = .ok (.iconst 1, 1) := by decide +kernel
theorem dX4_attach_4 : decode cX4_attach 4 = .ok (.invokevirtual 59, 3) := by decide +kernel
theorem dX4_attach_7 : decode cX4_attach 7 = .ok (.aload_n 0, 1) := by decide +kernel
theorem dX4_attach_8 : decode cX4_attach 8 = .ok (.iload_n 1, 1) := by decide +kernel
theorem dX4_attach_9 : decode cX4_attach 9 = .ok (.invokevirtual 62, 3) := by decide +kernel
theorem dX4_attach_12 : decode cX4_attach 12 = .ok (.aload_n 0, 1) := by decide +kernel
theorem dX4_attach_13 : decode cX4_attach 13 = .ok (.iload_n 1, 1) := by decide +kernel
theorem dX4_attach_14 : decode cX4_attach 14 = .ok (.iconst 0, 1) := by decide +kernel
theorem dX4_attach_15 : decode cX4_attach 15 = .ok (.iload_n 2, 1) := by decide +kernel
theorem dX4_attach_16 : decode cX4_attach 16 = .ok (.invokevirtual 18, 3) := by decide +kernel
theorem dX4_attach_19 : decode cX4_attach 19 = .ok (.aload_n 0, 1) := by decide +kernel
theorem dX4_attach_20 : decode cX4_attach 20 = .ok (.iload_n 1, 1) := by decide +kernel
theorem dX4_attach_21 : decode cX4_attach 21 = .ok (.iconst 1, 1) := by decide +kernel
theorem dX4_attach_22 : decode cX4_attach 22 = .ok (.iload_n 3, 1) := by decide +kernel
theorem dX4_attach_23 : decode cX4_attach 23 = .ok (.invokevirtual 18, 3) := by decide +kernel
theorem dX4_attach_26 : decode cX4_attach 26 = .ok (.return_, 1) := by decide +kernel
theorem dX4_detach_0 : decode cX4_detach 0 = .ok (.aload_n 0, 1) := by decide +kernel
theorem dX4_detach_1 : decode cX4_detach 1 = .ok (.iload_n 1, 1) := by decide +kernel
theorem dX4_detach_2 : decode cX4_detach 2 = .ok (.iconst 0, 1) := by decide +kernel
theorem dX4_detach_3 : decode cX4_detach 3 = .ok (.invokevirtual 36, 3) := by decide +kernel
theorem dX4_detach_6 : decode cX4_detach 6 = .ok (.istore_n 2, 1) := by decide +kernel
theorem dX4_detach_7 : decode cX4_detach 7 = .ok (.aload_n 0, 1) := by decide +kernel
theorem dX4_detach_8 : decode cX4_detach 8 = .ok (.iload_n 1, 1) := by decide +kernel
theorem dX4_detach_9 : decode cX4_detach 9 = .ok (.iconst 1, 1) := by decide +kernel
theorem dX4_detach_10 : decode cX4_detach 10 = .ok (.invokevirtual 36, 3) := by decide +kernel
theorem dX4_detach_13 : decode cX4_detach 13 = .ok (.istore_n 3, 1) := by decide +kernel
theorem dX4_detach_14 : decode cX4_detach 14 = .ok (.aload_n 0, 1) := by decide +kernel
theorem dX4_detach_15 : decode cX4_detach 15 = .ok (.iload_n 1, 1) := by decide +kernel
theorem dX4_detach_16 : decode cX4_detach 16 = .ok (.iconst 0, 1) := by decide +kernel
theorem dX4_detach_17 : decode cX4_detach 17 = .ok (.iconst (-1), 1) := by decide +kernel
theorem dX4_detach_18 : decode cX4_detach 18 = .ok (.invokevirtual 18, 3) := by decide +kernel
theorem dX4_detach_21 : decode cX4_detach 21 = .ok (.aload_n 0, 1) := by decide +kernel
theorem dX4_detach_22 : decode cX4_detach 22 = .ok (.iload_n 2, 1) := by decide +kernel
theorem dX4_detach_23 : decode cX4_detach 23 = .ok (.iload_n 3, 1) := by decide +kernel
theorem dX4_detach_24 : decode cX4_detach 24 = .ok (.iconst (-1), 1) := by decide +kernel
theorem dX4_detach_25 : decode cX4_detach 25 = .ok (.invokevirtual 59, 3) := by decide +kernel
theorem dX4_detach_28 : decode cX4_detach 28 = .ok (.return_, 1) := by decide +kernel
theorem dX4_shift_0 : decode cX4_shift 0 = .ok (.iconst 0, 1) := by decide +kernel
theorem dX4_shift_1 : decode cX4_shift 1 = .ok (.istore 4, 2) := by decide +kernel
theorem dX4_shift_3 : decode cX4_shift 3 = .ok (.iload 4, 2) := by decide +kernel
theorem dX4_shift_5 : decode cX4_shift 5 = .ok (.bipush 16, 2) := by decide +kernel
theorem dX4_shift_7 : decode cX4_shift 7 = .ok (.if_icmp .ge 46, 3) := by decide +kernel
theorem dX4_shift_10 : decode cX4_shift 10 = .ok (.aload_n 0, 1) := by decide +kernel
theorem dX4_shift_11 : decode cX4_shift 11 = .ok (.iload 4, 2) := by decide +kernel
theorem dX4_shift_13 : decode cX4_shift 13 = .ok (.iload_n 1, 1) := by decide +kernel
theorem dX4_shift_14 : decode cX4_shift 14 = .ok (.invokevirtual 32, 3) := by decide +kernel
theorem dX4_shift_17 : decode cX4_shift 17 = .ok (.ifCond .eq 30, 3) := by decide +kernel
theorem dX4_shift_20 : decode cX4_shift 20 = .ok (.aload_n 0, 1) := by decide +kernel
theorem dX4_shift_21 : decode cX4_shift 21 = .ok (.iload 4, 2) := by decide +kernel
theorem dX4_shift_23 : decode cX4_shift 23 = .ok (.iconst 1, 1) := by decide +kernel
theorem dX4_shift_24 : decode cX4_shift 24 = .ok (.invokevirtual 36, 3) := by decide +kernel
theorem dX4_shift_27 : decode cX4_shift 27 = .ok (.iload_n 2, 1) := by decide +kernel
theorem dX4_shift_28 : decode cX4_shift 28 = .ok (.if_icmp .lt 19, 3) := by decide +kernel
theorem dX4_shift_31 : decode cX4_shift 31 = .ok (.aload_n 0, 1) := by decide +kernel
theorem dX4_shift_32 : decode cX4_shift 32 = .ok (.iload 4, 2) := by decide +kernel
theorem dX4_shift_34 : decode cX4_shift 34 = .ok (.iconst 1, 1) := by decide +kernel
theorem dX4_shift_35 : decode cX4_shift 35 = .ok (.aload_n 0, 1) := by decide +kernel
theorem dX4_shift_36 : decode cX4_shift 36 = .ok (.iload 4, 2) := by decide +kernel
theorem dX4_shift_38 : decode cX4_shift 38 = .ok (.iconst 1, 1) := by decide +kernel
theorem dX4_shift_39 : decode cX4_shift 39 = .ok (.invokevirtual 36, 3) := by decide +kernel
theorem dX4_shift_42 : decode cX4_shift 42 = .ok (.iload_n 3, 1) := by decide +kernel
theorem dX4_shift_43 : decode cX4_shift 43 = .ok (.iadd, 1) := by decide +kernel
theorem dX4_shift_44 : decode cX4_shift 44 = .ok (.invokevirtual 18, 3) := by decide +kernel
theorem dX4_shift_47 : decode cX4_shift 47 = .ok (.iinc 4 1, 3) := by decide +kernel
theorem dX4_shift_50 : decode cX4_shift 50 = .ok (.goto (-47), 3) := by decide +kernel
theorem dX4_shift_53 : decode cX4_shift 53 = .ok (.return_, 1) := by decide +kernel
theorem dX4_drop_0 : decode cX4_drop 0 = .ok (.iconst 0, 1) := by decide +kernel
theorem dX4_drop_1 : decode cX4_drop 1 = .ok (.istore_n 2, 1) := by decide +kernel
theorem dX4_drop_2 : decode cX4_drop 2 = .ok (.iconst 1, 1) := by decide +kernel
theorem dX4_drop_3 : decode cX4_drop 3 = .ok (.istore_n 3, 1) := by decide +kernel
theorem dX4_drop_4 : decode cX4_drop 4 = .ok (.iload_n 3, 1) := by decide +kernel
theorem dX4_drop_5 : decode cX4_drop 5 = .ok (.bipush 16, 2) := by decide +kernel
theorem dX4_drop_7 : decode cX4_drop 7 = .ok (.if_icmp .ge 36, 3) := by decide +kernel
theorem dX4_drop_10 : decode cX4_drop 10 = .ok (.iload_n 2, 1) := by decide +kernel
theorem dX4_drop_11 : decode cX4_drop 11 = .ok (.aload_n 0, 1) := by decide +kernel
theorem dX4_drop_12 : decode cX4_drop 12 = .ok (.iload_n 3, 1) := by decide +kernel
theorem dX4_drop_13 : decode cX4_drop 13 = .ok (.invokevirtual 28, 3) := by decide +kernel
theorem dX4_drop_16 : decode cX4_drop 16 = .ok (.ifCond .eq 18, 3) := by decide +kernel
theorem dX4_drop_19 : decode cX4_drop 19 = .ok (.aload_n 0, 1) := by decide +kernel
theorem dX4_drop_20 : decode cX4_drop 20 = .ok (.iload_n 3, 1) := by decide +kernel
theorem dX4_drop_21 : decode cX4_drop 21 = .ok (.iload_n 1, 1) := by decide +kernel
theorem dX4_drop_22 : decode cX4_drop 22 = .ok (.invokevirtual 40, 3) := by decide +kernel
theorem dX4_drop_25 : decode cX4_drop 25 = .ok (.ifCond .eq 9, 3) := by decide +kernel
theorem dX4_drop_28 : decode cX4_drop 28 = .ok (.iconst 1, 1) := by decide +kernel
theorem dX4_drop_29 : decode cX4_drop 29 = .ok (.iload_n 3, 1) := by decide +kernel
theorem dX4_drop_30 : decode cX4_drop 30 = .ok (.ishl, 1) := by decide +kernel
theorem dX4_drop_31 : decode cX4_drop 31 = .ok (.goto 4, 3) := by decide +kernel
theorem dX4_drop_34 : decode cX4_drop 34 = .ok (.iconst 0, 1) := by decide +kernel
theorem dX4_drop_35 : decode cX4_drop 35 = .ok (.ior, 1) := by decide +kernel
theorem dX4_drop_36 : decode cX4_drop 36 = .ok (.istore_n 2, 1) := by decide +kernel
theorem dX4_drop_37 : decode cX4_drop 37 = .ok (.iinc 3 1, 3) := by decide +kernel
theorem dX4_drop_40 : decode cX4_drop 40 = .ok (.goto (-36), 3) := by decide +kernel
theorem dX4_drop_43 : decode cX4_drop 43 = .ok (.aload_n 0, 1) := by decide +kernel
theorem dX4_drop_44 : decode cX4_drop 44 = .ok (.iload_n 1, 1) := by decide +kernel
theorem dX4_drop_45 : decode cX4_drop 45 = .ok (.invokevirtual 66, 3) := by decide +kernel
theorem dX4_drop_48 : decode cX4_drop 48 = .ok (.iconst 1, 1) := by decide +kernel
theorem dX4_drop_49 : decode cX4_drop 49 = .ok (.istore_n 3, 1) := by decide +kernel
theorem dX4_drop_50 : decode cX4_drop 50 = .ok (.iload_n 3, 1) := by decide +kernel
theorem dX4_drop_51 : decode cX4_drop 51 = .ok (.bipush 16, 2) := by decide +kernel
theorem dX4_drop_53 : decode cX4_drop 53 = .ok (.if_icmp .ge 25, 3) := by decide +kernel
theorem dX4_drop_56 : decode cX4_drop 56 = .ok (.iload_n 2, 1) := by decide +kernel
theorem dX4_drop_57 : decode cX4_drop 57 = .ok (.iload_n 3, 1) := by decide +kernel
theorem dX4_drop_58 : decode cX4_drop 58 = .ok (.ishr, 1) := by decide +kernel
theorem dX4_drop_59 : decode cX4_drop 59 = .ok (.iconst 1, 1) := by decide +kernel
theorem dX4_drop_60 : decode cX4_drop 60 = .ok (.iand, 1) := by decide +kernel
theorem dX4_drop_61 : decode cX4_drop 61 = .ok (.iconst 1, 1) := by decide +kernel
theorem dX4_drop_62 : decode cX4_drop 62 = .ok (.if_icmp .ne 10, 3) := by decide +kernel
theorem dX4_drop_65 : decode cX4_drop 65 = .ok (.aload_n 0, 1) := by decide +kernel
theorem dX4_drop_66 : decode cX4_drop 66 = .ok (.iload_n 3, 1) := by decide +kernel
theorem dX4_drop_67 : decode cX4_drop 67 = .ok (.iconst 4, 1) := by decide +kernel
theorem dX4_drop_68 : decode cX4_drop 68 = .ok (.iconst 0, 1) := by decide +kernel
theorem dX4_drop_69 : decode cX4_drop 69 = .ok (.invokevirtual 18, 3) := by decide +kernel
theorem dX4_drop_72 : decode cX4_drop 72 = .ok (.iinc 3 1, 3) := by decide +kernel
theorem dX4_drop_75 : decode cX4_drop 75 = .ok (.goto (-25), 3) := by decide +kernel
theorem dX4_drop_78 : decode cX4_drop 78 = .ok (.iload_n 2, 1) := by decide +kernel
theorem dX4_drop_79 : decode cX4_drop 79 = .ok (.invokestatic 69, 3) := by decide +kernel
theorem dX4_drop_82 : decode cX4_drop 82 = .ok (.ireturn, 1) := by decide +kernel
theorem dX5_init_0 : decode cX5_init 0 = .ok (.aload_n 0, 1) := by decide +kernel
theorem dX5_init_1 : decode cX5_init 1 = .ok (.invokespecial 3, 3) := by decide +kernel
theorem dX5_init_4 : decode cX5_init 4 = .ok (.aload_n 0, 1) := by decide +kernel
theorem dX5_init_5 : decode cX5_init 5 = .ok (.new 9, 3) := by decide +kernel
theorem dX5_init_8 : decode cX5_init 8 = .ok (.dup, 1) := by decide +kernel
theorem dX5_init_9 : decode cX5_init 9 = .ok (.bipush 48, 2) := by decide +kernel
theorem dX5_init_11 : decode cX5_init 11 = .ok (.invokespecial 11, 3) := by decide +kernel
theorem dX5_init_14 : decode cX5_init 14 = .ok (.putfield 14, 3) := by decide +kernel
theorem dX5_init_17 : decode cX5_init 17 = .ok (.return_, 1) := by decide +kernel
theorem dX5_write_0 : decode cX5_write 0 = .ok (.aload_n 0, 1) := by decide +kernel
theorem dX5_write_1 : decode cX5_write 1 = .ok (.getfield 14, 3) := by decide +kernel
theorem dX5_write_4 : decode cX5_write 4 = .ok (.invokevirtual 20, 3) := by decide +kernel
theorem dX5_write_7 : decode cX5_write 7 = .ok (.iconst 0, 1) := by decide +kernel
theorem dX5_write_8 : decode cX5_write 8 = .ok (.istore_n 3, 1) := by decide +kernel
theorem dX5_write_9 : decode cX5_write 9 = .ok (.iload_n 3, 1) := by decide +kernel
theorem dX5_write_10 : decode cX5_write 10 = .ok (.bipush 16, 2) := by decide +kernel
theorem dX5_write_12 : decode cX5_write 12 = .ok (.if_icmp .ge 94, 3) := by decide +kernel
theorem dX5_write_15 : decode cX5_write 15 = .ok (.aload_n 1, 1) := by decide +kernel
theorem dX5_write_16 : decode cX5_write 16 = .ok (.iload_n 3, 1) := by decide +kernel
theorem dX5_write_17 : decode cX5_write 17 = .ok (.invokevirtual 23, 3) := by decide +kernel
theorem dX5_write_20 : decode cX5_write 20 = .ok (.ifCond .eq 41, 3) := by decide +kernel
theorem dX5_write_23 : decode cX5_write 23 = .ok (.aload_n 2, 1) := by decide +kernel
theorem dX5_write_24 : decode cX5_write 24 = .ok (.iload_n 3, 1) := by decide +kernel
theorem dX5_write_25 : decode cX5_write 25 = .ok (.invokevirtual 23, 3) := by decide +kernel
theorem dX5_write_28 : decode cX5_write 28 = .ok (.ifCond .eq 33, 3) := by decide +kernel
theorem dX5_write_31 : decode cX5_write 31 = .ok (.aload_n 0, 1) := by decide +kernel
theorem dX5_write_32 : decode cX5_write 32 = .ok (.aload_n 1, 1) := by decide +kernel
theorem dX5_write_33 : decode cX5_write 33 = .ok (.aload_n 2, 1) := by decide +kernel
theorem dX5_write_34 : decode cX5_write 34 = .ok (.iload_n 3, 1) := by decide +kernel
theorem dX5_write_35 : decode cX5_write 35 = .ok (.iconst 0, 1) := by decide +kernel
theorem dX5_write_36 : decode cX5_write 36 = .ok (.iconst 3, 1) := by decide +kernel
theorem dX5_write_37 : decode cX5_write 37 = .ok (.invokevirtual 29, 3) := by decide +kernel
theorem dX5_write_40 : decode cX5_write 40 = .ok (.aload_n 0, 1) := by decide +kernel
theorem dX5_write_41 : decode cX5_write 41 = .ok (.aload_n 1, 1) := by decide +kernel
theorem dX5_write_42 : decode cX5_write 42 = .ok (.aload_n 2, 1) := by decide +kernel
theorem dX5_write_43 : decode cX5_write 43 = .ok (.iload_n 3, 1) := by decide +kernel
theorem dX5_write_44 : decode cX5_write 44 = .ok (.iconst 2, 1) := by decide +kernel
theorem dX5_write_45 : decode cX5_write 45 = .ok (.iconst 4, 1) := by decide +kernel
theorem dX5_write_46 : decode cX5_write 46 = .ok (.invokevirtual 29, 3) := by decide +kernel
theorem dX5_write_49 : decode cX5_write 49 = .ok (.aload_n 0, 1) := by decide +kernel
theorem dX5_write_50 : decode cX5_write 50 = .ok (.aload_n 1, 1) := by decide +kernel
theorem dX5_write_51 : decode cX5_write 51 = .ok (.aload_n 2, 1) := by decide +kernel
theorem dX5_write_52 : decode cX5_write 52 = .ok (.iload_n 3, 1) := by decide +kernel
theorem dX5_write_53 : decode cX5_write 53 = .ok (.iconst 3, 1) := by decide +kernel
theorem dX5_write_54 : decode cX5_write 54 = .ok (.iconst 5, 1) := by decide +kernel
theorem dX5_write_55 : decode cX5_write 55 = .ok (.invokevirtual 29, 3) := by decide +kernel
theorem dX5_write_58 : decode cX5_write 58 = .ok (.goto 42, 3) := by decide +kernel
theorem dX5_write_61 : decode cX5_write 61 = .ok (.aload_n 2, 1) := by decide +kernel
theorem dX5_write_62 : decode cX5_write 62 = .ok (.iload_n 3, 1) := by decide +kernel
theorem dX5_write_63 : decode cX5_write 63 = .ok (.invokevirtual 23, 3) := by decide +kernel
theorem dX5_write_66 : decode cX5_write 66 = .ok (.ifCond .eq 16, 3) := by decide +kernel
theorem dX5_write_69 : decode cX5_write 69 = .ok (.aload_n 0, 1) := by decide +kernel
theorem dX5_write_70 : decode cX5_write 70 = .ok (.getfield 14, 3) := by decide +kernel
theorem dX5_write_73 : decode cX5_write 73 = .ok (.iconst 1, 1) := by decide +kernel
theorem dX5_write_74 : decode cX5_write 74 = .ok (.iload_n 3, 1) := by decide +kernel
theorem dX5_write_75 : decode cX5_write 75 = .ok (.iconst (-1), 1) := by decide +kernel
theorem dX5_write_76 : decode cX5_write 76 = .ok (.invokevirtual 33, 3) := by decide +kernel
theorem dX5_write_79 : decode cX5_write 79 = .ok (.goto 21, 3) := by decide +kernel
theorem dX5_write_82 : decode cX5_write 82 = .ok (.aload_n 1, 1) := by decide +kernel
theorem dX5_write_83 : decode cX5_write 83 = .ok (.iload_n 3, 1) := by decide +kernel
theorem dX5_write_84 : decode cX5_write 84 = .ok (.invokevirtual 23, 3) := by decide +kernel
theorem dX5_write_87 : decode cX5_write 87 = .ok (.ifCond .eq 13, 3) := by decide +kernel
theorem dX5_write_90 : decode cX5_write 90 = .ok (.aload_n 0, 1) := by decide +kernel
theorem dX5_write_91 : decode cX5_write 91 = .ok (.getfield 14, 3) := by decide +kernel
theorem dX5_write_94 : decode cX5_write 94 = .ok (.iconst 2, 1) := by decide +kernel
theorem dX5_write_95 : decode cX5_write 95 = .ok (.iload_n 3, 1) := by decide +kernel
theorem dX5_write_96 : decode cX5_write 96 = .ok (.iconst (-1), 1) := by decide +kernel
theorem dX5_write_97 : decode cX5_write 97 = .ok (.invokevirtual 33, 3) := by decide +kernel
theorem dX5_write_100 : decode cX5_write 100 = .ok (.iinc 3 1, 3) := by decide +kernel
theorem dX5_write_103 : decode cX5_write 103 = .ok (.goto (-94), 3) := by decide +kernel
theorem dX5_write_106 : decode cX5_write 106 = .ok (.return_, 1) := by decide +kernel
theorem dX5_writeChange_0 : decode cX5_writeChange 0 = .ok (.aload_n 2, 1) := by decide +kernel
theorem dX5_writeChange_1 : decode cX5_writeChange 1 = .ok (.iload_n 3, 1) := by decide +kernel
theorem dX5_writeChange_2 : decode cX5_writeChange 2 = .ok (.iload 4, 2) := by decide +kernel
theorem dX5_writeChange_4 : decode cX5_writeChange 4 = .ok (.invokevirtual 37, 3) := by decide +kernel
theorem dX5_writeChange_7 : decode cX5_writeChange 7 = .ok (.aload_n 1, 1) := by decide +kernel
theorem dX5_writeChange_8 : decode cX5_writeChange 8 = .ok (.iload_n 3, 1) := by decide +kernel
theorem dX5_writeChange_9 : decode cX5_writeChange 9 = .ok (.iload 4, 2) := by decide +kernel
theorem dX5_writeChange_11 : decode cX5_writeChange 11 = .ok (.invokevirtual 37, 3) := by decide +kernel
theorem dX5_writeChange_14 : decode cX5_writeChange 14 = .ok (.if_icmp .eq 14, 3) := by decide +kernel
theorem dX5_writeChange_17 : decode cX5_writeChange 17 = .ok (.aload_n 0, 1) := by decide +kernel
theorem dX5_writeChange_18 : decode cX5_writeChange 18 = .ok (.getfield 14, 3) := by decide +kernel
theorem dX5_writeChange_21 : decode cX5_writeChange 21 = .ok (.iload 5, 2) := by decide +kernel
theorem dX5_writeChange_23 : decode cX5_writeChange 23 = .ok (.iload_n 3, 1) := by decide +kernel
theorem dX5_writeChange_24 : decode cX5_writeChange 24 = .ok (.iconst (-1), 1) := by decide +kernel
theorem dX5_writeChange_25 : decode cX5_writeChange 25 = .ok (.invokevirtual 33, 3) := by decide +kernel
theorem dX5_writeChange_28 : decode cX5_writeChange 28 = .ok (.return_, 1) := by decide +kernel
theorem dX6_init_0 : decode cX6_init 0 = .ok (.aload_n 0, 1) := by decide +kernel
theorem dX6_init_1 : decode cX6_init 1 = .ok (.invokespecial 3, 3) := by decide +kernel
theorem dX6_init_4 : decode cX6_init 4 = .ok (.aload_n 0, 1) := by decide +kernel
theorem dX6_init_5 : decode cX6_init 5 = .ok (.iconst 0, 1) := by decide +kernel
theorem dX6_init_6 : decode cX6_init 6 = .ok (.putfield 9, 3) := by decide +kernel
theorem dX6_init_9 : decode cX6_init 9 = .ok (.iload_n 1, 1) := by decide +kernel
theorem dX6_init_10 : decode cX6_init 10 = .ok (.iconst 0, 1) := by decide +kernel
theorem dX6_init_11 : decode cX6_init 11 = .ok (.invokestatic 15, 3) := by decide +kernel
theorem dX6_init_14 : decode cX6_init 14 = .ok (.istore_n 2, 1) := by decide +kernel
theorem dX6_init_15 : decode cX6_init 15 = .ok (.aload_n 0, 1) := by decide +kernel
theorem dX6_init_16 : decode cX6_init 16 = .ok (.iload_n 2, 1) := by decide +kernel
theorem dX6_init_17 : decode cX6_init 17 = .ok (.newarray .int, 2) := by decide +kernel
theorem dX6_init_19 : decode cX6_init 19 = .ok (.putfield 21, 3) := by decide +kernel
theorem dX6_init_22 : decode cX6_init 22 = .ok (.aload_n 0, 1) := by decide +kernel
theorem dX6_init_23 : decode cX6_init 23 = .ok (.iload_n 2, 1) := by decide +kernel
theorem dX6_init_24 : decode cX6_init 24 = .ok (.newarray .int, 2) := by decide +kernel
theorem dX6_init_26 : decode cX6_init 26 = .ok (.putfield 25, 3) := by decide +kernel
theorem dX6_init_29 : decode cX6_init 29 = .ok (.aload_n 0, 1) := by decide +kernel
theorem dX6_init_30 : decode cX6_init 30 = .ok (.iload_n 2, 1) := by decide +kernel
theorem dX6_init_31 : decode cX6_init 31 = .ok (.newarray .int, 2) := by decide +kernel
theorem dX6_init_33 : decode cX6_init 33 = .ok (.putfield 28, 3) := by decide +kernel
theorem dX6_init_36 : decode cX6_init 36 = .ok (.return_, 1) := by decide +kernel
theorem dX6_wipe_0 : decode cX6_wipe 0 = .ok (.aload_n 0, 1) := by decide +kernel
theorem dX6_wipe_1 : decode cX6_wipe 1 = .ok (.iconst 0, 1) := by decide +kernel
theorem dX6_wipe_2 : decode cX6_wipe 2 = .ok (.putfield 9, 3) := by decide +kernel
theorem dX6_wipe_5 : decode cX6_wipe 5 = .ok (.return_, 1) := by decide +kernel
theorem dX6_tell_0 : decode cX6_tell 0 = .ok (.aload_n 0, 1) := by decide +kernel
theorem dX6_tell_1 : decode cX6_tell 1 = .ok (.getfield 9, 3) := by decide +kernel
theorem dX6_tell_4 : decode cX6_tell 4 = .ok (.ifCond .lt 79, 3) := by decide +kernel
theorem dX6_tell_7 : decode cX6_tell 7 = .ok (.aload_n 0, 1) := by decide +kernel
theorem dX6_tell_8 : decode cX6_tell 8 = .ok (.getfield 9, 3) := by decide +kernel
theorem dX6_tell_11 : decode cX6_tell 11 = .ok (.aload_n 0, 1) := by decide +kernel
theorem dX6_tell_12 : decode cX6_tell 12 = .ok (.getfield 21, 3) := by decide +kernel
theorem dX6_tell_15 : decode cX6_tell 15 = .ok (.arraylength, 1) := by decide +kernel
theorem dX6_tell_16 : decode cX6_tell 16 = .ok (.if_icmp .ge 67, 3) := by decide +kernel
theorem dX6_tell_19 : decode cX6_tell 19 = .ok (.aload_n 0, 1) := by decide +kernel
theorem dX6_tell_20 : decode cX6_tell 20 = .ok (.getfield 9, 3) := by decide +kernel
theorem dX6_tell_23 : decode cX6_tell 23 = .ok (.aload_n 0, 1) := by decide +kernel
theorem dX6_tell_24 : decode cX6_tell 24 = .ok (.getfield 25, 3) := by decide +kernel
theorem dX6_tell_27 : decode cX6_tell 27 = .ok (.arraylength, 1) := by decide +kernel
theorem dX6_tell_28 : decode cX6_tell 28 = .ok (.if_icmp .ge 55, 3) := by decide +kernel
theorem dX6_tell_31 : decode cX6_tell 31 = .ok (.aload_n 0, 1) := by decide +kernel
theorem dX6_tell_32 : decode cX6_tell 32 = .ok (.getfield 9, 3) := by decide +kernel
theorem dX6_tell_35 : decode cX6_tell 35 = .ok (.aload_n 0, 1) := by decide +kernel
theorem dX6_tell_36 : decode cX6_tell 36 = .ok (.getfield 28, 3) := by decide +kernel
theorem dX6_tell_39 : decode cX6_tell 39 = .ok (.arraylength, 1) := by decide +kernel
theorem dX6_tell_40 : decode cX6_tell 40 = .ok (.if_icmp .ge 43, 3) := by decide +kernel
theorem dX6_tell_43 : decode cX6_tell 43 = .ok (.aload_n 0, 1) := by decide +kernel
theorem dX6_tell_44 : decode cX6_tell 44 = .ok (.getfield 21, 3) := by decide +kernel
theorem dX6_tell_47 : decode cX6_tell 47 = .ok (.aload_n 0, 1) := by decide +kernel
theorem dX6_tell_48 : decode cX6_tell 48 = .ok (.getfield 9, 3) := by decide +kernel
theorem dX6_tell_51 : decode cX6_tell 51 = .ok (.iload_n 1, 1) := by decide +kernel
theorem dX6_tell_52 : decode cX6_tell 52 = .ok (.iastore, 1) := by decide +kernel
theorem dX6_tell_53 : decode cX6_tell 53 = .ok (.aload_n 0, 1) := by decide +kernel
theorem dX6_tell_54 : decode cX6_tell 54 = .ok (.getfield 25, 3) := by decide +kernel
theorem dX6_tell_57 : decode cX6_tell 57 = .ok (.aload_n 0, 1) := by decide +kernel
theorem dX6_tell_58 : decode cX6_tell 58 = .ok (.getfield 9, 3) := by decide +kernel
theorem dX6_tell_61 : decode cX6_tell 61 = .ok (.iload_n 2, 1) := by decide +kernel
theorem dX6_tell_62 : decode cX6_tell 62 = .ok (.iastore, 1) := by decide +kernel
theorem dX6_tell_63 : decode cX6_tell 63 = .ok (.aload_n 0, 1) := by decide +kernel
theorem dX6_tell_64 : decode cX6_tell 64 = .ok (.getfield 28, 3) := by decide +kernel
theorem dX6_tell_67 : decode cX6_tell 67 = .ok (.aload_n 0, 1) := by decide +kernel
theorem dX6_tell_68 : decode cX6_tell 68 = .ok (.getfield 9, 3) := by decide +kernel
theorem dX6_tell_71 : decode cX6_tell 71 = .ok (.iload_n 3, 1) := by decide +kernel
theorem dX6_tell_72 : decode cX6_tell 72 = .ok (.iastore, 1) := by decide +kernel
theorem dX6_tell_73 : decode cX6_tell 73 = .ok (.aload_n 0, 1) := by decide +kernel
theorem dX6_tell_74 : decode cX6_tell 74 = .ok (.dup, 1) := by decide +kernel
theorem dX6_tell_75 : decode cX6_tell 75 = .ok (.getfield 9, 3) := by decide +kernel
theorem dX6_tell_78 : decode cX6_tell 78 = .ok (.iconst 1, 1) := by decide +kernel
theorem dX6_tell_79 : decode cX6_tell 79 = .ok (.iadd, 1) := by decide +kernel
theorem dX6_tell_80 : decode cX6_tell 80 = .ok (.putfield 9, 3) := by decide +kernel
theorem dX6_tell_83 : decode cX6_tell 83 = .ok (.return_, 1) := by decide +kernel
theorem dX6_answer_0 : decode cX6_answer 0 = .ok (.iload_n 1, 1) := by decide +kernel
theorem dX6_answer_1 : decode cX6_answer 1 = .ok (.iconst (-1), 1) := by decide +kernel
theorem dX6_answer_2 : decode cX6_answer 2 = .ok (.if_icmp .ne 8, 3) := by decide +kernel
theorem dX6_answer_5 : decode cX6_answer 5 = .ok (.aload_n 0, 1) := by decide +kernel
theorem dX6_answer_6 : decode cX6_answer 6 = .ok (.getfield 9, 3) := by decide +kernel
theorem dX6_answer_9 : decode cX6_answer 9 = .ok (.ireturn, 1) := by decide +kernel
theorem dX6_answer_10 : decode cX6_answer 10 = .ok (.iload_n 1, 1) := by decide +kernel
theorem dX6_answer_11 : decode cX6_answer 11 = .ok (.ifCond .lt 38, 3) := by decide +kernel
theorem dX6_answer_14 : decode cX6_answer 14 = .ok (.iload_n 1, 1) := by decide +kernel
theorem dX6_answer_15 : decode cX6_answer 15 = .ok (.aload_n 0, 1) := by decide +kernel
theorem dX6_answer_16 : decode cX6_answer 16 = .ok (.getfield 9, 3) := by decide +kernel
theorem dX6_answer_19 : decode cX6_answer 19 = .ok (.if_icmp .ge 30, 3) := by decide +kernel
theorem dX6_answer_22 : decode cX6_answer 22 = .ok (.iload_n 1, 1) := by decide +kernel
theorem dX6_answer_23 : decode cX6_answer 23 = .ok (.aload_n 0, 1) := by decide +kernel
theorem dX6_answer_24 : decode cX6_answer 24 = .ok (.getfield 21, 3) := by decide +kernel
theorem dX6_answer_27 : decode cX6_answer 27 = .ok (.arraylength, 1) := by decide +kernel
theorem dX6_answer_28 : decode cX6_answer 28 = .ok (.if_icmp .ge 21, 3) := by decide +kernel
theorem dX6_answer_31 : decode cX6_answer 31 = .ok (.iload_n 1, 1) := by decide +kernel
theorem dX6_answer_32 : decode cX6_answer 32 = .ok (.aload_n 0, 1) := by decide +kernel
theorem dX6_answer_33 : decode cX6_answer 33 = .ok (.getfield 25, 3) := by decide +kernel
theorem dX6_answer_36 : decode cX6_answer 36 = .ok (.arraylength, 1) := by decide +kernel
theorem dX6_answer_37 : decode cX6_answer 37 = .ok (.if_icmp .ge 12, 3) := by decide +kernel
theorem dX6_answer_40 : decode cX6_answer 40 = .ok (.iload_n 1, 1) := by decide +kernel
theorem dX6_answer_41 : decode cX6_answer 41 = .ok (.aload_n 0, 1) := by decide +kernel
theorem dX6_answer_42 : decode cX6_answer 42 = .ok (.getfield 28, 3) := by decide +kernel
theorem dX6_answer_45 : decode cX6_answer 45 = .ok (.arraylength, 1) := by decide +kernel
theorem dX6_answer_46 : decode cX6_answer 46 = .ok (.if_icmp .lt 6, 3) := by decide +kernel
theorem dX6_answer_49 : decode cX6_answer 49 = .ok (.bipush (-5), 2) := by decide +kernel
theorem dX6_answer_51 : decode cX6_answer 51 = .ok (.ireturn, 1) := by decide +kernel
theorem dX6_answer_52 : decode cX6_answer 52 = .ok (.iload_n 2, 1) := by decide +kernel
theorem dX6_answer_53 : decode cX6_answer 53 = .ok (.ifCond .ne 10, 3) := by decide +kernel
theorem dX6_answer_56 : decode cX6_answer 56 = .ok (.aload_n 0, 1) := by decide +kernel
theorem dX6_answer_57 : decode cX6_answer 57 = .ok (.getfield 21, 3) := by decide +kernel
theorem dX6_answer_60 : decode cX6_answer 60 = .ok (.iload_n 1, 1) := by decide +kernel
theorem dX6_answer_61 : decode cX6_answer 61 = .ok (.iaload, 1) := by decide +kernel
theorem dX6_answer_62 : decode cX6_answer 62 = .ok (.ireturn, 1) := by decide +kernel
theorem dX6_answer_63 : decode cX6_answer 63 = .ok (.iload_n 2, 1) := by decide +kernel
theorem dX6_answer_64 : decode cX6_answer 64 = .ok (.iconst 1, 1) := by decide +kernel
theorem dX6_answer_65 : decode cX6_answer 65 = .ok (.if_icmp .ne 12, 3) := by decide +kernel
theorem dX6_answer_68 : decode cX6_answer 68 = .ok (.aload_n 0, 1) := by decide +kernel
theorem dX6_answer_69 : decode cX6_answer 69 = .ok (.getfield 25, 3) := by decide +kernel
theorem dX6_answer_72 : decode cX6_answer 72 = .ok (.iload_n 1, 1) := by decide +kernel
theorem dX6_answer_73 : decode cX6_answer 73 = .ok (.iaload, 1) := by decide +kernel
theorem dX6_answer_74 : decode cX6_answer 74 = .ok (.goto 9, 3) := by decide +kernel
theorem dX6_answer_77 : decode cX6_answer 77 = .ok (.aload_n 0, 1) := by decide +kernel
theorem dX6_answer_78 : decode cX6_answer 78 = .ok (.getfield 28, 3) := by decide +kernel
theorem dX6_answer_81 : decode cX6_answer 81 = .ok (.iload_n 1, 1) := by decide +kernel
theorem dX6_answer_82 : decode cX6_answer 82 = .ok (.iaload, 1) := by decide +kernel
theorem dX6_answer_83 : decode cX6_answer 83 = .ok (.ireturn, 1) := by decide +kernel
theorem dX7_init_0 : decode cX7_init 0 = .ok (.aload_n 0, 1) := by decide +kernel
theorem dX7_init_1 : decode cX7_init 1 = .ok (.invokespecial 3, 3) := by decide +kernel
theorem dX7_init_4 : decode cX7_init 4 = .ok (.aload_n 0, 1) := by decide +kernel
theorem dX7_init_5 : decode cX7_init 5 = .ok (.sipush 150, 3) := by decide +kernel
theorem dX7_init_8 : decode cX7_init 8 = .ok (.newarray .int, 2) := by decide +kernel
theorem dX7_init_10 : decode cX7_init 10 = .ok (.putfield 9, 3) := by decide +kernel
theorem dX7_init_13 : decode cX7_init 13 = .ok (.aload_n 0, 1) := by decide +kernel
theorem dX7_init_14 : decode cX7_init 14 = .ok (.sipush 450, 3) := by decide +kernel
theorem dX7_init_17 : decode cX7_init 17 = .ok (.newarray .int, 2) := by decide +kernel
theorem dX7_init_19 : decode cX7_init 19 = .ok (.putfield 15, 3) := by decide +kernel
theorem dX7_init_22 : decode cX7_init 22 = .ok (.aload_n 0, 1) := by decide +kernel
theorem dX7_init_23 : decode cX7_init 23 = .ok (.iconst 0, 1) := by decide +kernel
theorem dX7_init_24 : decode cX7_init 24 = .ok (.putfield 18, 3) := by decide +kernel
theorem dX7_init_27 : decode cX7_init 27 = .ok (.aload_n 0, 1) := by decide +kernel
theorem dX7_init_28 : decode cX7_init 28 = .ok (.iconst 0, 1) := by decide +kernel
theorem dX7_init_29 : decode cX7_init 29 = .ok (.putfield 22, 3) := by decide +kernel
theorem dX7_init_32 : decode cX7_init 32 = .ok (.aload_n 0, 1) := by decide +kernel
theorem dX7_init_33 : decode cX7_init 33 = .ok (.iconst 0, 1) := by decide +kernel
theorem dX7_init_34 : decode cX7_init 34 = .ok (.putfield 25, 3) := by decide +kernel
theorem dX7_init_37 : decode cX7_init 37 = .ok (.aload_n 0, 1) := by decide +kernel
theorem dX7_init_38 : decode cX7_init 38 = .ok (.iconst 0, 1) := by decide +kernel
theorem dX7_init_39 : decode cX7_init 39 = .ok (.putfield 29, 3) := by decide +kernel
theorem dX7_init_42 : decode cX7_init 42 = .ok (.aload_n 0, 1) := by decide +kernel
theorem dX7_init_43 : decode cX7_init 43 = .ok (.iconst 0, 1) := by decide +kernel
theorem dX7_init_44 : decode cX7_init 44 = .ok (.putfield 32, 3) := by decide +kernel
theorem dX7_init_47 : decode cX7_init 47 = .ok (.aload_n 0, 1) := by decide +kernel
theorem dX7_init_48 : decode cX7_init 48 = .ok (.iconst 0, 1) := by decide +kernel
theorem dX7_init_49 : decode cX7_init 49 = .ok (.putfield 35, 3) := by decide +kernel
theorem dX7_init_52 : decode cX7_init 52 = .ok (.return_, 1) := by decide +kernel
theorem dX7_append_0 : decode cX7_append 0 = .ok (.aload_n 0, 1) := by decide +kernel
theorem dX7_append_1 : decode cX7_append 1 = .ok (.getfield 18, 3) := by decide +kernel
theorem dX7_append_4 : decode cX7_append 4 = .ok (.ifCond .lt 13, 3) := by decide +kernel
theorem dX7_append_7 : decode cX7_append 7 = .ok (.aload_n 0, 1) := by decide +kernel
theorem dX7_append_8 : decode cX7_append 8 = .ok (.getfield 18, 3) := by decide +kernel
theorem dX7_append_11 : decode cX7_append 11 = .ok (.sipush 150, 3) := by decide +kernel
theorem dX7_append_14 : decode cX7_append 14 = .ok (.if_icmp .lt 5, 3) := by decide +kernel
theorem dX7_append_17 : decode cX7_append 17 = .ok (.iconst 0, 1) := by decide +kernel
theorem dX7_append_18 : decode cX7_append 18 = .ok (.ireturn, 1) := by decide +kernel
theorem dX7_append_19 : decode cX7_append 19 = .ok (.aload_n 0, 1) := by decide +kernel
theorem dX7_append_20 : decode cX7_append 20 = .ok (.getfield 9, 3) := by decide +kernel
theorem dX7_append_23 : decode cX7_append 23 = .ok (.aload_n 0, 1) := by decide +kernel
theorem dX7_append_24 : decode cX7_append 24 = .ok (.getfield 18, 3) := by decide +kernel
theorem dX7_append_27 : decode cX7_append 27 = .ok (.iload_n 1, 1) := by decide +kernel
theorem dX7_append_28 : decode cX7_append 28 = .ok (.iastore, 1) := by decide +kernel
theorem dX7_append_29 : decode cX7_append 29 = .ok (.aload_n 0, 1) := by decide +kernel
theorem dX7_append_30 : decode cX7_append 30 = .ok (.dup, 1) := by decide +kernel
theorem dX7_append_31 : decode cX7_append 31 = .ok (.getfield 18, 3) := by decide +kernel
theorem dX7_append_34 : decode cX7_append 34 = .ok (.iconst 1, 1) := by decide +kernel
theorem dX7_append_35 : decode cX7_append 35 = .ok (.iadd, 1) := by decide +kernel
theorem dX7_append_36 : decode cX7_append 36 = .ok (.putfield 18, 3) := by decide +kernel
theorem dX7_append_39 : decode cX7_append 39 = .ok (.iconst 1, 1) := by decide +kernel
theorem dX7_append_40 : decode cX7_append 40 = .ok (.ireturn, 1) := by decide +kernel
theorem dX7_wipe_0 : decode cX7_wipe 0 = .ok (.aload_n 0, 1) := by decide +kernel
theorem dX7_wipe_1 : decode cX7_wipe 1 = .ok (.getfield 18, 3) := by decide +kernel
theorem dX7_wipe_4 : decode cX7_wipe 4 = .ok (.istore_n 1, 1) := by decide +kernel
theorem dX7_wipe_5 : decode cX7_wipe 5 = .ok (.aload_n 0, 1) := by decide +kernel
theorem dX7_wipe_6 : decode cX7_wipe 6 = .ok (.iconst 0, 1) := by decide +kernel
theorem dX7_wipe_7 : decode cX7_wipe 7 = .ok (.putfield 18, 3) := by decide +kernel
theorem dX7_wipe_10 : decode cX7_wipe 10 = .ok (.iload_n 1, 1) := by decide +kernel
theorem dX7_wipe_11 : decode cX7_wipe 11 = .ok (.ireturn, 1) := by decide +kernel
theorem dX7_read_0 : decode cX7_read 0 = .ok (.aload_n 0, 1) := by decide +kernel
theorem dX7_read_1 : decode cX7_read 1 = .ok (.iconst 0, 1) := by decide +kernel
theorem dX7_read_2 : decode cX7_read 2 = .ok (.putfield 22, 3) := by decide +kernel
theorem dX7_read_5 : decode cX7_read 5 = .ok (.aload_n 0, 1) := by decide +kernel
theorem dX7_read_6 : decode cX7_read 6 = .ok (.iconst 0, 1) := by decide +kernel
theorem dX7_read_7 : decode cX7_read 7 = .ok (.putfield 25, 3) := by decide +kernel
theorem dX7_read_10 : decode cX7_read 10 = .ok (.aload_n 0, 1) := by decide +kernel
theorem dX7_read_11 : decode cX7_read 11 = .ok (.iconst 0, 1) := by decide +kernel
theorem dX7_read_12 : decode cX7_read 12 = .ok (.putfield 35, 3) := by decide +kernel
theorem dX7_read_15 : decode cX7_read 15 = .ok (.iconst 0, 1) := by decide +kernel
theorem dX7_read_16 : decode cX7_read 16 = .ok (.istore_n 1, 1) := by decide +kernel
theorem dX7_read_17 : decode cX7_read 17 = .ok (.iload_n 1, 1) := by decide +kernel
theorem dX7_read_18 : decode cX7_read 18 = .ok (.aload_n 0, 1) := by decide +kernel
theorem dX7_read_19 : decode cX7_read 19 = .ok (.getfield 18, 3) := by decide +kernel
theorem dX7_read_22 : decode cX7_read 22 = .ok (.if_icmp .ge 31, 3) := by decide +kernel
theorem dX7_read_25 : decode cX7_read 25 = .ok (.iload_n 1, 1) := by decide +kernel
theorem dX7_read_26 : decode cX7_read 26 = .ok (.sipush 150, 3) := by decide +kernel
theorem dX7_read_29 : decode cX7_read 29 = .ok (.if_icmp .ge 24, 3) := by decide +kernel
theorem dX7_read_32 : decode cX7_read 32 = .ok (.aload_n 0, 1) := by decide +kernel
theorem dX7_read_33 : decode cX7_read 33 = .ok (.aload_n 0, 1) := by decide +kernel
theorem dX7_read_34 : decode cX7_read 34 = .ok (.getfield 9, 3) := by decide +kernel
theorem dX7_read_37 : decode cX7_read 37 = .ok (.iload_n 1, 1) := by decide +kernel
theorem dX7_read_38 : decode cX7_read 38 = .ok (.iaload, 1) := by decide +kernel
theorem dX7_read_39 : decode cX7_read 39 = .ok (.invokevirtual 38, 3) := by decide +kernel
theorem dX7_read_42 : decode cX7_read 42 = .ok (.ifCond .ne 5, 3) := by decide +kernel
theorem dX7_read_45 : decode cX7_read 45 = .ok (.iload_n 1, 1) := by decide +kernel
theorem dX7_read_46 : decode cX7_read 46 = .ok (.ireturn, 1) := by decide +kernel
theorem dX7_read_47 : decode cX7_read 47 = .ok (.iinc 1 1, 3) := by decide +kernel
theorem dX7_read_50 : decode cX7_read 50 = .ok (.goto (-33), 3) := by decide +kernel
theorem dX7_read_53 : decode cX7_read 53 = .ok (.aload_n 0, 1) := by decide +kernel
theorem dX7_read_54 : decode cX7_read 54 = .ok (.getfield 25, 3) := by decide +kernel
theorem dX7_read_57 : decode cX7_read 57 = .ok (.ifCond .ne 10, 3) := by decide +kernel
theorem dX7_read_60 : decode cX7_read 60 = .ok (.aload_n 0, 1) := by decide +kernel
theorem dX7_read_61 : decode cX7_read 61 = .ok (.getfield 22, 3) := by decide +kernel
theorem dX7_read_64 : decode cX7_read 64 = .ok (.ifCond .ne 10, 3) := by decide +kernel
theorem dX7_read_67 : decode cX7_read 67 = .ok (.aload_n 0, 1) := by decide +kernel
theorem dX7_read_68 : decode cX7_read 68 = .ok (.getfield 18, 3) := by decide +kernel
theorem dX7_read_71 : decode cX7_read 71 = .ok (.goto 4, 3) := by decide +kernel
theorem dX7_read_74 : decode cX7_read 74 = .ok (.iconst (-1), 1) := by decide +kernel
theorem dX7_read_75 : decode cX7_read 75 = .ok (.ireturn, 1) := by decide +kernel
theorem dX7_takes_0 : decode cX7_takes 0 = .ok (.iload_n 1, 1) := by decide +kernel
theorem dX7_takes_1 : decode cX7_takes 1 = .ok (.bipush 32, 2) := by decide +kernel
theorem dX7_takes_3 : decode cX7_takes 3 = .ok (.if_icmp .ne 10, 3) := by decide +kernel
theorem dX7_takes_6 : decode cX7_takes 6 = .ok (.aload_n 0, 1) := by decide +kernel
theorem dX7_takes_7 : decode cX7_takes 7 = .ok (.iconst 0, 1) := by decide +kernel
theorem dX7_takes_8 : decode cX7_takes 8 = .ok (.putfield 35, 3) := by decide +kernel
theorem dX7_takes_11 : decode cX7_takes 11 = .ok (.iconst 1, 1) := by decide +kernel
theorem dX7_takes_12 : decode cX7_takes 12 = .ok (.ireturn, 1) := by decide +kernel
theorem dX7_takes_13 : decode cX7_takes 13 = .ok (.aload_n 0, 1) := by decide +kernel
theorem dX7_takes_14 : decode cX7_takes 14 = .ok (.getfield 25, 3) := by decide +kernel
theorem dX7_takes_17 : decode cX7_takes 17 = .ok (.ifCond .ne 9, 3) := by decide +kernel
theorem dX7_takes_20 : decode cX7_takes 20 = .ok (.aload_n 0, 1) := by decide +kernel
theorem dX7_takes_21 : decode cX7_takes 21 = .ok (.iload_n 1, 1) := by decide +kernel
theorem dX7_takes_22 : decode cX7_takes 22 = .ok (.invokevirtual 42, 3) := by decide +kernel
theorem dX7_takes_25 : decode cX7_takes 25 = .ok (.ireturn, 1) := by decide +kernel
theorem dX7_takes_26 : decode cX7_takes 26 = .ok (.iload_n 1, 1) := by decide +kernel
theorem dX7_takes_27 : decode cX7_takes 27 = .ok (.bipush 48, 2) := by decide +kernel
theorem dX7_takes_29 : decode cX7_takes 29 = .ok (.if_icmp .lt 18, 3) := by decide +kernel
theorem dX7_takes_32 : decode cX7_takes 32 = .ok (.iload_n 1, 1) := by decide +kernel
theorem dX7_takes_33 : decode cX7_takes 33 = .ok (.bipush 57, 2) := by decide +kernel
theorem dX7_takes_35 : decode cX7_takes 35 = .ok (.if_icmp .gt 12, 3) := by decide +kernel
theorem dX7_takes_38 : decode cX7_takes 38 = .ok (.aload_n 0, 1) := by decide +kernel
theorem dX7_takes_39 : decode cX7_takes 39 = .ok (.iload_n 1, 1) := by decide +kernel
theorem dX7_takes_40 : decode cX7_takes 40 = .ok (.bipush 48, 2) := by decide +kernel
theorem dX7_takes_42 : decode cX7_takes 42 = .ok (.isub, 1) := by decide +kernel
theorem dX7_takes_43 : decode cX7_takes 43 = .ok (.invokevirtual 45, 3) := by decide +kernel
theorem dX7_takes_46 : decode cX7_takes 46 = .ok (.ireturn, 1) := by decide +kernel
theorem dX7_takes_47 : decode cX7_takes 47 = .ok (.iload_n 1, 1) := by decide +kernel
theorem dX7_takes_48 : decode cX7_takes 48 = .ok (.bipush 59, 2) := by decide +kernel
theorem dX7_takes_50 : decode cX7_takes 50 = .ok (.if_icmp .ne 14, 3) := by decide +kernel
theorem dX7_takes_53 : decode cX7_takes 53 = .ok (.aload_n 0, 1) := by decide +kernel
theorem dX7_takes_54 : decode cX7_takes 54 = .ok (.invokevirtual 48, 3) := by decide +kernel
theorem dX7_takes_57 : decode cX7_takes 57 = .ok (.ifCond .eq 7, 3) := by decide +kernel
theorem dX7_takes_60 : decode cX7_takes 60 = .ok (.iconst 1, 1) := by decide +kernel
theorem dX7_takes_61 : decode cX7_takes 61 = .ok (.goto 4, 3) := by decide +kernel
theorem dX7_takes_64 : decode cX7_takes 64 = .ok (.iconst 0, 1) := by decide +kernel
theorem dX7_takes_65 : decode cX7_takes 65 = .ok (.ireturn, 1) := by decide +kernel
theorem dX7_opens_0 : decode cX7_opens 0 = .ok (.iload_n 1, 1) := by decide +kernel
theorem dX7_opens_1 : decode cX7_opens 1 = .ok (.invokestatic 52, 3) := by decide +kernel
theorem dX7_opens_4 : decode cX7_opens 4 = .ok (.istore_n 2, 1) := by decide +kernel
theorem dX7_opens_5 : decode cX7_opens 5 = .ok (.iload_n 2, 1) := by decide +kernel
theorem dX7_opens_6 : decode cX7_opens 6 = .ok (.iconst (-1), 1) := by decide +kernel
theorem dX7_opens_7 : decode cX7_opens 7 = .ok (.if_icmp .ne 5, 3) := by decide +kernel
theorem dX7_opens_10 : decode cX7_opens 10 = .ok (.iconst 0, 1) := by decide +kernel
theorem dX7_opens_11 : decode cX7_opens 11 = .ok (.ireturn, 1) := by decide +kernel
theorem dX7_opens_12 : decode cX7_opens 12 = .ok (.aload_n 0, 1) := by decide +kernel
theorem dX7_opens_13 : decode cX7_opens 13 = .ok (.iconst 1, 1) := by decide +kernel
theorem dX7_opens_14 : decode cX7_opens 14 = .ok (.putfield 25, 3) := by decide +kernel
theorem dX7_opens_17 : decode cX7_opens 17 = .ok (.aload_n 0, 1) := by decide +kernel
theorem dX7_opens_18 : decode cX7_opens 18 = .ok (.iload_n 2, 1) := by decide +kernel
theorem dX7_opens_19 : decode cX7_opens 19 = .ok (.putfield 29, 3) := by decide +kernel
theorem dX7_opens_22 : decode cX7_opens 22 = .ok (.aload_n 0, 1) := by decide +kernel
theorem dX7_opens_23 : decode cX7_opens 23 = .ok (.iconst 0, 1) := by decide +kernel
theorem dX7_opens_24 : decode cX7_opens 24 = .ok (.putfield 32, 3) := by decide +kernel
theorem dX7_opens_27 : decode cX7_opens 27 = .ok (.aload_n 0, 1) := by decide +kernel
theorem dX7_opens_28 : decode cX7_opens 28 = .ok (.aload_n 0, 1) := by decide +kernel
theorem dX7_opens_29 : decode cX7_opens 29 = .ok (.getfield 22, 3) := by decide +kernel
theorem dX7_opens_32 : decode cX7_opens 32 = .ok (.iconst 0, 1) := by decide +kernel
theorem dX7_opens_33 : decode cX7_opens 33 = .ok (.iload_n 1, 1) := by decide +kernel
theorem dX7_opens_34 : decode cX7_opens 34 = .ok (.invokevirtual 56, 3) := by decide +kernel
theorem dX7_opens_37 : decode cX7_opens 37 = .ok (.iconst 1, 1) := by decide +kernel
theorem dX7_opens_38 : decode cX7_opens 38 = .ok (.ireturn, 1) := by decide +kernel
theorem dX7_numbersOf_0 : decode cX7_numbersOf 0 = .ok (.iload_n 0, 1) := by decide +kernel
theorem dX7_numbersOf_1 : decode cX7_numbersOf 1 = .ok (.tableswitch 99 97 114 #[87, 99, 99, 93, 91, 97, 99, 99, 99, 99, 99, 99, 89, 99, 99, 95, 99, 91], 87) := by decide +kernel
theorem dX7_numbersOf_88 : decode cX7_numbersOf 88 = .ok (.iconst 5, 1) := by decide +kernel
theorem dX7_numbersOf_89 : decode cX7_numbersOf 89 = .ok (.ireturn, 1) := by decide +kernel
theorem dX7_numbersOf_90 : decode cX7_numbersOf 90 = .ok (.iconst 4, 1) := by decide +kernel
theorem dX7_numbersOf_91 : decode cX7_numbersOf 91 = .ok (.ireturn, 1) := by decide +kernel
theorem dX7_numbersOf_92 : decode cX7_numbersOf 92 = .ok (.iconst 3, 1) := by decide +kernel
theorem dX7_numbersOf_93 : decode cX7_numbersOf 93 = .ok (.ireturn, 1) := by decide +kernel
theorem dX7_numbersOf_94 : decode cX7_numbersOf 94 = .ok (.iconst 2, 1) := by decide +kernel
theorem dX7_numbersOf_95 : decode cX7_numbersOf 95 = .ok (.ireturn, 1) := by decide +kernel
theorem dX7_numbersOf_96 : decode cX7_numbersOf 96 = .ok (.iconst 1, 1) := by decide +kernel
theorem dX7_numbersOf_97 : decode cX7_numbersOf 97 = .ok (.ireturn, 1) := by decide +kernel
theorem dX7_numbersOf_98 : decode cX7_numbersOf 98 = .ok (.iconst 0, 1) := by decide +kernel
theorem dX7_numbersOf_99 : decode cX7_numbersOf 99 = .ok (.ireturn, 1) := by decide +kernel
theorem dX7_numbersOf_100 : decode cX7_numbersOf 100 = .ok (.iconst (-1), 1) := by decide +kernel
theorem dX7_numbersOf_101 : decode cX7_numbersOf 101 = .ok (.ireturn, 1) := by decide +kernel
theorem dX7_takesFigure_0 : decode cX7_takesFigure 0 = .ok (.aload_n 0, 1) := by decide +kernel
theorem dX7_takesFigure_1 : decode cX7_takesFigure 1 = .ok (.getfield 35, 3) := by decide +kernel
theorem dX7_takesFigure_4 : decode cX7_takesFigure 4 = .ok (.ifCond .ne 39, 3) := by decide +kernel
theorem dX7_takesFigure_7 : decode cX7_takesFigure 7 = .ok (.aload_n 0, 1) := by decide +kernel
theorem dX7_takesFigure_8 : decode cX7_takesFigure 8 = .ok (.getfield 32, 3) := by decide +kernel
theorem dX7_takesFigure_11 : decode cX7_takesFigure 11 = .ok (.aload_n 0, 1) := by decide +kernel
theorem dX7_takesFigure_12 : decode cX7_takesFigure 12 = .ok (.getfield 29, 3) := by decide +kernel
theorem dX7_takesFigure_15 : decode cX7_takesFigure 15 = .ok (.if_icmp .ne 5, 3) := by decide +kernel
theorem dX7_takesFigure_18 : decode cX7_takesFigure 18 = .ok (.iconst 0, 1) := by decide +kernel
theorem dX7_takesFigure_19 : decode cX7_takesFigure 19 = .ok (.ireturn, 1) := by decide +kernel
theorem dX7_takesFigure_20 : decode cX7_takesFigure 20 = .ok (.aload_n 0, 1) := by decide +kernel
theorem dX7_takesFigure_21 : decode cX7_takesFigure 21 = .ok (.dup, 1) := by decide +kernel
theorem dX7_takesFigure_22 : decode cX7_takesFigure 22 = .ok (.getfield 32, 3) := by decide +kernel
theorem dX7_takesFigure_25 : decode cX7_takesFigure 25 = .ok (.iconst 1, 1) := by decide +kernel
theorem dX7_takesFigure_26 : decode cX7_takesFigure 26 = .ok (.iadd, 1) := by decide +kernel
theorem dX7_takesFigure_27 : decode cX7_takesFigure 27 = .ok (.putfield 32, 3) := by decide +kernel
theorem dX7_takesFigure_30 : decode cX7_takesFigure 30 = .ok (.aload_n 0, 1) := by decide +kernel
theorem dX7_takesFigure_31 : decode cX7_takesFigure 31 = .ok (.aload_n 0, 1) := by decide +kernel
theorem dX7_takesFigure_32 : decode cX7_takesFigure 32 = .ok (.getfield 22, 3) := by decide +kernel
theorem dX7_takesFigure_35 : decode cX7_takesFigure 35 = .ok (.aload_n 0, 1) := by decide +kernel
theorem dX7_takesFigure_36 : decode cX7_takesFigure 36 = .ok (.getfield 32, 3) := by decide +kernel
theorem dX7_takesFigure_39 : decode cX7_takesFigure 39 = .ok (.iconst 0, 1) := by decide +kernel
theorem dX7_takesFigure_40 : decode cX7_takesFigure 40 = .ok (.invokevirtual 56, 3) := by decide +kernel
theorem dX7_takesFigure_43 : decode cX7_takesFigure 43 = .ok (.aload_n 0, 1) := by decide +kernel
theorem dX7_takesFigure_44 : decode cX7_takesFigure 44 = .ok (.getfield 35, 3) := by decide +kernel
theorem dX7_takesFigure_47 : decode cX7_takesFigure 47 = .ok (.iconst 2, 1) := by decide +kernel
theorem dX7_takesFigure_48 : decode cX7_takesFigure 48 = .ok (.if_icmp .ne 5, 3) := by decide +kernel
theorem dX7_takesFigure_51 : decode cX7_takesFigure 51 = .ok (.iconst 0, 1) := by decide +kernel
theorem dX7_takesFigure_52 : decode cX7_takesFigure 52 = .ok (.ireturn, 1) := by decide +kernel
theorem dX7_takesFigure_53 : decode cX7_takesFigure 53 = .ok (.aload_n 0, 1) := by decide +kernel
theorem dX7_takesFigure_54 : decode cX7_takesFigure 54 = .ok (.dup, 1) := by decide +kernel
theorem dX7_takesFigure_55 : decode cX7_takesFigure 55 = .ok (.getfield 35, 3) := by decide +kernel
theorem dX7_takesFigure_58 : decode cX7_takesFigure 58 = .ok (.iconst 1, 1) := by decide +kernel
theorem dX7_takesFigure_59 : decode cX7_takesFigure 59 = .ok (.iadd, 1) := by decide +kernel
theorem dX7_takesFigure_60 : decode cX7_takesFigure 60 = .ok (.putfield 35, 3) := by decide +kernel
theorem dX7_takesFigure_63 : decode cX7_takesFigure 63 = .ok (.aload_n 0, 1) := by decide +kernel
theorem dX7_takesFigure_64 : decode cX7_takesFigure 64 = .ok (.aload_n 0, 1) := by decide +kernel
theorem dX7_takesFigure_65 : decode cX7_takesFigure 65 = .ok (.getfield 22, 3) := by decide +kernel
theorem dX7_takesFigure_68 : decode cX7_takesFigure 68 = .ok (.aload_n 0, 1) := by decide +kernel
theorem dX7_takesFigure_69 : decode cX7_takesFigure 69 = .ok (.getfield 32, 3) := by decide +kernel
theorem dX7_takesFigure_72 : decode cX7_takesFigure 72 = .ok (.bipush 10, 2) := by decide +kernel
theorem dX7_takesFigure_74 : decode cX7_takesFigure 74 = .ok (.aload_n 0, 1) := by decide +kernel
theorem dX7_takesFigure_75 : decode cX7_takesFigure 75 = .ok (.aload_n 0, 1) := by decide +kernel
theorem dX7_takesFigure_76 : decode cX7_takesFigure 76 = .ok (.getfield 22, 3) := by decide +kernel
theorem dX7_takesFigure_79 : decode cX7_takesFigure 79 = .ok (.aload_n 0, 1) := by decide +kernel
theorem dX7_takesFigure_80 : decode cX7_takesFigure 80 = .ok (.getfield 32, 3) := by decide +kernel
theorem dX7_takesFigure_83 : decode cX7_takesFigure 83 = .ok (.invokevirtual 60, 3) := by decide +kernel
theorem dX7_takesFigure_86 : decode cX7_takesFigure 86 = .ok (.imul, 1) := by decide +kernel
theorem dX7_takesFigure_87 : decode cX7_takesFigure 87 = .ok (.iload_n 1, 1) := by decide +kernel
theorem dX7_takesFigure_88 : decode cX7_takesFigure 88 = .ok (.iadd, 1) := by decide +kernel
theorem dX7_takesFigure_89 : decode cX7_takesFigure 89 = .ok (.invokevirtual 56, 3) := by decide +kernel
theorem dX7_takesFigure_92 : decode cX7_takesFigure 92 = .ok (.iconst 1, 1) := by decide +kernel
theorem dX7_takesFigure_93 : decode cX7_takesFigure 93 = .ok (.ireturn, 1) := by decide +kernel
theorem dX7_closes_0 : decode cX7_closes 0 = .ok (.aload_n 0, 1) := by decide +kernel
theorem dX7_closes_1 : decode cX7_closes 1 = .ok (.getfield 32, 3) := by decide +kernel
theorem dX7_closes_4 : decode cX7_closes 4 = .ok (.aload_n 0, 1) := by decide +kernel
theorem dX7_closes_5 : decode cX7_closes 5 = .ok (.getfield 29, 3) := by decide +kernel
theorem dX7_closes_8 : decode cX7_closes 8 = .ok (.if_icmp .eq 5, 3) := by decide +kernel
theorem dX7_closes_11 : decode cX7_closes 11 = .ok (.iconst 0, 1) := by decide +kernel
theorem dX7_closes_12 : decode cX7_closes 12 = .ok (.ireturn, 1) := by decide +kernel
theorem dX7_closes_13 : decode cX7_closes 13 = .ok (.aload_n 0, 1) := by decide +kernel
theorem dX7_closes_14 : decode cX7_closes 14 = .ok (.iconst 0, 1) := by decide +kernel
theorem dX7_closes_15 : decode cX7_closes 15 = .ok (.putfield 25, 3) := by decide +kernel
theorem dX7_closes_18 : decode cX7_closes 18 = .ok (.aload_n 0, 1) := by decide +kernel
theorem dX7_closes_19 : decode cX7_closes 19 = .ok (.iconst 0, 1) := by decide +kernel
theorem dX7_closes_20 : decode cX7_closes 20 = .ok (.putfield 35, 3) := by decide +kernel
theorem dX7_closes_23 : decode cX7_closes 23 = .ok (.aload_n 0, 1) := by decide +kernel
theorem dX7_closes_24 : decode cX7_closes 24 = .ok (.dup, 1) := by decide +kernel
theorem dX7_closes_25 : decode cX7_closes 25 = .ok (.getfield 22, 3) := by decide +kernel
theorem dX7_closes_28 : decode cX7_closes 28 = .ok (.iconst 1, 1) := by decide +kernel
theorem dX7_closes_29 : decode cX7_closes 29 = .ok (.iadd, 1) := by decide +kernel
theorem dX7_closes_30 : decode cX7_closes 30 = .ok (.putfield 22, 3) := by decide +kernel
theorem dX7_closes_33 : decode cX7_closes 33 = .ok (.iconst 1, 1) := by decide +kernel
theorem dX7_closes_34 : decode cX7_closes 34 = .ok (.ireturn, 1) := by decide +kernel
theorem dX7_put_0 : decode cX7_put 0 = .ok (.iload_n 1, 1) := by decide +kernel
theorem dX7_put_1 : decode cX7_put 1 = .ok (.iload_n 2, 1) := by decide +kernel
theorem dX7_put_2 : decode cX7_put 2 = .ok (.invokestatic 64, 3) := by decide +kernel
theorem dX7_put_5 : decode cX7_put 5 = .ok (.ifCond .eq 15, 3) := by decide +kernel
theorem dX7_put_8 : decode cX7_put 8 = .ok (.aload_n 0, 1) := by decide +kernel
theorem dX7_put_9 : decode cX7_put 9 = .ok (.getfield 15, 3) := by decide +kernel
theorem dX7_put_12 : decode cX7_put 12 = .ok (.iload_n 1, 1) := by decide +kernel
theorem dX7_put_13 : decode cX7_put 13 = .ok (.bipush 6, 2) := by decide +kernel
theorem dX7_put_15 : decode cX7_put 15 = .ok (.imul, 1) := by decide +kernel
theorem dX7_put_16 : decode cX7_put 16 = .ok (.iload_n 2, 1) := by decide +kernel
theorem dX7_put_17 : decode cX7_put 17 = .ok (.iadd, 1) := by decide +kernel
theorem dX7_put_18 : decode cX7_put 18 = .ok (.iload_n 3, 1) := by decide +kernel
theorem dX7_put_19 : decode cX7_put 19 = .ok (.iastore, 1) := by decide +kernel
theorem dX7_put_20 : decode cX7_put 20 = .ok (.return_, 1) := by decide +kernel
theorem dX7_cell_0 : decode cX7_cell 0 = .ok (.iload_n 1, 1) := by decide +kernel
theorem dX7_cell_1 : decode cX7_cell 1 = .ok (.iload_n 2, 1) := by decide +kernel
theorem dX7_cell_2 : decode cX7_cell 2 = .ok (.invokestatic 64, 3) := by decide +kernel
theorem dX7_cell_5 : decode cX7_cell 5 = .ok (.ifCond .eq 17, 3) := by decide +kernel
theorem dX7_cell_8 : decode cX7_cell 8 = .ok (.aload_n 0, 1) := by decide +kernel
theorem dX7_cell_9 : decode cX7_cell 9 = .ok (.getfield 15, 3) := by decide +kernel
theorem dX7_cell_12 : decode cX7_cell 12 = .ok (.iload_n 1, 1) := by decide +kernel
theorem dX7_cell_13 : decode cX7_cell 13 = .ok (.bipush 6, 2) := by decide +kernel
theorem dX7_cell_15 : decode cX7_cell 15 = .ok (.imul, 1) := by decide +kernel
theorem dX7_cell_16 : decode cX7_cell 16 = .ok (.iload_n 2, 1) := by decide +kernel
theorem dX7_cell_17 : decode cX7_cell 17 = .ok (.iadd, 1) := by decide +kernel
theorem dX7_cell_18 : decode cX7_cell 18 = .ok (.iaload, 1) := by decide +kernel
theorem dX7_cell_19 : decode cX7_cell 19 = .ok (.goto 4, 3) := by decide +kernel
theorem dX7_cell_22 : decode cX7_cell 22 = .ok (.iconst (-1), 1) := by decide +kernel
theorem dX7_cell_23 : decode cX7_cell 23 = .ok (.ireturn, 1) := by decide +kernel
theorem dX7_isCell_0 : decode cX7_isCell 0 = .ok (.iload_n 0, 1) := by decide +kernel
theorem dX7_isCell_1 : decode cX7_isCell 1 = .ok (.ifCond .lt 23, 3) := by decide +kernel
theorem dX7_isCell_4 : decode cX7_isCell 4 = .ok (.iload_n 0, 1) := by decide +kernel
theorem dX7_isCell_5 : decode cX7_isCell 5 = .ok (.bipush 75, 2) := by decide +kernel
theorem dX7_isCell_7 : decode cX7_isCell 7 = .ok (.if_icmp .ge 17, 3) := by decide +kernel
theorem dX7_isCell_10 : decode cX7_isCell 10 = .ok (.iload_n 1, 1) := by decide +kernel
theorem dX7_isCell_11 : decode cX7_isCell 11 = .ok (.ifCond .lt 13, 3) := by decide +kernel
theorem dX7_isCell_14 : decode cX7_isCell 14 = .ok (.iload_n 1, 1) := by decide +kernel
theorem dX7_isCell_15 : decode cX7_isCell 15 = .ok (.bipush 6, 2) := by decide +kernel
theorem dX7_isCell_17 : decode cX7_isCell 17 = .ok (.if_icmp .ge 7, 3) := by decide +kernel
theorem dX7_isCell_20 : decode cX7_isCell 20 = .ok (.iconst 1, 1) := by decide +kernel
theorem dX7_isCell_21 : decode cX7_isCell 21 = .ok (.goto 4, 3) := by decide +kernel
theorem dX7_isCell_24 : decode cX7_isCell 24 = .ok (.iconst 0, 1) := by decide +kernel
theorem dX7_isCell_25 : decode cX7_isCell 25 = .ok (.ireturn, 1) := by decide +kernel
theorem dX8_init_0 : decode cX8_init 0 = .ok (.aload_n 0, 1) := by decide +kernel
theorem dX8_init_1 : decode cX8_init 1 = .ok (.invokespecial 3, 3) := by decide +kernel
theorem dX8_init_4 : decode cX8_init 4 = .ok (.aload_n 0, 1) := by decide +kernel
theorem dX8_init_5 : decode cX8_init 5 = .ok (.new 9, 3) := by decide +kernel
theorem dX8_init_8 : decode cX8_init 8 = .ok (.dup, 1) := by decide +kernel
theorem dX8_init_9 : decode cX8_init 9 = .ok (.invokespecial 11, 3) := by decide +kernel
theorem dX8_init_12 : decode cX8_init 12 = .ok (.putfield 12, 3) := by decide +kernel
theorem dX8_init_15 : decode cX8_init 15 = .ok (.aload_n 0, 1) := by decide +kernel
theorem dX8_init_16 : decode cX8_init 16 = .ok (.new 9, 3) := by decide +kernel
theorem dX8_init_19 : decode cX8_init 19 = .ok (.dup, 1) := by decide +kernel
theorem dX8_init_20 : decode cX8_init 20 = .ok (.invokespecial 11, 3) := by decide +kernel
theorem dX8_init_23 : decode cX8_init 23 = .ok (.putfield 16, 3) := by decide +kernel
theorem dX8_init_26 : decode cX8_init 26 = .ok (.aload_n 0, 1) := by decide +kernel
theorem dX8_init_27 : decode cX8_init 27 = .ok (.new 19, 3) := by decide +kernel
theorem dX8_init_30 : decode cX8_init 30 = .ok (.dup, 1) := by decide +kernel
theorem dX8_init_31 : decode cX8_init 31 = .ok (.invokespecial 21, 3) := by decide +kernel
theorem dX8_init_34 : decode cX8_init 34 = .ok (.putfield 22, 3) := by decide +kernel
theorem dX8_init_37 : decode cX8_init 37 = .ok (.aload_n 0, 1) := by decide +kernel
theorem dX8_init_38 : decode cX8_init 38 = .ok (.new 26, 3) := by decide +kernel
theorem dX8_init_41 : decode cX8_init 41 = .ok (.dup, 1) := by decide +kernel
theorem dX8_init_42 : decode cX8_init 42 = .ok (.invokespecial 28, 3) := by decide +kernel
theorem dX8_init_45 : decode cX8_init 45 = .ok (.putfield 29, 3) := by decide +kernel
theorem dX8_init_48 : decode cX8_init 48 = .ok (.aload_n 0, 1) := by decide +kernel
theorem dX8_init_49 : decode cX8_init 49 = .ok (.new 33, 3) := by decide +kernel
theorem dX8_init_52 : decode cX8_init 52 = .ok (.dup, 1) := by decide +kernel
theorem dX8_init_53 : decode cX8_init 53 = .ok (.invokespecial 35, 3) := by decide +kernel
theorem dX8_init_56 : decode cX8_init 56 = .ok (.putfield 36, 3) := by decide +kernel
theorem dX8_init_59 : decode cX8_init 59 = .ok (.aload_n 0, 1) := by decide +kernel
theorem dX8_init_60 : decode cX8_init 60 = .ok (.new 40, 3) := by decide +kernel
theorem dX8_init_63 : decode cX8_init 63 = .ok (.dup, 1) := by decide +kernel
theorem dX8_init_64 : decode cX8_init 64 = .ok (.invokespecial 42, 3) := by decide +kernel
theorem dX8_init_67 : decode cX8_init 67 = .ok (.putfield 43, 3) := by decide +kernel
theorem dX8_init_70 : decode cX8_init 70 = .ok (.aload_n 0, 1) := by decide +kernel
theorem dX8_init_71 : decode cX8_init 71 = .ok (.new 47, 3) := by decide +kernel
theorem dX8_init_74 : decode cX8_init 74 = .ok (.dup, 1) := by decide +kernel
theorem dX8_init_75 : decode cX8_init 75 = .ok (.invokespecial 49, 3) := by decide +kernel
theorem dX8_init_78 : decode cX8_init 78 = .ok (.putfield 50, 3) := by decide +kernel
theorem dX8_init_81 : decode cX8_init 81 = .ok (.aload_n 0, 1) := by decide +kernel
theorem dX8_init_82 : decode cX8_init 82 = .ok (.iconst 0, 1) := by decide +kernel
theorem dX8_init_83 : decode cX8_init 83 = .ok (.putfield 54, 3) := by decide +kernel
theorem dX8_init_86 : decode cX8_init 86 = .ok (.aload_n 0, 1) := by decide +kernel
theorem dX8_init_87 : decode cX8_init 87 = .ok (.iconst 0, 1) := by decide +kernel
theorem dX8_init_88 : decode cX8_init 88 = .ok (.putfield 58, 3) := by decide +kernel
theorem dX8_init_91 : decode cX8_init 91 = .ok (.aload_n 0, 1) := by decide +kernel
theorem dX8_init_92 : decode cX8_init 92 = .ok (.iconst 0, 1) := by decide +kernel
theorem dX8_init_93 : decode cX8_init 93 = .ok (.putfield 61, 3) := by decide +kernel
theorem dX8_init_96 : decode cX8_init 96 = .ok (.return_, 1) := by decide +kernel
theorem dX8_adds_0 : decode cX8_adds 0 = .ok (.aload_n 0, 1) := by decide +kernel
theorem dX8_adds_1 : decode cX8_adds 1 = .ok (.getfield 16, 3) := by decide +kernel
theorem dX8_adds_4 : decode cX8_adds 4 = .ok (.aload_n 0, 1) := by decide +kernel
theorem dX8_adds_5 : decode cX8_adds 5 = .ok (.getfield 12, 3) := by decide +kernel
theorem dX8_adds_8 : decode cX8_adds 8 = .ok (.invokevirtual 64, 3) := by decide +kernel
theorem dX8_adds_11 : decode cX8_adds 11 = .ok (.aload_n 0, 1) := by decide +kernel
theorem dX8_adds_12 : decode cX8_adds 12 = .ok (.aload_n 0, 1) := by decide +kernel
theorem dX8_adds_13 : decode cX8_adds 13 = .ok (.getfield 12, 3) := by decide +kernel
theorem dX8_adds_16 : decode cX8_adds 16 = .ok (.iload_n 1, 1) := by decide +kernel
theorem dX8_adds_17 : decode cX8_adds 17 = .ok (.iload_n 2, 1) := by decide +kernel
theorem dX8_adds_18 : decode cX8_adds 18 = .ok (.iload_n 3, 1) := by decide +kernel
theorem dX8_adds_19 : decode cX8_adds 19 = .ok (.iload 4, 2) := by decide +kernel
theorem dX8_adds_21 : decode cX8_adds 21 = .ok (.iload 5, 2) := by decide +kernel
theorem dX8_adds_23 : decode cX8_adds 23 = .ok (.invokevirtual 68, 3) := by decide +kernel
theorem dX8_adds_26 : decode cX8_adds 26 = .ok (.invokevirtual 72, 3) := by decide +kernel
theorem dX8_adds_29 : decode cX8_adds 29 = .ok (.ireturn, 1) := by decide +kernel
theorem dX8_moves_0 : decode cX8_moves 0 = .ok (.aload_n 0, 1) := by decide +kernel
theorem dX8_moves_1 : decode cX8_moves 1 = .ok (.getfield 16, 3) := by decide +kernel
theorem dX8_moves_4 : decode cX8_moves 4 = .ok (.aload_n 0, 1) := by decide +kernel
theorem dX8_moves_5 : decode cX8_moves 5 = .ok (.getfield 12, 3) := by decide +kernel
theorem dX8_moves_8 : decode cX8_moves 8 = .ok (.invokevirtual 64, 3) := by decide +kernel
theorem dX8_moves_11 : decode cX8_moves 11 = .ok (.aload_n 0, 1) := by decide +kernel
theorem dX8_moves_12 : decode cX8_moves 12 = .ok (.aload_n 0, 1) := by decide +kernel
theorem dX8_moves_13 : decode cX8_moves 13 = .ok (.getfield 12, 3) := by decide +kernel
theorem dX8_moves_16 : decode cX8_moves 16 = .ok (.iload_n 1, 1) := by decide +kernel
theorem dX8_moves_17 : decode cX8_moves 17 = .ok (.iload_n 2, 1) := by decide +kernel
theorem dX8_moves_18 : decode cX8_moves 18 = .ok (.iload_n 3, 1) := by decide +kernel
theorem dX8_moves_19 : decode cX8_moves 19 = .ok (.iload 4, 2) := by decide +kernel
theorem dX8_moves_21 : decode cX8_moves 21 = .ok (.invokevirtual 76, 3) := by decide +kernel
theorem dX8_moves_24 : decode cX8_moves 24 = .ok (.invokevirtual 72, 3) := by decide +kernel
theorem dX8_moves_27 : decode cX8_moves 27 = .ok (.ireturn, 1) := by decide +kernel
theorem dX8_renames_0 : decode cX8_renames 0 = .ok (.aload_n 0, 1) := by decide +kernel
theorem dX8_renames_1 : decode cX8_renames 1 = .ok (.getfield 16, 3) := by decide +kernel
theorem dX8_renames_4 : decode cX8_renames 4 = .ok (.aload_n 0, 1) := by decide +kernel
theorem dX8_renames_5 : decode cX8_renames 5 = .ok (.getfield 12, 3) := by decide +kernel
theorem dX8_renames_8 : decode cX8_renames 8 = .ok (.invokevirtual 64, 3) := by decide +kernel
theorem dX8_renames_11 : decode cX8_renames 11 = .ok (.aload_n 0, 1) := by decide +kernel
theorem dX8_renames_12 : decode cX8_renames 12 = .ok (.aload_n 0, 1) := by decide +kernel
theorem dX8_renames_13 : decode cX8_renames 13 = .ok (.getfield 12, 3) := by decide +kernel
theorem dX8_renames_16 : decode cX8_renames 16 = .ok (.iload_n 1, 1) := by decide +kernel
theorem dX8_renames_17 : decode cX8_renames 17 = .ok (.iload_n 2, 1) := by decide +kernel
theorem dX8_renames_18 : decode cX8_renames 18 = .ok (.iconst 2, 1) := by decide +kernel
theorem dX8_renames_19 : decode cX8_renames 19 = .ok (.iload_n 3, 1) := by decide +kernel
theorem dX8_renames_20 : decode cX8_renames 20 = .ok (.invokevirtual 80, 3) := by decide +kernel
theorem dX8_renames_23 : decode cX8_renames 23 = .ok (.invokevirtual 72, 3) := by decide +kernel
theorem dX8_renames_26 : decode cX8_renames 26 = .ok (.ireturn, 1) := by decide +kernel
theorem dX8_edits_0 : decode cX8_edits 0 = .ok (.aload_n 0, 1) := by decide +kernel
theorem dX8_edits_1 : decode cX8_edits 1 = .ok (.getfield 16, 3) := by decide +kernel
theorem dX8_edits_4 : decode cX8_edits 4 = .ok (.aload_n 0, 1) := by decide +kernel
theorem dX8_edits_5 : decode cX8_edits 5 = .ok (.getfield 12, 3) := by decide +kernel
theorem dX8_edits_8 : decode cX8_edits 8 = .ok (.invokevirtual 64, 3) := by decide +kernel
theorem dX8_edits_11 : decode cX8_edits 11 = .ok (.aload_n 0, 1) := by decide +kernel
theorem dX8_edits_12 : decode cX8_edits 12 = .ok (.aload_n 0, 1) := by decide +kernel
theorem dX8_edits_13 : decode cX8_edits 13 = .ok (.getfield 12, 3) := by decide +kernel
theorem dX8_edits_16 : decode cX8_edits 16 = .ok (.iload_n 1, 1) := by decide +kernel
theorem dX8_edits_17 : decode cX8_edits 17 = .ok (.iload_n 2, 1) := by decide +kernel
theorem dX8_edits_18 : decode cX8_edits 18 = .ok (.iconst 3, 1) := by decide +kernel
theorem dX8_edits_19 : decode cX8_edits 19 = .ok (.iload_n 3, 1) := by decide +kernel
theorem dX8_edits_20 : decode cX8_edits 20 = .ok (.invokevirtual 80, 3) := by decide +kernel
theorem dX8_edits_23 : decode cX8_edits 23 = .ok (.invokevirtual 72, 3) := by decide +kernel
theorem dX8_edits_26 : decode cX8_edits 26 = .ok (.ireturn, 1) := by decide +kernel
theorem dX8_deletes_0 : decode cX8_deletes 0 = .ok (.aload_n 0, 1) := by decide +kernel
theorem dX8_deletes_1 : decode cX8_deletes 1 = .ok (.getfield 16, 3) := by decide +kernel
theorem dX8_deletes_4 : decode cX8_deletes 4 = .ok (.aload_n 0, 1) := by decide +kernel
theorem dX8_deletes_5 : decode cX8_deletes 5 = .ok (.getfield 12, 3) := by decide +kernel
theorem dX8_deletes_8 : decode cX8_deletes 8 = .ok (.invokevirtual 64, 3) := by decide +kernel
theorem dX8_deletes_11 : decode cX8_deletes 11 = .ok (.aload_n 0, 1) := by decide +kernel
theorem dX8_deletes_12 : decode cX8_deletes 12 = .ok (.aload_n 0, 1) := by decide +kernel
theorem dX8_deletes_13 : decode cX8_deletes 13 = .ok (.getfield 12, 3) := by decide +kernel
theorem dX8_deletes_16 : decode cX8_deletes 16 = .ok (.iload_n 1, 1) := by decide +kernel
theorem dX8_deletes_17 : decode cX8_deletes 17 = .ok (.iload_n 2, 1) := by decide +kernel
theorem dX8_deletes_18 : decode cX8_deletes 18 = .ok (.invokevirtual 83, 3) := by decide +kernel
theorem dX8_deletes_21 : decode cX8_deletes 21 = .ok (.invokevirtual 72, 3) := by decide +kernel
theorem dX8_deletes_24 : decode cX8_deletes 24 = .ok (.ireturn, 1) := by decide +kernel
theorem dX8_forks_0 : decode cX8_forks 0 = .ok (.aload_n 0, 1) := by decide +kernel
theorem dX8_forks_1 : decode cX8_forks 1 = .ok (.getfield 16, 3) := by decide +kernel
theorem dX8_forks_4 : decode cX8_forks 4 = .ok (.aload_n 0, 1) := by decide +kernel
theorem dX8_forks_5 : decode cX8_forks 5 = .ok (.getfield 12, 3) := by decide +kernel
theorem dX8_forks_8 : decode cX8_forks 8 = .ok (.invokevirtual 64, 3) := by decide +kernel
theorem dX8_forks_11 : decode cX8_forks 11 = .ok (.aload_n 0, 1) := by decide +kernel
theorem dX8_forks_12 : decode cX8_forks 12 = .ok (.aload_n 0, 1) := by decide +kernel
theorem dX8_forks_13 : decode cX8_forks 13 = .ok (.getfield 12, 3) := by decide +kernel
theorem dX8_forks_16 : decode cX8_forks 16 = .ok (.invokevirtual 87, 3) := by decide +kernel
theorem dX8_forks_19 : decode cX8_forks 19 = .ok (.invokevirtual 72, 3) := by decide +kernel
theorem dX8_forks_22 : decode cX8_forks 22 = .ok (.ireturn, 1) := by decide +kernel
theorem dX8_prefers_0 : decode cX8_prefers 0 = .ok (.aload_n 0, 1) := by decide +kernel
theorem dX8_prefers_1 : decode cX8_prefers 1 = .ok (.getfield 16, 3) := by decide +kernel
theorem dX8_prefers_4 : decode cX8_prefers 4 = .ok (.aload_n 0, 1) := by decide +kernel
theorem dX8_prefers_5 : decode cX8_prefers 5 = .ok (.getfield 12, 3) := by decide +kernel
theorem dX8_prefers_8 : decode cX8_prefers 8 = .ok (.invokevirtual 64, 3) := by decide +kernel
theorem dX8_prefers_11 : decode cX8_prefers 11 = .ok (.aload_n 0, 1) := by decide +kernel
theorem dX8_prefers_12 : decode cX8_prefers 12 = .ok (.aload_n 0, 1) := by decide +kernel
theorem dX8_prefers_13 : decode cX8_prefers 13 = .ok (.getfield 12, 3) := by decide +kernel
theorem dX8_prefers_16 : decode cX8_prefers 16 = .ok (.iload_n 1, 1) := by decide +kernel
theorem dX8_prefers_17 : decode cX8_prefers 17 = .ok (.invokevirtual 91, 3) := by decide +kernel
theorem dX8_prefers_20 : decode cX8_prefers 20 = .ok (.invokevirtual 72, 3) := by decide +kernel
theorem dX8_prefers_23 : decode cX8_prefers 23 = .ok (.ireturn, 1) := by decide +kernel
theorem dX8_adopts_0 : decode cX8_adopts 0 = .ok (.aload_n 0, 1) := by decide +kernel
theorem dX8_adopts_1 : decode cX8_adopts 1 = .ok (.getfield 16, 3) := by decide +kernel
theorem dX8_adopts_4 : decode cX8_adopts 4 = .ok (.aload_n 0, 1) := by decide +kernel
theorem dX8_adopts_5 : decode cX8_adopts 5 = .ok (.getfield 12, 3) := by decide +kernel
theorem dX8_adopts_8 : decode cX8_adopts 8 = .ok (.invokevirtual 64, 3) := by decide +kernel
theorem dX8_adopts_11 : decode cX8_adopts 11 = .ok (.aload_n 0, 1) := by decide +kernel
theorem dX8_adopts_12 : decode cX8_adopts 12 = .ok (.aload_n 0, 1) := by decide +kernel
theorem dX8_adopts_13 : decode cX8_adopts 13 = .ok (.getfield 12, 3) := by decide +kernel
theorem dX8_adopts_16 : decode cX8_adopts 16 = .ok (.aload_n 0, 1) := by decide +kernel
theorem dX8_adopts_17 : decode cX8_adopts 17 = .ok (.iconst 3, 1) := by decide +kernel
theorem dX8_adopts_18 : decode cX8_adopts 18 = .ok (.invokevirtual 94, 3) := by decide +kernel
theorem dX8_adopts_21 : decode cX8_adopts 21 = .ok (.invokevirtual 98, 3) := by decide +kernel
theorem dX8_adopts_24 : decode cX8_adopts 24 = .ok (.invokevirtual 72, 3) := by decide +kernel
theorem dX8_adopts_27 : decode cX8_adopts 27 = .ok (.ireturn, 1) := by decide +kernel
theorem dX8_has_0 : decode cX8_has 0 = .ok (.iload_n 1, 1) := by decide +kernel
theorem dX8_has_1 : decode cX8_has 1 = .ok (.invokestatic 102, 3) := by decide +kernel
theorem dX8_has_4 : decode cX8_has 4 = .ok (.ifCond .eq 10, 3) := by decide +kernel
theorem dX8_has_7 : decode cX8_has 7 = .ok (.iload_n 2, 1) := by decide +kernel
theorem dX8_has_8 : decode cX8_has 8 = .ok (.invokestatic 106, 3) := by decide +kernel
theorem dX8_has_11 : decode cX8_has 11 = .ok (.ifCond .ne 10, 3) := by decide +kernel
theorem dX8_has_14 : decode cX8_has 14 = .ok (.aload_n 0, 1) := by decide +kernel
theorem dX8_has_15 : decode cX8_has 15 = .ok (.bipush (-2), 2) := by decide +kernel
theorem dX8_has_17 : decode cX8_has 17 = .ok (.invokevirtual 109, 3) := by decide +kernel
theorem dX8_has_20 : decode cX8_has 20 = .ok (.ireturn, 1) := by decide +kernel
theorem dX8_has_21 : decode cX8_has 21 = .ok (.aload_n 0, 1) := by decide +kernel
theorem dX8_has_22 : decode cX8_has 22 = .ok (.iload_n 1, 1) := by decide +kernel
theorem dX8_has_23 : decode cX8_has 23 = .ok (.invokevirtual 94, 3) := by decide +kernel
theorem dX8_has_26 : decode cX8_has 26 = .ok (.iload_n 2, 1) := by decide +kernel
theorem dX8_has_27 : decode cX8_has 27 = .ok (.invokevirtual 112, 3) := by decide +kernel
theorem dX8_has_30 : decode cX8_has 30 = .ok (.ifCond .eq 7, 3) := by decide +kernel
theorem dX8_has_33 : decode cX8_has 33 = .ok (.iconst 1, 1) := by decide +kernel
theorem dX8_has_34 : decode cX8_has 34 = .ok (.goto 4, 3) := by decide +kernel
theorem dX8_has_37 : decode cX8_has 37 = .ok (.iconst 0, 1) := by decide +kernel
theorem dX8_has_38 : decode cX8_has 38 = .ok (.ireturn, 1) := by decide +kernel
theorem dX8_of_0 : decode cX8_of 0 = .ok (.iload_n 1, 1) := by decide +kernel
theorem dX8_of_1 : decode cX8_of 1 = .ok (.invokestatic 102, 3) := by decide +kernel
theorem dX8_of_4 : decode cX8_of 4 = .ok (.ifCond .eq 12, 3) := by decide +kernel
theorem dX8_of_7 : decode cX8_of 7 = .ok (.iload_n 3, 1) := by decide +kernel
theorem dX8_of_8 : decode cX8_of 8 = .ok (.ifCond .lt 8, 3) := by decide +kernel
theorem dX8_of_11 : decode cX8_of 11 = .ok (.iload_n 3, 1) := by decide +kernel
theorem dX8_of_12 : decode cX8_of 12 = .ok (.iconst 5, 1) := by decide +kernel
theorem dX8_of_13 : decode cX8_of 13 = .ok (.if_icmp .le 10, 3) := by decide +kernel
theorem dX8_of_16 : decode cX8_of 16 = .ok (.aload_n 0, 1) := by decide +kernel
theorem dX8_of_17 : decode cX8_of 17 = .ok (.bipush (-2), 2) := by decide +kernel
theorem dX8_of_19 : decode cX8_of 19 = .ok (.invokevirtual 109, 3) := by decide +kernel
theorem dX8_of_22 : decode cX8_of 22 = .ok (.ireturn, 1) := by decide +kernel
theorem dX8_of_23 : decode cX8_of 23 = .ok (.aload_n 0, 1) := by decide +kernel
theorem dX8_of_24 : decode cX8_of 24 = .ok (.iload_n 1, 1) := by decide +kernel
theorem dX8_of_25 : decode cX8_of 25 = .ok (.invokevirtual 94, 3) := by decide +kernel
theorem dX8_of_28 : decode cX8_of 28 = .ok (.astore 4, 2) := by decide +kernel
theorem dX8_of_30 : decode cX8_of 30 = .ok (.aload 4, 2) := by decide +kernel
theorem dX8_of_32 : decode cX8_of 32 = .ok (.iload_n 2, 1) := by decide +kernel
theorem dX8_of_33 : decode cX8_of 33 = .ok (.invokevirtual 112, 3) := by decide +kernel
theorem dX8_of_36 : decode cX8_of 36 = .ok (.ifCond .ne 10, 3) := by decide +kernel
theorem dX8_of_39 : decode cX8_of 39 = .ok (.aload_n 0, 1) := by decide +kernel
theorem dX8_of_40 : decode cX8_of 40 = .ok (.bipush (-2), 2) := by decide +kernel
theorem dX8_of_42 : decode cX8_of 42 = .ok (.invokevirtual 109, 3) := by decide +kernel
theorem dX8_of_45 : decode cX8_of 45 = .ok (.ireturn, 1) := by decide +kernel
theorem dX8_of_46 : decode cX8_of 46 = .ok (.iload_n 3, 1) := by decide +kernel
theorem dX8_of_47 : decode cX8_of 47 = .ok (.iconst 4, 1) := by decide +kernel
theorem dX8_of_48 : decode cX8_of 48 = .ok (.if_icmp .ne 10, 3) := by decide +kernel
theorem dX8_of_51 : decode cX8_of 51 = .ok (.aload 4, 2) := by decide +kernel
theorem dX8_of_53 : decode cX8_of 53 = .ok (.iload_n 2, 1) := by decide +kernel
theorem dX8_of_54 : decode cX8_of 54 = .ok (.invokevirtual 117, 3) := by decide +kernel
theorem dX8_of_57 : decode cX8_of 57 = .ok (.ireturn, 1) := by decide +kernel
theorem dX8_of_58 : decode cX8_of 58 = .ok (.iload_n 3, 1) := by decide +kernel
theorem dX8_of_59 : decode cX8_of 59 = .ok (.iconst 5, 1) := by decide +kernel
theorem dX8_of_60 : decode cX8_of 60 = .ok (.if_icmp .ne 12, 3) := by decide +kernel
theorem dX8_of_63 : decode cX8_of 63 = .ok (.aload 4, 2) := by decide +kernel
theorem dX8_of_65 : decode cX8_of 65 = .ok (.iload_n 2, 1) := by decide +kernel
theorem dX8_of_66 : decode cX8_of 66 = .ok (.invokevirtual 120, 3) := by decide +kernel
theorem dX8_of_69 : decode cX8_of 69 = .ok (.goto 10, 3) := by decide +kernel
theorem dX8_of_72 : decode cX8_of 72 = .ok (.aload 4, 2) := by decide +kernel
theorem dX8_of_74 : decode cX8_of 74 = .ok (.iload_n 2, 1) := by decide +kernel
theorem dX8_of_75 : decode cX8_of 75 = .ok (.iload_n 3, 1) := by decide +kernel
theorem dX8_of_76 : decode cX8_of 76 = .ok (.invokevirtual 123, 3) := by decide +kernel
theorem dX8_of_79 : decode cX8_of 79 = .ok (.ireturn, 1) := by decide +kernel
theorem dX8_walk_0 : decode cX8_walk 0 = .ok (.iload_n 1, 1) := by decide +kernel
theorem dX8_walk_1 : decode cX8_walk 1 = .ok (.invokestatic 102, 3) := by decide +kernel
theorem dX8_walk_4 : decode cX8_walk 4 = .ok (.ifCond .eq 7, 3) := by decide +kernel
theorem dX8_walk_7 : decode cX8_walk 7 = .ok (.iload_n 2, 1) := by decide +kernel
theorem dX8_walk_8 : decode cX8_walk 8 = .ok (.ifCond .ge 10, 3) := by decide +kernel
theorem dX8_walk_11 : decode cX8_walk 11 = .ok (.aload_n 0, 1) := by decide +kernel
theorem dX8_walk_12 : decode cX8_walk 12 = .ok (.bipush (-2), 2) := by decide +kernel
theorem dX8_walk_14 : decode cX8_walk 14 = .ok (.invokevirtual 109, 3) := by decide +kernel
theorem dX8_walk_17 : decode cX8_walk 17 = .ok (.ireturn, 1) := by decide +kernel
theorem dX8_walk_18 : decode cX8_walk 18 = .ok (.aload_n 0, 1) := by decide +kernel
theorem dX8_walk_19 : decode cX8_walk 19 = .ok (.iload_n 1, 1) := by decide +kernel
theorem dX8_walk_20 : decode cX8_walk 20 = .ok (.invokevirtual 94, 3) := by decide +kernel
theorem dX8_walk_23 : decode cX8_walk 23 = .ok (.astore_n 3, 1) := by decide +kernel
theorem dX8_walk_24 : decode cX8_walk 24 = .ok (.iload_n 2, 1) := by decide +kernel
theorem dX8_walk_25 : decode cX8_walk 25 = .ok (.bipush 16, 2) := by decide +kernel
theorem dX8_walk_27 : decode cX8_walk 27 = .ok (.if_icmp .ge 7, 3) := by decide +kernel
theorem dX8_walk_30 : decode cX8_walk 30 = .ok (.iconst 0, 1) := by decide +kernel
theorem dX8_walk_31 : decode cX8_walk 31 = .ok (.goto 4, 3) := by decide +kernel
theorem dX8_walk_34 : decode cX8_walk 34 = .ok (.iconst (-1), 1) := by decide +kernel
theorem dX8_walk_35 : decode cX8_walk 35 = .ok (.istore 4, 2) := by decide +kernel
theorem dX8_walk_37 : decode cX8_walk 37 = .ok (.iconst 0, 1) := by decide +kernel
theorem dX8_walk_38 : decode cX8_walk 38 = .ok (.istore 5, 2) := by decide +kernel
theorem dX8_walk_40 : decode cX8_walk 40 = .ok (.iload 5, 2) := by decide +kernel
theorem dX8_walk_42 : decode cX8_walk 42 = .ok (.iload_n 2, 1) := by decide +kernel
theorem dX8_walk_43 : decode cX8_walk 43 = .ok (.if_icmp .ge 24, 3) := by decide +kernel
theorem dX8_walk_46 : decode cX8_walk 46 = .ok (.iload 5, 2) := by decide +kernel
theorem dX8_walk_48 : decode cX8_walk 48 = .ok (.bipush 16, 2) := by decide +kernel
theorem dX8_walk_50 : decode cX8_walk 50 = .ok (.if_icmp .ge 17, 3) := by decide +kernel
theorem dX8_walk_53 : decode cX8_walk 53 = .ok (.aload_n 3, 1) := by decide +kernel
theorem dX8_walk_54 : decode cX8_walk 54 = .ok (.iload 4, 2) := by decide +kernel
theorem dX8_walk_56 : decode cX8_walk 56 = .ok (.invokevirtual 126, 3) := by decide +kernel
theorem dX8_walk_59 : decode cX8_walk 59 = .ok (.istore 4, 2) := by decide +kernel
theorem dX8_walk_61 : decode cX8_walk 61 = .ok (.iinc 5 1, 3) := by decide +kernel
theorem dX8_walk_64 : decode cX8_walk 64 = .ok (.goto (-24), 3) := by decide +kernel
theorem dX8_walk_67 : decode cX8_walk 67 = .ok (.iload 4, 2) := by decide +kernel
theorem dX8_walk_69 : decode cX8_walk 69 = .ok (.ireturn, 1) := by decide +kernel
theorem dX8_size_0 : decode cX8_size 0 = .ok (.iload_n 1, 1) := by decide +kernel
theorem dX8_size_1 : decode cX8_size 1 = .ok (.invokestatic 102, 3) := by decide +kernel
theorem dX8_size_4 : decode cX8_size 4 = .ok (.ifCond .eq 12, 3) := by decide +kernel
theorem dX8_size_7 : decode cX8_size 7 = .ok (.iload_n 2, 1) := by decide +kernel
theorem dX8_size_8 : decode cX8_size 8 = .ok (.ifCond .lt 8, 3) := by decide +kernel
theorem dX8_size_11 : decode cX8_size 11 = .ok (.iload_n 2, 1) := by decide +kernel
theorem dX8_size_12 : decode cX8_size 12 = .ok (.iconst 1, 1) := by decide +kernel
theorem dX8_size_13 : decode cX8_size 13 = .ok (.if_icmp .le 10, 3) := by decide +kernel
theorem dX8_size_16 : decode cX8_size 16 = .ok (.aload_n 0, 1) := by decide +kernel
theorem dX8_size_17 : decode cX8_size 17 = .ok (.bipush (-2), 2) := by decide +kernel
theorem dX8_size_19 : decode cX8_size 19 = .ok (.invokevirtual 109, 3) := by decide +kernel
theorem dX8_size_22 : decode cX8_size 22 = .ok (.ireturn, 1) := by decide +kernel
theorem dX8_size_23 : decode cX8_size 23 = .ok (.iload_n 2, 1) := by decide +kernel
theorem dX8_size_24 : decode cX8_size 24 = .ok (.ifCond .ne 14, 3) := by decide +kernel
theorem dX8_size_27 : decode cX8_size 27 = .ok (.aload_n 0, 1) := by decide +kernel
theorem dX8_size_28 : decode cX8_size 28 = .ok (.iload_n 1, 1) := by decide +kernel
theorem dX8_size_29 : decode cX8_size 29 = .ok (.invokevirtual 94, 3) := by decide +kernel
theorem dX8_size_32 : decode cX8_size 32 = .ok (.invokevirtual 129, 3) := by decide +kernel
theorem dX8_size_35 : decode cX8_size 35 = .ok (.goto 11, 3) := by decide +kernel
theorem dX8_size_38 : decode cX8_size 38 = .ok (.aload_n 0, 1) := by decide +kernel
theorem dX8_size_39 : decode cX8_size 39 = .ok (.iload_n 1, 1) := by decide +kernel
theorem dX8_size_40 : decode cX8_size 40 = .ok (.invokevirtual 94, 3) := by decide +kernel
theorem dX8_size_43 : decode cX8_size 43 = .ok (.invokevirtual 132, 3) := by decide +kernel
theorem dX8_size_46 : decode cX8_size 46 = .ok (.ireturn, 1) := by decide +kernel
theorem dX8_alike_0 : decode cX8_alike 0 = .ok (.iload_n 1, 1) := by decide +kernel
theorem dX8_alike_1 : decode cX8_alike 1 = .ok (.invokestatic 102, 3) := by decide +kernel
theorem dX8_alike_4 : decode cX8_alike 4 = .ok (.ifCond .eq 10, 3) := by decide +kernel
theorem dX8_alike_7 : decode cX8_alike 7 = .ok (.iload_n 2, 1) := by decide +kernel
theorem dX8_alike_8 : decode cX8_alike 8 = .ok (.invokestatic 102, 3) := by decide +kernel
theorem dX8_alike_11 : decode cX8_alike 11 = .ok (.ifCond .ne 10, 3) := by decide +kernel
theorem dX8_alike_14 : decode cX8_alike 14 = .ok (.aload_n 0, 1) := by decide +kernel
theorem dX8_alike_15 : decode cX8_alike 15 = .ok (.bipush (-2), 2) := by decide +kernel
theorem dX8_alike_17 : decode cX8_alike 17 = .ok (.invokevirtual 109, 3) := by decide +kernel
theorem dX8_alike_20 : decode cX8_alike 20 = .ok (.ireturn, 1) := by decide +kernel
theorem dX8_alike_21 : decode cX8_alike 21 = .ok (.aload_n 0, 1) := by decide +kernel
theorem dX8_alike_22 : decode cX8_alike 22 = .ok (.iload_n 1, 1) := by decide +kernel
theorem dX8_alike_23 : decode cX8_alike 23 = .ok (.invokevirtual 94, 3) := by decide +kernel
theorem dX8_alike_26 : decode cX8_alike 26 = .ok (.aload_n 0, 1) := by decide +kernel
theorem dX8_alike_27 : decode cX8_alike 27 = .ok (.iload_n 2, 1) := by decide +kernel
theorem dX8_alike_28 : decode cX8_alike 28 = .ok (.invokevirtual 94, 3) := by decide +kernel
theorem dX8_alike_31 : decode cX8_alike 31 = .ok (.invokevirtual 135, 3) := by decide +kernel
theorem dX8_alike_34 : decode cX8_alike 34 = .ok (.ireturn, 1) := by decide +kernel
theorem dX8_conflicts_0 : decode cX8_conflicts 0 = .ok (.iload_n 1, 1) := by decide +kernel
theorem dX8_conflicts_1 : decode cX8_conflicts 1 = .ok (.iload_n 2, 1) := by decide +kernel
theorem dX8_conflicts_2 : decode cX8_conflicts 2 = .ok (.iconst 3, 1) := by decide +kernel
theorem dX8_conflicts_3 : decode cX8_conflicts 3 = .ok (.invokestatic 138, 3) := by decide +kernel
theorem dX8_conflicts_6 : decode cX8_conflicts 6 = .ok (.ifCond .ne 10, 3) := by decide +kernel
theorem dX8_conflicts_9 : decode cX8_conflicts 9 = .ok (.aload_n 0, 1) := by decide +kernel
theorem dX8_conflicts_10 : decode cX8_conflicts 10 = .ok (.bipush (-2), 2) := by decide +kernel
theorem dX8_conflicts_12 : decode cX8_conflicts 12 = .ok (.invokevirtual 109, 3) := by decide +kernel
theorem dX8_conflicts_15 : decode cX8_conflicts 15 = .ok (.ireturn, 1) := by decide +kernel
theorem dX8_conflicts_16 : decode cX8_conflicts 16 = .ok (.aload_n 0, 1) := by decide +kernel
theorem dX8_conflicts_17 : decode cX8_conflicts 17 = .ok (.getfield 29, 3) := by decide +kernel
theorem dX8_conflicts_20 : decode cX8_conflicts 20 = .ok (.aload_n 0, 1) := by decide +kernel
theorem dX8_conflicts_21 : decode cX8_conflicts 21 = .ok (.getfield 12, 3) := by decide +kernel
theorem dX8_conflicts_24 : decode cX8_conflicts 24 = .ok (.invokevirtual 142, 3) := by decide +kernel
theorem dX8_conflicts_27 : decode cX8_conflicts 27 = .ok (.aload_n 0, 1) := by decide +kernel
theorem dX8_conflicts_28 : decode cX8_conflicts 28 = .ok (.getfield 29, 3) := by decide +kernel
theorem dX8_conflicts_31 : decode cX8_conflicts 31 = .ok (.getfield 145, 3) := by decide +kernel
theorem dX8_conflicts_34 : decode cX8_conflicts 34 = .ok (.iload_n 1, 1) := by decide +kernel
theorem dX8_conflicts_35 : decode cX8_conflicts 35 = .ok (.iload_n 2, 1) := by decide +kernel
theorem dX8_conflicts_36 : decode cX8_conflicts 36 = .ok (.invokevirtual 149, 3) := by decide +kernel
theorem dX8_conflicts_39 : decode cX8_conflicts 39 = .ok (.ireturn, 1) := by decide +kernel
theorem dX8_script_0 : decode cX8_script 0 = .ok (.iload_n 1, 1) := by decide +kernel
theorem dX8_script_1 : decode cX8_script 1 = .ok (.invokestatic 154, 3) := by decide +kernel
theorem dX8_script_4 : decode cX8_script 4 = .ok (.ifCond .eq 12, 3) := by decide +kernel
theorem dX8_script_7 : decode cX8_script 7 = .ok (.iload_n 2, 1) := by decide +kernel
theorem dX8_script_8 : decode cX8_script 8 = .ok (.iload_n 3, 1) := by decide +kernel
theorem dX8_script_9 : decode cX8_script 9 = .ok (.iconst 2, 1) := by decide +kernel
theorem dX8_script_10 : decode cX8_script 10 = .ok (.invokestatic 138, 3) := by decide +kernel
theorem dX8_script_13 : decode cX8_script 13 = .ok (.ifCond .ne 10, 3) := by decide +kernel
theorem dX8_script_16 : decode cX8_script 16 = .ok (.aload_n 0, 1) := by decide +kernel
theorem dX8_script_17 : decode cX8_script 17 = .ok (.bipush (-2), 2) := by decide +kernel
theorem dX8_script_19 : decode cX8_script 19 = .ok (.invokevirtual 109, 3) := by decide +kernel
theorem dX8_script_22 : decode cX8_script 22 = .ok (.ireturn, 1) := by decide +kernel
theorem dX8_script_23 : decode cX8_script 23 = .ok (.aload_n 0, 1) := by decide +kernel
theorem dX8_script_24 : decode cX8_script 24 = .ok (.getfield 36, 3) := by decide +kernel
theorem dX8_script_27 : decode cX8_script 27 = .ok (.aload_n 0, 1) := by decide +kernel
theorem dX8_script_28 : decode cX8_script 28 = .ok (.getfield 12, 3) := by decide +kernel
theorem dX8_script_31 : decode cX8_script 31 = .ok (.iconst 0, 1) := by decide +kernel
theorem dX8_script_32 : decode cX8_script 32 = .ok (.invokevirtual 157, 3) := by decide +kernel
theorem dX8_script_35 : decode cX8_script 35 = .ok (.aload_n 0, 1) := by decide +kernel
theorem dX8_script_36 : decode cX8_script 36 = .ok (.getfield 12, 3) := by decide +kernel
theorem dX8_script_39 : decode cX8_script 39 = .ok (.iload_n 1, 1) := by decide +kernel
theorem dX8_script_40 : decode cX8_script 40 = .ok (.invokevirtual 157, 3) := by decide +kernel
theorem dX8_script_43 : decode cX8_script 43 = .ok (.invokevirtual 158, 3) := by decide +kernel
theorem dX8_script_46 : decode cX8_script 46 = .ok (.aload_n 0, 1) := by decide +kernel
theorem dX8_script_47 : decode cX8_script 47 = .ok (.getfield 36, 3) := by decide +kernel
theorem dX8_script_50 : decode cX8_script 50 = .ok (.getfield 162, 3) := by decide +kernel
theorem dX8_script_53 : decode cX8_script 53 = .ok (.iload_n 2, 1) := by decide +kernel
theorem dX8_script_54 : decode cX8_script 54 = .ok (.iload_n 3, 1) := by decide +kernel
theorem dX8_script_55 : decode cX8_script 55 = .ok (.invokevirtual 149, 3) := by decide +kernel
theorem dX8_script_58 : decode cX8_script 58 = .ok (.ireturn, 1) := by decide +kernel
theorem dX8_matches_0 : decode cX8_matches 0 = .ok (.iload_n 1, 1) := by decide +kernel
theorem dX8_matches_1 : decode cX8_matches 1 = .ok (.invokestatic 154, 3) := by decide +kernel
theorem dX8_matches_4 : decode cX8_matches 4 = .ok (.ifCond .eq 22, 3) := by decide +kernel
theorem dX8_matches_7 : decode cX8_matches 7 = .ok (.iload_n 2, 1) := by decide +kernel
theorem dX8_matches_8 : decode cX8_matches 8 = .ok (.ifCond .eq 18, 3) := by decide +kernel
theorem dX8_matches_11 : decode cX8_matches 11 = .ok (.aload_n 0, 1) := by decide +kernel
theorem dX8_matches_12 : decode cX8_matches 12 = .ok (.getfield 12, 3) := by decide +kernel
theorem dX8_matches_15 : decode cX8_matches 15 = .ok (.iload_n 1, 1) := by decide +kernel
theorem dX8_matches_16 : decode cX8_matches 16 = .ok (.invokevirtual 157, 3) := by decide +kernel
theorem dX8_matches_19 : decode cX8_matches 19 = .ok (.iload_n 2, 1) := by decide +kernel
theorem dX8_matches_20 : decode cX8_matches 20 = .ok (.invokevirtual 112, 3) := by decide +kernel
theorem dX8_matches_23 : decode cX8_matches 23 = .ok (.ifCond .ne 10, 3) := by decide +kernel
theorem dX8_matches_26 : decode cX8_matches 26 = .ok (.aload_n 0, 1) := by decide +kernel
theorem dX8_matches_27 : decode cX8_matches 27 = .ok (.bipush (-2), 2) := by decide +kernel
theorem dX8_matches_29 : decode cX8_matches 29 = .ok (.invokevirtual 109, 3) := by decide +kernel
theorem dX8_matches_32 : decode cX8_matches 32 = .ok (.ireturn, 1) := by decide +kernel
theorem dX8_matches_33 : decode cX8_matches 33 = .ok (.aload_n 0, 1) := by decide +kernel
theorem dX8_matches_34 : decode cX8_matches 34 = .ok (.getfield 43, 3) := by decide +kernel
theorem dX8_matches_37 : decode cX8_matches 37 = .ok (.aload_n 0, 1) := by decide +kernel
theorem dX8_matches_38 : decode cX8_matches 38 = .ok (.getfield 12, 3) := by decide +kernel
theorem dX8_matches_41 : decode cX8_matches 41 = .ok (.iconst 0, 1) := by decide +kernel
theorem dX8_matches_42 : decode cX8_matches 42 = .ok (.invokevirtual 157, 3) := by decide +kernel
theorem dX8_matches_45 : decode cX8_matches 45 = .ok (.aload_n 0, 1) := by decide +kernel
theorem dX8_matches_46 : decode cX8_matches 46 = .ok (.getfield 12, 3) := by decide +kernel
theorem dX8_matches_49 : decode cX8_matches 49 = .ok (.iload_n 1, 1) := by decide +kernel
theorem dX8_matches_50 : decode cX8_matches 50 = .ok (.invokevirtual 157, 3) := by decide +kernel
theorem dX8_matches_53 : decode cX8_matches 53 = .ok (.invokevirtual 165, 3) := by decide +kernel
theorem dX8_matches_56 : decode cX8_matches 56 = .ok (.aload_n 0, 1) := by decide +kernel
theorem dX8_matches_57 : decode cX8_matches 57 = .ok (.getfield 43, 3) := by decide +kernel
theorem dX8_matches_60 : decode cX8_matches 60 = .ok (.iload_n 2, 1) := by decide +kernel
theorem dX8_matches_61 : decode cX8_matches 61 = .ok (.invokevirtual 168, 3) := by decide +kernel
theorem dX8_matches_64 : decode cX8_matches 64 = .ok (.ireturn, 1) := by decide +kernel
theorem dX8_told_0 : decode cX8_told 0 = .ok (.iload_n 1, 1) := by decide +kernel
theorem dX8_told_1 : decode cX8_told 1 = .ok (.ifCond .lt 8, 3) := by decide +kernel
theorem dX8_told_4 : decode cX8_told 4 = .ok (.iload_n 1, 1) := by decide +kernel
theorem dX8_told_5 : decode cX8_told 5 = .ok (.iconst 3, 1) := by decide +kernel
theorem dX8_told_6 : decode cX8_told 6 = .ok (.if_icmp .le 10, 3) := by decide +kernel
theorem dX8_told_9 : decode cX8_told 9 = .ok (.aload_n 0, 1) := by decide +kernel
theorem dX8_told_10 : decode cX8_told 10 = .ok (.bipush (-2), 2) := by decide +kernel
theorem dX8_told_12 : decode cX8_told 12 = .ok (.invokevirtual 109, 3) := by decide +kernel
theorem dX8_told_15 : decode cX8_told 15 = .ok (.ireturn, 1) := by decide +kernel
theorem dX8_told_16 : decode cX8_told 16 = .ok (.aload_n 0, 1) := by decide +kernel
theorem dX8_told_17 : decode cX8_told 17 = .ok (.iload_n 1, 1) := by decide +kernel
theorem dX8_told_18 : decode cX8_told 18 = .ok (.invokevirtual 171, 3) := by decide +kernel
theorem dX8_told_21 : decode cX8_told 21 = .ok (.ireturn, 1) := by decide +kernel
theorem dX8_type_0 : decode cX8_type 0 = .ok (.iload_n 1, 1) := by decide +kernel
theorem dX8_type_1 : decode cX8_type 1 = .ok (.ifCond .lt 10, 3) := by decide +kernel
theorem dX8_type_4 : decode cX8_type 4 = .ok (.iload_n 1, 1) := by decide +kernel
theorem dX8_type_5 : decode cX8_type 5 = .ok (.sipush 128, 3) := by decide +kernel
theorem dX8_type_8 : decode cX8_type 8 = .ok (.if_icmp .lt 10, 3) := by decide +kernel
theorem dX8_type_11 : decode cX8_type 11 = .ok (.aload_n 0, 1) := by decide +kernel
theorem dX8_type_12 : decode cX8_type 12 = .ok (.bipush (-2), 2) := by decide +kernel
theorem dX8_type_14 : decode cX8_type 14 = .ok (.invokevirtual 109, 3) := by decide +kernel
theorem dX8_type_17 : decode cX8_type 17 = .ok (.ireturn, 1) := by decide +kernel
theorem dX8_type_18 : decode cX8_type 18 = .ok (.aload_n 0, 1) := by decide +kernel
theorem dX8_type_19 : decode cX8_type 19 = .ok (.getfield 50, 3) := by decide +kernel
theorem dX8_type_22 : decode cX8_type 22 = .ok (.iload_n 1, 1) := by decide +kernel
theorem dX8_type_23 : decode cX8_type 23 = .ok (.invokevirtual 174, 3) := by decide +kernel
theorem dX8_type_26 : decode cX8_type 26 = .ok (.ifCond .eq 13, 3) := by decide +kernel
theorem dX8_type_29 : decode cX8_type 29 = .ok (.aload_n 0, 1) := by decide +kernel
theorem dX8_type_30 : decode cX8_type 30 = .ok (.getfield 50, 3) := by decide +kernel
theorem dX8_type_33 : decode cX8_type 33 = .ok (.getfield 177, 3) := by decide +kernel
theorem dX8_type_36 : decode cX8_type 36 = .ok (.goto 9, 3) := by decide +kernel
theorem dX8_type_39 : decode cX8_type 39 = .ok (.aload_n 0, 1) := by decide +kernel
theorem dX8_type_40 : decode cX8_type 40 = .ok (.bipush (-4), 2) := by decide +kernel
theorem dX8_type_42 : decode cX8_type 42 = .ok (.invokevirtual 109, 3) := by decide +kernel
theorem dX8_type_45 : decode cX8_type 45 = .ok (.ireturn, 1) := by decide +kernel
theorem dX8_clear_0 : decode cX8_clear 0 = .ok (.aload_n 0, 1) := by decide +kernel
theorem dX8_clear_1 : decode cX8_clear 1 = .ok (.getfield 50, 3) := by decide +kernel
theorem dX8_clear_4 : decode cX8_clear 4 = .ok (.invokevirtual 180, 3) := by decide +kernel
theorem dX8_clear_7 : decode cX8_clear 7 = .ok (.ireturn, 1) := by decide +kernel
theorem dX8_does_0 : decode cX8_does 0 = .ok (.aload_n 0, 1) := by decide +kernel
theorem dX8_does_1 : decode cX8_does 1 = .ok (.getfield 50, 3) := by decide +kernel
theorem dX8_does_4 : decode cX8_does 4 = .ok (.invokevirtual 183, 3) := by decide +kernel
theorem dX8_does_7 : decode cX8_does 7 = .ok (.istore_n 1, 1) := by decide +kernel
theorem dX8_does_8 : decode cX8_does 8 = .ok (.iload_n 1, 1) := by decide +kernel
theorem dX8_does_9 : decode cX8_does 9 = .ok (.iconst (-1), 1) := by decide +kernel
theorem dX8_does_10 : decode cX8_does 10 = .ok (.if_icmp .eq 8, 3) := by decide +kernel
theorem dX8_does_13 : decode cX8_does 13 = .ok (.bipush (-10), 2) := by decide +kernel
theorem dX8_does_15 : decode cX8_does 15 = .ok (.iload_n 1, 1) := by decide +kernel
theorem dX8_does_16 : decode cX8_does 16 = .ok (.isub, 1) := by decide +kernel
theorem dX8_does_17 : decode cX8_does 17 = .ok (.ireturn, 1) := by decide +kernel
theorem dX8_does_18 : decode cX8_does 18 = .ok (.aload_n 0, 1) := by decide +kernel
theorem dX8_does_19 : decode cX8_does 19 = .ok (.getfield 16, 3) := by decide +kernel
theorem dX8_does_22 : decode cX8_does 22 = .ok (.aload_n 0, 1) := by decide +kernel
theorem dX8_does_23 : decode cX8_does 23 = .ok (.getfield 12, 3) := by decide +kernel
theorem dX8_does_26 : decode cX8_does 26 = .ok (.invokevirtual 64, 3) := by decide +kernel
theorem dX8_does_29 : decode cX8_does 29 = .ok (.iconst 0, 1) := by decide +kernel
theorem dX8_does_30 : decode cX8_does 30 = .ok (.istore_n 2, 1) := by decide +kernel
theorem dX8_does_31 : decode cX8_does 31 = .ok (.iload_n 2, 1) := by decide +kernel
theorem dX8_does_32 : decode cX8_does 32 = .ok (.aload_n 0, 1) := by decide +kernel
theorem dX8_does_33 : decode cX8_does 33 = .ok (.getfield 50, 3) := by decide +kernel
theorem dX8_does_36 : decode cX8_does 36 = .ok (.getfield 186, 3) := by decide +kernel
theorem dX8_does_39 : decode cX8_does 39 = .ok (.if_icmp .ge 40, 3) := by decide +kernel
theorem dX8_does_42 : decode cX8_does 42 = .ok (.iload_n 2, 1) := by decide +kernel
theorem dX8_does_43 : decode cX8_does 43 = .ok (.bipush 75, 2) := by decide +kernel
theorem dX8_does_45 : decode cX8_does 45 = .ok (.if_icmp .ge 34, 3) := by decide +kernel
theorem dX8_does_48 : decode cX8_does 48 = .ok (.aload_n 0, 1) := by decide +kernel
theorem dX8_does_49 : decode cX8_does 49 = .ok (.iload_n 2, 1) := by decide +kernel
theorem dX8_does_50 : decode cX8_does 50 = .ok (.invokevirtual 189, 3) := by decide +kernel
theorem dX8_does_53 : decode cX8_does 53 = .ok (.ifCond .ge 20, 3) := by decide +kernel
theorem dX8_does_56 : decode cX8_does 56 = .ok (.aload_n 0, 1) := by decide +kernel
theorem dX8_does_57 : decode cX8_does 57 = .ok (.getfield 12, 3) := by decide +kernel
theorem dX8_does_60 : decode cX8_does 60 = .ok (.aload_n 0, 1) := by decide +kernel
theorem dX8_does_61 : decode cX8_does 61 = .ok (.getfield 16, 3) := by decide +kernel
theorem dX8_does_64 : decode cX8_does 64 = .ok (.invokevirtual 64, 3) := by decide +kernel
theorem dX8_does_67 : decode cX8_does 67 = .ok (.sipush (-1000), 3) := by decide +kernel
theorem dX8_does_70 : decode cX8_does 70 = .ok (.iload_n 2, 1) := by decide +kernel
theorem dX8_does_71 : decode cX8_does 71 = .ok (.isub, 1) := by decide +kernel
theorem dX8_does_72 : decode cX8_does 72 = .ok (.ireturn, 1) := by decide +kernel
theorem dX8_does_73 : decode cX8_does 73 = .ok (.iinc 2 1, 3) := by decide +kernel
theorem dX8_does_76 : decode cX8_does 76 = .ok (.goto (-45), 3) := by decide +kernel
theorem dX8_does_79 : decode cX8_does 79 = .ok (.aload_n 0, 1) := by decide +kernel
theorem dX8_does_80 : decode cX8_does 80 = .ok (.aload_n 0, 1) := by decide +kernel
theorem dX8_does_81 : decode cX8_does 81 = .ok (.getfield 50, 3) := by decide +kernel
theorem dX8_does_84 : decode cX8_does 84 = .ok (.getfield 186, 3) := by decide +kernel
theorem dX8_does_87 : decode cX8_does 87 = .ok (.invokevirtual 72, 3) := by decide +kernel
theorem dX8_does_90 : decode cX8_does 90 = .ok (.ireturn, 1) := by decide +kernel
theorem dX8_back_0 : decode cX8_back 0 = .ok (.aload_n 0, 1) := by decide +kernel
theorem dX8_back_1 : decode cX8_back 1 = .ok (.getfield 22, 3) := by decide +kernel
theorem dX8_back_4 : decode cX8_back 4 = .ok (.getfield 192, 3) := by decide +kernel
theorem dX8_back_7 : decode cX8_back 7 = .ok (.ifCond .ne 10, 3) := by decide +kernel
theorem dX8_back_10 : decode cX8_back 10 = .ok (.aload_n 0, 1) := by decide +kernel
theorem dX8_back_11 : decode cX8_back 11 = .ok (.bipush (-3), 2) := by decide +kernel
theorem dX8_back_13 : decode cX8_back 13 = .ok (.invokevirtual 109, 3) := by decide +kernel
theorem dX8_back_16 : decode cX8_back 16 = .ok (.ireturn, 1) := by decide +kernel
theorem dX8_back_17 : decode cX8_back 17 = .ok (.aload_n 0, 1) := by decide +kernel
theorem dX8_back_18 : decode cX8_back 18 = .ok (.getfield 22, 3) := by decide +kernel
theorem dX8_back_21 : decode cX8_back 21 = .ok (.aload_n 0, 1) := by decide +kernel
theorem dX8_back_22 : decode cX8_back 22 = .ok (.getfield 12, 3) := by decide +kernel
theorem dX8_back_25 : decode cX8_back 25 = .ok (.invokevirtual 194, 3) := by decide +kernel
theorem dX8_back_28 : decode cX8_back 28 = .ok (.aload_n 0, 1) := by decide +kernel
theorem dX8_back_29 : decode cX8_back 29 = .ok (.getfield 29, 3) := by decide +kernel
theorem dX8_back_32 : decode cX8_back 32 = .ok (.iconst 1, 1) := by decide +kernel
theorem dX8_back_33 : decode cX8_back 33 = .ok (.putfield 197, 3) := by decide +kernel
theorem dX8_back_36 : decode cX8_back 36 = .ok (.aload_n 0, 1) := by decide +kernel
theorem dX8_back_37 : decode cX8_back 37 = .ok (.getfield 22, 3) := by decide +kernel
theorem dX8_back_40 : decode cX8_back 40 = .ok (.getfield 192, 3) := by decide +kernel
theorem dX8_back_43 : decode cX8_back 43 = .ok (.ireturn, 1) := by decide +kernel
theorem dX8_refused_0 : decode cX8_refused 0 = .ok (.iload_n 1, 1) := by decide +kernel
theorem dX8_refused_1 : decode cX8_refused 1 = .ok (.ifCond .lt 8, 3) := by decide +kernel
theorem dX8_refused_4 : decode cX8_refused 4 = .ok (.iload_n 1, 1) := by decide +kernel
theorem dX8_refused_5 : decode cX8_refused 5 = .ok (.iconst 4, 1) := by decide +kernel
theorem dX8_refused_6 : decode cX8_refused 6 = .ok (.if_icmp .le 10, 3) := by decide +kernel
theorem dX8_refused_9 : decode cX8_refused 9 = .ok (.aload_n 0, 1) := by decide +kernel
theorem dX8_refused_10 : decode cX8_refused 10 = .ok (.bipush (-2), 2) := by decide +kernel
theorem dX8_refused_12 : decode cX8_refused 12 = .ok (.invokevirtual 109, 3) := by decide +kernel
theorem dX8_refused_15 : decode cX8_refused 15 = .ok (.ireturn, 1) := by decide +kernel
theorem dX8_refused_16 : decode cX8_refused 16 = .ok (.aload_n 0, 1) := by decide +kernel
theorem dX8_refused_17 : decode cX8_refused 17 = .ok (.iload_n 1, 1) := by decide +kernel
theorem dX8_refused_18 : decode cX8_refused 18 = .ok (.invokevirtual 201, 3) := by decide +kernel
theorem dX8_refused_21 : decode cX8_refused 21 = .ok (.ireturn, 1) := by decide +kernel
theorem dX8_digest_0 : decode cX8_digest 0 = .ok (.ldc2_w 204, 3) := by decide +kernel
theorem dX8_digest_3 : decode cX8_digest 3 = .ok (.lstore_n 1, 1) := by decide +kernel
theorem dX8_digest_4 : decode cX8_digest 4 = .ok (.iconst 0, 1) := by decide +kernel
theorem dX8_digest_5 : decode cX8_digest 5 = .ok (.istore_n 3, 1) := by decide +kernel
theorem dX8_digest_6 : decode cX8_digest 6 = .ok (.iload_n 3, 1) := by decide +kernel
theorem dX8_digest_7 : decode cX8_digest 7 = .ok (.iconst 4, 1) := by decide +kernel
theorem dX8_digest_8 : decode cX8_digest 8 = .ok (.if_icmp .gt 19, 3) := by decide +kernel
theorem dX8_digest_11 : decode cX8_digest 11 = .ok (.lload_n 1, 1) := by decide +kernel
theorem dX8_digest_12 : decode cX8_digest 12 = .ok (.aload_n 0, 1) := by decide +kernel
theorem dX8_digest_13 : decode cX8_digest 13 = .ok (.iload_n 3, 1) := by decide +kernel
theorem dX8_digest_14 : decode cX8_digest 14 = .ok (.invokevirtual 201, 3) := by decide +kernel
theorem dX8_digest_17 : decode cX8_digest 17 = .ok (.invokestatic 206, 3) := by decide +kernel
theorem dX8_digest_20 : decode cX8_digest 20 = .ok (.lstore_n 1, 1) := by decide +kernel
theorem dX8_digest_21 : decode cX8_digest 21 = .ok (.iinc 3 1, 3) := by decide +kernel
theorem dX8_digest_24 : decode cX8_digest 24 = .ok (.goto (-18), 3) := by decide +kernel
theorem dX8_digest_27 : decode cX8_digest 27 = .ok (.iconst 0, 1) := by decide +kernel
theorem dX8_digest_28 : decode cX8_digest 28 = .ok (.istore_n 3, 1) := by decide +kernel
theorem dX8_digest_29 : decode cX8_digest 29 = .ok (.iload_n 3, 1) := by decide +kernel
theorem dX8_digest_30 : decode cX8_digest 30 = .ok (.iconst 3, 1) := by decide +kernel
theorem dX8_digest_31 : decode cX8_digest 31 = .ok (.if_icmp .gt 19, 3) := by decide +kernel
theorem dX8_digest_34 : decode cX8_digest 34 = .ok (.lload_n 1, 1) := by decide +kernel
theorem dX8_digest_35 : decode cX8_digest 35 = .ok (.aload_n 0, 1) := by decide +kernel
theorem dX8_digest_36 : decode cX8_digest 36 = .ok (.iload_n 3, 1) := by decide +kernel
theorem dX8_digest_37 : decode cX8_digest 37 = .ok (.invokevirtual 171, 3) := by decide +kernel
theorem dX8_digest_40 : decode cX8_digest 40 = .ok (.invokestatic 206, 3) := by decide +kernel
theorem dX8_digest_43 : decode cX8_digest 43 = .ok (.lstore_n 1, 1) := by decide +kernel
theorem dX8_digest_44 : decode cX8_digest 44 = .ok (.iinc 3 1, 3) := by decide +kernel
theorem dX8_digest_47 : decode cX8_digest 47 = .ok (.goto (-18), 3) := by decide +kernel
theorem dX8_digest_50 : decode cX8_digest 50 = .ok (.iconst 0, 1) := by decide +kernel
theorem dX8_digest_51 : decode cX8_digest 51 = .ok (.istore_n 3, 1) := by decide +kernel
theorem dX8_digest_52 : decode cX8_digest 52 = .ok (.iload_n 3, 1) := by decide +kernel
theorem dX8_digest_53 : decode cX8_digest 53 = .ok (.iconst 3, 1) := by decide +kernel
theorem dX8_digest_54 : decode cX8_digest 54 = .ok (.if_icmp .gt 19, 3) := by decide +kernel
theorem dX8_digest_57 : decode cX8_digest 57 = .ok (.lload_n 1, 1) := by decide +kernel
theorem dX8_digest_58 : decode cX8_digest 58 = .ok (.aload_n 0, 1) := by decide +kernel
theorem dX8_digest_59 : decode cX8_digest 59 = .ok (.iload_n 3, 1) := by decide +kernel
theorem dX8_digest_60 : decode cX8_digest 60 = .ok (.invokevirtual 94, 3) := by decide +kernel
theorem dX8_digest_63 : decode cX8_digest 63 = .ok (.invokestatic 210, 3) := by decide +kernel
theorem dX8_digest_66 : decode cX8_digest 66 = .ok (.lstore_n 1, 1) := by decide +kernel
theorem dX8_digest_67 : decode cX8_digest 67 = .ok (.iinc 3 1, 3) := by decide +kernel
theorem dX8_digest_70 : decode cX8_digest 70 = .ok (.goto (-18), 3) := by decide +kernel
theorem dX8_digest_73 : decode cX8_digest 73 = .ok (.lload_n 1, 1) := by decide +kernel
theorem dX8_digest_74 : decode cX8_digest 74 = .ok (.aload_n 0, 1) := by decide +kernel
theorem dX8_digest_75 : decode cX8_digest 75 = .ok (.getfield 29, 3) := by decide +kernel
theorem dX8_digest_78 : decode cX8_digest 78 = .ok (.getfield 145, 3) := by decide +kernel
theorem dX8_digest_81 : decode cX8_digest 81 = .ok (.invokestatic 214, 3) := by decide +kernel
theorem dX8_digest_84 : decode cX8_digest 84 = .ok (.lstore_n 1, 1) := by decide +kernel
theorem dX8_digest_85 : decode cX8_digest 85 = .ok (.iconst 1, 1) := by decide +kernel
theorem dX8_digest_86 : decode cX8_digest 86 = .ok (.istore_n 3, 1) := by decide +kernel
theorem dX8_digest_87 : decode cX8_digest 87 = .ok (.iload_n 3, 1) := by decide +kernel
theorem dX8_digest_88 : decode cX8_digest 88 = .ok (.iconst 2, 1) := by decide +kernel
theorem dX8_digest_89 : decode cX8_digest 89 = .ok (.if_icmp .gt 47, 3) := by decide +kernel
theorem dX8_digest_92 : decode cX8_digest 92 = .ok (.aload_n 0, 1) := by decide +kernel
theorem dX8_digest_93 : decode cX8_digest 93 = .ok (.getfield 36, 3) := by decide +kernel
theorem dX8_digest_96 : decode cX8_digest 96 = .ok (.aload_n 0, 1) := by decide +kernel
theorem dX8_digest_97 : decode cX8_digest 97 = .ok (.getfield 12, 3) := by decide +kernel
theorem dX8_digest_100 : decode cX8_digest 100 = .ok (.iconst 0, 1) := by decide +kernel
theorem dX8_digest_101 : decode cX8_digest 101 = .ok (.invokevirtual 157, 3) := by decide +kernel
theorem dX8_digest_104 : decode cX8_digest 104 = .ok (.aload_n 0, 1) := by decide +kernel
theorem dX8_digest_105 : decode cX8_digest 105 = .ok (.getfield 12, 3) := by decide +kernel
theorem dX8_digest_108 : decode cX8_digest 108 = .ok (.iload_n 3, 1) := by decide +kernel
theorem dX8_digest_109 : decode cX8_digest 109 = .ok (.invokevirtual 157, 3) := by decide +kernel
theorem dX8_digest_112 : decode cX8_digest 112 = .ok (.invokevirtual 158, 3) := by decide +kernel
theorem dX8_digest_115 : decode cX8_digest 115 = .ok (.lload_n 1, 1) := by decide +kernel
theorem dX8_digest_116 : decode cX8_digest 116 = .ok (.aload_n 0, 1) := by decide +kernel
theorem dX8_digest_117 : decode cX8_digest 117 = .ok (.getfield 36, 3) := by decide +kernel
theorem dX8_digest_120 : decode cX8_digest 120 = .ok (.getfield 162, 3) := by decide +kernel
theorem dX8_digest_123 : decode cX8_digest 123 = .ok (.getfield 218, 3) := by decide +kernel
theorem dX8_digest_126 : decode cX8_digest 126 = .ok (.invokestatic 206, 3) := by decide +kernel
theorem dX8_digest_129 : decode cX8_digest 129 = .ok (.lstore_n 1, 1) := by decide +kernel
theorem dX8_digest_130 : decode cX8_digest 130 = .ok (.iinc 3 1, 3) := by decide +kernel
theorem dX8_digest_133 : decode cX8_digest 133 = .ok (.goto (-46), 3) := by decide +kernel
theorem dX8_digest_136 : decode cX8_digest 136 = .ok (.lload_n 1, 1) := by decide +kernel
theorem dX8_digest_137 : decode cX8_digest 137 = .ok (.lreturn, 1) := by decide +kernel
theorem dX8_settled_0 : decode cX8_settled 0 = .ok (.iload_n 1, 1) := by decide +kernel
theorem dX8_settled_1 : decode cX8_settled 1 = .ok (.ifCond .ge 9, 3) := by decide +kernel
theorem dX8_settled_4 : decode cX8_settled 4 = .ok (.aload_n 0, 1) := by decide +kernel
theorem dX8_settled_5 : decode cX8_settled 5 = .ok (.iload_n 1, 1) := by decide +kernel
theorem dX8_settled_6 : decode cX8_settled 6 = .ok (.invokevirtual 109, 3) := by decide +kernel
theorem dX8_settled_9 : decode cX8_settled 9 = .ok (.ireturn, 1) := by decide +kernel
theorem dX8_settled_10 : decode cX8_settled 10 = .ok (.aload_n 0, 1) := by decide +kernel
theorem dX8_settled_11 : decode cX8_settled 11 = .ok (.getfield 22, 3) := by decide +kernel
theorem dX8_settled_14 : decode cX8_settled 14 = .ok (.aload_n 0, 1) := by decide +kernel
theorem dX8_settled_15 : decode cX8_settled 15 = .ok (.getfield 16, 3) := by decide +kernel
theorem dX8_settled_18 : decode cX8_settled 18 = .ok (.invokevirtual 219, 3) := by decide +kernel
theorem dX8_settled_21 : decode cX8_settled 21 = .ok (.aload_n 0, 1) := by decide +kernel
theorem dX8_settled_22 : decode cX8_settled 22 = .ok (.getfield 29, 3) := by decide +kernel
theorem dX8_settled_25 : decode cX8_settled 25 = .ok (.iconst 1, 1) := by decide +kernel
theorem dX8_settled_26 : decode cX8_settled 26 = .ok (.putfield 197, 3) := by decide +kernel
theorem dX8_settled_29 : decode cX8_settled 29 = .ok (.iload_n 1, 1) := by decide +kernel
theorem dX8_settled_30 : decode cX8_settled 30 = .ok (.ireturn, 1) := by decide +kernel
theorem dX8_refuse_0 : decode cX8_refuse 0 = .ok (.iload_n 1, 1) := by decide +kernel
theorem dX8_refuse_1 : decode cX8_refuse 1 = .ok (.bipush (-2), 2) := by decide +kernel
theorem dX8_refuse_3 : decode cX8_refuse 3 = .ok (.if_icmp .ne 16, 3) := by decide +kernel
theorem dX8_refuse_6 : decode cX8_refuse 6 = .ok (.aload_n 0, 1) := by decide +kernel
theorem dX8_refuse_7 : decode cX8_refuse 7 = .ok (.dup, 1) := by decide +kernel
theorem dX8_refuse_8 : decode cX8_refuse 8 = .ok (.getfield 54, 3) := by decide +kernel
theorem dX8_refuse_11 : decode cX8_refuse 11 = .ok (.iconst 1, 1) := by decide +kernel
theorem dX8_refuse_12 : decode cX8_refuse 12 = .ok (.iadd, 1) := by decide +kernel
theorem dX8_refuse_13 : decode cX8_refuse 13 = .ok (.putfield 54, 3) := by decide +kernel
theorem dX8_refuse_16 : decode cX8_refuse 16 = .ok (.goto 32, 3) := by decide +kernel
theorem dX8_refuse_19 : decode cX8_refuse 19 = .ok (.iload_n 1, 1) := by decide +kernel
theorem dX8_refuse_20 : decode cX8_refuse 20 = .ok (.bipush (-3), 2) := by decide +kernel
theorem dX8_refuse_22 : decode cX8_refuse 22 = .ok (.if_icmp .ne 16, 3) := by decide +kernel
theorem dX8_refuse_25 : decode cX8_refuse 25 = .ok (.aload_n 0, 1) := by decide +kernel
theorem dX8_refuse_26 : decode cX8_refuse 26 = .ok (.dup, 1) := by decide +kernel
theorem dX8_refuse_27 : decode cX8_refuse 27 = .ok (.getfield 58, 3) := by decide +kernel
theorem dX8_refuse_30 : decode cX8_refuse 30 = .ok (.iconst 1, 1) := by decide +kernel
theorem dX8_refuse_31 : decode cX8_refuse 31 = .ok (.iadd, 1) := by decide +kernel
theorem dX8_refuse_32 : decode cX8_refuse 32 = .ok (.putfield 58, 3) := by decide +kernel
theorem dX8_refuse_35 : decode cX8_refuse 35 = .ok (.goto 13, 3) := by decide +kernel
theorem dX8_refuse_38 : decode cX8_refuse 38 = .ok (.aload_n 0, 1) := by decide +kernel
theorem dX8_refuse_39 : decode cX8_refuse 39 = .ok (.dup, 1) := by decide +kernel
theorem dX8_refuse_40 : decode cX8_refuse 40 = .ok (.getfield 61, 3) := by decide +kernel
theorem dX8_refuse_43 : decode cX8_refuse 43 = .ok (.iconst 1, 1) := by decide +kernel
theorem dX8_refuse_44 : decode cX8_refuse 44 = .ok (.iadd, 1) := by decide +kernel
theorem dX8_refuse_45 : decode cX8_refuse 45 = .ok (.putfield 61, 3) := by decide +kernel
theorem dX8_refuse_48 : decode cX8_refuse 48 = .ok (.iload_n 1, 1) := by decide +kernel
theorem dX8_refuse_49 : decode cX8_refuse 49 = .ok (.ireturn, 1) := by decide +kernel
theorem dX8_outline_0 : decode cX8_outline 0 = .ok (.iload_n 1, 1) := by decide +kernel
theorem dX8_outline_1 : decode cX8_outline 1 = .ok (.iconst 3, 1) := by decide +kernel
theorem dX8_outline_2 : decode cX8_outline 2 = .ok (.if_icmp .eq 12, 3) := by decide +kernel
theorem dX8_outline_5 : decode cX8_outline 5 = .ok (.aload_n 0, 1) := by decide +kernel
theorem dX8_outline_6 : decode cX8_outline 6 = .ok (.getfield 12, 3) := by decide +kernel
theorem dX8_outline_9 : decode cX8_outline 9 = .ok (.iload_n 1, 1) := by decide +kernel
theorem dX8_outline_10 : decode cX8_outline 10 = .ok (.invokevirtual 157, 3) := by decide +kernel
theorem dX8_outline_13 : decode cX8_outline 13 = .ok (.areturn, 1) := by decide +kernel
theorem dX8_outline_14 : decode cX8_outline 14 = .ok (.aload_n 0, 1) := by decide +kernel
theorem dX8_outline_15 : decode cX8_outline 15 = .ok (.getfield 29, 3) := by decide +kernel
theorem dX8_outline_18 : decode cX8_outline 18 = .ok (.aload_n 0, 1) := by decide +kernel
theorem dX8_outline_19 : decode cX8_outline 19 = .ok (.getfield 12, 3) := by decide +kernel
theorem dX8_outline_22 : decode cX8_outline 22 = .ok (.invokevirtual 142, 3) := by decide +kernel
theorem dX8_outline_25 : decode cX8_outline 25 = .ok (.aload_n 0, 1) := by decide +kernel
theorem dX8_outline_26 : decode cX8_outline 26 = .ok (.getfield 29, 3) := by decide +kernel
theorem dX8_outline_29 : decode cX8_outline 29 = .ok (.getfield 222, 3) := by decide +kernel
theorem dX8_outline_32 : decode cX8_outline 32 = .ok (.areturn, 1) := by decide +kernel
theorem dX8_perform_0 : decode cX8_perform 0 = .ok (.aload_n 0, 1) := by decide +kernel
theorem dX8_perform_1 : decode cX8_perform 1 = .ok (.getfield 50, 3) := by decide +kernel
theorem dX8_perform_4 : decode cX8_perform 4 = .ok (.iload_n 1, 1) := by decide +kernel
theorem dX8_perform_5 : decode cX8_perform 5 = .ok (.iconst 1, 1) := by decide +kernel
theorem dX8_perform_6 : decode cX8_perform 6 = .ok (.invokevirtual 226, 3) := by decide +kernel
theorem dX8_perform_9 : decode cX8_perform 9 = .ok (.istore_n 2, 1) := by decide +kernel
theorem dX8_perform_10 : decode cX8_perform 10 = .ok (.aload_n 0, 1) := by decide +kernel
theorem dX8_perform_11 : decode cX8_perform 11 = .ok (.getfield 50, 3) := by decide +kernel
theorem dX8_perform_14 : decode cX8_perform 14 = .ok (.iload_n 1, 1) := by decide +kernel
theorem dX8_perform_15 : decode cX8_perform 15 = .ok (.iconst 2, 1) := by decide +kernel
theorem dX8_perform_16 : decode cX8_perform 16 = .ok (.invokevirtual 226, 3) := by decide +kernel
theorem dX8_perform_19 : decode cX8_perform 19 = .ok (.istore_n 3, 1) := by decide +kernel
theorem dX8_perform_20 : decode cX8_perform 20 = .ok (.aload_n 0, 1) := by decide +kernel
theorem dX8_perform_21 : decode cX8_perform 21 = .ok (.getfield 50, 3) := by decide +kernel
theorem dX8_perform_24 : decode cX8_perform 24 = .ok (.iload_n 1, 1) := by decide +kernel
theorem dX8_perform_25 : decode cX8_perform 25 = .ok (.iconst 3, 1) := by decide +kernel
theorem dX8_perform_26 : decode cX8_perform 26 = .ok (.invokevirtual 226, 3) := by decide +kernel
theorem dX8_perform_29 : decode cX8_perform 29 = .ok (.istore 4, 2) := by decide +kernel
theorem dX8_perform_31 : decode cX8_perform 31 = .ok (.aload_n 0, 1) := by decide +kernel
theorem dX8_perform_32 : decode cX8_perform 32 = .ok (.getfield 50, 3) := by decide +kernel
theorem dX8_perform_35 : decode cX8_perform 35 = .ok (.iload_n 1, 1) := by decide +kernel
theorem dX8_perform_36 : decode cX8_perform 36 = .ok (.iconst 4, 1) := by decide +kernel
theorem dX8_perform_37 : decode cX8_perform 37 = .ok (.invokevirtual 226, 3) := by decide +kernel
theorem dX8_perform_40 : decode cX8_perform 40 = .ok (.istore 5, 2) := by decide +kernel
theorem dX8_perform_42 : decode cX8_perform 42 = .ok (.aload_n 0, 1) := by decide +kernel
theorem dX8_perform_43 : decode cX8_perform 43 = .ok (.getfield 50, 3) := by decide +kernel
theorem dX8_perform_46 : decode cX8_perform 46 = .ok (.iload_n 1, 1) := by decide +kernel
theorem dX8_perform_47 : decode cX8_perform 47 = .ok (.iconst 0, 1) := by decide +kernel
theorem dX8_perform_48 : decode cX8_perform 48 = .ok (.invokevirtual 226, 3) := by decide +kernel
theorem dX8_perform_51 : decode cX8_perform 51 = .ok (.tableswitch 166 97 114 #[85, 166, 166, 148, 135, 158, 166, 166, 166, 166, 166, 166, 108, 166, 166, 166, 166, 122], 85) := by decide +kernel
theorem dX8_perform_136 : decode cX8_perform 136 = .ok (.aload_n 0, 1) := by decide +kernel
theorem dX8_perform_137 : decode cX8_perform 137 = .ok (.getfield 12, 3) := by decide +kernel
theorem dX8_perform_140 : decode cX8_perform 140 = .ok (.iload_n 2, 1) := by decide +kernel
theorem dX8_perform_141 : decode cX8_perform 141 = .ok (.iload_n 3, 1) := by decide +kernel
theorem dX8_perform_142 : decode cX8_perform 142 = .ok (.iload 4, 2) := by decide +kernel
theorem dX8_perform_144 : decode cX8_perform 144 = .ok (.iload 5, 2) := by decide +kernel
theorem dX8_perform_146 : decode cX8_perform 146 = .ok (.aload_n 0, 1) := by decide +kernel
theorem dX8_perform_147 : decode cX8_perform 147 = .ok (.getfield 50, 3) := by decide +kernel
theorem dX8_perform_150 : decode cX8_perform 150 = .ok (.iload_n 1, 1) := by decide +kernel
theorem dX8_perform_151 : decode cX8_perform 151 = .ok (.iconst 5, 1) := by decide +kernel
theorem dX8_perform_152 : decode cX8_perform 152 = .ok (.invokevirtual 226, 3) := by decide +kernel
theorem dX8_perform_155 : decode cX8_perform 155 = .ok (.invokevirtual 68, 3) := by decide +kernel
theorem dX8_perform_158 : decode cX8_perform 158 = .ok (.ireturn, 1) := by decide +kernel
theorem dX8_perform_159 : decode cX8_perform 159 = .ok (.aload_n 0, 1) := by decide +kernel
theorem dX8_perform_160 : decode cX8_perform 160 = .ok (.getfield 12, 3) := by decide +kernel
theorem dX8_perform_163 : decode cX8_perform 163 = .ok (.iload_n 2, 1) := by decide +kernel
theorem dX8_perform_164 : decode cX8_perform 164 = .ok (.iload_n 3, 1) := by decide +kernel
theorem dX8_perform_165 : decode cX8_perform 165 = .ok (.iload 4, 2) := by decide +kernel
theorem dX8_perform_167 : decode cX8_perform 167 = .ok (.iload 5, 2) := by decide +kernel
theorem dX8_perform_169 : decode cX8_perform 169 = .ok (.invokevirtual 76, 3) := by decide +kernel
theorem dX8_perform_172 : decode cX8_perform 172 = .ok (.ireturn, 1) := by decide +kernel
theorem dX8_perform_173 : decode cX8_perform 173 = .ok (.aload_n 0, 1) := by decide +kernel
theorem dX8_perform_174 : decode cX8_perform 174 = .ok (.getfield 12, 3) := by decide +kernel
theorem dX8_perform_177 : decode cX8_perform 177 = .ok (.iload_n 2, 1) := by decide +kernel
theorem dX8_perform_178 : decode cX8_perform 178 = .ok (.iload_n 3, 1) := by decide +kernel
theorem dX8_perform_179 : decode cX8_perform 179 = .ok (.iconst 2, 1) := by decide +kernel
theorem dX8_perform_180 : decode cX8_perform 180 = .ok (.iload 4, 2) := by decide +kernel
theorem dX8_perform_182 : decode cX8_perform 182 = .ok (.invokevirtual 80, 3) := by decide +kernel
theorem dX8_perform_185 : decode cX8_perform 185 = .ok (.ireturn, 1) := by decide +kernel
theorem dX8_perform_186 : decode cX8_perform 186 = .ok (.aload_n 0, 1) := by decide +kernel
theorem dX8_perform_187 : decode cX8_perform 187 = .ok (.getfield 12, 3) := by decide +kernel
theorem dX8_perform_190 : decode cX8_perform 190 = .ok (.iload_n 2, 1) := by decide +kernel
theorem dX8_perform_191 : decode cX8_perform 191 = .ok (.iload_n 3, 1) := by decide +kernel
theorem dX8_perform_192 : decode cX8_perform 192 = .ok (.iconst 3, 1) := by decide +kernel
theorem dX8_perform_193 : decode cX8_perform 193 = .ok (.iload 4, 2) := by decide +kernel
theorem dX8_perform_195 : decode cX8_perform 195 = .ok (.invokevirtual 80, 3) := by decide +kernel
theorem dX8_perform_198 : decode cX8_perform 198 = .ok (.ireturn, 1) := by decide +kernel
theorem dX8_perform_199 : decode cX8_perform 199 = .ok (.aload_n 0, 1) := by decide +kernel
theorem dX8_perform_200 : decode cX8_perform 200 = .ok (.getfield 12, 3) := by decide +kernel
theorem dX8_perform_203 : decode cX8_perform 203 = .ok (.iload_n 2, 1) := by decide +kernel
theorem dX8_perform_204 : decode cX8_perform 204 = .ok (.iload_n 3, 1) := by decide +kernel
theorem dX8_perform_205 : decode cX8_perform 205 = .ok (.invokevirtual 83, 3) := by decide +kernel
theorem dX8_perform_208 : decode cX8_perform 208 = .ok (.ireturn, 1) := by decide +kernel
theorem dX8_perform_209 : decode cX8_perform 209 = .ok (.aload_n 0, 1) := by decide +kernel
theorem dX8_perform_210 : decode cX8_perform 210 = .ok (.getfield 12, 3) := by decide +kernel
theorem dX8_perform_213 : decode cX8_perform 213 = .ok (.invokevirtual 87, 3) := by decide +kernel
theorem dX8_perform_216 : decode cX8_perform 216 = .ok (.ireturn, 1) := by decide +kernel
theorem dX8_perform_217 : decode cX8_perform 217 = .ok (.aload_n 0, 1) := by decide +kernel
theorem dX8_perform_218 : decode cX8_perform 218 = .ok (.getfield 12, 3) := by decide +kernel
theorem dX8_perform_221 : decode cX8_perform 221 = .ok (.iload_n 2, 1) := by decide +kernel
theorem dX8_perform_222 : decode cX8_perform 222 = .ok (.invokevirtual 91, 3) := by decide +kernel
theorem dX8_perform_225 : decode cX8_perform 225 = .ok (.ireturn, 1) := by decide +kernel
theorem dX8_tellCount_0 : decode cX8_tellCount 0 = .ok (.iload_n 1, 1) := by decide +kernel
theorem dX8_tellCount_1 : decode cX8_tellCount 1 = .ok (.tableswitch 54 0 3 #[31, 36, 41, 46], 31) := by decide +kernel
theorem dX8_tellCount_32 : decode cX8_tellCount 32 = .ok (.aload_n 0, 1) := by decide +kernel
theorem dX8_tellCount_33 : decode cX8_tellCount 33 = .ok (.getfield 54, 3) := by decide +kernel
theorem dX8_tellCount_36 : decode cX8_tellCount 36 = .ok (.ireturn, 1) := by decide +kernel
theorem dX8_tellCount_37 : decode cX8_tellCount 37 = .ok (.aload_n 0, 1) := by decide +kernel
theorem dX8_tellCount_38 : decode cX8_tellCount 38 = .ok (.getfield 58, 3) := by decide +kernel
theorem dX8_tellCount_41 : decode cX8_tellCount 41 = .ok (.ireturn, 1) := by decide +kernel
theorem dX8_tellCount_42 : decode cX8_tellCount 42 = .ok (.aload_n 0, 1) := by decide +kernel
theorem dX8_tellCount_43 : decode cX8_tellCount 43 = .ok (.getfield 61, 3) := by decide +kernel
theorem dX8_tellCount_46 : decode cX8_tellCount 46 = .ok (.ireturn, 1) := by decide +kernel
theorem dX8_tellCount_47 : decode cX8_tellCount 47 = .ok (.aload_n 0, 1) := by decide +kernel
theorem dX8_tellCount_48 : decode cX8_tellCount 48 = .ok (.getfield 50, 3) := by decide +kernel
theorem dX8_tellCount_51 : decode cX8_tellCount 51 = .ok (.getfield 177, 3) := by decide +kernel
theorem dX8_tellCount_54 : decode cX8_tellCount 54 = .ok (.ireturn, 1) := by decide +kernel
theorem dX8_tellCount_55 : decode cX8_tellCount 55 = .ok (.aload_n 0, 1) := by decide +kernel
theorem dX8_tellCount_56 : decode cX8_tellCount 56 = .ok (.getfield 22, 3) := by decide +kernel
theorem dX8_tellCount_59 : decode cX8_tellCount 59 = .ok (.getfield 192, 3) := by decide +kernel
theorem dX8_tellCount_62 : decode cX8_tellCount 62 = .ok (.ireturn, 1) := by decide +kernel
theorem dX8_tellDesk_0 : decode cX8_tellDesk 0 = .ok (.iload_n 1, 1) := by decide +kernel
theorem dX8_tellDesk_1 : decode cX8_tellDesk 1 = .ok (.ifCond .ne 11, 3) := by decide +kernel
theorem dX8_tellDesk_4 : decode cX8_tellDesk 4 = .ok (.aload_n 0, 1) := by decide +kernel
theorem dX8_tellDesk_5 : decode cX8_tellDesk 5 = .ok (.getfield 12, 3) := by decide +kernel
theorem dX8_tellDesk_8 : decode cX8_tellDesk 8 = .ok (.getfield 229, 3) := by decide +kernel
theorem dX8_tellDesk_11 : decode cX8_tellDesk 11 = .ok (.ireturn, 1) := by decide +kernel
theorem dX8_tellDesk_12 : decode cX8_tellDesk 12 = .ok (.iload_n 1, 1) := by decide +kernel
theorem dX8_tellDesk_13 : decode cX8_tellDesk 13 = .ok (.iconst 1, 1) := by decide +kernel
theorem dX8_tellDesk_14 : decode cX8_tellDesk 14 = .ok (.if_icmp .ne 11, 3) := by decide +kernel
theorem dX8_tellDesk_17 : decode cX8_tellDesk 17 = .ok (.aload_n 0, 1) := by decide +kernel
theorem dX8_tellDesk_18 : decode cX8_tellDesk 18 = .ok (.getfield 12, 3) := by decide +kernel
theorem dX8_tellDesk_21 : decode cX8_tellDesk 21 = .ok (.getfield 232, 3) := by decide +kernel
theorem dX8_tellDesk_24 : decode cX8_tellDesk 24 = .ok (.ireturn, 1) := by decide +kernel
theorem dX8_tellDesk_25 : decode cX8_tellDesk 25 = .ok (.aload_n 0, 1) := by decide +kernel
theorem dX8_tellDesk_26 : decode cX8_tellDesk 26 = .ok (.getfield 43, 3) := by decide +kernel
theorem dX8_tellDesk_29 : decode cX8_tellDesk 29 = .ok (.aload_n 0, 1) := by decide +kernel
theorem dX8_tellDesk_30 : decode cX8_tellDesk 30 = .ok (.getfield 12, 3) := by decide +kernel
theorem dX8_tellDesk_33 : decode cX8_tellDesk 33 = .ok (.iconst 0, 1) := by decide +kernel
theorem dX8_tellDesk_34 : decode cX8_tellDesk 34 = .ok (.invokevirtual 157, 3) := by decide +kernel
theorem dX8_tellDesk_37 : decode cX8_tellDesk 37 = .ok (.aload_n 0, 1) := by decide +kernel
theorem dX8_tellDesk_38 : decode cX8_tellDesk 38 = .ok (.getfield 12, 3) := by decide +kernel
theorem dX8_tellDesk_41 : decode cX8_tellDesk 41 = .ok (.iload_n 1, 1) := by decide +kernel
theorem dX8_tellDesk_42 : decode cX8_tellDesk 42 = .ok (.iconst 2, 1) := by decide +kernel
theorem dX8_tellDesk_43 : decode cX8_tellDesk 43 = .ok (.if_icmp .ne 7, 3) := by decide +kernel
theorem dX8_tellDesk_46 : decode cX8_tellDesk 46 = .ok (.iconst 1, 1) := by decide +kernel
theorem dX8_tellDesk_47 : decode cX8_tellDesk 47 = .ok (.goto 4, 3) := by decide +kernel
theorem dX8_tellDesk_50 : decode cX8_tellDesk 50 = .ok (.iconst 2, 1) := by decide +kernel
theorem dX8_tellDesk_51 : decode cX8_tellDesk 51 = .ok (.invokevirtual 157, 3) := by decide +kernel
theorem dX8_tellDesk_54 : decode cX8_tellDesk 54 = .ok (.invokevirtual 165, 3) := by decide +kernel
theorem dX8_tellDesk_57 : decode cX8_tellDesk 57 = .ok (.aload_n 0, 1) := by decide +kernel
theorem dX8_tellDesk_58 : decode cX8_tellDesk 58 = .ok (.getfield 43, 3) := by decide +kernel
theorem dX8_tellDesk_61 : decode cX8_tellDesk 61 = .ok (.invokevirtual 235, 3) := by decide +kernel
theorem dX8_tellDesk_64 : decode cX8_tellDesk 64 = .ok (.ireturn, 1) := by decide +kernel
theorem dX8_mixed_0 : decode cX8_mixed 0 = .ok (.ldc2_w 238, 3) := by decide +kernel
theorem dX8_mixed_3 : decode cX8_mixed 3 = .ok (.lload_n 0, 1) := by decide +kernel
theorem dX8_mixed_4 : decode cX8_mixed 4 = .ok (.lmul, 1) := by decide +kernel
theorem dX8_mixed_5 : decode cX8_mixed 5 = .ok (.iload_n 2, 1) := by decide +kernel
theorem dX8_mixed_6 : decode cX8_mixed 6 = .ok (.i2l, 1) := by decide +kernel
theorem dX8_mixed_7 : decode cX8_mixed 7 = .ok (.ladd, 1) := by decide +kernel
theorem dX8_mixed_8 : decode cX8_mixed 8 = .ok (.lreturn, 1) := by decide +kernel
theorem dX8_mixedOutline_0 : decode cX8_mixedOutline 0 = .ok (.aload_n 2, 1) := by decide +kernel
theorem dX8_mixedOutline_1 : decode cX8_mixedOutline 1 = .ok (.invokevirtual 129, 3) := by decide +kernel
theorem dX8_mixedOutline_4 : decode cX8_mixedOutline 4 = .ok (.istore_n 3, 1) := by decide +kernel
theorem dX8_mixedOutline_5 : decode cX8_mixedOutline 5 = .ok (.lload_n 0, 1) := by decide +kernel
theorem dX8_mixedOutline_6 : decode cX8_mixedOutline 6 = .ok (.iload_n 3, 1) := by decide +kernel
theorem dX8_mixedOutline_7 : decode cX8_mixedOutline 7 = .ok (.invokestatic 206, 3) := by decide +kernel
theorem dX8_mixedOutline_10 : decode cX8_mixedOutline 10 = .ok (.aload_n 2, 1) := by decide +kernel
theorem dX8_mixedOutline_11 : decode cX8_mixedOutline 11 = .ok (.invokevirtual 132, 3) := by decide +kernel
theorem dX8_mixedOutline_14 : decode cX8_mixedOutline 14 = .ok (.invokestatic 206, 3) := by decide +kernel
theorem dX8_mixedOutline_17 : decode cX8_mixedOutline 17 = .ok (.lstore 4, 2) := by decide +kernel
theorem dX8_mixedOutline_19 : decode cX8_mixedOutline 19 = .ok (.iconst 0, 1) := by decide +kernel
theorem dX8_mixedOutline_20 : decode cX8_mixedOutline 20 = .ok (.istore 6, 2) := by decide +kernel
theorem dX8_mixedOutline_22 : decode cX8_mixedOutline 22 = .ok (.iconst 0, 1) := by decide +kernel
theorem dX8_mixedOutline_23 : decode cX8_mixedOutline 23 = .ok (.istore 7, 2) := by decide +kernel
theorem dX8_mixedOutline_25 : decode cX8_mixedOutline 25 = .ok (.iload 7, 2) := by decide +kernel
theorem dX8_mixedOutline_27 : decode cX8_mixedOutline 27 = .ok (.iload_n 3, 1) := by decide +kernel
theorem dX8_mixedOutline_28 : decode cX8_mixedOutline 28 = .ok (.if_icmp .ge 63, 3) := by decide +kernel
theorem dX8_mixedOutline_31 : decode cX8_mixedOutline 31 = .ok (.iload 7, 2) := by decide +kernel
theorem dX8_mixedOutline_33 : decode cX8_mixedOutline 33 = .ok (.bipush 16, 2) := by decide +kernel
theorem dX8_mixedOutline_35 : decode cX8_mixedOutline 35 = .ok (.if_icmp .ge 56, 3) := by decide +kernel
theorem dX8_mixedOutline_38 : decode cX8_mixedOutline 38 = .ok (.lload 4, 2) := by decide +kernel
theorem dX8_mixedOutline_40 : decode cX8_mixedOutline 40 = .ok (.iload 6, 2) := by decide +kernel
theorem dX8_mixedOutline_42 : decode cX8_mixedOutline 42 = .ok (.invokestatic 206, 3) := by decide +kernel
theorem dX8_mixedOutline_45 : decode cX8_mixedOutline 45 = .ok (.lstore 4, 2) := by decide +kernel
theorem dX8_mixedOutline_47 : decode cX8_mixedOutline 47 = .ok (.iconst 0, 1) := by decide +kernel
theorem dX8_mixedOutline_48 : decode cX8_mixedOutline 48 = .ok (.istore 8, 2) := by decide +kernel
theorem dX8_mixedOutline_50 : decode cX8_mixedOutline 50 = .ok (.iload 8, 2) := by decide +kernel
theorem dX8_mixedOutline_52 : decode cX8_mixedOutline 52 = .ok (.iconst 3, 1) := by decide +kernel
theorem dX8_mixedOutline_53 : decode cX8_mixedOutline 53 = .ok (.if_icmp .gt 24, 3) := by decide +kernel
theorem dX8_mixedOutline_56 : decode cX8_mixedOutline 56 = .ok (.lload 4, 2) := by decide +kernel
theorem dX8_mixedOutline_58 : decode cX8_mixedOutline 58 = .ok (.aload_n 2, 1) := by decide +kernel
theorem dX8_mixedOutline_59 : decode cX8_mixedOutline 59 = .ok (.iload 6, 2) := by decide +kernel
theorem dX8_mixedOutline_61 : decode cX8_mixedOutline 61 = .ok (.iload 8, 2) := by decide +kernel
theorem dX8_mixedOutline_63 : decode cX8_mixedOutline 63 = .ok (.invokevirtual 123, 3) := by decide +kernel
theorem dX8_mixedOutline_66 : decode cX8_mixedOutline 66 = .ok (.invokestatic 206, 3) := by decide +kernel
theorem dX8_mixedOutline_69 : decode cX8_mixedOutline 69 = .ok (.lstore 4, 2) := by decide +kernel
theorem dX8_mixedOutline_71 : decode cX8_mixedOutline 71 = .ok (.iinc 8 1, 3) := by decide +kernel
theorem dX8_mixedOutline_74 : decode cX8_mixedOutline 74 = .ok (.goto (-24), 3) := by decide +kernel
theorem dX8_mixedOutline_77 : decode cX8_mixedOutline 77 = .ok (.aload_n 2, 1) := by decide +kernel
theorem dX8_mixedOutline_78 : decode cX8_mixedOutline 78 = .ok (.iload 6, 2) := by decide +kernel
theorem dX8_mixedOutline_80 : decode cX8_mixedOutline 80 = .ok (.invokevirtual 126, 3) := by decide +kernel
theorem dX8_mixedOutline_83 : decode cX8_mixedOutline 83 = .ok (.istore 6, 2) := by decide +kernel
theorem dX8_mixedOutline_85 : decode cX8_mixedOutline 85 = .ok (.iinc 7 1, 3) := by decide +kernel
theorem dX8_mixedOutline_88 : decode cX8_mixedOutline 88 = .ok (.goto (-63), 3) := by decide +kernel
theorem dX8_mixedOutline_91 : decode cX8_mixedOutline 91 = .ok (.lload 4, 2) := by decide +kernel
theorem dX8_mixedOutline_93 : decode cX8_mixedOutline 93 = .ok (.lreturn, 1) := by decide +kernel
theorem dX8_mixedConflicts_0 : decode cX8_mixedConflicts 0 = .ok (.lload_n 0, 1) := by decide +kernel
theorem dX8_mixedConflicts_1 : decode cX8_mixedConflicts 1 = .ok (.aload_n 2, 1) := by decide +kernel
theorem dX8_mixedConflicts_2 : decode cX8_mixedConflicts 2 = .ok (.getfield 218, 3) := by decide +kernel
theorem dX8_mixedConflicts_5 : decode cX8_mixedConflicts 5 = .ok (.invokestatic 206, 3) := by decide +kernel
theorem dX8_mixedConflicts_8 : decode cX8_mixedConflicts 8 = .ok (.lstore_n 3, 1) := by decide +kernel
theorem dX8_mixedConflicts_9 : decode cX8_mixedConflicts 9 = .ok (.iconst 0, 1) := by decide +kernel
theorem dX8_mixedConflicts_10 : decode cX8_mixedConflicts 10 = .ok (.istore 5, 2) := by decide +kernel
theorem dX8_mixedConflicts_12 : decode cX8_mixedConflicts 12 = .ok (.iload 5, 2) := by decide +kernel
theorem dX8_mixedConflicts_14 : decode cX8_mixedConflicts 14 = .ok (.aload_n 2, 1) := by decide +kernel
theorem dX8_mixedConflicts_15 : decode cX8_mixedConflicts 15 = .ok (.getfield 218, 3) := by decide +kernel
theorem dX8_mixedConflicts_18 : decode cX8_mixedConflicts 18 = .ok (.if_icmp .ge 45, 3) := by decide +kernel
theorem dX8_mixedConflicts_21 : decode cX8_mixedConflicts 21 = .ok (.iload 5, 2) := by decide +kernel
theorem dX8_mixedConflicts_23 : decode cX8_mixedConflicts 23 = .ok (.sipush 128, 3) := by decide +kernel
theorem dX8_mixedConflicts_26 : decode cX8_mixedConflicts 26 = .ok (.if_icmp .ge 37, 3) := by decide +kernel
theorem dX8_mixedConflicts_29 : decode cX8_mixedConflicts 29 = .ok (.iconst 0, 1) := by decide +kernel
theorem dX8_mixedConflicts_30 : decode cX8_mixedConflicts 30 = .ok (.istore 6, 2) := by decide +kernel
theorem dX8_mixedConflicts_32 : decode cX8_mixedConflicts 32 = .ok (.iload 6, 2) := by decide +kernel
theorem dX8_mixedConflicts_34 : decode cX8_mixedConflicts 34 = .ok (.iconst 2, 1) := by decide +kernel
theorem dX8_mixedConflicts_35 : decode cX8_mixedConflicts 35 = .ok (.if_icmp .gt 22, 3) := by decide +kernel
theorem dX8_mixedConflicts_38 : decode cX8_mixedConflicts 38 = .ok (.lload_n 3, 1) := by decide +kernel
theorem dX8_mixedConflicts_39 : decode cX8_mixedConflicts 39 = .ok (.aload_n 2, 1) := by decide +kernel
theorem dX8_mixedConflicts_40 : decode cX8_mixedConflicts 40 = .ok (.iload 5, 2) := by decide +kernel
theorem dX8_mixedConflicts_42 : decode cX8_mixedConflicts 42 = .ok (.iload 6, 2) := by decide +kernel
theorem dX8_mixedConflicts_44 : decode cX8_mixedConflicts 44 = .ok (.invokevirtual 149, 3) := by decide +kernel
theorem dX8_mixedConflicts_47 : decode cX8_mixedConflicts 47 = .ok (.invokestatic 206, 3) := by decide +kernel
theorem dX8_mixedConflicts_50 : decode cX8_mixedConflicts 50 = .ok (.lstore_n 3, 1) := by decide +kernel
theorem dX8_mixedConflicts_51 : decode cX8_mixedConflicts 51 = .ok (.iinc 6 1, 3) := by decide +kernel
theorem dX8_mixedConflicts_54 : decode cX8_mixedConflicts 54 = .ok (.goto (-22), 3) := by decide +kernel
theorem dX8_mixedConflicts_57 : decode cX8_mixedConflicts 57 = .ok (.iinc 5 1, 3) := by decide +kernel
theorem dX8_mixedConflicts_60 : decode cX8_mixedConflicts 60 = .ok (.goto (-48), 3) := by decide +kernel
theorem dX8_mixedConflicts_63 : decode cX8_mixedConflicts 63 = .ok (.lload_n 3, 1) := by decide +kernel
theorem dX8_mixedConflicts_64 : decode cX8_mixedConflicts 64 = .ok (.lreturn, 1) := by decide +kernel
theorem dX8_isRowAsked_0 : decode cX8_isRowAsked 0 = .ok (.iload_n 0, 1) := by decide +kernel
theorem dX8_isRowAsked_1 : decode cX8_isRowAsked 1 = .ok (.iconst (-1), 1) := by decide +kernel
theorem dX8_isRowAsked_2 : decode cX8_isRowAsked 2 = .ok (.if_icmp .lt 25, 3) := by decide +kernel
theorem dX8_isRowAsked_5 : decode cX8_isRowAsked 5 = .ok (.iload_n 1, 1) := by decide +kernel
theorem dX8_isRowAsked_6 : decode cX8_isRowAsked 6 = .ok (.ifCond .lt 21, 3) := by decide +kernel
theorem dX8_isRowAsked_9 : decode cX8_isRowAsked 9 = .ok (.iload_n 1, 1) := by decide +kernel
theorem dX8_isRowAsked_10 : decode cX8_isRowAsked 10 = .ok (.iload_n 2, 1) := by decide +kernel
theorem dX8_isRowAsked_11 : decode cX8_isRowAsked 11 = .ok (.if_icmp .ge 16, 3) := by decide +kernel
theorem dX8_isRowAsked_14 : decode cX8_isRowAsked 14 = .ok (.iload_n 0, 1) := by decide +kernel
theorem dX8_isRowAsked_15 : decode cX8_isRowAsked 15 = .ok (.iconst (-1), 1) := by decide +kernel
theorem dX8_isRowAsked_16 : decode cX8_isRowAsked 16 = .ok (.if_icmp .ne 7, 3) := by decide +kernel
theorem dX8_isRowAsked_19 : decode cX8_isRowAsked 19 = .ok (.iload_n 1, 1) := by decide +kernel
theorem dX8_isRowAsked_20 : decode cX8_isRowAsked 20 = .ok (.ifCond .ne 7, 3) := by decide +kernel
theorem dX8_isRowAsked_23 : decode cX8_isRowAsked 23 = .ok (.iconst 1, 1) := by decide +kernel
theorem dX8_isRowAsked_24 : decode cX8_isRowAsked 24 = .ok (.goto 4, 3) := by decide +kernel
theorem dX8_isRowAsked_27 : decode cX8_isRowAsked 27 = .ok (.iconst 0, 1) := by decide +kernel
theorem dX8_isRowAsked_28 : decode cX8_isRowAsked 28 = .ok (.ireturn, 1) := by decide +kernel
theorem dX8_isNumber_0 : decode cX8_isNumber 0 = .ok (.iload_n 0, 1) := by decide +kernel
theorem dX8_isNumber_1 : decode cX8_isNumber 1 = .ok (.ifCond .lt 13, 3) := by decide +kernel
theorem dX8_isNumber_4 : decode cX8_isNumber 4 = .ok (.iload_n 0, 1) := by decide +kernel
theorem dX8_isNumber_5 : decode cX8_isNumber 5 = .ok (.bipush 16, 2) := by decide +kernel
theorem dX8_isNumber_7 : decode cX8_isNumber 7 = .ok (.if_icmp .ge 7, 3) := by decide +kernel
theorem dX8_isNumber_10 : decode cX8_isNumber 10 = .ok (.iconst 1, 1) := by decide +kernel
theorem dX8_isNumber_11 : decode cX8_isNumber 11 = .ok (.goto 4, 3) := by decide +kernel
theorem dX8_isNumber_14 : decode cX8_isNumber 14 = .ok (.iconst 0, 1) := by decide +kernel
theorem dX8_isNumber_15 : decode cX8_isNumber 15 = .ok (.ireturn, 1) := by decide +kernel
theorem dX8_isValue_0 : decode cX8_isValue 0 = .ok (.iload_n 0, 1) := by decide +kernel
theorem dX8_isValue_1 : decode cX8_isValue 1 = .ok (.ifCond .lt 13, 3) := by decide +kernel
theorem dX8_isValue_4 : decode cX8_isValue 4 = .ok (.iload_n 0, 1) := by decide +kernel
theorem dX8_isValue_5 : decode cX8_isValue 5 = .ok (.bipush 100, 2) := by decide +kernel
theorem dX8_isValue_7 : decode cX8_isValue 7 = .ok (.if_icmp .ge 7, 3) := by decide +kernel
theorem dX8_isValue_10 : decode cX8_isValue 10 = .ok (.iconst 1, 1) := by decide +kernel
theorem dX8_isValue_11 : decode cX8_isValue 11 = .ok (.goto 4, 3) := by decide +kernel
theorem dX8_isValue_14 : decode cX8_isValue 14 = .ok (.iconst 0, 1) := by decide +kernel
theorem dX8_isValue_15 : decode cX8_isValue 15 = .ok (.ireturn, 1) := by decide +kernel
theorem dX8_isSide_0 : decode cX8_isSide 0 = .ok (.iload_n 0, 1) := by decide +kernel
theorem dX8_isSide_1 : decode cX8_isSide 1 = .ok (.iconst 1, 1) := by decide +kernel
theorem dX8_isSide_2 : decode cX8_isSide 2 = .ok (.if_icmp .eq 8, 3) := by decide +kernel
theorem dX8_isSide_5 : decode cX8_isSide 5 = .ok (.iload_n 0, 1) := by decide +kernel
theorem dX8_isSide_6 : decode cX8_isSide 6 = .ok (.iconst 2, 1) := by decide +kernel
theorem dX8_isSide_7 : decode cX8_isSide 7 = .ok (.if_icmp .ne 7, 3) := by decide +kernel
theorem dX8_isSide_10 : decode cX8_isSide 10 = .ok (.iconst 1, 1) := by decide +kernel
theorem dX8_isSide_11 : decode cX8_isSide 11 = .ok (.goto 4, 3) := by decide +kernel
theorem dX8_isSide_14 : decode cX8_isSide 14 = .ok (.iconst 0, 1) := by decide +kernel
theorem dX8_isSide_15 : decode cX8_isSide 15 = .ok (.ireturn, 1) := by decide +kernel
theorem dX8_isOwnOutline_0 : decode cX8_isOwnOutline 0 = .ok (.iload_n 0, 1) := by decide +kernel
theorem dX8_isOwnOutline_1 : decode cX8_isOwnOutline 1 = .ok (.ifCond .eq 10, 3) := by decide +kernel
theorem dX8_isOwnOutline_4 : decode cX8_isOwnOutline 4 = .ok (.iload_n 0, 1) := by decide +kernel
theorem dX8_isOwnOutline_5 : decode cX8_isOwnOutline 5 = .ok (.invokestatic 154, 3) := by decide +kernel
theorem dX8_isOwnOutline_8 : decode cX8_isOwnOutline 8 = .ok (.ifCond .eq 7, 3) := by decide +kernel
theorem dX8_isOwnOutline_11 : decode cX8_isOwnOutline 11 = .ok (.iconst 1, 1) := by decide +kernel
theorem dX8_isOwnOutline_12 : decode cX8_isOwnOutline 12 = .ok (.goto 4, 3) := by decide +kernel
theorem dX8_isOwnOutline_15 : decode cX8_isOwnOutline 15 = .ok (.iconst 0, 1) := by decide +kernel
theorem dX8_isOwnOutline_16 : decode cX8_isOwnOutline 16 = .ok (.ireturn, 1) := by decide +kernel
theorem dX8_isAnyOutline_0 : decode cX8_isAnyOutline 0 = .ok (.iload_n 0, 1) := by decide +kernel
theorem dX8_isAnyOutline_1 : decode cX8_isAnyOutline 1 = .ok (.invokestatic 240, 3) := by decide +kernel
theorem dX8_isAnyOutline_4 : decode cX8_isAnyOutline 4 = .ok (.ifCond .ne 8, 3) := by decide +kernel
theorem dX8_isAnyOutline_7 : decode cX8_isAnyOutline 7 = .ok (.iload_n 0, 1) := by decide +kernel
theorem dX8_isAnyOutline_8 : decode cX8_isAnyOutline 8 = .ok (.iconst 3, 1) := by decide +kernel
theorem dX8_isAnyOutline_9 : decode cX8_isAnyOutline 9 = .ok (.if_icmp .ne 7, 3) := by decide +kernel
theorem dX8_isAnyOutline_12 : decode cX8_isAnyOutline 12 = .ok (.iconst 1, 1) := by decide +kernel
theorem dX8_isAnyOutline_13 : decode cX8_isAnyOutline 13 = .ok (.goto 4, 3) := by decide +kernel
theorem dX8_isAnyOutline_16 : decode cX8_isAnyOutline 16 = .ok (.iconst 0, 1) := by decide +kernel
theorem dX8_isAnyOutline_17 : decode cX8_isAnyOutline 17 = .ok (.ireturn, 1) := by decide +kernel
theorem dX9_init_0 : decode cX9_init 0 = .ok (.aload_n 0, 1) := by decide +kernel
theorem dX9_init_1 : decode cX9_init 1 = .ok (.invokespecial 1, 3) := by decide +kernel
theorem dX9_init_4 : decode cX9_init 4 = .ok (.aload_n 0, 1) := by decide +kernel
theorem dX9_init_5 : decode cX9_init 5 = .ok (.sipush 258, 3) := by decide +kernel
theorem dX9_init_8 : decode cX9_init 8 = .ok (.newarray .int, 2) := by decide +kernel
theorem dX9_init_10 : decode cX9_init 10 = .ok (.putfield 7, 3) := by decide +kernel
theorem dX9_init_13 : decode cX9_init 13 = .ok (.aload_n 0, 1) := by decide +kernel
theorem dX9_init_14 : decode cX9_init 14 = .ok (.sipush 258, 3) := by decide +kernel
theorem dX9_init_17 : decode cX9_init 17 = .ok (.newarray .int, 2) := by decide +kernel
theorem dX9_init_19 : decode cX9_init 19 = .ok (.putfield 13, 3) := by decide +kernel
theorem dX9_init_22 : decode cX9_init 22 = .ok (.aload_n 0, 1) := by decide +kernel
theorem dX9_init_23 : decode cX9_init 23 = .ok (.sipush 258, 3) := by decide +kernel
theorem dX9_init_26 : decode cX9_init 26 = .ok (.newarray .int, 2) := by decide +kernel
theorem dX9_init_28 : decode cX9_init 28 = .ok (.putfield 16, 3) := by decide +kernel
theorem dX9_init_31 : decode cX9_init 31 = .ok (.aload_n 0, 1) := by decide +kernel
theorem dX9_init_32 : decode cX9_init 32 = .ok (.sipush 1290, 3) := by decide +kernel
theorem dX9_init_35 : decode cX9_init 35 = .ok (.newarray .int, 2) := by decide +kernel
theorem dX9_init_37 : decode cX9_init 37 = .ok (.putfield 19, 3) := by decide +kernel
theorem dX9_init_40 : decode cX9_init 40 = .ok (.aload_n 0, 1) := by decide +kernel
theorem dX9_init_41 : decode cX9_init 41 = .ok (.iconst 3, 1) := by decide +kernel
theorem dX9_init_42 : decode cX9_init 42 = .ok (.newarray .int, 2) := by decide +kernel
theorem dX9_init_44 : decode cX9_init 44 = .ok (.putfield 22, 3) := by decide +kernel
theorem dX9_init_47 : decode cX9_init 47 = .ok (.aload_n 0, 1) := by decide +kernel
theorem dX9_init_48 : decode cX9_init 48 = .ok (.sipush 150, 3) := by decide +kernel
theorem dX9_init_51 : decode cX9_init 51 = .ok (.newarray .int, 2) := by decide +kernel
theorem dX9_init_53 : decode cX9_init 53 = .ok (.putfield 25, 3) := by decide +kernel
theorem dX9_init_56 : decode cX9_init 56 = .ok (.aload_n 0, 1) := by decide +kernel
theorem dX9_init_57 : decode cX9_init 57 = .ok (.sipush 150, 3) := by decide +kernel
theorem dX9_init_60 : decode cX9_init 60 = .ok (.newarray .int, 2) := by decide +kernel
theorem dX9_init_62 : decode cX9_init 62 = .ok (.putfield 28, 3) := by decide +kernel
theorem dX9_init_65 : decode cX9_init 65 = .ok (.aload_n 0, 1) := by decide +kernel
theorem dX9_init_66 : decode cX9_init 66 = .ok (.sipush 151, 3) := by decide +kernel
theorem dX9_init_69 : decode cX9_init 69 = .ok (.newarray .int, 2) := by decide +kernel
theorem dX9_init_71 : decode cX9_init 71 = .ok (.putfield 31, 3) := by decide +kernel
theorem dX9_init_74 : decode cX9_init 74 = .ok (.aload_n 0, 1) := by decide +kernel
theorem dX9_init_75 : decode cX9_init 75 = .ok (.sipush 150, 3) := by decide +kernel
theorem dX9_init_78 : decode cX9_init 78 = .ok (.newarray .int, 2) := by decide +kernel
theorem dX9_init_80 : decode cX9_init 80 = .ok (.putfield 34, 3) := by decide +kernel
theorem dX9_init_83 : decode cX9_init 83 = .ok (.aload_n 0, 1) := by decide +kernel
theorem dX9_init_84 : decode cX9_init 84 = .ok (.sipush 480, 3) := by decide +kernel
theorem dX9_init_87 : decode cX9_init 87 = .ok (.newarray .int, 2) := by decide +kernel
theorem dX9_init_89 : decode cX9_init 89 = .ok (.putfield 37, 3) := by decide +kernel
theorem dX9_init_92 : decode cX9_init 92 = .ok (.aload_n 0, 1) := by decide +kernel
theorem dX9_init_93 : decode cX9_init 93 = .ok (.bipush 16, 2) := by decide +kernel
theorem dX9_init_95 : decode cX9_init 95 = .ok (.newarray .int, 2) := by decide +kernel
theorem dX9_init_97 : decode cX9_init 97 = .ok (.putfield 40, 3) := by decide +kernel
theorem dX9_init_100 : decode cX9_init 100 = .ok (.aload_n 0, 1) := by decide +kernel
theorem dX9_init_101 : decode cX9_init 101 = .ok (.bipush 16, 2) := by decide +kernel
theorem dX9_init_103 : decode cX9_init 103 = .ok (.newarray .int, 2) := by decide +kernel
theorem dX9_init_105 : decode cX9_init 105 = .ok (.putfield 43, 3) := by decide +kernel
theorem dX9_init_108 : decode cX9_init 108 = .ok (.aload_n 0, 1) := by decide +kernel
theorem dX9_init_109 : decode cX9_init 109 = .ok (.bipush 96, 2) := by decide +kernel
theorem dX9_init_111 : decode cX9_init 111 = .ok (.newarray .int, 2) := by decide +kernel
theorem dX9_init_113 : decode cX9_init 113 = .ok (.putfield 46, 3) := by decide +kernel
theorem dX9_init_116 : decode cX9_init 116 = .ok (.aload_n 0, 1) := by decide +kernel
theorem dX9_init_117 : decode cX9_init 117 = .ok (.bipush 16, 2) := by decide +kernel
theorem dX9_init_119 : decode cX9_init 119 = .ok (.newarray .int, 2) := by decide +kernel
theorem dX9_init_121 : decode cX9_init 121 = .ok (.putfield 49, 3) := by decide +kernel
theorem dX9_init_124 : decode cX9_init 124 = .ok (.iconst 0, 1) := by decide +kernel
theorem dX9_init_125 : decode cX9_init 125 = .ok (.istore_n 1, 1) := by decide +kernel
theorem dX9_init_126 : decode cX9_init 126 = .ok (.iload_n 1, 1) := by decide +kernel
theorem dX9_init_127 : decode cX9_init 127 = .ok (.iconst 4, 1) := by decide +kernel
theorem dX9_init_128 : decode cX9_init 128 = .ok (.if_icmp .ge 44, 3) := by decide +kernel
theorem dX9_init_131 : decode cX9_init 131 = .ok (.iconst 0, 1) := by decide +kernel
theorem dX9_init_132 : decode cX9_init 132 = .ok (.istore_n 2, 1) := by decide +kernel
theorem dX9_init_133 : decode cX9_init 133 = .ok (.iload_n 2, 1) := by decide +kernel
theorem dX9_init_134 : decode cX9_init 134 = .ok (.bipush 16, 2) := by decide +kernel
theorem dX9_init_136 : decode cX9_init 136 = .ok (.if_icmp .ge 30, 3) := by decide +kernel
theorem dX9_init_139 : decode cX9_init 139 = .ok (.aload_n 0, 1) := by decide +kernel
theorem dX9_init_140 : decode cX9_init 140 = .ok (.getfield 7, 3) := by decide +kernel
theorem dX9_init_143 : decode cX9_init 143 = .ok (.bipush 64, 2) := by decide +kernel
theorem dX9_init_145 : decode cX9_init 145 = .ok (.iload_n 1, 1) := by decide +kernel
theorem dX9_init_146 : decode cX9_init 146 = .ok (.imul, 1) := by decide +kernel
theorem dX9_init_147 : decode cX9_init 147 = .ok (.iload_n 2, 1) := by decide +kernel
theorem dX9_init_148 : decode cX9_init 148 = .ok (.iadd, 1) := by decide +kernel
theorem dX9_init_149 : decode cX9_init 149 = .ok (.iload_n 2, 1) := by decide +kernel
theorem dX9_init_150 : decode cX9_init 150 = .ok (.ifCond .ne 7, 3) := by decide +kernel
theorem dX9_init_153 : decode cX9_init 153 = .ok (.iconst (-1), 1) := by decide +kernel
theorem dX9_init_154 : decode cX9_init 154 = .ok (.goto 5, 3) := by decide +kernel
theorem dX9_init_157 : decode cX9_init 157 = .ok (.bipush (-9), 2) := by decide +kernel
theorem dX9_init_159 : decode cX9_init 159 = .ok (.iastore, 1) := by decide +kernel
theorem dX9_init_160 : decode cX9_init 160 = .ok (.iinc 2 1, 3) := by decide +kernel
theorem dX9_init_163 : decode cX9_init 163 = .ok (.goto (-30), 3) := by decide +kernel
theorem dX9_init_166 : decode cX9_init 166 = .ok (.iinc 1 1, 3) := by decide +kernel
theorem dX9_init_169 : decode cX9_init 169 = .ok (.goto (-43), 3) := by decide +kernel
theorem dX9_init_172 : decode cX9_init 172 = .ok (.aload_n 0, 1) := by decide +kernel
theorem dX9_init_173 : decode cX9_init 173 = .ok (.getfield 7, 3) := by decide +kernel
theorem dX9_init_176 : decode cX9_init 176 = .ok (.sipush 256, 3) := by decide +kernel
theorem dX9_init_179 : decode cX9_init 179 = .ok (.iconst 1, 1) := by decide +kernel
theorem dX9_init_180 : decode cX9_init 180 = .ok (.iastore, 1) := by decide +kernel
theorem dX9_init_181 : decode cX9_init 181 = .ok (.aload_n 0, 1) := by decide +kernel
theorem dX9_init_182 : decode cX9_init 182 = .ok (.getfield 7, 3) := by decide +kernel
theorem dX9_init_185 : decode cX9_init 185 = .ok (.sipush 257, 3) := by decide +kernel
end
section
theorem dX9_init_188 : decode cX9_init 188 = .ok (.iconst 1, 1) := by decide +kernel
theorem dX9_init_189 : decode cX9_init 189 = .ok (.iastore, 1) := by decide +kernel
theorem dX9_init_190 : decode cX9_init 190 = .ok (.return_, 1) := by decide +kernel
theorem dX9_in_0 : decode cX9_in 0 = .ok (.iload_n 0, 1) := by decide +kernel
theorem dX9_in_1 : decode cX9_in 1 = .ok (.iload_n 1, 1) := by decide +kernel
theorem dX9_in_2 : decode cX9_in 2 = .ok (.if_icmp .lt 12, 3) := by decide +kernel
theorem dX9_in_5 : decode cX9_in 5 = .ok (.iload_n 0, 1) := by decide +kernel
theorem dX9_in_6 : decode cX9_in 6 = .ok (.iload_n 2, 1) := by decide +kernel
theorem dX9_in_7 : decode cX9_in 7 = .ok (.if_icmp .gt 7, 3) := by decide +kernel
theorem dX9_in_10 : decode cX9_in 10 = .ok (.iconst 1, 1) := by decide +kernel
theorem dX9_in_11 : decode cX9_in 11 = .ok (.goto 4, 3) := by decide +kernel
theorem dX9_in_14 : decode cX9_in 14 = .ok (.iconst 0, 1) := by decide +kernel
theorem dX9_in_15 : decode cX9_in 15 = .ok (.ireturn, 1) := by decide +kernel
theorem dX9_bring_0 : decode cX9_bring 0 = .ok (.iconst 0, 1) := by decide +kernel
theorem dX9_bring_1 : decode cX9_bring 1 = .ok (.istore 5, 2) := by decide +kernel
theorem dX9_bring_3 : decode cX9_bring 3 = .ok (.iload 5, 2) := by decide +kernel
theorem dX9_bring_5 : decode cX9_bring 5 = .ok (.iload 4, 2) := by decide +kernel
theorem dX9_bring_7 : decode cX9_bring 7 = .ok (.if_icmp .ge 21, 3) := by decide +kernel
theorem dX9_bring_10 : decode cX9_bring 10 = .ok (.aload_n 2, 1) := by decide +kernel
theorem dX9_bring_11 : decode cX9_bring 11 = .ok (.iload_n 3, 1) := by decide +kernel
theorem dX9_bring_12 : decode cX9_bring 12 = .ok (.iload 5, 2) := by decide +kernel
theorem dX9_bring_14 : decode cX9_bring 14 = .ok (.iadd, 1) := by decide +kernel
theorem dX9_bring_15 : decode cX9_bring 15 = .ok (.aload_n 0, 1) := by decide +kernel
theorem dX9_bring_16 : decode cX9_bring 16 = .ok (.iload_n 1, 1) := by decide +kernel
theorem dX9_bring_17 : decode cX9_bring 17 = .ok (.iload 5, 2) := by decide +kernel
theorem dX9_bring_19 : decode cX9_bring 19 = .ok (.iadd, 1) := by decide +kernel
theorem dX9_bring_20 : decode cX9_bring 20 = .ok (.iaload, 1) := by decide +kernel
theorem dX9_bring_21 : decode cX9_bring 21 = .ok (.iastore, 1) := by decide +kernel
theorem dX9_bring_22 : decode cX9_bring 22 = .ok (.iinc 5 1, 3) := by decide +kernel
theorem dX9_bring_25 : decode cX9_bring 25 = .ok (.goto (-22), 3) := by decide +kernel
theorem dX9_bring_28 : decode cX9_bring 28 = .ok (.return_, 1) := by decide +kernel
theorem dX9_refuse_0 : decode cX9_refuse 0 = .ok (.aload_n 0, 1) := by decide +kernel
theorem dX9_refuse_1 : decode cX9_refuse 1 = .ok (.getfield 22, 3) := by decide +kernel
theorem dX9_refuse_4 : decode cX9_refuse 4 = .ok (.bipush (-2), 2) := by decide +kernel
theorem dX9_refuse_6 : decode cX9_refuse 6 = .ok (.iload_n 1, 1) := by decide +kernel
theorem dX9_refuse_7 : decode cX9_refuse 7 = .ok (.isub, 1) := by decide +kernel
theorem dX9_refuse_8 : decode cX9_refuse 8 = .ok (.dup2, 1) := by decide +kernel
theorem dX9_refuse_9 : decode cX9_refuse 9 = .ok (.iaload, 1) := by decide +kernel
theorem dX9_refuse_10 : decode cX9_refuse 10 = .ok (.iconst 1, 1) := by decide +kernel
theorem dX9_refuse_11 : decode cX9_refuse 11 = .ok (.iadd, 1) := by decide +kernel
theorem dX9_refuse_12 : decode cX9_refuse 12 = .ok (.iastore, 1) := by decide +kernel
theorem dX9_refuse_13 : decode cX9_refuse 13 = .ok (.iload_n 1, 1) := by decide +kernel
theorem dX9_refuse_14 : decode cX9_refuse 14 = .ok (.ireturn, 1) := by decide +kernel
theorem dX9_save_0 : decode cX9_save 0 = .ok (.aload_n 0, 1) := by decide +kernel
theorem dX9_save_1 : decode cX9_save 1 = .ok (.getfield 7, 3) := by decide +kernel
theorem dX9_save_4 : decode cX9_save 4 = .ok (.iconst 0, 1) := by decide +kernel
theorem dX9_save_5 : decode cX9_save 5 = .ok (.aload_n 0, 1) := by decide +kernel
theorem dX9_save_6 : decode cX9_save 6 = .ok (.getfield 13, 3) := by decide +kernel
theorem dX9_save_9 : decode cX9_save 9 = .ok (.iconst 0, 1) := by decide +kernel
theorem dX9_save_10 : decode cX9_save 10 = .ok (.sipush 258, 3) := by decide +kernel
theorem dX9_save_13 : decode cX9_save 13 = .ok (.invokestatic 52, 3) := by decide +kernel
theorem dX9_save_16 : decode cX9_save 16 = .ok (.return_, 1) := by decide +kernel
theorem dX9_isRefused_0 : decode cX9_isRefused 0 = .ok (.iload_n 0, 1) := by decide +kernel
theorem dX9_isRefused_1 : decode cX9_isRefused 1 = .ok (.bipush (-2), 2) := by decide +kernel
theorem dX9_isRefused_3 : decode cX9_isRefused 3 = .ok (.if_icmp .gt 13, 3) := by decide +kernel
theorem dX9_isRefused_6 : decode cX9_isRefused 6 = .ok (.iload_n 0, 1) := by decide +kernel
theorem dX9_isRefused_7 : decode cX9_isRefused 7 = .ok (.bipush (-4), 2) := by decide +kernel
theorem dX9_isRefused_9 : decode cX9_isRefused 9 = .ok (.if_icmp .lt 7, 3) := by decide +kernel
theorem dX9_isRefused_12 : decode cX9_isRefused 12 = .ok (.iconst 1, 1) := by decide +kernel
theorem dX9_isRefused_13 : decode cX9_isRefused 13 = .ok (.goto 4, 3) := by decide +kernel
theorem dX9_isRefused_16 : decode cX9_isRefused 16 = .ok (.iconst 0, 1) := by decide +kernel
theorem dX9_isRefused_17 : decode cX9_isRefused 17 = .ok (.ireturn, 1) := by decide +kernel
theorem dX9_finish_0 : decode cX9_finish 0 = .ok (.iload_n 1, 1) := by decide +kernel
theorem dX9_finish_1 : decode cX9_finish 1 = .ok (.invokestatic 56, 3) := by decide +kernel
theorem dX9_finish_4 : decode cX9_finish 4 = .ok (.ifCond .eq 9, 3) := by decide +kernel
theorem dX9_finish_7 : decode cX9_finish 7 = .ok (.aload_n 0, 1) := by decide +kernel
theorem dX9_finish_8 : decode cX9_finish 8 = .ok (.iload_n 1, 1) := by decide +kernel
theorem dX9_finish_9 : decode cX9_finish 9 = .ok (.invokevirtual 60, 3) := by decide +kernel
theorem dX9_finish_12 : decode cX9_finish 12 = .ok (.ireturn, 1) := by decide +kernel
theorem dX9_finish_13 : decode cX9_finish 13 = .ok (.aload_n 0, 1) := by decide +kernel
theorem dX9_finish_14 : decode cX9_finish 14 = .ok (.getfield 64, 3) := by decide +kernel
theorem dX9_finish_17 : decode cX9_finish 17 = .ok (.iconst 5, 1) := by decide +kernel
theorem dX9_finish_18 : decode cX9_finish 18 = .ok (.if_icmp .ne 31, 3) := by decide +kernel
theorem dX9_finish_21 : decode cX9_finish 21 = .ok (.aload_n 0, 1) := by decide +kernel
theorem dX9_finish_22 : decode cX9_finish 22 = .ok (.getfield 19, 3) := by decide +kernel
theorem dX9_finish_25 : decode cX9_finish 25 = .ok (.sipush 258, 3) := by decide +kernel
theorem dX9_finish_28 : decode cX9_finish 28 = .ok (.aload_n 0, 1) := by decide +kernel
theorem dX9_finish_29 : decode cX9_finish 29 = .ok (.getfield 19, 3) := by decide +kernel
theorem dX9_finish_32 : decode cX9_finish 32 = .ok (.iconst 0, 1) := by decide +kernel
theorem dX9_finish_33 : decode cX9_finish 33 = .ok (.sipush 1032, 3) := by decide +kernel
theorem dX9_finish_36 : decode cX9_finish 36 = .ok (.invokestatic 52, 3) := by decide +kernel
theorem dX9_finish_39 : decode cX9_finish 39 = .ok (.aload_n 0, 1) := by decide +kernel
theorem dX9_finish_40 : decode cX9_finish 40 = .ok (.dup, 1) := by decide +kernel
theorem dX9_finish_41 : decode cX9_finish 41 = .ok (.getfield 64, 3) := by decide +kernel
theorem dX9_finish_44 : decode cX9_finish 44 = .ok (.iconst 1, 1) := by decide +kernel
theorem dX9_finish_45 : decode cX9_finish 45 = .ok (.isub, 1) := by decide +kernel
theorem dX9_finish_46 : decode cX9_finish 46 = .ok (.putfield 64, 3) := by decide +kernel
theorem dX9_finish_49 : decode cX9_finish 49 = .ok (.aload_n 0, 1) := by decide +kernel
theorem dX9_finish_50 : decode cX9_finish 50 = .ok (.getfield 13, 3) := by decide +kernel
theorem dX9_finish_53 : decode cX9_finish 53 = .ok (.iconst 0, 1) := by decide +kernel
theorem dX9_finish_54 : decode cX9_finish 54 = .ok (.aload_n 0, 1) := by decide +kernel
theorem dX9_finish_55 : decode cX9_finish 55 = .ok (.getfield 19, 3) := by decide +kernel
theorem dX9_finish_58 : decode cX9_finish 58 = .ok (.sipush 258, 3) := by decide +kernel
theorem dX9_finish_61 : decode cX9_finish 61 = .ok (.aload_n 0, 1) := by decide +kernel
theorem dX9_finish_62 : decode cX9_finish 62 = .ok (.getfield 64, 3) := by decide +kernel
theorem dX9_finish_65 : decode cX9_finish 65 = .ok (.imul, 1) := by decide +kernel
theorem dX9_finish_66 : decode cX9_finish 66 = .ok (.sipush 258, 3) := by decide +kernel
theorem dX9_finish_69 : decode cX9_finish 69 = .ok (.invokestatic 52, 3) := by decide +kernel
theorem dX9_finish_72 : decode cX9_finish 72 = .ok (.aload_n 0, 1) := by decide +kernel
theorem dX9_finish_73 : decode cX9_finish 73 = .ok (.dup, 1) := by decide +kernel
theorem dX9_finish_74 : decode cX9_finish 74 = .ok (.getfield 64, 3) := by decide +kernel
theorem dX9_finish_77 : decode cX9_finish 77 = .ok (.iconst 1, 1) := by decide +kernel
theorem dX9_finish_78 : decode cX9_finish 78 = .ok (.iadd, 1) := by decide +kernel
theorem dX9_finish_79 : decode cX9_finish 79 = .ok (.putfield 64, 3) := by decide +kernel
theorem dX9_finish_82 : decode cX9_finish 82 = .ok (.iload_n 1, 1) := by decide +kernel
theorem dX9_finish_83 : decode cX9_finish 83 = .ok (.ireturn, 1) := by decide +kernel
theorem dX9_isIn_0 : decode cX9_isIn 0 = .ok (.aload_n 0, 1) := by decide +kernel
theorem dX9_isIn_1 : decode cX9_isIn 1 = .ok (.getfield 7, 3) := by decide +kernel
theorem dX9_isIn_4 : decode cX9_isIn 4 = .ok (.bipush 64, 2) := by decide +kernel
theorem dX9_isIn_6 : decode cX9_isIn 6 = .ok (.iload_n 1, 1) := by decide +kernel
theorem dX9_isIn_7 : decode cX9_isIn 7 = .ok (.imul, 1) := by decide +kernel
theorem dX9_isIn_8 : decode cX9_isIn 8 = .ok (.iload_n 2, 1) := by decide +kernel
theorem dX9_isIn_9 : decode cX9_isIn 9 = .ok (.iadd, 1) := by decide +kernel
theorem dX9_isIn_10 : decode cX9_isIn 10 = .ok (.iaload, 1) := by decide +kernel
theorem dX9_isIn_11 : decode cX9_isIn 11 = .ok (.bipush (-9), 2) := by decide +kernel
theorem dX9_isIn_13 : decode cX9_isIn 13 = .ok (.if_icmp .eq 7, 3) := by decide +kernel
theorem dX9_isIn_16 : decode cX9_isIn 16 = .ok (.iconst 1, 1) := by decide +kernel
theorem dX9_isIn_17 : decode cX9_isIn 17 = .ok (.goto 4, 3) := by decide +kernel
theorem dX9_isIn_20 : decode cX9_isIn 20 = .ok (.iconst 0, 1) := by decide +kernel
theorem dX9_isIn_21 : decode cX9_isIn 21 = .ok (.ireturn, 1) := by decide +kernel
theorem dX9_isThere_0 : decode cX9_isThere 0 = .ok (.iload_n 2, 1) := by decide +kernel
theorem dX9_isThere_1 : decode cX9_isThere 1 = .ok (.iconst 0, 1) := by decide +kernel
theorem dX9_isThere_2 : decode cX9_isThere 2 = .ok (.bipush 15, 2) := by decide +kernel
theorem dX9_isThere_4 : decode cX9_isThere 4 = .ok (.invokestatic 68, 3) := by decide +kernel
theorem dX9_isThere_7 : decode cX9_isThere 7 = .ok (.ifCond .eq 16, 3) := by decide +kernel
theorem dX9_isThere_10 : decode cX9_isThere 10 = .ok (.aload_n 0, 1) := by decide +kernel
theorem dX9_isThere_11 : decode cX9_isThere 11 = .ok (.iload_n 1, 1) := by decide +kernel
theorem dX9_isThere_12 : decode cX9_isThere 12 = .ok (.iload_n 2, 1) := by decide +kernel
theorem dX9_isThere_13 : decode cX9_isThere 13 = .ok (.invokevirtual 72, 3) := by decide +kernel
theorem dX9_isThere_16 : decode cX9_isThere 16 = .ok (.ifCond .eq 7, 3) := by decide +kernel
theorem dX9_isThere_19 : decode cX9_isThere 19 = .ok (.iconst 1, 1) := by decide +kernel
theorem dX9_isThere_20 : decode cX9_isThere 20 = .ok (.goto 4, 3) := by decide +kernel
theorem dX9_isThere_23 : decode cX9_isThere 23 = .ok (.iconst 0, 1) := by decide +kernel
theorem dX9_isThere_24 : decode cX9_isThere 24 = .ok (.ireturn, 1) := by decide +kernel
theorem dX9_parentOf_0 : decode cX9_parentOf 0 = .ok (.aload_n 0, 1) := by decide +kernel
theorem dX9_parentOf_1 : decode cX9_parentOf 1 = .ok (.getfield 7, 3) := by decide +kernel
theorem dX9_parentOf_4 : decode cX9_parentOf 4 = .ok (.bipush 64, 2) := by decide +kernel
theorem dX9_parentOf_6 : decode cX9_parentOf 6 = .ok (.iload_n 1, 1) := by decide +kernel
theorem dX9_parentOf_7 : decode cX9_parentOf 7 = .ok (.imul, 1) := by decide +kernel
theorem dX9_parentOf_8 : decode cX9_parentOf 8 = .ok (.iload_n 2, 1) := by decide +kernel
theorem dX9_parentOf_9 : decode cX9_parentOf 9 = .ok (.iadd, 1) := by decide +kernel
theorem dX9_parentOf_10 : decode cX9_parentOf 10 = .ok (.iaload, 1) := by decide +kernel
theorem dX9_parentOf_11 : decode cX9_parentOf 11 = .ok (.ireturn, 1) := by decide +kernel
theorem dX9_placeOf_0 : decode cX9_placeOf 0 = .ok (.aload_n 0, 1) := by decide +kernel
theorem dX9_placeOf_1 : decode cX9_placeOf 1 = .ok (.getfield 7, 3) := by decide +kernel
theorem dX9_placeOf_4 : decode cX9_placeOf 4 = .ok (.bipush 64, 2) := by decide +kernel
theorem dX9_placeOf_6 : decode cX9_placeOf 6 = .ok (.iload_n 1, 1) := by decide +kernel
theorem dX9_placeOf_7 : decode cX9_placeOf 7 = .ok (.imul, 1) := by decide +kernel
theorem dX9_placeOf_8 : decode cX9_placeOf 8 = .ok (.bipush 16, 2) := by decide +kernel
theorem dX9_placeOf_10 : decode cX9_placeOf 10 = .ok (.iadd, 1) := by decide +kernel
theorem dX9_placeOf_11 : decode cX9_placeOf 11 = .ok (.iload_n 2, 1) := by decide +kernel
theorem dX9_placeOf_12 : decode cX9_placeOf 12 = .ok (.iadd, 1) := by decide +kernel
theorem dX9_placeOf_13 : decode cX9_placeOf 13 = .ok (.iaload, 1) := by decide +kernel
theorem dX9_placeOf_14 : decode cX9_placeOf 14 = .ok (.ireturn, 1) := by decide +kernel
theorem dX9_nameOf_0 : decode cX9_nameOf 0 = .ok (.aload_n 0, 1) := by decide +kernel
theorem dX9_nameOf_1 : decode cX9_nameOf 1 = .ok (.getfield 7, 3) := by decide +kernel
theorem dX9_nameOf_4 : decode cX9_nameOf 4 = .ok (.bipush 64, 2) := by decide +kernel
theorem dX9_nameOf_6 : decode cX9_nameOf 6 = .ok (.iload_n 1, 1) := by decide +kernel
theorem dX9_nameOf_7 : decode cX9_nameOf 7 = .ok (.imul, 1) := by decide +kernel
theorem dX9_nameOf_8 : decode cX9_nameOf 8 = .ok (.bipush 32, 2) := by decide +kernel
theorem dX9_nameOf_10 : decode cX9_nameOf 10 = .ok (.iadd, 1) := by decide +kernel
theorem dX9_nameOf_11 : decode cX9_nameOf 11 = .ok (.iload_n 2, 1) := by decide +kernel
theorem dX9_nameOf_12 : decode cX9_nameOf 12 = .ok (.iadd, 1) := by decide +kernel
theorem dX9_nameOf_13 : decode cX9_nameOf 13 = .ok (.iaload, 1) := by decide +kernel
theorem dX9_nameOf_14 : decode cX9_nameOf 14 = .ok (.ireturn, 1) := by decide +kernel
theorem dX9_textOf_0 : decode cX9_textOf 0 = .ok (.aload_n 0, 1) := by decide +kernel
theorem dX9_textOf_1 : decode cX9_textOf 1 = .ok (.getfield 7, 3) := by decide +kernel
theorem dX9_textOf_4 : decode cX9_textOf 4 = .ok (.bipush 64, 2) := by decide +kernel
theorem dX9_textOf_6 : decode cX9_textOf 6 = .ok (.iload_n 1, 1) := by decide +kernel
theorem dX9_textOf_7 : decode cX9_textOf 7 = .ok (.imul, 1) := by decide +kernel
theorem dX9_textOf_8 : decode cX9_textOf 8 = .ok (.bipush 48, 2) := by decide +kernel
theorem dX9_textOf_10 : decode cX9_textOf 10 = .ok (.iadd, 1) := by decide +kernel
theorem dX9_textOf_11 : decode cX9_textOf 11 = .ok (.iload_n 2, 1) := by decide +kernel
theorem dX9_textOf_12 : decode cX9_textOf 12 = .ok (.iadd, 1) := by decide +kernel
theorem dX9_textOf_13 : decode cX9_textOf 13 = .ok (.iaload, 1) := by decide +kernel
theorem dX9_textOf_14 : decode cX9_textOf 14 = .ok (.ireturn, 1) := by decide +kernel
theorem dX9_childrenOf_0 : decode cX9_childrenOf 0 = .ok (.iconst 0, 1) := by decide +kernel
theorem dX9_childrenOf_1 : decode cX9_childrenOf 1 = .ok (.istore_n 3, 1) := by decide +kernel
theorem dX9_childrenOf_2 : decode cX9_childrenOf 2 = .ok (.iconst 1, 1) := by decide +kernel
theorem dX9_childrenOf_3 : decode cX9_childrenOf 3 = .ok (.istore 4, 2) := by decide +kernel
theorem dX9_childrenOf_5 : decode cX9_childrenOf 5 = .ok (.iload 4, 2) := by decide +kernel
theorem dX9_childrenOf_7 : decode cX9_childrenOf 7 = .ok (.bipush 16, 2) := by decide +kernel
theorem dX9_childrenOf_9 : decode cX9_childrenOf 9 = .ok (.if_icmp .ge 28, 3) := by decide +kernel
theorem dX9_childrenOf_12 : decode cX9_childrenOf 12 = .ok (.iload_n 3, 1) := by decide +kernel
theorem dX9_childrenOf_13 : decode cX9_childrenOf 13 = .ok (.aload_n 0, 1) := by decide +kernel
theorem dX9_childrenOf_14 : decode cX9_childrenOf 14 = .ok (.iload_n 1, 1) := by decide +kernel
theorem dX9_childrenOf_15 : decode cX9_childrenOf 15 = .ok (.iload 4, 2) := by decide +kernel
theorem dX9_childrenOf_17 : decode cX9_childrenOf 17 = .ok (.invokevirtual 76, 3) := by decide +kernel
theorem dX9_childrenOf_20 : decode cX9_childrenOf 20 = .ok (.iload_n 2, 1) := by decide +kernel
theorem dX9_childrenOf_21 : decode cX9_childrenOf 21 = .ok (.if_icmp .ne 7, 3) := by decide +kernel
theorem dX9_childrenOf_24 : decode cX9_childrenOf 24 = .ok (.iconst 1, 1) := by decide +kernel
theorem dX9_childrenOf_25 : decode cX9_childrenOf 25 = .ok (.goto 4, 3) := by decide +kernel
theorem dX9_childrenOf_28 : decode cX9_childrenOf 28 = .ok (.iconst 0, 1) := by decide +kernel
theorem dX9_childrenOf_29 : decode cX9_childrenOf 29 = .ok (.iadd, 1) := by decide +kernel
theorem dX9_childrenOf_30 : decode cX9_childrenOf 30 = .ok (.istore_n 3, 1) := by decide +kernel
theorem dX9_childrenOf_31 : decode cX9_childrenOf 31 = .ok (.iinc 4 1, 3) := by decide +kernel
theorem dX9_childrenOf_34 : decode cX9_childrenOf 34 = .ok (.goto (-29), 3) := by decide +kernel
theorem dX9_childrenOf_37 : decode cX9_childrenOf 37 = .ok (.iload_n 3, 1) := by decide +kernel
theorem dX9_childrenOf_38 : decode cX9_childrenOf 38 = .ok (.ireturn, 1) := by decide +kernel
theorem dX9_manyIn_0 : decode cX9_manyIn 0 = .ok (.iconst 0, 1) := by decide +kernel
theorem dX9_manyIn_1 : decode cX9_manyIn 1 = .ok (.istore_n 2, 1) := by decide +kernel
theorem dX9_manyIn_2 : decode cX9_manyIn 2 = .ok (.iconst 0, 1) := by decide +kernel
theorem dX9_manyIn_3 : decode cX9_manyIn 3 = .ok (.istore_n 3, 1) := by decide +kernel
theorem dX9_manyIn_4 : decode cX9_manyIn 4 = .ok (.iload_n 3, 1) := by decide +kernel
theorem dX9_manyIn_5 : decode cX9_manyIn 5 = .ok (.bipush 16, 2) := by decide +kernel
theorem dX9_manyIn_7 : decode cX9_manyIn 7 = .ok (.if_icmp .ge 26, 3) := by decide +kernel
theorem dX9_manyIn_10 : decode cX9_manyIn 10 = .ok (.iload_n 2, 1) := by decide +kernel
theorem dX9_manyIn_11 : decode cX9_manyIn 11 = .ok (.aload_n 0, 1) := by decide +kernel
theorem dX9_manyIn_12 : decode cX9_manyIn 12 = .ok (.iload_n 1, 1) := by decide +kernel
theorem dX9_manyIn_13 : decode cX9_manyIn 13 = .ok (.iload_n 3, 1) := by decide +kernel
theorem dX9_manyIn_14 : decode cX9_manyIn 14 = .ok (.invokevirtual 72, 3) := by decide +kernel
theorem dX9_manyIn_17 : decode cX9_manyIn 17 = .ok (.ifCond .eq 7, 3) := by decide +kernel
theorem dX9_manyIn_20 : decode cX9_manyIn 20 = .ok (.iconst 1, 1) := by decide +kernel
theorem dX9_manyIn_21 : decode cX9_manyIn 21 = .ok (.goto 4, 3) := by decide +kernel
theorem dX9_manyIn_24 : decode cX9_manyIn 24 = .ok (.iconst 0, 1) := by decide +kernel
theorem dX9_manyIn_25 : decode cX9_manyIn 25 = .ok (.iadd, 1) := by decide +kernel
theorem dX9_manyIn_26 : decode cX9_manyIn 26 = .ok (.istore_n 2, 1) := by decide +kernel
theorem dX9_manyIn_27 : decode cX9_manyIn 27 = .ok (.iinc 3 1, 3) := by decide +kernel
theorem dX9_manyIn_30 : decode cX9_manyIn 30 = .ok (.goto (-26), 3) := by decide +kernel
theorem dX9_manyIn_33 : decode cX9_manyIn 33 = .ok (.iload_n 2, 1) := by decide +kernel
theorem dX9_manyIn_34 : decode cX9_manyIn 34 = .ok (.ireturn, 1) := by decide +kernel
theorem dX9_belowOf_0 : decode cX9_belowOf 0 = .ok (.iconst 1, 1) := by decide +kernel
theorem dX9_belowOf_1 : decode cX9_belowOf 1 = .ok (.iload_n 2, 1) := by decide +kernel
theorem dX9_belowOf_2 : decode cX9_belowOf 2 = .ok (.ishl, 1) := by decide +kernel
theorem dX9_belowOf_3 : decode cX9_belowOf 3 = .ok (.istore_n 3, 1) := by decide +kernel
theorem dX9_belowOf_4 : decode cX9_belowOf 4 = .ok (.iconst 0, 1) := by decide +kernel
theorem dX9_belowOf_5 : decode cX9_belowOf 5 = .ok (.istore 4, 2) := by decide +kernel
theorem dX9_belowOf_7 : decode cX9_belowOf 7 = .ok (.iload_n 3, 1) := by decide +kernel
theorem dX9_belowOf_8 : decode cX9_belowOf 8 = .ok (.iload 4, 2) := by decide +kernel
theorem dX9_belowOf_10 : decode cX9_belowOf 10 = .ok (.if_icmp .eq 62, 3) := by decide +kernel
theorem dX9_belowOf_13 : decode cX9_belowOf 13 = .ok (.iload_n 3, 1) := by decide +kernel
theorem dX9_belowOf_14 : decode cX9_belowOf 14 = .ok (.istore 4, 2) := by decide +kernel
theorem dX9_belowOf_16 : decode cX9_belowOf 16 = .ok (.iconst 1, 1) := by decide +kernel
theorem dX9_belowOf_17 : decode cX9_belowOf 17 = .ok (.istore 5, 2) := by decide +kernel
theorem dX9_belowOf_19 : decode cX9_belowOf 19 = .ok (.iload 5, 2) := by decide +kernel
theorem dX9_belowOf_21 : decode cX9_belowOf 21 = .ok (.bipush 16, 2) := by decide +kernel
theorem dX9_belowOf_23 : decode cX9_belowOf 23 = .ok (.if_icmp .ge 46, 3) := by decide +kernel
theorem dX9_belowOf_26 : decode cX9_belowOf 26 = .ok (.iload_n 3, 1) := by decide +kernel
theorem dX9_belowOf_27 : decode cX9_belowOf 27 = .ok (.aload_n 0, 1) := by decide +kernel
theorem dX9_belowOf_28 : decode cX9_belowOf 28 = .ok (.iload_n 1, 1) := by decide +kernel
theorem dX9_belowOf_29 : decode cX9_belowOf 29 = .ok (.iload 5, 2) := by decide +kernel
theorem dX9_belowOf_31 : decode cX9_belowOf 31 = .ok (.invokevirtual 72, 3) := by decide +kernel
theorem dX9_belowOf_34 : decode cX9_belowOf 34 = .ok (.ifCond .eq 26, 3) := by decide +kernel
theorem dX9_belowOf_37 : decode cX9_belowOf 37 = .ok (.iload 4, 2) := by decide +kernel
theorem dX9_belowOf_39 : decode cX9_belowOf 39 = .ok (.aload_n 0, 1) := by decide +kernel
theorem dX9_belowOf_40 : decode cX9_belowOf 40 = .ok (.iload_n 1, 1) := by decide +kernel
theorem dX9_belowOf_41 : decode cX9_belowOf 41 = .ok (.iload 5, 2) := by decide +kernel
theorem dX9_belowOf_43 : decode cX9_belowOf 43 = .ok (.invokevirtual 76, 3) := by decide +kernel
theorem dX9_belowOf_46 : decode cX9_belowOf 46 = .ok (.ishr, 1) := by decide +kernel
theorem dX9_belowOf_47 : decode cX9_belowOf 47 = .ok (.iconst 1, 1) := by decide +kernel
theorem dX9_belowOf_48 : decode cX9_belowOf 48 = .ok (.iand, 1) := by decide +kernel
theorem dX9_belowOf_49 : decode cX9_belowOf 49 = .ok (.iconst 1, 1) := by decide +kernel
theorem dX9_belowOf_50 : decode cX9_belowOf 50 = .ok (.if_icmp .ne 10, 3) := by decide +kernel
theorem dX9_belowOf_53 : decode cX9_belowOf 53 = .ok (.iconst 1, 1) := by decide +kernel
theorem dX9_belowOf_54 : decode cX9_belowOf 54 = .ok (.iload 5, 2) := by decide +kernel
theorem dX9_belowOf_56 : decode cX9_belowOf 56 = .ok (.ishl, 1) := by decide +kernel
theorem dX9_belowOf_57 : decode cX9_belowOf 57 = .ok (.goto 4, 3) := by decide +kernel
theorem dX9_belowOf_60 : decode cX9_belowOf 60 = .ok (.iconst 0, 1) := by decide +kernel
theorem dX9_belowOf_61 : decode cX9_belowOf 61 = .ok (.ior, 1) := by decide +kernel
theorem dX9_belowOf_62 : decode cX9_belowOf 62 = .ok (.istore_n 3, 1) := by decide +kernel
theorem dX9_belowOf_63 : decode cX9_belowOf 63 = .ok (.iinc 5 1, 3) := by decide +kernel
theorem dX9_belowOf_66 : decode cX9_belowOf 66 = .ok (.goto (-47), 3) := by decide +kernel
theorem dX9_belowOf_69 : decode cX9_belowOf 69 = .ok (.goto (-62), 3) := by decide +kernel
theorem dX9_belowOf_72 : decode cX9_belowOf 72 = .ok (.iload_n 3, 1) := by decide +kernel
theorem dX9_belowOf_73 : decode cX9_belowOf 73 = .ok (.ireturn, 1) := by decide +kernel
theorem dX9_ones_0 : decode cX9_ones 0 = .ok (.iconst 0, 1) := by decide +kernel
theorem dX9_ones_1 : decode cX9_ones 1 = .ok (.istore_n 1, 1) := by decide +kernel
theorem dX9_ones_2 : decode cX9_ones 2 = .ok (.iconst 0, 1) := by decide +kernel
theorem dX9_ones_3 : decode cX9_ones 3 = .ok (.istore_n 2, 1) := by decide +kernel
theorem dX9_ones_4 : decode cX9_ones 4 = .ok (.iload_n 2, 1) := by decide +kernel
theorem dX9_ones_5 : decode cX9_ones 5 = .ok (.bipush 16, 2) := by decide +kernel
theorem dX9_ones_7 : decode cX9_ones 7 = .ok (.if_icmp .ge 17, 3) := by decide +kernel
theorem dX9_ones_10 : decode cX9_ones 10 = .ok (.iload_n 1, 1) := by decide +kernel
theorem dX9_ones_11 : decode cX9_ones 11 = .ok (.iload_n 0, 1) := by decide +kernel
theorem dX9_ones_12 : decode cX9_ones 12 = .ok (.iload_n 2, 1) := by decide +kernel
theorem dX9_ones_13 : decode cX9_ones 13 = .ok (.ishr, 1) := by decide +kernel
theorem dX9_ones_14 : decode cX9_ones 14 = .ok (.iconst 1, 1) := by decide +kernel
theorem dX9_ones_15 : decode cX9_ones 15 = .ok (.iand, 1) := by decide +kernel
theorem dX9_ones_16 : decode cX9_ones 16 = .ok (.iadd, 1) := by decide +kernel
theorem dX9_ones_17 : decode cX9_ones 17 = .ok (.istore_n 1, 1) := by decide +kernel
theorem dX9_ones_18 : decode cX9_ones 18 = .ok (.iinc 2 1, 3) := by decide +kernel
theorem dX9_ones_21 : decode cX9_ones 21 = .ok (.goto (-17), 3) := by decide +kernel
theorem dX9_ones_24 : decode cX9_ones 24 = .ok (.iload_n 1, 1) := by decide +kernel
theorem dX9_ones_25 : decode cX9_ones 25 = .ok (.ireturn, 1) := by decide +kernel
theorem dX9_push_0 : decode cX9_push 0 = .ok (.iconst 1, 1) := by decide +kernel
theorem dX9_push_1 : decode cX9_push 1 = .ok (.istore 5, 2) := by decide +kernel
theorem dX9_push_3 : decode cX9_push 3 = .ok (.iload 5, 2) := by decide +kernel
theorem dX9_push_5 : decode cX9_push 5 = .ok (.bipush 16, 2) := by decide +kernel
theorem dX9_push_7 : decode cX9_push 7 = .ok (.if_icmp .ge 55, 3) := by decide +kernel
theorem dX9_push_10 : decode cX9_push 10 = .ok (.aload_n 0, 1) := by decide +kernel
theorem dX9_push_11 : decode cX9_push 11 = .ok (.getfield 7, 3) := by decide +kernel
theorem dX9_push_14 : decode cX9_push 14 = .ok (.bipush 64, 2) := by decide +kernel
theorem dX9_push_16 : decode cX9_push 16 = .ok (.iload_n 1, 1) := by decide +kernel
theorem dX9_push_17 : decode cX9_push 17 = .ok (.imul, 1) := by decide +kernel
theorem dX9_push_18 : decode cX9_push 18 = .ok (.bipush 16, 2) := by decide +kernel
theorem dX9_push_20 : decode cX9_push 20 = .ok (.iadd, 1) := by decide +kernel
theorem dX9_push_21 : decode cX9_push 21 = .ok (.iload 5, 2) := by decide +kernel
theorem dX9_push_23 : decode cX9_push 23 = .ok (.iadd, 1) := by decide +kernel
theorem dX9_push_24 : decode cX9_push 24 = .ok (.dup2, 1) := by decide +kernel
theorem dX9_push_25 : decode cX9_push 25 = .ok (.iaload, 1) := by decide +kernel
theorem dX9_push_26 : decode cX9_push 26 = .ok (.aload_n 0, 1) := by decide +kernel
theorem dX9_push_27 : decode cX9_push 27 = .ok (.iload_n 1, 1) := by decide +kernel
theorem dX9_push_28 : decode cX9_push 28 = .ok (.iload 5, 2) := by decide +kernel
theorem dX9_push_30 : decode cX9_push 30 = .ok (.invokevirtual 76, 3) := by decide +kernel
theorem dX9_push_33 : decode cX9_push 33 = .ok (.iload_n 2, 1) := by decide +kernel
theorem dX9_push_34 : decode cX9_push 34 = .ok (.if_icmp .ne 19, 3) := by decide +kernel
theorem dX9_push_37 : decode cX9_push 37 = .ok (.aload_n 0, 1) := by decide +kernel
theorem dX9_push_38 : decode cX9_push 38 = .ok (.iload_n 1, 1) := by decide +kernel
theorem dX9_push_39 : decode cX9_push 39 = .ok (.iload 5, 2) := by decide +kernel
theorem dX9_push_41 : decode cX9_push 41 = .ok (.invokevirtual 80, 3) := by decide +kernel
theorem dX9_push_44 : decode cX9_push 44 = .ok (.iload_n 3, 1) := by decide +kernel
theorem dX9_push_45 : decode cX9_push 45 = .ok (.if_icmp .lt 8, 3) := by decide +kernel
theorem dX9_push_48 : decode cX9_push 48 = .ok (.iload 4, 2) := by decide +kernel
theorem dX9_push_50 : decode cX9_push 50 = .ok (.goto 4, 3) := by decide +kernel
theorem dX9_push_53 : decode cX9_push 53 = .ok (.iconst 0, 1) := by decide +kernel
theorem dX9_push_54 : decode cX9_push 54 = .ok (.iadd, 1) := by decide +kernel
theorem dX9_push_55 : decode cX9_push 55 = .ok (.iastore, 1) := by decide +kernel
theorem dX9_push_56 : decode cX9_push 56 = .ok (.iinc 5 1, 3) := by decide +kernel
theorem dX9_push_59 : decode cX9_push 59 = .ok (.goto (-56), 3) := by decide +kernel
theorem dX9_push_62 : decode cX9_push 62 = .ok (.return_, 1) := by decide +kernel
theorem dX9_hang_0 : decode cX9_hang 0 = .ok (.aload_n 0, 1) := by decide +kernel
theorem dX9_hang_1 : decode cX9_hang 1 = .ok (.iload_n 1, 1) := by decide +kernel
theorem dX9_hang_2 : decode cX9_hang 2 = .ok (.iload_n 3, 1) := by decide +kernel
theorem dX9_hang_3 : decode cX9_hang 3 = .ok (.iload 4, 2) := by decide +kernel
theorem dX9_hang_5 : decode cX9_hang 5 = .ok (.iconst 1, 1) := by decide +kernel
theorem dX9_hang_6 : decode cX9_hang 6 = .ok (.invokevirtual 83, 3) := by decide +kernel
theorem dX9_hang_9 : decode cX9_hang 9 = .ok (.aload_n 0, 1) := by decide +kernel
theorem dX9_hang_10 : decode cX9_hang 10 = .ok (.getfield 7, 3) := by decide +kernel
theorem dX9_hang_13 : decode cX9_hang 13 = .ok (.bipush 64, 2) := by decide +kernel
theorem dX9_hang_15 : decode cX9_hang 15 = .ok (.iload_n 1, 1) := by decide +kernel
theorem dX9_hang_16 : decode cX9_hang 16 = .ok (.imul, 1) := by decide +kernel
theorem dX9_hang_17 : decode cX9_hang 17 = .ok (.iload_n 2, 1) := by decide +kernel
theorem dX9_hang_18 : decode cX9_hang 18 = .ok (.iadd, 1) := by decide +kernel
theorem dX9_hang_19 : decode cX9_hang 19 = .ok (.iload_n 3, 1) := by decide +kernel
theorem dX9_hang_20 : decode cX9_hang 20 = .ok (.iastore, 1) := by decide +kernel
theorem dX9_hang_21 : decode cX9_hang 21 = .ok (.aload_n 0, 1) := by decide +kernel
theorem dX9_hang_22 : decode cX9_hang 22 = .ok (.getfield 7, 3) := by decide +kernel
theorem dX9_hang_25 : decode cX9_hang 25 = .ok (.bipush 64, 2) := by decide +kernel
theorem dX9_hang_27 : decode cX9_hang 27 = .ok (.iload_n 1, 1) := by decide +kernel
theorem dX9_hang_28 : decode cX9_hang 28 = .ok (.imul, 1) := by decide +kernel
theorem dX9_hang_29 : decode cX9_hang 29 = .ok (.bipush 16, 2) := by decide +kernel
theorem dX9_hang_31 : decode cX9_hang 31 = .ok (.iadd, 1) := by decide +kernel
theorem dX9_hang_32 : decode cX9_hang 32 = .ok (.iload_n 2, 1) := by decide +kernel
theorem dX9_hang_33 : decode cX9_hang 33 = .ok (.iadd, 1) := by decide +kernel
theorem dX9_hang_34 : decode cX9_hang 34 = .ok (.iload 4, 2) := by decide +kernel
theorem dX9_hang_36 : decode cX9_hang 36 = .ok (.iastore, 1) := by decide +kernel
theorem dX9_hang_37 : decode cX9_hang 37 = .ok (.return_, 1) := by decide +kernel
theorem dX9_unhang_0 : decode cX9_unhang 0 = .ok (.aload_n 0, 1) := by decide +kernel
theorem dX9_unhang_1 : decode cX9_unhang 1 = .ok (.iload_n 1, 1) := by decide +kernel
theorem dX9_unhang_2 : decode cX9_unhang 2 = .ok (.iload_n 2, 1) := by decide +kernel
theorem dX9_unhang_3 : decode cX9_unhang 3 = .ok (.invokevirtual 76, 3) := by decide +kernel
theorem dX9_unhang_6 : decode cX9_unhang 6 = .ok (.istore_n 3, 1) := by decide +kernel
theorem dX9_unhang_7 : decode cX9_unhang 7 = .ok (.aload_n 0, 1) := by decide +kernel
theorem dX9_unhang_8 : decode cX9_unhang 8 = .ok (.iload_n 1, 1) := by decide +kernel
theorem dX9_unhang_9 : decode cX9_unhang 9 = .ok (.iload_n 2, 1) := by decide +kernel
theorem dX9_unhang_10 : decode cX9_unhang 10 = .ok (.invokevirtual 80, 3) := by decide +kernel
theorem dX9_unhang_13 : decode cX9_unhang 13 = .ok (.istore 4, 2) := by decide +kernel
theorem dX9_unhang_15 : decode cX9_unhang 15 = .ok (.aload_n 0, 1) := by decide +kernel
theorem dX9_unhang_16 : decode cX9_unhang 16 = .ok (.getfield 7, 3) := by decide +kernel
theorem dX9_unhang_19 : decode cX9_unhang 19 = .ok (.bipush 64, 2) := by decide +kernel
theorem dX9_unhang_21 : decode cX9_unhang 21 = .ok (.iload_n 1, 1) := by decide +kernel
theorem dX9_unhang_22 : decode cX9_unhang 22 = .ok (.imul, 1) := by decide +kernel
theorem dX9_unhang_23 : decode cX9_unhang 23 = .ok (.iload_n 2, 1) := by decide +kernel
theorem dX9_unhang_24 : decode cX9_unhang 24 = .ok (.iadd, 1) := by decide +kernel
theorem dX9_unhang_25 : decode cX9_unhang 25 = .ok (.bipush (-9), 2) := by decide +kernel
theorem dX9_unhang_27 : decode cX9_unhang 27 = .ok (.iastore, 1) := by decide +kernel
theorem dX9_unhang_28 : decode cX9_unhang 28 = .ok (.aload_n 0, 1) := by decide +kernel
theorem dX9_unhang_29 : decode cX9_unhang 29 = .ok (.iload_n 1, 1) := by decide +kernel
theorem dX9_unhang_30 : decode cX9_unhang 30 = .ok (.iload_n 3, 1) := by decide +kernel
theorem dX9_unhang_31 : decode cX9_unhang 31 = .ok (.iload 4, 2) := by decide +kernel
theorem dX9_unhang_33 : decode cX9_unhang 33 = .ok (.iconst (-1), 1) := by decide +kernel
theorem dX9_unhang_34 : decode cX9_unhang 34 = .ok (.invokevirtual 83, 3) := by decide +kernel
theorem dX9_unhang_37 : decode cX9_unhang 37 = .ok (.return_, 1) := by decide +kernel
theorem dX9_isOutline_0 : decode cX9_isOutline 0 = .ok (.iload_n 0, 1) := by decide +kernel
theorem dX9_isOutline_1 : decode cX9_isOutline 1 = .ok (.iconst 0, 1) := by decide +kernel
theorem dX9_isOutline_2 : decode cX9_isOutline 2 = .ok (.iconst 2, 1) := by decide +kernel
theorem dX9_isOutline_3 : decode cX9_isOutline 3 = .ok (.invokestatic 68, 3) := by decide +kernel
theorem dX9_isOutline_6 : decode cX9_isOutline 6 = .ok (.ireturn, 1) := by decide +kernel
theorem dX9_isWord_0 : decode cX9_isWord 0 = .ok (.iload_n 0, 1) := by decide +kernel
theorem dX9_isWord_1 : decode cX9_isWord 1 = .ok (.iconst 0, 1) := by decide +kernel
theorem dX9_isWord_2 : decode cX9_isWord 2 = .ok (.bipush 99, 2) := by decide +kernel
theorem dX9_isWord_4 : decode cX9_isWord 4 = .ok (.invokestatic 68, 3) := by decide +kernel
theorem dX9_isWord_7 : decode cX9_isWord 7 = .ok (.ireturn, 1) := by decide +kernel
theorem dX9_add_0 : decode cX9_add 0 = .ok (.iload_n 1, 1) := by decide +kernel
theorem dX9_add_1 : decode cX9_add 1 = .ok (.invokestatic 87, 3) := by decide +kernel
theorem dX9_add_4 : decode cX9_add 4 = .ok (.ifCond .eq 42, 3) := by decide +kernel
theorem dX9_add_7 : decode cX9_add 7 = .ok (.aload_n 0, 1) := by decide +kernel
theorem dX9_add_8 : decode cX9_add 8 = .ok (.iload_n 1, 1) := by decide +kernel
theorem dX9_add_9 : decode cX9_add 9 = .ok (.iload_n 2, 1) := by decide +kernel
theorem dX9_add_10 : decode cX9_add 10 = .ok (.invokevirtual 90, 3) := by decide +kernel
theorem dX9_add_13 : decode cX9_add 13 = .ok (.ifCond .eq 33, 3) := by decide +kernel
theorem dX9_add_16 : decode cX9_add 16 = .ok (.iload_n 3, 1) := by decide +kernel
theorem dX9_add_17 : decode cX9_add 17 = .ok (.iconst 0, 1) := by decide +kernel
theorem dX9_add_18 : decode cX9_add 18 = .ok (.aload_n 0, 1) := by decide +kernel
theorem dX9_add_19 : decode cX9_add 19 = .ok (.iload_n 1, 1) := by decide +kernel
theorem dX9_add_20 : decode cX9_add 20 = .ok (.iload_n 2, 1) := by decide +kernel
theorem dX9_add_21 : decode cX9_add 21 = .ok (.invokevirtual 93, 3) := by decide +kernel
theorem dX9_add_24 : decode cX9_add 24 = .ok (.invokestatic 68, 3) := by decide +kernel
theorem dX9_add_27 : decode cX9_add 27 = .ok (.ifCond .eq 19, 3) := by decide +kernel
theorem dX9_add_30 : decode cX9_add 30 = .ok (.iload 4, 2) := by decide +kernel
theorem dX9_add_32 : decode cX9_add 32 = .ok (.invokestatic 96, 3) := by decide +kernel
theorem dX9_add_35 : decode cX9_add 35 = .ok (.ifCond .eq 11, 3) := by decide +kernel
theorem dX9_add_38 : decode cX9_add 38 = .ok (.iload 5, 2) := by decide +kernel
theorem dX9_add_40 : decode cX9_add 40 = .ok (.invokestatic 96, 3) := by decide +kernel
theorem dX9_add_43 : decode cX9_add 43 = .ok (.ifCond .ne 6, 3) := by decide +kernel
theorem dX9_add_46 : decode cX9_add 46 = .ok (.bipush (-2), 2) := by decide +kernel
theorem dX9_add_48 : decode cX9_add 48 = .ok (.ireturn, 1) := by decide +kernel
theorem dX9_add_49 : decode cX9_add 49 = .ok (.aload_n 0, 1) := by decide +kernel
theorem dX9_add_50 : decode cX9_add 50 = .ok (.getfield 7, 3) := by decide +kernel
theorem dX9_add_53 : decode cX9_add 53 = .ok (.sipush 257, 3) := by decide +kernel
theorem dX9_add_56 : decode cX9_add 56 = .ok (.iaload, 1) := by decide +kernel
theorem dX9_add_57 : decode cX9_add 57 = .ok (.istore 6, 2) := by decide +kernel
theorem dX9_add_59 : decode cX9_add 59 = .ok (.iload 6, 2) := by decide +kernel
theorem dX9_add_61 : decode cX9_add 61 = .ok (.bipush 16, 2) := by decide +kernel
theorem dX9_add_63 : decode cX9_add 63 = .ok (.if_icmp .ne 6, 3) := by decide +kernel
theorem dX9_add_66 : decode cX9_add 66 = .ok (.bipush (-4), 2) := by decide +kernel
theorem dX9_add_68 : decode cX9_add 68 = .ok (.ireturn, 1) := by decide +kernel
theorem dX9_add_69 : decode cX9_add 69 = .ok (.aload_n 0, 1) := by decide +kernel
theorem dX9_add_70 : decode cX9_add 70 = .ok (.getfield 7, 3) := by decide +kernel
theorem dX9_add_73 : decode cX9_add 73 = .ok (.sipush 257, 3) := by decide +kernel
theorem dX9_add_76 : decode cX9_add 76 = .ok (.dup2, 1) := by decide +kernel
theorem dX9_add_77 : decode cX9_add 77 = .ok (.iaload, 1) := by decide +kernel
theorem dX9_add_78 : decode cX9_add 78 = .ok (.iconst 1, 1) := by decide +kernel
theorem dX9_add_79 : decode cX9_add 79 = .ok (.iadd, 1) := by decide +kernel
theorem dX9_add_80 : decode cX9_add 80 = .ok (.iastore, 1) := by decide +kernel
theorem dX9_add_81 : decode cX9_add 81 = .ok (.aload_n 0, 1) := by decide +kernel
theorem dX9_add_82 : decode cX9_add 82 = .ok (.iload_n 1, 1) := by decide +kernel
theorem dX9_add_83 : decode cX9_add 83 = .ok (.iload 6, 2) := by decide +kernel
theorem dX9_add_85 : decode cX9_add 85 = .ok (.iload_n 2, 1) := by decide +kernel
theorem dX9_add_86 : decode cX9_add 86 = .ok (.iload_n 3, 1) := by decide +kernel
theorem dX9_add_87 : decode cX9_add 87 = .ok (.invokevirtual 99, 3) := by decide +kernel
theorem dX9_add_90 : decode cX9_add 90 = .ok (.aload_n 0, 1) := by decide +kernel
theorem dX9_add_91 : decode cX9_add 91 = .ok (.getfield 7, 3) := by decide +kernel
theorem dX9_add_94 : decode cX9_add 94 = .ok (.bipush 64, 2) := by decide +kernel
theorem dX9_add_96 : decode cX9_add 96 = .ok (.iload_n 1, 1) := by decide +kernel
theorem dX9_add_97 : decode cX9_add 97 = .ok (.imul, 1) := by decide +kernel
theorem dX9_add_98 : decode cX9_add 98 = .ok (.bipush 32, 2) := by decide +kernel
theorem dX9_add_100 : decode cX9_add 100 = .ok (.iadd, 1) := by decide +kernel
theorem dX9_add_101 : decode cX9_add 101 = .ok (.iload 6, 2) := by decide +kernel
theorem dX9_add_103 : decode cX9_add 103 = .ok (.iadd, 1) := by decide +kernel
theorem dX9_add_104 : decode cX9_add 104 = .ok (.iload 4, 2) := by decide +kernel
theorem dX9_add_106 : decode cX9_add 106 = .ok (.iastore, 1) := by decide +kernel
theorem dX9_add_107 : decode cX9_add 107 = .ok (.aload_n 0, 1) := by decide +kernel
theorem dX9_add_108 : decode cX9_add 108 = .ok (.getfield 7, 3) := by decide +kernel
theorem dX9_add_111 : decode cX9_add 111 = .ok (.bipush 64, 2) := by decide +kernel
theorem dX9_add_113 : decode cX9_add 113 = .ok (.iload_n 1, 1) := by decide +kernel
theorem dX9_add_114 : decode cX9_add 114 = .ok (.imul, 1) := by decide +kernel
theorem dX9_add_115 : decode cX9_add 115 = .ok (.bipush 48, 2) := by decide +kernel
theorem dX9_add_117 : decode cX9_add 117 = .ok (.iadd, 1) := by decide +kernel
theorem dX9_add_118 : decode cX9_add 118 = .ok (.iload 6, 2) := by decide +kernel
theorem dX9_add_120 : decode cX9_add 120 = .ok (.iadd, 1) := by decide +kernel
theorem dX9_add_121 : decode cX9_add 121 = .ok (.iload 5, 2) := by decide +kernel
theorem dX9_add_123 : decode cX9_add 123 = .ok (.iastore, 1) := by decide +kernel
theorem dX9_add_124 : decode cX9_add 124 = .ok (.iload 6, 2) := by decide +kernel
theorem dX9_add_126 : decode cX9_add 126 = .ok (.ireturn, 1) := by decide +kernel
theorem dX9_move_0 : decode cX9_move 0 = .ok (.iload_n 1, 1) := by decide +kernel
theorem dX9_move_1 : decode cX9_move 1 = .ok (.invokestatic 87, 3) := by decide +kernel
theorem dX9_move_4 : decode cX9_move 4 = .ok (.ifCond .eq 25, 3) := by decide +kernel
theorem dX9_move_7 : decode cX9_move 7 = .ok (.aload_n 0, 1) := by decide +kernel
theorem dX9_move_8 : decode cX9_move 8 = .ok (.iload_n 1, 1) := by decide +kernel
theorem dX9_move_9 : decode cX9_move 9 = .ok (.iload_n 2, 1) := by decide +kernel
theorem dX9_move_10 : decode cX9_move 10 = .ok (.invokevirtual 90, 3) := by decide +kernel
theorem dX9_move_13 : decode cX9_move 13 = .ok (.ifCond .eq 16, 3) := by decide +kernel
theorem dX9_move_16 : decode cX9_move 16 = .ok (.iload_n 2, 1) := by decide +kernel
theorem dX9_move_17 : decode cX9_move 17 = .ok (.ifCond .eq 12, 3) := by decide +kernel
theorem dX9_move_20 : decode cX9_move 20 = .ok (.aload_n 0, 1) := by decide +kernel
theorem dX9_move_21 : decode cX9_move 21 = .ok (.iload_n 1, 1) := by decide +kernel
theorem dX9_move_22 : decode cX9_move 22 = .ok (.iload_n 3, 1) := by decide +kernel
theorem dX9_move_23 : decode cX9_move 23 = .ok (.invokevirtual 90, 3) := by decide +kernel
theorem dX9_move_26 : decode cX9_move 26 = .ok (.ifCond .ne 6, 3) := by decide +kernel
theorem dX9_move_29 : decode cX9_move 29 = .ok (.bipush (-2), 2) := by decide +kernel
theorem dX9_move_31 : decode cX9_move 31 = .ok (.ireturn, 1) := by decide +kernel
theorem dX9_move_32 : decode cX9_move 32 = .ok (.aload_n 0, 1) := by decide +kernel
theorem dX9_move_33 : decode cX9_move 33 = .ok (.iload_n 1, 1) := by decide +kernel
theorem dX9_move_34 : decode cX9_move 34 = .ok (.iload_n 3, 1) := by decide +kernel
theorem dX9_move_35 : decode cX9_move 35 = .ok (.invokevirtual 93, 3) := by decide +kernel
theorem dX9_move_38 : decode cX9_move 38 = .ok (.aload_n 0, 1) := by decide +kernel
theorem dX9_move_39 : decode cX9_move 39 = .ok (.iload_n 1, 1) := by decide +kernel
theorem dX9_move_40 : decode cX9_move 40 = .ok (.iload_n 2, 1) := by decide +kernel
theorem dX9_move_41 : decode cX9_move 41 = .ok (.invokevirtual 76, 3) := by decide +kernel
theorem dX9_move_44 : decode cX9_move 44 = .ok (.iload_n 3, 1) := by decide +kernel
theorem dX9_move_45 : decode cX9_move 45 = .ok (.if_icmp .ne 7, 3) := by decide +kernel
theorem dX9_move_48 : decode cX9_move 48 = .ok (.iconst 1, 1) := by decide +kernel
theorem dX9_move_49 : decode cX9_move 49 = .ok (.goto 4, 3) := by decide +kernel
theorem dX9_move_52 : decode cX9_move 52 = .ok (.iconst 0, 1) := by decide +kernel
theorem dX9_move_53 : decode cX9_move 53 = .ok (.isub, 1) := by decide +kernel
theorem dX9_move_54 : decode cX9_move 54 = .ok (.istore 5, 2) := by decide +kernel
theorem dX9_move_56 : decode cX9_move 56 = .ok (.iload 4, 2) := by decide +kernel
theorem dX9_move_58 : decode cX9_move 58 = .ok (.iconst 0, 1) := by decide +kernel
theorem dX9_move_59 : decode cX9_move 59 = .ok (.iload 5, 2) := by decide +kernel
theorem dX9_move_61 : decode cX9_move 61 = .ok (.invokestatic 68, 3) := by decide +kernel
theorem dX9_move_64 : decode cX9_move 64 = .ok (.ifCond .ne 6, 3) := by decide +kernel
theorem dX9_move_67 : decode cX9_move 67 = .ok (.bipush (-2), 2) := by decide +kernel
theorem dX9_move_69 : decode cX9_move 69 = .ok (.ireturn, 1) := by decide +kernel
theorem dX9_move_70 : decode cX9_move 70 = .ok (.aload_n 0, 1) := by decide +kernel
theorem dX9_move_71 : decode cX9_move 71 = .ok (.iload_n 1, 1) := by decide +kernel
theorem dX9_move_72 : decode cX9_move 72 = .ok (.iload_n 2, 1) := by decide +kernel
theorem dX9_move_73 : decode cX9_move 73 = .ok (.invokevirtual 102, 3) := by decide +kernel
theorem dX9_move_76 : decode cX9_move 76 = .ok (.iload_n 3, 1) := by decide +kernel
theorem dX9_move_77 : decode cX9_move 77 = .ok (.ishr, 1) := by decide +kernel
theorem dX9_move_78 : decode cX9_move 78 = .ok (.iconst 1, 1) := by decide +kernel
theorem dX9_move_79 : decode cX9_move 79 = .ok (.iand, 1) := by decide +kernel
theorem dX9_move_80 : decode cX9_move 80 = .ok (.iconst 1, 1) := by decide +kernel
theorem dX9_move_81 : decode cX9_move 81 = .ok (.if_icmp .ne 6, 3) := by decide +kernel
theorem dX9_move_84 : decode cX9_move 84 = .ok (.bipush (-3), 2) := by decide +kernel
theorem dX9_move_86 : decode cX9_move 86 = .ok (.ireturn, 1) := by decide +kernel
theorem dX9_move_87 : decode cX9_move 87 = .ok (.aload_n 0, 1) := by decide +kernel
theorem dX9_move_88 : decode cX9_move 88 = .ok (.iload_n 1, 1) := by decide +kernel
theorem dX9_move_89 : decode cX9_move 89 = .ok (.iload_n 2, 1) := by decide +kernel
theorem dX9_move_90 : decode cX9_move 90 = .ok (.invokevirtual 80, 3) := by decide +kernel
theorem dX9_move_93 : decode cX9_move 93 = .ok (.istore 6, 2) := by decide +kernel
theorem dX9_move_95 : decode cX9_move 95 = .ok (.aload_n 0, 1) := by decide +kernel
theorem dX9_move_96 : decode cX9_move 96 = .ok (.iload_n 1, 1) := by decide +kernel
theorem dX9_move_97 : decode cX9_move 97 = .ok (.iload_n 2, 1) := by decide +kernel
theorem dX9_move_98 : decode cX9_move 98 = .ok (.invokevirtual 105, 3) := by decide +kernel
theorem dX9_move_101 : decode cX9_move 101 = .ok (.aload_n 0, 1) := by decide +kernel
theorem dX9_move_102 : decode cX9_move 102 = .ok (.iload_n 1, 1) := by decide +kernel
theorem dX9_move_103 : decode cX9_move 103 = .ok (.iload_n 2, 1) := by decide +kernel
theorem dX9_move_104 : decode cX9_move 104 = .ok (.iload_n 3, 1) := by decide +kernel
theorem dX9_move_105 : decode cX9_move 105 = .ok (.iload 4, 2) := by decide +kernel
theorem dX9_move_107 : decode cX9_move 107 = .ok (.invokevirtual 99, 3) := by decide +kernel
theorem dX9_move_110 : decode cX9_move 110 = .ok (.iload 6, 2) := by decide +kernel
theorem dX9_move_112 : decode cX9_move 112 = .ok (.ireturn, 1) := by decide +kernel
theorem dX9_put_0 : decode cX9_put 0 = .ok (.iload_n 1, 1) := by decide +kernel
theorem dX9_put_1 : decode cX9_put 1 = .ok (.invokestatic 87, 3) := by decide +kernel
theorem dX9_put_4 : decode cX9_put 4 = .ok (.ifCond .eq 20, 3) := by decide +kernel
theorem dX9_put_7 : decode cX9_put 7 = .ok (.aload_n 0, 1) := by decide +kernel
theorem dX9_put_8 : decode cX9_put 8 = .ok (.iload_n 1, 1) := by decide +kernel
theorem dX9_put_9 : decode cX9_put 9 = .ok (.iload_n 2, 1) := by decide +kernel
theorem dX9_put_10 : decode cX9_put 10 = .ok (.invokevirtual 90, 3) := by decide +kernel
theorem dX9_put_13 : decode cX9_put 13 = .ok (.ifCond .eq 11, 3) := by decide +kernel
theorem dX9_put_16 : decode cX9_put 16 = .ok (.iload 4, 2) := by decide +kernel
theorem dX9_put_18 : decode cX9_put 18 = .ok (.invokestatic 96, 3) := by decide +kernel
theorem dX9_put_21 : decode cX9_put 21 = .ok (.ifCond .ne 6, 3) := by decide +kernel
theorem dX9_put_24 : decode cX9_put 24 = .ok (.bipush (-2), 2) := by decide +kernel
theorem dX9_put_26 : decode cX9_put 26 = .ok (.ireturn, 1) := by decide +kernel
theorem dX9_put_27 : decode cX9_put 27 = .ok (.aload_n 0, 1) := by decide +kernel
theorem dX9_put_28 : decode cX9_put 28 = .ok (.getfield 7, 3) := by decide +kernel
theorem dX9_put_31 : decode cX9_put 31 = .ok (.bipush 64, 2) := by decide +kernel
theorem dX9_put_33 : decode cX9_put 33 = .ok (.iload_n 1, 1) := by decide +kernel
theorem dX9_put_34 : decode cX9_put 34 = .ok (.imul, 1) := by decide +kernel
theorem dX9_put_35 : decode cX9_put 35 = .ok (.iload_n 3, 1) := by decide +kernel
theorem dX9_put_36 : decode cX9_put 36 = .ok (.iadd, 1) := by decide +kernel
theorem dX9_put_37 : decode cX9_put 37 = .ok (.iload_n 2, 1) := by decide +kernel
theorem dX9_put_38 : decode cX9_put 38 = .ok (.iadd, 1) := by decide +kernel
theorem dX9_put_39 : decode cX9_put 39 = .ok (.iaload, 1) := by decide +kernel
theorem dX9_put_40 : decode cX9_put 40 = .ok (.istore 5, 2) := by decide +kernel
theorem dX9_put_42 : decode cX9_put 42 = .ok (.aload_n 0, 1) := by decide +kernel
theorem dX9_put_43 : decode cX9_put 43 = .ok (.getfield 7, 3) := by decide +kernel
theorem dX9_put_46 : decode cX9_put 46 = .ok (.bipush 64, 2) := by decide +kernel
theorem dX9_put_48 : decode cX9_put 48 = .ok (.iload_n 1, 1) := by decide +kernel
theorem dX9_put_49 : decode cX9_put 49 = .ok (.imul, 1) := by decide +kernel
theorem dX9_put_50 : decode cX9_put 50 = .ok (.iload_n 3, 1) := by decide +kernel
theorem dX9_put_51 : decode cX9_put 51 = .ok (.iadd, 1) := by decide +kernel
theorem dX9_put_52 : decode cX9_put 52 = .ok (.iload_n 2, 1) := by decide +kernel
theorem dX9_put_53 : decode cX9_put 53 = .ok (.iadd, 1) := by decide +kernel
theorem dX9_put_54 : decode cX9_put 54 = .ok (.iload 4, 2) := by decide +kernel
theorem dX9_put_56 : decode cX9_put 56 = .ok (.iastore, 1) := by decide +kernel
theorem dX9_put_57 : decode cX9_put 57 = .ok (.iload 5, 2) := by decide +kernel
theorem dX9_put_59 : decode cX9_put 59 = .ok (.ireturn, 1) := by decide +kernel
theorem dX9_delete_0 : decode cX9_delete 0 = .ok (.iload_n 1, 1) := by decide +kernel
theorem dX9_delete_1 : decode cX9_delete 1 = .ok (.invokestatic 87, 3) := by decide +kernel
theorem dX9_delete_4 : decode cX9_delete 4 = .ok (.ifCond .eq 16, 3) := by decide +kernel
theorem dX9_delete_7 : decode cX9_delete 7 = .ok (.aload_n 0, 1) := by decide +kernel
theorem dX9_delete_8 : decode cX9_delete 8 = .ok (.iload_n 1, 1) := by decide +kernel
theorem dX9_delete_9 : decode cX9_delete 9 = .ok (.iload_n 2, 1) := by decide +kernel
theorem dX9_delete_10 : decode cX9_delete 10 = .ok (.invokevirtual 90, 3) := by decide +kernel
theorem dX9_delete_13 : decode cX9_delete 13 = .ok (.ifCond .eq 7, 3) := by decide +kernel
theorem dX9_delete_16 : decode cX9_delete 16 = .ok (.iload_n 2, 1) := by decide +kernel
theorem dX9_delete_17 : decode cX9_delete 17 = .ok (.ifCond .ne 6, 3) := by decide +kernel
theorem dX9_delete_20 : decode cX9_delete 20 = .ok (.bipush (-2), 2) := by decide +kernel
theorem dX9_delete_22 : decode cX9_delete 22 = .ok (.ireturn, 1) := by decide +kernel
theorem dX9_delete_23 : decode cX9_delete 23 = .ok (.aload_n 0, 1) := by decide +kernel
theorem dX9_delete_24 : decode cX9_delete 24 = .ok (.iload_n 1, 1) := by decide +kernel
theorem dX9_delete_25 : decode cX9_delete 25 = .ok (.iload_n 2, 1) := by decide +kernel
theorem dX9_delete_26 : decode cX9_delete 26 = .ok (.invokevirtual 102, 3) := by decide +kernel
theorem dX9_delete_29 : decode cX9_delete 29 = .ok (.istore_n 3, 1) := by decide +kernel
theorem dX9_delete_30 : decode cX9_delete 30 = .ok (.aload_n 0, 1) := by decide +kernel
theorem dX9_delete_31 : decode cX9_delete 31 = .ok (.iload_n 1, 1) := by decide +kernel
theorem dX9_delete_32 : decode cX9_delete 32 = .ok (.iload_n 2, 1) := by decide +kernel
theorem dX9_delete_33 : decode cX9_delete 33 = .ok (.invokevirtual 105, 3) := by decide +kernel
theorem dX9_delete_36 : decode cX9_delete 36 = .ok (.iconst 1, 1) := by decide +kernel
theorem dX9_delete_37 : decode cX9_delete 37 = .ok (.istore 4, 2) := by decide +kernel
theorem dX9_delete_39 : decode cX9_delete 39 = .ok (.iload 4, 2) := by decide +kernel
theorem dX9_delete_41 : decode cX9_delete 41 = .ok (.bipush 16, 2) := by decide +kernel
theorem dX9_delete_43 : decode cX9_delete 43 = .ok (.if_icmp .ge 43, 3) := by decide +kernel
theorem dX9_delete_46 : decode cX9_delete 46 = .ok (.aload_n 0, 1) := by decide +kernel
theorem dX9_delete_47 : decode cX9_delete 47 = .ok (.getfield 7, 3) := by decide +kernel
theorem dX9_delete_50 : decode cX9_delete 50 = .ok (.bipush 64, 2) := by decide +kernel
theorem dX9_delete_52 : decode cX9_delete 52 = .ok (.iload_n 1, 1) := by decide +kernel
theorem dX9_delete_53 : decode cX9_delete 53 = .ok (.imul, 1) := by decide +kernel
theorem dX9_delete_54 : decode cX9_delete 54 = .ok (.iload 4, 2) := by decide +kernel
theorem dX9_delete_56 : decode cX9_delete 56 = .ok (.iadd, 1) := by decide +kernel
theorem dX9_delete_57 : decode cX9_delete 57 = .ok (.iload_n 3, 1) := by decide +kernel
theorem dX9_delete_58 : decode cX9_delete 58 = .ok (.iload 4, 2) := by decide +kernel
theorem dX9_delete_60 : decode cX9_delete 60 = .ok (.ishr, 1) := by decide +kernel
theorem dX9_delete_61 : decode cX9_delete 61 = .ok (.iconst 1, 1) := by decide +kernel
theorem dX9_delete_62 : decode cX9_delete 62 = .ok (.iand, 1) := by decide +kernel
theorem dX9_delete_63 : decode cX9_delete 63 = .ok (.iconst 1, 1) := by decide +kernel
theorem dX9_delete_64 : decode cX9_delete 64 = .ok (.if_icmp .ne 8, 3) := by decide +kernel
theorem dX9_delete_67 : decode cX9_delete 67 = .ok (.bipush (-9), 2) := by decide +kernel
theorem dX9_delete_69 : decode cX9_delete 69 = .ok (.goto 10, 3) := by decide +kernel
theorem dX9_delete_72 : decode cX9_delete 72 = .ok (.aload_n 0, 1) := by decide +kernel
theorem dX9_delete_73 : decode cX9_delete 73 = .ok (.iload_n 1, 1) := by decide +kernel
theorem dX9_delete_74 : decode cX9_delete 74 = .ok (.iload 4, 2) := by decide +kernel
theorem dX9_delete_76 : decode cX9_delete 76 = .ok (.invokevirtual 76, 3) := by decide +kernel
theorem dX9_delete_79 : decode cX9_delete 79 = .ok (.iastore, 1) := by decide +kernel
theorem dX9_delete_80 : decode cX9_delete 80 = .ok (.iinc 4 1, 3) := by decide +kernel
theorem dX9_delete_83 : decode cX9_delete 83 = .ok (.goto (-44), 3) := by decide +kernel
theorem dX9_delete_86 : decode cX9_delete 86 = .ok (.iload_n 3, 1) := by decide +kernel
theorem dX9_delete_87 : decode cX9_delete 87 = .ok (.invokestatic 109, 3) := by decide +kernel
theorem dX9_delete_90 : decode cX9_delete 90 = .ok (.ireturn, 1) := by decide +kernel
theorem dX9_fork_0 : decode cX9_fork 0 = .ok (.aload_n 0, 1) := by decide +kernel
theorem dX9_fork_1 : decode cX9_fork 1 = .ok (.getfield 7, 3) := by decide +kernel
theorem dX9_fork_4 : decode cX9_fork 4 = .ok (.iconst 0, 1) := by decide +kernel
theorem dX9_fork_5 : decode cX9_fork 5 = .ok (.aload_n 0, 1) := by decide +kernel
theorem dX9_fork_6 : decode cX9_fork 6 = .ok (.getfield 7, 3) := by decide +kernel
theorem dX9_fork_9 : decode cX9_fork 9 = .ok (.bipush 64, 2) := by decide +kernel
theorem dX9_fork_11 : decode cX9_fork 11 = .ok (.bipush 64, 2) := by decide +kernel
theorem dX9_fork_13 : decode cX9_fork 13 = .ok (.invokestatic 52, 3) := by decide +kernel
theorem dX9_fork_16 : decode cX9_fork 16 = .ok (.aload_n 0, 1) := by decide +kernel
theorem dX9_fork_17 : decode cX9_fork 17 = .ok (.getfield 7, 3) := by decide +kernel
theorem dX9_fork_20 : decode cX9_fork 20 = .ok (.iconst 0, 1) := by decide +kernel
theorem dX9_fork_21 : decode cX9_fork 21 = .ok (.aload_n 0, 1) := by decide +kernel
theorem dX9_fork_22 : decode cX9_fork 22 = .ok (.getfield 7, 3) := by decide +kernel
theorem dX9_fork_25 : decode cX9_fork 25 = .ok (.sipush 128, 3) := by decide +kernel
theorem dX9_fork_28 : decode cX9_fork 28 = .ok (.bipush 64, 2) := by decide +kernel
theorem dX9_fork_30 : decode cX9_fork 30 = .ok (.invokestatic 52, 3) := by decide +kernel
theorem dX9_fork_33 : decode cX9_fork 33 = .ok (.aload_n 0, 1) := by decide +kernel
theorem dX9_fork_34 : decode cX9_fork 34 = .ok (.iconst 0, 1) := by decide +kernel
theorem dX9_fork_35 : decode cX9_fork 35 = .ok (.invokevirtual 112, 3) := by decide +kernel
theorem dX9_fork_38 : decode cX9_fork 38 = .ok (.ireturn, 1) := by decide +kernel
theorem dX9_prefer_0 : decode cX9_prefer 0 = .ok (.iload_n 1, 1) := by decide +kernel
theorem dX9_prefer_1 : decode cX9_prefer 1 = .ok (.iconst 1, 1) := by decide +kernel
theorem dX9_prefer_2 : decode cX9_prefer 2 = .ok (.iconst 2, 1) := by decide +kernel
theorem dX9_prefer_3 : decode cX9_prefer 3 = .ok (.invokestatic 68, 3) := by decide +kernel
theorem dX9_prefer_6 : decode cX9_prefer 6 = .ok (.ifCond .ne 6, 3) := by decide +kernel
theorem dX9_prefer_9 : decode cX9_prefer 9 = .ok (.bipush (-2), 2) := by decide +kernel
theorem dX9_prefer_11 : decode cX9_prefer 11 = .ok (.ireturn, 1) := by decide +kernel
theorem dX9_prefer_12 : decode cX9_prefer 12 = .ok (.aload_n 0, 1) := by decide +kernel
theorem dX9_prefer_13 : decode cX9_prefer 13 = .ok (.getfield 7, 3) := by decide +kernel
theorem dX9_prefer_16 : decode cX9_prefer 16 = .ok (.sipush 256, 3) := by decide +kernel
theorem dX9_prefer_19 : decode cX9_prefer 19 = .ok (.iaload, 1) := by decide +kernel
theorem dX9_prefer_20 : decode cX9_prefer 20 = .ok (.istore_n 2, 1) := by decide +kernel
theorem dX9_prefer_21 : decode cX9_prefer 21 = .ok (.aload_n 0, 1) := by decide +kernel
theorem dX9_prefer_22 : decode cX9_prefer 22 = .ok (.getfield 7, 3) := by decide +kernel
theorem dX9_prefer_25 : decode cX9_prefer 25 = .ok (.sipush 256, 3) := by decide +kernel
theorem dX9_prefer_28 : decode cX9_prefer 28 = .ok (.iload_n 1, 1) := by decide +kernel
theorem dX9_prefer_29 : decode cX9_prefer 29 = .ok (.iastore, 1) := by decide +kernel
theorem dX9_prefer_30 : decode cX9_prefer 30 = .ok (.iload_n 2, 1) := by decide +kernel
theorem dX9_prefer_31 : decode cX9_prefer 31 = .ok (.ireturn, 1) := by decide +kernel
theorem dX9_adds_0 : decode cX9_adds 0 = .ok (.aload_n 0, 1) := by decide +kernel
theorem dX9_adds_1 : decode cX9_adds 1 = .ok (.invokevirtual 115, 3) := by decide +kernel
theorem dX9_adds_4 : decode cX9_adds 4 = .ok (.aload_n 0, 1) := by decide +kernel
theorem dX9_adds_5 : decode cX9_adds 5 = .ok (.aload_n 0, 1) := by decide +kernel
theorem dX9_adds_6 : decode cX9_adds 6 = .ok (.iload_n 1, 1) := by decide +kernel
theorem dX9_adds_7 : decode cX9_adds 7 = .ok (.iload_n 2, 1) := by decide +kernel
theorem dX9_adds_8 : decode cX9_adds 8 = .ok (.iload_n 3, 1) := by decide +kernel
theorem dX9_adds_9 : decode cX9_adds 9 = .ok (.iload 4, 2) := by decide +kernel
theorem dX9_adds_11 : decode cX9_adds 11 = .ok (.iload 5, 2) := by decide +kernel
theorem dX9_adds_13 : decode cX9_adds 13 = .ok (.invokevirtual 118, 3) := by decide +kernel
theorem dX9_adds_16 : decode cX9_adds 16 = .ok (.invokevirtual 122, 3) := by decide +kernel
theorem dX9_adds_19 : decode cX9_adds 19 = .ok (.ireturn, 1) := by decide +kernel
theorem dX9_moves_0 : decode cX9_moves 0 = .ok (.aload_n 0, 1) := by decide +kernel
theorem dX9_moves_1 : decode cX9_moves 1 = .ok (.invokevirtual 115, 3) := by decide +kernel
theorem dX9_moves_4 : decode cX9_moves 4 = .ok (.aload_n 0, 1) := by decide +kernel
theorem dX9_moves_5 : decode cX9_moves 5 = .ok (.aload_n 0, 1) := by decide +kernel
theorem dX9_moves_6 : decode cX9_moves 6 = .ok (.iload_n 1, 1) := by decide +kernel
theorem dX9_moves_7 : decode cX9_moves 7 = .ok (.iload_n 2, 1) := by decide +kernel
theorem dX9_moves_8 : decode cX9_moves 8 = .ok (.iload_n 3, 1) := by decide +kernel
theorem dX9_moves_9 : decode cX9_moves 9 = .ok (.iload 4, 2) := by decide +kernel
theorem dX9_moves_11 : decode cX9_moves 11 = .ok (.invokevirtual 125, 3) := by decide +kernel
theorem dX9_moves_14 : decode cX9_moves 14 = .ok (.invokevirtual 122, 3) := by decide +kernel
theorem dX9_moves_17 : decode cX9_moves 17 = .ok (.ireturn, 1) := by decide +kernel
theorem dX9_renames_0 : decode cX9_renames 0 = .ok (.aload_n 0, 1) := by decide +kernel
theorem dX9_renames_1 : decode cX9_renames 1 = .ok (.invokevirtual 115, 3) := by decide +kernel
theorem dX9_renames_4 : decode cX9_renames 4 = .ok (.aload_n 0, 1) := by decide +kernel
theorem dX9_renames_5 : decode cX9_renames 5 = .ok (.aload_n 0, 1) := by decide +kernel
theorem dX9_renames_6 : decode cX9_renames 6 = .ok (.iload_n 1, 1) := by decide +kernel
theorem dX9_renames_7 : decode cX9_renames 7 = .ok (.iload_n 2, 1) := by decide +kernel
theorem dX9_renames_8 : decode cX9_renames 8 = .ok (.bipush 32, 2) := by decide +kernel
theorem dX9_renames_10 : decode cX9_renames 10 = .ok (.iload_n 3, 1) := by decide +kernel
theorem dX9_renames_11 : decode cX9_renames 11 = .ok (.invokevirtual 129, 3) := by decide +kernel
theorem dX9_renames_14 : decode cX9_renames 14 = .ok (.invokevirtual 122, 3) := by decide +kernel
theorem dX9_renames_17 : decode cX9_renames 17 = .ok (.ireturn, 1) := by decide +kernel
theorem dX9_edits_0 : decode cX9_edits 0 = .ok (.aload_n 0, 1) := by decide +kernel
theorem dX9_edits_1 : decode cX9_edits 1 = .ok (.invokevirtual 115, 3) := by decide +kernel
theorem dX9_edits_4 : decode cX9_edits 4 = .ok (.aload_n 0, 1) := by decide +kernel
theorem dX9_edits_5 : decode cX9_edits 5 = .ok (.aload_n 0, 1) := by decide +kernel
theorem dX9_edits_6 : decode cX9_edits 6 = .ok (.iload_n 1, 1) := by decide +kernel
theorem dX9_edits_7 : decode cX9_edits 7 = .ok (.iload_n 2, 1) := by decide +kernel
theorem dX9_edits_8 : decode cX9_edits 8 = .ok (.bipush 48, 2) := by decide +kernel
theorem dX9_edits_10 : decode cX9_edits 10 = .ok (.iload_n 3, 1) := by decide +kernel
theorem dX9_edits_11 : decode cX9_edits 11 = .ok (.invokevirtual 129, 3) := by decide +kernel
theorem dX9_edits_14 : decode cX9_edits 14 = .ok (.invokevirtual 122, 3) := by decide +kernel
theorem dX9_edits_17 : decode cX9_edits 17 = .ok (.ireturn, 1) := by decide +kernel
theorem dX9_deletes_0 : decode cX9_deletes 0 = .ok (.aload_n 0, 1) := by decide +kernel
theorem dX9_deletes_1 : decode cX9_deletes 1 = .ok (.invokevirtual 115, 3) := by decide +kernel
theorem dX9_deletes_4 : decode cX9_deletes 4 = .ok (.aload_n 0, 1) := by decide +kernel
theorem dX9_deletes_5 : decode cX9_deletes 5 = .ok (.aload_n 0, 1) := by decide +kernel
theorem dX9_deletes_6 : decode cX9_deletes 6 = .ok (.iload_n 1, 1) := by decide +kernel
theorem dX9_deletes_7 : decode cX9_deletes 7 = .ok (.iload_n 2, 1) := by decide +kernel
theorem dX9_deletes_8 : decode cX9_deletes 8 = .ok (.invokevirtual 132, 3) := by decide +kernel
theorem dX9_deletes_11 : decode cX9_deletes 11 = .ok (.invokevirtual 122, 3) := by decide +kernel
theorem dX9_deletes_14 : decode cX9_deletes 14 = .ok (.ireturn, 1) := by decide +kernel
theorem dX9_forks_0 : decode cX9_forks 0 = .ok (.aload_n 0, 1) := by decide +kernel
theorem dX9_forks_1 : decode cX9_forks 1 = .ok (.invokevirtual 115, 3) := by decide +kernel
theorem dX9_forks_4 : decode cX9_forks 4 = .ok (.aload_n 0, 1) := by decide +kernel
theorem dX9_forks_5 : decode cX9_forks 5 = .ok (.aload_n 0, 1) := by decide +kernel
theorem dX9_forks_6 : decode cX9_forks 6 = .ok (.invokevirtual 135, 3) := by decide +kernel
theorem dX9_forks_9 : decode cX9_forks 9 = .ok (.invokevirtual 122, 3) := by decide +kernel
theorem dX9_forks_12 : decode cX9_forks 12 = .ok (.ireturn, 1) := by decide +kernel
theorem dX9_prefers_0 : decode cX9_prefers 0 = .ok (.aload_n 0, 1) := by decide +kernel
theorem dX9_prefers_1 : decode cX9_prefers 1 = .ok (.invokevirtual 115, 3) := by decide +kernel
theorem dX9_prefers_4 : decode cX9_prefers 4 = .ok (.aload_n 0, 1) := by decide +kernel
theorem dX9_prefers_5 : decode cX9_prefers 5 = .ok (.aload_n 0, 1) := by decide +kernel
theorem dX9_prefers_6 : decode cX9_prefers 6 = .ok (.iload_n 1, 1) := by decide +kernel
theorem dX9_prefers_7 : decode cX9_prefers 7 = .ok (.invokevirtual 139, 3) := by decide +kernel
theorem dX9_prefers_10 : decode cX9_prefers 10 = .ok (.invokevirtual 122, 3) := by decide +kernel
theorem dX9_prefers_13 : decode cX9_prefers 13 = .ok (.ireturn, 1) := by decide +kernel
theorem dX9_adopts_0 : decode cX9_adopts 0 = .ok (.aload_n 0, 1) := by decide +kernel
theorem dX9_adopts_1 : decode cX9_adopts 1 = .ok (.invokevirtual 115, 3) := by decide +kernel
theorem dX9_adopts_4 : decode cX9_adopts 4 = .ok (.aload_n 0, 1) := by decide +kernel
theorem dX9_adopts_5 : decode cX9_adopts 5 = .ok (.invokevirtual 142, 3) := by decide +kernel
theorem dX9_adopts_8 : decode cX9_adopts 8 = .ok (.aload_n 0, 1) := by decide +kernel
theorem dX9_adopts_9 : decode cX9_adopts 9 = .ok (.getfield 7, 3) := by decide +kernel
theorem dX9_adopts_12 : decode cX9_adopts 12 = .ok (.sipush 192, 3) := by decide +kernel
theorem dX9_adopts_15 : decode cX9_adopts 15 = .ok (.aload_n 0, 1) := by decide +kernel
theorem dX9_adopts_16 : decode cX9_adopts 16 = .ok (.getfield 7, 3) := by decide +kernel
theorem dX9_adopts_19 : decode cX9_adopts 19 = .ok (.iconst 0, 1) := by decide +kernel
theorem dX9_adopts_20 : decode cX9_adopts 20 = .ok (.bipush 64, 2) := by decide +kernel
theorem dX9_adopts_22 : decode cX9_adopts 22 = .ok (.invokestatic 52, 3) := by decide +kernel
theorem dX9_adopts_25 : decode cX9_adopts 25 = .ok (.aload_n 0, 1) := by decide +kernel
theorem dX9_adopts_26 : decode cX9_adopts 26 = .ok (.aload_n 0, 1) := by decide +kernel
theorem dX9_adopts_27 : decode cX9_adopts 27 = .ok (.invokevirtual 135, 3) := by decide +kernel
theorem dX9_adopts_30 : decode cX9_adopts 30 = .ok (.invokevirtual 122, 3) := by decide +kernel
theorem dX9_adopts_33 : decode cX9_adopts 33 = .ok (.ireturn, 1) := by decide +kernel
theorem dX9_conflict_0 : decode cX9_conflict 0 = .ok (.aload_n 0, 1) := by decide +kernel
theorem dX9_conflict_1 : decode cX9_conflict 1 = .ok (.getfield 37, 3) := by decide +kernel
theorem dX9_conflict_4 : decode cX9_conflict 4 = .ok (.iconst 3, 1) := by decide +kernel
theorem dX9_conflict_5 : decode cX9_conflict 5 = .ok (.aload_n 0, 1) := by decide +kernel
theorem dX9_conflict_6 : decode cX9_conflict 6 = .ok (.getfield 145, 3) := by decide +kernel
theorem dX9_conflict_9 : decode cX9_conflict 9 = .ok (.imul, 1) := by decide +kernel
theorem dX9_conflict_10 : decode cX9_conflict 10 = .ok (.iload_n 1, 1) := by decide +kernel
theorem dX9_conflict_11 : decode cX9_conflict 11 = .ok (.iastore, 1) := by decide +kernel
theorem dX9_conflict_12 : decode cX9_conflict 12 = .ok (.aload_n 0, 1) := by decide +kernel
theorem dX9_conflict_13 : decode cX9_conflict 13 = .ok (.getfield 37, 3) := by decide +kernel
theorem dX9_conflict_16 : decode cX9_conflict 16 = .ok (.iconst 3, 1) := by decide +kernel
theorem dX9_conflict_17 : decode cX9_conflict 17 = .ok (.aload_n 0, 1) := by decide +kernel
theorem dX9_conflict_18 : decode cX9_conflict 18 = .ok (.getfield 145, 3) := by decide +kernel
theorem dX9_conflict_21 : decode cX9_conflict 21 = .ok (.imul, 1) := by decide +kernel
theorem dX9_conflict_22 : decode cX9_conflict 22 = .ok (.iconst 1, 1) := by decide +kernel
theorem dX9_conflict_23 : decode cX9_conflict 23 = .ok (.iadd, 1) := by decide +kernel
theorem dX9_conflict_24 : decode cX9_conflict 24 = .ok (.iload_n 2, 1) := by decide +kernel
theorem dX9_conflict_25 : decode cX9_conflict 25 = .ok (.iastore, 1) := by decide +kernel
theorem dX9_conflict_26 : decode cX9_conflict 26 = .ok (.aload_n 0, 1) := by decide +kernel
theorem dX9_conflict_27 : decode cX9_conflict 27 = .ok (.getfield 37, 3) := by decide +kernel
theorem dX9_conflict_30 : decode cX9_conflict 30 = .ok (.iconst 3, 1) := by decide +kernel
theorem dX9_conflict_31 : decode cX9_conflict 31 = .ok (.aload_n 0, 1) := by decide +kernel
theorem dX9_conflict_32 : decode cX9_conflict 32 = .ok (.getfield 145, 3) := by decide +kernel
theorem dX9_conflict_35 : decode cX9_conflict 35 = .ok (.imul, 1) := by decide +kernel
theorem dX9_conflict_36 : decode cX9_conflict 36 = .ok (.iconst 2, 1) := by decide +kernel
theorem dX9_conflict_37 : decode cX9_conflict 37 = .ok (.iadd, 1) := by decide +kernel
theorem dX9_conflict_38 : decode cX9_conflict 38 = .ok (.iload_n 3, 1) := by decide +kernel
theorem dX9_conflict_39 : decode cX9_conflict 39 = .ok (.iastore, 1) := by decide +kernel
theorem dX9_conflict_40 : decode cX9_conflict 40 = .ok (.aload_n 0, 1) := by decide +kernel
theorem dX9_conflict_41 : decode cX9_conflict 41 = .ok (.dup, 1) := by decide +kernel
theorem dX9_conflict_42 : decode cX9_conflict 42 = .ok (.getfield 145, 3) := by decide +kernel
theorem dX9_conflict_45 : decode cX9_conflict 45 = .ok (.iconst 1, 1) := by decide +kernel
theorem dX9_conflict_46 : decode cX9_conflict 46 = .ok (.iadd, 1) := by decide +kernel
theorem dX9_conflict_47 : decode cX9_conflict 47 = .ok (.putfield 145, 3) := by decide +kernel
theorem dX9_conflict_50 : decode cX9_conflict 50 = .ok (.return_, 1) := by decide +kernel
theorem dX9_isChanged_0 : decode cX9_isChanged 0 = .ok (.aload_n 0, 1) := by decide +kernel
theorem dX9_isChanged_1 : decode cX9_isChanged 1 = .ok (.iload_n 1, 1) := by decide +kernel
theorem dX9_isChanged_2 : decode cX9_isChanged 2 = .ok (.iload_n 2, 1) := by decide +kernel
theorem dX9_isChanged_3 : decode cX9_isChanged 3 = .ok (.invokevirtual 76, 3) := by decide +kernel
theorem dX9_isChanged_6 : decode cX9_isChanged 6 = .ok (.aload_n 0, 1) := by decide +kernel
theorem dX9_isChanged_7 : decode cX9_isChanged 7 = .ok (.iconst 0, 1) := by decide +kernel
theorem dX9_isChanged_8 : decode cX9_isChanged 8 = .ok (.iload_n 2, 1) := by decide +kernel
theorem dX9_isChanged_9 : decode cX9_isChanged 9 = .ok (.invokevirtual 76, 3) := by decide +kernel
theorem dX9_isChanged_12 : decode cX9_isChanged 12 = .ok (.if_icmp .ne 33, 3) := by decide +kernel
theorem dX9_isChanged_15 : decode cX9_isChanged 15 = .ok (.aload_n 0, 1) := by decide +kernel
theorem dX9_isChanged_16 : decode cX9_isChanged 16 = .ok (.iload_n 1, 1) := by decide +kernel
theorem dX9_isChanged_17 : decode cX9_isChanged 17 = .ok (.iload_n 2, 1) := by decide +kernel
theorem dX9_isChanged_18 : decode cX9_isChanged 18 = .ok (.invokevirtual 148, 3) := by decide +kernel
theorem dX9_isChanged_21 : decode cX9_isChanged 21 = .ok (.aload_n 0, 1) := by decide +kernel
theorem dX9_isChanged_22 : decode cX9_isChanged 22 = .ok (.iconst 0, 1) := by decide +kernel
theorem dX9_isChanged_23 : decode cX9_isChanged 23 = .ok (.iload_n 2, 1) := by decide +kernel
theorem dX9_isChanged_24 : decode cX9_isChanged 24 = .ok (.invokevirtual 148, 3) := by decide +kernel
theorem dX9_isChanged_27 : decode cX9_isChanged 27 = .ok (.if_icmp .ne 18, 3) := by decide +kernel
theorem dX9_isChanged_30 : decode cX9_isChanged 30 = .ok (.aload_n 0, 1) := by decide +kernel
theorem dX9_isChanged_31 : decode cX9_isChanged 31 = .ok (.iload_n 1, 1) := by decide +kernel
theorem dX9_isChanged_32 : decode cX9_isChanged 32 = .ok (.iload_n 2, 1) := by decide +kernel
theorem dX9_isChanged_33 : decode cX9_isChanged 33 = .ok (.invokevirtual 151, 3) := by decide +kernel
theorem dX9_isChanged_36 : decode cX9_isChanged 36 = .ok (.aload_n 0, 1) := by decide +kernel
theorem dX9_isChanged_37 : decode cX9_isChanged 37 = .ok (.iconst 0, 1) := by decide +kernel
theorem dX9_isChanged_38 : decode cX9_isChanged 38 = .ok (.iload_n 2, 1) := by decide +kernel
theorem dX9_isChanged_39 : decode cX9_isChanged 39 = .ok (.invokevirtual 151, 3) := by decide +kernel
theorem dX9_isChanged_42 : decode cX9_isChanged 42 = .ok (.if_icmp .eq 7, 3) := by decide +kernel
theorem dX9_isChanged_45 : decode cX9_isChanged 45 = .ok (.iconst 1, 1) := by decide +kernel
theorem dX9_isChanged_46 : decode cX9_isChanged 46 = .ok (.goto 4, 3) := by decide +kernel
theorem dX9_isChanged_49 : decode cX9_isChanged 49 = .ok (.iconst 0, 1) := by decide +kernel
theorem dX9_isChanged_50 : decode cX9_isChanged 50 = .ok (.istore_n 3, 1) := by decide +kernel
theorem dX9_isChanged_51 : decode cX9_isChanged 51 = .ok (.iconst 1, 1) := by decide +kernel
theorem dX9_isChanged_52 : decode cX9_isChanged 52 = .ok (.istore 4, 2) := by decide +kernel
theorem dX9_isChanged_54 : decode cX9_isChanged 54 = .ok (.iload 4, 2) := by decide +kernel
theorem dX9_isChanged_56 : decode cX9_isChanged 56 = .ok (.bipush 16, 2) := by decide +kernel
theorem dX9_isChanged_58 : decode cX9_isChanged 58 = .ok (.if_icmp .ge 41, 3) := by decide +kernel
theorem dX9_isChanged_61 : decode cX9_isChanged 61 = .ok (.iload_n 3, 1) := by decide +kernel
theorem dX9_isChanged_62 : decode cX9_isChanged 62 = .ok (.ifCond .ne 25, 3) := by decide +kernel
theorem dX9_isChanged_65 : decode cX9_isChanged 65 = .ok (.aload_n 0, 1) := by decide +kernel
theorem dX9_isChanged_66 : decode cX9_isChanged 66 = .ok (.iload_n 1, 1) := by decide +kernel
theorem dX9_isChanged_67 : decode cX9_isChanged 67 = .ok (.iload 4, 2) := by decide +kernel
theorem dX9_isChanged_69 : decode cX9_isChanged 69 = .ok (.invokevirtual 76, 3) := by decide +kernel
theorem dX9_isChanged_72 : decode cX9_isChanged 72 = .ok (.iload_n 2, 1) := by decide +kernel
theorem dX9_isChanged_73 : decode cX9_isChanged 73 = .ok (.if_icmp .ne 18, 3) := by decide +kernel
theorem dX9_isChanged_76 : decode cX9_isChanged 76 = .ok (.aload_n 0, 1) := by decide +kernel
theorem dX9_isChanged_77 : decode cX9_isChanged 77 = .ok (.iconst 0, 1) := by decide +kernel
theorem dX9_isChanged_78 : decode cX9_isChanged 78 = .ok (.iload 4, 2) := by decide +kernel
theorem dX9_isChanged_80 : decode cX9_isChanged 80 = .ok (.invokevirtual 76, 3) := by decide +kernel
theorem dX9_isChanged_83 : decode cX9_isChanged 83 = .ok (.iload_n 2, 1) := by decide +kernel
theorem dX9_isChanged_84 : decode cX9_isChanged 84 = .ok (.if_icmp .eq 7, 3) := by decide +kernel
theorem dX9_isChanged_87 : decode cX9_isChanged 87 = .ok (.iconst 1, 1) := by decide +kernel
theorem dX9_isChanged_88 : decode cX9_isChanged 88 = .ok (.goto 4, 3) := by decide +kernel
theorem dX9_isChanged_91 : decode cX9_isChanged 91 = .ok (.iconst 0, 1) := by decide +kernel
theorem dX9_isChanged_92 : decode cX9_isChanged 92 = .ok (.istore_n 3, 1) := by decide +kernel
theorem dX9_isChanged_93 : decode cX9_isChanged 93 = .ok (.iinc 4 1, 3) := by decide +kernel
theorem dX9_isChanged_96 : decode cX9_isChanged 96 = .ok (.goto (-42), 3) := by decide +kernel
theorem dX9_isChanged_99 : decode cX9_isChanged 99 = .ok (.iload_n 3, 1) := by decide +kernel
theorem dX9_isChanged_100 : decode cX9_isChanged 100 = .ok (.ireturn, 1) := by decide +kernel
theorem dX9_mergeIn_0 : decode cX9_mergeIn 0 = .ok (.aload_n 0, 1) := by decide +kernel
theorem dX9_mergeIn_1 : decode cX9_mergeIn 1 = .ok (.iconst 1, 1) := by decide +kernel
theorem dX9_mergeIn_2 : decode cX9_mergeIn 2 = .ok (.iload_n 1, 1) := by decide +kernel
theorem dX9_mergeIn_3 : decode cX9_mergeIn 3 = .ok (.invokevirtual 72, 3) := by decide +kernel
theorem dX9_mergeIn_6 : decode cX9_mergeIn 6 = .ok (.istore_n 2, 1) := by decide +kernel
theorem dX9_mergeIn_7 : decode cX9_mergeIn 7 = .ok (.aload_n 0, 1) := by decide +kernel
theorem dX9_mergeIn_8 : decode cX9_mergeIn 8 = .ok (.iconst 2, 1) := by decide +kernel
theorem dX9_mergeIn_9 : decode cX9_mergeIn 9 = .ok (.iload_n 1, 1) := by decide +kernel
theorem dX9_mergeIn_10 : decode cX9_mergeIn 10 = .ok (.invokevirtual 72, 3) := by decide +kernel
theorem dX9_mergeIn_13 : decode cX9_mergeIn 13 = .ok (.istore_n 3, 1) := by decide +kernel
theorem dX9_mergeIn_14 : decode cX9_mergeIn 14 = .ok (.iload_n 2, 1) := by decide +kernel
theorem dX9_mergeIn_15 : decode cX9_mergeIn 15 = .ok (.ifCond .eq 11, 3) := by decide +kernel
theorem dX9_mergeIn_18 : decode cX9_mergeIn 18 = .ok (.iload_n 3, 1) := by decide +kernel
theorem dX9_mergeIn_19 : decode cX9_mergeIn 19 = .ok (.ifCond .eq 7, 3) := by decide +kernel
theorem dX9_mergeIn_22 : decode cX9_mergeIn 22 = .ok (.iconst 1, 1) := by decide +kernel
theorem dX9_mergeIn_23 : decode cX9_mergeIn 23 = .ok (.goto 4, 3) := by decide +kernel
theorem dX9_mergeIn_26 : decode cX9_mergeIn 26 = .ok (.iconst 0, 1) := by decide +kernel
theorem dX9_mergeIn_27 : decode cX9_mergeIn 27 = .ok (.istore 4, 2) := by decide +kernel
theorem dX9_mergeIn_29 : decode cX9_mergeIn 29 = .ok (.iload_n 2, 1) := by decide +kernel
theorem dX9_mergeIn_30 : decode cX9_mergeIn 30 = .ok (.iload_n 3, 1) := by decide +kernel
theorem dX9_mergeIn_31 : decode cX9_mergeIn 31 = .ok (.if_icmp .eq 61, 3) := by decide +kernel
theorem dX9_mergeIn_34 : decode cX9_mergeIn 34 = .ok (.iload_n 2, 1) := by decide +kernel
theorem dX9_mergeIn_35 : decode cX9_mergeIn 35 = .ok (.ifCond .eq 7, 3) := by decide +kernel
theorem dX9_mergeIn_38 : decode cX9_mergeIn 38 = .ok (.iconst 1, 1) := by decide +kernel
theorem dX9_mergeIn_39 : decode cX9_mergeIn 39 = .ok (.goto 4, 3) := by decide +kernel
theorem dX9_mergeIn_42 : decode cX9_mergeIn 42 = .ok (.iconst 2, 1) := by decide +kernel
theorem dX9_mergeIn_43 : decode cX9_mergeIn 43 = .ok (.istore 5, 2) := by decide +kernel
theorem dX9_mergeIn_45 : decode cX9_mergeIn 45 = .ok (.aload_n 0, 1) := by decide +kernel
theorem dX9_mergeIn_46 : decode cX9_mergeIn 46 = .ok (.iconst 0, 1) := by decide +kernel
theorem dX9_mergeIn_47 : decode cX9_mergeIn 47 = .ok (.iload_n 1, 1) := by decide +kernel
theorem dX9_mergeIn_48 : decode cX9_mergeIn 48 = .ok (.invokevirtual 72, 3) := by decide +kernel
theorem dX9_mergeIn_51 : decode cX9_mergeIn 51 = .ok (.ifCond .eq 13, 3) := by decide +kernel
theorem dX9_mergeIn_54 : decode cX9_mergeIn 54 = .ok (.aload_n 0, 1) := by decide +kernel
theorem dX9_mergeIn_55 : decode cX9_mergeIn 55 = .ok (.iload 5, 2) := by decide +kernel
theorem dX9_mergeIn_57 : decode cX9_mergeIn 57 = .ok (.iload_n 1, 1) := by decide +kernel
theorem dX9_mergeIn_58 : decode cX9_mergeIn 58 = .ok (.invokevirtual 154, 3) := by decide +kernel
theorem dX9_mergeIn_61 : decode cX9_mergeIn 61 = .ok (.ifCond .eq 7, 3) := by decide +kernel
theorem dX9_mergeIn_64 : decode cX9_mergeIn 64 = .ok (.iconst 1, 1) := by decide +kernel
theorem dX9_mergeIn_65 : decode cX9_mergeIn 65 = .ok (.goto 4, 3) := by decide +kernel
theorem dX9_mergeIn_68 : decode cX9_mergeIn 68 = .ok (.iconst 0, 1) := by decide +kernel
theorem dX9_mergeIn_69 : decode cX9_mergeIn 69 = .ok (.istore 4, 2) := by decide +kernel
theorem dX9_mergeIn_71 : decode cX9_mergeIn 71 = .ok (.aload_n 0, 1) := by decide +kernel
theorem dX9_mergeIn_72 : decode cX9_mergeIn 72 = .ok (.iconst 0, 1) := by decide +kernel
theorem dX9_mergeIn_73 : decode cX9_mergeIn 73 = .ok (.iload_n 1, 1) := by decide +kernel
theorem dX9_mergeIn_74 : decode cX9_mergeIn 74 = .ok (.invokevirtual 72, 3) := by decide +kernel
theorem dX9_mergeIn_77 : decode cX9_mergeIn 77 = .ok (.ifCond .eq 15, 3) := by decide +kernel
theorem dX9_mergeIn_80 : decode cX9_mergeIn 80 = .ok (.iload 4, 2) := by decide +kernel
theorem dX9_mergeIn_82 : decode cX9_mergeIn 82 = .ok (.ifCond .eq 10, 3) := by decide +kernel
theorem dX9_mergeIn_85 : decode cX9_mergeIn 85 = .ok (.aload_n 0, 1) := by decide +kernel
theorem dX9_mergeIn_86 : decode cX9_mergeIn 86 = .ok (.iconst 3, 1) := by decide +kernel
theorem dX9_mergeIn_87 : decode cX9_mergeIn 87 = .ok (.iload_n 1, 1) := by decide +kernel
theorem dX9_mergeIn_88 : decode cX9_mergeIn 88 = .ok (.iload_n 1, 1) := by decide +kernel
theorem dX9_mergeIn_89 : decode cX9_mergeIn 89 = .ok (.invokevirtual 157, 3) := by decide +kernel
theorem dX9_mergeIn_92 : decode cX9_mergeIn 92 = .ok (.aload_n 0, 1) := by decide +kernel
theorem dX9_mergeIn_93 : decode cX9_mergeIn 93 = .ok (.getfield 7, 3) := by decide +kernel
theorem dX9_mergeIn_96 : decode cX9_mergeIn 96 = .ok (.sipush 192, 3) := by decide +kernel
theorem dX9_mergeIn_99 : decode cX9_mergeIn 99 = .ok (.iload_n 1, 1) := by decide +kernel
theorem dX9_mergeIn_100 : decode cX9_mergeIn 100 = .ok (.iadd, 1) := by decide +kernel
theorem dX9_mergeIn_101 : decode cX9_mergeIn 101 = .ok (.iload 4, 2) := by decide +kernel
theorem dX9_mergeIn_103 : decode cX9_mergeIn 103 = .ok (.ifCond .eq 7, 3) := by decide +kernel
theorem dX9_mergeIn_106 : decode cX9_mergeIn 106 = .ok (.iconst (-1), 1) := by decide +kernel
theorem dX9_mergeIn_107 : decode cX9_mergeIn 107 = .ok (.goto 5, 3) := by decide +kernel
theorem dX9_mergeIn_110 : decode cX9_mergeIn 110 = .ok (.bipush (-9), 2) := by decide +kernel
theorem dX9_mergeIn_112 : decode cX9_mergeIn 112 = .ok (.iastore, 1) := by decide +kernel
theorem dX9_mergeIn_113 : decode cX9_mergeIn 113 = .ok (.return_, 1) := by decide +kernel
theorem dX9_settle_0 : decode cX9_settle 0 = .ok (.aload_n 0, 1) := by decide +kernel
theorem dX9_settle_1 : decode cX9_settle 1 = .ok (.getfield 7, 3) := by decide +kernel
theorem dX9_settle_4 : decode cX9_settle 4 = .ok (.sipush 256, 3) := by decide +kernel
theorem dX9_settle_7 : decode cX9_settle 7 = .ok (.iaload, 1) := by decide +kernel
theorem dX9_settle_8 : decode cX9_settle 8 = .ok (.istore 4, 2) := by decide +kernel
theorem dX9_settle_10 : decode cX9_settle 10 = .ok (.iconst 3, 1) := by decide +kernel
theorem dX9_settle_11 : decode cX9_settle 11 = .ok (.iload 4, 2) := by decide +kernel
theorem dX9_settle_13 : decode cX9_settle 13 = .ok (.isub, 1) := by decide +kernel
theorem dX9_settle_14 : decode cX9_settle 14 = .ok (.istore 5, 2) := by decide +kernel
theorem dX9_settle_16 : decode cX9_settle 16 = .ok (.aload_n 0, 1) := by decide +kernel
theorem dX9_settle_17 : decode cX9_settle 17 = .ok (.getfield 7, 3) := by decide +kernel
theorem dX9_settle_20 : decode cX9_settle 20 = .ok (.bipush 64, 2) := by decide +kernel
theorem dX9_settle_22 : decode cX9_settle 22 = .ok (.iload 4, 2) := by decide +kernel
theorem dX9_settle_24 : decode cX9_settle 24 = .ok (.imul, 1) := by decide +kernel
theorem dX9_settle_25 : decode cX9_settle 25 = .ok (.iload_n 1, 1) := by decide +kernel
theorem dX9_settle_26 : decode cX9_settle 26 = .ok (.iadd, 1) := by decide +kernel
theorem dX9_settle_27 : decode cX9_settle 27 = .ok (.iload_n 2, 1) := by decide +kernel
theorem dX9_settle_28 : decode cX9_settle 28 = .ok (.iadd, 1) := by decide +kernel
theorem dX9_settle_29 : decode cX9_settle 29 = .ok (.iaload, 1) := by decide +kernel
theorem dX9_settle_30 : decode cX9_settle 30 = .ok (.istore 6, 2) := by decide +kernel
theorem dX9_settle_32 : decode cX9_settle 32 = .ok (.aload_n 0, 1) := by decide +kernel
theorem dX9_settle_33 : decode cX9_settle 33 = .ok (.getfield 7, 3) := by decide +kernel
theorem dX9_settle_36 : decode cX9_settle 36 = .ok (.bipush 64, 2) := by decide +kernel
theorem dX9_settle_38 : decode cX9_settle 38 = .ok (.iload 5, 2) := by decide +kernel
theorem dX9_settle_40 : decode cX9_settle 40 = .ok (.imul, 1) := by decide +kernel
theorem dX9_settle_41 : decode cX9_settle 41 = .ok (.iload_n 1, 1) := by decide +kernel
theorem dX9_settle_42 : decode cX9_settle 42 = .ok (.iadd, 1) := by decide +kernel
theorem dX9_settle_43 : decode cX9_settle 43 = .ok (.iload_n 2, 1) := by decide +kernel
theorem dX9_settle_44 : decode cX9_settle 44 = .ok (.iadd, 1) := by decide +kernel
theorem dX9_settle_45 : decode cX9_settle 45 = .ok (.iaload, 1) := by decide +kernel
theorem dX9_settle_46 : decode cX9_settle 46 = .ok (.istore 7, 2) := by decide +kernel
theorem dX9_settle_48 : decode cX9_settle 48 = .ok (.aload_n 0, 1) := by decide +kernel
theorem dX9_settle_49 : decode cX9_settle 49 = .ok (.getfield 7, 3) := by decide +kernel
theorem dX9_settle_52 : decode cX9_settle 52 = .ok (.iload_n 1, 1) := by decide +kernel
theorem dX9_settle_53 : decode cX9_settle 53 = .ok (.iload_n 2, 1) := by decide +kernel
theorem dX9_settle_54 : decode cX9_settle 54 = .ok (.iadd, 1) := by decide +kernel
theorem dX9_settle_55 : decode cX9_settle 55 = .ok (.iaload, 1) := by decide +kernel
theorem dX9_settle_56 : decode cX9_settle 56 = .ok (.istore 8, 2) := by decide +kernel
theorem dX9_settle_58 : decode cX9_settle 58 = .ok (.aload_n 0, 1) := by decide +kernel
theorem dX9_settle_59 : decode cX9_settle 59 = .ok (.iconst 0, 1) := by decide +kernel
theorem dX9_settle_60 : decode cX9_settle 60 = .ok (.iload_n 2, 1) := by decide +kernel
theorem dX9_settle_61 : decode cX9_settle 61 = .ok (.invokevirtual 72, 3) := by decide +kernel
theorem dX9_settle_64 : decode cX9_settle 64 = .ok (.istore 9, 2) := by decide +kernel
theorem dX9_settle_66 : decode cX9_settle 66 = .ok (.iload 6, 2) := by decide +kernel
theorem dX9_settle_68 : decode cX9_settle 68 = .ok (.istore 10, 2) := by decide +kernel
theorem dX9_settle_70 : decode cX9_settle 70 = .ok (.aload_n 0, 1) := by decide +kernel
theorem dX9_settle_71 : decode cX9_settle 71 = .ok (.iload 4, 2) := by decide +kernel
theorem dX9_settle_73 : decode cX9_settle 73 = .ok (.iload_n 2, 1) := by decide +kernel
theorem dX9_settle_74 : decode cX9_settle 74 = .ok (.invokevirtual 72, 3) := by decide +kernel
theorem dX9_settle_77 : decode cX9_settle 77 = .ok (.ifCond .ne 10, 3) := by decide +kernel
theorem dX9_settle_80 : decode cX9_settle 80 = .ok (.iload 7, 2) := by decide +kernel
theorem dX9_settle_82 : decode cX9_settle 82 = .ok (.istore 10, 2) := by decide +kernel
theorem dX9_settle_84 : decode cX9_settle 84 = .ok (.goto 68, 3) := by decide +kernel
theorem dX9_settle_87 : decode cX9_settle 87 = .ok (.aload_n 0, 1) := by decide +kernel
theorem dX9_settle_88 : decode cX9_settle 88 = .ok (.iload 5, 2) := by decide +kernel
theorem dX9_settle_90 : decode cX9_settle 90 = .ok (.iload_n 2, 1) := by decide +kernel
theorem dX9_settle_91 : decode cX9_settle 91 = .ok (.invokevirtual 72, 3) := by decide +kernel
theorem dX9_settle_94 : decode cX9_settle 94 = .ok (.ifCond .eq 58, 3) := by decide +kernel
theorem dX9_settle_97 : decode cX9_settle 97 = .ok (.iload 6, 2) := by decide +kernel
theorem dX9_settle_99 : decode cX9_settle 99 = .ok (.iload 7, 2) := by decide +kernel
theorem dX9_settle_101 : decode cX9_settle 101 = .ok (.if_icmp .eq 51, 3) := by decide +kernel
theorem dX9_settle_104 : decode cX9_settle 104 = .ok (.iload 9, 2) := by decide +kernel
theorem dX9_settle_106 : decode cX9_settle 106 = .ok (.ifCond .eq 17, 3) := by decide +kernel
theorem dX9_settle_109 : decode cX9_settle 109 = .ok (.iload 6, 2) := by decide +kernel
theorem dX9_settle_111 : decode cX9_settle 111 = .ok (.iload 8, 2) := by decide +kernel
theorem dX9_settle_113 : decode cX9_settle 113 = .ok (.if_icmp .ne 10, 3) := by decide +kernel
theorem dX9_settle_116 : decode cX9_settle 116 = .ok (.iload 7, 2) := by decide +kernel
theorem dX9_settle_118 : decode cX9_settle 118 = .ok (.istore 10, 2) := by decide +kernel
theorem dX9_settle_120 : decode cX9_settle 120 = .ok (.goto 32, 3) := by decide +kernel
theorem dX9_settle_123 : decode cX9_settle 123 = .ok (.iload 9, 2) := by decide +kernel
theorem dX9_settle_125 : decode cX9_settle 125 = .ok (.ifCond .eq 10, 3) := by decide +kernel
theorem dX9_settle_128 : decode cX9_settle 128 = .ok (.iload 7, 2) := by decide +kernel
theorem dX9_settle_130 : decode cX9_settle 130 = .ok (.iload 8, 2) := by decide +kernel
theorem dX9_settle_132 : decode cX9_settle 132 = .ok (.if_icmp .eq 20, 3) := by decide +kernel
theorem dX9_settle_135 : decode cX9_settle 135 = .ok (.aload_n 0, 1) := by decide +kernel
theorem dX9_settle_136 : decode cX9_settle 136 = .ok (.iload_n 3, 1) := by decide +kernel
theorem dX9_settle_137 : decode cX9_settle 137 = .ok (.iload_n 2, 1) := by decide +kernel
theorem dX9_settle_138 : decode cX9_settle 138 = .ok (.iload_n 3, 1) := by decide +kernel
theorem dX9_settle_139 : decode cX9_settle 139 = .ok (.iconst 2, 1) := by decide +kernel
theorem dX9_settle_140 : decode cX9_settle 140 = .ok (.if_icmp .ne 8, 3) := by decide +kernel
theorem dX9_settle_143 : decode cX9_settle 143 = .ok (.iload 7, 2) := by decide +kernel
theorem dX9_settle_145 : decode cX9_settle 145 = .ok (.goto 4, 3) := by decide +kernel
theorem dX9_settle_148 : decode cX9_settle 148 = .ok (.iload_n 2, 1) := by decide +kernel
theorem dX9_settle_149 : decode cX9_settle 149 = .ok (.invokevirtual 157, 3) := by decide +kernel
theorem dX9_settle_152 : decode cX9_settle 152 = .ok (.aload_n 0, 1) := by decide +kernel
theorem dX9_settle_153 : decode cX9_settle 153 = .ok (.getfield 7, 3) := by decide +kernel
theorem dX9_settle_156 : decode cX9_settle 156 = .ok (.sipush 192, 3) := by decide +kernel
theorem dX9_settle_159 : decode cX9_settle 159 = .ok (.iload_n 1, 1) := by decide +kernel
theorem dX9_settle_160 : decode cX9_settle 160 = .ok (.iadd, 1) := by decide +kernel
theorem dX9_settle_161 : decode cX9_settle 161 = .ok (.iload_n 2, 1) := by decide +kernel
theorem dX9_settle_162 : decode cX9_settle 162 = .ok (.iadd, 1) := by decide +kernel
theorem dX9_settle_163 : decode cX9_settle 163 = .ok (.iload 10, 2) := by decide +kernel
theorem dX9_settle_165 : decode cX9_settle 165 = .ok (.iastore, 1) := by decide +kernel
theorem dX9_settle_166 : decode cX9_settle 166 = .ok (.return_, 1) := by decide +kernel
theorem dX9_nearest_0 : decode cX9_nearest 0 = .ok (.iload_n 1, 1) := by decide +kernel
theorem dX9_nearest_1 : decode cX9_nearest 1 = .ok (.istore_n 2, 1) := by decide +kernel
theorem dX9_nearest_2 : decode cX9_nearest 2 = .ok (.aload_n 0, 1) := by decide +kernel
theorem dX9_nearest_3 : decode cX9_nearest 3 = .ok (.iconst 3, 1) := by decide +kernel
theorem dX9_nearest_4 : decode cX9_nearest 4 = .ok (.iload_n 2, 1) := by decide +kernel
theorem dX9_nearest_5 : decode cX9_nearest 5 = .ok (.invokevirtual 72, 3) := by decide +kernel
theorem dX9_nearest_8 : decode cX9_nearest 8 = .ok (.ifCond .ne 13, 3) := by decide +kernel
theorem dX9_nearest_11 : decode cX9_nearest 11 = .ok (.aload_n 0, 1) := by decide +kernel
theorem dX9_nearest_12 : decode cX9_nearest 12 = .ok (.iconst 0, 1) := by decide +kernel
theorem dX9_nearest_13 : decode cX9_nearest 13 = .ok (.iload_n 2, 1) := by decide +kernel
theorem dX9_nearest_14 : decode cX9_nearest 14 = .ok (.invokevirtual 76, 3) := by decide +kernel
theorem dX9_nearest_17 : decode cX9_nearest 17 = .ok (.istore_n 2, 1) := by decide +kernel
theorem dX9_nearest_18 : decode cX9_nearest 18 = .ok (.goto (-16), 3) := by decide +kernel
theorem dX9_nearest_21 : decode cX9_nearest 21 = .ok (.iload_n 2, 1) := by decide +kernel
theorem dX9_nearest_22 : decode cX9_nearest 22 = .ok (.ireturn, 1) := by decide +kernel
theorem dX9_isOnRing_0 : decode cX9_isOnRing 0 = .ok (.iload_n 1, 1) := by decide +kernel
theorem dX9_isOnRing_1 : decode cX9_isOnRing 1 = .ok (.istore_n 2, 1) := by decide +kernel
theorem dX9_isOnRing_2 : decode cX9_isOnRing 2 = .ok (.iconst 0, 1) := by decide +kernel
theorem dX9_isOnRing_3 : decode cX9_isOnRing 3 = .ok (.istore_n 3, 1) := by decide +kernel
theorem dX9_isOnRing_4 : decode cX9_isOnRing 4 = .ok (.iload_n 3, 1) := by decide +kernel
theorem dX9_isOnRing_5 : decode cX9_isOnRing 5 = .ok (.bipush 16, 2) := by decide +kernel
theorem dX9_isOnRing_7 : decode cX9_isOnRing 7 = .ok (.if_icmp .ge 35, 3) := by decide +kernel
theorem dX9_isOnRing_10 : decode cX9_isOnRing 10 = .ok (.iload_n 2, 1) := by decide +kernel
theorem dX9_isOnRing_11 : decode cX9_isOnRing 11 = .ok (.ifCond .gt 7, 3) := by decide +kernel
theorem dX9_isOnRing_14 : decode cX9_isOnRing 14 = .ok (.iconst 0, 1) := by decide +kernel
theorem dX9_isOnRing_15 : decode cX9_isOnRing 15 = .ok (.goto 9, 3) := by decide +kernel
theorem dX9_isOnRing_18 : decode cX9_isOnRing 18 = .ok (.aload_n 0, 1) := by decide +kernel
theorem dX9_isOnRing_19 : decode cX9_isOnRing 19 = .ok (.iconst 3, 1) := by decide +kernel
theorem dX9_isOnRing_20 : decode cX9_isOnRing 20 = .ok (.iload_n 2, 1) := by decide +kernel
theorem dX9_isOnRing_21 : decode cX9_isOnRing 21 = .ok (.invokevirtual 76, 3) := by decide +kernel
theorem dX9_isOnRing_24 : decode cX9_isOnRing 24 = .ok (.istore_n 2, 1) := by decide +kernel
theorem dX9_isOnRing_25 : decode cX9_isOnRing 25 = .ok (.iload_n 2, 1) := by decide +kernel
theorem dX9_isOnRing_26 : decode cX9_isOnRing 26 = .ok (.iload_n 1, 1) := by decide +kernel
theorem dX9_isOnRing_27 : decode cX9_isOnRing 27 = .ok (.if_icmp .ne 9, 3) := by decide +kernel
theorem dX9_isOnRing_30 : decode cX9_isOnRing 30 = .ok (.iload_n 1, 1) := by decide +kernel
theorem dX9_isOnRing_31 : decode cX9_isOnRing 31 = .ok (.ifCond .le 5, 3) := by decide +kernel
theorem dX9_isOnRing_34 : decode cX9_isOnRing 34 = .ok (.iconst 1, 1) := by decide +kernel
theorem dX9_isOnRing_35 : decode cX9_isOnRing 35 = .ok (.ireturn, 1) := by decide +kernel
theorem dX9_isOnRing_36 : decode cX9_isOnRing 36 = .ok (.iinc 3 1, 3) := by decide +kernel
theorem dX9_isOnRing_39 : decode cX9_isOnRing 39 = .ok (.goto (-35), 3) := by decide +kernel
theorem dX9_isOnRing_42 : decode cX9_isOnRing 42 = .ok (.iconst 0, 1) := by decide +kernel
theorem dX9_isOnRing_43 : decode cX9_isOnRing 43 = .ok (.ireturn, 1) := by decide +kernel
theorem dX9_ringFrom_0 : decode cX9_ringFrom 0 = .ok (.iconst 0, 1) := by decide +kernel
theorem dX9_ringFrom_1 : decode cX9_ringFrom 1 = .ok (.istore_n 2, 1) := by decide +kernel
theorem dX9_ringFrom_2 : decode cX9_ringFrom 2 = .ok (.iload_n 1, 1) := by decide +kernel
theorem dX9_ringFrom_3 : decode cX9_ringFrom 3 = .ok (.istore_n 3, 1) := by decide +kernel
theorem dX9_ringFrom_4 : decode cX9_ringFrom 4 = .ok (.iload_n 2, 1) := by decide +kernel
theorem dX9_ringFrom_5 : decode cX9_ringFrom 5 = .ok (.iconst 1, 1) := by decide +kernel
theorem dX9_ringFrom_6 : decode cX9_ringFrom 6 = .ok (.iload_n 3, 1) := by decide +kernel
theorem dX9_ringFrom_7 : decode cX9_ringFrom 7 = .ok (.ishl, 1) := by decide +kernel
theorem dX9_ringFrom_8 : decode cX9_ringFrom 8 = .ok (.ior, 1) := by decide +kernel
theorem dX9_ringFrom_9 : decode cX9_ringFrom 9 = .ok (.istore_n 2, 1) := by decide +kernel
theorem dX9_ringFrom_10 : decode cX9_ringFrom 10 = .ok (.aload_n 0, 1) := by decide +kernel
theorem dX9_ringFrom_11 : decode cX9_ringFrom 11 = .ok (.iconst 3, 1) := by decide +kernel
theorem dX9_ringFrom_12 : decode cX9_ringFrom 12 = .ok (.iload_n 3, 1) := by decide +kernel
theorem dX9_ringFrom_13 : decode cX9_ringFrom 13 = .ok (.invokevirtual 76, 3) := by decide +kernel
theorem dX9_ringFrom_16 : decode cX9_ringFrom 16 = .ok (.istore_n 3, 1) := by decide +kernel
theorem dX9_ringFrom_17 : decode cX9_ringFrom 17 = .ok (.iload_n 3, 1) := by decide +kernel
theorem dX9_ringFrom_18 : decode cX9_ringFrom 18 = .ok (.iload_n 1, 1) := by decide +kernel
theorem dX9_ringFrom_19 : decode cX9_ringFrom 19 = .ok (.if_icmp .ne (-15), 3) := by decide +kernel
theorem dX9_ringFrom_22 : decode cX9_ringFrom 22 = .ok (.iload_n 2, 1) := by decide +kernel
theorem dX9_ringFrom_23 : decode cX9_ringFrom 23 = .ok (.ireturn, 1) := by decide +kernel
theorem dX9_breakRings_0 : decode cX9_breakRings 0 = .ok (.iconst 3, 1) := by decide +kernel
theorem dX9_breakRings_1 : decode cX9_breakRings 1 = .ok (.aload_n 0, 1) := by decide +kernel
theorem dX9_breakRings_2 : decode cX9_breakRings 2 = .ok (.getfield 7, 3) := by decide +kernel
theorem dX9_breakRings_5 : decode cX9_breakRings 5 = .ok (.sipush 256, 3) := by decide +kernel
theorem dX9_breakRings_8 : decode cX9_breakRings 8 = .ok (.iaload, 1) := by decide +kernel
theorem dX9_breakRings_9 : decode cX9_breakRings 9 = .ok (.isub, 1) := by decide +kernel
theorem dX9_breakRings_10 : decode cX9_breakRings 10 = .ok (.istore_n 1, 1) := by decide +kernel
theorem dX9_breakRings_11 : decode cX9_breakRings 11 = .ok (.iconst 0, 1) := by decide +kernel
theorem dX9_breakRings_12 : decode cX9_breakRings 12 = .ok (.istore_n 2, 1) := by decide +kernel
theorem dX9_breakRings_13 : decode cX9_breakRings 13 = .ok (.iconst 1, 1) := by decide +kernel
theorem dX9_breakRings_14 : decode cX9_breakRings 14 = .ok (.istore_n 3, 1) := by decide +kernel
theorem dX9_breakRings_15 : decode cX9_breakRings 15 = .ok (.iload_n 3, 1) := by decide +kernel
theorem dX9_breakRings_16 : decode cX9_breakRings 16 = .ok (.bipush 16, 2) := by decide +kernel
theorem dX9_breakRings_18 : decode cX9_breakRings 18 = .ok (.if_icmp .ge 232, 3) := by decide +kernel
theorem dX9_breakRings_21 : decode cX9_breakRings 21 = .ok (.aload_n 0, 1) := by decide +kernel
theorem dX9_breakRings_22 : decode cX9_breakRings 22 = .ok (.iconst 3, 1) := by decide +kernel
theorem dX9_breakRings_23 : decode cX9_breakRings 23 = .ok (.iload_n 3, 1) := by decide +kernel
theorem dX9_breakRings_24 : decode cX9_breakRings 24 = .ok (.invokevirtual 72, 3) := by decide +kernel
theorem dX9_breakRings_27 : decode cX9_breakRings 27 = .ok (.ifCond .eq 11, 3) := by decide +kernel
theorem dX9_breakRings_30 : decode cX9_breakRings 30 = .ok (.aload_n 0, 1) := by decide +kernel
theorem dX9_breakRings_31 : decode cX9_breakRings 31 = .ok (.iload_n 3, 1) := by decide +kernel
theorem dX9_breakRings_32 : decode cX9_breakRings 32 = .ok (.invokevirtual 161, 3) := by decide +kernel
theorem dX9_breakRings_35 : decode cX9_breakRings 35 = .ok (.ifCond .ne 9, 3) := by decide +kernel
theorem dX9_breakRings_38 : decode cX9_breakRings 38 = .ok (.iinc 3 1, 3) := by decide +kernel
theorem dX9_breakRings_41 : decode cX9_breakRings 41 = .ok (.goto (-26), 3) := by decide +kernel
theorem dX9_breakRings_44 : decode cX9_breakRings 44 = .ok (.aload_n 0, 1) := by decide +kernel
theorem dX9_breakRings_45 : decode cX9_breakRings 45 = .ok (.iload_n 3, 1) := by decide +kernel
theorem dX9_breakRings_46 : decode cX9_breakRings 46 = .ok (.invokevirtual 164, 3) := by decide +kernel
theorem dX9_breakRings_49 : decode cX9_breakRings 49 = .ok (.istore 4, 2) := by decide +kernel
theorem dX9_breakRings_51 : decode cX9_breakRings 51 = .ok (.iconst (-1), 1) := by decide +kernel
theorem dX9_breakRings_52 : decode cX9_breakRings 52 = .ok (.istore 5, 2) := by decide +kernel
theorem dX9_breakRings_54 : decode cX9_breakRings 54 = .ok (.bipush 15, 2) := by decide +kernel
theorem dX9_breakRings_56 : decode cX9_breakRings 56 = .ok (.istore 6, 2) := by decide +kernel
theorem dX9_breakRings_58 : decode cX9_breakRings 58 = .ok (.iload 6, 2) := by decide +kernel
theorem dX9_breakRings_60 : decode cX9_breakRings 60 = .ok (.ifCond .le 104, 3) := by decide +kernel
theorem dX9_breakRings_63 : decode cX9_breakRings 63 = .ok (.iload 4, 2) := by decide +kernel
theorem dX9_breakRings_65 : decode cX9_breakRings 65 = .ok (.iload 6, 2) := by decide +kernel
theorem dX9_breakRings_67 : decode cX9_breakRings 67 = .ok (.ishr, 1) := by decide +kernel
theorem dX9_breakRings_68 : decode cX9_breakRings 68 = .ok (.iconst 1, 1) := by decide +kernel
theorem dX9_breakRings_69 : decode cX9_breakRings 69 = .ok (.iand, 1) := by decide +kernel
theorem dX9_breakRings_70 : decode cX9_breakRings 70 = .ok (.iconst 1, 1) := by decide +kernel
theorem dX9_breakRings_71 : decode cX9_breakRings 71 = .ok (.if_icmp .ne 36, 3) := by decide +kernel
theorem dX9_breakRings_74 : decode cX9_breakRings 74 = .ok (.iload_n 2, 1) := by decide +kernel
theorem dX9_breakRings_75 : decode cX9_breakRings 75 = .ok (.iload 6, 2) := by decide +kernel
theorem dX9_breakRings_77 : decode cX9_breakRings 77 = .ok (.ishr, 1) := by decide +kernel
theorem dX9_breakRings_78 : decode cX9_breakRings 78 = .ok (.iconst 1, 1) := by decide +kernel
theorem dX9_breakRings_79 : decode cX9_breakRings 79 = .ok (.iand, 1) := by decide +kernel
theorem dX9_breakRings_80 : decode cX9_breakRings 80 = .ok (.ifCond .ne 27, 3) := by decide +kernel
theorem dX9_breakRings_83 : decode cX9_breakRings 83 = .ok (.aload_n 0, 1) := by decide +kernel
theorem dX9_breakRings_84 : decode cX9_breakRings 84 = .ok (.iconst 0, 1) := by decide +kernel
theorem dX9_breakRings_85 : decode cX9_breakRings 85 = .ok (.iload 6, 2) := by decide +kernel
theorem dX9_breakRings_87 : decode cX9_breakRings 87 = .ok (.invokevirtual 72, 3) := by decide +kernel
theorem dX9_breakRings_90 : decode cX9_breakRings 90 = .ok (.ifCond .eq 17, 3) := by decide +kernel
theorem dX9_breakRings_93 : decode cX9_breakRings 93 = .ok (.aload_n 0, 1) := by decide +kernel
theorem dX9_breakRings_94 : decode cX9_breakRings 94 = .ok (.iload_n 1, 1) := by decide +kernel
theorem dX9_breakRings_95 : decode cX9_breakRings 95 = .ok (.iload 6, 2) := by decide +kernel
theorem dX9_breakRings_97 : decode cX9_breakRings 97 = .ok (.invokevirtual 72, 3) := by decide +kernel
theorem dX9_breakRings_100 : decode cX9_breakRings 100 = .ok (.ifCond .eq 7, 3) := by decide +kernel
theorem dX9_breakRings_103 : decode cX9_breakRings 103 = .ok (.iconst 1, 1) := by decide +kernel
theorem dX9_breakRings_104 : decode cX9_breakRings 104 = .ok (.goto 4, 3) := by decide +kernel
theorem dX9_breakRings_107 : decode cX9_breakRings 107 = .ok (.iconst 0, 1) := by decide +kernel
theorem dX9_breakRings_108 : decode cX9_breakRings 108 = .ok (.istore 7, 2) := by decide +kernel
theorem dX9_breakRings_110 : decode cX9_breakRings 110 = .ok (.iload 7, 2) := by decide +kernel
theorem dX9_breakRings_112 : decode cX9_breakRings 112 = .ok (.ifCond .eq 42, 3) := by decide +kernel
theorem dX9_breakRings_115 : decode cX9_breakRings 115 = .ok (.aload_n 0, 1) := by decide +kernel
theorem dX9_breakRings_116 : decode cX9_breakRings 116 = .ok (.iconst 3, 1) := by decide +kernel
theorem dX9_breakRings_117 : decode cX9_breakRings 117 = .ok (.iload 6, 2) := by decide +kernel
theorem dX9_breakRings_119 : decode cX9_breakRings 119 = .ok (.invokevirtual 76, 3) := by decide +kernel
theorem dX9_breakRings_122 : decode cX9_breakRings 122 = .ok (.aload_n 0, 1) := by decide +kernel
theorem dX9_breakRings_123 : decode cX9_breakRings 123 = .ok (.iload_n 1, 1) := by decide +kernel
theorem dX9_breakRings_124 : decode cX9_breakRings 124 = .ok (.iload 6, 2) := by decide +kernel
theorem dX9_breakRings_126 : decode cX9_breakRings 126 = .ok (.invokevirtual 76, 3) := by decide +kernel
theorem dX9_breakRings_129 : decode cX9_breakRings 129 = .ok (.if_icmp .ne 25, 3) := by decide +kernel
theorem dX9_breakRings_132 : decode cX9_breakRings 132 = .ok (.aload_n 0, 1) := by decide +kernel
theorem dX9_breakRings_133 : decode cX9_breakRings 133 = .ok (.iload_n 1, 1) := by decide +kernel
theorem dX9_breakRings_134 : decode cX9_breakRings 134 = .ok (.iload 6, 2) := by decide +kernel
theorem dX9_breakRings_136 : decode cX9_breakRings 136 = .ok (.invokevirtual 76, 3) := by decide +kernel
theorem dX9_breakRings_139 : decode cX9_breakRings 139 = .ok (.aload_n 0, 1) := by decide +kernel
theorem dX9_breakRings_140 : decode cX9_breakRings 140 = .ok (.iconst 0, 1) := by decide +kernel
theorem dX9_breakRings_141 : decode cX9_breakRings 141 = .ok (.iload 6, 2) := by decide +kernel
theorem dX9_breakRings_143 : decode cX9_breakRings 143 = .ok (.invokevirtual 76, 3) := by decide +kernel
theorem dX9_breakRings_146 : decode cX9_breakRings 146 = .ok (.if_icmp .eq 8, 3) := by decide +kernel
theorem dX9_breakRings_149 : decode cX9_breakRings 149 = .ok (.iload 6, 2) := by decide +kernel
theorem dX9_breakRings_151 : decode cX9_breakRings 151 = .ok (.goto 5, 3) := by decide +kernel
theorem dX9_breakRings_154 : decode cX9_breakRings 154 = .ok (.iload 5, 2) := by decide +kernel
theorem dX9_breakRings_156 : decode cX9_breakRings 156 = .ok (.istore 5, 2) := by decide +kernel
theorem dX9_breakRings_158 : decode cX9_breakRings 158 = .ok (.iinc 6 (-1), 3) := by decide +kernel
theorem dX9_breakRings_161 : decode cX9_breakRings 161 = .ok (.goto (-103), 3) := by decide +kernel
theorem dX9_breakRings_164 : decode cX9_breakRings 164 = .ok (.iload 5, 2) := by decide +kernel
theorem dX9_breakRings_166 : decode cX9_breakRings 166 = .ok (.iconst (-1), 1) := by decide +kernel
theorem dX9_breakRings_167 : decode cX9_breakRings 167 = .ok (.if_icmp .ne 7, 3) := by decide +kernel
theorem dX9_breakRings_170 : decode cX9_breakRings 170 = .ok (.iconst 0, 1) := by decide +kernel
theorem dX9_breakRings_171 : decode cX9_breakRings 171 = .ok (.goto 14, 3) := by decide +kernel
theorem dX9_breakRings_174 : decode cX9_breakRings 174 = .ok (.aload_n 0, 1) := by decide +kernel
theorem dX9_breakRings_175 : decode cX9_breakRings 175 = .ok (.aload_n 0, 1) := by decide +kernel
theorem dX9_breakRings_176 : decode cX9_breakRings 176 = .ok (.iconst 0, 1) := by decide +kernel
theorem dX9_breakRings_177 : decode cX9_breakRings 177 = .ok (.iload 5, 2) := by decide +kernel
theorem dX9_breakRings_179 : decode cX9_breakRings 179 = .ok (.invokevirtual 76, 3) := by decide +kernel
theorem dX9_breakRings_182 : decode cX9_breakRings 182 = .ok (.invokevirtual 167, 3) := by decide +kernel
theorem dX9_breakRings_185 : decode cX9_breakRings 185 = .ok (.istore 6, 2) := by decide +kernel
theorem dX9_breakRings_187 : decode cX9_breakRings 187 = .ok (.iload_n 2, 1) := by decide +kernel
theorem dX9_breakRings_188 : decode cX9_breakRings 188 = .ok (.iload 5, 2) := by decide +kernel
theorem dX9_breakRings_190 : decode cX9_breakRings 190 = .ok (.iconst (-1), 1) := by decide +kernel
theorem dX9_breakRings_191 : decode cX9_breakRings 191 = .ok (.if_icmp .ne 7, 3) := by decide +kernel
theorem dX9_breakRings_194 : decode cX9_breakRings 194 = .ok (.iconst 0, 1) := by decide +kernel
theorem dX9_breakRings_195 : decode cX9_breakRings 195 = .ok (.goto 7, 3) := by decide +kernel
theorem dX9_breakRings_198 : decode cX9_breakRings 198 = .ok (.iconst 1, 1) := by decide +kernel
theorem dX9_breakRings_199 : decode cX9_breakRings 199 = .ok (.iload 5, 2) := by decide +kernel
theorem dX9_breakRings_201 : decode cX9_breakRings 201 = .ok (.ishl, 1) := by decide +kernel
theorem dX9_breakRings_202 : decode cX9_breakRings 202 = .ok (.ior, 1) := by decide +kernel
theorem dX9_breakRings_203 : decode cX9_breakRings 203 = .ok (.istore_n 2, 1) := by decide +kernel
theorem dX9_breakRings_204 : decode cX9_breakRings 204 = .ok (.iload 5, 2) := by decide +kernel
theorem dX9_breakRings_206 : decode cX9_breakRings 206 = .ok (.iconst (-1), 1) := by decide +kernel
theorem dX9_breakRings_207 : decode cX9_breakRings 207 = .ok (.if_icmp .ne 7, 3) := by decide +kernel
theorem dX9_breakRings_210 : decode cX9_breakRings 210 = .ok (.iload_n 3, 1) := by decide +kernel
theorem dX9_breakRings_211 : decode cX9_breakRings 211 = .ok (.goto 5, 3) := by decide +kernel
theorem dX9_breakRings_214 : decode cX9_breakRings 214 = .ok (.iload 5, 2) := by decide +kernel
theorem dX9_breakRings_216 : decode cX9_breakRings 216 = .ok (.istore 5, 2) := by decide +kernel
theorem dX9_breakRings_218 : decode cX9_breakRings 218 = .ok (.aload_n 0, 1) := by decide +kernel
theorem dX9_breakRings_219 : decode cX9_breakRings 219 = .ok (.iconst 5, 1) := by decide +kernel
theorem dX9_breakRings_220 : decode cX9_breakRings 220 = .ok (.iload 5, 2) := by decide +kernel
theorem dX9_breakRings_222 : decode cX9_breakRings 222 = .ok (.aload_n 0, 1) := by decide +kernel
theorem dX9_breakRings_223 : decode cX9_breakRings 223 = .ok (.iconst 3, 1) := by decide +kernel
theorem dX9_breakRings_224 : decode cX9_breakRings 224 = .ok (.iload 5, 2) := by decide +kernel
theorem dX9_breakRings_226 : decode cX9_breakRings 226 = .ok (.invokevirtual 76, 3) := by decide +kernel
theorem dX9_breakRings_229 : decode cX9_breakRings 229 = .ok (.invokevirtual 157, 3) := by decide +kernel
theorem dX9_breakRings_232 : decode cX9_breakRings 232 = .ok (.aload_n 0, 1) := by decide +kernel
theorem dX9_breakRings_233 : decode cX9_breakRings 233 = .ok (.getfield 7, 3) := by decide +kernel
theorem dX9_breakRings_236 : decode cX9_breakRings 236 = .ok (.sipush 192, 3) := by decide +kernel
theorem dX9_breakRings_239 : decode cX9_breakRings 239 = .ok (.iload 5, 2) := by decide +kernel
theorem dX9_breakRings_241 : decode cX9_breakRings 241 = .ok (.iadd, 1) := by decide +kernel
theorem dX9_breakRings_242 : decode cX9_breakRings 242 = .ok (.iload 6, 2) := by decide +kernel
theorem dX9_breakRings_244 : decode cX9_breakRings 244 = .ok (.iastore, 1) := by decide +kernel
theorem dX9_breakRings_245 : decode cX9_breakRings 245 = .ok (.iconst 1, 1) := by decide +kernel
theorem dX9_breakRings_246 : decode cX9_breakRings 246 = .ok (.istore_n 3, 1) := by decide +kernel
theorem dX9_breakRings_247 : decode cX9_breakRings 247 = .ok (.goto (-232), 3) := by decide +kernel
theorem dX9_breakRings_250 : decode cX9_breakRings 250 = .ok (.return_, 1) := by decide +kernel
theorem dX9_keyOf_0 : decode cX9_keyOf 0 = .ok (.aload_n 0, 1) := by decide +kernel
theorem dX9_keyOf_1 : decode cX9_keyOf 1 = .ok (.iconst 3, 1) := by decide +kernel
theorem dX9_keyOf_2 : decode cX9_keyOf 2 = .ok (.iload_n 1, 1) := by decide +kernel
theorem dX9_keyOf_3 : decode cX9_keyOf 3 = .ok (.invokevirtual 76, 3) := by decide +kernel
theorem dX9_keyOf_6 : decode cX9_keyOf 6 = .ok (.istore_n 2, 1) := by decide +kernel
theorem dX9_keyOf_7 : decode cX9_keyOf 7 = .ok (.aload_n 0, 1) := by decide +kernel
theorem dX9_keyOf_8 : decode cX9_keyOf 8 = .ok (.getfield 7, 3) := by decide +kernel
theorem dX9_keyOf_11 : decode cX9_keyOf 11 = .ok (.sipush 256, 3) := by decide +kernel
theorem dX9_keyOf_14 : decode cX9_keyOf 14 = .ok (.iaload, 1) := by decide +kernel
theorem dX9_keyOf_15 : decode cX9_keyOf 15 = .ok (.istore_n 3, 1) := by decide +kernel
theorem dX9_keyOf_16 : decode cX9_keyOf 16 = .ok (.iconst 3, 1) := by decide +kernel
theorem dX9_keyOf_17 : decode cX9_keyOf 17 = .ok (.iload_n 3, 1) := by decide +kernel
theorem dX9_keyOf_18 : decode cX9_keyOf 18 = .ok (.isub, 1) := by decide +kernel
theorem dX9_keyOf_19 : decode cX9_keyOf 19 = .ok (.istore 4, 2) := by decide +kernel
theorem dX9_keyOf_21 : decode cX9_keyOf 21 = .ok (.aload_n 0, 1) := by decide +kernel
theorem dX9_keyOf_22 : decode cX9_keyOf 22 = .ok (.iload_n 3, 1) := by decide +kernel
theorem dX9_keyOf_23 : decode cX9_keyOf 23 = .ok (.iload_n 1, 1) := by decide +kernel
theorem dX9_keyOf_24 : decode cX9_keyOf 24 = .ok (.invokevirtual 72, 3) := by decide +kernel
theorem dX9_keyOf_27 : decode cX9_keyOf 27 = .ok (.ifCond .eq 24, 3) := by decide +kernel
theorem dX9_keyOf_30 : decode cX9_keyOf 30 = .ok (.aload_n 0, 1) := by decide +kernel
theorem dX9_keyOf_31 : decode cX9_keyOf 31 = .ok (.iload_n 3, 1) := by decide +kernel
theorem dX9_keyOf_32 : decode cX9_keyOf 32 = .ok (.iload_n 1, 1) := by decide +kernel
theorem dX9_keyOf_33 : decode cX9_keyOf 33 = .ok (.invokevirtual 76, 3) := by decide +kernel
theorem dX9_keyOf_36 : decode cX9_keyOf 36 = .ok (.iload_n 2, 1) := by decide +kernel
theorem dX9_keyOf_37 : decode cX9_keyOf 37 = .ok (.if_icmp .ne 14, 3) := by decide +kernel
theorem dX9_keyOf_40 : decode cX9_keyOf 40 = .ok (.iconst 2, 1) := by decide +kernel
theorem dX9_keyOf_41 : decode cX9_keyOf 41 = .ok (.aload_n 0, 1) := by decide +kernel
theorem dX9_keyOf_42 : decode cX9_keyOf 42 = .ok (.iload_n 3, 1) := by decide +kernel
theorem dX9_keyOf_43 : decode cX9_keyOf 43 = .ok (.iload_n 1, 1) := by decide +kernel
theorem dX9_keyOf_44 : decode cX9_keyOf 44 = .ok (.invokevirtual 80, 3) := by decide +kernel
theorem dX9_keyOf_47 : decode cX9_keyOf 47 = .ok (.imul, 1) := by decide +kernel
theorem dX9_keyOf_48 : decode cX9_keyOf 48 = .ok (.goto 40, 3) := by decide +kernel
theorem dX9_keyOf_51 : decode cX9_keyOf 51 = .ok (.aload_n 0, 1) := by decide +kernel
theorem dX9_keyOf_52 : decode cX9_keyOf 52 = .ok (.iload 4, 2) := by decide +kernel
theorem dX9_keyOf_54 : decode cX9_keyOf 54 = .ok (.iload_n 1, 1) := by decide +kernel
theorem dX9_keyOf_55 : decode cX9_keyOf 55 = .ok (.invokevirtual 72, 3) := by decide +kernel
theorem dX9_keyOf_58 : decode cX9_keyOf 58 = .ok (.ifCond .eq 28, 3) := by decide +kernel
theorem dX9_keyOf_61 : decode cX9_keyOf 61 = .ok (.aload_n 0, 1) := by decide +kernel
theorem dX9_keyOf_62 : decode cX9_keyOf 62 = .ok (.iload 4, 2) := by decide +kernel
theorem dX9_keyOf_64 : decode cX9_keyOf 64 = .ok (.iload_n 1, 1) := by decide +kernel
theorem dX9_keyOf_65 : decode cX9_keyOf 65 = .ok (.invokevirtual 76, 3) := by decide +kernel
theorem dX9_keyOf_68 : decode cX9_keyOf 68 = .ok (.iload_n 2, 1) := by decide +kernel
theorem dX9_keyOf_69 : decode cX9_keyOf 69 = .ok (.if_icmp .ne 17, 3) := by decide +kernel
theorem dX9_keyOf_72 : decode cX9_keyOf 72 = .ok (.iconst 2, 1) := by decide +kernel
theorem dX9_keyOf_73 : decode cX9_keyOf 73 = .ok (.aload_n 0, 1) := by decide +kernel
theorem dX9_keyOf_74 : decode cX9_keyOf 74 = .ok (.iload 4, 2) := by decide +kernel
theorem dX9_keyOf_76 : decode cX9_keyOf 76 = .ok (.iload_n 1, 1) := by decide +kernel
theorem dX9_keyOf_77 : decode cX9_keyOf 77 = .ok (.invokevirtual 80, 3) := by decide +kernel
theorem dX9_keyOf_80 : decode cX9_keyOf 80 = .ok (.imul, 1) := by decide +kernel
theorem dX9_keyOf_81 : decode cX9_keyOf 81 = .ok (.iconst 1, 1) := by decide +kernel
theorem dX9_keyOf_82 : decode cX9_keyOf 82 = .ok (.iadd, 1) := by decide +kernel
theorem dX9_keyOf_83 : decode cX9_keyOf 83 = .ok (.goto 5, 3) := by decide +kernel
theorem dX9_keyOf_86 : decode cX9_keyOf 86 = .ok (.bipush 100, 2) := by decide +kernel
theorem dX9_keyOf_88 : decode cX9_keyOf 88 = .ok (.ireturn, 1) := by decide +kernel
theorem dX9_merge_0 : decode cX9_merge 0 = .ok (.aload_n 0, 1) := by decide +kernel
theorem dX9_merge_1 : decode cX9_merge 1 = .ok (.iconst 0, 1) := by decide +kernel
theorem dX9_merge_2 : decode cX9_merge 2 = .ok (.putfield 145, 3) := by decide +kernel
theorem dX9_merge_5 : decode cX9_merge 5 = .ok (.iconst 0, 1) := by decide +kernel
theorem dX9_merge_6 : decode cX9_merge 6 = .ok (.istore_n 1, 1) := by decide +kernel
theorem dX9_merge_7 : decode cX9_merge 7 = .ok (.iload_n 1, 1) := by decide +kernel
theorem dX9_merge_8 : decode cX9_merge 8 = .ok (.bipush 16, 2) := by decide +kernel
theorem dX9_merge_10 : decode cX9_merge 10 = .ok (.if_icmp .ge 14, 3) := by decide +kernel
theorem dX9_merge_13 : decode cX9_merge 13 = .ok (.aload_n 0, 1) := by decide +kernel
theorem dX9_merge_14 : decode cX9_merge 14 = .ok (.iload_n 1, 1) := by decide +kernel
theorem dX9_merge_15 : decode cX9_merge 15 = .ok (.invokevirtual 170, 3) := by decide +kernel
theorem dX9_merge_18 : decode cX9_merge 18 = .ok (.iinc 1 1, 3) := by decide +kernel
theorem dX9_merge_21 : decode cX9_merge 21 = .ok (.goto (-14), 3) := by decide +kernel
theorem dX9_merge_24 : decode cX9_merge 24 = .ok (.iconst 0, 1) := by decide +kernel
theorem dX9_merge_25 : decode cX9_merge 25 = .ok (.istore_n 1, 1) := by decide +kernel
theorem dX9_merge_26 : decode cX9_merge 26 = .ok (.iload_n 1, 1) := by decide +kernel
theorem dX9_merge_27 : decode cX9_merge 27 = .ok (.iconst 3, 1) := by decide +kernel
theorem dX9_merge_28 : decode cX9_merge 28 = .ok (.if_icmp .ge 69, 3) := by decide +kernel
theorem dX9_merge_31 : decode cX9_merge 31 = .ok (.iload_n 1, 1) := by decide +kernel
theorem dX9_merge_32 : decode cX9_merge 32 = .ok (.ifCond .ne 8, 3) := by decide +kernel
theorem dX9_merge_35 : decode cX9_merge 35 = .ok (.bipush 32, 2) := by decide +kernel
theorem dX9_merge_37 : decode cX9_merge 37 = .ok (.goto 14, 3) := by decide +kernel
theorem dX9_merge_40 : decode cX9_merge 40 = .ok (.iload_n 1, 1) := by decide +kernel
theorem dX9_merge_41 : decode cX9_merge 41 = .ok (.iconst 1, 1) := by decide +kernel
theorem dX9_merge_42 : decode cX9_merge 42 = .ok (.if_icmp .ne 8, 3) := by decide +kernel
theorem dX9_merge_45 : decode cX9_merge 45 = .ok (.bipush 48, 2) := by decide +kernel
theorem dX9_merge_47 : decode cX9_merge 47 = .ok (.goto 4, 3) := by decide +kernel
theorem dX9_merge_50 : decode cX9_merge 50 = .ok (.iconst 0, 1) := by decide +kernel
theorem dX9_merge_51 : decode cX9_merge 51 = .ok (.istore_n 2, 1) := by decide +kernel
theorem dX9_merge_52 : decode cX9_merge 52 = .ok (.iload_n 1, 1) := by decide +kernel
theorem dX9_merge_53 : decode cX9_merge 53 = .ok (.iconst 2, 1) := by decide +kernel
theorem dX9_merge_54 : decode cX9_merge 54 = .ok (.if_icmp .ne 7, 3) := by decide +kernel
theorem dX9_merge_57 : decode cX9_merge 57 = .ok (.iconst 1, 1) := by decide +kernel
theorem dX9_merge_58 : decode cX9_merge 58 = .ok (.goto 4, 3) := by decide +kernel
theorem dX9_merge_61 : decode cX9_merge 61 = .ok (.iconst 0, 1) := by decide +kernel
theorem dX9_merge_62 : decode cX9_merge 62 = .ok (.istore_n 3, 1) := by decide +kernel
theorem dX9_merge_63 : decode cX9_merge 63 = .ok (.iload_n 3, 1) := by decide +kernel
theorem dX9_merge_64 : decode cX9_merge 64 = .ok (.bipush 16, 2) := by decide +kernel
theorem dX9_merge_66 : decode cX9_merge 66 = .ok (.if_icmp .ge 25, 3) := by decide +kernel
theorem dX9_merge_69 : decode cX9_merge 69 = .ok (.aload_n 0, 1) := by decide +kernel
theorem dX9_merge_70 : decode cX9_merge 70 = .ok (.iconst 3, 1) := by decide +kernel
theorem dX9_merge_71 : decode cX9_merge 71 = .ok (.iload_n 3, 1) := by decide +kernel
theorem dX9_merge_72 : decode cX9_merge 72 = .ok (.invokevirtual 72, 3) := by decide +kernel
theorem dX9_merge_75 : decode cX9_merge 75 = .ok (.ifCond .eq 10, 3) := by decide +kernel
theorem dX9_merge_78 : decode cX9_merge 78 = .ok (.aload_n 0, 1) := by decide +kernel
theorem dX9_merge_79 : decode cX9_merge 79 = .ok (.iload_n 2, 1) := by decide +kernel
theorem dX9_merge_80 : decode cX9_merge 80 = .ok (.iload_n 3, 1) := by decide +kernel
theorem dX9_merge_81 : decode cX9_merge 81 = .ok (.iload_n 1, 1) := by decide +kernel
theorem dX9_merge_82 : decode cX9_merge 82 = .ok (.invokevirtual 174, 3) := by decide +kernel
theorem dX9_merge_85 : decode cX9_merge 85 = .ok (.iinc 3 1, 3) := by decide +kernel
theorem dX9_merge_88 : decode cX9_merge 88 = .ok (.goto (-25), 3) := by decide +kernel
theorem dX9_merge_91 : decode cX9_merge 91 = .ok (.iinc 1 1, 3) := by decide +kernel
theorem dX9_merge_94 : decode cX9_merge 94 = .ok (.goto (-68), 3) := by decide +kernel
theorem dX9_merge_97 : decode cX9_merge 97 = .ok (.iconst 1, 1) := by decide +kernel
theorem dX9_merge_98 : decode cX9_merge 98 = .ok (.istore_n 1, 1) := by decide +kernel
theorem dX9_merge_99 : decode cX9_merge 99 = .ok (.iload_n 1, 1) := by decide +kernel
theorem dX9_merge_100 : decode cX9_merge 100 = .ok (.bipush 16, 2) := by decide +kernel
theorem dX9_merge_102 : decode cX9_merge 102 = .ok (.if_icmp .ge 56, 3) := by decide +kernel
theorem dX9_merge_105 : decode cX9_merge 105 = .ok (.aload_n 0, 1) := by decide +kernel
theorem dX9_merge_106 : decode cX9_merge 106 = .ok (.iconst 3, 1) := by decide +kernel
theorem dX9_merge_107 : decode cX9_merge 107 = .ok (.iload_n 1, 1) := by decide +kernel
theorem dX9_merge_108 : decode cX9_merge 108 = .ok (.invokevirtual 76, 3) := by decide +kernel
theorem dX9_merge_111 : decode cX9_merge 111 = .ok (.istore_n 2, 1) := by decide +kernel
theorem dX9_merge_112 : decode cX9_merge 112 = .ok (.aload_n 0, 1) := by decide +kernel
theorem dX9_merge_113 : decode cX9_merge 113 = .ok (.iconst 3, 1) := by decide +kernel
theorem dX9_merge_114 : decode cX9_merge 114 = .ok (.iload_n 1, 1) := by decide +kernel
theorem dX9_merge_115 : decode cX9_merge 115 = .ok (.invokevirtual 72, 3) := by decide +kernel
theorem dX9_merge_118 : decode cX9_merge 118 = .ok (.ifCond .eq 34, 3) := by decide +kernel
theorem dX9_merge_121 : decode cX9_merge 121 = .ok (.aload_n 0, 1) := by decide +kernel
theorem dX9_merge_122 : decode cX9_merge 122 = .ok (.iconst 3, 1) := by decide +kernel
theorem dX9_merge_123 : decode cX9_merge 123 = .ok (.iload_n 2, 1) := by decide +kernel
theorem dX9_merge_124 : decode cX9_merge 124 = .ok (.invokevirtual 72, 3) := by decide +kernel
theorem dX9_merge_127 : decode cX9_merge 127 = .ok (.ifCond .ne 25, 3) := by decide +kernel
theorem dX9_merge_130 : decode cX9_merge 130 = .ok (.aload_n 0, 1) := by decide +kernel
theorem dX9_merge_131 : decode cX9_merge 131 = .ok (.iconst 4, 1) := by decide +kernel
theorem dX9_merge_132 : decode cX9_merge 132 = .ok (.iload_n 1, 1) := by decide +kernel
theorem dX9_merge_133 : decode cX9_merge 133 = .ok (.iload_n 2, 1) := by decide +kernel
theorem dX9_merge_134 : decode cX9_merge 134 = .ok (.invokevirtual 157, 3) := by decide +kernel
theorem dX9_merge_137 : decode cX9_merge 137 = .ok (.aload_n 0, 1) := by decide +kernel
theorem dX9_merge_138 : decode cX9_merge 138 = .ok (.getfield 7, 3) := by decide +kernel
theorem dX9_merge_141 : decode cX9_merge 141 = .ok (.sipush 192, 3) := by decide +kernel
theorem dX9_merge_144 : decode cX9_merge 144 = .ok (.iload_n 1, 1) := by decide +kernel
theorem dX9_merge_145 : decode cX9_merge 145 = .ok (.iadd, 1) := by decide +kernel
theorem dX9_merge_146 : decode cX9_merge 146 = .ok (.aload_n 0, 1) := by decide +kernel
theorem dX9_merge_147 : decode cX9_merge 147 = .ok (.iload_n 2, 1) := by decide +kernel
theorem dX9_merge_148 : decode cX9_merge 148 = .ok (.invokevirtual 167, 3) := by decide +kernel
theorem dX9_merge_151 : decode cX9_merge 151 = .ok (.iastore, 1) := by decide +kernel
theorem dX9_merge_152 : decode cX9_merge 152 = .ok (.iinc 1 1, 3) := by decide +kernel
theorem dX9_merge_155 : decode cX9_merge 155 = .ok (.goto (-56), 3) := by decide +kernel
theorem dX9_merge_158 : decode cX9_merge 158 = .ok (.aload_n 0, 1) := by decide +kernel
theorem dX9_merge_159 : decode cX9_merge 159 = .ok (.invokevirtual 177, 3) := by decide +kernel
theorem dX9_merge_162 : decode cX9_merge 162 = .ok (.aload_n 0, 1) := by decide +kernel
theorem dX9_merge_163 : decode cX9_merge 163 = .ok (.getfield 7, 3) := by decide +kernel
theorem dX9_merge_166 : decode cX9_merge 166 = .ok (.sipush 208, 3) := by decide +kernel
theorem dX9_merge_169 : decode cX9_merge 169 = .ok (.iconst 0, 1) := by decide +kernel
theorem dX9_merge_170 : decode cX9_merge 170 = .ok (.iastore, 1) := by decide +kernel
theorem dX9_merge_171 : decode cX9_merge 171 = .ok (.iconst 1, 1) := by decide +kernel
theorem dX9_merge_172 : decode cX9_merge 172 = .ok (.istore_n 1, 1) := by decide +kernel
theorem dX9_merge_173 : decode cX9_merge 173 = .ok (.iload_n 1, 1) := by decide +kernel
theorem dX9_merge_174 : decode cX9_merge 174 = .ok (.bipush 16, 2) := by decide +kernel
theorem dX9_merge_176 : decode cX9_merge 176 = .ok (.if_icmp .ge 125, 3) := by decide +kernel
theorem dX9_merge_179 : decode cX9_merge 179 = .ok (.iconst 0, 1) := by decide +kernel
theorem dX9_merge_180 : decode cX9_merge 180 = .ok (.istore_n 2, 1) := by decide +kernel
theorem dX9_merge_181 : decode cX9_merge 181 = .ok (.iconst 1, 1) := by decide +kernel
theorem dX9_merge_182 : decode cX9_merge 182 = .ok (.istore_n 3, 1) := by decide +kernel
theorem dX9_merge_183 : decode cX9_merge 183 = .ok (.iload_n 3, 1) := by decide +kernel
theorem dX9_merge_184 : decode cX9_merge 184 = .ok (.bipush 16, 2) := by decide +kernel
theorem dX9_merge_186 : decode cX9_merge 186 = .ok (.if_icmp .ge 98, 3) := by decide +kernel
theorem dX9_merge_189 : decode cX9_merge 189 = .ok (.aload_n 0, 1) := by decide +kernel
theorem dX9_merge_190 : decode cX9_merge 190 = .ok (.iconst 3, 1) := by decide +kernel
theorem dX9_merge_191 : decode cX9_merge 191 = .ok (.iload_n 1, 1) := by decide +kernel
theorem dX9_merge_192 : decode cX9_merge 192 = .ok (.invokevirtual 72, 3) := by decide +kernel
theorem dX9_merge_195 : decode cX9_merge 195 = .ok (.ifCond .eq 89, 3) := by decide +kernel
theorem dX9_merge_198 : decode cX9_merge 198 = .ok (.iload_n 3, 1) := by decide +kernel
theorem dX9_merge_199 : decode cX9_merge 199 = .ok (.iload_n 1, 1) := by decide +kernel
theorem dX9_merge_200 : decode cX9_merge 200 = .ok (.if_icmp .eq 31, 3) := by decide +kernel
theorem dX9_merge_203 : decode cX9_merge 203 = .ok (.aload_n 0, 1) := by decide +kernel
theorem dX9_merge_204 : decode cX9_merge 204 = .ok (.iconst 3, 1) := by decide +kernel
theorem dX9_merge_205 : decode cX9_merge 205 = .ok (.iload_n 3, 1) := by decide +kernel
theorem dX9_merge_206 : decode cX9_merge 206 = .ok (.invokevirtual 72, 3) := by decide +kernel
theorem dX9_merge_209 : decode cX9_merge 209 = .ok (.ifCond .eq 22, 3) := by decide +kernel
theorem dX9_merge_212 : decode cX9_merge 212 = .ok (.aload_n 0, 1) := by decide +kernel
theorem dX9_merge_213 : decode cX9_merge 213 = .ok (.iconst 3, 1) := by decide +kernel
theorem dX9_merge_214 : decode cX9_merge 214 = .ok (.iload_n 3, 1) := by decide +kernel
theorem dX9_merge_215 : decode cX9_merge 215 = .ok (.invokevirtual 76, 3) := by decide +kernel
theorem dX9_merge_218 : decode cX9_merge 218 = .ok (.aload_n 0, 1) := by decide +kernel
theorem dX9_merge_219 : decode cX9_merge 219 = .ok (.iconst 3, 1) := by decide +kernel
theorem dX9_merge_220 : decode cX9_merge 220 = .ok (.iload_n 1, 1) := by decide +kernel
theorem dX9_merge_221 : decode cX9_merge 221 = .ok (.invokevirtual 76, 3) := by decide +kernel
theorem dX9_merge_224 : decode cX9_merge 224 = .ok (.if_icmp .ne 7, 3) := by decide +kernel
theorem dX9_merge_227 : decode cX9_merge 227 = .ok (.iconst 1, 1) := by decide +kernel
theorem dX9_merge_228 : decode cX9_merge 228 = .ok (.goto 4, 3) := by decide +kernel
theorem dX9_merge_231 : decode cX9_merge 231 = .ok (.iconst 0, 1) := by decide +kernel
theorem dX9_merge_232 : decode cX9_merge 232 = .ok (.istore 4, 2) := by decide +kernel
theorem dX9_merge_234 : decode cX9_merge 234 = .ok (.iload_n 2, 1) := by decide +kernel
theorem dX9_merge_235 : decode cX9_merge 235 = .ok (.iload 4, 2) := by decide +kernel
theorem dX9_merge_237 : decode cX9_merge 237 = .ok (.ifCond .eq 38, 3) := by decide +kernel
theorem dX9_merge_240 : decode cX9_merge 240 = .ok (.aload_n 0, 1) := by decide +kernel
theorem dX9_merge_241 : decode cX9_merge 241 = .ok (.iload_n 3, 1) := by decide +kernel
theorem dX9_merge_242 : decode cX9_merge 242 = .ok (.invokevirtual 180, 3) := by decide +kernel
theorem dX9_merge_245 : decode cX9_merge 245 = .ok (.aload_n 0, 1) := by decide +kernel
theorem dX9_merge_246 : decode cX9_merge 246 = .ok (.iload_n 1, 1) := by decide +kernel
theorem dX9_merge_247 : decode cX9_merge 247 = .ok (.invokevirtual 180, 3) := by decide +kernel
theorem dX9_merge_250 : decode cX9_merge 250 = .ok (.if_icmp .lt 21, 3) := by decide +kernel
theorem dX9_merge_253 : decode cX9_merge 253 = .ok (.aload_n 0, 1) := by decide +kernel
theorem dX9_merge_254 : decode cX9_merge 254 = .ok (.iload_n 3, 1) := by decide +kernel
theorem dX9_merge_255 : decode cX9_merge 255 = .ok (.invokevirtual 180, 3) := by decide +kernel
theorem dX9_merge_258 : decode cX9_merge 258 = .ok (.aload_n 0, 1) := by decide +kernel
theorem dX9_merge_259 : decode cX9_merge 259 = .ok (.iload_n 1, 1) := by decide +kernel
theorem dX9_merge_260 : decode cX9_merge 260 = .ok (.invokevirtual 180, 3) := by decide +kernel
theorem dX9_merge_263 : decode cX9_merge 263 = .ok (.if_icmp .ne 12, 3) := by decide +kernel
theorem dX9_merge_266 : decode cX9_merge 266 = .ok (.iload_n 3, 1) := by decide +kernel
theorem dX9_merge_267 : decode cX9_merge 267 = .ok (.iload_n 1, 1) := by decide +kernel
theorem dX9_merge_268 : decode cX9_merge 268 = .ok (.if_icmp .ge 7, 3) := by decide +kernel
theorem dX9_merge_271 : decode cX9_merge 271 = .ok (.iconst 1, 1) := by decide +kernel
theorem dX9_merge_272 : decode cX9_merge 272 = .ok (.goto 4, 3) := by decide +kernel
theorem dX9_merge_275 : decode cX9_merge 275 = .ok (.iconst 0, 1) := by decide +kernel
theorem dX9_merge_276 : decode cX9_merge 276 = .ok (.iadd, 1) := by decide +kernel
theorem dX9_merge_277 : decode cX9_merge 277 = .ok (.istore_n 2, 1) := by decide +kernel
theorem dX9_merge_278 : decode cX9_merge 278 = .ok (.iinc 3 1, 3) := by decide +kernel
theorem dX9_merge_281 : decode cX9_merge 281 = .ok (.goto (-98), 3) := by decide +kernel
theorem dX9_merge_284 : decode cX9_merge 284 = .ok (.aload_n 0, 1) := by decide +kernel
theorem dX9_merge_285 : decode cX9_merge 285 = .ok (.getfield 7, 3) := by decide +kernel
theorem dX9_merge_288 : decode cX9_merge 288 = .ok (.sipush 208, 3) := by decide +kernel
theorem dX9_merge_291 : decode cX9_merge 291 = .ok (.iload_n 1, 1) := by decide +kernel
theorem dX9_merge_292 : decode cX9_merge 292 = .ok (.iadd, 1) := by decide +kernel
theorem dX9_merge_293 : decode cX9_merge 293 = .ok (.iload_n 2, 1) := by decide +kernel
theorem dX9_merge_294 : decode cX9_merge 294 = .ok (.iastore, 1) := by decide +kernel
theorem dX9_merge_295 : decode cX9_merge 295 = .ok (.iinc 1 1, 3) := by decide +kernel
theorem dX9_merge_298 : decode cX9_merge 298 = .ok (.goto (-125), 3) := by decide +kernel
theorem dX9_merge_301 : decode cX9_merge 301 = .ok (.return_, 1) := by decide +kernel
theorem dX9_isAsked_0 : decode cX9_isAsked 0 = .ok (.iload_n 1, 1) := by decide +kernel
theorem dX9_isAsked_1 : decode cX9_isAsked 1 = .ok (.iconst 3, 1) := by decide +kernel
theorem dX9_isAsked_2 : decode cX9_isAsked 2 = .ok (.if_icmp .ne 7, 3) := by decide +kernel
theorem dX9_isAsked_5 : decode cX9_isAsked 5 = .ok (.aload_n 0, 1) := by decide +kernel
theorem dX9_isAsked_6 : decode cX9_isAsked 6 = .ok (.invokevirtual 142, 3) := by decide +kernel
theorem dX9_isAsked_9 : decode cX9_isAsked 9 = .ok (.iload_n 1, 1) := by decide +kernel
theorem dX9_isAsked_10 : decode cX9_isAsked 10 = .ok (.iconst 0, 1) := by decide +kernel
theorem dX9_isAsked_11 : decode cX9_isAsked 11 = .ok (.iconst 3, 1) := by decide +kernel
theorem dX9_isAsked_12 : decode cX9_isAsked 12 = .ok (.invokestatic 68, 3) := by decide +kernel
theorem dX9_isAsked_15 : decode cX9_isAsked 15 = .ok (.ireturn, 1) := by decide +kernel
theorem dX9_has_0 : decode cX9_has 0 = .ok (.aload_n 0, 1) := by decide +kernel
theorem dX9_has_1 : decode cX9_has 1 = .ok (.iload_n 1, 1) := by decide +kernel
theorem dX9_has_2 : decode cX9_has 2 = .ok (.invokevirtual 183, 3) := by decide +kernel
theorem dX9_has_5 : decode cX9_has 5 = .ok (.ifCond .eq 13, 3) := by decide +kernel
theorem dX9_has_8 : decode cX9_has 8 = .ok (.iload_n 2, 1) := by decide +kernel
theorem dX9_has_9 : decode cX9_has 9 = .ok (.iconst 0, 1) := by decide +kernel
theorem dX9_has_10 : decode cX9_has 10 = .ok (.bipush 15, 2) := by decide +kernel
theorem dX9_has_12 : decode cX9_has 12 = .ok (.invokestatic 68, 3) := by decide +kernel
theorem dX9_has_15 : decode cX9_has 15 = .ok (.ifCond .ne 10, 3) := by decide +kernel
theorem dX9_has_18 : decode cX9_has 18 = .ok (.aload_n 0, 1) := by decide +kernel
theorem dX9_has_19 : decode cX9_has 19 = .ok (.bipush (-2), 2) := by decide +kernel
theorem dX9_has_21 : decode cX9_has 21 = .ok (.invokevirtual 60, 3) := by decide +kernel
theorem dX9_has_24 : decode cX9_has 24 = .ok (.ireturn, 1) := by decide +kernel
theorem dX9_has_25 : decode cX9_has 25 = .ok (.aload_n 0, 1) := by decide +kernel
theorem dX9_has_26 : decode cX9_has 26 = .ok (.iload_n 1, 1) := by decide +kernel
theorem dX9_has_27 : decode cX9_has 27 = .ok (.iload_n 2, 1) := by decide +kernel
theorem dX9_has_28 : decode cX9_has 28 = .ok (.invokevirtual 72, 3) := by decide +kernel
theorem dX9_has_31 : decode cX9_has 31 = .ok (.ifCond .eq 7, 3) := by decide +kernel
theorem dX9_has_34 : decode cX9_has 34 = .ok (.iconst 1, 1) := by decide +kernel
theorem dX9_has_35 : decode cX9_has 35 = .ok (.goto 4, 3) := by decide +kernel
theorem dX9_has_38 : decode cX9_has 38 = .ok (.iconst 0, 1) := by decide +kernel
theorem dX9_has_39 : decode cX9_has 39 = .ok (.ireturn, 1) := by decide +kernel
theorem dX9_ofSection_0 : decode cX9_ofSection 0 = .ok (.iload_n 3, 1) := by decide +kernel
theorem dX9_ofSection_1 : decode cX9_ofSection 1 = .ok (.tableswitch 70 0 4 #[35, 42, 49, 56, 63], 35) := by decide +kernel
theorem dX9_ofSection_36 : decode cX9_ofSection 36 = .ok (.aload_n 0, 1) := by decide +kernel
theorem dX9_ofSection_37 : decode cX9_ofSection 37 = .ok (.iload_n 1, 1) := by decide +kernel
theorem dX9_ofSection_38 : decode cX9_ofSection 38 = .ok (.iload_n 2, 1) := by decide +kernel
theorem dX9_ofSection_39 : decode cX9_ofSection 39 = .ok (.invokevirtual 76, 3) := by decide +kernel
theorem dX9_ofSection_42 : decode cX9_ofSection 42 = .ok (.ireturn, 1) := by decide +kernel
theorem dX9_ofSection_43 : decode cX9_ofSection 43 = .ok (.aload_n 0, 1) := by decide +kernel
theorem dX9_ofSection_44 : decode cX9_ofSection 44 = .ok (.iload_n 1, 1) := by decide +kernel
theorem dX9_ofSection_45 : decode cX9_ofSection 45 = .ok (.iload_n 2, 1) := by decide +kernel
theorem dX9_ofSection_46 : decode cX9_ofSection 46 = .ok (.invokevirtual 80, 3) := by decide +kernel
theorem dX9_ofSection_49 : decode cX9_ofSection 49 = .ok (.ireturn, 1) := by decide +kernel
theorem dX9_ofSection_50 : decode cX9_ofSection 50 = .ok (.aload_n 0, 1) := by decide +kernel
theorem dX9_ofSection_51 : decode cX9_ofSection 51 = .ok (.iload_n 1, 1) := by decide +kernel
theorem dX9_ofSection_52 : decode cX9_ofSection 52 = .ok (.iload_n 2, 1) := by decide +kernel
theorem dX9_ofSection_53 : decode cX9_ofSection 53 = .ok (.invokevirtual 148, 3) := by decide +kernel
theorem dX9_ofSection_56 : decode cX9_ofSection 56 = .ok (.ireturn, 1) := by decide +kernel
theorem dX9_ofSection_57 : decode cX9_ofSection 57 = .ok (.aload_n 0, 1) := by decide +kernel
theorem dX9_ofSection_58 : decode cX9_ofSection 58 = .ok (.iload_n 1, 1) := by decide +kernel
theorem dX9_ofSection_59 : decode cX9_ofSection 59 = .ok (.iload_n 2, 1) := by decide +kernel
theorem dX9_ofSection_60 : decode cX9_ofSection 60 = .ok (.invokevirtual 151, 3) := by decide +kernel
theorem dX9_ofSection_63 : decode cX9_ofSection 63 = .ok (.ireturn, 1) := by decide +kernel
theorem dX9_ofSection_64 : decode cX9_ofSection 64 = .ok (.aload_n 0, 1) := by decide +kernel
theorem dX9_ofSection_65 : decode cX9_ofSection 65 = .ok (.iload_n 1, 1) := by decide +kernel
theorem dX9_ofSection_66 : decode cX9_ofSection 66 = .ok (.iload_n 2, 1) := by decide +kernel
theorem dX9_ofSection_67 : decode cX9_ofSection 67 = .ok (.invokevirtual 93, 3) := by decide +kernel
theorem dX9_ofSection_70 : decode cX9_ofSection 70 = .ok (.ireturn, 1) := by decide +kernel
theorem dX9_ofSection_71 : decode cX9_ofSection 71 = .ok (.aload_n 0, 1) := by decide +kernel
theorem dX9_ofSection_72 : decode cX9_ofSection 72 = .ok (.iload_n 1, 1) := by decide +kernel
theorem dX9_ofSection_73 : decode cX9_ofSection 73 = .ok (.iload_n 2, 1) := by decide +kernel
theorem dX9_ofSection_74 : decode cX9_ofSection 74 = .ok (.invokevirtual 102, 3) := by decide +kernel
theorem dX9_ofSection_77 : decode cX9_ofSection 77 = .ok (.invokestatic 109, 3) := by decide +kernel
theorem dX9_ofSection_80 : decode cX9_ofSection 80 = .ok (.ireturn, 1) := by decide +kernel
theorem dX9_of_0 : decode cX9_of 0 = .ok (.aload_n 0, 1) := by decide +kernel
theorem dX9_of_1 : decode cX9_of 1 = .ok (.iload_n 1, 1) := by decide +kernel
theorem dX9_of_2 : decode cX9_of 2 = .ok (.invokevirtual 183, 3) := by decide +kernel
theorem dX9_of_5 : decode cX9_of 5 = .ok (.ifCond .eq 31, 3) := by decide +kernel
theorem dX9_of_8 : decode cX9_of 8 = .ok (.aload_n 0, 1) := by decide +kernel
theorem dX9_of_9 : decode cX9_of 9 = .ok (.iload_n 1, 1) := by decide +kernel
theorem dX9_of_10 : decode cX9_of 10 = .ok (.iload_n 2, 1) := by decide +kernel
theorem dX9_of_11 : decode cX9_of 11 = .ok (.invokevirtual 90, 3) := by decide +kernel
theorem dX9_of_14 : decode cX9_of 14 = .ok (.ifCond .eq 22, 3) := by decide +kernel
theorem dX9_of_17 : decode cX9_of 17 = .ok (.iload_n 3, 1) := by decide +kernel
theorem dX9_of_18 : decode cX9_of 18 = .ok (.iconst 0, 1) := by decide +kernel
theorem dX9_of_19 : decode cX9_of 19 = .ok (.iconst 5, 1) := by decide +kernel
theorem dX9_of_20 : decode cX9_of 20 = .ok (.invokestatic 68, 3) := by decide +kernel
theorem dX9_of_23 : decode cX9_of 23 = .ok (.ifCond .eq 13, 3) := by decide +kernel
theorem dX9_of_26 : decode cX9_of 26 = .ok (.aload_n 0, 1) := by decide +kernel
theorem dX9_of_27 : decode cX9_of 27 = .ok (.iload_n 1, 1) := by decide +kernel
theorem dX9_of_28 : decode cX9_of 28 = .ok (.iload_n 2, 1) := by decide +kernel
theorem dX9_of_29 : decode cX9_of 29 = .ok (.iload_n 3, 1) := by decide +kernel
theorem dX9_of_30 : decode cX9_of 30 = .ok (.invokevirtual 186, 3) := by decide +kernel
theorem dX9_of_33 : decode cX9_of 33 = .ok (.goto 9, 3) := by decide +kernel
theorem dX9_of_36 : decode cX9_of 36 = .ok (.aload_n 0, 1) := by decide +kernel
theorem dX9_of_37 : decode cX9_of 37 = .ok (.bipush (-2), 2) := by decide +kernel
theorem dX9_of_39 : decode cX9_of 39 = .ok (.invokevirtual 60, 3) := by decide +kernel
theorem dX9_of_42 : decode cX9_of 42 = .ok (.ireturn, 1) := by decide +kernel
theorem dX9_walkAll_0 : decode cX9_walkAll 0 = .ok (.iconst 0, 1) := by decide +kernel
theorem dX9_walkAll_1 : decode cX9_walkAll 1 = .ok (.istore_n 2, 1) := by decide +kernel
theorem dX9_walkAll_2 : decode cX9_walkAll 2 = .ok (.iconst 1, 1) := by decide +kernel
theorem dX9_walkAll_3 : decode cX9_walkAll 3 = .ok (.istore_n 3, 1) := by decide +kernel
theorem dX9_walkAll_4 : decode cX9_walkAll 4 = .ok (.aload_n 0, 1) := by decide +kernel
theorem dX9_walkAll_5 : decode cX9_walkAll 5 = .ok (.getfield 43, 3) := by decide +kernel
theorem dX9_walkAll_8 : decode cX9_walkAll 8 = .ok (.iconst 0, 1) := by decide +kernel
theorem dX9_walkAll_9 : decode cX9_walkAll 9 = .ok (.iconst 0, 1) := by decide +kernel
theorem dX9_walkAll_10 : decode cX9_walkAll 10 = .ok (.iastore, 1) := by decide +kernel
theorem dX9_walkAll_11 : decode cX9_walkAll 11 = .ok (.iload_n 3, 1) := by decide +kernel
theorem dX9_walkAll_12 : decode cX9_walkAll 12 = .ok (.ifCond .le 101, 3) := by decide +kernel
theorem dX9_walkAll_15 : decode cX9_walkAll 15 = .ok (.iinc 3 (-1), 3) := by decide +kernel
theorem dX9_walkAll_18 : decode cX9_walkAll 18 = .ok (.aload_n 0, 1) := by decide +kernel
theorem dX9_walkAll_19 : decode cX9_walkAll 19 = .ok (.getfield 43, 3) := by decide +kernel
theorem dX9_walkAll_22 : decode cX9_walkAll 22 = .ok (.iload_n 3, 1) := by decide +kernel
theorem dX9_walkAll_23 : decode cX9_walkAll 23 = .ok (.iaload, 1) := by decide +kernel
theorem dX9_walkAll_24 : decode cX9_walkAll 24 = .ok (.istore 4, 2) := by decide +kernel
theorem dX9_walkAll_26 : decode cX9_walkAll 26 = .ok (.aload_n 0, 1) := by decide +kernel
theorem dX9_walkAll_27 : decode cX9_walkAll 27 = .ok (.getfield 40, 3) := by decide +kernel
theorem dX9_walkAll_30 : decode cX9_walkAll 30 = .ok (.iload_n 2, 1) := by decide +kernel
theorem dX9_walkAll_31 : decode cX9_walkAll 31 = .ok (.iload 4, 2) := by decide +kernel
theorem dX9_walkAll_33 : decode cX9_walkAll 33 = .ok (.iastore, 1) := by decide +kernel
theorem dX9_walkAll_34 : decode cX9_walkAll 34 = .ok (.iinc 2 1, 3) := by decide +kernel
theorem dX9_walkAll_37 : decode cX9_walkAll 37 = .ok (.aload_n 0, 1) := by decide +kernel
theorem dX9_walkAll_38 : decode cX9_walkAll 38 = .ok (.iload_n 1, 1) := by decide +kernel
theorem dX9_walkAll_39 : decode cX9_walkAll 39 = .ok (.iload 4, 2) := by decide +kernel
theorem dX9_walkAll_41 : decode cX9_walkAll 41 = .ok (.invokevirtual 93, 3) := by decide +kernel
theorem dX9_walkAll_44 : decode cX9_walkAll 44 = .ok (.iconst 1, 1) := by decide +kernel
theorem dX9_walkAll_45 : decode cX9_walkAll 45 = .ok (.isub, 1) := by decide +kernel
theorem dX9_walkAll_46 : decode cX9_walkAll 46 = .ok (.istore 5, 2) := by decide +kernel
theorem dX9_walkAll_48 : decode cX9_walkAll 48 = .ok (.iload 5, 2) := by decide +kernel
theorem dX9_walkAll_50 : decode cX9_walkAll 50 = .ok (.ifCond .lt 60, 3) := by decide +kernel
theorem dX9_walkAll_53 : decode cX9_walkAll 53 = .ok (.iconst 1, 1) := by decide +kernel
theorem dX9_walkAll_54 : decode cX9_walkAll 54 = .ok (.istore 6, 2) := by decide +kernel
theorem dX9_walkAll_56 : decode cX9_walkAll 56 = .ok (.iload 6, 2) := by decide +kernel
theorem dX9_walkAll_58 : decode cX9_walkAll 58 = .ok (.bipush 16, 2) := by decide +kernel
theorem dX9_walkAll_60 : decode cX9_walkAll 60 = .ok (.if_icmp .ge 44, 3) := by decide +kernel
theorem dX9_walkAll_63 : decode cX9_walkAll 63 = .ok (.aload_n 0, 1) := by decide +kernel
theorem dX9_walkAll_64 : decode cX9_walkAll 64 = .ok (.iload_n 1, 1) := by decide +kernel
theorem dX9_walkAll_65 : decode cX9_walkAll 65 = .ok (.iload 6, 2) := by decide +kernel
theorem dX9_walkAll_67 : decode cX9_walkAll 67 = .ok (.invokevirtual 76, 3) := by decide +kernel
theorem dX9_walkAll_70 : decode cX9_walkAll 70 = .ok (.iload 4, 2) := by decide +kernel
theorem dX9_walkAll_72 : decode cX9_walkAll 72 = .ok (.if_icmp .ne 26, 3) := by decide +kernel
theorem dX9_walkAll_75 : decode cX9_walkAll 75 = .ok (.aload_n 0, 1) := by decide +kernel
theorem dX9_walkAll_76 : decode cX9_walkAll 76 = .ok (.iload_n 1, 1) := by decide +kernel
theorem dX9_walkAll_77 : decode cX9_walkAll 77 = .ok (.iload 6, 2) := by decide +kernel
theorem dX9_walkAll_79 : decode cX9_walkAll 79 = .ok (.invokevirtual 80, 3) := by decide +kernel
theorem dX9_walkAll_82 : decode cX9_walkAll 82 = .ok (.iload 5, 2) := by decide +kernel
theorem dX9_walkAll_84 : decode cX9_walkAll 84 = .ok (.if_icmp .ne 14, 3) := by decide +kernel
theorem dX9_walkAll_87 : decode cX9_walkAll 87 = .ok (.aload_n 0, 1) := by decide +kernel
theorem dX9_walkAll_88 : decode cX9_walkAll 88 = .ok (.getfield 43, 3) := by decide +kernel
theorem dX9_walkAll_91 : decode cX9_walkAll 91 = .ok (.iload_n 3, 1) := by decide +kernel
theorem dX9_walkAll_92 : decode cX9_walkAll 92 = .ok (.iload 6, 2) := by decide +kernel
theorem dX9_walkAll_94 : decode cX9_walkAll 94 = .ok (.iastore, 1) := by decide +kernel
theorem dX9_walkAll_95 : decode cX9_walkAll 95 = .ok (.iinc 3 1, 3) := by decide +kernel
theorem dX9_walkAll_98 : decode cX9_walkAll 98 = .ok (.iinc 6 1, 3) := by decide +kernel
theorem dX9_walkAll_101 : decode cX9_walkAll 101 = .ok (.goto (-45), 3) := by decide +kernel
theorem dX9_walkAll_104 : decode cX9_walkAll 104 = .ok (.iinc 5 (-1), 3) := by decide +kernel
theorem dX9_walkAll_107 : decode cX9_walkAll 107 = .ok (.goto (-59), 3) := by decide +kernel
theorem dX9_walkAll_110 : decode cX9_walkAll 110 = .ok (.goto (-99), 3) := by decide +kernel
theorem dX9_walkAll_113 : decode cX9_walkAll 113 = .ok (.iload_n 2, 1) := by decide +kernel
theorem dX9_walkAll_114 : decode cX9_walkAll 114 = .ok (.ireturn, 1) := by decide +kernel
theorem dX9_walk_0 : decode cX9_walk 0 = .ok (.aload_n 0, 1) := by decide +kernel
theorem dX9_walk_1 : decode cX9_walk 1 = .ok (.iload_n 1, 1) := by decide +kernel
theorem dX9_walk_2 : decode cX9_walk 2 = .ok (.invokevirtual 183, 3) := by decide +kernel
theorem dX9_walk_5 : decode cX9_walk 5 = .ok (.ifCond .eq 7, 3) := by decide +kernel
theorem dX9_walk_8 : decode cX9_walk 8 = .ok (.iload_n 2, 1) := by decide +kernel
theorem dX9_walk_9 : decode cX9_walk 9 = .ok (.ifCond .ge 10, 3) := by decide +kernel
theorem dX9_walk_12 : decode cX9_walk 12 = .ok (.aload_n 0, 1) := by decide +kernel
theorem dX9_walk_13 : decode cX9_walk 13 = .ok (.bipush (-2), 2) := by decide +kernel
theorem dX9_walk_15 : decode cX9_walk 15 = .ok (.invokevirtual 60, 3) := by decide +kernel
theorem dX9_walk_18 : decode cX9_walk 18 = .ok (.ireturn, 1) := by decide +kernel
theorem dX9_walk_19 : decode cX9_walk 19 = .ok (.iload_n 2, 1) := by decide +kernel
theorem dX9_walk_20 : decode cX9_walk 20 = .ok (.aload_n 0, 1) := by decide +kernel
theorem dX9_walk_21 : decode cX9_walk 21 = .ok (.iload_n 1, 1) := by decide +kernel
theorem dX9_walk_22 : decode cX9_walk 22 = .ok (.invokevirtual 190, 3) := by decide +kernel
theorem dX9_walk_25 : decode cX9_walk 25 = .ok (.if_icmp .ge 12, 3) := by decide +kernel
theorem dX9_walk_28 : decode cX9_walk 28 = .ok (.aload_n 0, 1) := by decide +kernel
theorem dX9_walk_29 : decode cX9_walk 29 = .ok (.getfield 40, 3) := by decide +kernel
theorem dX9_walk_32 : decode cX9_walk 32 = .ok (.iload_n 2, 1) := by decide +kernel
theorem dX9_walk_33 : decode cX9_walk 33 = .ok (.iaload, 1) := by decide +kernel
theorem dX9_walk_34 : decode cX9_walk 34 = .ok (.goto 4, 3) := by decide +kernel
theorem dX9_walk_37 : decode cX9_walk 37 = .ok (.iconst (-1), 1) := by decide +kernel
theorem dX9_walk_38 : decode cX9_walk 38 = .ok (.ireturn, 1) := by decide +kernel
theorem dX9_deepOf_0 : decode cX9_deepOf 0 = .ok (.iconst 0, 1) := by decide +kernel
theorem dX9_deepOf_1 : decode cX9_deepOf 1 = .ok (.istore_n 2, 1) := by decide +kernel
theorem dX9_deepOf_2 : decode cX9_deepOf 2 = .ok (.iconst 1, 1) := by decide +kernel
theorem dX9_deepOf_3 : decode cX9_deepOf 3 = .ok (.istore_n 3, 1) := by decide +kernel
theorem dX9_deepOf_4 : decode cX9_deepOf 4 = .ok (.iload_n 3, 1) := by decide +kernel
theorem dX9_deepOf_5 : decode cX9_deepOf 5 = .ok (.bipush 16, 2) := by decide +kernel
theorem dX9_deepOf_7 : decode cX9_deepOf 7 = .ok (.if_icmp .ge 57, 3) := by decide +kernel
theorem dX9_deepOf_10 : decode cX9_deepOf 10 = .ok (.iconst 0, 1) := by decide +kernel
theorem dX9_deepOf_11 : decode cX9_deepOf 11 = .ok (.istore 4, 2) := by decide +kernel
theorem dX9_deepOf_13 : decode cX9_deepOf 13 = .ok (.iload_n 3, 1) := by decide +kernel
theorem dX9_deepOf_14 : decode cX9_deepOf 14 = .ok (.istore 5, 2) := by decide +kernel
theorem dX9_deepOf_16 : decode cX9_deepOf 16 = .ok (.aload_n 0, 1) := by decide +kernel
theorem dX9_deepOf_17 : decode cX9_deepOf 17 = .ok (.iload_n 1, 1) := by decide +kernel
theorem dX9_deepOf_18 : decode cX9_deepOf 18 = .ok (.iload_n 3, 1) := by decide +kernel
theorem dX9_deepOf_19 : decode cX9_deepOf 19 = .ok (.invokevirtual 72, 3) := by decide +kernel
theorem dX9_deepOf_22 : decode cX9_deepOf 22 = .ok (.ifCond .eq 23, 3) := by decide +kernel
theorem dX9_deepOf_25 : decode cX9_deepOf 25 = .ok (.iload 5, 2) := by decide +kernel
theorem dX9_deepOf_27 : decode cX9_deepOf 27 = .ok (.ifCond .le 18, 3) := by decide +kernel
theorem dX9_deepOf_30 : decode cX9_deepOf 30 = .ok (.iinc 4 1, 3) := by decide +kernel
theorem dX9_deepOf_33 : decode cX9_deepOf 33 = .ok (.aload_n 0, 1) := by decide +kernel
theorem dX9_deepOf_34 : decode cX9_deepOf 34 = .ok (.iload_n 1, 1) := by decide +kernel
theorem dX9_deepOf_35 : decode cX9_deepOf 35 = .ok (.iload 5, 2) := by decide +kernel
theorem dX9_deepOf_37 : decode cX9_deepOf 37 = .ok (.invokevirtual 76, 3) := by decide +kernel
theorem dX9_deepOf_40 : decode cX9_deepOf 40 = .ok (.istore 5, 2) := by decide +kernel
theorem dX9_deepOf_42 : decode cX9_deepOf 42 = .ok (.goto (-26), 3) := by decide +kernel
theorem dX9_deepOf_45 : decode cX9_deepOf 45 = .ok (.iload 4, 2) := by decide +kernel
theorem dX9_deepOf_47 : decode cX9_deepOf 47 = .ok (.iload_n 2, 1) := by decide +kernel
theorem dX9_deepOf_48 : decode cX9_deepOf 48 = .ok (.if_icmp .le 8, 3) := by decide +kernel
theorem dX9_deepOf_51 : decode cX9_deepOf 51 = .ok (.iload 4, 2) := by decide +kernel
theorem dX9_deepOf_53 : decode cX9_deepOf 53 = .ok (.goto 4, 3) := by decide +kernel
theorem dX9_deepOf_56 : decode cX9_deepOf 56 = .ok (.iload_n 2, 1) := by decide +kernel
theorem dX9_deepOf_57 : decode cX9_deepOf 57 = .ok (.istore_n 2, 1) := by decide +kernel
theorem dX9_deepOf_58 : decode cX9_deepOf 58 = .ok (.iinc 3 1, 3) := by decide +kernel
theorem dX9_deepOf_61 : decode cX9_deepOf 61 = .ok (.goto (-57), 3) := by decide +kernel
theorem dX9_deepOf_64 : decode cX9_deepOf 64 = .ok (.iload_n 2, 1) := by decide +kernel
theorem dX9_deepOf_65 : decode cX9_deepOf 65 = .ok (.ireturn, 1) := by decide +kernel
theorem dX9_size_0 : decode cX9_size 0 = .ok (.aload_n 0, 1) := by decide +kernel
theorem dX9_size_1 : decode cX9_size 1 = .ok (.iload_n 1, 1) := by decide +kernel
theorem dX9_size_2 : decode cX9_size 2 = .ok (.invokevirtual 183, 3) := by decide +kernel
theorem dX9_size_5 : decode cX9_size 5 = .ok (.ifCond .eq 12, 3) := by decide +kernel
theorem dX9_size_8 : decode cX9_size 8 = .ok (.iload_n 2, 1) := by decide +kernel
theorem dX9_size_9 : decode cX9_size 9 = .ok (.iconst 0, 1) := by decide +kernel
theorem dX9_size_10 : decode cX9_size 10 = .ok (.iconst 1, 1) := by decide +kernel
theorem dX9_size_11 : decode cX9_size 11 = .ok (.invokestatic 68, 3) := by decide +kernel
theorem dX9_size_14 : decode cX9_size 14 = .ok (.ifCond .ne 10, 3) := by decide +kernel
theorem dX9_size_17 : decode cX9_size 17 = .ok (.aload_n 0, 1) := by decide +kernel
theorem dX9_size_18 : decode cX9_size 18 = .ok (.bipush (-2), 2) := by decide +kernel
theorem dX9_size_20 : decode cX9_size 20 = .ok (.invokevirtual 60, 3) := by decide +kernel
theorem dX9_size_23 : decode cX9_size 23 = .ok (.ireturn, 1) := by decide +kernel
theorem dX9_size_24 : decode cX9_size 24 = .ok (.iload_n 2, 1) := by decide +kernel
theorem dX9_size_25 : decode cX9_size 25 = .ok (.ifCond .ne 11, 3) := by decide +kernel
theorem dX9_size_28 : decode cX9_size 28 = .ok (.aload_n 0, 1) := by decide +kernel
theorem dX9_size_29 : decode cX9_size 29 = .ok (.iload_n 1, 1) := by decide +kernel
theorem dX9_size_30 : decode cX9_size 30 = .ok (.invokevirtual 112, 3) := by decide +kernel
theorem dX9_size_33 : decode cX9_size 33 = .ok (.goto 8, 3) := by decide +kernel
theorem dX9_size_36 : decode cX9_size 36 = .ok (.aload_n 0, 1) := by decide +kernel
theorem dX9_size_37 : decode cX9_size 37 = .ok (.iload_n 1, 1) := by decide +kernel
theorem dX9_size_38 : decode cX9_size 38 = .ok (.invokevirtual 193, 3) := by decide +kernel
theorem dX9_size_41 : decode cX9_size 41 = .ok (.ireturn, 1) := by decide +kernel
theorem dX9_alike_0 : decode cX9_alike 0 = .ok (.aload_n 0, 1) := by decide +kernel
theorem dX9_alike_1 : decode cX9_alike 1 = .ok (.iload_n 1, 1) := by decide +kernel
theorem dX9_alike_2 : decode cX9_alike 2 = .ok (.invokevirtual 183, 3) := by decide +kernel
theorem dX9_alike_5 : decode cX9_alike 5 = .ok (.ifCond .eq 11, 3) := by decide +kernel
theorem dX9_alike_8 : decode cX9_alike 8 = .ok (.aload_n 0, 1) := by decide +kernel
theorem dX9_alike_9 : decode cX9_alike 9 = .ok (.iload_n 2, 1) := by decide +kernel
theorem dX9_alike_10 : decode cX9_alike 10 = .ok (.invokevirtual 183, 3) := by decide +kernel
theorem dX9_alike_13 : decode cX9_alike 13 = .ok (.ifCond .ne 10, 3) := by decide +kernel
theorem dX9_alike_16 : decode cX9_alike 16 = .ok (.aload_n 0, 1) := by decide +kernel
theorem dX9_alike_17 : decode cX9_alike 17 = .ok (.bipush (-2), 2) := by decide +kernel
theorem dX9_alike_19 : decode cX9_alike 19 = .ok (.invokevirtual 60, 3) := by decide +kernel
theorem dX9_alike_22 : decode cX9_alike 22 = .ok (.ireturn, 1) := by decide +kernel
theorem dX9_alike_23 : decode cX9_alike 23 = .ok (.iconst 0, 1) := by decide +kernel
theorem dX9_alike_24 : decode cX9_alike 24 = .ok (.istore_n 3, 1) := by decide +kernel
theorem dX9_alike_25 : decode cX9_alike 25 = .ok (.iconst 0, 1) := by decide +kernel
theorem dX9_alike_26 : decode cX9_alike 26 = .ok (.istore 4, 2) := by decide +kernel
theorem dX9_alike_28 : decode cX9_alike 28 = .ok (.iload 4, 2) := by decide +kernel
theorem dX9_alike_30 : decode cX9_alike 30 = .ok (.bipush 16, 2) := by decide +kernel
theorem dX9_alike_32 : decode cX9_alike 32 = .ok (.if_icmp .ge 107, 3) := by decide +kernel
theorem dX9_alike_35 : decode cX9_alike 35 = .ok (.aload_n 0, 1) := by decide +kernel
theorem dX9_alike_36 : decode cX9_alike 36 = .ok (.iload_n 1, 1) := by decide +kernel
theorem dX9_alike_37 : decode cX9_alike 37 = .ok (.iload 4, 2) := by decide +kernel
theorem dX9_alike_39 : decode cX9_alike 39 = .ok (.invokevirtual 72, 3) := by decide +kernel
theorem dX9_alike_42 : decode cX9_alike 42 = .ok (.ifCond .eq 41, 3) := by decide +kernel
theorem dX9_alike_45 : decode cX9_alike 45 = .ok (.aload_n 0, 1) := by decide +kernel
theorem dX9_alike_46 : decode cX9_alike 46 = .ok (.iload_n 1, 1) := by decide +kernel
theorem dX9_alike_47 : decode cX9_alike 47 = .ok (.iload 4, 2) := by decide +kernel
theorem dX9_alike_49 : decode cX9_alike 49 = .ok (.invokevirtual 76, 3) := by decide +kernel
theorem dX9_alike_52 : decode cX9_alike 52 = .ok (.aload_n 0, 1) := by decide +kernel
theorem dX9_alike_53 : decode cX9_alike 53 = .ok (.iload_n 2, 1) := by decide +kernel
theorem dX9_alike_54 : decode cX9_alike 54 = .ok (.iload 4, 2) := by decide +kernel
theorem dX9_alike_56 : decode cX9_alike 56 = .ok (.invokevirtual 76, 3) := by decide +kernel
theorem dX9_alike_59 : decode cX9_alike 59 = .ok (.if_icmp .ne 24, 3) := by decide +kernel
theorem dX9_alike_62 : decode cX9_alike 62 = .ok (.aload_n 0, 1) := by decide +kernel
theorem dX9_alike_63 : decode cX9_alike 63 = .ok (.iload_n 1, 1) := by decide +kernel
theorem dX9_alike_64 : decode cX9_alike 64 = .ok (.iload 4, 2) := by decide +kernel
theorem dX9_alike_66 : decode cX9_alike 66 = .ok (.invokevirtual 80, 3) := by decide +kernel
theorem dX9_alike_69 : decode cX9_alike 69 = .ok (.aload_n 0, 1) := by decide +kernel
theorem dX9_alike_70 : decode cX9_alike 70 = .ok (.iload_n 2, 1) := by decide +kernel
theorem dX9_alike_71 : decode cX9_alike 71 = .ok (.iload 4, 2) := by decide +kernel
theorem dX9_alike_73 : decode cX9_alike 73 = .ok (.invokevirtual 80, 3) := by decide +kernel
theorem dX9_alike_76 : decode cX9_alike 76 = .ok (.if_icmp .ne 7, 3) := by decide +kernel
theorem dX9_alike_79 : decode cX9_alike 79 = .ok (.iconst 1, 1) := by decide +kernel
end
section
theorem dX9_alike_80 : decode cX9_alike 80 = .ok (.goto 4, 3) := by decide +kernel
theorem dX9_alike_83 : decode cX9_alike 83 = .ok (.iconst 0, 1) := by decide +kernel
theorem dX9_alike_84 : decode cX9_alike 84 = .ok (.istore 5, 2) := by decide +kernel
theorem dX9_alike_86 : decode cX9_alike 86 = .ok (.iload_n 3, 1) := by decide +kernel
theorem dX9_alike_87 : decode cX9_alike 87 = .ok (.iload 5, 2) := by decide +kernel
theorem dX9_alike_89 : decode cX9_alike 89 = .ok (.ifCond .eq 41, 3) := by decide +kernel
theorem dX9_alike_92 : decode cX9_alike 92 = .ok (.aload_n 0, 1) := by decide +kernel
theorem dX9_alike_93 : decode cX9_alike 93 = .ok (.iload_n 1, 1) := by decide +kernel
theorem dX9_alike_94 : decode cX9_alike 94 = .ok (.iload 4, 2) := by decide +kernel
theorem dX9_alike_96 : decode cX9_alike 96 = .ok (.invokevirtual 148, 3) := by decide +kernel
theorem dX9_alike_99 : decode cX9_alike 99 = .ok (.aload_n 0, 1) := by decide +kernel
theorem dX9_alike_100 : decode cX9_alike 100 = .ok (.iload_n 2, 1) := by decide +kernel
theorem dX9_alike_101 : decode cX9_alike 101 = .ok (.iload 4, 2) := by decide +kernel
theorem dX9_alike_103 : decode cX9_alike 103 = .ok (.invokevirtual 148, 3) := by decide +kernel
theorem dX9_alike_106 : decode cX9_alike 106 = .ok (.if_icmp .ne 24, 3) := by decide +kernel
theorem dX9_alike_109 : decode cX9_alike 109 = .ok (.aload_n 0, 1) := by decide +kernel
theorem dX9_alike_110 : decode cX9_alike 110 = .ok (.iload_n 1, 1) := by decide +kernel
theorem dX9_alike_111 : decode cX9_alike 111 = .ok (.iload 4, 2) := by decide +kernel
theorem dX9_alike_113 : decode cX9_alike 113 = .ok (.invokevirtual 151, 3) := by decide +kernel
theorem dX9_alike_116 : decode cX9_alike 116 = .ok (.aload_n 0, 1) := by decide +kernel
theorem dX9_alike_117 : decode cX9_alike 117 = .ok (.iload_n 2, 1) := by decide +kernel
theorem dX9_alike_118 : decode cX9_alike 118 = .ok (.iload 4, 2) := by decide +kernel
theorem dX9_alike_120 : decode cX9_alike 120 = .ok (.invokevirtual 151, 3) := by decide +kernel
theorem dX9_alike_123 : decode cX9_alike 123 = .ok (.if_icmp .ne 7, 3) := by decide +kernel
theorem dX9_alike_126 : decode cX9_alike 126 = .ok (.iconst 1, 1) := by decide +kernel
theorem dX9_alike_127 : decode cX9_alike 127 = .ok (.goto 4, 3) := by decide +kernel
theorem dX9_alike_130 : decode cX9_alike 130 = .ok (.iconst 0, 1) := by decide +kernel
theorem dX9_alike_131 : decode cX9_alike 131 = .ok (.iadd, 1) := by decide +kernel
theorem dX9_alike_132 : decode cX9_alike 132 = .ok (.istore_n 3, 1) := by decide +kernel
theorem dX9_alike_133 : decode cX9_alike 133 = .ok (.iinc 4 1, 3) := by decide +kernel
theorem dX9_alike_136 : decode cX9_alike 136 = .ok (.goto (-108), 3) := by decide +kernel
theorem dX9_alike_139 : decode cX9_alike 139 = .ok (.iload_n 3, 1) := by decide +kernel
theorem dX9_alike_140 : decode cX9_alike 140 = .ok (.ireturn, 1) := by decide +kernel
theorem dX9_conflicts_0 : decode cX9_conflicts 0 = .ok (.iload_n 1, 1) := by decide +kernel
theorem dX9_conflicts_1 : decode cX9_conflicts 1 = .ok (.iconst (-1), 1) := by decide +kernel
theorem dX9_conflicts_2 : decode cX9_conflicts 2 = .ok (.if_icmp .lt 21, 3) := by decide +kernel
theorem dX9_conflicts_5 : decode cX9_conflicts 5 = .ok (.iload_n 2, 1) := by decide +kernel
theorem dX9_conflicts_6 : decode cX9_conflicts 6 = .ok (.iconst 0, 1) := by decide +kernel
theorem dX9_conflicts_7 : decode cX9_conflicts 7 = .ok (.iload_n 1, 1) := by decide +kernel
theorem dX9_conflicts_8 : decode cX9_conflicts 8 = .ok (.iconst (-1), 1) := by decide +kernel
theorem dX9_conflicts_9 : decode cX9_conflicts 9 = .ok (.if_icmp .ne 7, 3) := by decide +kernel
theorem dX9_conflicts_12 : decode cX9_conflicts 12 = .ok (.iconst 0, 1) := by decide +kernel
theorem dX9_conflicts_13 : decode cX9_conflicts 13 = .ok (.goto 4, 3) := by decide +kernel
theorem dX9_conflicts_16 : decode cX9_conflicts 16 = .ok (.iconst 2, 1) := by decide +kernel
theorem dX9_conflicts_17 : decode cX9_conflicts 17 = .ok (.invokestatic 68, 3) := by decide +kernel
theorem dX9_conflicts_20 : decode cX9_conflicts 20 = .ok (.ifCond .ne 10, 3) := by decide +kernel
theorem dX9_conflicts_23 : decode cX9_conflicts 23 = .ok (.aload_n 0, 1) := by decide +kernel
theorem dX9_conflicts_24 : decode cX9_conflicts 24 = .ok (.bipush (-2), 2) := by decide +kernel
theorem dX9_conflicts_26 : decode cX9_conflicts 26 = .ok (.invokevirtual 60, 3) := by decide +kernel
theorem dX9_conflicts_29 : decode cX9_conflicts 29 = .ok (.ireturn, 1) := by decide +kernel
theorem dX9_conflicts_30 : decode cX9_conflicts 30 = .ok (.aload_n 0, 1) := by decide +kernel
theorem dX9_conflicts_31 : decode cX9_conflicts 31 = .ok (.invokevirtual 142, 3) := by decide +kernel
theorem dX9_conflicts_34 : decode cX9_conflicts 34 = .ok (.iload_n 1, 1) := by decide +kernel
theorem dX9_conflicts_35 : decode cX9_conflicts 35 = .ok (.iconst (-1), 1) := by decide +kernel
theorem dX9_conflicts_36 : decode cX9_conflicts 36 = .ok (.if_icmp .ne 10, 3) := by decide +kernel
theorem dX9_conflicts_39 : decode cX9_conflicts 39 = .ok (.aload_n 0, 1) := by decide +kernel
theorem dX9_conflicts_40 : decode cX9_conflicts 40 = .ok (.getfield 145, 3) := by decide +kernel
theorem dX9_conflicts_43 : decode cX9_conflicts 43 = .ok (.goto 26, 3) := by decide +kernel
theorem dX9_conflicts_46 : decode cX9_conflicts 46 = .ok (.iload_n 1, 1) := by decide +kernel
theorem dX9_conflicts_47 : decode cX9_conflicts 47 = .ok (.aload_n 0, 1) := by decide +kernel
theorem dX9_conflicts_48 : decode cX9_conflicts 48 = .ok (.getfield 145, 3) := by decide +kernel
theorem dX9_conflicts_51 : decode cX9_conflicts 51 = .ok (.if_icmp .ge 16, 3) := by decide +kernel
theorem dX9_conflicts_54 : decode cX9_conflicts 54 = .ok (.aload_n 0, 1) := by decide +kernel
theorem dX9_conflicts_55 : decode cX9_conflicts 55 = .ok (.getfield 37, 3) := by decide +kernel
theorem dX9_conflicts_58 : decode cX9_conflicts 58 = .ok (.iconst 3, 1) := by decide +kernel
theorem dX9_conflicts_59 : decode cX9_conflicts 59 = .ok (.iload_n 1, 1) := by decide +kernel
theorem dX9_conflicts_60 : decode cX9_conflicts 60 = .ok (.imul, 1) := by decide +kernel
theorem dX9_conflicts_61 : decode cX9_conflicts 61 = .ok (.iload_n 2, 1) := by decide +kernel
theorem dX9_conflicts_62 : decode cX9_conflicts 62 = .ok (.iadd, 1) := by decide +kernel
theorem dX9_conflicts_63 : decode cX9_conflicts 63 = .ok (.iaload, 1) := by decide +kernel
theorem dX9_conflicts_64 : decode cX9_conflicts 64 = .ok (.goto 5, 3) := by decide +kernel
theorem dX9_conflicts_67 : decode cX9_conflicts 67 = .ok (.bipush (-5), 2) := by decide +kernel
theorem dX9_conflicts_69 : decode cX9_conflicts 69 = .ok (.ireturn, 1) := by decide +kernel
theorem dX9_step_0 : decode cX9_step 0 = .ok (.aload_n 0, 1) := by decide +kernel
theorem dX9_step_1 : decode cX9_step 1 = .ok (.getfield 46, 3) := by decide +kernel
theorem dX9_step_4 : decode cX9_step 4 = .ok (.iconst 2, 1) := by decide +kernel
theorem dX9_step_5 : decode cX9_step 5 = .ok (.aload_n 0, 1) := by decide +kernel
theorem dX9_step_6 : decode cX9_step 6 = .ok (.getfield 196, 3) := by decide +kernel
theorem dX9_step_9 : decode cX9_step 9 = .ok (.imul, 1) := by decide +kernel
theorem dX9_step_10 : decode cX9_step 10 = .ok (.iload_n 1, 1) := by decide +kernel
theorem dX9_step_11 : decode cX9_step 11 = .ok (.iastore, 1) := by decide +kernel
theorem dX9_step_12 : decode cX9_step 12 = .ok (.aload_n 0, 1) := by decide +kernel
theorem dX9_step_13 : decode cX9_step 13 = .ok (.getfield 46, 3) := by decide +kernel
theorem dX9_step_16 : decode cX9_step 16 = .ok (.iconst 2, 1) := by decide +kernel
theorem dX9_step_17 : decode cX9_step 17 = .ok (.aload_n 0, 1) := by decide +kernel
theorem dX9_step_18 : decode cX9_step 18 = .ok (.getfield 196, 3) := by decide +kernel
theorem dX9_step_21 : decode cX9_step 21 = .ok (.imul, 1) := by decide +kernel
theorem dX9_step_22 : decode cX9_step 22 = .ok (.iconst 1, 1) := by decide +kernel
theorem dX9_step_23 : decode cX9_step 23 = .ok (.iadd, 1) := by decide +kernel
theorem dX9_step_24 : decode cX9_step 24 = .ok (.iload_n 2, 1) := by decide +kernel
theorem dX9_step_25 : decode cX9_step 25 = .ok (.iastore, 1) := by decide +kernel
theorem dX9_step_26 : decode cX9_step 26 = .ok (.aload_n 0, 1) := by decide +kernel
theorem dX9_step_27 : decode cX9_step 27 = .ok (.dup, 1) := by decide +kernel
theorem dX9_step_28 : decode cX9_step 28 = .ok (.getfield 196, 3) := by decide +kernel
theorem dX9_step_31 : decode cX9_step 31 = .ok (.iconst 1, 1) := by decide +kernel
theorem dX9_step_32 : decode cX9_step 32 = .ok (.iadd, 1) := by decide +kernel
theorem dX9_step_33 : decode cX9_step 33 = .ok (.putfield 196, 3) := by decide +kernel
theorem dX9_step_36 : decode cX9_step 36 = .ok (.return_, 1) := by decide +kernel
theorem dX9_layScript_0 : decode cX9_layScript 0 = .ok (.aload_n 0, 1) := by decide +kernel
theorem dX9_layScript_1 : decode cX9_layScript 1 = .ok (.iconst 0, 1) := by decide +kernel
theorem dX9_layScript_2 : decode cX9_layScript 2 = .ok (.putfield 196, 3) := by decide +kernel
theorem dX9_layScript_5 : decode cX9_layScript 5 = .ok (.iconst 0, 1) := by decide +kernel
theorem dX9_layScript_6 : decode cX9_layScript 6 = .ok (.istore_n 2, 1) := by decide +kernel
theorem dX9_layScript_7 : decode cX9_layScript 7 = .ok (.iload_n 2, 1) := by decide +kernel
theorem dX9_layScript_8 : decode cX9_layScript 8 = .ok (.bipush 16, 2) := by decide +kernel
theorem dX9_layScript_10 : decode cX9_layScript 10 = .ok (.if_icmp .ge 115, 3) := by decide +kernel
theorem dX9_layScript_13 : decode cX9_layScript 13 = .ok (.aload_n 0, 1) := by decide +kernel
theorem dX9_layScript_14 : decode cX9_layScript 14 = .ok (.iconst 0, 1) := by decide +kernel
theorem dX9_layScript_15 : decode cX9_layScript 15 = .ok (.iload_n 2, 1) := by decide +kernel
theorem dX9_layScript_16 : decode cX9_layScript 16 = .ok (.invokevirtual 72, 3) := by decide +kernel
theorem dX9_layScript_19 : decode cX9_layScript 19 = .ok (.istore_n 3, 1) := by decide +kernel
theorem dX9_layScript_20 : decode cX9_layScript 20 = .ok (.aload_n 0, 1) := by decide +kernel
theorem dX9_layScript_21 : decode cX9_layScript 21 = .ok (.iload_n 1, 1) := by decide +kernel
theorem dX9_layScript_22 : decode cX9_layScript 22 = .ok (.iload_n 2, 1) := by decide +kernel
theorem dX9_layScript_23 : decode cX9_layScript 23 = .ok (.invokevirtual 72, 3) := by decide +kernel
theorem dX9_layScript_26 : decode cX9_layScript 26 = .ok (.istore 4, 2) := by decide +kernel
theorem dX9_layScript_28 : decode cX9_layScript 28 = .ok (.iload_n 3, 1) := by decide +kernel
theorem dX9_layScript_29 : decode cX9_layScript 29 = .ok (.iload 4, 2) := by decide +kernel
theorem dX9_layScript_31 : decode cX9_layScript 31 = .ok (.if_icmp .eq 21, 3) := by decide +kernel
theorem dX9_layScript_34 : decode cX9_layScript 34 = .ok (.aload_n 0, 1) := by decide +kernel
theorem dX9_layScript_35 : decode cX9_layScript 35 = .ok (.iload 4, 2) := by decide +kernel
theorem dX9_layScript_37 : decode cX9_layScript 37 = .ok (.ifCond .eq 7, 3) := by decide +kernel
theorem dX9_layScript_40 : decode cX9_layScript 40 = .ok (.iconst 1, 1) := by decide +kernel
theorem dX9_layScript_41 : decode cX9_layScript 41 = .ok (.goto 4, 3) := by decide +kernel
theorem dX9_layScript_44 : decode cX9_layScript 44 = .ok (.iconst 2, 1) := by decide +kernel
theorem dX9_layScript_45 : decode cX9_layScript 45 = .ok (.iload_n 2, 1) := by decide +kernel
theorem dX9_layScript_46 : decode cX9_layScript 46 = .ok (.invokevirtual 199, 3) := by decide +kernel
theorem dX9_layScript_49 : decode cX9_layScript 49 = .ok (.goto 70, 3) := by decide +kernel
theorem dX9_layScript_52 : decode cX9_layScript 52 = .ok (.iload_n 3, 1) := by decide +kernel
theorem dX9_layScript_53 : decode cX9_layScript 53 = .ok (.ifCond .eq 66, 3) := by decide +kernel
theorem dX9_layScript_56 : decode cX9_layScript 56 = .ok (.aload_n 0, 1) := by decide +kernel
theorem dX9_layScript_57 : decode cX9_layScript 57 = .ok (.iconst 0, 1) := by decide +kernel
theorem dX9_layScript_58 : decode cX9_layScript 58 = .ok (.iload_n 2, 1) := by decide +kernel
theorem dX9_layScript_59 : decode cX9_layScript 59 = .ok (.invokevirtual 76, 3) := by decide +kernel
theorem dX9_layScript_62 : decode cX9_layScript 62 = .ok (.aload_n 0, 1) := by decide +kernel
theorem dX9_layScript_63 : decode cX9_layScript 63 = .ok (.iload_n 1, 1) := by decide +kernel
theorem dX9_layScript_64 : decode cX9_layScript 64 = .ok (.iload_n 2, 1) := by decide +kernel
theorem dX9_layScript_65 : decode cX9_layScript 65 = .ok (.invokevirtual 76, 3) := by decide +kernel
theorem dX9_layScript_68 : decode cX9_layScript 68 = .ok (.if_icmp .eq 9, 3) := by decide +kernel
theorem dX9_layScript_71 : decode cX9_layScript 71 = .ok (.aload_n 0, 1) := by decide +kernel
theorem dX9_layScript_72 : decode cX9_layScript 72 = .ok (.iconst 3, 1) := by decide +kernel
theorem dX9_layScript_73 : decode cX9_layScript 73 = .ok (.iload_n 2, 1) := by decide +kernel
theorem dX9_layScript_74 : decode cX9_layScript 74 = .ok (.invokevirtual 199, 3) := by decide +kernel
theorem dX9_layScript_77 : decode cX9_layScript 77 = .ok (.aload_n 0, 1) := by decide +kernel
theorem dX9_layScript_78 : decode cX9_layScript 78 = .ok (.iconst 0, 1) := by decide +kernel
theorem dX9_layScript_79 : decode cX9_layScript 79 = .ok (.iload_n 2, 1) := by decide +kernel
theorem dX9_layScript_80 : decode cX9_layScript 80 = .ok (.invokevirtual 148, 3) := by decide +kernel
theorem dX9_layScript_83 : decode cX9_layScript 83 = .ok (.aload_n 0, 1) := by decide +kernel
theorem dX9_layScript_84 : decode cX9_layScript 84 = .ok (.iload_n 1, 1) := by decide +kernel
theorem dX9_layScript_85 : decode cX9_layScript 85 = .ok (.iload_n 2, 1) := by decide +kernel
theorem dX9_layScript_86 : decode cX9_layScript 86 = .ok (.invokevirtual 148, 3) := by decide +kernel
theorem dX9_layScript_89 : decode cX9_layScript 89 = .ok (.if_icmp .eq 9, 3) := by decide +kernel
theorem dX9_layScript_92 : decode cX9_layScript 92 = .ok (.aload_n 0, 1) := by decide +kernel
theorem dX9_layScript_93 : decode cX9_layScript 93 = .ok (.iconst 4, 1) := by decide +kernel
theorem dX9_layScript_94 : decode cX9_layScript 94 = .ok (.iload_n 2, 1) := by decide +kernel
theorem dX9_layScript_95 : decode cX9_layScript 95 = .ok (.invokevirtual 199, 3) := by decide +kernel
theorem dX9_layScript_98 : decode cX9_layScript 98 = .ok (.aload_n 0, 1) := by decide +kernel
theorem dX9_layScript_99 : decode cX9_layScript 99 = .ok (.iconst 0, 1) := by decide +kernel
theorem dX9_layScript_100 : decode cX9_layScript 100 = .ok (.iload_n 2, 1) := by decide +kernel
theorem dX9_layScript_101 : decode cX9_layScript 101 = .ok (.invokevirtual 151, 3) := by decide +kernel
theorem dX9_layScript_104 : decode cX9_layScript 104 = .ok (.aload_n 0, 1) := by decide +kernel
theorem dX9_layScript_105 : decode cX9_layScript 105 = .ok (.iload_n 1, 1) := by decide +kernel
theorem dX9_layScript_106 : decode cX9_layScript 106 = .ok (.iload_n 2, 1) := by decide +kernel
theorem dX9_layScript_107 : decode cX9_layScript 107 = .ok (.invokevirtual 151, 3) := by decide +kernel
theorem dX9_layScript_110 : decode cX9_layScript 110 = .ok (.if_icmp .eq 9, 3) := by decide +kernel
theorem dX9_layScript_113 : decode cX9_layScript 113 = .ok (.aload_n 0, 1) := by decide +kernel
theorem dX9_layScript_114 : decode cX9_layScript 114 = .ok (.iconst 5, 1) := by decide +kernel
theorem dX9_layScript_115 : decode cX9_layScript 115 = .ok (.iload_n 2, 1) := by decide +kernel
theorem dX9_layScript_116 : decode cX9_layScript 116 = .ok (.invokevirtual 199, 3) := by decide +kernel
theorem dX9_layScript_119 : decode cX9_layScript 119 = .ok (.iinc 2 1, 3) := by decide +kernel
theorem dX9_layScript_122 : decode cX9_layScript 122 = .ok (.goto (-115), 3) := by decide +kernel
theorem dX9_layScript_125 : decode cX9_layScript 125 = .ok (.return_, 1) := by decide +kernel
theorem dX9_script_0 : decode cX9_script 0 = .ok (.iload_n 1, 1) := by decide +kernel
theorem dX9_script_1 : decode cX9_script 1 = .ok (.iconst 1, 1) := by decide +kernel
theorem dX9_script_2 : decode cX9_script 2 = .ok (.iconst 2, 1) := by decide +kernel
theorem dX9_script_3 : decode cX9_script 3 = .ok (.invokestatic 68, 3) := by decide +kernel
theorem dX9_script_6 : decode cX9_script 6 = .ok (.ifCond .eq 26, 3) := by decide +kernel
theorem dX9_script_9 : decode cX9_script 9 = .ok (.iload_n 2, 1) := by decide +kernel
theorem dX9_script_10 : decode cX9_script 10 = .ok (.iconst (-1), 1) := by decide +kernel
theorem dX9_script_11 : decode cX9_script 11 = .ok (.if_icmp .lt 21, 3) := by decide +kernel
theorem dX9_script_14 : decode cX9_script 14 = .ok (.iload_n 3, 1) := by decide +kernel
theorem dX9_script_15 : decode cX9_script 15 = .ok (.iconst 0, 1) := by decide +kernel
theorem dX9_script_16 : decode cX9_script 16 = .ok (.iload_n 2, 1) := by decide +kernel
theorem dX9_script_17 : decode cX9_script 17 = .ok (.iconst (-1), 1) := by decide +kernel
theorem dX9_script_18 : decode cX9_script 18 = .ok (.if_icmp .ne 7, 3) := by decide +kernel
theorem dX9_script_21 : decode cX9_script 21 = .ok (.iconst 0, 1) := by decide +kernel
theorem dX9_script_22 : decode cX9_script 22 = .ok (.goto 4, 3) := by decide +kernel
theorem dX9_script_25 : decode cX9_script 25 = .ok (.iconst 1, 1) := by decide +kernel
theorem dX9_script_26 : decode cX9_script 26 = .ok (.invokestatic 68, 3) := by decide +kernel
theorem dX9_script_29 : decode cX9_script 29 = .ok (.ifCond .ne 10, 3) := by decide +kernel
theorem dX9_script_32 : decode cX9_script 32 = .ok (.aload_n 0, 1) := by decide +kernel
theorem dX9_script_33 : decode cX9_script 33 = .ok (.bipush (-2), 2) := by decide +kernel
theorem dX9_script_35 : decode cX9_script 35 = .ok (.invokevirtual 60, 3) := by decide +kernel
theorem dX9_script_38 : decode cX9_script 38 = .ok (.ireturn, 1) := by decide +kernel
theorem dX9_script_39 : decode cX9_script 39 = .ok (.aload_n 0, 1) := by decide +kernel
theorem dX9_script_40 : decode cX9_script 40 = .ok (.iload_n 1, 1) := by decide +kernel
theorem dX9_script_41 : decode cX9_script 41 = .ok (.invokevirtual 202, 3) := by decide +kernel
theorem dX9_script_44 : decode cX9_script 44 = .ok (.iload_n 2, 1) := by decide +kernel
theorem dX9_script_45 : decode cX9_script 45 = .ok (.iconst (-1), 1) := by decide +kernel
theorem dX9_script_46 : decode cX9_script 46 = .ok (.if_icmp .ne 10, 3) := by decide +kernel
theorem dX9_script_49 : decode cX9_script 49 = .ok (.aload_n 0, 1) := by decide +kernel
theorem dX9_script_50 : decode cX9_script 50 = .ok (.getfield 196, 3) := by decide +kernel
theorem dX9_script_53 : decode cX9_script 53 = .ok (.goto 26, 3) := by decide +kernel
theorem dX9_script_56 : decode cX9_script 56 = .ok (.iload_n 2, 1) := by decide +kernel
theorem dX9_script_57 : decode cX9_script 57 = .ok (.aload_n 0, 1) := by decide +kernel
theorem dX9_script_58 : decode cX9_script 58 = .ok (.getfield 196, 3) := by decide +kernel
theorem dX9_script_61 : decode cX9_script 61 = .ok (.if_icmp .ge 16, 3) := by decide +kernel
theorem dX9_script_64 : decode cX9_script 64 = .ok (.aload_n 0, 1) := by decide +kernel
theorem dX9_script_65 : decode cX9_script 65 = .ok (.getfield 46, 3) := by decide +kernel
theorem dX9_script_68 : decode cX9_script 68 = .ok (.iconst 2, 1) := by decide +kernel
theorem dX9_script_69 : decode cX9_script 69 = .ok (.iload_n 2, 1) := by decide +kernel
theorem dX9_script_70 : decode cX9_script 70 = .ok (.imul, 1) := by decide +kernel
theorem dX9_script_71 : decode cX9_script 71 = .ok (.iload_n 3, 1) := by decide +kernel
theorem dX9_script_72 : decode cX9_script 72 = .ok (.iadd, 1) := by decide +kernel
theorem dX9_script_73 : decode cX9_script 73 = .ok (.iaload, 1) := by decide +kernel
theorem dX9_script_74 : decode cX9_script 74 = .ok (.goto 5, 3) := by decide +kernel
theorem dX9_script_77 : decode cX9_script 77 = .ok (.bipush (-5), 2) := by decide +kernel
theorem dX9_script_79 : decode cX9_script 79 = .ok (.ireturn, 1) := by decide +kernel
theorem dX9_scoreOf_0 : decode cX9_scoreOf 0 = .ok (.aload_n 0, 1) := by decide +kernel
theorem dX9_scoreOf_1 : decode cX9_scoreOf 1 = .ok (.iconst 0, 1) := by decide +kernel
theorem dX9_scoreOf_2 : decode cX9_scoreOf 2 = .ok (.iload_n 2, 1) := by decide +kernel
theorem dX9_scoreOf_3 : decode cX9_scoreOf 3 = .ok (.invokevirtual 148, 3) := by decide +kernel
theorem dX9_scoreOf_6 : decode cX9_scoreOf 6 = .ok (.aload_n 0, 1) := by decide +kernel
theorem dX9_scoreOf_7 : decode cX9_scoreOf 7 = .ok (.iload_n 1, 1) := by decide +kernel
theorem dX9_scoreOf_8 : decode cX9_scoreOf 8 = .ok (.iload_n 3, 1) := by decide +kernel
theorem dX9_scoreOf_9 : decode cX9_scoreOf 9 = .ok (.invokevirtual 148, 3) := by decide +kernel
theorem dX9_scoreOf_12 : decode cX9_scoreOf 12 = .ok (.if_icmp .ne 7, 3) := by decide +kernel
theorem dX9_scoreOf_15 : decode cX9_scoreOf 15 = .ok (.iconst 4, 1) := by decide +kernel
theorem dX9_scoreOf_16 : decode cX9_scoreOf 16 = .ok (.goto 4, 3) := by decide +kernel
theorem dX9_scoreOf_19 : decode cX9_scoreOf 19 = .ok (.iconst 0, 1) := by decide +kernel
theorem dX9_scoreOf_20 : decode cX9_scoreOf 20 = .ok (.istore 4, 2) := by decide +kernel
theorem dX9_scoreOf_22 : decode cX9_scoreOf 22 = .ok (.iload 4, 2) := by decide +kernel
theorem dX9_scoreOf_24 : decode cX9_scoreOf 24 = .ok (.aload_n 0, 1) := by decide +kernel
theorem dX9_scoreOf_25 : decode cX9_scoreOf 25 = .ok (.iconst 0, 1) := by decide +kernel
theorem dX9_scoreOf_26 : decode cX9_scoreOf 26 = .ok (.iload_n 2, 1) := by decide +kernel
theorem dX9_scoreOf_27 : decode cX9_scoreOf 27 = .ok (.invokevirtual 151, 3) := by decide +kernel
theorem dX9_scoreOf_30 : decode cX9_scoreOf 30 = .ok (.aload_n 0, 1) := by decide +kernel
theorem dX9_scoreOf_31 : decode cX9_scoreOf 31 = .ok (.iload_n 1, 1) := by decide +kernel
theorem dX9_scoreOf_32 : decode cX9_scoreOf 32 = .ok (.iload_n 3, 1) := by decide +kernel
theorem dX9_scoreOf_33 : decode cX9_scoreOf 33 = .ok (.invokevirtual 151, 3) := by decide +kernel
theorem dX9_scoreOf_36 : decode cX9_scoreOf 36 = .ok (.if_icmp .ne 7, 3) := by decide +kernel
theorem dX9_scoreOf_39 : decode cX9_scoreOf 39 = .ok (.iconst 2, 1) := by decide +kernel
theorem dX9_scoreOf_40 : decode cX9_scoreOf 40 = .ok (.goto 4, 3) := by decide +kernel
theorem dX9_scoreOf_43 : decode cX9_scoreOf 43 = .ok (.iconst 0, 1) := by decide +kernel
theorem dX9_scoreOf_44 : decode cX9_scoreOf 44 = .ok (.iadd, 1) := by decide +kernel
theorem dX9_scoreOf_45 : decode cX9_scoreOf 45 = .ok (.istore 4, 2) := by decide +kernel
theorem dX9_scoreOf_47 : decode cX9_scoreOf 47 = .ok (.iload 4, 2) := by decide +kernel
theorem dX9_scoreOf_49 : decode cX9_scoreOf 49 = .ok (.aload_n 0, 1) := by decide +kernel
theorem dX9_scoreOf_50 : decode cX9_scoreOf 50 = .ok (.iconst 0, 1) := by decide +kernel
theorem dX9_scoreOf_51 : decode cX9_scoreOf 51 = .ok (.aload_n 0, 1) := by decide +kernel
theorem dX9_scoreOf_52 : decode cX9_scoreOf 52 = .ok (.iconst 0, 1) := by decide +kernel
theorem dX9_scoreOf_53 : decode cX9_scoreOf 53 = .ok (.iload_n 2, 1) := by decide +kernel
theorem dX9_scoreOf_54 : decode cX9_scoreOf 54 = .ok (.invokevirtual 76, 3) := by decide +kernel
theorem dX9_scoreOf_57 : decode cX9_scoreOf 57 = .ok (.invokevirtual 148, 3) := by decide +kernel
theorem dX9_scoreOf_60 : decode cX9_scoreOf 60 = .ok (.aload_n 0, 1) := by decide +kernel
theorem dX9_scoreOf_61 : decode cX9_scoreOf 61 = .ok (.iload_n 1, 1) := by decide +kernel
theorem dX9_scoreOf_62 : decode cX9_scoreOf 62 = .ok (.aload_n 0, 1) := by decide +kernel
theorem dX9_scoreOf_63 : decode cX9_scoreOf 63 = .ok (.iload_n 1, 1) := by decide +kernel
theorem dX9_scoreOf_64 : decode cX9_scoreOf 64 = .ok (.iload_n 3, 1) := by decide +kernel
theorem dX9_scoreOf_65 : decode cX9_scoreOf 65 = .ok (.invokevirtual 76, 3) := by decide +kernel
theorem dX9_scoreOf_68 : decode cX9_scoreOf 68 = .ok (.invokevirtual 148, 3) := by decide +kernel
theorem dX9_scoreOf_71 : decode cX9_scoreOf 71 = .ok (.if_icmp .ne 7, 3) := by decide +kernel
theorem dX9_scoreOf_74 : decode cX9_scoreOf 74 = .ok (.iconst 2, 1) := by decide +kernel
theorem dX9_scoreOf_75 : decode cX9_scoreOf 75 = .ok (.goto 4, 3) := by decide +kernel
theorem dX9_scoreOf_78 : decode cX9_scoreOf 78 = .ok (.iconst 0, 1) := by decide +kernel
theorem dX9_scoreOf_79 : decode cX9_scoreOf 79 = .ok (.iadd, 1) := by decide +kernel
theorem dX9_scoreOf_80 : decode cX9_scoreOf 80 = .ok (.istore 4, 2) := by decide +kernel
theorem dX9_scoreOf_82 : decode cX9_scoreOf 82 = .ok (.iload 4, 2) := by decide +kernel
theorem dX9_scoreOf_84 : decode cX9_scoreOf 84 = .ok (.aload_n 0, 1) := by decide +kernel
theorem dX9_scoreOf_85 : decode cX9_scoreOf 85 = .ok (.iconst 0, 1) := by decide +kernel
theorem dX9_scoreOf_86 : decode cX9_scoreOf 86 = .ok (.iload_n 2, 1) := by decide +kernel
theorem dX9_scoreOf_87 : decode cX9_scoreOf 87 = .ok (.invokevirtual 80, 3) := by decide +kernel
theorem dX9_scoreOf_90 : decode cX9_scoreOf 90 = .ok (.aload_n 0, 1) := by decide +kernel
theorem dX9_scoreOf_91 : decode cX9_scoreOf 91 = .ok (.iload_n 1, 1) := by decide +kernel
theorem dX9_scoreOf_92 : decode cX9_scoreOf 92 = .ok (.iload_n 3, 1) := by decide +kernel
theorem dX9_scoreOf_93 : decode cX9_scoreOf 93 = .ok (.invokevirtual 80, 3) := by decide +kernel
theorem dX9_scoreOf_96 : decode cX9_scoreOf 96 = .ok (.if_icmp .ne 7, 3) := by decide +kernel
theorem dX9_scoreOf_99 : decode cX9_scoreOf 99 = .ok (.iconst 1, 1) := by decide +kernel
theorem dX9_scoreOf_100 : decode cX9_scoreOf 100 = .ok (.goto 4, 3) := by decide +kernel
theorem dX9_scoreOf_103 : decode cX9_scoreOf 103 = .ok (.iconst 0, 1) := by decide +kernel
theorem dX9_scoreOf_104 : decode cX9_scoreOf 104 = .ok (.iadd, 1) := by decide +kernel
theorem dX9_scoreOf_105 : decode cX9_scoreOf 105 = .ok (.ireturn, 1) := by decide +kernel
theorem dX9_layMatches_0 : decode cX9_layMatches 0 = .ok (.iconst 0, 1) := by decide +kernel
theorem dX9_layMatches_1 : decode cX9_layMatches 1 = .ok (.istore_n 2, 1) := by decide +kernel
theorem dX9_layMatches_2 : decode cX9_layMatches 2 = .ok (.iload_n 2, 1) := by decide +kernel
theorem dX9_layMatches_3 : decode cX9_layMatches 3 = .ok (.bipush 16, 2) := by decide +kernel
theorem dX9_layMatches_5 : decode cX9_layMatches 5 = .ok (.if_icmp .ge 16, 3) := by decide +kernel
theorem dX9_layMatches_8 : decode cX9_layMatches 8 = .ok (.aload_n 0, 1) := by decide +kernel
theorem dX9_layMatches_9 : decode cX9_layMatches 9 = .ok (.getfield 49, 3) := by decide +kernel
theorem dX9_layMatches_12 : decode cX9_layMatches 12 = .ok (.iload_n 2, 1) := by decide +kernel
theorem dX9_layMatches_13 : decode cX9_layMatches 13 = .ok (.iconst (-1), 1) := by decide +kernel
theorem dX9_layMatches_14 : decode cX9_layMatches 14 = .ok (.iastore, 1) := by decide +kernel
theorem dX9_layMatches_15 : decode cX9_layMatches 15 = .ok (.iinc 2 1, 3) := by decide +kernel
theorem dX9_layMatches_18 : decode cX9_layMatches 18 = .ok (.goto (-16), 3) := by decide +kernel
theorem dX9_layMatches_21 : decode cX9_layMatches 21 = .ok (.iconst 0, 1) := by decide +kernel
theorem dX9_layMatches_22 : decode cX9_layMatches 22 = .ok (.istore_n 2, 1) := by decide +kernel
theorem dX9_layMatches_23 : decode cX9_layMatches 23 = .ok (.bipush 9, 2) := by decide +kernel
theorem dX9_layMatches_25 : decode cX9_layMatches 25 = .ok (.istore_n 3, 1) := by decide +kernel
theorem dX9_layMatches_26 : decode cX9_layMatches 26 = .ok (.iload_n 3, 1) := by decide +kernel
theorem dX9_layMatches_27 : decode cX9_layMatches 27 = .ok (.iconst 3, 1) := by decide +kernel
theorem dX9_layMatches_28 : decode cX9_layMatches 28 = .ok (.if_icmp .lt 122, 3) := by decide +kernel
theorem dX9_layMatches_31 : decode cX9_layMatches 31 = .ok (.iconst 1, 1) := by decide +kernel
theorem dX9_layMatches_32 : decode cX9_layMatches 32 = .ok (.istore 4, 2) := by decide +kernel
theorem dX9_layMatches_34 : decode cX9_layMatches 34 = .ok (.iload 4, 2) := by decide +kernel
theorem dX9_layMatches_36 : decode cX9_layMatches 36 = .ok (.bipush 16, 2) := by decide +kernel
theorem dX9_layMatches_38 : decode cX9_layMatches 38 = .ok (.if_icmp .ge 106, 3) := by decide +kernel
theorem dX9_layMatches_41 : decode cX9_layMatches 41 = .ok (.iconst 1, 1) := by decide +kernel
theorem dX9_layMatches_42 : decode cX9_layMatches 42 = .ok (.istore 5, 2) := by decide +kernel
theorem dX9_layMatches_44 : decode cX9_layMatches 44 = .ok (.iload 5, 2) := by decide +kernel
theorem dX9_layMatches_46 : decode cX9_layMatches 46 = .ok (.bipush 16, 2) := by decide +kernel
theorem dX9_layMatches_48 : decode cX9_layMatches 48 = .ok (.if_icmp .ge 90, 3) := by decide +kernel
theorem dX9_layMatches_51 : decode cX9_layMatches 51 = .ok (.aload_n 0, 1) := by decide +kernel
theorem dX9_layMatches_52 : decode cX9_layMatches 52 = .ok (.iconst 0, 1) := by decide +kernel
theorem dX9_layMatches_53 : decode cX9_layMatches 53 = .ok (.iload 4, 2) := by decide +kernel
theorem dX9_layMatches_55 : decode cX9_layMatches 55 = .ok (.invokevirtual 72, 3) := by decide +kernel
theorem dX9_layMatches_58 : decode cX9_layMatches 58 = .ok (.ifCond .eq 37, 3) := by decide +kernel
theorem dX9_layMatches_61 : decode cX9_layMatches 61 = .ok (.aload_n 0, 1) := by decide +kernel
theorem dX9_layMatches_62 : decode cX9_layMatches 62 = .ok (.iload_n 1, 1) := by decide +kernel
theorem dX9_layMatches_63 : decode cX9_layMatches 63 = .ok (.iload 5, 2) := by decide +kernel
theorem dX9_layMatches_65 : decode cX9_layMatches 65 = .ok (.invokevirtual 72, 3) := by decide +kernel
theorem dX9_layMatches_68 : decode cX9_layMatches 68 = .ok (.ifCond .eq 27, 3) := by decide +kernel
theorem dX9_layMatches_71 : decode cX9_layMatches 71 = .ok (.iload_n 2, 1) := by decide +kernel
theorem dX9_layMatches_72 : decode cX9_layMatches 72 = .ok (.iload 4, 2) := by decide +kernel
theorem dX9_layMatches_74 : decode cX9_layMatches 74 = .ok (.ishr, 1) := by decide +kernel
theorem dX9_layMatches_75 : decode cX9_layMatches 75 = .ok (.iconst 1, 1) := by decide +kernel
theorem dX9_layMatches_76 : decode cX9_layMatches 76 = .ok (.iand, 1) := by decide +kernel
theorem dX9_layMatches_77 : decode cX9_layMatches 77 = .ok (.ifCond .ne 18, 3) := by decide +kernel
theorem dX9_layMatches_80 : decode cX9_layMatches 80 = .ok (.aload_n 0, 1) := by decide +kernel
theorem dX9_layMatches_81 : decode cX9_layMatches 81 = .ok (.getfield 49, 3) := by decide +kernel
theorem dX9_layMatches_84 : decode cX9_layMatches 84 = .ok (.iload 5, 2) := by decide +kernel
theorem dX9_layMatches_86 : decode cX9_layMatches 86 = .ok (.iaload, 1) := by decide +kernel
theorem dX9_layMatches_87 : decode cX9_layMatches 87 = .ok (.iconst (-1), 1) := by decide +kernel
theorem dX9_layMatches_88 : decode cX9_layMatches 88 = .ok (.if_icmp .ne 7, 3) := by decide +kernel
theorem dX9_layMatches_91 : decode cX9_layMatches 91 = .ok (.iconst 1, 1) := by decide +kernel
theorem dX9_layMatches_92 : decode cX9_layMatches 92 = .ok (.goto 4, 3) := by decide +kernel
theorem dX9_layMatches_95 : decode cX9_layMatches 95 = .ok (.iconst 0, 1) := by decide +kernel
theorem dX9_layMatches_96 : decode cX9_layMatches 96 = .ok (.istore 6, 2) := by decide +kernel
theorem dX9_layMatches_98 : decode cX9_layMatches 98 = .ok (.iload 6, 2) := by decide +kernel
theorem dX9_layMatches_100 : decode cX9_layMatches 100 = .ok (.ifCond .eq 32, 3) := by decide +kernel
theorem dX9_layMatches_103 : decode cX9_layMatches 103 = .ok (.aload_n 0, 1) := by decide +kernel
theorem dX9_layMatches_104 : decode cX9_layMatches 104 = .ok (.iload_n 1, 1) := by decide +kernel
theorem dX9_layMatches_105 : decode cX9_layMatches 105 = .ok (.iload 4, 2) := by decide +kernel
theorem dX9_layMatches_107 : decode cX9_layMatches 107 = .ok (.iload 5, 2) := by decide +kernel
theorem dX9_layMatches_109 : decode cX9_layMatches 109 = .ok (.invokevirtual 205, 3) := by decide +kernel
theorem dX9_layMatches_112 : decode cX9_layMatches 112 = .ok (.iload_n 3, 1) := by decide +kernel
theorem dX9_layMatches_113 : decode cX9_layMatches 113 = .ok (.if_icmp .ne 19, 3) := by decide +kernel
theorem dX9_layMatches_116 : decode cX9_layMatches 116 = .ok (.aload_n 0, 1) := by decide +kernel
theorem dX9_layMatches_117 : decode cX9_layMatches 117 = .ok (.getfield 49, 3) := by decide +kernel
theorem dX9_layMatches_120 : decode cX9_layMatches 120 = .ok (.iload 5, 2) := by decide +kernel
theorem dX9_layMatches_122 : decode cX9_layMatches 122 = .ok (.iload 4, 2) := by decide +kernel
theorem dX9_layMatches_124 : decode cX9_layMatches 124 = .ok (.iastore, 1) := by decide +kernel
theorem dX9_layMatches_125 : decode cX9_layMatches 125 = .ok (.iload_n 2, 1) := by decide +kernel
theorem dX9_layMatches_126 : decode cX9_layMatches 126 = .ok (.iconst 1, 1) := by decide +kernel
theorem dX9_layMatches_127 : decode cX9_layMatches 127 = .ok (.iload 4, 2) := by decide +kernel
theorem dX9_layMatches_129 : decode cX9_layMatches 129 = .ok (.ishl, 1) := by decide +kernel
theorem dX9_layMatches_130 : decode cX9_layMatches 130 = .ok (.ior, 1) := by decide +kernel
theorem dX9_layMatches_131 : decode cX9_layMatches 131 = .ok (.istore_n 2, 1) := by decide +kernel
theorem dX9_layMatches_132 : decode cX9_layMatches 132 = .ok (.iinc 5 1, 3) := by decide +kernel
theorem dX9_layMatches_135 : decode cX9_layMatches 135 = .ok (.goto (-91), 3) := by decide +kernel
theorem dX9_layMatches_138 : decode cX9_layMatches 138 = .ok (.iinc 4 1, 3) := by decide +kernel
theorem dX9_layMatches_141 : decode cX9_layMatches 141 = .ok (.goto (-107), 3) := by decide +kernel
theorem dX9_layMatches_144 : decode cX9_layMatches 144 = .ok (.iinc 3 (-1), 3) := by decide +kernel
theorem dX9_layMatches_147 : decode cX9_layMatches 147 = .ok (.goto (-121), 3) := by decide +kernel
theorem dX9_layMatches_150 : decode cX9_layMatches 150 = .ok (.return_, 1) := by decide +kernel
theorem dX9_matches_0 : decode cX9_matches 0 = .ok (.iload_n 1, 1) := by decide +kernel
theorem dX9_matches_1 : decode cX9_matches 1 = .ok (.iconst 1, 1) := by decide +kernel
theorem dX9_matches_2 : decode cX9_matches 2 = .ok (.iconst 2, 1) := by decide +kernel
theorem dX9_matches_3 : decode cX9_matches 3 = .ok (.invokestatic 68, 3) := by decide +kernel
theorem dX9_matches_6 : decode cX9_matches 6 = .ok (.ifCond .eq 16, 3) := by decide +kernel
theorem dX9_matches_9 : decode cX9_matches 9 = .ok (.aload_n 0, 1) := by decide +kernel
theorem dX9_matches_10 : decode cX9_matches 10 = .ok (.iload_n 1, 1) := by decide +kernel
theorem dX9_matches_11 : decode cX9_matches 11 = .ok (.iload_n 2, 1) := by decide +kernel
theorem dX9_matches_12 : decode cX9_matches 12 = .ok (.invokevirtual 90, 3) := by decide +kernel
theorem dX9_matches_15 : decode cX9_matches 15 = .ok (.ifCond .eq 7, 3) := by decide +kernel
theorem dX9_matches_18 : decode cX9_matches 18 = .ok (.iload_n 2, 1) := by decide +kernel
theorem dX9_matches_19 : decode cX9_matches 19 = .ok (.ifCond .ne 10, 3) := by decide +kernel
theorem dX9_matches_22 : decode cX9_matches 22 = .ok (.aload_n 0, 1) := by decide +kernel
theorem dX9_matches_23 : decode cX9_matches 23 = .ok (.bipush (-2), 2) := by decide +kernel
theorem dX9_matches_25 : decode cX9_matches 25 = .ok (.invokevirtual 60, 3) := by decide +kernel
theorem dX9_matches_28 : decode cX9_matches 28 = .ok (.ireturn, 1) := by decide +kernel
theorem dX9_matches_29 : decode cX9_matches 29 = .ok (.aload_n 0, 1) := by decide +kernel
theorem dX9_matches_30 : decode cX9_matches 30 = .ok (.iload_n 1, 1) := by decide +kernel
theorem dX9_matches_31 : decode cX9_matches 31 = .ok (.invokevirtual 208, 3) := by decide +kernel
theorem dX9_matches_34 : decode cX9_matches 34 = .ok (.aload_n 0, 1) := by decide +kernel
theorem dX9_matches_35 : decode cX9_matches 35 = .ok (.getfield 49, 3) := by decide +kernel
theorem dX9_matches_38 : decode cX9_matches 38 = .ok (.iload_n 2, 1) := by decide +kernel
theorem dX9_matches_39 : decode cX9_matches 39 = .ok (.iaload, 1) := by decide +kernel
theorem dX9_matches_40 : decode cX9_matches 40 = .ok (.ireturn, 1) := by decide +kernel
theorem dX9_strangers_0 : decode cX9_strangers 0 = .ok (.aload_n 0, 1) := by decide +kernel
theorem dX9_strangers_1 : decode cX9_strangers 1 = .ok (.iload_n 1, 1) := by decide +kernel
theorem dX9_strangers_2 : decode cX9_strangers 2 = .ok (.invokevirtual 208, 3) := by decide +kernel
theorem dX9_strangers_5 : decode cX9_strangers 5 = .ok (.iconst 0, 1) := by decide +kernel
theorem dX9_strangers_6 : decode cX9_strangers 6 = .ok (.istore_n 2, 1) := by decide +kernel
theorem dX9_strangers_7 : decode cX9_strangers 7 = .ok (.iconst 1, 1) := by decide +kernel
theorem dX9_strangers_8 : decode cX9_strangers 8 = .ok (.istore_n 3, 1) := by decide +kernel
theorem dX9_strangers_9 : decode cX9_strangers 9 = .ok (.iload_n 3, 1) := by decide +kernel
theorem dX9_strangers_10 : decode cX9_strangers 10 = .ok (.bipush 16, 2) := by decide +kernel
theorem dX9_strangers_12 : decode cX9_strangers 12 = .ok (.if_icmp .ge 37, 3) := by decide +kernel
theorem dX9_strangers_15 : decode cX9_strangers 15 = .ok (.iload_n 2, 1) := by decide +kernel
theorem dX9_strangers_16 : decode cX9_strangers 16 = .ok (.aload_n 0, 1) := by decide +kernel
theorem dX9_strangers_17 : decode cX9_strangers 17 = .ok (.getfield 49, 3) := by decide +kernel
theorem dX9_strangers_20 : decode cX9_strangers 20 = .ok (.iload_n 3, 1) := by decide +kernel
theorem dX9_strangers_21 : decode cX9_strangers 21 = .ok (.iaload, 1) := by decide +kernel
theorem dX9_strangers_22 : decode cX9_strangers 22 = .ok (.iconst (-1), 1) := by decide +kernel
theorem dX9_strangers_23 : decode cX9_strangers 23 = .ok (.if_icmp .eq 17, 3) := by decide +kernel
theorem dX9_strangers_26 : decode cX9_strangers 26 = .ok (.aload_n 0, 1) := by decide +kernel
theorem dX9_strangers_27 : decode cX9_strangers 27 = .ok (.getfield 49, 3) := by decide +kernel
theorem dX9_strangers_30 : decode cX9_strangers 30 = .ok (.iload_n 3, 1) := by decide +kernel
theorem dX9_strangers_31 : decode cX9_strangers 31 = .ok (.iaload, 1) := by decide +kernel
theorem dX9_strangers_32 : decode cX9_strangers 32 = .ok (.iload_n 3, 1) := by decide +kernel
theorem dX9_strangers_33 : decode cX9_strangers 33 = .ok (.if_icmp .eq 7, 3) := by decide +kernel
theorem dX9_strangers_36 : decode cX9_strangers 36 = .ok (.iconst 1, 1) := by decide +kernel
theorem dX9_strangers_37 : decode cX9_strangers 37 = .ok (.goto 4, 3) := by decide +kernel
theorem dX9_strangers_40 : decode cX9_strangers 40 = .ok (.iconst 0, 1) := by decide +kernel
theorem dX9_strangers_41 : decode cX9_strangers 41 = .ok (.iadd, 1) := by decide +kernel
theorem dX9_strangers_42 : decode cX9_strangers 42 = .ok (.istore_n 2, 1) := by decide +kernel
theorem dX9_strangers_43 : decode cX9_strangers 43 = .ok (.iinc 3 1, 3) := by decide +kernel
theorem dX9_strangers_46 : decode cX9_strangers 46 = .ok (.goto (-37), 3) := by decide +kernel
theorem dX9_strangers_49 : decode cX9_strangers 49 = .ok (.iload_n 2, 1) := by decide +kernel
theorem dX9_strangers_50 : decode cX9_strangers 50 = .ok (.ireturn, 1) := by decide +kernel
theorem dX9_toldOf_0 : decode cX9_toldOf 0 = .ok (.iload_n 1, 1) := by decide +kernel
theorem dX9_toldOf_1 : decode cX9_toldOf 1 = .ok (.iconst 2, 1) := by decide +kernel
theorem dX9_toldOf_2 : decode cX9_toldOf 2 = .ok (.if_icmp .ge 16, 3) := by decide +kernel
theorem dX9_toldOf_5 : decode cX9_toldOf 5 = .ok (.aload_n 0, 1) := by decide +kernel
theorem dX9_toldOf_6 : decode cX9_toldOf 6 = .ok (.getfield 7, 3) := by decide +kernel
theorem dX9_toldOf_9 : decode cX9_toldOf 9 = .ok (.sipush 256, 3) := by decide +kernel
theorem dX9_toldOf_12 : decode cX9_toldOf 12 = .ok (.iload_n 1, 1) := by decide +kernel
theorem dX9_toldOf_13 : decode cX9_toldOf 13 = .ok (.iadd, 1) := by decide +kernel
theorem dX9_toldOf_14 : decode cX9_toldOf 14 = .ok (.iaload, 1) := by decide +kernel
theorem dX9_toldOf_15 : decode cX9_toldOf 15 = .ok (.goto 10, 3) := by decide +kernel
theorem dX9_toldOf_18 : decode cX9_toldOf 18 = .ok (.aload_n 0, 1) := by decide +kernel
theorem dX9_toldOf_19 : decode cX9_toldOf 19 = .ok (.iload_n 1, 1) := by decide +kernel
theorem dX9_toldOf_20 : decode cX9_toldOf 20 = .ok (.iconst 1, 1) := by decide +kernel
theorem dX9_toldOf_21 : decode cX9_toldOf 21 = .ok (.isub, 1) := by decide +kernel
theorem dX9_toldOf_22 : decode cX9_toldOf 22 = .ok (.invokevirtual 211, 3) := by decide +kernel
theorem dX9_toldOf_25 : decode cX9_toldOf 25 = .ok (.ireturn, 1) := by decide +kernel
theorem dX9_told_0 : decode cX9_told 0 = .ok (.iload_n 1, 1) := by decide +kernel
theorem dX9_told_1 : decode cX9_told 1 = .ok (.iconst 0, 1) := by decide +kernel
theorem dX9_told_2 : decode cX9_told 2 = .ok (.iconst 3, 1) := by decide +kernel
theorem dX9_told_3 : decode cX9_told 3 = .ok (.invokestatic 68, 3) := by decide +kernel
theorem dX9_told_6 : decode cX9_told 6 = .ok (.ifCond .eq 11, 3) := by decide +kernel
theorem dX9_told_9 : decode cX9_told 9 = .ok (.aload_n 0, 1) := by decide +kernel
theorem dX9_told_10 : decode cX9_told 10 = .ok (.iload_n 1, 1) := by decide +kernel
theorem dX9_told_11 : decode cX9_told 11 = .ok (.invokevirtual 214, 3) := by decide +kernel
theorem dX9_told_14 : decode cX9_told 14 = .ok (.goto 9, 3) := by decide +kernel
theorem dX9_told_17 : decode cX9_told 17 = .ok (.aload_n 0, 1) := by decide +kernel
theorem dX9_told_18 : decode cX9_told 18 = .ok (.bipush (-2), 2) := by decide +kernel
theorem dX9_told_20 : decode cX9_told 20 = .ok (.invokevirtual 60, 3) := by decide +kernel
theorem dX9_told_23 : decode cX9_told 23 = .ok (.ireturn, 1) := by decide +kernel
theorem dX9_type_0 : decode cX9_type 0 = .ok (.iload_n 1, 1) := by decide +kernel
theorem dX9_type_1 : decode cX9_type 1 = .ok (.iconst 0, 1) := by decide +kernel
theorem dX9_type_2 : decode cX9_type 2 = .ok (.bipush 127, 2) := by decide +kernel
theorem dX9_type_4 : decode cX9_type 4 = .ok (.invokestatic 68, 3) := by decide +kernel
theorem dX9_type_7 : decode cX9_type 7 = .ok (.ifCond .ne 10, 3) := by decide +kernel
theorem dX9_type_10 : decode cX9_type 10 = .ok (.aload_n 0, 1) := by decide +kernel
theorem dX9_type_11 : decode cX9_type 11 = .ok (.bipush (-2), 2) := by decide +kernel
theorem dX9_type_13 : decode cX9_type 13 = .ok (.invokevirtual 60, 3) := by decide +kernel
theorem dX9_type_16 : decode cX9_type 16 = .ok (.ireturn, 1) := by decide +kernel
theorem dX9_type_17 : decode cX9_type 17 = .ok (.aload_n 0, 1) := by decide +kernel
theorem dX9_type_18 : decode cX9_type 18 = .ok (.getfield 217, 3) := by decide +kernel
theorem dX9_type_21 : decode cX9_type 21 = .ok (.sipush 150, 3) := by decide +kernel
theorem dX9_type_24 : decode cX9_type 24 = .ok (.if_icmp .ne 10, 3) := by decide +kernel
theorem dX9_type_27 : decode cX9_type 27 = .ok (.aload_n 0, 1) := by decide +kernel
theorem dX9_type_28 : decode cX9_type 28 = .ok (.bipush (-4), 2) := by decide +kernel
theorem dX9_type_30 : decode cX9_type 30 = .ok (.invokevirtual 60, 3) := by decide +kernel
theorem dX9_type_33 : decode cX9_type 33 = .ok (.ireturn, 1) := by decide +kernel
theorem dX9_type_34 : decode cX9_type 34 = .ok (.aload_n 0, 1) := by decide +kernel
theorem dX9_type_35 : decode cX9_type 35 = .ok (.getfield 25, 3) := by decide +kernel
theorem dX9_type_38 : decode cX9_type 38 = .ok (.aload_n 0, 1) := by decide +kernel
theorem dX9_type_39 : decode cX9_type 39 = .ok (.getfield 217, 3) := by decide +kernel
theorem dX9_type_42 : decode cX9_type 42 = .ok (.iload_n 1, 1) := by decide +kernel
theorem dX9_type_43 : decode cX9_type 43 = .ok (.iastore, 1) := by decide +kernel
theorem dX9_type_44 : decode cX9_type 44 = .ok (.aload_n 0, 1) := by decide +kernel
theorem dX9_type_45 : decode cX9_type 45 = .ok (.dup, 1) := by decide +kernel
theorem dX9_type_46 : decode cX9_type 46 = .ok (.getfield 217, 3) := by decide +kernel
theorem dX9_type_49 : decode cX9_type 49 = .ok (.iconst 1, 1) := by decide +kernel
theorem dX9_type_50 : decode cX9_type 50 = .ok (.iadd, 1) := by decide +kernel
theorem dX9_type_51 : decode cX9_type 51 = .ok (.putfield 217, 3) := by decide +kernel
theorem dX9_type_54 : decode cX9_type 54 = .ok (.aload_n 0, 1) := by decide +kernel
theorem dX9_type_55 : decode cX9_type 55 = .ok (.getfield 217, 3) := by decide +kernel
theorem dX9_type_58 : decode cX9_type 58 = .ok (.ireturn, 1) := by decide +kernel
theorem dX9_clear_0 : decode cX9_clear 0 = .ok (.aload_n 0, 1) := by decide +kernel
theorem dX9_clear_1 : decode cX9_clear 1 = .ok (.getfield 217, 3) := by decide +kernel
theorem dX9_clear_4 : decode cX9_clear 4 = .ok (.istore_n 1, 1) := by decide +kernel
theorem dX9_clear_5 : decode cX9_clear 5 = .ok (.aload_n 0, 1) := by decide +kernel
theorem dX9_clear_6 : decode cX9_clear 6 = .ok (.iconst 0, 1) := by decide +kernel
theorem dX9_clear_7 : decode cX9_clear 7 = .ok (.putfield 217, 3) := by decide +kernel
theorem dX9_clear_10 : decode cX9_clear 10 = .ok (.iload_n 1, 1) := by decide +kernel
theorem dX9_clear_11 : decode cX9_clear 11 = .ok (.ireturn, 1) := by decide +kernel
theorem dX9_wantsOf_0 : decode cX9_wantsOf 0 = .ok (.iload_n 0, 1) := by decide +kernel
theorem dX9_wantsOf_1 : decode cX9_wantsOf 1 = .ok (.tableswitch 99 97 114 #[97, 99, 99, 91, 93, 87, 99, 99, 99, 99, 99, 99, 95, 99, 99, 89, 99, 93], 87) := by decide +kernel
theorem dX9_wantsOf_88 : decode cX9_wantsOf 88 = .ok (.iconst 0, 1) := by decide +kernel
theorem dX9_wantsOf_89 : decode cX9_wantsOf 89 = .ok (.ireturn, 1) := by decide +kernel
theorem dX9_wantsOf_90 : decode cX9_wantsOf 90 = .ok (.iconst 1, 1) := by decide +kernel
theorem dX9_wantsOf_91 : decode cX9_wantsOf 91 = .ok (.ireturn, 1) := by decide +kernel
theorem dX9_wantsOf_92 : decode cX9_wantsOf 92 = .ok (.iconst 2, 1) := by decide +kernel
theorem dX9_wantsOf_93 : decode cX9_wantsOf 93 = .ok (.ireturn, 1) := by decide +kernel
theorem dX9_wantsOf_94 : decode cX9_wantsOf 94 = .ok (.iconst 3, 1) := by decide +kernel
theorem dX9_wantsOf_95 : decode cX9_wantsOf 95 = .ok (.ireturn, 1) := by decide +kernel
theorem dX9_wantsOf_96 : decode cX9_wantsOf 96 = .ok (.iconst 4, 1) := by decide +kernel
theorem dX9_wantsOf_97 : decode cX9_wantsOf 97 = .ok (.ireturn, 1) := by decide +kernel
theorem dX9_wantsOf_98 : decode cX9_wantsOf 98 = .ok (.iconst 5, 1) := by decide +kernel
theorem dX9_wantsOf_99 : decode cX9_wantsOf 99 = .ok (.ireturn, 1) := by decide +kernel
theorem dX9_wantsOf_100 : decode cX9_wantsOf 100 = .ok (.iconst (-1), 1) := by decide +kernel
theorem dX9_wantsOf_101 : decode cX9_wantsOf 101 = .ok (.ireturn, 1) := by decide +kernel
theorem dX9_readByte_0 : decode cX9_readByte 0 = .ok (.aload_n 0, 1) := by decide +kernel
theorem dX9_readByte_1 : decode cX9_readByte 1 = .ok (.getfield 220, 3) := by decide +kernel
theorem dX9_readByte_4 : decode cX9_readByte 4 = .ok (.ifCond .ne 58, 3) := by decide +kernel
theorem dX9_readByte_7 : decode cX9_readByte 7 = .ok (.aload_n 0, 1) := by decide +kernel
theorem dX9_readByte_8 : decode cX9_readByte 8 = .ok (.iload_n 1, 1) := by decide +kernel
theorem dX9_readByte_9 : decode cX9_readByte 9 = .ok (.bipush 32, 2) := by decide +kernel
theorem dX9_readByte_11 : decode cX9_readByte 11 = .ok (.if_icmp .ne 7, 3) := by decide +kernel
theorem dX9_readByte_14 : decode cX9_readByte 14 = .ok (.iconst 0, 1) := by decide +kernel
theorem dX9_readByte_15 : decode cX9_readByte 15 = .ok (.goto 4, 3) := by decide +kernel
theorem dX9_readByte_18 : decode cX9_readByte 18 = .ok (.iload_n 1, 1) := by decide +kernel
theorem dX9_readByte_19 : decode cX9_readByte 19 = .ok (.putfield 220, 3) := by decide +kernel
theorem dX9_readByte_22 : decode cX9_readByte 22 = .ok (.aload_n 0, 1) := by decide +kernel
theorem dX9_readByte_23 : decode cX9_readByte 23 = .ok (.iconst 0, 1) := by decide +kernel
theorem dX9_readByte_24 : decode cX9_readByte 24 = .ok (.putfield 223, 3) := by decide +kernel
theorem dX9_readByte_27 : decode cX9_readByte 27 = .ok (.aload_n 0, 1) := by decide +kernel
theorem dX9_readByte_28 : decode cX9_readByte 28 = .ok (.iconst 0, 1) := by decide +kernel
theorem dX9_readByte_29 : decode cX9_readByte 29 = .ok (.putfield 226, 3) := by decide +kernel
theorem dX9_readByte_32 : decode cX9_readByte 32 = .ok (.aload_n 0, 1) := by decide +kernel
theorem dX9_readByte_33 : decode cX9_readByte 33 = .ok (.getfield 28, 3) := by decide +kernel
theorem dX9_readByte_36 : decode cX9_readByte 36 = .ok (.aload_n 0, 1) := by decide +kernel
theorem dX9_readByte_37 : decode cX9_readByte 37 = .ok (.getfield 229, 3) := by decide +kernel
theorem dX9_readByte_40 : decode cX9_readByte 40 = .ok (.iload_n 1, 1) := by decide +kernel
theorem dX9_readByte_41 : decode cX9_readByte 41 = .ok (.iastore, 1) := by decide +kernel
theorem dX9_readByte_42 : decode cX9_readByte 42 = .ok (.iload_n 1, 1) := by decide +kernel
theorem dX9_readByte_43 : decode cX9_readByte 43 = .ok (.bipush 32, 2) := by decide +kernel
theorem dX9_readByte_45 : decode cX9_readByte 45 = .ok (.if_icmp .eq 11, 3) := by decide +kernel
theorem dX9_readByte_48 : decode cX9_readByte 48 = .ok (.iload_n 1, 1) := by decide +kernel
theorem dX9_readByte_49 : decode cX9_readByte 49 = .ok (.invokestatic 232, 3) := by decide +kernel
theorem dX9_readByte_52 : decode cX9_readByte 52 = .ok (.iconst (-1), 1) := by decide +kernel
theorem dX9_readByte_53 : decode cX9_readByte 53 = .ok (.if_icmp .eq 7, 3) := by decide +kernel
theorem dX9_readByte_56 : decode cX9_readByte 56 = .ok (.iconst 1, 1) := by decide +kernel
theorem dX9_readByte_57 : decode cX9_readByte 57 = .ok (.goto 4, 3) := by decide +kernel
theorem dX9_readByte_60 : decode cX9_readByte 60 = .ok (.iconst 0, 1) := by decide +kernel
theorem dX9_readByte_61 : decode cX9_readByte 61 = .ok (.ireturn, 1) := by decide +kernel
theorem dX9_readByte_62 : decode cX9_readByte 62 = .ok (.iload_n 1, 1) := by decide +kernel
theorem dX9_readByte_63 : decode cX9_readByte 63 = .ok (.bipush 32, 2) := by decide +kernel
theorem dX9_readByte_65 : decode cX9_readByte 65 = .ok (.if_icmp .ne 10, 3) := by decide +kernel
theorem dX9_readByte_68 : decode cX9_readByte 68 = .ok (.aload_n 0, 1) := by decide +kernel
theorem dX9_readByte_69 : decode cX9_readByte 69 = .ok (.iconst 0, 1) := by decide +kernel
theorem dX9_readByte_70 : decode cX9_readByte 70 = .ok (.putfield 226, 3) := by decide +kernel
theorem dX9_readByte_73 : decode cX9_readByte 73 = .ok (.iconst 1, 1) := by decide +kernel
theorem dX9_readByte_74 : decode cX9_readByte 74 = .ok (.ireturn, 1) := by decide +kernel
theorem dX9_readByte_75 : decode cX9_readByte 75 = .ok (.iload_n 1, 1) := by decide +kernel
theorem dX9_readByte_76 : decode cX9_readByte 76 = .ok (.bipush 48, 2) := by decide +kernel
theorem dX9_readByte_78 : decode cX9_readByte 78 = .ok (.bipush 57, 2) := by decide +kernel
theorem dX9_readByte_80 : decode cX9_readByte 80 = .ok (.invokestatic 68, 3) := by decide +kernel
theorem dX9_readByte_83 : decode cX9_readByte 83 = .ok (.ifCond .eq 126, 3) := by decide +kernel
theorem dX9_readByte_86 : decode cX9_readByte 86 = .ok (.aload_n 0, 1) := by decide +kernel
theorem dX9_readByte_87 : decode cX9_readByte 87 = .ok (.getfield 226, 3) := by decide +kernel
theorem dX9_readByte_90 : decode cX9_readByte 90 = .ok (.iconst 2, 1) := by decide +kernel
theorem dX9_readByte_91 : decode cX9_readByte 91 = .ok (.if_icmp .eq 24, 3) := by decide +kernel
theorem dX9_readByte_94 : decode cX9_readByte 94 = .ok (.aload_n 0, 1) := by decide +kernel
theorem dX9_readByte_95 : decode cX9_readByte 95 = .ok (.getfield 226, 3) := by decide +kernel
theorem dX9_readByte_98 : decode cX9_readByte 98 = .ok (.ifCond .ne 19, 3) := by decide +kernel
theorem dX9_readByte_101 : decode cX9_readByte 101 = .ok (.aload_n 0, 1) := by decide +kernel
theorem dX9_readByte_102 : decode cX9_readByte 102 = .ok (.getfield 223, 3) := by decide +kernel
theorem dX9_readByte_105 : decode cX9_readByte 105 = .ok (.aload_n 0, 1) := by decide +kernel
theorem dX9_readByte_106 : decode cX9_readByte 106 = .ok (.getfield 220, 3) := by decide +kernel
theorem dX9_readByte_109 : decode cX9_readByte 109 = .ok (.invokestatic 232, 3) := by decide +kernel
theorem dX9_readByte_112 : decode cX9_readByte 112 = .ok (.if_icmp .ne 5, 3) := by decide +kernel
theorem dX9_readByte_115 : decode cX9_readByte 115 = .ok (.iconst 0, 1) := by decide +kernel
theorem dX9_readByte_116 : decode cX9_readByte 116 = .ok (.ireturn, 1) := by decide +kernel
theorem dX9_readByte_117 : decode cX9_readByte 117 = .ok (.aload_n 0, 1) := by decide +kernel
theorem dX9_readByte_118 : decode cX9_readByte 118 = .ok (.getfield 31, 3) := by decide +kernel
theorem dX9_readByte_121 : decode cX9_readByte 121 = .ok (.aload_n 0, 1) := by decide +kernel
theorem dX9_readByte_122 : decode cX9_readByte 122 = .ok (.getfield 229, 3) := by decide +kernel
theorem dX9_readByte_125 : decode cX9_readByte 125 = .ok (.iaload, 1) := by decide +kernel
theorem dX9_readByte_126 : decode cX9_readByte 126 = .ok (.aload_n 0, 1) := by decide +kernel
theorem dX9_readByte_127 : decode cX9_readByte 127 = .ok (.getfield 223, 3) := by decide +kernel
theorem dX9_readByte_130 : decode cX9_readByte 130 = .ok (.iadd, 1) := by decide +kernel
theorem dX9_readByte_131 : decode cX9_readByte 131 = .ok (.aload_n 0, 1) := by decide +kernel
theorem dX9_readByte_132 : decode cX9_readByte 132 = .ok (.getfield 226, 3) := by decide +kernel
theorem dX9_readByte_135 : decode cX9_readByte 135 = .ok (.ifCond .ne 7, 3) := by decide +kernel
theorem dX9_readByte_138 : decode cX9_readByte 138 = .ok (.iconst 0, 1) := by decide +kernel
theorem dX9_readByte_139 : decode cX9_readByte 139 = .ok (.goto 4, 3) := by decide +kernel
theorem dX9_readByte_142 : decode cX9_readByte 142 = .ok (.iconst 1, 1) := by decide +kernel
theorem dX9_readByte_143 : decode cX9_readByte 143 = .ok (.isub, 1) := by decide +kernel
theorem dX9_readByte_144 : decode cX9_readByte 144 = .ok (.istore_n 2, 1) := by decide +kernel
theorem dX9_readByte_145 : decode cX9_readByte 145 = .ok (.aload_n 0, 1) := by decide +kernel
theorem dX9_readByte_146 : decode cX9_readByte 146 = .ok (.getfield 34, 3) := by decide +kernel
theorem dX9_readByte_149 : decode cX9_readByte 149 = .ok (.iload_n 2, 1) := by decide +kernel
theorem dX9_readByte_150 : decode cX9_readByte 150 = .ok (.aload_n 0, 1) := by decide +kernel
theorem dX9_readByte_151 : decode cX9_readByte 151 = .ok (.getfield 226, 3) := by decide +kernel
theorem dX9_readByte_154 : decode cX9_readByte 154 = .ok (.ifCond .ne 7, 3) := by decide +kernel
theorem dX9_readByte_157 : decode cX9_readByte 157 = .ok (.iconst 0, 1) := by decide +kernel
theorem dX9_readByte_158 : decode cX9_readByte 158 = .ok (.goto 12, 3) := by decide +kernel
theorem dX9_readByte_161 : decode cX9_readByte 161 = .ok (.bipush 10, 2) := by decide +kernel
theorem dX9_readByte_163 : decode cX9_readByte 163 = .ok (.aload_n 0, 1) := by decide +kernel
theorem dX9_readByte_164 : decode cX9_readByte 164 = .ok (.getfield 34, 3) := by decide +kernel
theorem dX9_readByte_167 : decode cX9_readByte 167 = .ok (.iload_n 2, 1) := by decide +kernel
theorem dX9_readByte_168 : decode cX9_readByte 168 = .ok (.iaload, 1) := by decide +kernel
theorem dX9_readByte_169 : decode cX9_readByte 169 = .ok (.imul, 1) := by decide +kernel
theorem dX9_readByte_170 : decode cX9_readByte 170 = .ok (.iload_n 1, 1) := by decide +kernel
theorem dX9_readByte_171 : decode cX9_readByte 171 = .ok (.iadd, 1) := by decide +kernel
theorem dX9_readByte_172 : decode cX9_readByte 172 = .ok (.bipush 48, 2) := by decide +kernel
theorem dX9_readByte_174 : decode cX9_readByte 174 = .ok (.isub, 1) := by decide +kernel
theorem dX9_readByte_175 : decode cX9_readByte 175 = .ok (.iastore, 1) := by decide +kernel
theorem dX9_readByte_176 : decode cX9_readByte 176 = .ok (.aload_n 0, 1) := by decide +kernel
theorem dX9_readByte_177 : decode cX9_readByte 177 = .ok (.dup, 1) := by decide +kernel
theorem dX9_readByte_178 : decode cX9_readByte 178 = .ok (.getfield 223, 3) := by decide +kernel
theorem dX9_readByte_181 : decode cX9_readByte 181 = .ok (.aload_n 0, 1) := by decide +kernel
theorem dX9_readByte_182 : decode cX9_readByte 182 = .ok (.getfield 226, 3) := by decide +kernel
theorem dX9_readByte_185 : decode cX9_readByte 185 = .ok (.ifCond .ne 7, 3) := by decide +kernel
theorem dX9_readByte_188 : decode cX9_readByte 188 = .ok (.iconst 1, 1) := by decide +kernel
theorem dX9_readByte_189 : decode cX9_readByte 189 = .ok (.goto 4, 3) := by decide +kernel
theorem dX9_readByte_192 : decode cX9_readByte 192 = .ok (.iconst 0, 1) := by decide +kernel
theorem dX9_readByte_193 : decode cX9_readByte 193 = .ok (.iadd, 1) := by decide +kernel
theorem dX9_readByte_194 : decode cX9_readByte 194 = .ok (.putfield 223, 3) := by decide +kernel
theorem dX9_readByte_197 : decode cX9_readByte 197 = .ok (.aload_n 0, 1) := by decide +kernel
theorem dX9_readByte_198 : decode cX9_readByte 198 = .ok (.dup, 1) := by decide +kernel
theorem dX9_readByte_199 : decode cX9_readByte 199 = .ok (.getfield 226, 3) := by decide +kernel
theorem dX9_readByte_202 : decode cX9_readByte 202 = .ok (.iconst 1, 1) := by decide +kernel
theorem dX9_readByte_203 : decode cX9_readByte 203 = .ok (.iadd, 1) := by decide +kernel
theorem dX9_readByte_204 : decode cX9_readByte 204 = .ok (.putfield 226, 3) := by decide +kernel
theorem dX9_readByte_207 : decode cX9_readByte 207 = .ok (.iconst 1, 1) := by decide +kernel
theorem dX9_readByte_208 : decode cX9_readByte 208 = .ok (.ireturn, 1) := by decide +kernel
theorem dX9_readByte_209 : decode cX9_readByte 209 = .ok (.iload_n 1, 1) := by decide +kernel
theorem dX9_readByte_210 : decode cX9_readByte 210 = .ok (.bipush 59, 2) := by decide +kernel
theorem dX9_readByte_212 : decode cX9_readByte 212 = .ok (.if_icmp .ne 17, 3) := by decide +kernel
theorem dX9_readByte_215 : decode cX9_readByte 215 = .ok (.aload_n 0, 1) := by decide +kernel
theorem dX9_readByte_216 : decode cX9_readByte 216 = .ok (.getfield 223, 3) := by decide +kernel
theorem dX9_readByte_219 : decode cX9_readByte 219 = .ok (.aload_n 0, 1) := by decide +kernel
theorem dX9_readByte_220 : decode cX9_readByte 220 = .ok (.getfield 220, 3) := by decide +kernel
theorem dX9_readByte_223 : decode cX9_readByte 223 = .ok (.invokestatic 232, 3) := by decide +kernel
theorem dX9_readByte_226 : decode cX9_readByte 226 = .ok (.if_icmp .ge 5, 3) := by decide +kernel
theorem dX9_readByte_229 : decode cX9_readByte 229 = .ok (.iconst 0, 1) := by decide +kernel
theorem dX9_readByte_230 : decode cX9_readByte 230 = .ok (.ireturn, 1) := by decide +kernel
theorem dX9_readByte_231 : decode cX9_readByte 231 = .ok (.aload_n 0, 1) := by decide +kernel
theorem dX9_readByte_232 : decode cX9_readByte 232 = .ok (.iconst 0, 1) := by decide +kernel
theorem dX9_readByte_233 : decode cX9_readByte 233 = .ok (.putfield 220, 3) := by decide +kernel
theorem dX9_readByte_236 : decode cX9_readByte 236 = .ok (.aload_n 0, 1) := by decide +kernel
theorem dX9_readByte_237 : decode cX9_readByte 237 = .ok (.getfield 31, 3) := by decide +kernel
theorem dX9_readByte_240 : decode cX9_readByte 240 = .ok (.aload_n 0, 1) := by decide +kernel
theorem dX9_readByte_241 : decode cX9_readByte 241 = .ok (.getfield 229, 3) := by decide +kernel
theorem dX9_readByte_244 : decode cX9_readByte 244 = .ok (.iconst 1, 1) := by decide +kernel
theorem dX9_readByte_245 : decode cX9_readByte 245 = .ok (.iadd, 1) := by decide +kernel
theorem dX9_readByte_246 : decode cX9_readByte 246 = .ok (.aload_n 0, 1) := by decide +kernel
theorem dX9_readByte_247 : decode cX9_readByte 247 = .ok (.getfield 31, 3) := by decide +kernel
theorem dX9_readByte_250 : decode cX9_readByte 250 = .ok (.aload_n 0, 1) := by decide +kernel
theorem dX9_readByte_251 : decode cX9_readByte 251 = .ok (.getfield 229, 3) := by decide +kernel
theorem dX9_readByte_254 : decode cX9_readByte 254 = .ok (.iaload, 1) := by decide +kernel
theorem dX9_readByte_255 : decode cX9_readByte 255 = .ok (.aload_n 0, 1) := by decide +kernel
theorem dX9_readByte_256 : decode cX9_readByte 256 = .ok (.getfield 223, 3) := by decide +kernel
theorem dX9_readByte_259 : decode cX9_readByte 259 = .ok (.iadd, 1) := by decide +kernel
theorem dX9_readByte_260 : decode cX9_readByte 260 = .ok (.iastore, 1) := by decide +kernel
theorem dX9_readByte_261 : decode cX9_readByte 261 = .ok (.aload_n 0, 1) := by decide +kernel
theorem dX9_readByte_262 : decode cX9_readByte 262 = .ok (.dup, 1) := by decide +kernel
theorem dX9_readByte_263 : decode cX9_readByte 263 = .ok (.getfield 229, 3) := by decide +kernel
theorem dX9_readByte_266 : decode cX9_readByte 266 = .ok (.iconst 1, 1) := by decide +kernel
theorem dX9_readByte_267 : decode cX9_readByte 267 = .ok (.iadd, 1) := by decide +kernel
theorem dX9_readByte_268 : decode cX9_readByte 268 = .ok (.putfield 229, 3) := by decide +kernel
theorem dX9_readByte_271 : decode cX9_readByte 271 = .ok (.iconst 1, 1) := by decide +kernel
theorem dX9_readByte_272 : decode cX9_readByte 272 = .ok (.ireturn, 1) := by decide +kernel
theorem dX9_readText_0 : decode cX9_readText 0 = .ok (.aload_n 0, 1) := by decide +kernel
theorem dX9_readText_1 : decode cX9_readText 1 = .ok (.iconst 0, 1) := by decide +kernel
theorem dX9_readText_2 : decode cX9_readText 2 = .ok (.putfield 229, 3) := by decide +kernel
theorem dX9_readText_5 : decode cX9_readText 5 = .ok (.aload_n 0, 1) := by decide +kernel
theorem dX9_readText_6 : decode cX9_readText 6 = .ok (.getfield 31, 3) := by decide +kernel
theorem dX9_readText_9 : decode cX9_readText 9 = .ok (.iconst 0, 1) := by decide +kernel
theorem dX9_readText_10 : decode cX9_readText 10 = .ok (.iconst 0, 1) := by decide +kernel
theorem dX9_readText_11 : decode cX9_readText 11 = .ok (.iastore, 1) := by decide +kernel
theorem dX9_readText_12 : decode cX9_readText 12 = .ok (.aload_n 0, 1) := by decide +kernel
theorem dX9_readText_13 : decode cX9_readText 13 = .ok (.iconst 0, 1) := by decide +kernel
theorem dX9_readText_14 : decode cX9_readText 14 = .ok (.putfield 220, 3) := by decide +kernel
theorem dX9_readText_17 : decode cX9_readText 17 = .ok (.iconst 0, 1) := by decide +kernel
theorem dX9_readText_18 : decode cX9_readText 18 = .ok (.istore_n 1, 1) := by decide +kernel
theorem dX9_readText_19 : decode cX9_readText 19 = .ok (.iload_n 1, 1) := by decide +kernel
theorem dX9_readText_20 : decode cX9_readText 20 = .ok (.aload_n 0, 1) := by decide +kernel
theorem dX9_readText_21 : decode cX9_readText 21 = .ok (.getfield 217, 3) := by decide +kernel
theorem dX9_readText_24 : decode cX9_readText 24 = .ok (.if_icmp .ge 24, 3) := by decide +kernel
theorem dX9_readText_27 : decode cX9_readText 27 = .ok (.aload_n 0, 1) := by decide +kernel
theorem dX9_readText_28 : decode cX9_readText 28 = .ok (.aload_n 0, 1) := by decide +kernel
theorem dX9_readText_29 : decode cX9_readText 29 = .ok (.getfield 25, 3) := by decide +kernel
theorem dX9_readText_32 : decode cX9_readText 32 = .ok (.iload_n 1, 1) := by decide +kernel
theorem dX9_readText_33 : decode cX9_readText 33 = .ok (.iaload, 1) := by decide +kernel
theorem dX9_readText_34 : decode cX9_readText 34 = .ok (.invokevirtual 235, 3) := by decide +kernel
theorem dX9_readText_37 : decode cX9_readText 37 = .ok (.ifCond .ne 5, 3) := by decide +kernel
theorem dX9_readText_40 : decode cX9_readText 40 = .ok (.iload_n 1, 1) := by decide +kernel
theorem dX9_readText_41 : decode cX9_readText 41 = .ok (.ireturn, 1) := by decide +kernel
theorem dX9_readText_42 : decode cX9_readText 42 = .ok (.iinc 1 1, 3) := by decide +kernel
theorem dX9_readText_45 : decode cX9_readText 45 = .ok (.goto (-26), 3) := by decide +kernel
theorem dX9_readText_48 : decode cX9_readText 48 = .ok (.aload_n 0, 1) := by decide +kernel
theorem dX9_readText_49 : decode cX9_readText 49 = .ok (.getfield 220, 3) := by decide +kernel
theorem dX9_readText_52 : decode cX9_readText 52 = .ok (.ifCond .ne 10, 3) := by decide +kernel
theorem dX9_readText_55 : decode cX9_readText 55 = .ok (.aload_n 0, 1) := by decide +kernel
theorem dX9_readText_56 : decode cX9_readText 56 = .ok (.getfield 229, 3) := by decide +kernel
theorem dX9_readText_59 : decode cX9_readText 59 = .ok (.ifCond .ne 10, 3) := by decide +kernel
theorem dX9_readText_62 : decode cX9_readText 62 = .ok (.aload_n 0, 1) := by decide +kernel
theorem dX9_readText_63 : decode cX9_readText 63 = .ok (.getfield 217, 3) := by decide +kernel
theorem dX9_readText_66 : decode cX9_readText 66 = .ok (.goto 4, 3) := by decide +kernel
theorem dX9_readText_69 : decode cX9_readText 69 = .ok (.iconst (-1), 1) := by decide +kernel
theorem dX9_readText_70 : decode cX9_readText 70 = .ok (.ireturn, 1) := by decide +kernel
theorem dX9_numberOf_0 : decode cX9_numberOf 0 = .ok (.aload_n 0, 1) := by decide +kernel
theorem dX9_numberOf_1 : decode cX9_numberOf 1 = .ok (.getfield 31, 3) := by decide +kernel
theorem dX9_numberOf_4 : decode cX9_numberOf 4 = .ok (.iload_n 1, 1) := by decide +kernel
theorem dX9_numberOf_5 : decode cX9_numberOf 5 = .ok (.iaload, 1) := by decide +kernel
theorem dX9_numberOf_6 : decode cX9_numberOf 6 = .ok (.iload_n 2, 1) := by decide +kernel
theorem dX9_numberOf_7 : decode cX9_numberOf 7 = .ok (.iadd, 1) := by decide +kernel
theorem dX9_numberOf_8 : decode cX9_numberOf 8 = .ok (.aload_n 0, 1) := by decide +kernel
theorem dX9_numberOf_9 : decode cX9_numberOf 9 = .ok (.getfield 31, 3) := by decide +kernel
theorem dX9_numberOf_12 : decode cX9_numberOf 12 = .ok (.iload_n 1, 1) := by decide +kernel
theorem dX9_numberOf_13 : decode cX9_numberOf 13 = .ok (.iconst 1, 1) := by decide +kernel
theorem dX9_numberOf_14 : decode cX9_numberOf 14 = .ok (.iadd, 1) := by decide +kernel
theorem dX9_numberOf_15 : decode cX9_numberOf 15 = .ok (.iaload, 1) := by decide +kernel
theorem dX9_numberOf_16 : decode cX9_numberOf 16 = .ok (.if_icmp .ge 19, 3) := by decide +kernel
theorem dX9_numberOf_19 : decode cX9_numberOf 19 = .ok (.aload_n 0, 1) := by decide +kernel
theorem dX9_numberOf_20 : decode cX9_numberOf 20 = .ok (.getfield 34, 3) := by decide +kernel
theorem dX9_numberOf_23 : decode cX9_numberOf 23 = .ok (.aload_n 0, 1) := by decide +kernel
theorem dX9_numberOf_24 : decode cX9_numberOf 24 = .ok (.getfield 31, 3) := by decide +kernel
theorem dX9_numberOf_27 : decode cX9_numberOf 27 = .ok (.iload_n 1, 1) := by decide +kernel
theorem dX9_numberOf_28 : decode cX9_numberOf 28 = .ok (.iaload, 1) := by decide +kernel
theorem dX9_numberOf_29 : decode cX9_numberOf 29 = .ok (.iload_n 2, 1) := by decide +kernel
theorem dX9_numberOf_30 : decode cX9_numberOf 30 = .ok (.iadd, 1) := by decide +kernel
theorem dX9_numberOf_31 : decode cX9_numberOf 31 = .ok (.iaload, 1) := by decide +kernel
theorem dX9_numberOf_32 : decode cX9_numberOf 32 = .ok (.goto 4, 3) := by decide +kernel
theorem dX9_numberOf_35 : decode cX9_numberOf 35 = .ok (.iconst 0, 1) := by decide +kernel
theorem dX9_numberOf_36 : decode cX9_numberOf 36 = .ok (.ireturn, 1) := by decide +kernel
theorem dX9_doOrder_0 : decode cX9_doOrder 0 = .ok (.aload_n 0, 1) := by decide +kernel
theorem dX9_doOrder_1 : decode cX9_doOrder 1 = .ok (.iload_n 1, 1) := by decide +kernel
theorem dX9_doOrder_2 : decode cX9_doOrder 2 = .ok (.iconst 0, 1) := by decide +kernel
theorem dX9_doOrder_3 : decode cX9_doOrder 3 = .ok (.invokevirtual 238, 3) := by decide +kernel
theorem dX9_doOrder_6 : decode cX9_doOrder 6 = .ok (.istore_n 2, 1) := by decide +kernel
theorem dX9_doOrder_7 : decode cX9_doOrder 7 = .ok (.aload_n 0, 1) := by decide +kernel
theorem dX9_doOrder_8 : decode cX9_doOrder 8 = .ok (.iload_n 1, 1) := by decide +kernel
theorem dX9_doOrder_9 : decode cX9_doOrder 9 = .ok (.iconst 1, 1) := by decide +kernel
theorem dX9_doOrder_10 : decode cX9_doOrder 10 = .ok (.invokevirtual 238, 3) := by decide +kernel
theorem dX9_doOrder_13 : decode cX9_doOrder 13 = .ok (.istore_n 3, 1) := by decide +kernel
theorem dX9_doOrder_14 : decode cX9_doOrder 14 = .ok (.aload_n 0, 1) := by decide +kernel
theorem dX9_doOrder_15 : decode cX9_doOrder 15 = .ok (.iload_n 1, 1) := by decide +kernel
theorem dX9_doOrder_16 : decode cX9_doOrder 16 = .ok (.iconst 2, 1) := by decide +kernel
theorem dX9_doOrder_17 : decode cX9_doOrder 17 = .ok (.invokevirtual 238, 3) := by decide +kernel
theorem dX9_doOrder_20 : decode cX9_doOrder 20 = .ok (.istore 4, 2) := by decide +kernel
theorem dX9_doOrder_22 : decode cX9_doOrder 22 = .ok (.aload_n 0, 1) := by decide +kernel
theorem dX9_doOrder_23 : decode cX9_doOrder 23 = .ok (.iload_n 1, 1) := by decide +kernel
theorem dX9_doOrder_24 : decode cX9_doOrder 24 = .ok (.iconst 3, 1) := by decide +kernel
theorem dX9_doOrder_25 : decode cX9_doOrder 25 = .ok (.invokevirtual 238, 3) := by decide +kernel
theorem dX9_doOrder_28 : decode cX9_doOrder 28 = .ok (.istore 5, 2) := by decide +kernel
theorem dX9_doOrder_30 : decode cX9_doOrder 30 = .ok (.aload_n 0, 1) := by decide +kernel
theorem dX9_doOrder_31 : decode cX9_doOrder 31 = .ok (.getfield 28, 3) := by decide +kernel
theorem dX9_doOrder_34 : decode cX9_doOrder 34 = .ok (.iload_n 1, 1) := by decide +kernel
theorem dX9_doOrder_35 : decode cX9_doOrder 35 = .ok (.iaload, 1) := by decide +kernel
theorem dX9_doOrder_36 : decode cX9_doOrder 36 = .ok (.tableswitch 150 97 114 #[88, 150, 150, 138, 127, 145, 150, 150, 150, 150, 150, 150, 105, 150, 150, 150, 150, 116], 88) := by decide +kernel
theorem dX9_doOrder_124 : decode cX9_doOrder 124 = .ok (.aload_n 0, 1) := by decide +kernel
theorem dX9_doOrder_125 : decode cX9_doOrder 125 = .ok (.iload_n 2, 1) := by decide +kernel
theorem dX9_doOrder_126 : decode cX9_doOrder 126 = .ok (.iload_n 3, 1) := by decide +kernel
theorem dX9_doOrder_127 : decode cX9_doOrder 127 = .ok (.iload 4, 2) := by decide +kernel
theorem dX9_doOrder_129 : decode cX9_doOrder 129 = .ok (.iload 5, 2) := by decide +kernel
theorem dX9_doOrder_131 : decode cX9_doOrder 131 = .ok (.aload_n 0, 1) := by decide +kernel
theorem dX9_doOrder_132 : decode cX9_doOrder 132 = .ok (.iload_n 1, 1) := by decide +kernel
theorem dX9_doOrder_133 : decode cX9_doOrder 133 = .ok (.iconst 4, 1) := by decide +kernel
theorem dX9_doOrder_134 : decode cX9_doOrder 134 = .ok (.invokevirtual 238, 3) := by decide +kernel
theorem dX9_doOrder_137 : decode cX9_doOrder 137 = .ok (.invokevirtual 118, 3) := by decide +kernel
theorem dX9_doOrder_140 : decode cX9_doOrder 140 = .ok (.ireturn, 1) := by decide +kernel
theorem dX9_doOrder_141 : decode cX9_doOrder 141 = .ok (.aload_n 0, 1) := by decide +kernel
theorem dX9_doOrder_142 : decode cX9_doOrder 142 = .ok (.iload_n 2, 1) := by decide +kernel
theorem dX9_doOrder_143 : decode cX9_doOrder 143 = .ok (.iload_n 3, 1) := by decide +kernel
theorem dX9_doOrder_144 : decode cX9_doOrder 144 = .ok (.iload 4, 2) := by decide +kernel
theorem dX9_doOrder_146 : decode cX9_doOrder 146 = .ok (.iload 5, 2) := by decide +kernel
theorem dX9_doOrder_148 : decode cX9_doOrder 148 = .ok (.invokevirtual 125, 3) := by decide +kernel
theorem dX9_doOrder_151 : decode cX9_doOrder 151 = .ok (.ireturn, 1) := by decide +kernel
theorem dX9_doOrder_152 : decode cX9_doOrder 152 = .ok (.aload_n 0, 1) := by decide +kernel
theorem dX9_doOrder_153 : decode cX9_doOrder 153 = .ok (.iload_n 2, 1) := by decide +kernel
theorem dX9_doOrder_154 : decode cX9_doOrder 154 = .ok (.iload_n 3, 1) := by decide +kernel
theorem dX9_doOrder_155 : decode cX9_doOrder 155 = .ok (.bipush 32, 2) := by decide +kernel
theorem dX9_doOrder_157 : decode cX9_doOrder 157 = .ok (.iload 4, 2) := by decide +kernel
theorem dX9_doOrder_159 : decode cX9_doOrder 159 = .ok (.invokevirtual 129, 3) := by decide +kernel
theorem dX9_doOrder_162 : decode cX9_doOrder 162 = .ok (.ireturn, 1) := by decide +kernel
theorem dX9_doOrder_163 : decode cX9_doOrder 163 = .ok (.aload_n 0, 1) := by decide +kernel
theorem dX9_doOrder_164 : decode cX9_doOrder 164 = .ok (.iload_n 2, 1) := by decide +kernel
theorem dX9_doOrder_165 : decode cX9_doOrder 165 = .ok (.iload_n 3, 1) := by decide +kernel
theorem dX9_doOrder_166 : decode cX9_doOrder 166 = .ok (.bipush 48, 2) := by decide +kernel
theorem dX9_doOrder_168 : decode cX9_doOrder 168 = .ok (.iload 4, 2) := by decide +kernel
theorem dX9_doOrder_170 : decode cX9_doOrder 170 = .ok (.invokevirtual 129, 3) := by decide +kernel
theorem dX9_doOrder_173 : decode cX9_doOrder 173 = .ok (.ireturn, 1) := by decide +kernel
theorem dX9_doOrder_174 : decode cX9_doOrder 174 = .ok (.aload_n 0, 1) := by decide +kernel
theorem dX9_doOrder_175 : decode cX9_doOrder 175 = .ok (.iload_n 2, 1) := by decide +kernel
theorem dX9_doOrder_176 : decode cX9_doOrder 176 = .ok (.iload_n 3, 1) := by decide +kernel
theorem dX9_doOrder_177 : decode cX9_doOrder 177 = .ok (.invokevirtual 132, 3) := by decide +kernel
theorem dX9_doOrder_180 : decode cX9_doOrder 180 = .ok (.ireturn, 1) := by decide +kernel
theorem dX9_doOrder_181 : decode cX9_doOrder 181 = .ok (.aload_n 0, 1) := by decide +kernel
theorem dX9_doOrder_182 : decode cX9_doOrder 182 = .ok (.invokevirtual 135, 3) := by decide +kernel
theorem dX9_doOrder_185 : decode cX9_doOrder 185 = .ok (.ireturn, 1) := by decide +kernel
theorem dX9_doOrder_186 : decode cX9_doOrder 186 = .ok (.aload_n 0, 1) := by decide +kernel
theorem dX9_doOrder_187 : decode cX9_doOrder 187 = .ok (.iload_n 2, 1) := by decide +kernel
theorem dX9_doOrder_188 : decode cX9_doOrder 188 = .ok (.invokevirtual 139, 3) := by decide +kernel
theorem dX9_doOrder_191 : decode cX9_doOrder 191 = .ok (.ireturn, 1) := by decide +kernel
theorem dX9_does_0 : decode cX9_does 0 = .ok (.aload_n 0, 1) := by decide +kernel
theorem dX9_does_1 : decode cX9_does 1 = .ok (.invokevirtual 241, 3) := by decide +kernel
theorem dX9_does_4 : decode cX9_does 4 = .ok (.istore_n 1, 1) := by decide +kernel
theorem dX9_does_5 : decode cX9_does 5 = .ok (.iload_n 1, 1) := by decide +kernel
theorem dX9_does_6 : decode cX9_does 6 = .ok (.iconst (-1), 1) := by decide +kernel
theorem dX9_does_7 : decode cX9_does 7 = .ok (.if_icmp .eq 8, 3) := by decide +kernel
theorem dX9_does_10 : decode cX9_does 10 = .ok (.bipush (-10), 2) := by decide +kernel
theorem dX9_does_12 : decode cX9_does 12 = .ok (.iload_n 1, 1) := by decide +kernel
theorem dX9_does_13 : decode cX9_does 13 = .ok (.isub, 1) := by decide +kernel
theorem dX9_does_14 : decode cX9_does 14 = .ok (.ireturn, 1) := by decide +kernel
theorem dX9_does_15 : decode cX9_does 15 = .ok (.aload_n 0, 1) := by decide +kernel
theorem dX9_does_16 : decode cX9_does 16 = .ok (.getfield 7, 3) := by decide +kernel
theorem dX9_does_19 : decode cX9_does 19 = .ok (.iconst 0, 1) := by decide +kernel
theorem dX9_does_20 : decode cX9_does 20 = .ok (.aload_n 0, 1) := by decide +kernel
theorem dX9_does_21 : decode cX9_does 21 = .ok (.getfield 16, 3) := by decide +kernel
theorem dX9_does_24 : decode cX9_does 24 = .ok (.iconst 0, 1) := by decide +kernel
theorem dX9_does_25 : decode cX9_does 25 = .ok (.sipush 258, 3) := by decide +kernel
theorem dX9_does_28 : decode cX9_does 28 = .ok (.invokestatic 52, 3) := by decide +kernel
theorem dX9_does_31 : decode cX9_does 31 = .ok (.iconst 0, 1) := by decide +kernel
theorem dX9_does_32 : decode cX9_does 32 = .ok (.istore_n 2, 1) := by decide +kernel
theorem dX9_does_33 : decode cX9_does 33 = .ok (.iload_n 2, 1) := by decide +kernel
theorem dX9_does_34 : decode cX9_does 34 = .ok (.aload_n 0, 1) := by decide +kernel
theorem dX9_does_35 : decode cX9_does 35 = .ok (.getfield 229, 3) := by decide +kernel
theorem dX9_does_38 : decode cX9_does 38 = .ok (.if_icmp .ge 42, 3) := by decide +kernel
theorem dX9_does_41 : decode cX9_does 41 = .ok (.aload_n 0, 1) := by decide +kernel
theorem dX9_does_42 : decode cX9_does 42 = .ok (.iload_n 2, 1) := by decide +kernel
theorem dX9_does_43 : decode cX9_does 43 = .ok (.invokevirtual 244, 3) := by decide +kernel
theorem dX9_does_46 : decode cX9_does 46 = .ok (.invokestatic 56, 3) := by decide +kernel
theorem dX9_does_49 : decode cX9_does 49 = .ok (.ifCond .eq 25, 3) := by decide +kernel
theorem dX9_does_52 : decode cX9_does 52 = .ok (.aload_n 0, 1) := by decide +kernel
theorem dX9_does_53 : decode cX9_does 53 = .ok (.getfield 16, 3) := by decide +kernel
theorem dX9_does_56 : decode cX9_does 56 = .ok (.iconst 0, 1) := by decide +kernel
theorem dX9_does_57 : decode cX9_does 57 = .ok (.aload_n 0, 1) := by decide +kernel
theorem dX9_does_58 : decode cX9_does 58 = .ok (.getfield 7, 3) := by decide +kernel
theorem dX9_does_61 : decode cX9_does 61 = .ok (.iconst 0, 1) := by decide +kernel
theorem dX9_does_62 : decode cX9_does 62 = .ok (.sipush 258, 3) := by decide +kernel
theorem dX9_does_65 : decode cX9_does 65 = .ok (.invokestatic 52, 3) := by decide +kernel
theorem dX9_does_68 : decode cX9_does 68 = .ok (.sipush (-1000), 3) := by decide +kernel
theorem dX9_does_71 : decode cX9_does 71 = .ok (.iload_n 2, 1) := by decide +kernel
theorem dX9_does_72 : decode cX9_does 72 = .ok (.isub, 1) := by decide +kernel
theorem dX9_does_73 : decode cX9_does 73 = .ok (.ireturn, 1) := by decide +kernel
theorem dX9_does_74 : decode cX9_does 74 = .ok (.iinc 2 1, 3) := by decide +kernel
theorem dX9_does_77 : decode cX9_does 77 = .ok (.goto (-44), 3) := by decide +kernel
theorem dX9_does_80 : decode cX9_does 80 = .ok (.aload_n 0, 1) := by decide +kernel
theorem dX9_does_81 : decode cX9_does 81 = .ok (.getfield 16, 3) := by decide +kernel
theorem dX9_does_84 : decode cX9_does 84 = .ok (.iconst 0, 1) := by decide +kernel
theorem dX9_does_85 : decode cX9_does 85 = .ok (.aload_n 0, 1) := by decide +kernel
theorem dX9_does_86 : decode cX9_does 86 = .ok (.getfield 13, 3) := by decide +kernel
theorem dX9_does_89 : decode cX9_does 89 = .ok (.iconst 0, 1) := by decide +kernel
theorem dX9_does_90 : decode cX9_does 90 = .ok (.sipush 258, 3) := by decide +kernel
theorem dX9_does_93 : decode cX9_does 93 = .ok (.invokestatic 52, 3) := by decide +kernel
theorem dX9_does_96 : decode cX9_does 96 = .ok (.aload_n 0, 1) := by decide +kernel
theorem dX9_does_97 : decode cX9_does 97 = .ok (.aload_n 0, 1) := by decide +kernel
theorem dX9_does_98 : decode cX9_does 98 = .ok (.getfield 229, 3) := by decide +kernel
theorem dX9_does_101 : decode cX9_does 101 = .ok (.invokevirtual 122, 3) := by decide +kernel
theorem dX9_does_104 : decode cX9_does 104 = .ok (.ireturn, 1) := by decide +kernel
theorem dX9_back_0 : decode cX9_back 0 = .ok (.aload_n 0, 1) := by decide +kernel
theorem dX9_back_1 : decode cX9_back 1 = .ok (.getfield 64, 3) := by decide +kernel
theorem dX9_back_4 : decode cX9_back 4 = .ok (.ifCond .ne 10, 3) := by decide +kernel
theorem dX9_back_7 : decode cX9_back 7 = .ok (.aload_n 0, 1) := by decide +kernel
theorem dX9_back_8 : decode cX9_back 8 = .ok (.bipush (-3), 2) := by decide +kernel
theorem dX9_back_10 : decode cX9_back 10 = .ok (.invokevirtual 60, 3) := by decide +kernel
theorem dX9_back_13 : decode cX9_back 13 = .ok (.ireturn, 1) := by decide +kernel
theorem dX9_back_14 : decode cX9_back 14 = .ok (.aload_n 0, 1) := by decide +kernel
theorem dX9_back_15 : decode cX9_back 15 = .ok (.dup, 1) := by decide +kernel
theorem dX9_back_16 : decode cX9_back 16 = .ok (.getfield 64, 3) := by decide +kernel
theorem dX9_back_19 : decode cX9_back 19 = .ok (.iconst 1, 1) := by decide +kernel
theorem dX9_back_20 : decode cX9_back 20 = .ok (.isub, 1) := by decide +kernel
theorem dX9_back_21 : decode cX9_back 21 = .ok (.putfield 64, 3) := by decide +kernel
theorem dX9_back_24 : decode cX9_back 24 = .ok (.aload_n 0, 1) := by decide +kernel
theorem dX9_back_25 : decode cX9_back 25 = .ok (.getfield 19, 3) := by decide +kernel
theorem dX9_back_28 : decode cX9_back 28 = .ok (.sipush 258, 3) := by decide +kernel
theorem dX9_back_31 : decode cX9_back 31 = .ok (.aload_n 0, 1) := by decide +kernel
theorem dX9_back_32 : decode cX9_back 32 = .ok (.getfield 64, 3) := by decide +kernel
theorem dX9_back_35 : decode cX9_back 35 = .ok (.imul, 1) := by decide +kernel
theorem dX9_back_36 : decode cX9_back 36 = .ok (.aload_n 0, 1) := by decide +kernel
theorem dX9_back_37 : decode cX9_back 37 = .ok (.getfield 7, 3) := by decide +kernel
theorem dX9_back_40 : decode cX9_back 40 = .ok (.iconst 0, 1) := by decide +kernel
theorem dX9_back_41 : decode cX9_back 41 = .ok (.sipush 258, 3) := by decide +kernel
theorem dX9_back_44 : decode cX9_back 44 = .ok (.invokestatic 52, 3) := by decide +kernel
theorem dX9_back_47 : decode cX9_back 47 = .ok (.aload_n 0, 1) := by decide +kernel
theorem dX9_back_48 : decode cX9_back 48 = .ok (.getfield 64, 3) := by decide +kernel
theorem dX9_back_51 : decode cX9_back 51 = .ok (.ireturn, 1) := by decide +kernel
theorem dX9_refusedOf_0 : decode cX9_refusedOf 0 = .ok (.iload_n 1, 1) := by decide +kernel
theorem dX9_refusedOf_1 : decode cX9_refusedOf 1 = .ok (.iconst 3, 1) := by decide +kernel
theorem dX9_refusedOf_2 : decode cX9_refusedOf 2 = .ok (.if_icmp .ge 12, 3) := by decide +kernel
theorem dX9_refusedOf_5 : decode cX9_refusedOf 5 = .ok (.aload_n 0, 1) := by decide +kernel
theorem dX9_refusedOf_6 : decode cX9_refusedOf 6 = .ok (.getfield 22, 3) := by decide +kernel
theorem dX9_refusedOf_9 : decode cX9_refusedOf 9 = .ok (.iload_n 1, 1) := by decide +kernel
theorem dX9_refusedOf_10 : decode cX9_refusedOf 10 = .ok (.iaload, 1) := by decide +kernel
theorem dX9_refusedOf_11 : decode cX9_refusedOf 11 = .ok (.goto 19, 3) := by decide +kernel
theorem dX9_refusedOf_14 : decode cX9_refusedOf 14 = .ok (.iload_n 1, 1) := by decide +kernel
theorem dX9_refusedOf_15 : decode cX9_refusedOf 15 = .ok (.iconst 3, 1) := by decide +kernel
theorem dX9_refusedOf_16 : decode cX9_refusedOf 16 = .ok (.if_icmp .ne 10, 3) := by decide +kernel
theorem dX9_refusedOf_19 : decode cX9_refusedOf 19 = .ok (.aload_n 0, 1) := by decide +kernel
theorem dX9_refusedOf_20 : decode cX9_refusedOf 20 = .ok (.getfield 217, 3) := by decide +kernel
theorem dX9_refusedOf_23 : decode cX9_refusedOf 23 = .ok (.goto 7, 3) := by decide +kernel
theorem dX9_refusedOf_26 : decode cX9_refusedOf 26 = .ok (.aload_n 0, 1) := by decide +kernel
theorem dX9_refusedOf_27 : decode cX9_refusedOf 27 = .ok (.getfield 64, 3) := by decide +kernel
theorem dX9_refusedOf_30 : decode cX9_refusedOf 30 = .ok (.ireturn, 1) := by decide +kernel
theorem dX9_refused_0 : decode cX9_refused 0 = .ok (.iload_n 1, 1) := by decide +kernel
theorem dX9_refused_1 : decode cX9_refused 1 = .ok (.iconst 0, 1) := by decide +kernel
theorem dX9_refused_2 : decode cX9_refused 2 = .ok (.iconst 4, 1) := by decide +kernel
theorem dX9_refused_3 : decode cX9_refused 3 = .ok (.invokestatic 68, 3) := by decide +kernel
theorem dX9_refused_6 : decode cX9_refused 6 = .ok (.ifCond .eq 11, 3) := by decide +kernel
theorem dX9_refused_9 : decode cX9_refused 9 = .ok (.aload_n 0, 1) := by decide +kernel
theorem dX9_refused_10 : decode cX9_refused 10 = .ok (.iload_n 1, 1) := by decide +kernel
theorem dX9_refused_11 : decode cX9_refused 11 = .ok (.invokevirtual 247, 3) := by decide +kernel
theorem dX9_refused_14 : decode cX9_refused 14 = .ok (.goto 9, 3) := by decide +kernel
theorem dX9_refused_17 : decode cX9_refused 17 = .ok (.aload_n 0, 1) := by decide +kernel
theorem dX9_refused_18 : decode cX9_refused 18 = .ok (.bipush (-2), 2) := by decide +kernel
theorem dX9_refused_20 : decode cX9_refused 20 = .ok (.invokevirtual 60, 3) := by decide +kernel
theorem dX9_refused_23 : decode cX9_refused 23 = .ok (.ireturn, 1) := by decide +kernel
theorem dX9_digest_0 : decode cX9_digest 0 = .ok (.ldc2_w 250, 3) := by decide +kernel
theorem dX9_digest_3 : decode cX9_digest 3 = .ok (.lstore_n 1, 1) := by decide +kernel
theorem dX9_digest_4 : decode cX9_digest 4 = .ok (.iconst 0, 1) := by decide +kernel
theorem dX9_digest_5 : decode cX9_digest 5 = .ok (.istore_n 3, 1) := by decide +kernel
theorem dX9_digest_6 : decode cX9_digest 6 = .ok (.iload_n 3, 1) := by decide +kernel
theorem dX9_digest_7 : decode cX9_digest 7 = .ok (.iconst 5, 1) := by decide +kernel
theorem dX9_digest_8 : decode cX9_digest 8 = .ok (.if_icmp .ge 22, 3) := by decide +kernel
theorem dX9_digest_11 : decode cX9_digest 11 = .ok (.ldc2_w 252, 3) := by decide +kernel
theorem dX9_digest_14 : decode cX9_digest 14 = .ok (.lload_n 1, 1) := by decide +kernel
theorem dX9_digest_15 : decode cX9_digest 15 = .ok (.lmul, 1) := by decide +kernel
theorem dX9_digest_16 : decode cX9_digest 16 = .ok (.aload_n 0, 1) := by decide +kernel
theorem dX9_digest_17 : decode cX9_digest 17 = .ok (.iload_n 3, 1) := by decide +kernel
theorem dX9_digest_18 : decode cX9_digest 18 = .ok (.invokevirtual 247, 3) := by decide +kernel
theorem dX9_digest_21 : decode cX9_digest 21 = .ok (.i2l, 1) := by decide +kernel
theorem dX9_digest_22 : decode cX9_digest 22 = .ok (.ladd, 1) := by decide +kernel
theorem dX9_digest_23 : decode cX9_digest 23 = .ok (.lstore_n 1, 1) := by decide +kernel
theorem dX9_digest_24 : decode cX9_digest 24 = .ok (.iinc 3 1, 3) := by decide +kernel
theorem dX9_digest_27 : decode cX9_digest 27 = .ok (.goto (-21), 3) := by decide +kernel
theorem dX9_digest_30 : decode cX9_digest 30 = .ok (.iconst 0, 1) := by decide +kernel
theorem dX9_digest_31 : decode cX9_digest 31 = .ok (.istore_n 3, 1) := by decide +kernel
theorem dX9_digest_32 : decode cX9_digest 32 = .ok (.iload_n 3, 1) := by decide +kernel
theorem dX9_digest_33 : decode cX9_digest 33 = .ok (.iconst 4, 1) := by decide +kernel
theorem dX9_digest_34 : decode cX9_digest 34 = .ok (.if_icmp .ge 22, 3) := by decide +kernel
theorem dX9_digest_37 : decode cX9_digest 37 = .ok (.ldc2_w 252, 3) := by decide +kernel
theorem dX9_digest_40 : decode cX9_digest 40 = .ok (.lload_n 1, 1) := by decide +kernel
theorem dX9_digest_41 : decode cX9_digest 41 = .ok (.lmul, 1) := by decide +kernel
theorem dX9_digest_42 : decode cX9_digest 42 = .ok (.aload_n 0, 1) := by decide +kernel
theorem dX9_digest_43 : decode cX9_digest 43 = .ok (.iload_n 3, 1) := by decide +kernel
theorem dX9_digest_44 : decode cX9_digest 44 = .ok (.invokevirtual 214, 3) := by decide +kernel
theorem dX9_digest_47 : decode cX9_digest 47 = .ok (.i2l, 1) := by decide +kernel
theorem dX9_digest_48 : decode cX9_digest 48 = .ok (.ladd, 1) := by decide +kernel
theorem dX9_digest_49 : decode cX9_digest 49 = .ok (.lstore_n 1, 1) := by decide +kernel
theorem dX9_digest_50 : decode cX9_digest 50 = .ok (.iinc 3 1, 3) := by decide +kernel
theorem dX9_digest_53 : decode cX9_digest 53 = .ok (.goto (-21), 3) := by decide +kernel
theorem dX9_digest_56 : decode cX9_digest 56 = .ok (.aload_n 0, 1) := by decide +kernel
theorem dX9_digest_57 : decode cX9_digest 57 = .ok (.invokevirtual 142, 3) := by decide +kernel
theorem dX9_digest_60 : decode cX9_digest 60 = .ok (.iconst 0, 1) := by decide +kernel
theorem dX9_digest_61 : decode cX9_digest 61 = .ok (.istore_n 3, 1) := by decide +kernel
theorem dX9_digest_62 : decode cX9_digest 62 = .ok (.iload_n 3, 1) := by decide +kernel
theorem dX9_digest_63 : decode cX9_digest 63 = .ok (.iconst 4, 1) := by decide +kernel
theorem dX9_digest_64 : decode cX9_digest 64 = .ok (.if_icmp .ge 108, 3) := by decide +kernel
theorem dX9_digest_67 : decode cX9_digest 67 = .ok (.aload_n 0, 1) := by decide +kernel
theorem dX9_digest_68 : decode cX9_digest 68 = .ok (.iload_n 3, 1) := by decide +kernel
theorem dX9_digest_69 : decode cX9_digest 69 = .ok (.invokevirtual 190, 3) := by decide +kernel
theorem dX9_digest_72 : decode cX9_digest 72 = .ok (.istore 4, 2) := by decide +kernel
theorem dX9_digest_74 : decode cX9_digest 74 = .ok (.ldc2_w 252, 3) := by decide +kernel
theorem dX9_digest_77 : decode cX9_digest 77 = .ok (.ldc2_w 252, 3) := by decide +kernel
theorem dX9_digest_80 : decode cX9_digest 80 = .ok (.lload_n 1, 1) := by decide +kernel
theorem dX9_digest_81 : decode cX9_digest 81 = .ok (.lmul, 1) := by decide +kernel
theorem dX9_digest_82 : decode cX9_digest 82 = .ok (.aload_n 0, 1) := by decide +kernel
theorem dX9_digest_83 : decode cX9_digest 83 = .ok (.iload_n 3, 1) := by decide +kernel
theorem dX9_digest_84 : decode cX9_digest 84 = .ok (.invokevirtual 112, 3) := by decide +kernel
theorem dX9_digest_87 : decode cX9_digest 87 = .ok (.i2l, 1) := by decide +kernel
theorem dX9_digest_88 : decode cX9_digest 88 = .ok (.ladd, 1) := by decide +kernel
theorem dX9_digest_89 : decode cX9_digest 89 = .ok (.lmul, 1) := by decide +kernel
theorem dX9_digest_90 : decode cX9_digest 90 = .ok (.aload_n 0, 1) := by decide +kernel
theorem dX9_digest_91 : decode cX9_digest 91 = .ok (.iload_n 3, 1) := by decide +kernel
theorem dX9_digest_92 : decode cX9_digest 92 = .ok (.invokevirtual 193, 3) := by decide +kernel
theorem dX9_digest_95 : decode cX9_digest 95 = .ok (.i2l, 1) := by decide +kernel
theorem dX9_digest_96 : decode cX9_digest 96 = .ok (.ladd, 1) := by decide +kernel
theorem dX9_digest_97 : decode cX9_digest 97 = .ok (.lstore_n 1, 1) := by decide +kernel
theorem dX9_digest_98 : decode cX9_digest 98 = .ok (.iconst 0, 1) := by decide +kernel
theorem dX9_digest_99 : decode cX9_digest 99 = .ok (.istore 5, 2) := by decide +kernel
theorem dX9_digest_101 : decode cX9_digest 101 = .ok (.iload 5, 2) := by decide +kernel
theorem dX9_digest_103 : decode cX9_digest 103 = .ok (.iload 4, 2) := by decide +kernel
theorem dX9_digest_105 : decode cX9_digest 105 = .ok (.if_icmp .ge 61, 3) := by decide +kernel
theorem dX9_digest_108 : decode cX9_digest 108 = .ok (.ldc2_w 252, 3) := by decide +kernel
theorem dX9_digest_111 : decode cX9_digest 111 = .ok (.lload_n 1, 1) := by decide +kernel
theorem dX9_digest_112 : decode cX9_digest 112 = .ok (.lmul, 1) := by decide +kernel
theorem dX9_digest_113 : decode cX9_digest 113 = .ok (.aload_n 0, 1) := by decide +kernel
theorem dX9_digest_114 : decode cX9_digest 114 = .ok (.getfield 40, 3) := by decide +kernel
theorem dX9_digest_117 : decode cX9_digest 117 = .ok (.iload 5, 2) := by decide +kernel
theorem dX9_digest_119 : decode cX9_digest 119 = .ok (.iaload, 1) := by decide +kernel
theorem dX9_digest_120 : decode cX9_digest 120 = .ok (.i2l, 1) := by decide +kernel
theorem dX9_digest_121 : decode cX9_digest 121 = .ok (.ladd, 1) := by decide +kernel
theorem dX9_digest_122 : decode cX9_digest 122 = .ok (.lstore_n 1, 1) := by decide +kernel
theorem dX9_digest_123 : decode cX9_digest 123 = .ok (.iconst 0, 1) := by decide +kernel
theorem dX9_digest_124 : decode cX9_digest 124 = .ok (.istore 6, 2) := by decide +kernel
theorem dX9_digest_126 : decode cX9_digest 126 = .ok (.iload 6, 2) := by decide +kernel
theorem dX9_digest_128 : decode cX9_digest 128 = .ok (.iconst 4, 1) := by decide +kernel
theorem dX9_digest_129 : decode cX9_digest 129 = .ok (.if_icmp .ge 31, 3) := by decide +kernel
theorem dX9_digest_132 : decode cX9_digest 132 = .ok (.ldc2_w 252, 3) := by decide +kernel
theorem dX9_digest_135 : decode cX9_digest 135 = .ok (.lload_n 1, 1) := by decide +kernel
theorem dX9_digest_136 : decode cX9_digest 136 = .ok (.lmul, 1) := by decide +kernel
theorem dX9_digest_137 : decode cX9_digest 137 = .ok (.aload_n 0, 1) := by decide +kernel
theorem dX9_digest_138 : decode cX9_digest 138 = .ok (.iload_n 3, 1) := by decide +kernel
theorem dX9_digest_139 : decode cX9_digest 139 = .ok (.aload_n 0, 1) := by decide +kernel
theorem dX9_digest_140 : decode cX9_digest 140 = .ok (.getfield 40, 3) := by decide +kernel
theorem dX9_digest_143 : decode cX9_digest 143 = .ok (.iload 5, 2) := by decide +kernel
theorem dX9_digest_145 : decode cX9_digest 145 = .ok (.iaload, 1) := by decide +kernel
theorem dX9_digest_146 : decode cX9_digest 146 = .ok (.iload 6, 2) := by decide +kernel
theorem dX9_digest_148 : decode cX9_digest 148 = .ok (.invokevirtual 186, 3) := by decide +kernel
theorem dX9_digest_151 : decode cX9_digest 151 = .ok (.i2l, 1) := by decide +kernel
theorem dX9_digest_152 : decode cX9_digest 152 = .ok (.ladd, 1) := by decide +kernel
theorem dX9_digest_153 : decode cX9_digest 153 = .ok (.lstore_n 1, 1) := by decide +kernel
theorem dX9_digest_154 : decode cX9_digest 154 = .ok (.iinc 6 1, 3) := by decide +kernel
theorem dX9_digest_157 : decode cX9_digest 157 = .ok (.goto (-31), 3) := by decide +kernel
theorem dX9_digest_160 : decode cX9_digest 160 = .ok (.iinc 5 1, 3) := by decide +kernel
theorem dX9_digest_163 : decode cX9_digest 163 = .ok (.goto (-62), 3) := by decide +kernel
theorem dX9_digest_166 : decode cX9_digest 166 = .ok (.iinc 3 1, 3) := by decide +kernel
theorem dX9_digest_169 : decode cX9_digest 169 = .ok (.goto (-107), 3) := by decide +kernel
theorem dX9_digest_172 : decode cX9_digest 172 = .ok (.ldc2_w 252, 3) := by decide +kernel
theorem dX9_digest_175 : decode cX9_digest 175 = .ok (.lload_n 1, 1) := by decide +kernel
theorem dX9_digest_176 : decode cX9_digest 176 = .ok (.lmul, 1) := by decide +kernel
theorem dX9_digest_177 : decode cX9_digest 177 = .ok (.aload_n 0, 1) := by decide +kernel
theorem dX9_digest_178 : decode cX9_digest 178 = .ok (.getfield 145, 3) := by decide +kernel
theorem dX9_digest_181 : decode cX9_digest 181 = .ok (.i2l, 1) := by decide +kernel
theorem dX9_digest_182 : decode cX9_digest 182 = .ok (.ladd, 1) := by decide +kernel
theorem dX9_digest_183 : decode cX9_digest 183 = .ok (.lstore_n 1, 1) := by decide +kernel
theorem dX9_digest_184 : decode cX9_digest 184 = .ok (.iconst 0, 1) := by decide +kernel
theorem dX9_digest_185 : decode cX9_digest 185 = .ok (.istore_n 3, 1) := by decide +kernel
theorem dX9_digest_186 : decode cX9_digest 186 = .ok (.iload_n 3, 1) := by decide +kernel
theorem dX9_digest_187 : decode cX9_digest 187 = .ok (.iconst 3, 1) := by decide +kernel
theorem dX9_digest_188 : decode cX9_digest 188 = .ok (.aload_n 0, 1) := by decide +kernel
theorem dX9_digest_189 : decode cX9_digest 189 = .ok (.getfield 145, 3) := by decide +kernel
theorem dX9_digest_192 : decode cX9_digest 192 = .ok (.imul, 1) := by decide +kernel
theorem dX9_digest_193 : decode cX9_digest 193 = .ok (.if_icmp .ge 23, 3) := by decide +kernel
theorem dX9_digest_196 : decode cX9_digest 196 = .ok (.ldc2_w 252, 3) := by decide +kernel
theorem dX9_digest_199 : decode cX9_digest 199 = .ok (.lload_n 1, 1) := by decide +kernel
theorem dX9_digest_200 : decode cX9_digest 200 = .ok (.lmul, 1) := by decide +kernel
theorem dX9_digest_201 : decode cX9_digest 201 = .ok (.aload_n 0, 1) := by decide +kernel
theorem dX9_digest_202 : decode cX9_digest 202 = .ok (.getfield 37, 3) := by decide +kernel
theorem dX9_digest_205 : decode cX9_digest 205 = .ok (.iload_n 3, 1) := by decide +kernel
theorem dX9_digest_206 : decode cX9_digest 206 = .ok (.iaload, 1) := by decide +kernel
theorem dX9_digest_207 : decode cX9_digest 207 = .ok (.i2l, 1) := by decide +kernel
theorem dX9_digest_208 : decode cX9_digest 208 = .ok (.ladd, 1) := by decide +kernel
theorem dX9_digest_209 : decode cX9_digest 209 = .ok (.lstore_n 1, 1) := by decide +kernel
theorem dX9_digest_210 : decode cX9_digest 210 = .ok (.iinc 3 1, 3) := by decide +kernel
theorem dX9_digest_213 : decode cX9_digest 213 = .ok (.goto (-27), 3) := by decide +kernel
theorem dX9_digest_216 : decode cX9_digest 216 = .ok (.iconst 1, 1) := by decide +kernel
theorem dX9_digest_217 : decode cX9_digest 217 = .ok (.istore_n 3, 1) := by decide +kernel
theorem dX9_digest_218 : decode cX9_digest 218 = .ok (.iload_n 3, 1) := by decide +kernel
theorem dX9_digest_219 : decode cX9_digest 219 = .ok (.iconst 3, 1) := by decide +kernel
theorem dX9_digest_220 : decode cX9_digest 220 = .ok (.if_icmp .ge 26, 3) := by decide +kernel
theorem dX9_digest_223 : decode cX9_digest 223 = .ok (.aload_n 0, 1) := by decide +kernel
theorem dX9_digest_224 : decode cX9_digest 224 = .ok (.iload_n 3, 1) := by decide +kernel
theorem dX9_digest_225 : decode cX9_digest 225 = .ok (.invokevirtual 202, 3) := by decide +kernel
theorem dX9_digest_228 : decode cX9_digest 228 = .ok (.ldc2_w 252, 3) := by decide +kernel
theorem dX9_digest_231 : decode cX9_digest 231 = .ok (.lload_n 1, 1) := by decide +kernel
theorem dX9_digest_232 : decode cX9_digest 232 = .ok (.lmul, 1) := by decide +kernel
theorem dX9_digest_233 : decode cX9_digest 233 = .ok (.aload_n 0, 1) := by decide +kernel
theorem dX9_digest_234 : decode cX9_digest 234 = .ok (.getfield 196, 3) := by decide +kernel
theorem dX9_digest_237 : decode cX9_digest 237 = .ok (.i2l, 1) := by decide +kernel
theorem dX9_digest_238 : decode cX9_digest 238 = .ok (.ladd, 1) := by decide +kernel
theorem dX9_digest_239 : decode cX9_digest 239 = .ok (.lstore_n 1, 1) := by decide +kernel
theorem dX9_digest_240 : decode cX9_digest 240 = .ok (.iinc 3 1, 3) := by decide +kernel
theorem dX9_digest_243 : decode cX9_digest 243 = .ok (.goto (-25), 3) := by decide +kernel
theorem dX9_digest_246 : decode cX9_digest 246 = .ok (.lload_n 1, 1) := by decide +kernel
theorem dX9_digest_247 : decode cX9_digest 247 = .ok (.lreturn, 1) := by decide +kernel
theorem dJ6_bitCount_0f7a4_0 : decode cJ6_bitCount_0f7a4 0 = .ok (.iload_n 0, 1) := by decide +kernel
theorem dJ6_bitCount_0f7a4_1 : decode cJ6_bitCount_0f7a4 1 = .ok (.iload_n 0, 1) := by decide +kernel
theorem dJ6_bitCount_0f7a4_2 : decode cJ6_bitCount_0f7a4 2 = .ok (.iconst 1, 1) := by decide +kernel
theorem dJ6_bitCount_0f7a4_3 : decode cJ6_bitCount_0f7a4 3 = .ok (.iushr, 1) := by decide +kernel
theorem dJ6_bitCount_0f7a4_4 : decode cJ6_bitCount_0f7a4 4 = .ok (.ldc_w 265, 3) := by decide +kernel
theorem dJ6_bitCount_0f7a4_7 : decode cJ6_bitCount_0f7a4 7 = .ok (.iand, 1) := by decide +kernel
theorem dJ6_bitCount_0f7a4_8 : decode cJ6_bitCount_0f7a4 8 = .ok (.isub, 1) := by decide +kernel
theorem dJ6_bitCount_0f7a4_9 : decode cJ6_bitCount_0f7a4 9 = .ok (.istore_n 0, 1) := by decide +kernel
theorem dJ6_bitCount_0f7a4_10 : decode cJ6_bitCount_0f7a4 10 = .ok (.iload_n 0, 1) := by decide +kernel
theorem dJ6_bitCount_0f7a4_11 : decode cJ6_bitCount_0f7a4 11 = .ok (.ldc_w 266, 3) := by decide +kernel
theorem dJ6_bitCount_0f7a4_14 : decode cJ6_bitCount_0f7a4 14 = .ok (.iand, 1) := by decide +kernel
theorem dJ6_bitCount_0f7a4_15 : decode cJ6_bitCount_0f7a4 15 = .ok (.iload_n 0, 1) := by decide +kernel
theorem dJ6_bitCount_0f7a4_16 : decode cJ6_bitCount_0f7a4 16 = .ok (.iconst 2, 1) := by decide +kernel
theorem dJ6_bitCount_0f7a4_17 : decode cJ6_bitCount_0f7a4 17 = .ok (.iushr, 1) := by decide +kernel
theorem dJ6_bitCount_0f7a4_18 : decode cJ6_bitCount_0f7a4 18 = .ok (.ldc_w 266, 3) := by decide +kernel
theorem dJ6_bitCount_0f7a4_21 : decode cJ6_bitCount_0f7a4 21 = .ok (.iand, 1) := by decide +kernel
theorem dJ6_bitCount_0f7a4_22 : decode cJ6_bitCount_0f7a4 22 = .ok (.iadd, 1) := by decide +kernel
theorem dJ6_bitCount_0f7a4_23 : decode cJ6_bitCount_0f7a4 23 = .ok (.istore_n 0, 1) := by decide +kernel
theorem dJ6_bitCount_0f7a4_24 : decode cJ6_bitCount_0f7a4 24 = .ok (.iload_n 0, 1) := by decide +kernel
theorem dJ6_bitCount_0f7a4_25 : decode cJ6_bitCount_0f7a4 25 = .ok (.iload_n 0, 1) := by decide +kernel
theorem dJ6_bitCount_0f7a4_26 : decode cJ6_bitCount_0f7a4 26 = .ok (.iconst 4, 1) := by decide +kernel
theorem dJ6_bitCount_0f7a4_27 : decode cJ6_bitCount_0f7a4 27 = .ok (.iushr, 1) := by decide +kernel
theorem dJ6_bitCount_0f7a4_28 : decode cJ6_bitCount_0f7a4 28 = .ok (.iadd, 1) := by decide +kernel
theorem dJ6_bitCount_0f7a4_29 : decode cJ6_bitCount_0f7a4 29 = .ok (.ldc_w 267, 3) := by decide +kernel
theorem dJ6_bitCount_0f7a4_32 : decode cJ6_bitCount_0f7a4 32 = .ok (.iand, 1) := by decide +kernel
theorem dJ6_bitCount_0f7a4_33 : decode cJ6_bitCount_0f7a4 33 = .ok (.istore_n 0, 1) := by decide +kernel
theorem dJ6_bitCount_0f7a4_34 : decode cJ6_bitCount_0f7a4 34 = .ok (.iload_n 0, 1) := by decide +kernel
theorem dJ6_bitCount_0f7a4_35 : decode cJ6_bitCount_0f7a4 35 = .ok (.iload_n 0, 1) := by decide +kernel
theorem dJ6_bitCount_0f7a4_36 : decode cJ6_bitCount_0f7a4 36 = .ok (.bipush 8, 2) := by decide +kernel
theorem dJ6_bitCount_0f7a4_38 : decode cJ6_bitCount_0f7a4 38 = .ok (.iushr, 1) := by decide +kernel
theorem dJ6_bitCount_0f7a4_39 : decode cJ6_bitCount_0f7a4 39 = .ok (.iadd, 1) := by decide +kernel
theorem dJ6_bitCount_0f7a4_40 : decode cJ6_bitCount_0f7a4 40 = .ok (.istore_n 0, 1) := by decide +kernel
theorem dJ6_bitCount_0f7a4_41 : decode cJ6_bitCount_0f7a4 41 = .ok (.iload_n 0, 1) := by decide +kernel
theorem dJ6_bitCount_0f7a4_42 : decode cJ6_bitCount_0f7a4 42 = .ok (.iload_n 0, 1) := by decide +kernel
theorem dJ6_bitCount_0f7a4_43 : decode cJ6_bitCount_0f7a4 43 = .ok (.bipush 16, 2) := by decide +kernel
theorem dJ6_bitCount_0f7a4_45 : decode cJ6_bitCount_0f7a4 45 = .ok (.iushr, 1) := by decide +kernel
theorem dJ6_bitCount_0f7a4_46 : decode cJ6_bitCount_0f7a4 46 = .ok (.iadd, 1) := by decide +kernel
theorem dJ6_bitCount_0f7a4_47 : decode cJ6_bitCount_0f7a4 47 = .ok (.istore_n 0, 1) := by decide +kernel
theorem dJ6_bitCount_0f7a4_48 : decode cJ6_bitCount_0f7a4 48 = .ok (.iload_n 0, 1) := by decide +kernel
theorem dJ6_bitCount_0f7a4_49 : decode cJ6_bitCount_0f7a4 49 = .ok (.bipush 63, 2) := by decide +kernel
theorem dJ6_bitCount_0f7a4_51 : decode cJ6_bitCount_0f7a4 51 = .ok (.iand, 1) := by decide +kernel
theorem dJ6_bitCount_0f7a4_52 : decode cJ6_bitCount_0f7a4 52 = .ok (.ireturn, 1) := by decide +kernel
theorem dJ9_max_7cf53_0 : decode cJ9_max_7cf53 0 = .ok (.iload_n 0, 1) := by decide +kernel
theorem dJ9_max_7cf53_1 : decode cJ9_max_7cf53 1 = .ok (.iload_n 1, 1) := by decide +kernel
theorem dJ9_max_7cf53_2 : decode cJ9_max_7cf53 2 = .ok (.if_icmp .lt 7, 3) := by decide +kernel
theorem dJ9_max_7cf53_5 : decode cJ9_max_7cf53 5 = .ok (.iload_n 0, 1) := by decide +kernel
theorem dJ9_max_7cf53_6 : decode cJ9_max_7cf53 6 = .ok (.goto 4, 3) := by decide +kernel
theorem dJ9_max_7cf53_9 : decode cJ9_max_7cf53 9 = .ok (.iload_n 1, 1) := by decide +kernel
theorem dJ9_max_7cf53_10 : decode cJ9_max_7cf53 10 = .ok (.ireturn, 1) := by decide +kernel
theorem dJ9_min_7cf53_0 : decode cJ9_min_7cf53 0 = .ok (.iload_n 0, 1) := by decide +kernel
theorem dJ9_min_7cf53_1 : decode cJ9_min_7cf53 1 = .ok (.iload_n 1, 1) := by decide +kernel
theorem dJ9_min_7cf53_2 : decode cJ9_min_7cf53 2 = .ok (.if_icmp .gt 7, 3) := by decide +kernel
theorem dJ9_min_7cf53_5 : decode cJ9_min_7cf53 5 = .ok (.iload_n 0, 1) := by decide +kernel
theorem dJ9_min_7cf53_6 : decode cJ9_min_7cf53 6 = .ok (.goto 4, 3) := by decide +kernel
theorem dJ9_min_7cf53_9 : decode cJ9_min_7cf53 9 = .ok (.iload_n 1, 1) := by decide +kernel
theorem dJ9_min_7cf53_10 : decode cJ9_min_7cf53 10 = .ok (.ireturn, 1) := by decide +kernel
theorem dL_law_0 : decode cL_law 0 = .ok (.new 7, 3) := by decide +kernel
theorem dL_law_3 : decode cL_law 3 = .ok (.dup, 1) := by decide +kernel
theorem dL_law_4 : decode cL_law 4 = .ok (.invokespecial 9, 3) := by decide +kernel
theorem dL_law_7 : decode cL_law 7 = .ok (.astore_n 1, 1) := by decide +kernel
theorem dL_law_8 : decode cL_law 8 = .ok (.new 10, 3) := by decide +kernel
theorem dL_law_11 : decode cL_law 11 = .ok (.dup, 1) := by decide +kernel
theorem dL_law_12 : decode cL_law 12 = .ok (.invokespecial 12, 3) := by decide +kernel
theorem dL_law_15 : decode cL_law 15 = .ok (.astore_n 2, 1) := by decide +kernel
theorem dL_law_16 : decode cL_law 16 = .ok (.iconst 0, 1) := by decide +kernel
theorem dL_law_17 : decode cL_law 17 = .ok (.istore_n 3, 1) := by decide +kernel
theorem dL_law_18 : decode cL_law 18 = .ok (.iload_n 3, 1) := by decide +kernel
theorem dL_law_19 : decode cL_law 19 = .ok (.aload_n 0, 1) := by decide +kernel
theorem dL_law_20 : decode cL_law 20 = .ok (.arraylength, 1) := by decide +kernel
theorem dL_law_21 : decode cL_law 21 = .ok (.bipush 6, 2) := by decide +kernel
theorem dL_law_23 : decode cL_law 23 = .ok (.isub, 1) := by decide +kernel
theorem dL_law_24 : decode cL_law 24 = .ok (.if_icmp .gt 812, 3) := by decide +kernel
theorem dL_law_27 : decode cL_law 27 = .ok (.aload_n 0, 1) := by decide +kernel
theorem dL_law_28 : decode cL_law 28 = .ok (.iload_n 3, 1) := by decide +kernel
theorem dL_law_29 : decode cL_law 29 = .ok (.iaload, 1) := by decide +kernel
theorem dL_law_30 : decode cL_law 30 = .ok (.bipush 31, 2) := by decide +kernel
theorem dL_law_32 : decode cL_law 32 = .ok (.iand, 1) := by decide +kernel
theorem dL_law_33 : decode cL_law 33 = .ok (.tableswitch 797 0 22 #[107, 170, 223, 266, 309, 342, 355, 378, 391, 424, 467, 500, 533, 566, 599, 642, 675, 698, 721, 734, 747, 760, 783], 107) := by decide +kernel
theorem dL_law_140 : decode cL_law 140 = .ok (.aload_n 1, 1) := by decide +kernel
theorem dL_law_141 : decode cL_law 141 = .ok (.aload_n 0, 1) := by decide +kernel
theorem dL_law_142 : decode cL_law 142 = .ok (.iload_n 3, 1) := by decide +kernel
theorem dL_law_143 : decode cL_law 143 = .ok (.iconst 1, 1) := by decide +kernel
theorem dL_law_144 : decode cL_law 144 = .ok (.iadd, 1) := by decide +kernel
theorem dL_law_145 : decode cL_law 145 = .ok (.iaload, 1) := by decide +kernel
theorem dL_law_146 : decode cL_law 146 = .ok (.aload_n 0, 1) := by decide +kernel
theorem dL_law_147 : decode cL_law 147 = .ok (.iload_n 3, 1) := by decide +kernel
theorem dL_law_148 : decode cL_law 148 = .ok (.iconst 2, 1) := by decide +kernel
theorem dL_law_149 : decode cL_law 149 = .ok (.iadd, 1) := by decide +kernel
theorem dL_law_150 : decode cL_law 150 = .ok (.iaload, 1) := by decide +kernel
theorem dL_law_151 : decode cL_law 151 = .ok (.aload_n 0, 1) := by decide +kernel
theorem dL_law_152 : decode cL_law 152 = .ok (.iload_n 3, 1) := by decide +kernel
theorem dL_law_153 : decode cL_law 153 = .ok (.iconst 3, 1) := by decide +kernel
theorem dL_law_154 : decode cL_law 154 = .ok (.iadd, 1) := by decide +kernel
theorem dL_law_155 : decode cL_law 155 = .ok (.iaload, 1) := by decide +kernel
theorem dL_law_156 : decode cL_law 156 = .ok (.aload_n 0, 1) := by decide +kernel
theorem dL_law_157 : decode cL_law 157 = .ok (.iload_n 3, 1) := by decide +kernel
theorem dL_law_158 : decode cL_law 158 = .ok (.iconst 4, 1) := by decide +kernel
theorem dL_law_159 : decode cL_law 159 = .ok (.iadd, 1) := by decide +kernel
theorem dL_law_160 : decode cL_law 160 = .ok (.iaload, 1) := by decide +kernel
theorem dL_law_161 : decode cL_law 161 = .ok (.aload_n 0, 1) := by decide +kernel
theorem dL_law_162 : decode cL_law 162 = .ok (.iload_n 3, 1) := by decide +kernel
theorem dL_law_163 : decode cL_law 163 = .ok (.iconst 5, 1) := by decide +kernel
theorem dL_law_164 : decode cL_law 164 = .ok (.iadd, 1) := by decide +kernel
theorem dL_law_165 : decode cL_law 165 = .ok (.iaload, 1) := by decide +kernel
theorem dL_law_166 : decode cL_law 166 = .ok (.invokevirtual 13, 3) := by decide +kernel
theorem dL_law_169 : decode cL_law 169 = .ok (.aload_n 2, 1) := by decide +kernel
theorem dL_law_170 : decode cL_law 170 = .ok (.aload_n 0, 1) := by decide +kernel
theorem dL_law_171 : decode cL_law 171 = .ok (.iload_n 3, 1) := by decide +kernel
theorem dL_law_172 : decode cL_law 172 = .ok (.iconst 1, 1) := by decide +kernel
theorem dL_law_173 : decode cL_law 173 = .ok (.iadd, 1) := by decide +kernel
theorem dL_law_174 : decode cL_law 174 = .ok (.iaload, 1) := by decide +kernel
theorem dL_law_175 : decode cL_law 175 = .ok (.aload_n 0, 1) := by decide +kernel
theorem dL_law_176 : decode cL_law 176 = .ok (.iload_n 3, 1) := by decide +kernel
theorem dL_law_177 : decode cL_law 177 = .ok (.iconst 2, 1) := by decide +kernel
theorem dL_law_178 : decode cL_law 178 = .ok (.iadd, 1) := by decide +kernel
theorem dL_law_179 : decode cL_law 179 = .ok (.iaload, 1) := by decide +kernel
theorem dL_law_180 : decode cL_law 180 = .ok (.aload_n 0, 1) := by decide +kernel
theorem dL_law_181 : decode cL_law 181 = .ok (.iload_n 3, 1) := by decide +kernel
theorem dL_law_182 : decode cL_law 182 = .ok (.iconst 3, 1) := by decide +kernel
theorem dL_law_183 : decode cL_law 183 = .ok (.iadd, 1) := by decide +kernel
theorem dL_law_184 : decode cL_law 184 = .ok (.iaload, 1) := by decide +kernel
theorem dL_law_185 : decode cL_law 185 = .ok (.aload_n 0, 1) := by decide +kernel
theorem dL_law_186 : decode cL_law 186 = .ok (.iload_n 3, 1) := by decide +kernel
theorem dL_law_187 : decode cL_law 187 = .ok (.iconst 4, 1) := by decide +kernel
theorem dL_law_188 : decode cL_law 188 = .ok (.iadd, 1) := by decide +kernel
theorem dL_law_189 : decode cL_law 189 = .ok (.iaload, 1) := by decide +kernel
theorem dL_law_190 : decode cL_law 190 = .ok (.aload_n 0, 1) := by decide +kernel
theorem dL_law_191 : decode cL_law 191 = .ok (.iload_n 3, 1) := by decide +kernel
theorem dL_law_192 : decode cL_law 192 = .ok (.iconst 5, 1) := by decide +kernel
theorem dL_law_193 : decode cL_law 193 = .ok (.iadd, 1) := by decide +kernel
theorem dL_law_194 : decode cL_law 194 = .ok (.iaload, 1) := by decide +kernel
theorem dL_law_195 : decode cL_law 195 = .ok (.invokevirtual 17, 3) := by decide +kernel
theorem dL_law_198 : decode cL_law 198 = .ok (.if_icmp .eq 632, 3) := by decide +kernel
theorem dL_law_201 : decode cL_law 201 = .ok (.iconst 0, 1) := by decide +kernel
theorem dL_law_202 : decode cL_law 202 = .ok (.ireturn, 1) := by decide +kernel
theorem dL_law_203 : decode cL_law 203 = .ok (.aload_n 1, 1) := by decide +kernel
theorem dL_law_204 : decode cL_law 204 = .ok (.aload_n 0, 1) := by decide +kernel
theorem dL_law_205 : decode cL_law 205 = .ok (.iload_n 3, 1) := by decide +kernel
theorem dL_law_206 : decode cL_law 206 = .ok (.iconst 1, 1) := by decide +kernel
theorem dL_law_207 : decode cL_law 207 = .ok (.iadd, 1) := by decide +kernel
theorem dL_law_208 : decode cL_law 208 = .ok (.iaload, 1) := by decide +kernel
theorem dL_law_209 : decode cL_law 209 = .ok (.aload_n 0, 1) := by decide +kernel
theorem dL_law_210 : decode cL_law 210 = .ok (.iload_n 3, 1) := by decide +kernel
theorem dL_law_211 : decode cL_law 211 = .ok (.iconst 2, 1) := by decide +kernel
theorem dL_law_212 : decode cL_law 212 = .ok (.iadd, 1) := by decide +kernel
theorem dL_law_213 : decode cL_law 213 = .ok (.iaload, 1) := by decide +kernel
theorem dL_law_214 : decode cL_law 214 = .ok (.aload_n 0, 1) := by decide +kernel
theorem dL_law_215 : decode cL_law 215 = .ok (.iload_n 3, 1) := by decide +kernel
theorem dL_law_216 : decode cL_law 216 = .ok (.iconst 3, 1) := by decide +kernel
theorem dL_law_217 : decode cL_law 217 = .ok (.iadd, 1) := by decide +kernel
theorem dL_law_218 : decode cL_law 218 = .ok (.iaload, 1) := by decide +kernel
theorem dL_law_219 : decode cL_law 219 = .ok (.aload_n 0, 1) := by decide +kernel
theorem dL_law_220 : decode cL_law 220 = .ok (.iload_n 3, 1) := by decide +kernel
theorem dL_law_221 : decode cL_law 221 = .ok (.iconst 4, 1) := by decide +kernel
theorem dL_law_222 : decode cL_law 222 = .ok (.iadd, 1) := by decide +kernel
theorem dL_law_223 : decode cL_law 223 = .ok (.iaload, 1) := by decide +kernel
theorem dL_law_224 : decode cL_law 224 = .ok (.invokevirtual 18, 3) := by decide +kernel
theorem dL_law_227 : decode cL_law 227 = .ok (.aload_n 2, 1) := by decide +kernel
theorem dL_law_228 : decode cL_law 228 = .ok (.aload_n 0, 1) := by decide +kernel
theorem dL_law_229 : decode cL_law 229 = .ok (.iload_n 3, 1) := by decide +kernel
theorem dL_law_230 : decode cL_law 230 = .ok (.iconst 1, 1) := by decide +kernel
theorem dL_law_231 : decode cL_law 231 = .ok (.iadd, 1) := by decide +kernel
theorem dL_law_232 : decode cL_law 232 = .ok (.iaload, 1) := by decide +kernel
theorem dL_law_233 : decode cL_law 233 = .ok (.aload_n 0, 1) := by decide +kernel
theorem dL_law_234 : decode cL_law 234 = .ok (.iload_n 3, 1) := by decide +kernel
theorem dL_law_235 : decode cL_law 235 = .ok (.iconst 2, 1) := by decide +kernel
theorem dL_law_236 : decode cL_law 236 = .ok (.iadd, 1) := by decide +kernel
theorem dL_law_237 : decode cL_law 237 = .ok (.iaload, 1) := by decide +kernel
theorem dL_law_238 : decode cL_law 238 = .ok (.aload_n 0, 1) := by decide +kernel
theorem dL_law_239 : decode cL_law 239 = .ok (.iload_n 3, 1) := by decide +kernel
theorem dL_law_240 : decode cL_law 240 = .ok (.iconst 3, 1) := by decide +kernel
theorem dL_law_241 : decode cL_law 241 = .ok (.iadd, 1) := by decide +kernel
theorem dL_law_242 : decode cL_law 242 = .ok (.iaload, 1) := by decide +kernel
theorem dL_law_243 : decode cL_law 243 = .ok (.aload_n 0, 1) := by decide +kernel
theorem dL_law_244 : decode cL_law 244 = .ok (.iload_n 3, 1) := by decide +kernel
theorem dL_law_245 : decode cL_law 245 = .ok (.iconst 4, 1) := by decide +kernel
theorem dL_law_246 : decode cL_law 246 = .ok (.iadd, 1) := by decide +kernel
theorem dL_law_247 : decode cL_law 247 = .ok (.iaload, 1) := by decide +kernel
theorem dL_law_248 : decode cL_law 248 = .ok (.invokevirtual 22, 3) := by decide +kernel
theorem dL_law_251 : decode cL_law 251 = .ok (.if_icmp .eq 579, 3) := by decide +kernel
theorem dL_law_254 : decode cL_law 254 = .ok (.iconst 0, 1) := by decide +kernel
theorem dL_law_255 : decode cL_law 255 = .ok (.ireturn, 1) := by decide +kernel
theorem dL_law_256 : decode cL_law 256 = .ok (.aload_n 1, 1) := by decide +kernel
theorem dL_law_257 : decode cL_law 257 = .ok (.aload_n 0, 1) := by decide +kernel
theorem dL_law_258 : decode cL_law 258 = .ok (.iload_n 3, 1) := by decide +kernel
theorem dL_law_259 : decode cL_law 259 = .ok (.iconst 1, 1) := by decide +kernel
theorem dL_law_260 : decode cL_law 260 = .ok (.iadd, 1) := by decide +kernel
theorem dL_law_261 : decode cL_law 261 = .ok (.iaload, 1) := by decide +kernel
theorem dL_law_262 : decode cL_law 262 = .ok (.aload_n 0, 1) := by decide +kernel
theorem dL_law_263 : decode cL_law 263 = .ok (.iload_n 3, 1) := by decide +kernel
theorem dL_law_264 : decode cL_law 264 = .ok (.iconst 2, 1) := by decide +kernel
theorem dL_law_265 : decode cL_law 265 = .ok (.iadd, 1) := by decide +kernel
theorem dL_law_266 : decode cL_law 266 = .ok (.iaload, 1) := by decide +kernel
theorem dL_law_267 : decode cL_law 267 = .ok (.aload_n 0, 1) := by decide +kernel
theorem dL_law_268 : decode cL_law 268 = .ok (.iload_n 3, 1) := by decide +kernel
theorem dL_law_269 : decode cL_law 269 = .ok (.iconst 3, 1) := by decide +kernel
theorem dL_law_270 : decode cL_law 270 = .ok (.iadd, 1) := by decide +kernel
theorem dL_law_271 : decode cL_law 271 = .ok (.iaload, 1) := by decide +kernel
theorem dL_law_272 : decode cL_law 272 = .ok (.invokevirtual 23, 3) := by decide +kernel
theorem dL_law_275 : decode cL_law 275 = .ok (.aload_n 2, 1) := by decide +kernel
theorem dL_law_276 : decode cL_law 276 = .ok (.aload_n 0, 1) := by decide +kernel
theorem dL_law_277 : decode cL_law 277 = .ok (.iload_n 3, 1) := by decide +kernel
theorem dL_law_278 : decode cL_law 278 = .ok (.iconst 1, 1) := by decide +kernel
theorem dL_law_279 : decode cL_law 279 = .ok (.iadd, 1) := by decide +kernel
theorem dL_law_280 : decode cL_law 280 = .ok (.iaload, 1) := by decide +kernel
theorem dL_law_281 : decode cL_law 281 = .ok (.aload_n 0, 1) := by decide +kernel
theorem dL_law_282 : decode cL_law 282 = .ok (.iload_n 3, 1) := by decide +kernel
theorem dL_law_283 : decode cL_law 283 = .ok (.iconst 2, 1) := by decide +kernel
theorem dL_law_284 : decode cL_law 284 = .ok (.iadd, 1) := by decide +kernel
theorem dL_law_285 : decode cL_law 285 = .ok (.iaload, 1) := by decide +kernel
theorem dL_law_286 : decode cL_law 286 = .ok (.aload_n 0, 1) := by decide +kernel
theorem dL_law_287 : decode cL_law 287 = .ok (.iload_n 3, 1) := by decide +kernel
theorem dL_law_288 : decode cL_law 288 = .ok (.iconst 3, 1) := by decide +kernel
theorem dL_law_289 : decode cL_law 289 = .ok (.iadd, 1) := by decide +kernel
theorem dL_law_290 : decode cL_law 290 = .ok (.iaload, 1) := by decide +kernel
theorem dL_law_291 : decode cL_law 291 = .ok (.invokevirtual 27, 3) := by decide +kernel
theorem dL_law_294 : decode cL_law 294 = .ok (.if_icmp .eq 536, 3) := by decide +kernel
theorem dL_law_297 : decode cL_law 297 = .ok (.iconst 0, 1) := by decide +kernel
theorem dL_law_298 : decode cL_law 298 = .ok (.ireturn, 1) := by decide +kernel
theorem dL_law_299 : decode cL_law 299 = .ok (.aload_n 1, 1) := by decide +kernel
theorem dL_law_300 : decode cL_law 300 = .ok (.aload_n 0, 1) := by decide +kernel
theorem dL_law_301 : decode cL_law 301 = .ok (.iload_n 3, 1) := by decide +kernel
theorem dL_law_302 : decode cL_law 302 = .ok (.iconst 1, 1) := by decide +kernel
theorem dL_law_303 : decode cL_law 303 = .ok (.iadd, 1) := by decide +kernel
theorem dL_law_304 : decode cL_law 304 = .ok (.iaload, 1) := by decide +kernel
theorem dL_law_305 : decode cL_law 305 = .ok (.aload_n 0, 1) := by decide +kernel
theorem dL_law_306 : decode cL_law 306 = .ok (.iload_n 3, 1) := by decide +kernel
theorem dL_law_307 : decode cL_law 307 = .ok (.iconst 2, 1) := by decide +kernel
theorem dL_law_308 : decode cL_law 308 = .ok (.iadd, 1) := by decide +kernel
theorem dL_law_309 : decode cL_law 309 = .ok (.iaload, 1) := by decide +kernel
theorem dL_law_310 : decode cL_law 310 = .ok (.aload_n 0, 1) := by decide +kernel
theorem dL_law_311 : decode cL_law 311 = .ok (.iload_n 3, 1) := by decide +kernel
theorem dL_law_312 : decode cL_law 312 = .ok (.iconst 3, 1) := by decide +kernel
theorem dL_law_313 : decode cL_law 313 = .ok (.iadd, 1) := by decide +kernel
theorem dL_law_314 : decode cL_law 314 = .ok (.iaload, 1) := by decide +kernel
theorem dL_law_315 : decode cL_law 315 = .ok (.invokevirtual 28, 3) := by decide +kernel
theorem dL_law_318 : decode cL_law 318 = .ok (.aload_n 2, 1) := by decide +kernel
theorem dL_law_319 : decode cL_law 319 = .ok (.aload_n 0, 1) := by decide +kernel
theorem dL_law_320 : decode cL_law 320 = .ok (.iload_n 3, 1) := by decide +kernel
theorem dL_law_321 : decode cL_law 321 = .ok (.iconst 1, 1) := by decide +kernel
theorem dL_law_322 : decode cL_law 322 = .ok (.iadd, 1) := by decide +kernel
theorem dL_law_323 : decode cL_law 323 = .ok (.iaload, 1) := by decide +kernel
theorem dL_law_324 : decode cL_law 324 = .ok (.aload_n 0, 1) := by decide +kernel
theorem dL_law_325 : decode cL_law 325 = .ok (.iload_n 3, 1) := by decide +kernel
theorem dL_law_326 : decode cL_law 326 = .ok (.iconst 2, 1) := by decide +kernel
theorem dL_law_327 : decode cL_law 327 = .ok (.iadd, 1) := by decide +kernel
theorem dL_law_328 : decode cL_law 328 = .ok (.iaload, 1) := by decide +kernel
theorem dL_law_329 : decode cL_law 329 = .ok (.aload_n 0, 1) := by decide +kernel
theorem dL_law_330 : decode cL_law 330 = .ok (.iload_n 3, 1) := by decide +kernel
theorem dL_law_331 : decode cL_law 331 = .ok (.iconst 3, 1) := by decide +kernel
theorem dL_law_332 : decode cL_law 332 = .ok (.iadd, 1) := by decide +kernel
theorem dL_law_333 : decode cL_law 333 = .ok (.iaload, 1) := by decide +kernel
theorem dL_law_334 : decode cL_law 334 = .ok (.invokevirtual 31, 3) := by decide +kernel
theorem dL_law_337 : decode cL_law 337 = .ok (.if_icmp .eq 493, 3) := by decide +kernel
theorem dL_law_340 : decode cL_law 340 = .ok (.iconst 0, 1) := by decide +kernel
theorem dL_law_341 : decode cL_law 341 = .ok (.ireturn, 1) := by decide +kernel
theorem dL_law_342 : decode cL_law 342 = .ok (.aload_n 1, 1) := by decide +kernel
theorem dL_law_343 : decode cL_law 343 = .ok (.aload_n 0, 1) := by decide +kernel
theorem dL_law_344 : decode cL_law 344 = .ok (.iload_n 3, 1) := by decide +kernel
theorem dL_law_345 : decode cL_law 345 = .ok (.iconst 1, 1) := by decide +kernel
theorem dL_law_346 : decode cL_law 346 = .ok (.iadd, 1) := by decide +kernel
theorem dL_law_347 : decode cL_law 347 = .ok (.iaload, 1) := by decide +kernel
theorem dL_law_348 : decode cL_law 348 = .ok (.aload_n 0, 1) := by decide +kernel
theorem dL_law_349 : decode cL_law 349 = .ok (.iload_n 3, 1) := by decide +kernel
theorem dL_law_350 : decode cL_law 350 = .ok (.iconst 2, 1) := by decide +kernel
theorem dL_law_351 : decode cL_law 351 = .ok (.iadd, 1) := by decide +kernel
theorem dL_law_352 : decode cL_law 352 = .ok (.iaload, 1) := by decide +kernel
theorem dL_law_353 : decode cL_law 353 = .ok (.invokevirtual 32, 3) := by decide +kernel
theorem dL_law_356 : decode cL_law 356 = .ok (.aload_n 2, 1) := by decide +kernel
theorem dL_law_357 : decode cL_law 357 = .ok (.aload_n 0, 1) := by decide +kernel
theorem dL_law_358 : decode cL_law 358 = .ok (.iload_n 3, 1) := by decide +kernel
theorem dL_law_359 : decode cL_law 359 = .ok (.iconst 1, 1) := by decide +kernel
theorem dL_law_360 : decode cL_law 360 = .ok (.iadd, 1) := by decide +kernel
theorem dL_law_361 : decode cL_law 361 = .ok (.iaload, 1) := by decide +kernel
theorem dL_law_362 : decode cL_law 362 = .ok (.aload_n 0, 1) := by decide +kernel
theorem dL_law_363 : decode cL_law 363 = .ok (.iload_n 3, 1) := by decide +kernel
theorem dL_law_364 : decode cL_law 364 = .ok (.iconst 2, 1) := by decide +kernel
theorem dL_law_365 : decode cL_law 365 = .ok (.iadd, 1) := by decide +kernel
theorem dL_law_366 : decode cL_law 366 = .ok (.iaload, 1) := by decide +kernel
theorem dL_law_367 : decode cL_law 367 = .ok (.invokevirtual 36, 3) := by decide +kernel
theorem dL_law_370 : decode cL_law 370 = .ok (.if_icmp .eq 460, 3) := by decide +kernel
theorem dL_law_373 : decode cL_law 373 = .ok (.iconst 0, 1) := by decide +kernel
theorem dL_law_374 : decode cL_law 374 = .ok (.ireturn, 1) := by decide +kernel
theorem dL_law_375 : decode cL_law 375 = .ok (.aload_n 1, 1) := by decide +kernel
theorem dL_law_376 : decode cL_law 376 = .ok (.invokevirtual 37, 3) := by decide +kernel
theorem dL_law_379 : decode cL_law 379 = .ok (.aload_n 2, 1) := by decide +kernel
theorem dL_law_380 : decode cL_law 380 = .ok (.invokevirtual 41, 3) := by decide +kernel
theorem dL_law_383 : decode cL_law 383 = .ok (.if_icmp .eq 447, 3) := by decide +kernel
theorem dL_law_386 : decode cL_law 386 = .ok (.iconst 0, 1) := by decide +kernel
theorem dL_law_387 : decode cL_law 387 = .ok (.ireturn, 1) := by decide +kernel
theorem dL_law_388 : decode cL_law 388 = .ok (.aload_n 1, 1) := by decide +kernel
theorem dL_law_389 : decode cL_law 389 = .ok (.aload_n 0, 1) := by decide +kernel
theorem dL_law_390 : decode cL_law 390 = .ok (.iload_n 3, 1) := by decide +kernel
theorem dL_law_391 : decode cL_law 391 = .ok (.iconst 1, 1) := by decide +kernel
theorem dL_law_392 : decode cL_law 392 = .ok (.iadd, 1) := by decide +kernel
theorem dL_law_393 : decode cL_law 393 = .ok (.iaload, 1) := by decide +kernel
theorem dL_law_394 : decode cL_law 394 = .ok (.invokevirtual 42, 3) := by decide +kernel
theorem dL_law_397 : decode cL_law 397 = .ok (.aload_n 2, 1) := by decide +kernel
theorem dL_law_398 : decode cL_law 398 = .ok (.aload_n 0, 1) := by decide +kernel
theorem dL_law_399 : decode cL_law 399 = .ok (.iload_n 3, 1) := by decide +kernel
theorem dL_law_400 : decode cL_law 400 = .ok (.iconst 1, 1) := by decide +kernel
theorem dL_law_401 : decode cL_law 401 = .ok (.iadd, 1) := by decide +kernel
theorem dL_law_402 : decode cL_law 402 = .ok (.iaload, 1) := by decide +kernel
theorem dL_law_403 : decode cL_law 403 = .ok (.invokevirtual 46, 3) := by decide +kernel
theorem dL_law_406 : decode cL_law 406 = .ok (.if_icmp .eq 424, 3) := by decide +kernel
theorem dL_law_409 : decode cL_law 409 = .ok (.iconst 0, 1) := by decide +kernel
theorem dL_law_410 : decode cL_law 410 = .ok (.ireturn, 1) := by decide +kernel
theorem dL_law_411 : decode cL_law 411 = .ok (.aload_n 1, 1) := by decide +kernel
theorem dL_law_412 : decode cL_law 412 = .ok (.invokevirtual 47, 3) := by decide +kernel
theorem dL_law_415 : decode cL_law 415 = .ok (.aload_n 2, 1) := by decide +kernel
theorem dL_law_416 : decode cL_law 416 = .ok (.invokevirtual 50, 3) := by decide +kernel
theorem dL_law_419 : decode cL_law 419 = .ok (.if_icmp .eq 411, 3) := by decide +kernel
theorem dL_law_422 : decode cL_law 422 = .ok (.iconst 0, 1) := by decide +kernel
theorem dL_law_423 : decode cL_law 423 = .ok (.ireturn, 1) := by decide +kernel
theorem dL_law_424 : decode cL_law 424 = .ok (.aload_n 1, 1) := by decide +kernel
theorem dL_law_425 : decode cL_law 425 = .ok (.aload_n 0, 1) := by decide +kernel
theorem dL_law_426 : decode cL_law 426 = .ok (.iload_n 3, 1) := by decide +kernel
theorem dL_law_427 : decode cL_law 427 = .ok (.iconst 1, 1) := by decide +kernel
theorem dL_law_428 : decode cL_law 428 = .ok (.iadd, 1) := by decide +kernel
theorem dL_law_429 : decode cL_law 429 = .ok (.iaload, 1) := by decide +kernel
theorem dL_law_430 : decode cL_law 430 = .ok (.aload_n 0, 1) := by decide +kernel
theorem dL_law_431 : decode cL_law 431 = .ok (.iload_n 3, 1) := by decide +kernel
theorem dL_law_432 : decode cL_law 432 = .ok (.iconst 2, 1) := by decide +kernel
theorem dL_law_433 : decode cL_law 433 = .ok (.iadd, 1) := by decide +kernel
theorem dL_law_434 : decode cL_law 434 = .ok (.iaload, 1) := by decide +kernel
theorem dL_law_435 : decode cL_law 435 = .ok (.invokevirtual 51, 3) := by decide +kernel
theorem dL_law_438 : decode cL_law 438 = .ok (.aload_n 2, 1) := by decide +kernel
theorem dL_law_439 : decode cL_law 439 = .ok (.aload_n 0, 1) := by decide +kernel
theorem dL_law_440 : decode cL_law 440 = .ok (.iload_n 3, 1) := by decide +kernel
theorem dL_law_441 : decode cL_law 441 = .ok (.iconst 1, 1) := by decide +kernel
theorem dL_law_442 : decode cL_law 442 = .ok (.iadd, 1) := by decide +kernel
theorem dL_law_443 : decode cL_law 443 = .ok (.iaload, 1) := by decide +kernel
theorem dL_law_444 : decode cL_law 444 = .ok (.aload_n 0, 1) := by decide +kernel
theorem dL_law_445 : decode cL_law 445 = .ok (.iload_n 3, 1) := by decide +kernel
theorem dL_law_446 : decode cL_law 446 = .ok (.iconst 2, 1) := by decide +kernel
theorem dL_law_447 : decode cL_law 447 = .ok (.iadd, 1) := by decide +kernel
theorem dL_law_448 : decode cL_law 448 = .ok (.iaload, 1) := by decide +kernel
theorem dL_law_449 : decode cL_law 449 = .ok (.invokevirtual 54, 3) := by decide +kernel
theorem dL_law_452 : decode cL_law 452 = .ok (.if_icmp .eq 378, 3) := by decide +kernel
theorem dL_law_455 : decode cL_law 455 = .ok (.iconst 0, 1) := by decide +kernel
theorem dL_law_456 : decode cL_law 456 = .ok (.ireturn, 1) := by decide +kernel
theorem dL_law_457 : decode cL_law 457 = .ok (.aload_n 1, 1) := by decide +kernel
theorem dL_law_458 : decode cL_law 458 = .ok (.aload_n 0, 1) := by decide +kernel
theorem dL_law_459 : decode cL_law 459 = .ok (.iload_n 3, 1) := by decide +kernel
theorem dL_law_460 : decode cL_law 460 = .ok (.iconst 1, 1) := by decide +kernel
theorem dL_law_461 : decode cL_law 461 = .ok (.iadd, 1) := by decide +kernel
theorem dL_law_462 : decode cL_law 462 = .ok (.iaload, 1) := by decide +kernel
theorem dL_law_463 : decode cL_law 463 = .ok (.aload_n 0, 1) := by decide +kernel
theorem dL_law_464 : decode cL_law 464 = .ok (.iload_n 3, 1) := by decide +kernel
theorem dL_law_465 : decode cL_law 465 = .ok (.iconst 2, 1) := by decide +kernel
theorem dL_law_466 : decode cL_law 466 = .ok (.iadd, 1) := by decide +kernel
theorem dL_law_467 : decode cL_law 467 = .ok (.iaload, 1) := by decide +kernel
theorem dL_law_468 : decode cL_law 468 = .ok (.aload_n 0, 1) := by decide +kernel
theorem dL_law_469 : decode cL_law 469 = .ok (.iload_n 3, 1) := by decide +kernel
theorem dL_law_470 : decode cL_law 470 = .ok (.iconst 3, 1) := by decide +kernel
theorem dL_law_471 : decode cL_law 471 = .ok (.iadd, 1) := by decide +kernel
theorem dL_law_472 : decode cL_law 472 = .ok (.iaload, 1) := by decide +kernel
theorem dL_law_473 : decode cL_law 473 = .ok (.invokevirtual 55, 3) := by decide +kernel
theorem dL_law_476 : decode cL_law 476 = .ok (.aload_n 2, 1) := by decide +kernel
theorem dL_law_477 : decode cL_law 477 = .ok (.aload_n 0, 1) := by decide +kernel
theorem dL_law_478 : decode cL_law 478 = .ok (.iload_n 3, 1) := by decide +kernel
theorem dL_law_479 : decode cL_law 479 = .ok (.iconst 1, 1) := by decide +kernel
theorem dL_law_480 : decode cL_law 480 = .ok (.iadd, 1) := by decide +kernel
theorem dL_law_481 : decode cL_law 481 = .ok (.iaload, 1) := by decide +kernel
theorem dL_law_482 : decode cL_law 482 = .ok (.aload_n 0, 1) := by decide +kernel
theorem dL_law_483 : decode cL_law 483 = .ok (.iload_n 3, 1) := by decide +kernel
theorem dL_law_484 : decode cL_law 484 = .ok (.iconst 2, 1) := by decide +kernel
theorem dL_law_485 : decode cL_law 485 = .ok (.iadd, 1) := by decide +kernel
theorem dL_law_486 : decode cL_law 486 = .ok (.iaload, 1) := by decide +kernel
theorem dL_law_487 : decode cL_law 487 = .ok (.aload_n 0, 1) := by decide +kernel
theorem dL_law_488 : decode cL_law 488 = .ok (.iload_n 3, 1) := by decide +kernel
theorem dL_law_489 : decode cL_law 489 = .ok (.iconst 3, 1) := by decide +kernel
theorem dL_law_490 : decode cL_law 490 = .ok (.iadd, 1) := by decide +kernel
theorem dL_law_491 : decode cL_law 491 = .ok (.iaload, 1) := by decide +kernel
theorem dL_law_492 : decode cL_law 492 = .ok (.invokevirtual 58, 3) := by decide +kernel
theorem dL_law_495 : decode cL_law 495 = .ok (.if_icmp .eq 335, 3) := by decide +kernel
theorem dL_law_498 : decode cL_law 498 = .ok (.iconst 0, 1) := by decide +kernel
theorem dL_law_499 : decode cL_law 499 = .ok (.ireturn, 1) := by decide +kernel
theorem dL_law_500 : decode cL_law 500 = .ok (.aload_n 1, 1) := by decide +kernel
theorem dL_law_501 : decode cL_law 501 = .ok (.aload_n 0, 1) := by decide +kernel
theorem dL_law_502 : decode cL_law 502 = .ok (.iload_n 3, 1) := by decide +kernel
theorem dL_law_503 : decode cL_law 503 = .ok (.iconst 1, 1) := by decide +kernel
theorem dL_law_504 : decode cL_law 504 = .ok (.iadd, 1) := by decide +kernel
theorem dL_law_505 : decode cL_law 505 = .ok (.iaload, 1) := by decide +kernel
theorem dL_law_506 : decode cL_law 506 = .ok (.aload_n 0, 1) := by decide +kernel
theorem dL_law_507 : decode cL_law 507 = .ok (.iload_n 3, 1) := by decide +kernel
theorem dL_law_508 : decode cL_law 508 = .ok (.iconst 2, 1) := by decide +kernel
theorem dL_law_509 : decode cL_law 509 = .ok (.iadd, 1) := by decide +kernel
theorem dL_law_510 : decode cL_law 510 = .ok (.iaload, 1) := by decide +kernel
theorem dL_law_511 : decode cL_law 511 = .ok (.invokevirtual 59, 3) := by decide +kernel
theorem dL_law_514 : decode cL_law 514 = .ok (.aload_n 2, 1) := by decide +kernel
theorem dL_law_515 : decode cL_law 515 = .ok (.aload_n 0, 1) := by decide +kernel
theorem dL_law_516 : decode cL_law 516 = .ok (.iload_n 3, 1) := by decide +kernel
theorem dL_law_517 : decode cL_law 517 = .ok (.iconst 1, 1) := by decide +kernel
theorem dL_law_518 : decode cL_law 518 = .ok (.iadd, 1) := by decide +kernel
theorem dL_law_519 : decode cL_law 519 = .ok (.iaload, 1) := by decide +kernel
theorem dL_law_520 : decode cL_law 520 = .ok (.aload_n 0, 1) := by decide +kernel
theorem dL_law_521 : decode cL_law 521 = .ok (.iload_n 3, 1) := by decide +kernel
theorem dL_law_522 : decode cL_law 522 = .ok (.iconst 2, 1) := by decide +kernel
theorem dL_law_523 : decode cL_law 523 = .ok (.iadd, 1) := by decide +kernel
theorem dL_law_524 : decode cL_law 524 = .ok (.iaload, 1) := by decide +kernel
theorem dL_law_525 : decode cL_law 525 = .ok (.invokevirtual 62, 3) := by decide +kernel
theorem dL_law_528 : decode cL_law 528 = .ok (.if_icmp .eq 302, 3) := by decide +kernel
theorem dL_law_531 : decode cL_law 531 = .ok (.iconst 0, 1) := by decide +kernel
theorem dL_law_532 : decode cL_law 532 = .ok (.ireturn, 1) := by decide +kernel
theorem dL_law_533 : decode cL_law 533 = .ok (.aload_n 1, 1) := by decide +kernel
theorem dL_law_534 : decode cL_law 534 = .ok (.aload_n 0, 1) := by decide +kernel
theorem dL_law_535 : decode cL_law 535 = .ok (.iload_n 3, 1) := by decide +kernel
theorem dL_law_536 : decode cL_law 536 = .ok (.iconst 1, 1) := by decide +kernel
theorem dL_law_537 : decode cL_law 537 = .ok (.iadd, 1) := by decide +kernel
theorem dL_law_538 : decode cL_law 538 = .ok (.iaload, 1) := by decide +kernel
theorem dL_law_539 : decode cL_law 539 = .ok (.aload_n 0, 1) := by decide +kernel
theorem dL_law_540 : decode cL_law 540 = .ok (.iload_n 3, 1) := by decide +kernel
theorem dL_law_541 : decode cL_law 541 = .ok (.iconst 2, 1) := by decide +kernel
theorem dL_law_542 : decode cL_law 542 = .ok (.iadd, 1) := by decide +kernel
theorem dL_law_543 : decode cL_law 543 = .ok (.iaload, 1) := by decide +kernel
theorem dL_law_544 : decode cL_law 544 = .ok (.invokevirtual 63, 3) := by decide +kernel
theorem dL_law_547 : decode cL_law 547 = .ok (.aload_n 2, 1) := by decide +kernel
theorem dL_law_548 : decode cL_law 548 = .ok (.aload_n 0, 1) := by decide +kernel
theorem dL_law_549 : decode cL_law 549 = .ok (.iload_n 3, 1) := by decide +kernel
theorem dL_law_550 : decode cL_law 550 = .ok (.iconst 1, 1) := by decide +kernel
theorem dL_law_551 : decode cL_law 551 = .ok (.iadd, 1) := by decide +kernel
theorem dL_law_552 : decode cL_law 552 = .ok (.iaload, 1) := by decide +kernel
theorem dL_law_553 : decode cL_law 553 = .ok (.aload_n 0, 1) := by decide +kernel
theorem dL_law_554 : decode cL_law 554 = .ok (.iload_n 3, 1) := by decide +kernel
theorem dL_law_555 : decode cL_law 555 = .ok (.iconst 2, 1) := by decide +kernel
theorem dL_law_556 : decode cL_law 556 = .ok (.iadd, 1) := by decide +kernel
theorem dL_law_557 : decode cL_law 557 = .ok (.iaload, 1) := by decide +kernel
theorem dL_law_558 : decode cL_law 558 = .ok (.invokevirtual 66, 3) := by decide +kernel
theorem dL_law_561 : decode cL_law 561 = .ok (.if_icmp .eq 269, 3) := by decide +kernel
theorem dL_law_564 : decode cL_law 564 = .ok (.iconst 0, 1) := by decide +kernel
theorem dL_law_565 : decode cL_law 565 = .ok (.ireturn, 1) := by decide +kernel
theorem dL_law_566 : decode cL_law 566 = .ok (.aload_n 1, 1) := by decide +kernel
theorem dL_law_567 : decode cL_law 567 = .ok (.aload_n 0, 1) := by decide +kernel
theorem dL_law_568 : decode cL_law 568 = .ok (.iload_n 3, 1) := by decide +kernel
theorem dL_law_569 : decode cL_law 569 = .ok (.iconst 1, 1) := by decide +kernel
theorem dL_law_570 : decode cL_law 570 = .ok (.iadd, 1) := by decide +kernel
theorem dL_law_571 : decode cL_law 571 = .ok (.iaload, 1) := by decide +kernel
theorem dL_law_572 : decode cL_law 572 = .ok (.aload_n 0, 1) := by decide +kernel
theorem dL_law_573 : decode cL_law 573 = .ok (.iload_n 3, 1) := by decide +kernel
theorem dL_law_574 : decode cL_law 574 = .ok (.iconst 2, 1) := by decide +kernel
theorem dL_law_575 : decode cL_law 575 = .ok (.iadd, 1) := by decide +kernel
theorem dL_law_576 : decode cL_law 576 = .ok (.iaload, 1) := by decide +kernel
theorem dL_law_577 : decode cL_law 577 = .ok (.invokevirtual 67, 3) := by decide +kernel
theorem dL_law_580 : decode cL_law 580 = .ok (.aload_n 2, 1) := by decide +kernel
theorem dL_law_581 : decode cL_law 581 = .ok (.aload_n 0, 1) := by decide +kernel
theorem dL_law_582 : decode cL_law 582 = .ok (.iload_n 3, 1) := by decide +kernel
theorem dL_law_583 : decode cL_law 583 = .ok (.iconst 1, 1) := by decide +kernel
theorem dL_law_584 : decode cL_law 584 = .ok (.iadd, 1) := by decide +kernel
theorem dL_law_585 : decode cL_law 585 = .ok (.iaload, 1) := by decide +kernel
theorem dL_law_586 : decode cL_law 586 = .ok (.aload_n 0, 1) := by decide +kernel
theorem dL_law_587 : decode cL_law 587 = .ok (.iload_n 3, 1) := by decide +kernel
theorem dL_law_588 : decode cL_law 588 = .ok (.iconst 2, 1) := by decide +kernel
theorem dL_law_589 : decode cL_law 589 = .ok (.iadd, 1) := by decide +kernel
theorem dL_law_590 : decode cL_law 590 = .ok (.iaload, 1) := by decide +kernel
theorem dL_law_591 : decode cL_law 591 = .ok (.invokevirtual 70, 3) := by decide +kernel
theorem dL_law_594 : decode cL_law 594 = .ok (.if_icmp .eq 236, 3) := by decide +kernel
theorem dL_law_597 : decode cL_law 597 = .ok (.iconst 0, 1) := by decide +kernel
theorem dL_law_598 : decode cL_law 598 = .ok (.ireturn, 1) := by decide +kernel
theorem dL_law_599 : decode cL_law 599 = .ok (.aload_n 1, 1) := by decide +kernel
theorem dL_law_600 : decode cL_law 600 = .ok (.aload_n 0, 1) := by decide +kernel
theorem dL_law_601 : decode cL_law 601 = .ok (.iload_n 3, 1) := by decide +kernel
theorem dL_law_602 : decode cL_law 602 = .ok (.iconst 1, 1) := by decide +kernel
theorem dL_law_603 : decode cL_law 603 = .ok (.iadd, 1) := by decide +kernel
theorem dL_law_604 : decode cL_law 604 = .ok (.iaload, 1) := by decide +kernel
theorem dL_law_605 : decode cL_law 605 = .ok (.aload_n 0, 1) := by decide +kernel
theorem dL_law_606 : decode cL_law 606 = .ok (.iload_n 3, 1) := by decide +kernel
theorem dL_law_607 : decode cL_law 607 = .ok (.iconst 2, 1) := by decide +kernel
theorem dL_law_608 : decode cL_law 608 = .ok (.iadd, 1) := by decide +kernel
theorem dL_law_609 : decode cL_law 609 = .ok (.iaload, 1) := by decide +kernel
theorem dL_law_610 : decode cL_law 610 = .ok (.invokevirtual 71, 3) := by decide +kernel
theorem dL_law_613 : decode cL_law 613 = .ok (.aload_n 2, 1) := by decide +kernel
theorem dL_law_614 : decode cL_law 614 = .ok (.aload_n 0, 1) := by decide +kernel
theorem dL_law_615 : decode cL_law 615 = .ok (.iload_n 3, 1) := by decide +kernel
theorem dL_law_616 : decode cL_law 616 = .ok (.iconst 1, 1) := by decide +kernel
theorem dL_law_617 : decode cL_law 617 = .ok (.iadd, 1) := by decide +kernel
theorem dL_law_618 : decode cL_law 618 = .ok (.iaload, 1) := by decide +kernel
theorem dL_law_619 : decode cL_law 619 = .ok (.aload_n 0, 1) := by decide +kernel
theorem dL_law_620 : decode cL_law 620 = .ok (.iload_n 3, 1) := by decide +kernel
theorem dL_law_621 : decode cL_law 621 = .ok (.iconst 2, 1) := by decide +kernel
theorem dL_law_622 : decode cL_law 622 = .ok (.iadd, 1) := by decide +kernel
theorem dL_law_623 : decode cL_law 623 = .ok (.iaload, 1) := by decide +kernel
theorem dL_law_624 : decode cL_law 624 = .ok (.invokevirtual 74, 3) := by decide +kernel
theorem dL_law_627 : decode cL_law 627 = .ok (.if_icmp .eq 203, 3) := by decide +kernel
theorem dL_law_630 : decode cL_law 630 = .ok (.iconst 0, 1) := by decide +kernel
theorem dL_law_631 : decode cL_law 631 = .ok (.ireturn, 1) := by decide +kernel
theorem dL_law_632 : decode cL_law 632 = .ok (.aload_n 1, 1) := by decide +kernel
theorem dL_law_633 : decode cL_law 633 = .ok (.aload_n 0, 1) := by decide +kernel
theorem dL_law_634 : decode cL_law 634 = .ok (.iload_n 3, 1) := by decide +kernel
theorem dL_law_635 : decode cL_law 635 = .ok (.iconst 1, 1) := by decide +kernel
theorem dL_law_636 : decode cL_law 636 = .ok (.iadd, 1) := by decide +kernel
theorem dL_law_637 : decode cL_law 637 = .ok (.iaload, 1) := by decide +kernel
theorem dL_law_638 : decode cL_law 638 = .ok (.aload_n 0, 1) := by decide +kernel
theorem dL_law_639 : decode cL_law 639 = .ok (.iload_n 3, 1) := by decide +kernel
theorem dL_law_640 : decode cL_law 640 = .ok (.iconst 2, 1) := by decide +kernel
theorem dL_law_641 : decode cL_law 641 = .ok (.iadd, 1) := by decide +kernel
theorem dL_law_642 : decode cL_law 642 = .ok (.iaload, 1) := by decide +kernel
theorem dL_law_643 : decode cL_law 643 = .ok (.aload_n 0, 1) := by decide +kernel
theorem dL_law_644 : decode cL_law 644 = .ok (.iload_n 3, 1) := by decide +kernel
theorem dL_law_645 : decode cL_law 645 = .ok (.iconst 3, 1) := by decide +kernel
theorem dL_law_646 : decode cL_law 646 = .ok (.iadd, 1) := by decide +kernel
theorem dL_law_647 : decode cL_law 647 = .ok (.iaload, 1) := by decide +kernel
theorem dL_law_648 : decode cL_law 648 = .ok (.invokevirtual 75, 3) := by decide +kernel
theorem dL_law_651 : decode cL_law 651 = .ok (.aload_n 2, 1) := by decide +kernel
theorem dL_law_652 : decode cL_law 652 = .ok (.aload_n 0, 1) := by decide +kernel
theorem dL_law_653 : decode cL_law 653 = .ok (.iload_n 3, 1) := by decide +kernel
theorem dL_law_654 : decode cL_law 654 = .ok (.iconst 1, 1) := by decide +kernel
theorem dL_law_655 : decode cL_law 655 = .ok (.iadd, 1) := by decide +kernel
theorem dL_law_656 : decode cL_law 656 = .ok (.iaload, 1) := by decide +kernel
theorem dL_law_657 : decode cL_law 657 = .ok (.aload_n 0, 1) := by decide +kernel
theorem dL_law_658 : decode cL_law 658 = .ok (.iload_n 3, 1) := by decide +kernel
theorem dL_law_659 : decode cL_law 659 = .ok (.iconst 2, 1) := by decide +kernel
theorem dL_law_660 : decode cL_law 660 = .ok (.iadd, 1) := by decide +kernel
theorem dL_law_661 : decode cL_law 661 = .ok (.iaload, 1) := by decide +kernel
theorem dL_law_662 : decode cL_law 662 = .ok (.aload_n 0, 1) := by decide +kernel
theorem dL_law_663 : decode cL_law 663 = .ok (.iload_n 3, 1) := by decide +kernel
theorem dL_law_664 : decode cL_law 664 = .ok (.iconst 3, 1) := by decide +kernel
theorem dL_law_665 : decode cL_law 665 = .ok (.iadd, 1) := by decide +kernel
theorem dL_law_666 : decode cL_law 666 = .ok (.iaload, 1) := by decide +kernel
theorem dL_law_667 : decode cL_law 667 = .ok (.invokevirtual 78, 3) := by decide +kernel
theorem dL_law_670 : decode cL_law 670 = .ok (.if_icmp .eq 160, 3) := by decide +kernel
theorem dL_law_673 : decode cL_law 673 = .ok (.iconst 0, 1) := by decide +kernel
theorem dL_law_674 : decode cL_law 674 = .ok (.ireturn, 1) := by decide +kernel
theorem dL_law_675 : decode cL_law 675 = .ok (.aload_n 1, 1) := by decide +kernel
theorem dL_law_676 : decode cL_law 676 = .ok (.aload_n 0, 1) := by decide +kernel
theorem dL_law_677 : decode cL_law 677 = .ok (.iload_n 3, 1) := by decide +kernel
theorem dL_law_678 : decode cL_law 678 = .ok (.iconst 1, 1) := by decide +kernel
theorem dL_law_679 : decode cL_law 679 = .ok (.iadd, 1) := by decide +kernel
theorem dL_law_680 : decode cL_law 680 = .ok (.iaload, 1) := by decide +kernel
theorem dL_law_681 : decode cL_law 681 = .ok (.aload_n 0, 1) := by decide +kernel
theorem dL_law_682 : decode cL_law 682 = .ok (.iload_n 3, 1) := by decide +kernel
theorem dL_law_683 : decode cL_law 683 = .ok (.iconst 2, 1) := by decide +kernel
theorem dL_law_684 : decode cL_law 684 = .ok (.iadd, 1) := by decide +kernel
theorem dL_law_685 : decode cL_law 685 = .ok (.iaload, 1) := by decide +kernel
theorem dL_law_686 : decode cL_law 686 = .ok (.invokevirtual 79, 3) := by decide +kernel
theorem dL_law_689 : decode cL_law 689 = .ok (.aload_n 2, 1) := by decide +kernel
theorem dL_law_690 : decode cL_law 690 = .ok (.aload_n 0, 1) := by decide +kernel
theorem dL_law_691 : decode cL_law 691 = .ok (.iload_n 3, 1) := by decide +kernel
theorem dL_law_692 : decode cL_law 692 = .ok (.iconst 1, 1) := by decide +kernel
theorem dL_law_693 : decode cL_law 693 = .ok (.iadd, 1) := by decide +kernel
theorem dL_law_694 : decode cL_law 694 = .ok (.iaload, 1) := by decide +kernel
theorem dL_law_695 : decode cL_law 695 = .ok (.aload_n 0, 1) := by decide +kernel
theorem dL_law_696 : decode cL_law 696 = .ok (.iload_n 3, 1) := by decide +kernel
theorem dL_law_697 : decode cL_law 697 = .ok (.iconst 2, 1) := by decide +kernel
theorem dL_law_698 : decode cL_law 698 = .ok (.iadd, 1) := by decide +kernel
theorem dL_law_699 : decode cL_law 699 = .ok (.iaload, 1) := by decide +kernel
theorem dL_law_700 : decode cL_law 700 = .ok (.invokevirtual 82, 3) := by decide +kernel
theorem dL_law_703 : decode cL_law 703 = .ok (.if_icmp .eq 127, 3) := by decide +kernel
theorem dL_law_706 : decode cL_law 706 = .ok (.iconst 0, 1) := by decide +kernel
theorem dL_law_707 : decode cL_law 707 = .ok (.ireturn, 1) := by decide +kernel
theorem dL_law_708 : decode cL_law 708 = .ok (.aload_n 1, 1) := by decide +kernel
theorem dL_law_709 : decode cL_law 709 = .ok (.aload_n 0, 1) := by decide +kernel
theorem dL_law_710 : decode cL_law 710 = .ok (.iload_n 3, 1) := by decide +kernel
theorem dL_law_711 : decode cL_law 711 = .ok (.iconst 1, 1) := by decide +kernel
theorem dL_law_712 : decode cL_law 712 = .ok (.iadd, 1) := by decide +kernel
theorem dL_law_713 : decode cL_law 713 = .ok (.iaload, 1) := by decide +kernel
theorem dL_law_714 : decode cL_law 714 = .ok (.invokevirtual 83, 3) := by decide +kernel
theorem dL_law_717 : decode cL_law 717 = .ok (.aload_n 2, 1) := by decide +kernel
theorem dL_law_718 : decode cL_law 718 = .ok (.aload_n 0, 1) := by decide +kernel
theorem dL_law_719 : decode cL_law 719 = .ok (.iload_n 3, 1) := by decide +kernel
theorem dL_law_720 : decode cL_law 720 = .ok (.iconst 1, 1) := by decide +kernel
theorem dL_law_721 : decode cL_law 721 = .ok (.iadd, 1) := by decide +kernel
theorem dL_law_722 : decode cL_law 722 = .ok (.iaload, 1) := by decide +kernel
theorem dL_law_723 : decode cL_law 723 = .ok (.invokevirtual 86, 3) := by decide +kernel
theorem dL_law_726 : decode cL_law 726 = .ok (.if_icmp .eq 104, 3) := by decide +kernel
theorem dL_law_729 : decode cL_law 729 = .ok (.iconst 0, 1) := by decide +kernel
theorem dL_law_730 : decode cL_law 730 = .ok (.ireturn, 1) := by decide +kernel
theorem dL_law_731 : decode cL_law 731 = .ok (.aload_n 1, 1) := by decide +kernel
theorem dL_law_732 : decode cL_law 732 = .ok (.aload_n 0, 1) := by decide +kernel
theorem dL_law_733 : decode cL_law 733 = .ok (.iload_n 3, 1) := by decide +kernel
theorem dL_law_734 : decode cL_law 734 = .ok (.iconst 1, 1) := by decide +kernel
theorem dL_law_735 : decode cL_law 735 = .ok (.iadd, 1) := by decide +kernel
theorem dL_law_736 : decode cL_law 736 = .ok (.iaload, 1) := by decide +kernel
theorem dL_law_737 : decode cL_law 737 = .ok (.invokevirtual 87, 3) := by decide +kernel
theorem dL_law_740 : decode cL_law 740 = .ok (.aload_n 2, 1) := by decide +kernel
theorem dL_law_741 : decode cL_law 741 = .ok (.aload_n 0, 1) := by decide +kernel
theorem dL_law_742 : decode cL_law 742 = .ok (.iload_n 3, 1) := by decide +kernel
theorem dL_law_743 : decode cL_law 743 = .ok (.iconst 1, 1) := by decide +kernel
theorem dL_law_744 : decode cL_law 744 = .ok (.iadd, 1) := by decide +kernel
theorem dL_law_745 : decode cL_law 745 = .ok (.iaload, 1) := by decide +kernel
theorem dL_law_746 : decode cL_law 746 = .ok (.invokevirtual 90, 3) := by decide +kernel
theorem dL_law_749 : decode cL_law 749 = .ok (.if_icmp .eq 81, 3) := by decide +kernel
theorem dL_law_752 : decode cL_law 752 = .ok (.iconst 0, 1) := by decide +kernel
theorem dL_law_753 : decode cL_law 753 = .ok (.ireturn, 1) := by decide +kernel
theorem dL_law_754 : decode cL_law 754 = .ok (.aload_n 1, 1) := by decide +kernel
theorem dL_law_755 : decode cL_law 755 = .ok (.invokevirtual 91, 3) := by decide +kernel
theorem dL_law_758 : decode cL_law 758 = .ok (.aload_n 2, 1) := by decide +kernel
theorem dL_law_759 : decode cL_law 759 = .ok (.invokevirtual 94, 3) := by decide +kernel
theorem dL_law_762 : decode cL_law 762 = .ok (.if_icmp .eq 68, 3) := by decide +kernel
theorem dL_law_765 : decode cL_law 765 = .ok (.iconst 0, 1) := by decide +kernel
theorem dL_law_766 : decode cL_law 766 = .ok (.ireturn, 1) := by decide +kernel
theorem dL_law_767 : decode cL_law 767 = .ok (.aload_n 1, 1) := by decide +kernel
theorem dL_law_768 : decode cL_law 768 = .ok (.invokevirtual 95, 3) := by decide +kernel
theorem dL_law_771 : decode cL_law 771 = .ok (.aload_n 2, 1) := by decide +kernel
theorem dL_law_772 : decode cL_law 772 = .ok (.invokevirtual 98, 3) := by decide +kernel
theorem dL_law_775 : decode cL_law 775 = .ok (.if_icmp .eq 55, 3) := by decide +kernel
theorem dL_law_778 : decode cL_law 778 = .ok (.iconst 0, 1) := by decide +kernel
theorem dL_law_779 : decode cL_law 779 = .ok (.ireturn, 1) := by decide +kernel
theorem dL_law_780 : decode cL_law 780 = .ok (.aload_n 1, 1) := by decide +kernel
theorem dL_law_781 : decode cL_law 781 = .ok (.invokevirtual 99, 3) := by decide +kernel
theorem dL_law_784 : decode cL_law 784 = .ok (.aload_n 2, 1) := by decide +kernel
theorem dL_law_785 : decode cL_law 785 = .ok (.invokevirtual 102, 3) := by decide +kernel
theorem dL_law_788 : decode cL_law 788 = .ok (.if_icmp .eq 42, 3) := by decide +kernel
theorem dL_law_791 : decode cL_law 791 = .ok (.iconst 0, 1) := by decide +kernel
theorem dL_law_792 : decode cL_law 792 = .ok (.ireturn, 1) := by decide +kernel
theorem dL_law_793 : decode cL_law 793 = .ok (.aload_n 1, 1) := by decide +kernel
theorem dL_law_794 : decode cL_law 794 = .ok (.aload_n 0, 1) := by decide +kernel
theorem dL_law_795 : decode cL_law 795 = .ok (.iload_n 3, 1) := by decide +kernel
theorem dL_law_796 : decode cL_law 796 = .ok (.iconst 1, 1) := by decide +kernel
theorem dL_law_797 : decode cL_law 797 = .ok (.iadd, 1) := by decide +kernel
theorem dL_law_798 : decode cL_law 798 = .ok (.iaload, 1) := by decide +kernel
theorem dL_law_799 : decode cL_law 799 = .ok (.invokevirtual 103, 3) := by decide +kernel
theorem dL_law_802 : decode cL_law 802 = .ok (.aload_n 2, 1) := by decide +kernel
theorem dL_law_803 : decode cL_law 803 = .ok (.aload_n 0, 1) := by decide +kernel
theorem dL_law_804 : decode cL_law 804 = .ok (.iload_n 3, 1) := by decide +kernel
theorem dL_law_805 : decode cL_law 805 = .ok (.iconst 1, 1) := by decide +kernel
theorem dL_law_806 : decode cL_law 806 = .ok (.iadd, 1) := by decide +kernel
theorem dL_law_807 : decode cL_law 807 = .ok (.iaload, 1) := by decide +kernel
theorem dL_law_808 : decode cL_law 808 = .ok (.invokevirtual 106, 3) := by decide +kernel
theorem dL_law_811 : decode cL_law 811 = .ok (.if_icmp .eq 19, 3) := by decide +kernel
theorem dL_law_814 : decode cL_law 814 = .ok (.iconst 0, 1) := by decide +kernel
theorem dL_law_815 : decode cL_law 815 = .ok (.ireturn, 1) := by decide +kernel
theorem dL_law_816 : decode cL_law 816 = .ok (.aload_n 1, 1) := by decide +kernel
theorem dL_law_817 : decode cL_law 817 = .ok (.invokevirtual 107, 3) := by decide +kernel
theorem dL_law_820 : decode cL_law 820 = .ok (.aload_n 2, 1) := by decide +kernel
theorem dL_law_821 : decode cL_law 821 = .ok (.invokevirtual 111, 3) := by decide +kernel
theorem dL_law_824 : decode cL_law 824 = .ok (.lcmp, 1) := by decide +kernel
theorem dL_law_825 : decode cL_law 825 = .ok (.ifCond .eq 5, 3) := by decide +kernel
theorem dL_law_828 : decode cL_law 828 = .ok (.iconst 0, 1) := by decide +kernel
theorem dL_law_829 : decode cL_law 829 = .ok (.ireturn, 1) := by decide +kernel
theorem dL_law_830 : decode cL_law 830 = .ok (.iinc 3 6, 3) := by decide +kernel
theorem dL_law_833 : decode cL_law 833 = .ok (.goto (-815), 3) := by decide +kernel
theorem dL_law_836 : decode cL_law 836 = .ok (.iconst 1, 1) := by decide +kernel
theorem dL_law_837 : decode cL_law 837 = .ok (.ireturn, 1) := by decide +kernel
end
section
/-! ===== the tables' words as one fact, carried by every contract ===== -/
def isNestW : Cond → Bool
  | .fieldLinkNest _ _ _ _ _ _ => true
  | .methodLinkNest _ _ _ _ => true
  | _ => false
/-- the words that stay true -/
def tb : List Cond := lw_tbl.filter (fun w => goodWord w || isNestW w)
theorem tb_in {i : Nat} {w : Cond} (h : lw_tbl[i]? = some w) (h2 : (goodWord w || isNestW w) = true) : w ∈ tb := List.mem_filter.mpr ⟨List.mem_of_getElem? h, h2⟩
def TB (U : State) : Prop := ∀ w ∈ tb, ∀ a : Array Value, w.before a U = true
theorem nestW_cases {w : Cond} (h : isNestW w = true) : (∃ a i b n d h, w = .fieldLinkNest a i b n d h) ∨ ∃ a i x h, w = .methodLinkNest a i x h := by
  unfold isNestW at h
  split at h
  · exact Or.inl ⟨_, _, _, _, _, _, rfl⟩
  · exact Or.inr ⟨_, _, _, _, rfl⟩
  · cases h
theorem TB.warm {s U : State} (hW : s.WarmedH U.vm) (h : TB s) : TB U := by
  intro w hw a
  have h1 := (List.mem_filter.mp hw).2
  rcases (Bool.or_eq_true _ _).mp h1 with h2 | h2
  · exact word_at hW (good_of_word h2) (h w hw a)
  · rcases nestW_cases h2 with ⟨x1, x2, x3, x4, x5, x6, rfl⟩ | ⟨x1, x2, x3, x4, rfl⟩
    · exact va_Nw.use rfl (va_Nw.warmF hW (va_Nw.of rfl (h _ hw a)))
    · exact va_Nw.use rfl (va_Nw.warmM hW (va_Nw.of rfl (h _ hw a)))
theorem TB.start {s : State} {b : Array Value} (h : ∀ w ∈ lw_tbl, w.before b s = true) : TB s := by
  intro w hw a
  have h1 := (List.mem_filter.mp hw).2
  rcases (Bool.or_eq_true _ _).mp h1 with h2 | h2
  · exact word_at (State.WarmedH.refl s) (good_of_word h2) (h w (List.mem_filter.mp hw).1)
  · rcases nestW_cases h2 with ⟨x1, x2, x3, x4, x5, x6, rfl⟩ | ⟨x1, x2, x3, x4, rfl⟩
    · exact va_Nw.use rfl (va_Nw.of rfl (h _ (List.mem_filter.mp hw).1))
    · exact va_Nw.use rfl (va_Nw.of rfl (h _ (List.mem_filter.mp hw).1))
set_option maxRecDepth 100000 in
theorem inX0 : ∀ w ∈ wsX00, w ∈ tb := by decide +kernel
set_option maxRecDepth 100000 in
theorem inX1 : ∀ w ∈ wsX10, w ∈ tb := by decide +kernel
set_option maxRecDepth 100000 in
theorem inX2 : ∀ w ∈ wsX20, w ∈ tb := by decide +kernel
set_option maxRecDepth 100000 in
theorem inX3 : ∀ w ∈ wsX30, w ∈ tb := by decide +kernel
set_option maxRecDepth 100000 in
theorem inX4 : ∀ w ∈ wsX40, w ∈ tb := by decide +kernel
set_option maxRecDepth 100000 in
theorem inX5 : ∀ w ∈ wsX50, w ∈ tb := by decide +kernel
set_option maxRecDepth 100000 in
theorem inX6 : ∀ w ∈ wsX60, w ∈ tb := by decide +kernel
set_option maxRecDepth 100000 in
theorem inX7 : ∀ w ∈ wsX70, w ∈ tb := by decide +kernel
set_option maxRecDepth 100000 in
theorem inX8 : ∀ w ∈ wsX80, w ∈ tb := by decide +kernel
set_option maxRecDepth 100000 in
theorem inX9 : ∀ w ∈ wsX90, w ∈ tb := by decide +kernel
def G (D : va_G) (tys : List (ClassId × FieldType)) (U : State) : Prop := va_K D vwCl tys U ∧ TB U
theorem G.warm {D : va_G} {tys : List (ClassId × FieldType)} {s U : State} (hW : s.WarmedH U.vm) (h : G D tys s) : G D tys U := ⟨va_K.moved hW.alike h.1, h.2.warm hW⟩
/-- the world's cells stand, apart, and nothing else was changed -/
def xI (D : va_G) (A : Nat → Prop) (H0 : Heap) (w : va_W) (H : Heap) (locs : List Loc) : Prop := va_P D vwCl w H ∧ va_D A w ∧ va_S A H0 H locs
/-- a contract whose answer and world behind are known -/
def Pw (D : va_G) (tys : List (ClassId × FieldType)) (av : List Value) (w0 : va_W) (sz : Nat) : Array Value → State → Prop :=
  va_Pc av (fun U => U.heap.size = sz ∧ va_P D vwCl w0 U.heap ∧ G D tys U ∧ va_D (fun _ => True) w0)
def Qw (D : va_G) (tys : List (ClassId × FieldType)) (w0 : va_W) (sz : Nat) (v : Option Value) (w1 : va_W) : Array Value → State → Outcome → State → Prop :=
  fun _ st oc t => (oc = .returned v ∧ va_P D vwCl w1 t.heap ∧ G D tys t ∧ va_D (va_A w0 sz) w1) ∧ va_F (va_A w0 sz) st t
def Ct (l : Launch) (y : MethodName) (cc : ByteArray) (maxL : Nat) (ret : Option FieldType) (rm : Room) (D : va_G) (tys : List (ClassId × FieldType)) (av : List Value) (w0 : va_W) (v : Option Value) (w1 : va_W) : Prop :=
  ∀ sz : Nat, Met l y [Cond.code y cc maxL ret] rm (Pw D tys av w0 sz) (Qw D tys w0 sz v w1) 0 0 (va_A w0 sz)
def rmOf (f n : Nat) : Room := { frames := f, cells := 0, slots := 0, locals := n }
def Cx (p : Program) (s : State) (m : MethodId) (args : Array Value) (meth : Method) (c : Code) (cc : ByteArray) (own : String) (nL : Nat) (ret : Option FieldType) (D : va_G) (tys : List (ClassId × FieldType)) : Prop :=
  p.tables.exec = Jvm.exec ∧ c.code = cc ∧ c.maxLocals = nL ∧ s.vm.findClass own = some m.cls ∧ meth.sig.returnType = ret ∧ meth.locks = false ∧ G D tys s
abbrev xQ (D : va_G) (tys : List (ClassId × FieldType)) (below : List Frame) (args : Array Value) (s : State) (w0 : va_W) (v : Option Value) (w1 : va_W) : State → Prop :=
  MQ below (Qw D tys w0 s.heap.size v w1) args s 0 0 (va_A w0 s.heap.size)
theorem xA_of {w0 : va_W} {n : Nat} : ∀ q : Nat, n ≤ q → va_A w0 n q := fun _ h => Or.inr h
theorem Ct.ofW {l : Launch} {y : MethodName} {cc : ByteArray} {maxL : Nat} {ret : Option FieldType} {f n : Nat} {D : va_G} {tys : List (ClassId × FieldType)} {av : List Value} {w0 : va_W} {v : Option Value} {w1 : va_W}
    (hy : plainName y.cls = true)
    (body : ∀ (p : Program) (e : Env) (s : State) (m : MethodId) (below : List Frame) (meth : Method) (c : Code), Cx p s m av.toArray meth c cc y.cls maxL ret D tys → xI D (va_A w0 s.heap.size) s.heap w0 s.heap [] →
      W p l e (rmOf f n) s m av.toArray below meth c s.heap [] 0 0 (xQ D tys below av.toArray s w0 v w1) (entryFrame m av.toArray maxL)) : Ct l y cc maxL ret (rmOf f n) D tys av w0 v w1 := by
  intro sz
  refine Met.ofW (cc := cc) (maxL := maxL) (ret := ret) hy rfl ?_
  intro p e s m args below meth c s₁ B hml hv
  obtain ⟨rfl, hsz, hP, hG, hD0⟩ := hv
  subst hsz
  exact body p e s m below meth c ⟨B.exec, B.bytes, hml, findClass_of_methodNamed B.named, B.returns, B.notSynchronized, hG⟩ ⟨hP, hD0.self, va_S.rf⟩
/-- what the tables have of a method -/
def MWi (y : MethodName) (cc : ByteArray) (maxL : Nat) (ret : Option FieldType) (n : Nat) : Prop :=
  Cond.code y cc maxL ret ∈ tb ∧ Cond.initialized y.cls ∈ tb ∧ Cond.instanceMethod y ∈ tb ∧ Cond.selects y.cls y y ∈ tb ∧ y.cls ≠ "java/lang/invoke/MethodHandle" ∧ y.cls ≠ "java/lang/invoke/VarHandle" ∧ (parseMethodDescriptor y.desc).map (fun d => d.parameters.length) = some n
def MWs (y : MethodName) (cc : ByteArray) (maxL : Nat) (ret : Option FieldType) (n : Nat) : Prop :=
  Cond.code y cc maxL ret ∈ tb ∧ Cond.initialized y.cls ∈ tb ∧ Cond.static y ∈ tb ∧ y.cls ≠ "java/lang/invoke/MethodHandle" ∧ y.cls ≠ "java/lang/invoke/VarHandle" ∧ (parseMethodDescriptor y.desc).map (fun d => d.parameters.length) = some n
section XC
variable {p : Program} {l : Launch} {e : Env} {R : Room} {s : State} {m : MethodId} {args : Array Value} {below : List Frame} {meth : Method} {c : Code} {H : Heap} {locs : List Loc} {Q : State → Prop}
variable {cc : ByteArray} {pc : Nat} {ls : Array Slot} {rest : List Value} {D : va_G} {A : Nat → Prop} {tys : List (ClassId × FieldType)} {w0 w1 : va_W}
theorem xF_of {H0 : Heap} (hI : xI D A H0 w0 H locs) (hA : ∀ q, H0.size ≤ q → A q) : ∀ q, va_A w0 H.size q → A q := by
  intro q h
  rcases h with ⟨k, e, h⟩ | h
  · exact hI.2.1.2 k (q, e) h
  · exact hA q (Nat.le_trans hI.2.2.1 h)
theorem xc_run {st : List Value} {v : Option Value} {a : Array Value} {H0 : Heap} (hr : va_Run p l e R s m args below meth c H locs 0 0 0 0 (F0 m pc ls st) rest (Qw D tys w0 H.size v w1 a) (va_A w0 H.size)) (hI : xI D A H0 w0 H locs) (hA : ∀ q, H0.size ≤ q → A q)
    (kk : ∀ (H1 : Heap) (locs1 : List Loc), xI D A H0 w1 H1 locs1 → W p l e R s m args below meth c H1 locs1 0 0 Q (F0 m (pc + 3) ls (v.toList ++ rest))) : W p l e R s m args below meth c H locs 0 0 Q (F0 m pc ls st) := by
  have hF := xF_of hI hA
  intro T hT X
  obtain ⟨v', st₀, t, T', L, h0, X', hL, e1, e2, ⟨⟨hv, hP1, hG1, hD1⟩, hz, hk⟩, stp⟩ := hr T hT X
  cases hv
  rw [h0] at hz hk
  have hI1 : xI D A H0 w1 T'.heap (locs ++ L) := by
    refine ⟨by rw [e1]; exact hP1, hD1.weaken (fun k q _ h => hF q.1 h), Nat.le_trans hI.2.2.1 (by rw [e1]; exact hz), fun q h1 h2 => ?_, fun q hq => ?_⟩
    · rw [e1, hk q (Nat.lt_of_lt_of_le h1 hI.2.2.1) (fun z => h2 (hF q z))]
      exact hI.2.2.2.1 q h1 h2
    · rcases List.mem_append.mp hq with h | h
      · exact hI.2.2.2.2 q h
      · exact hF _ (hL q h)
  obtain ⟨t2, a1, b1⟩ := kk T'.heap (locs ++ L) hI1 T' rfl X'
  exact ⟨t2, stp t2 a1, b1⟩
theorem Pw.blind {av : List Value} {sz : Nat} : FrameBlind (Pw D tys av w0 sz) := by
  intro a U g mk q
  obtain ⟨q0, q1, qP, qG, qD⟩ := q
  exact ⟨q0, q1, qP, ⟨va_K.moved (u := U) (U := U.calling g mk a) (Vm.Alike.refl U.vm) qG.1, qG.2.warm (s := U) (U := U.calling g mk a) (State.WarmedH.refl U)⟩, qD⟩
theorem Pw.at {av : List Value} {H0 : Heap} (hG : G D tys s) (hI : xI D A H0 w0 H locs) : ∀ U : State, U.heap = H → s.WarmedH U.vm → Pw D tys av w0 H.size av.toArray U := by
  intro U hU hW
  exact ⟨rfl, by rw [hU], by rw [hU]; exact hI.1, hG.warm hW, hI.2.1.weaken (fun _ _ _ _ => trivial)⟩
theorem xCB {own : String} {index maxL n : Nat} {y : MethodName} {bytes : ByteArray} {ret : Option FieldType} {f ln : Nat} (hG : G D tys s) (hc : Cond.code y bytes maxL ret ∈ tb) (hi : Cond.initialized y.cls ∈ tb) (h1 : y.cls ≠ "java/lang/invoke/MethodHandle") (h2 : y.cls ≠ "java/lang/invoke/VarHandle") (h3 : (parseMethodDescriptor y.desc).map (fun d => d.parameters.length) = some n) (hl : Cond.methodLink own index y ∈ tb) (hR : f + 1 ≤ R.frames ∧ 8 + (maxL + 11) + ln ≤ R.locals) :
    CallB R s args own index y bytes maxL ret [Cond.code y bytes maxL ret] (rmOf f ln) 0 0 n := by
  refine ⟨rfl, rfl, hR.1, hR.2, fun w hw a' U hW => ?_, List.mem_cons_self, hG.2 _ hc args, hG.2 _ hi args, ⟨h1, h2⟩, fun sig h => ?_, hG.2 _ hl args⟩
  · rw [List.mem_singleton.mp hw]
    exact (hG.2.warm hW) _ hc a'
  · rw [h] at h3
    exact (Option.some.inj h3).symm
theorem xCN {own host : String} {index maxL n : Nat} {y : MethodName} {bytes : ByteArray} {ret : Option FieldType} {f ln : Nat} (hG : G D tys s) (hc : Cond.code y bytes maxL ret ∈ tb) (hi : Cond.initialized y.cls ∈ tb) (h1 : y.cls ≠ "java/lang/invoke/MethodHandle") (h2 : y.cls ≠ "java/lang/invoke/VarHandle") (h3 : (parseMethodDescriptor y.desc).map (fun d => d.parameters.length) = some n) (hl : Cond.methodLinkNest own index y host ∈ tb) (hR : f + 1 ≤ R.frames ∧ 8 + (maxL + 11) + ln ≤ R.locals) :
    va_CN R s args own index y host bytes maxL ret [Cond.code y bytes maxL ret] (rmOf f ln) 0 0 n := by
  refine ⟨⟨rfl, rfl, hR.1, hR.2, fun w hw a' U hW => ?_, List.mem_cons_self⟩, hG.2 _ hc args, hG.2 _ hi args, ⟨h1, h2⟩, fun sig h => ?_, hG.2 _ hl args⟩
  · rw [List.mem_singleton.mp hw]
    exact (hG.2.warm hW) _ hc a'
  · rw [h] at h3
    exact (Option.some.inj h3).symm
/-- invokevirtual of a method of the receiver's own class -/
theorem xc_V {own C : String} {index maxL n f ln nL ci q0 b : Nat} {q : vw_C} {fs As st : List Value} {y : MethodName} {bytes : ByteArray} {ret : Option FieldType} {v : Option Value} {H0 : Heap}
    (hC : Ct l y bytes maxL ret (rmOf f ln) D tys (.ref b :: As) w0 v w1) (hM : MWi y bytes maxL ret n) (hl : Cond.methodLink own index y ∈ tb)
    (hx : p.tables.exec = Jvm.exec) (hb : c.code = cc) (hml : c.maxLocals = nL) (hown : s.vm.findClass own = some m.cls) (hG : G D tys s) (hI : xI D A H0 w0 H locs) (hA : ∀ q, H0.size ≤ q → A q)
    (he : w0[q0]? = some (b, .inr (ci, fs))) (hc : vwCl[ci]? = some q) (hy : q.1 = y.cls) (hR : f + 1 ≤ R.frames ∧ 8 + (maxL + 11) + ln ≤ R.locals)
    (hn : As.length = n) (hls : ls.size = nL) (hst : st = As.reverse ++ .ref b :: rest) (hcat : (rest.map fun v => v.category).sum ≤ 8) (hdg : decode cc pc = .ok (.invokevirtual index, 3))
    (kk : ∀ (H1 : Heap) (locs1 : List Loc), xI D A H0 w1 H1 locs1 → W p l e R s m args below meth c H1 locs1 0 0 Q (F0 m (pc + 3) ls (v.toList ++ rest))) : W p l e R s m args below meth c H locs 0 0 Q (F0 m pc ls st) := by
  obtain ⟨m1, m2, m3, m4, m5, m6, m7⟩ := hM
  refine xc_run (va_runV (C := y.cls) (b := b) (As := As) (g := F0 m pc ls st) ⟨hx, hb, hml, hown, fun w h => hG.2 w h args⟩ (hC H.size) ⟨xCB hG m1 m2 m5 m6 m7 hl hR, hG.2 _ m3 args, hG.2 _ m4 args⟩ ⟨Pw.blind, ?_, Pw.at hG hI⟩ rfl hn hls hst (lv_room hcat) hdg ⟨Nat.zero_le _, Nat.zero_le _⟩) hI hA kk
  have h := va_recv hG.1 hI.1 hc he
  rw [hy] at h
  exact h
/-- the same, a private method of a nest mate -/
theorem xc_VN {own host : String} {index maxL n f ln nL ci q0 b : Nat} {q : vw_C} {fs As st : List Value} {y : MethodName} {bytes : ByteArray} {ret : Option FieldType} {v : Option Value} {H0 : Heap}
    (hC : Ct l y bytes maxL ret (rmOf f ln) D tys (.ref b :: As) w0 v w1) (hM : MWi y bytes maxL ret n) (hl : Cond.methodLinkNest own index y host ∈ tb)
    (hx : p.tables.exec = Jvm.exec) (hb : c.code = cc) (hml : c.maxLocals = nL) (hown : s.vm.findClass own = some m.cls) (hG : G D tys s) (hI : xI D A H0 w0 H locs) (hA : ∀ q, H0.size ≤ q → A q)
    (he : w0[q0]? = some (b, .inr (ci, fs))) (hc : vwCl[ci]? = some q) (hy : q.1 = y.cls) (hR : f + 1 ≤ R.frames ∧ 8 + (maxL + 11) + ln ≤ R.locals)
    (hn : As.length = n) (hls : ls.size = nL) (hst : st = As.reverse ++ .ref b :: rest) (hcat : (rest.map fun v => v.category).sum ≤ 8) (hdg : decode cc pc = .ok (.invokevirtual index, 3))
    (kk : ∀ (H1 : Heap) (locs1 : List Loc), xI D A H0 w1 H1 locs1 → W p l e R s m args below meth c H1 locs1 0 0 Q (F0 m (pc + 3) ls (v.toList ++ rest))) : W p l e R s m args below meth c H locs 0 0 Q (F0 m pc ls st) := by
  obtain ⟨m1, m2, m3, m4, m5, m6, m7⟩ := hM
  refine xc_run (va_runVN (C := y.cls) (b := b) (As := As) (g := F0 m pc ls st) (Ts := tb) ⟨hx, hb, hml, hown, fun w h => hG.2 w h args⟩ (hC H.size) ⟨xCN hG m1 m2 m5 m6 m7 hl hR, hG.2 _ m3 args, hG.2 _ m4 args⟩ ⟨Pw.blind, ?_, Pw.at hG hI⟩ rfl hn hls hst (lv_room hcat) hdg ⟨Nat.zero_le _, Nat.zero_le _⟩) hI hA kk
  have h := va_recv hG.1 hI.1 hc he
  rw [hy] at h
  exact h
/-- invokestatic -/
theorem xc_S {own : String} {index maxL n f ln nL : Nat} {As st : List Value} {y : MethodName} {bytes : ByteArray} {ret : Option FieldType} {v : Option Value} {H0 : Heap}
    (hC : Ct l y bytes maxL ret (rmOf f ln) D tys As w0 v w1) (hM : MWs y bytes maxL ret n) (hl : Cond.methodLink own index y ∈ tb)
    (hx : p.tables.exec = Jvm.exec) (hb : c.code = cc) (hml : c.maxLocals = nL) (hown : s.vm.findClass own = some m.cls) (hG : G D tys s) (hI : xI D A H0 w0 H locs) (hA : ∀ q, H0.size ≤ q → A q)
    (hR : f + 1 ≤ R.frames ∧ 8 + (maxL + 11) + ln ≤ R.locals)
    (hn : As.length = n) (hls : ls.size = nL) (hst : st = As.reverse ++ rest) (hcat : (rest.map fun v => v.category).sum ≤ 8) (hdg : decode cc pc = .ok (.invokestatic index, 3))
    (kk : ∀ (H1 : Heap) (locs1 : List Loc), xI D A H0 w1 H1 locs1 → W p l e R s m args below meth c H1 locs1 0 0 Q (F0 m (pc + 3) ls (v.toList ++ rest))) : W p l e R s m args below meth c H locs 0 0 Q (F0 m pc ls st) := by
  obtain ⟨m1, m2, m3, m5, m6, m7⟩ := hM
  exact xc_run (va_runS (As := As) (g := F0 m pc ls st) ⟨hx, hb, hml, hown, fun w h => hG.2 w h args⟩ (hC H.size) ⟨xCB hG m1 m2 m5 m6 m7 hl hR, hG.2 _ m3 args⟩ ⟨Pw.blind, Pw.at hG hI⟩ rfl hn hls hst (lv_room hcat) hdg ⟨Nat.zero_le _, Nat.zero_le _⟩) hI hA kk
theorem xc_SN {own host : String} {index maxL n f ln nL : Nat} {As st : List Value} {y : MethodName} {bytes : ByteArray} {ret : Option FieldType} {v : Option Value} {H0 : Heap}
    (hC : Ct l y bytes maxL ret (rmOf f ln) D tys As w0 v w1) (hM : MWs y bytes maxL ret n) (hl : Cond.methodLinkNest own index y host ∈ tb)
    (hx : p.tables.exec = Jvm.exec) (hb : c.code = cc) (hml : c.maxLocals = nL) (hown : s.vm.findClass own = some m.cls) (hG : G D tys s) (hI : xI D A H0 w0 H locs) (hA : ∀ q, H0.size ≤ q → A q)
    (hR : f + 1 ≤ R.frames ∧ 8 + (maxL + 11) + ln ≤ R.locals)
    (hn : As.length = n) (hls : ls.size = nL) (hst : st = As.reverse ++ rest) (hcat : (rest.map fun v => v.category).sum ≤ 8) (hdg : decode cc pc = .ok (.invokestatic index, 3))
    (kk : ∀ (H1 : Heap) (locs1 : List Loc), xI D A H0 w1 H1 locs1 → W p l e R s m args below meth c H1 locs1 0 0 Q (F0 m (pc + 3) ls (v.toList ++ rest))) : W p l e R s m args below meth c H locs 0 0 Q (F0 m pc ls st) := by
  obtain ⟨m1, m2, m3, m5, m6, m7⟩ := hM
  exact xc_run (va_runSN (As := As) (g := F0 m pc ls st) (Ts := tb) ⟨hx, hb, hml, hown, fun w h => hG.2 w h args⟩ (hC H.size) ⟨xCN hG m1 m2 m5 m6 m7 hl hR, hG.2 _ m3 args, trivial⟩ ⟨Pw.blind, Pw.at hG hI⟩ rfl hn hls hst (lv_room hcat) hdg ⟨Nat.zero_le _, Nat.zero_le _⟩) hI hA kk
/-! returns -/
theorem xr_q {v : Option Value} (hG : G D tys s) (hI : xI D (va_A w0 s.heap.size) s.heap w1 H locs) : ∀ t : State, t.heap = H → s.WarmedH t.vm → Qw D tys w0 s.heap.size v w1 args s (.returned v) t := by
  intro t ht hW
  exact ⟨⟨rfl, by rw [ht]; exact hI.1, hG.warm hW, hI.2.1⟩, hI.2.2.F ht⟩
theorem xr_i {r : Int32} (hx : p.tables.exec = Jvm.exec) (hb : c.code = cc) (hr : meth.sig.returnType = some .int) (hlk : meth.locks = false) (hG : G D tys s) (hI : xI D (va_A w0 s.heap.size) s.heap w1 H locs) (hdg : decode cc pc = .ok (.ireturn, 1)) : W p l e R s m args below meth c H locs 0 0 (xQ D tys below args s w0 (some (.int r)) w1) (F0 m pc ls [.int r]) :=
  W.iret hx hb hr (xr_q hG hI) hI.2.2.2.2 hdg hlk
def b2i (b : Bool) : Int32 := if b then 1 else 0
theorem b2i_nar (b : Bool) : narrow .boolean (.int (b2i b)) = .int (b2i b) := by cases b <;> decide +kernel
theorem xr_z {r : Bool} {x : Int32} (hxr : x = b2i r) (hx : p.tables.exec = Jvm.exec) (hb : c.code = cc) (hr : meth.sig.returnType = some .boolean) (hlk : meth.locks = false) (hG : G D tys s) (hI : xI D (va_A w0 s.heap.size) s.heap w1 H locs) (hdg : decode cc pc = .ok (.ireturn, 1)) : W p l e R s m args below meth c H locs 0 0 (xQ D tys below args s w0 (some (.int (b2i r))) w1) (F0 m pc ls [.int x]) := by
  subst hxr
  exact W.zret hx hb hr (b2i_nar r) (xr_q hG hI) hI.2.2.2.2 hdg hlk
theorem xr_l {r : Int64} (hx : p.tables.exec = Jvm.exec) (hb : c.code = cc) (hr : meth.sig.returnType = some .long) (hlk : meth.locks = false) (hG : G D tys s) (hI : xI D (va_A w0 s.heap.size) s.heap w1 H locs) (hdg : decode cc pc = .ok (.lreturn, 1)) : W p l e R s m args below meth c H locs 0 0 (xQ D tys below args s w0 (some (.long r)) w1) (F0 m pc ls [.long r]) :=
  W.lret hx hb hr (xr_q hG hI) hI.2.2.2.2 hdg hlk
theorem xr_v (hx : p.tables.exec = Jvm.exec) (hb : c.code = cc) (hr : meth.sig.returnType = none) (hlk : meth.locks = false) (hG : G D tys s) (hI : xI D (va_A w0 s.heap.size) s.heap w1 H locs) (hdg : decode cc pc = .ok (.return_, 1)) : W p l e R s m args below meth c H locs 0 0 (xQ D tys below args s w0 none w1) (F0 m pc ls []) :=
  W.vret hx hb hr (xr_q hG hI) hI.2.2.2.2 hdg hlk
theorem xr_a {v : Value} {rn : String} (hx : p.tables.exec = Jvm.exec) (hb : c.code = cc) (hr : meth.sig.returnType = some (.object rn)) (hlk : meth.locks = false) (hv : v = .null ∨ ∃ a, v = .ref a) (hG : G D tys s) (hI : xI D (va_A w0 s.heap.size) s.heap w1 H locs) (hdg : decode cc pc = .ok (.areturn, 1)) : W p l e R s m args below meth c H locs 0 0 (xQ D tys below args s w0 (some v) w1) (F0 m pc ls [v]) :=
  W.aret hx hb hr (Or.inl ⟨_, rfl⟩) hv (xr_q hG hI) hI.2.2.2.2 hdg hlk
end XC
end
section
/-! ===== memory as numbers: cell i holds the row u i; what a machine step reads and writes of it ===== -/
abbrev Mem : Type := Nat → Nat → Int32
def upm (u : Mem) (i : Nat) (r : Nat → Int32) : Mem := fun k => if k = i then r else u k
def upf (u : Mem) (i k : Nat) (v : Int32) : Mem := upm u i (upd (u i) k v)
def rd (n : Nat) (f : Nat → Int32) (i : Int32) : Option Int32 := if i < 0 ∨ n ≤ i.toNatClampNeg then none else some (f i.toNatClampNeg)
def wr (n : Nat) (f : Nat → Int32) (i x : Int32) : Option (Nat → Int32) := if i < 0 ∨ n ≤ i.toNatClampNeg then none else some (upd f i.toNatClampNeg x)
def stI (n : Nat) (u : Mem) (a : Nat) (i x : Int32) : Option Mem := if i < 0 ∨ n ≤ i.toNatClampNeg then none else some (upm u a (upd (u a) i.toNatClampNeg x))
def stF (u : Mem) (a k : Nat) (v : Int32) : Option Mem := some (upf u a k v)
def ldA (n : Nat) (i : Int32) : Option Nat := if i < 0 ∨ n ≤ i.toNatClampNeg then none else some i.toNatClampNeg
def bnar (x : Int32) : Int32 := vp_nar .boolean x
def fu : Nat := 4096
def zg (x : Int32) : Option Bool := if x = 0 then some false else if x = 1 then some true else none
def bd2 {α β γ : Type} (x : Option (α × β)) (f : α → β → Option γ) : Option γ := x.bind fun q => f q.1 q.2
def bd3 {α β γ δ : Type} (x : Option (α × β × γ)) (f : α → β → γ → Option δ) : Option δ := x.bind fun q => f q.1 q.2.1 q.2.2
def bd4 {α β γ δ ε : Type} (x : Option (α × β × γ × δ)) (f : α → β → γ → δ → Option ε) : Option ε := x.bind fun q => f q.1 q.2.1 q.2.2.1 q.2.2.2
def bd5 {α β γ δ ε ζ : Type} (x : Option (α × β × γ × δ × ε)) (f : α → β → γ → δ → ε → Option ζ) : Option ζ := x.bind fun q => f q.1 q.2.1 q.2.2.1 q.2.2.2.1 q.2.2.2.2
theorem bd1_some {α β : Type} {x : Option α} {f : α → Option β} {r : β} (h : x.bind f = some r) : ∃ a, x = some a ∧ f a = some r := Option.bind_eq_some_iff.mp h
theorem bd2_some {α β γ : Type} {x : Option (α × β)} {f : α → β → Option γ} {r : γ} (h : bd2 x f = some r) : ∃ a b, x = some (a, b) ∧ f a b = some r := by
  obtain ⟨⟨a, b⟩, h1, h2⟩ := Option.bind_eq_some_iff.mp h
  exact ⟨a, b, h1, h2⟩
theorem bd3_some {α β γ δ : Type} {x : Option (α × β × γ)} {f : α → β → γ → Option δ} {r : δ} (h : bd3 x f = some r) : ∃ a b c, x = some (a, b, c) ∧ f a b c = some r := by
  obtain ⟨⟨a, b, c⟩, h1, h2⟩ := Option.bind_eq_some_iff.mp h
  exact ⟨a, b, c, h1, h2⟩
theorem bd4_some {α β γ δ ε : Type} {x : Option (α × β × γ × δ)} {f : α → β → γ → δ → Option ε} {r : ε} (h : bd4 x f = some r) : ∃ a b c d, x = some (a, b, c, d) ∧ f a b c d = some r := by
  obtain ⟨⟨a, b, c, d⟩, h1, h2⟩ := Option.bind_eq_some_iff.mp h
  exact ⟨a, b, c, d, h1, h2⟩
theorem bd5_some {α β γ δ ε ζ : Type} {x : Option (α × β × γ × δ × ε)} {f : α → β → γ → δ → ε → Option ζ} {r : ζ} (h : bd5 x f = some r) : ∃ a b c d g, x = some (a, b, c, d, g) ∧ f a b c d g = some r := by
  obtain ⟨⟨a, b, c, d, g⟩, h1, h2⟩ := Option.bind_eq_some_iff.mp h
  exact ⟨a, b, c, d, g, h1, h2⟩
theorem rd_some {n : Nat} {f : Nat → Int32} {i v : Int32} (h : rd n f i = some v) : vp_in i n ∧ f i.toNatClampNeg = v := by
  unfold rd at h
  split at h
  · cases h
  · rename_i q
    exact ⟨q, Option.some.inj h⟩
theorem wr_some {n : Nat} {f g : Nat → Int32} {i x : Int32} (h : wr n f i x = some g) : vp_in i n ∧ upd f i.toNatClampNeg x = g := by
  unfold wr at h
  split at h
  · cases h
  · rename_i q
    exact ⟨q, Option.some.inj h⟩
theorem stI_some {n a : Nat} {u v : Mem} {i x : Int32} (h : stI n u a i x = some v) : vp_in i n ∧ upm u a (upd (u a) i.toNatClampNeg x) = v := by
  unfold stI at h
  split at h
  · cases h
  · rename_i q
    exact ⟨q, Option.some.inj h⟩
theorem ldA_some {n k : Nat} {i : Int32} (h : ldA n i = some k) : vp_in i n ∧ i.toNatClampNeg = k ∧ k < n := by
  unfold ldA at h
  split at h
  · cases h
  · rename_i q
    have h1 := Option.some.inj h
    exact ⟨q, h1, by rw [← h1]; exact Nat.not_le.mp fun z => q (Or.inr z)⟩
theorem zg_some {x : Int32} {b : Bool} (h : zg x = some b) : x = b2i b := by
  unfold zg at h
  split at h
  · rename_i q
    cases Option.some.inj h
    exact q
  · split at h
    · rename_i q
      cases Option.some.inj h
      exact q
    · cases h
theorem upm_id (u : Mem) (i : Nat) : upm u i (u i) = u := by
  funext k
  unfold upm
  split
  · rename_i h; rw [h]
  · rfl
theorem upm_same (u : Mem) (i : Nat) (r : Nat → Int32) : upm u i r i = r := by simp [upm]
theorem upm_ne (u : Mem) {i k : Nat} (r : Nat → Int32) (h : k ≠ i) : upm u i r k = u k := by simp [upm, h]
theorem upm_upm (u : Mem) (i : Nat) (r q : Nat → Int32) : upm (upm u i r) i q = upm u i q := by
  funext k
  unfold upm
  split <;> rfl
/-! ===== a world of N cells, laid by e ===== -/
def wG (e : (Nat → Int32) → Nat → va_E) (N : Nat) (B : Nat → Nat) (u : Mem) : va_W := (List.range N).map (fun i => (B i, e (u i) i))
theorem wG_at {e : (Nat → Int32) → Nat → va_E} {N : Nat} {B : Nat → Nat} {u : Mem} {i : Nat} (h : i < N) : (wG e N B u)[i]? = some (B i, e (u i) i) := by
  simp [wG, h]
theorem wG_set {e : (Nat → Int32) → Nat → va_E} {N : Nat} {B : Nat → Nat} {u : Mem} {i : Nat} (h : i < N) (r : Nat → Int32) : (wG e N B u).set i (B i, e r i) = wG e N B (upm u i r) := by
  apply List.ext_getElem?
  intro k
  by_cases hk : k = i
  · subst hk
    rw [List.getElem?_set_self (by simp [wG, h]), wG_at h, upm_same]
  · rw [List.getElem?_set_ne (Ne.symm hk)]
    by_cases hN : k < N
    · rw [wG_at hN, wG_at hN, upm_ne u r hk]
    · rw [List.getElem?_eq_none (by simp [wG]; omega), List.getElem?_eq_none (by simp [wG]; omega)]
section XG
variable {p : Program} {l : Launch} {e : Env} {R : Room} {s : State} {m : MethodId} {args : Array Value} {below : List Frame} {meth : Method} {c : Code} {H : Heap} {locs : List Loc} {Q : State → Prop}
variable {cc : ByteArray} {pc : Nat} {ls : Array Slot} {rest : List Value} {D : va_G} {A : Nat → Prop} {tys : List (ClassId × FieldType)} {H0 : Heap}
variable {en : (Nat → Int32) → Nat → va_E} {N : Nat} {B : Nat → Nat} {u u1 : Mem}
theorem xg_get {own C : String} {T : u_T} {M ci index i : Nat} {fs : List Value} (hx : p.tables.exec = Jvm.exec) (hb : c.code = cc) (hown : s.vm.findClass own = some m.cls) (hG : G D tys s) (hI : xI D A H0 (wG en N B u) H locs) (hi : i < N) (he : en (u i) i = .inr (ci, fs)) (hc : vwCl[ci]? = some (C, T, M)) (hin : ∀ w ∈ u_ws C T M, w ∈ tb) (k : Nat) (hk : k < M) (hl : Cond.fieldLink own index (T k).1 (T k).2.1 (T k).2.2.1 ∈ tb) {v : Value} (hv : fs[k]? = some v) (hdg : decode cc pc = .ok (.getfield index, 3))
    (kk : W p l e R s m args below meth c H locs 0 0 Q (F0 m (pc + 3) ls (v :: rest))) : W p l e R s m args below meth c H locs 0 0 Q (F0 m pc ls (.ref (B i) :: rest)) :=
  va_get (Ts := tb) hx hb (fun w h => hG.2 w h args) hin hown hG.1 hI.1 i (by rw [wG_at hi, he]) hc k hk (hG.2 _ hl args) (fun _ h => h) hv hdg kk
theorem xg_getN {own C host : String} {T : u_T} {M ci index i : Nat} {fs : List Value} (hx : p.tables.exec = Jvm.exec) (hb : c.code = cc) (hown : s.vm.findClass own = some m.cls) (hG : G D tys s) (hI : xI D A H0 (wG en N B u) H locs) (hi : i < N) (he : en (u i) i = .inr (ci, fs)) (hc : vwCl[ci]? = some (C, T, M)) (hin : ∀ w ∈ u_ws C T M, w ∈ tb) (k : Nat) (hk : k < M) (hl : Cond.fieldLinkNest own index (T k).1 (T k).2.1 (T k).2.2.1 host ∈ tb) {v : Value} (hv : fs[k]? = some v) (hdg : decode cc pc = .ok (.getfield index, 3))
    (kk : W p l e R s m args below meth c H locs 0 0 Q (F0 m (pc + 3) ls (v :: rest))) : W p l e R s m args below meth c H locs 0 0 Q (F0 m pc ls (.ref (B i) :: rest)) :=
  va_getN (Ts := tb) hx hb (fun w h => hG.2 w h args) hin hown hG.1 hI.1 i (by rw [wG_at hi, he]) hc k hk (hG.2 _ hl args) (fun _ h => h) hv hdg kk
theorem xg_put {own C : String} {T : u_T} {M ci index i : Nat} {fs : List Value} (hx : p.tables.exec = Jvm.exec) (hb : c.code = cc) (hown : s.vm.findClass own = some m.cls) (hG : G D tys s) (hI : xI D A H0 (wG en N B u) H locs) (hi : i < N) (he : en (u i) i = .inr (ci, fs)) (hc : vwCl[ci]? = some (C, T, M)) (hin : ∀ w ∈ u_ws C T M, w ∈ tb) (ty0 : Nat → FieldType) (hty : ∀ k, k < M → parseFieldDescriptor (T k).2.2.1 = some (ty0 k)) (hnm : ∀ a, a < M → ∀ b, b < M → a ≠ b → (T a).2.1 ≠ (T b).2.1) (k : Nat) (hk : k < M) (hl : Cond.fieldLink own index (T k).1 (T k).2.1 (T k).2.2.1 ∈ tb) {x : Int32} (hfin : (T k).2.2.2 = false) {ty : FieldType} (hd : parseFieldDescriptor (T k).2.2.1 = some ty) (hn : narrow ty (.int x) = .int x) (hfit : fits ty (.int x) = true) (hlen : k < fs.length) (hs : en (upd (u i) k x) i = .inr (ci, fs.set k (.int x))) (hu : stF u i k x = some u1) (hdg : decode cc pc = .ok (.putfield index, 3))
    (kk : ∀ (H1 : Heap) (locs1 : List Loc), xI D A H0 (wG en N B u1) H1 locs1 → W p l e R s m args below meth c H1 locs1 0 0 Q (F0 m (pc + 3) ls rest)) : W p l e R s m args below meth c H locs 0 0 Q (F0 m pc ls (.int x :: .ref (B i) :: rest)) := by
  cases hu
  refine va_put (Ts := tb) hx hb (fun w h => hG.2 w h args) hin ty0 hty hnm hown hG.1 hI.1 hI.2.1 hI.2.2 i (by rw [wG_at hi, he]) hc k hk (hG.2 _ hl args) (fun _ h => h) hfin hd hn hfit hlen hdg (fun H1 locs1 h1 h2 h3 => ?_)
  rw [← hs, wG_set hi] at h1 h2
  exact kk H1 locs1 ⟨h1, h2, h3⟩
theorem xg_putN {own C host : String} {T : u_T} {M ci index i : Nat} {fs : List Value} (hx : p.tables.exec = Jvm.exec) (hb : c.code = cc) (hown : s.vm.findClass own = some m.cls) (hG : G D tys s) (hI : xI D A H0 (wG en N B u) H locs) (hi : i < N) (he : en (u i) i = .inr (ci, fs)) (hc : vwCl[ci]? = some (C, T, M)) (hin : ∀ w ∈ u_ws C T M, w ∈ tb) (ty0 : Nat → FieldType) (hty : ∀ k, k < M → parseFieldDescriptor (T k).2.2.1 = some (ty0 k)) (hnm : ∀ a, a < M → ∀ b, b < M → a ≠ b → (T a).2.1 ≠ (T b).2.1) (k : Nat) (hk : k < M) (hl : Cond.fieldLinkNest own index (T k).1 (T k).2.1 (T k).2.2.1 host ∈ tb) {x : Int32} (hfin : (T k).2.2.2 = false) {ty : FieldType} (hd : parseFieldDescriptor (T k).2.2.1 = some ty) (hn : narrow ty (.int x) = .int x) (hfit : fits ty (.int x) = true) (hlen : k < fs.length) (hs : en (upd (u i) k x) i = .inr (ci, fs.set k (.int x))) (hu : stF u i k x = some u1) (hdg : decode cc pc = .ok (.putfield index, 3))
    (kk : ∀ (H1 : Heap) (locs1 : List Loc), xI D A H0 (wG en N B u1) H1 locs1 → W p l e R s m args below meth c H1 locs1 0 0 Q (F0 m (pc + 3) ls rest)) : W p l e R s m args below meth c H locs 0 0 Q (F0 m pc ls (.int x :: .ref (B i) :: rest)) := by
  cases hu
  refine va_putN (Ts := tb) hx hb (fun w h => hG.2 w h args) hin ty0 hty hnm hown hG.1 hI.1 hI.2.1 hI.2.2 i (by rw [wG_at hi, he]) hc k hk (hG.2 _ hl args) (fun _ h => h) hfin hd hn hfit hlen hdg (fun H1 locs1 h1 h2 h3 => ?_)
  rw [← hs, wG_set hi] at h1 h2
  exact kk H1 locs1 ⟨h1, h2, h3⟩
theorem xg_iald {i n : Nat} {cA : ClassId} {ix v : Int32} (t0 : Nat) (hx : p.tables.exec = Jvm.exec) (hb : c.code = cc) (hG : G D tys s) (hI : xI D A H0 (wG en N B u) H locs) (hi : i < N) (he : ∀ r, en r i = .inl (cA, n, .inl r)) (ht : tys[t0]? = some (cA, .int)) (hv : rd n (u i) ix = some v) (hdg : decode cc pc = .ok (.iaload, 1))
    (kk : W p l e R s m args below meth c H locs 0 0 Q (F0 m (pc + 1) ls (.int v :: rest))) : W p l e R s m args below meth c H locs 0 0 Q (F0 m pc ls (.int ix :: .ref (B i) :: rest)) := by
  obtain ⟨h1, h2⟩ := rd_some hv
  subst h2
  exact va_iald hx hb hG.1 hI.1 i t0 (by rw [wG_at hi, he]) ht h1 hdg kk
theorem xg_zald {i n : Nat} {cA : ClassId} {ix v : Int32} (t0 : Nat) (hx : p.tables.exec = Jvm.exec) (hb : c.code = cc) (hG : G D tys s) (hI : xI D A H0 (wG en N B u) H locs) (hi : i < N) (he : ∀ r, en r i = .inl (cA, n, .inl r)) (ht : tys[t0]? = some (cA, .boolean)) (hv : rd n (u i) ix = some v) (hdg : decode cc pc = .ok (.baload, 1))
    (kk : W p l e R s m args below meth c H locs 0 0 Q (F0 m (pc + 1) ls (.int v :: rest))) : W p l e R s m args below meth c H locs 0 0 Q (F0 m pc ls (.int ix :: .ref (B i) :: rest)) := by
  obtain ⟨h1, h2⟩ := rd_some hv
  subst h2
  exact va_zald hx hb hG.1 hI.1 i t0 (by rw [wG_at hi, he]) ht h1 hdg kk
theorem xg_iast {i n : Nat} {cA : ClassId} {ix x : Int32} (t0 : Nat) (hx : p.tables.exec = Jvm.exec) (hb : c.code = cc) (hG : G D tys s) (hI : xI D A H0 (wG en N B u) H locs) (hi : i < N) (he : ∀ r, en r i = .inl (cA, n, .inl r)) (ht : tys[t0]? = some (cA, .int)) (hv : stI n u i ix x = some u1) (hdg : decode cc pc = .ok (.iastore, 1))
    (kk : ∀ (H1 : Heap) (locs1 : List Loc), xI D A H0 (wG en N B u1) H1 locs1 → W p l e R s m args below meth c H1 locs1 0 0 Q (F0 m (pc + 1) ls rest)) : W p l e R s m args below meth c H locs 0 0 Q (F0 m pc ls (.int x :: .int ix :: .ref (B i) :: rest)) := by
  obtain ⟨h1, h2⟩ := stI_some hv
  subst h2
  refine va_iast hx hb hG.1 hI.1 hI.2.1 hI.2.2 i t0 (by rw [wG_at hi, he]) ht h1 hdg (fun H1 locs1 g1 g2 g3 => ?_)
  rw [← he, wG_set hi] at g1 g2
  exact kk H1 locs1 ⟨g1, g2, g3⟩
theorem xg_zast {i n : Nat} {cA : ClassId} {ix x : Int32} (t0 : Nat) (hx : p.tables.exec = Jvm.exec) (hb : c.code = cc) (hG : G D tys s) (hI : xI D A H0 (wG en N B u) H locs) (hi : i < N) (he : ∀ r, en r i = .inl (cA, n, .inl r)) (ht : tys[t0]? = some (cA, .boolean)) (hv : stI n u i ix (bnar x) = some u1) (hdg : decode cc pc = .ok (.bastore, 1))
    (kk : ∀ (H1 : Heap) (locs1 : List Loc), xI D A H0 (wG en N B u1) H1 locs1 → W p l e R s m args below meth c H1 locs1 0 0 Q (F0 m (pc + 1) ls rest)) : W p l e R s m args below meth c H locs 0 0 Q (F0 m pc ls (.int x :: .int ix :: .ref (B i) :: rest)) := by
  obtain ⟨h1, h2⟩ := stI_some hv
  subst h2
  refine va_zast hx hb hG.1 hI.1 hI.2.1 hI.2.2 i t0 (by rw [wG_at hi, he]) ht h1 hdg (fun H1 locs1 g1 g2 g3 => ?_)
  rw [← he, wG_set hi] at g1 g2
  exact kk H1 locs1 ⟨g1, g2, g3⟩
theorem xg_alen {i n : Nat} {cA : ClassId} {v : Int32} {ty : FieldType} (t0 : Nat) (hx : p.tables.exec = Jvm.exec) (hb : c.code = cc) (hG : G D tys s) (hI : xI D A H0 (wG en N B u) H locs) (hi : i < N) (he : ∀ r, en r i = .inl (cA, n, .inl r)) (ht : tys[t0]? = some (cA, ty)) (hv : Int32.ofNat n = v) (hdg : decode cc pc = .ok (.arraylength, 1))
    (kk : W p l e R s m args below meth c H locs 0 0 Q (F0 m (pc + 1) ls (.int v :: rest))) : W p l e R s m args below meth c H locs 0 0 Q (F0 m pc ls (.ref (B i) :: rest)) :=
  va_alen hx hb hG.1 hI.1 i t0 (by rw [wG_at hi, he]) ht hv hdg kk
theorem xg_aald {i n : Nat} {cA : ClassId} {ix : Int32} {C : String} {k : Nat} {g : Nat → Option Nat} (t0 : Nat) (hx : p.tables.exec = Jvm.exec) (hb : c.code = cc) (hG : G D tys s) (hI : xI D A H0 (wG en N B u) H locs) (hi : i < N) (he : ∀ r, en r i = .inl (cA, n, .inr (.inr (.inr (.inr g))))) (ht : tys[t0]? = some (cA, .object C)) (hv : ldA n ix = some k) (hdg : decode cc pc = .ok (.aaload, 1))
    (kk : W p l e R s m args below meth c H locs 0 0 Q (F0 m (pc + 1) ls (va_rf (g k) :: rest))) : W p l e R s m args below meth c H locs 0 0 Q (F0 m pc ls (.int ix :: .ref (B i) :: rest)) := by
  obtain ⟨h1, h2, -⟩ := ldA_some hv
  subst h2
  exact va_aldq hx hb hG.1 hI.1 i t0 (by rw [wG_at hi, he]) ht h1 hdg kk
/-- System.arraycopy of a whole row of numbers -/
theorem xg_copy {own : String} {index i j n nL : Nat} {cA : ClassId} {z : Int32} (t0 : Nat) (hx : p.tables.exec = Jvm.exec) (hb : c.code = cc) (hml : c.maxLocals = nL) (hls : ls.size = nL) (hown : s.vm.findClass own = some m.cls) (hl : Cond.methodLink own index arraycopyName ∈ tb) (hl2 : Cond.native arraycopyName ∈ tb) (hl3 : Cond.static arraycopyName ∈ tb) (hl4 : Cond.initialized "java/lang/System" ∈ tb)
    (hG : G D tys s) (hI : xI D A H0 (wG en N B u) H locs) (hi : i < N) (hj : j < N) (hei : ∀ r, en r i = .inl (cA, n, .inl r)) (hej : ∀ r, en r j = .inl (cA, n, .inl r)) (ht : tys[t0]? = some (cA, .int)) (hz0 : ¬ z < 0) (hz : z.toNatClampNeg = n) (hu : upm u j (va_cpy (u i) (u j) 0 0 n) = u1)
    (hframes : 1 ≤ R.frames) (hlocals : (rest.map fun v => v.category).sum + (nativeFrameWords "java/lang/System" "arraycopy" 5 + 11) ≤ R.locals) (hdg : decode cc pc = .ok (.invokestatic index, 3))
    (kk : ∀ (H1 : Heap) (locs1 : List Loc), xI D A H0 (wG en N B u1) H1 locs1 → W p l e R s m args below meth c H1 locs1 0 0 Q (F0 m (pc + 3) ls rest)) : W p l e R s m args below meth c H locs 0 0 Q (F0 m pc ls (.int z :: .int 0 :: .ref (B j) :: .int 0 :: .ref (B i) :: rest)) := by
  subst hu
  refine va_copyi (ty := .int) hx hb (hml.trans hls.symm) hown (hG.2 _ hl args) (hG.2 _ hl2 args) (hG.2 _ hl3 args) (hG.2 _ hl4 args) hG.1 hI.1 hI.2.1 hI.2.2 i j t0 t0 (by rw [wG_at hi, hei]) (by rw [wG_at hj, hej]) ht ht rfl (by decide) (by decide) hz0 (by rw [hz]; simp) (by rw [hz]; simp) (fun _ _ => rfl) hframes hlocals hdg (fun H1 locs1 g1 g2 g3 => ?_)
  rw [hz] at g1 g2
  have e0 : (0 : Int32).toNatClampNeg = 0 := by decide
  rw [e0, ← hej, wG_set hj] at g1 g2
  exact kk H1 locs1 ⟨g1, g2, g3⟩
end XG
/-! ===== one outline in any world ===== -/
def wO (ws : va_W) (k1 : Nat) (cI : ClassId) (a : Nat) (f : Nat → Int32) : va_W := ws.set k1 (a, .inl (cI, 80, .inl f))
def OK (ws : va_W) (k0 k1 o a : Nat) : Prop := ws[k0]? = some (o, .inr (4, [.ref a])) ∧ k1 < ws.length ∧ k0 ≠ k1
theorem wO_at0 {ws : va_W} {k0 k1 o a : Nat} {cI : ClassId} {f : Nat → Int32} (h : OK ws k0 k1 o a) : (wO ws k1 cI a f)[k0]? = some (o, .inr (4, [.ref a])) := by
  rw [wO, List.getElem?_set_ne (Ne.symm h.2.2)]
  exact h.1
theorem wO_at1 {ws : va_W} {k0 k1 o a : Nat} {cI : ClassId} {f : Nat → Int32} (h : OK ws k0 k1 o a) : (wO ws k1 cI a f)[k1]? = some (a, .inl (cI, 80, .inl f)) := by
  rw [wO, List.getElem?_set_self h.2.1]
theorem wO_set {ws : va_W} {k1 a : Nat} {cI : ClassId} {f g : Nat → Int32} : (wO ws k1 cI a f).set k1 (a, .inl (cI, 80, .inl g)) = wO ws k1 cI a g := by
  simp [wO]
section XO
variable {p : Program} {l : Launch} {e : Env} {R : Room} {s : State} {m : MethodId} {args : Array Value} {below : List Frame} {meth : Method} {c : Code} {H : Heap} {locs : List Loc} {Q : State → Prop}
variable {cc : ByteArray} {pc : Nat} {ls : Array Slot} {rest : List Value} {D : va_G} {A : Nat → Prop} {tys : List (ClassId × FieldType)} {H0 : Heap}
variable {ws : va_W} {k0 k1 o a : Nat} {cI : ClassId} {f f1 : Nat → Int32}
theorem xo_get {own : String} {index : Nat} (hx : p.tables.exec = Jvm.exec) (hb : c.code = cc) (hown : s.vm.findClass own = some m.cls) (hG : G D tys s) (hI : xI D A H0 (wO ws k1 cI a f) H locs) (hO : OK ws k0 k1 o a) (hl : Cond.fieldLink own index (TX4 0).1 (TX4 0).2.1 (TX4 0).2.2.1 ∈ tb) (hdg : decode cc pc = .ok (.getfield index, 3))
    (kk : W p l e R s m args below meth c H locs 0 0 Q (F0 m (pc + 3) ls (.ref a :: rest))) : W p l e R s m args below meth c H locs 0 0 Q (F0 m pc ls (.ref o :: rest)) :=
  va_get (Ts := tb) (C := RX4) (T := TX4) (N := 1) hx hb (fun w h => hG.2 w h args) inX4 hown hG.1 hI.1 k0 (wO_at0 hO) rfl 0 (by decide) (hG.2 _ hl args) (fun _ h => h) rfl hdg kk
theorem xo_iald {ix v : Int32} (t0 : Nat) (hx : p.tables.exec = Jvm.exec) (hb : c.code = cc) (hG : G D tys s) (hI : xI D A H0 (wO ws k1 cI a f) H locs) (hO : OK ws k0 k1 o a) (ht : tys[t0]? = some (cI, .int)) (hv : rd 80 f ix = some v) (hdg : decode cc pc = .ok (.iaload, 1))
    (kk : W p l e R s m args below meth c H locs 0 0 Q (F0 m (pc + 1) ls (.int v :: rest))) : W p l e R s m args below meth c H locs 0 0 Q (F0 m pc ls (.int ix :: .ref a :: rest)) := by
  obtain ⟨h1, h2⟩ := rd_some hv
  subst h2
  exact va_iald hx hb hG.1 hI.1 k1 t0 (wO_at1 hO) ht h1 hdg kk
theorem xo_iast {ix x : Int32} (t0 : Nat) (hx : p.tables.exec = Jvm.exec) (hb : c.code = cc) (hG : G D tys s) (hI : xI D A H0 (wO ws k1 cI a f) H locs) (hO : OK ws k0 k1 o a) (ht : tys[t0]? = some (cI, .int)) (hv : wr 80 f ix x = some f1) (hdg : decode cc pc = .ok (.iastore, 1))
    (kk : ∀ (H1 : Heap) (locs1 : List Loc), xI D A H0 (wO ws k1 cI a f1) H1 locs1 → W p l e R s m args below meth c H1 locs1 0 0 Q (F0 m (pc + 1) ls rest)) : W p l e R s m args below meth c H locs 0 0 Q (F0 m pc ls (.int x :: .int ix :: .ref a :: rest)) := by
  obtain ⟨h1, h2⟩ := wr_some hv
  subst h2
  refine va_iast hx hb hG.1 hI.1 hI.2.1 hI.2.2 k1 t0 (wO_at1 hO) ht h1 hdg (fun H1 locs1 g1 g2 g3 => ?_)
  rw [wO_set] at g1 g2
  exact kk H1 locs1 ⟨g1, g2, g3⟩
end XO
end
