section
-- ===== PART A: goes FIRST, ahead of the names: the tables' words, and 'selects' of the private methods out of them =====
/-- a private method of a class that the tables say can be made, by its rows of tables_1 -/
def lw_okq (q : MethodName × Nat) : Prop := (q.1.cls ≠ "java/lang/invoke/MethodHandle" ∧ q.1.cls ≠ "java/lang/invoke/VarHandle") ∧ Cond.instantiable q.1.cls q.2 ∈ tables_1 ∧ Cond.privateMethod q.1 ∈ tables_1 ∧ Cond.instanceMethod q.1 ∈ tables_1
theorem lw_p0 : lw_okq (⟨"MergedOutline$Outline", "shift", "(III)V"⟩, 1) := ⟨⟨by decide +kernel, by decide +kernel⟩, List.mem_of_getElem? (i := 29) (by decide +kernel), List.mem_of_getElem? (i := 286) (by decide +kernel), List.mem_of_getElem? (i := 287) (by decide +kernel)⟩
theorem lw_p1 : lw_okq (⟨"MergedOutline", "settled", "(I)I"⟩, 10) := ⟨⟨by decide +kernel, by decide +kernel⟩, List.mem_of_getElem? (i := 15) (by decide +kernel), List.mem_of_getElem? (i := 299) (by decide +kernel), List.mem_of_getElem? (i := 300) (by decide +kernel)⟩
theorem lw_p2 : lw_okq (⟨"MergedOutline", "refuse", "(I)I"⟩, 10) := ⟨⟨by decide +kernel, by decide +kernel⟩, List.mem_of_getElem? (i := 15) (by decide +kernel), List.mem_of_getElem? (i := 303) (by decide +kernel), List.mem_of_getElem? (i := 304) (by decide +kernel)⟩
theorem lw_p3 : lw_okq (⟨"MergedOutline$History", "slot", "(I)LMergedOutline$Desk;"⟩, 3) := ⟨⟨by decide +kernel, by decide +kernel⟩, List.mem_of_getElem? (i := 69) (by decide +kernel), List.mem_of_getElem? (i := 311) (by decide +kernel), List.mem_of_getElem? (i := 312) (by decide +kernel)⟩
theorem lw_p4 : lw_okq (⟨"MergedOutline", "outline", "(I)LMergedOutline$Outline;"⟩, 10) := ⟨⟨by decide +kernel, by decide +kernel⟩, List.mem_of_getElem? (i := 15) (by decide +kernel), List.mem_of_getElem? (i := 395) (by decide +kernel), List.mem_of_getElem? (i := 396) (by decide +kernel)⟩
theorem lw_p5 : lw_okq (⟨"MergedOutline$Merger", "chooseSections", "()V"⟩, 6) := ⟨⟨by decide +kernel, by decide +kernel⟩, List.mem_of_getElem? (i := 89) (by decide +kernel), List.mem_of_getElem? (i := 410) (by decide +kernel), List.mem_of_getElem? (i := 411) (by decide +kernel)⟩
theorem lw_p6 : lw_okq (⟨"MergedOutline$Merger", "isChanged", "(ILMergedOutline$Outline;)Z"⟩, 6) := ⟨⟨by decide +kernel, by decide +kernel⟩, List.mem_of_getElem? (i := 89) (by decide +kernel), List.mem_of_getElem? (i := 416) (by decide +kernel), List.mem_of_getElem? (i := 417) (by decide +kernel)⟩
theorem lw_p7 : lw_okq (⟨"MergedOutline$Merger", "isOther", "(ILMergedOutline$Outline;I)Z"⟩, 6) := ⟨⟨by decide +kernel, by decide +kernel⟩, List.mem_of_getElem? (i := 89) (by decide +kernel), List.mem_of_getElem? (i := 420) (by decide +kernel), List.mem_of_getElem? (i := 421) (by decide +kernel)⟩
theorem lw_p8 : lw_okq (⟨"MergedOutline$Merger", "hasNewChild", "(ILMergedOutline$Outline;)Z"⟩, 6) := ⟨⟨by decide +kernel, by decide +kernel⟩, List.mem_of_getElem? (i := 89) (by decide +kernel), List.mem_of_getElem? (i := 425) (by decide +kernel), List.mem_of_getElem? (i := 426) (by decide +kernel)⟩
theorem lw_p9 : lw_okq (⟨"MergedOutline$Merger", "chooseTraits", "(II)V"⟩, 6) := ⟨⟨by decide +kernel, by decide +kernel⟩, List.mem_of_getElem? (i := 89) (by decide +kernel), List.mem_of_getElem? (i := 434) (by decide +kernel), List.mem_of_getElem? (i := 435) (by decide +kernel)⟩
theorem lw_p10 : lw_okq (⟨"MergedOutline$Merger", "sourceOf", "(II)LMergedOutline$Outline;"⟩, 6) := ⟨⟨by decide +kernel, by decide +kernel⟩, List.mem_of_getElem? (i := 89) (by decide +kernel), List.mem_of_getElem? (i := 438) (by decide +kernel), List.mem_of_getElem? (i := 439) (by decide +kernel)⟩
theorem lw_p11 : lw_okq (⟨"MergedOutline$Merger", "isDisputed", "(II)Z"⟩, 6) := ⟨⟨by decide +kernel, by decide +kernel⟩, List.mem_of_getElem? (i := 89) (by decide +kernel), List.mem_of_getElem? (i := 451) (by decide +kernel), List.mem_of_getElem? (i := 452) (by decide +kernel)⟩
theorem lw_p12 : lw_okq (⟨"MergedOutline$Merger", "rehang", "()V"⟩, 6) := ⟨⟨by decide +kernel, by decide +kernel⟩, List.mem_of_getElem? (i := 89) (by decide +kernel), List.mem_of_getElem? (i := 455) (by decide +kernel), List.mem_of_getElem? (i := 456) (by decide +kernel)⟩
theorem lw_p13 : lw_okq (⟨"MergedOutline$Merger", "nearest", "(I)I"⟩, 6) := ⟨⟨by decide +kernel, by decide +kernel⟩, List.mem_of_getElem? (i := 89) (by decide +kernel), List.mem_of_getElem? (i := 459) (by decide +kernel), List.mem_of_getElem? (i := 460) (by decide +kernel)⟩
theorem lw_p14 : lw_okq (⟨"MergedOutline$Merger", "undoRings", "()V"⟩, 6) := ⟨⟨by decide +kernel, by decide +kernel⟩, List.mem_of_getElem? (i := 89) (by decide +kernel), List.mem_of_getElem? (i := 463) (by decide +kernel), List.mem_of_getElem? (i := 464) (by decide +kernel)⟩
theorem lw_p15 : lw_okq (⟨"MergedOutline$Merger", "leastInRing", "()I"⟩, 6) := ⟨⟨by decide +kernel, by decide +kernel⟩, List.mem_of_getElem? (i := 89) (by decide +kernel), List.mem_of_getElem? (i := 467) (by decide +kernel), List.mem_of_getElem? (i := 468) (by decide +kernel)⟩
def lw_privs_1 : List (MethodName × Nat) := [(⟨"MergedOutline$Outline", "shift", "(III)V"⟩, 1), (⟨"MergedOutline", "settled", "(I)I"⟩, 10), (⟨"MergedOutline", "refuse", "(I)I"⟩, 10), (⟨"MergedOutline$History", "slot", "(I)LMergedOutline$Desk;"⟩, 3), (⟨"MergedOutline", "outline", "(I)LMergedOutline$Outline;"⟩, 10), (⟨"MergedOutline$Merger", "chooseSections", "()V"⟩, 6), (⟨"MergedOutline$Merger", "isChanged", "(ILMergedOutline$Outline;)Z"⟩, 6), (⟨"MergedOutline$Merger", "isOther", "(ILMergedOutline$Outline;I)Z"⟩, 6), (⟨"MergedOutline$Merger", "hasNewChild", "(ILMergedOutline$Outline;)Z"⟩, 6), (⟨"MergedOutline$Merger", "chooseTraits", "(II)V"⟩, 6), (⟨"MergedOutline$Merger", "sourceOf", "(II)LMergedOutline$Outline;"⟩, 6), (⟨"MergedOutline$Merger", "isDisputed", "(II)Z"⟩, 6), (⟨"MergedOutline$Merger", "rehang", "()V"⟩, 6), (⟨"MergedOutline$Merger", "nearest", "(I)I"⟩, 6), (⟨"MergedOutline$Merger", "undoRings", "()V"⟩, 6), (⟨"MergedOutline$Merger", "leastInRing", "()I"⟩, 6)]
theorem lw_r1 : ∀ q ∈ lw_privs_1, lw_okq q := List.forall_mem_cons.mpr ⟨lw_p0, List.forall_mem_cons.mpr ⟨lw_p1, List.forall_mem_cons.mpr ⟨lw_p2, List.forall_mem_cons.mpr ⟨lw_p3, List.forall_mem_cons.mpr ⟨lw_p4, List.forall_mem_cons.mpr ⟨lw_p5, List.forall_mem_cons.mpr ⟨lw_p6, List.forall_mem_cons.mpr ⟨lw_p7, List.forall_mem_cons.mpr ⟨lw_p8, List.forall_mem_cons.mpr ⟨lw_p9, List.forall_mem_cons.mpr ⟨lw_p10, List.forall_mem_cons.mpr ⟨lw_p11, List.forall_mem_cons.mpr ⟨lw_p12, List.forall_mem_cons.mpr ⟨lw_p13, List.forall_mem_cons.mpr ⟨lw_p14, List.forall_mem_cons.mpr ⟨lw_p15, fun _ h => absurd h List.not_mem_nil⟩⟩⟩⟩⟩⟩⟩⟩⟩⟩⟩⟩⟩⟩⟩⟩
theorem lw_p16 : lw_okq (⟨"MergedOutline$Merger", "leastToPutBack", "(I)I"⟩, 6) := ⟨⟨by decide +kernel, by decide +kernel⟩, List.mem_of_getElem? (i := 89) (by decide +kernel), List.mem_of_getElem? (i := 472) (by decide +kernel), List.mem_of_getElem? (i := 473) (by decide +kernel)⟩
theorem lw_p17 : lw_okq (⟨"MergedOutline$Merger", "isMoveOfOther", "(I)Z"⟩, 6) := ⟨⟨by decide +kernel, by decide +kernel⟩, List.mem_of_getElem? (i := 89) (by decide +kernel), List.mem_of_getElem? (i := 476) (by decide +kernel), List.mem_of_getElem? (i := 477) (by decide +kernel)⟩
theorem lw_p18 : lw_okq (⟨"MergedOutline$Merger", "rehangFromRing", "(II)V"⟩, 6) := ⟨⟨by decide +kernel, by decide +kernel⟩, List.mem_of_getElem? (i := 89) (by decide +kernel), List.mem_of_getElem? (i := 483) (by decide +kernel), List.mem_of_getElem? (i := 484) (by decide +kernel)⟩
theorem lw_p19 : lw_okq (⟨"MergedOutline$Merger", "orderChildren", "()V"⟩, 6) := ⟨⟨by decide +kernel, by decide +kernel⟩, List.mem_of_getElem? (i := 89) (by decide +kernel), List.mem_of_getElem? (i := 487) (by decide +kernel), List.mem_of_getElem? (i := 488) (by decide +kernel)⟩
theorem lw_p20 : lw_okq (⟨"MergedOutline$Merger", "keyOf", "(I)I"⟩, 6) := ⟨⟨by decide +kernel, by decide +kernel⟩, List.mem_of_getElem? (i := 89) (by decide +kernel), List.mem_of_getElem? (i := 491) (by decide +kernel), List.mem_of_getElem? (i := 492) (by decide +kernel)⟩
theorem lw_p21 : lw_okq (⟨"MergedOutline$Merger", "countAhead", "(I)I"⟩, 6) := ⟨⟨by decide +kernel, by decide +kernel⟩, List.mem_of_getElem? (i := 89) (by decide +kernel), List.mem_of_getElem? (i := 495) (by decide +kernel), List.mem_of_getElem? (i := 496) (by decide +kernel)⟩
theorem lw_p22 : lw_okq (⟨"MergedOutline$Merger", "isAhead", "(II)Z"⟩, 6) := ⟨⟨by decide +kernel, by decide +kernel⟩, List.mem_of_getElem? (i := 89) (by decide +kernel), List.mem_of_getElem? (i := 499) (by decide +kernel), List.mem_of_getElem? (i := 500) (by decide +kernel)⟩
theorem lw_p23 : lw_okq (⟨"MergedOutline$Outline", "depthOf", "(I)I"⟩, 1) := ⟨⟨by decide +kernel, by decide +kernel⟩, List.mem_of_getElem? (i := 29) (by decide +kernel), List.mem_of_getElem? (i := 549) (by decide +kernel), List.mem_of_getElem? (i := 550) (by decide +kernel)⟩
theorem lw_p24 : lw_okq (⟨"MergedOutline$Outline", "isSame", "(ILMergedOutline$Outline;)Z"⟩, 1) := ⟨⟨by decide +kernel, by decide +kernel⟩, List.mem_of_getElem? (i := 29) (by decide +kernel), List.mem_of_getElem? (i := 562) (by decide +kernel), List.mem_of_getElem? (i := 563) (by decide +kernel)⟩
theorem lw_p25 : lw_okq (⟨"MergedOutline$Script", "writeChange", "(LMergedOutline$Outline;LMergedOutline$Outline;III)V"⟩, 1) := ⟨⟨by decide +kernel, by decide +kernel⟩, List.mem_of_getElem? (i := 145) (by decide +kernel), List.mem_of_getElem? (i := 587) (by decide +kernel), List.mem_of_getElem? (i := 588) (by decide +kernel)⟩
theorem lw_p26 : lw_okq (⟨"MergedOutline$Matching", "pairAll", "(I)V"⟩, 3) := ⟨⟨by decide +kernel, by decide +kernel⟩, List.mem_of_getElem? (i := 158) (by decide +kernel), List.mem_of_getElem? (i := 606) (by decide +kernel), List.mem_of_getElem? (i := 607) (by decide +kernel)⟩
theorem lw_p27 : lw_okq (⟨"MergedOutline", "tellDesk", "(I)I"⟩, 10) := ⟨⟨by decide +kernel, by decide +kernel⟩, List.mem_of_getElem? (i := 15) (by decide +kernel), List.mem_of_getElem? (i := 619) (by decide +kernel), List.mem_of_getElem? (i := 620) (by decide +kernel)⟩
theorem lw_p28 : lw_okq (⟨"MergedOutline$Typed", "takes", "(I)Z"⟩, 8) := ⟨⟨by decide +kernel, by decide +kernel⟩, List.mem_of_getElem? (i := 174) (by decide +kernel), List.mem_of_getElem? (i := 651) (by decide +kernel), List.mem_of_getElem? (i := 652) (by decide +kernel)⟩
theorem lw_p29 : lw_okq (⟨"MergedOutline$Typed", "opens", "(I)Z"⟩, 8) := ⟨⟨by decide +kernel, by decide +kernel⟩, List.mem_of_getElem? (i := 174) (by decide +kernel), List.mem_of_getElem? (i := 655) (by decide +kernel), List.mem_of_getElem? (i := 656) (by decide +kernel)⟩
theorem lw_p30 : lw_okq (⟨"MergedOutline$Typed", "put", "(III)V"⟩, 8) := ⟨⟨by decide +kernel, by decide +kernel⟩, List.mem_of_getElem? (i := 174) (by decide +kernel), List.mem_of_getElem? (i := 662) (by decide +kernel), List.mem_of_getElem? (i := 663) (by decide +kernel)⟩
theorem lw_p31 : lw_okq (⟨"MergedOutline$Typed", "takesFigure", "(I)Z"⟩, 8) := ⟨⟨by decide +kernel, by decide +kernel⟩, List.mem_of_getElem? (i := 174) (by decide +kernel), List.mem_of_getElem? (i := 669) (by decide +kernel), List.mem_of_getElem? (i := 670) (by decide +kernel)⟩
def lw_privs_2 : List (MethodName × Nat) := [(⟨"MergedOutline$Merger", "leastToPutBack", "(I)I"⟩, 6), (⟨"MergedOutline$Merger", "isMoveOfOther", "(I)Z"⟩, 6), (⟨"MergedOutline$Merger", "rehangFromRing", "(II)V"⟩, 6), (⟨"MergedOutline$Merger", "orderChildren", "()V"⟩, 6), (⟨"MergedOutline$Merger", "keyOf", "(I)I"⟩, 6), (⟨"MergedOutline$Merger", "countAhead", "(I)I"⟩, 6), (⟨"MergedOutline$Merger", "isAhead", "(II)Z"⟩, 6), (⟨"MergedOutline$Outline", "depthOf", "(I)I"⟩, 1), (⟨"MergedOutline$Outline", "isSame", "(ILMergedOutline$Outline;)Z"⟩, 1), (⟨"MergedOutline$Script", "writeChange", "(LMergedOutline$Outline;LMergedOutline$Outline;III)V"⟩, 1), (⟨"MergedOutline$Matching", "pairAll", "(I)V"⟩, 3), (⟨"MergedOutline", "tellDesk", "(I)I"⟩, 10), (⟨"MergedOutline$Typed", "takes", "(I)Z"⟩, 8), (⟨"MergedOutline$Typed", "opens", "(I)Z"⟩, 8), (⟨"MergedOutline$Typed", "put", "(III)V"⟩, 8), (⟨"MergedOutline$Typed", "takesFigure", "(I)Z"⟩, 8)]
theorem lw_r2 : ∀ q ∈ lw_privs_2, lw_okq q := List.forall_mem_cons.mpr ⟨lw_p16, List.forall_mem_cons.mpr ⟨lw_p17, List.forall_mem_cons.mpr ⟨lw_p18, List.forall_mem_cons.mpr ⟨lw_p19, List.forall_mem_cons.mpr ⟨lw_p20, List.forall_mem_cons.mpr ⟨lw_p21, List.forall_mem_cons.mpr ⟨lw_p22, List.forall_mem_cons.mpr ⟨lw_p23, List.forall_mem_cons.mpr ⟨lw_p24, List.forall_mem_cons.mpr ⟨lw_p25, List.forall_mem_cons.mpr ⟨lw_p26, List.forall_mem_cons.mpr ⟨lw_p27, List.forall_mem_cons.mpr ⟨lw_p28, List.forall_mem_cons.mpr ⟨lw_p29, List.forall_mem_cons.mpr ⟨lw_p30, List.forall_mem_cons.mpr ⟨lw_p31, fun _ h => absurd h List.not_mem_nil⟩⟩⟩⟩⟩⟩⟩⟩⟩⟩⟩⟩⟩⟩⟩⟩
theorem lw_p32 : lw_okq (⟨"MergedOutline$Typed", "closes", "()Z"⟩, 8) := ⟨⟨by decide +kernel, by decide +kernel⟩, List.mem_of_getElem? (i := 174) (by decide +kernel), List.mem_of_getElem? (i := 677) (by decide +kernel), List.mem_of_getElem? (i := 678) (by decide +kernel)⟩
theorem lw_p33 : lw_okq (⟨"MergedOutline", "perform", "(I)I"⟩, 10) := ⟨⟨by decide +kernel, by decide +kernel⟩, List.mem_of_getElem? (i := 15) (by decide +kernel), List.mem_of_getElem? (i := 681) (by decide +kernel), List.mem_of_getElem? (i := 682) (by decide +kernel)⟩
theorem lw_p34 : lw_okq (⟨"MergedOutline", "tellCount", "(I)I"⟩, 10) := ⟨⟨by decide +kernel, by decide +kernel⟩, List.mem_of_getElem? (i := 15) (by decide +kernel), List.mem_of_getElem? (i := 698) (by decide +kernel), List.mem_of_getElem? (i := 699) (by decide +kernel)⟩
theorem lw_p35 : lw_okq (⟨"MergedOutlineModel", "save", "()V"⟩, 22) := ⟨⟨by decide +kernel, by decide +kernel⟩, List.mem_of_getElem? (i := 717) (by decide +kernel), List.mem_of_getElem? (i := 794) (by decide +kernel), List.mem_of_getElem? (i := 795) (by decide +kernel)⟩
theorem lw_p36 : lw_okq (⟨"MergedOutlineModel", "add", "(IIIII)I"⟩, 22) := ⟨⟨by decide +kernel, by decide +kernel⟩, List.mem_of_getElem? (i := 717) (by decide +kernel), List.mem_of_getElem? (i := 801) (by decide +kernel), List.mem_of_getElem? (i := 802) (by decide +kernel)⟩
theorem lw_p37 : lw_okq (⟨"MergedOutlineModel", "isThere", "(II)Z"⟩, 22) := ⟨⟨by decide +kernel, by decide +kernel⟩, List.mem_of_getElem? (i := 717) (by decide +kernel), List.mem_of_getElem? (i := 811) (by decide +kernel), List.mem_of_getElem? (i := 812) (by decide +kernel)⟩
theorem lw_p38 : lw_okq (⟨"MergedOutlineModel", "isIn", "(II)Z"⟩, 22) := ⟨⟨by decide +kernel, by decide +kernel⟩, List.mem_of_getElem? (i := 717) (by decide +kernel), List.mem_of_getElem? (i := 815) (by decide +kernel), List.mem_of_getElem? (i := 816) (by decide +kernel)⟩
theorem lw_p39 : lw_okq (⟨"MergedOutlineModel", "childrenOf", "(II)I"⟩, 22) := ⟨⟨by decide +kernel, by decide +kernel⟩, List.mem_of_getElem? (i := 717) (by decide +kernel), List.mem_of_getElem? (i := 819) (by decide +kernel), List.mem_of_getElem? (i := 820) (by decide +kernel)⟩
theorem lw_p40 : lw_okq (⟨"MergedOutlineModel", "parentOf", "(II)I"⟩, 22) := ⟨⟨by decide +kernel, by decide +kernel⟩, List.mem_of_getElem? (i := 717) (by decide +kernel), List.mem_of_getElem? (i := 823) (by decide +kernel), List.mem_of_getElem? (i := 824) (by decide +kernel)⟩
theorem lw_p41 : lw_okq (⟨"MergedOutlineModel", "hang", "(IIII)V"⟩, 22) := ⟨⟨by decide +kernel, by decide +kernel⟩, List.mem_of_getElem? (i := 717) (by decide +kernel), List.mem_of_getElem? (i := 830) (by decide +kernel), List.mem_of_getElem? (i := 831) (by decide +kernel)⟩
theorem lw_p42 : lw_okq (⟨"MergedOutlineModel", "push", "(IIII)V"⟩, 22) := ⟨⟨by decide +kernel, by decide +kernel⟩, List.mem_of_getElem? (i := 717) (by decide +kernel), List.mem_of_getElem? (i := 834) (by decide +kernel), List.mem_of_getElem? (i := 835) (by decide +kernel)⟩
theorem lw_p43 : lw_okq (⟨"MergedOutlineModel", "placeOf", "(II)I"⟩, 22) := ⟨⟨by decide +kernel, by decide +kernel⟩, List.mem_of_getElem? (i := 717) (by decide +kernel), List.mem_of_getElem? (i := 838) (by decide +kernel), List.mem_of_getElem? (i := 839) (by decide +kernel)⟩
theorem lw_p44 : lw_okq (⟨"MergedOutlineModel", "finish", "(I)I"⟩, 22) := ⟨⟨by decide +kernel, by decide +kernel⟩, List.mem_of_getElem? (i := 717) (by decide +kernel), List.mem_of_getElem? (i := 842) (by decide +kernel), List.mem_of_getElem? (i := 843) (by decide +kernel)⟩
theorem lw_p45 : lw_okq (⟨"MergedOutlineModel", "refuse", "(I)I"⟩, 22) := ⟨⟨by decide +kernel, by decide +kernel⟩, List.mem_of_getElem? (i := 717) (by decide +kernel), List.mem_of_getElem? (i := 849) (by decide +kernel), List.mem_of_getElem? (i := 850) (by decide +kernel)⟩
theorem lw_p46 : lw_okq (⟨"MergedOutlineModel", "move", "(IIII)I"⟩, 22) := ⟨⟨by decide +kernel, by decide +kernel⟩, List.mem_of_getElem? (i := 717) (by decide +kernel), List.mem_of_getElem? (i := 857) (by decide +kernel), List.mem_of_getElem? (i := 858) (by decide +kernel)⟩
theorem lw_p47 : lw_okq (⟨"MergedOutlineModel", "belowOf", "(II)I"⟩, 22) := ⟨⟨by decide +kernel, by decide +kernel⟩, List.mem_of_getElem? (i := 717) (by decide +kernel), List.mem_of_getElem? (i := 861) (by decide +kernel), List.mem_of_getElem? (i := 862) (by decide +kernel)⟩
def lw_privs_3 : List (MethodName × Nat) := [(⟨"MergedOutline$Typed", "closes", "()Z"⟩, 8), (⟨"MergedOutline", "perform", "(I)I"⟩, 10), (⟨"MergedOutline", "tellCount", "(I)I"⟩, 10), (⟨"MergedOutlineModel", "save", "()V"⟩, 22), (⟨"MergedOutlineModel", "add", "(IIIII)I"⟩, 22), (⟨"MergedOutlineModel", "isThere", "(II)Z"⟩, 22), (⟨"MergedOutlineModel", "isIn", "(II)Z"⟩, 22), (⟨"MergedOutlineModel", "childrenOf", "(II)I"⟩, 22), (⟨"MergedOutlineModel", "parentOf", "(II)I"⟩, 22), (⟨"MergedOutlineModel", "hang", "(IIII)V"⟩, 22), (⟨"MergedOutlineModel", "push", "(IIII)V"⟩, 22), (⟨"MergedOutlineModel", "placeOf", "(II)I"⟩, 22), (⟨"MergedOutlineModel", "finish", "(I)I"⟩, 22), (⟨"MergedOutlineModel", "refuse", "(I)I"⟩, 22), (⟨"MergedOutlineModel", "move", "(IIII)I"⟩, 22), (⟨"MergedOutlineModel", "belowOf", "(II)I"⟩, 22)]
theorem lw_r3 : ∀ q ∈ lw_privs_3, lw_okq q := List.forall_mem_cons.mpr ⟨lw_p32, List.forall_mem_cons.mpr ⟨lw_p33, List.forall_mem_cons.mpr ⟨lw_p34, List.forall_mem_cons.mpr ⟨lw_p35, List.forall_mem_cons.mpr ⟨lw_p36, List.forall_mem_cons.mpr ⟨lw_p37, List.forall_mem_cons.mpr ⟨lw_p38, List.forall_mem_cons.mpr ⟨lw_p39, List.forall_mem_cons.mpr ⟨lw_p40, List.forall_mem_cons.mpr ⟨lw_p41, List.forall_mem_cons.mpr ⟨lw_p42, List.forall_mem_cons.mpr ⟨lw_p43, List.forall_mem_cons.mpr ⟨lw_p44, List.forall_mem_cons.mpr ⟨lw_p45, List.forall_mem_cons.mpr ⟨lw_p46, List.forall_mem_cons.mpr ⟨lw_p47, fun _ h => absurd h List.not_mem_nil⟩⟩⟩⟩⟩⟩⟩⟩⟩⟩⟩⟩⟩⟩⟩⟩
theorem lw_p48 : lw_okq (⟨"MergedOutlineModel", "unhang", "(II)V"⟩, 22) := ⟨⟨by decide +kernel, by decide +kernel⟩, List.mem_of_getElem? (i := 717) (by decide +kernel), List.mem_of_getElem? (i := 865) (by decide +kernel), List.mem_of_getElem? (i := 866) (by decide +kernel)⟩
theorem lw_p49 : lw_okq (⟨"MergedOutlineModel", "put", "(IIII)I"⟩, 22) := ⟨⟨by decide +kernel, by decide +kernel⟩, List.mem_of_getElem? (i := 717) (by decide +kernel), List.mem_of_getElem? (i := 873) (by decide +kernel), List.mem_of_getElem? (i := 874) (by decide +kernel)⟩
theorem lw_p50 : lw_okq (⟨"MergedOutlineModel", "delete", "(II)I"⟩, 22) := ⟨⟨by decide +kernel, by decide +kernel⟩, List.mem_of_getElem? (i := 717) (by decide +kernel), List.mem_of_getElem? (i := 885) (by decide +kernel), List.mem_of_getElem? (i := 886) (by decide +kernel)⟩
theorem lw_p51 : lw_okq (⟨"MergedOutlineModel", "fork", "()I"⟩, 22) := ⟨⟨by decide +kernel, by decide +kernel⟩, List.mem_of_getElem? (i := 717) (by decide +kernel), List.mem_of_getElem? (i := 896) (by decide +kernel), List.mem_of_getElem? (i := 897) (by decide +kernel)⟩
theorem lw_p52 : lw_okq (⟨"MergedOutlineModel", "manyIn", "(I)I"⟩, 22) := ⟨⟨by decide +kernel, by decide +kernel⟩, List.mem_of_getElem? (i := 717) (by decide +kernel), List.mem_of_getElem? (i := 900) (by decide +kernel), List.mem_of_getElem? (i := 901) (by decide +kernel)⟩
theorem lw_p53 : lw_okq (⟨"MergedOutlineModel", "prefer", "(I)I"⟩, 22) := ⟨⟨by decide +kernel, by decide +kernel⟩, List.mem_of_getElem? (i := 717) (by decide +kernel), List.mem_of_getElem? (i := 908) (by decide +kernel), List.mem_of_getElem? (i := 909) (by decide +kernel)⟩
theorem lw_p54 : lw_okq (⟨"MergedOutlineModel", "merge", "()V"⟩, 22) := ⟨⟨by decide +kernel, by decide +kernel⟩, List.mem_of_getElem? (i := 717) (by decide +kernel), List.mem_of_getElem? (i := 916) (by decide +kernel), List.mem_of_getElem? (i := 917) (by decide +kernel)⟩
theorem lw_p55 : lw_okq (⟨"MergedOutlineModel", "mergeIn", "(I)V"⟩, 22) := ⟨⟨by decide +kernel, by decide +kernel⟩, List.mem_of_getElem? (i := 717) (by decide +kernel), List.mem_of_getElem? (i := 920) (by decide +kernel), List.mem_of_getElem? (i := 921) (by decide +kernel)⟩
theorem lw_p56 : lw_okq (⟨"MergedOutlineModel", "isChanged", "(II)Z"⟩, 22) := ⟨⟨by decide +kernel, by decide +kernel⟩, List.mem_of_getElem? (i := 717) (by decide +kernel), List.mem_of_getElem? (i := 924) (by decide +kernel), List.mem_of_getElem? (i := 925) (by decide +kernel)⟩
theorem lw_p57 : lw_okq (⟨"MergedOutlineModel", "nameOf", "(II)I"⟩, 22) := ⟨⟨by decide +kernel, by decide +kernel⟩, List.mem_of_getElem? (i := 717) (by decide +kernel), List.mem_of_getElem? (i := 928) (by decide +kernel), List.mem_of_getElem? (i := 929) (by decide +kernel)⟩
theorem lw_p58 : lw_okq (⟨"MergedOutlineModel", "textOf", "(II)I"⟩, 22) := ⟨⟨by decide +kernel, by decide +kernel⟩, List.mem_of_getElem? (i := 717) (by decide +kernel), List.mem_of_getElem? (i := 932) (by decide +kernel), List.mem_of_getElem? (i := 933) (by decide +kernel)⟩
theorem lw_p59 : lw_okq (⟨"MergedOutlineModel", "conflict", "(III)V"⟩, 22) := ⟨⟨by decide +kernel, by decide +kernel⟩, List.mem_of_getElem? (i := 717) (by decide +kernel), List.mem_of_getElem? (i := 936) (by decide +kernel), List.mem_of_getElem? (i := 937) (by decide +kernel)⟩
theorem lw_p60 : lw_okq (⟨"MergedOutlineModel", "settle", "(III)V"⟩, 22) := ⟨⟨by decide +kernel, by decide +kernel⟩, List.mem_of_getElem? (i := 717) (by decide +kernel), List.mem_of_getElem? (i := 940) (by decide +kernel), List.mem_of_getElem? (i := 941) (by decide +kernel)⟩
theorem lw_p61 : lw_okq (⟨"MergedOutlineModel", "nearest", "(I)I"⟩, 22) := ⟨⟨by decide +kernel, by decide +kernel⟩, List.mem_of_getElem? (i := 717) (by decide +kernel), List.mem_of_getElem? (i := 944) (by decide +kernel), List.mem_of_getElem? (i := 945) (by decide +kernel)⟩
theorem lw_p62 : lw_okq (⟨"MergedOutlineModel", "breakRings", "()V"⟩, 22) := ⟨⟨by decide +kernel, by decide +kernel⟩, List.mem_of_getElem? (i := 717) (by decide +kernel), List.mem_of_getElem? (i := 948) (by decide +kernel), List.mem_of_getElem? (i := 949) (by decide +kernel)⟩
theorem lw_p63 : lw_okq (⟨"MergedOutlineModel", "isOnRing", "(I)Z"⟩, 22) := ⟨⟨by decide +kernel, by decide +kernel⟩, List.mem_of_getElem? (i := 717) (by decide +kernel), List.mem_of_getElem? (i := 952) (by decide +kernel), List.mem_of_getElem? (i := 953) (by decide +kernel)⟩
def lw_privs_4 : List (MethodName × Nat) := [(⟨"MergedOutlineModel", "unhang", "(II)V"⟩, 22), (⟨"MergedOutlineModel", "put", "(IIII)I"⟩, 22), (⟨"MergedOutlineModel", "delete", "(II)I"⟩, 22), (⟨"MergedOutlineModel", "fork", "()I"⟩, 22), (⟨"MergedOutlineModel", "manyIn", "(I)I"⟩, 22), (⟨"MergedOutlineModel", "prefer", "(I)I"⟩, 22), (⟨"MergedOutlineModel", "merge", "()V"⟩, 22), (⟨"MergedOutlineModel", "mergeIn", "(I)V"⟩, 22), (⟨"MergedOutlineModel", "isChanged", "(II)Z"⟩, 22), (⟨"MergedOutlineModel", "nameOf", "(II)I"⟩, 22), (⟨"MergedOutlineModel", "textOf", "(II)I"⟩, 22), (⟨"MergedOutlineModel", "conflict", "(III)V"⟩, 22), (⟨"MergedOutlineModel", "settle", "(III)V"⟩, 22), (⟨"MergedOutlineModel", "nearest", "(I)I"⟩, 22), (⟨"MergedOutlineModel", "breakRings", "()V"⟩, 22), (⟨"MergedOutlineModel", "isOnRing", "(I)Z"⟩, 22)]
theorem lw_r4 : ∀ q ∈ lw_privs_4, lw_okq q := List.forall_mem_cons.mpr ⟨lw_p48, List.forall_mem_cons.mpr ⟨lw_p49, List.forall_mem_cons.mpr ⟨lw_p50, List.forall_mem_cons.mpr ⟨lw_p51, List.forall_mem_cons.mpr ⟨lw_p52, List.forall_mem_cons.mpr ⟨lw_p53, List.forall_mem_cons.mpr ⟨lw_p54, List.forall_mem_cons.mpr ⟨lw_p55, List.forall_mem_cons.mpr ⟨lw_p56, List.forall_mem_cons.mpr ⟨lw_p57, List.forall_mem_cons.mpr ⟨lw_p58, List.forall_mem_cons.mpr ⟨lw_p59, List.forall_mem_cons.mpr ⟨lw_p60, List.forall_mem_cons.mpr ⟨lw_p61, List.forall_mem_cons.mpr ⟨lw_p62, List.forall_mem_cons.mpr ⟨lw_p63, fun _ h => absurd h List.not_mem_nil⟩⟩⟩⟩⟩⟩⟩⟩⟩⟩⟩⟩⟩⟩⟩⟩
theorem lw_p64 : lw_okq (⟨"MergedOutlineModel", "ringFrom", "(I)I"⟩, 22) := ⟨⟨by decide +kernel, by decide +kernel⟩, List.mem_of_getElem? (i := 717) (by decide +kernel), List.mem_of_getElem? (i := 956) (by decide +kernel), List.mem_of_getElem? (i := 957) (by decide +kernel)⟩
theorem lw_p65 : lw_okq (⟨"MergedOutlineModel", "keyOf", "(I)I"⟩, 22) := ⟨⟨by decide +kernel, by decide +kernel⟩, List.mem_of_getElem? (i := 717) (by decide +kernel), List.mem_of_getElem? (i := 960) (by decide +kernel), List.mem_of_getElem? (i := 961) (by decide +kernel)⟩
theorem lw_p66 : lw_okq (⟨"MergedOutlineModel", "isAsked", "(I)Z"⟩, 22) := ⟨⟨by decide +kernel, by decide +kernel⟩, List.mem_of_getElem? (i := 717) (by decide +kernel), List.mem_of_getElem? (i := 968) (by decide +kernel), List.mem_of_getElem? (i := 969) (by decide +kernel)⟩
theorem lw_p67 : lw_okq (⟨"MergedOutlineModel", "ofSection", "(III)I"⟩, 22) := ⟨⟨by decide +kernel, by decide +kernel⟩, List.mem_of_getElem? (i := 717) (by decide +kernel), List.mem_of_getElem? (i := 976) (by decide +kernel), List.mem_of_getElem? (i := 977) (by decide +kernel)⟩
theorem lw_p68 : lw_okq (⟨"MergedOutlineModel", "walkAll", "(I)I"⟩, 22) := ⟨⟨by decide +kernel, by decide +kernel⟩, List.mem_of_getElem? (i := 717) (by decide +kernel), List.mem_of_getElem? (i := 984) (by decide +kernel), List.mem_of_getElem? (i := 985) (by decide +kernel)⟩
theorem lw_p69 : lw_okq (⟨"MergedOutlineModel", "deepOf", "(I)I"⟩, 22) := ⟨⟨by decide +kernel, by decide +kernel⟩, List.mem_of_getElem? (i := 717) (by decide +kernel), List.mem_of_getElem? (i := 992) (by decide +kernel), List.mem_of_getElem? (i := 993) (by decide +kernel)⟩
theorem lw_p70 : lw_okq (⟨"MergedOutlineModel", "layScript", "(I)V"⟩, 22) := ⟨⟨by decide +kernel, by decide +kernel⟩, List.mem_of_getElem? (i := 717) (by decide +kernel), List.mem_of_getElem? (i := 1008) (by decide +kernel), List.mem_of_getElem? (i := 1009) (by decide +kernel)⟩
theorem lw_p71 : lw_okq (⟨"MergedOutlineModel", "step", "(II)V"⟩, 22) := ⟨⟨by decide +kernel, by decide +kernel⟩, List.mem_of_getElem? (i := 717) (by decide +kernel), List.mem_of_getElem? (i := 1012) (by decide +kernel), List.mem_of_getElem? (i := 1013) (by decide +kernel)⟩
theorem lw_p72 : lw_okq (⟨"MergedOutlineModel", "layMatches", "(I)V"⟩, 22) := ⟨⟨by decide +kernel, by decide +kernel⟩, List.mem_of_getElem? (i := 717) (by decide +kernel), List.mem_of_getElem? (i := 1020) (by decide +kernel), List.mem_of_getElem? (i := 1021) (by decide +kernel)⟩
theorem lw_p73 : lw_okq (⟨"MergedOutlineModel", "scoreOf", "(III)I"⟩, 22) := ⟨⟨by decide +kernel, by decide +kernel⟩, List.mem_of_getElem? (i := 717) (by decide +kernel), List.mem_of_getElem? (i := 1024) (by decide +kernel), List.mem_of_getElem? (i := 1025) (by decide +kernel)⟩
theorem lw_p74 : lw_okq (⟨"MergedOutlineModel", "toldOf", "(I)I"⟩, 22) := ⟨⟨by decide +kernel, by decide +kernel⟩, List.mem_of_getElem? (i := 717) (by decide +kernel), List.mem_of_getElem? (i := 1032) (by decide +kernel), List.mem_of_getElem? (i := 1033) (by decide +kernel)⟩
theorem lw_p75 : lw_okq (⟨"MergedOutlineModel", "strangers", "(I)I"⟩, 22) := ⟨⟨by decide +kernel, by decide +kernel⟩, List.mem_of_getElem? (i := 717) (by decide +kernel), List.mem_of_getElem? (i := 1036) (by decide +kernel), List.mem_of_getElem? (i := 1037) (by decide +kernel)⟩
theorem lw_p76 : lw_okq (⟨"MergedOutlineModel", "readText", "()I"⟩, 22) := ⟨⟨by decide +kernel, by decide +kernel⟩, List.mem_of_getElem? (i := 717) (by decide +kernel), List.mem_of_getElem? (i := 1052) (by decide +kernel), List.mem_of_getElem? (i := 1053) (by decide +kernel)⟩
theorem lw_p77 : lw_okq (⟨"MergedOutlineModel", "readByte", "(I)Z"⟩, 22) := ⟨⟨by decide +kernel, by decide +kernel⟩, List.mem_of_getElem? (i := 717) (by decide +kernel), List.mem_of_getElem? (i := 1056) (by decide +kernel), List.mem_of_getElem? (i := 1057) (by decide +kernel)⟩
theorem lw_p78 : lw_okq (⟨"MergedOutlineModel", "doOrder", "(I)I"⟩, 22) := ⟨⟨by decide +kernel, by decide +kernel⟩, List.mem_of_getElem? (i := 717) (by decide +kernel), List.mem_of_getElem? (i := 1063) (by decide +kernel), List.mem_of_getElem? (i := 1064) (by decide +kernel)⟩
theorem lw_p79 : lw_okq (⟨"MergedOutlineModel", "numberOf", "(II)I"⟩, 22) := ⟨⟨by decide +kernel, by decide +kernel⟩, List.mem_of_getElem? (i := 717) (by decide +kernel), List.mem_of_getElem? (i := 1067) (by decide +kernel), List.mem_of_getElem? (i := 1068) (by decide +kernel)⟩
def lw_privs_5 : List (MethodName × Nat) := [(⟨"MergedOutlineModel", "ringFrom", "(I)I"⟩, 22), (⟨"MergedOutlineModel", "keyOf", "(I)I"⟩, 22), (⟨"MergedOutlineModel", "isAsked", "(I)Z"⟩, 22), (⟨"MergedOutlineModel", "ofSection", "(III)I"⟩, 22), (⟨"MergedOutlineModel", "walkAll", "(I)I"⟩, 22), (⟨"MergedOutlineModel", "deepOf", "(I)I"⟩, 22), (⟨"MergedOutlineModel", "layScript", "(I)V"⟩, 22), (⟨"MergedOutlineModel", "step", "(II)V"⟩, 22), (⟨"MergedOutlineModel", "layMatches", "(I)V"⟩, 22), (⟨"MergedOutlineModel", "scoreOf", "(III)I"⟩, 22), (⟨"MergedOutlineModel", "toldOf", "(I)I"⟩, 22), (⟨"MergedOutlineModel", "strangers", "(I)I"⟩, 22), (⟨"MergedOutlineModel", "readText", "()I"⟩, 22), (⟨"MergedOutlineModel", "readByte", "(I)Z"⟩, 22), (⟨"MergedOutlineModel", "doOrder", "(I)I"⟩, 22), (⟨"MergedOutlineModel", "numberOf", "(II)I"⟩, 22)]
theorem lw_r5 : ∀ q ∈ lw_privs_5, lw_okq q := List.forall_mem_cons.mpr ⟨lw_p64, List.forall_mem_cons.mpr ⟨lw_p65, List.forall_mem_cons.mpr ⟨lw_p66, List.forall_mem_cons.mpr ⟨lw_p67, List.forall_mem_cons.mpr ⟨lw_p68, List.forall_mem_cons.mpr ⟨lw_p69, List.forall_mem_cons.mpr ⟨lw_p70, List.forall_mem_cons.mpr ⟨lw_p71, List.forall_mem_cons.mpr ⟨lw_p72, List.forall_mem_cons.mpr ⟨lw_p73, List.forall_mem_cons.mpr ⟨lw_p74, List.forall_mem_cons.mpr ⟨lw_p75, List.forall_mem_cons.mpr ⟨lw_p76, List.forall_mem_cons.mpr ⟨lw_p77, List.forall_mem_cons.mpr ⟨lw_p78, List.forall_mem_cons.mpr ⟨lw_p79, fun _ h => absurd h List.not_mem_nil⟩⟩⟩⟩⟩⟩⟩⟩⟩⟩⟩⟩⟩⟩⟩⟩
theorem lw_p80 : lw_okq (⟨"MergedOutlineModel", "refusedOf", "(I)I"⟩, 22) := ⟨⟨by decide +kernel, by decide +kernel⟩, List.mem_of_getElem? (i := 717) (by decide +kernel), List.mem_of_getElem? (i := 1079) (by decide +kernel), List.mem_of_getElem? (i := 1080) (by decide +kernel)⟩
def lw_privs_6 : List (MethodName × Nat) := [(⟨"MergedOutlineModel", "refusedOf", "(I)I"⟩, 22)]
theorem lw_r6 : ∀ q ∈ lw_privs_6, lw_okq q := List.forall_mem_cons.mpr ⟨lw_p80, fun _ h => absurd h List.not_mem_nil⟩
def lw_privs : List (MethodName × Nat) := lw_privs_1 ++ (lw_privs_2 ++ (lw_privs_3 ++ (lw_privs_4 ++ (lw_privs_5 ++ (lw_privs_6)))))
def lw_tbl : List Cond := k2_sels lw_privs ++ tables_1
theorem lw_privs_ok : ∀ q ∈ lw_privs, lw_okq q := by
  show ∀ q ∈ lw_privs_1 ++ (lw_privs_2 ++ (lw_privs_3 ++ (lw_privs_4 ++ (lw_privs_5 ++ (lw_privs_6))))), lw_okq q
  exact List.forall_mem_append.mpr ⟨lw_r1, List.forall_mem_append.mpr ⟨lw_r2, List.forall_mem_append.mpr ⟨lw_r3, List.forall_mem_append.mpr ⟨lw_r4, List.forall_mem_append.mpr ⟨lw_r5, lw_r6⟩⟩⟩⟩⟩
-- ===== end of PART A; then your names; then what follows =====
end
section
/-! ===== BEGIN printed: names, fields, word lists, decode rows ===== -/
def RX0 : String := "MergedOutline$Desk"
def TX0 : u_T := fun k => match k with
  | 0 => ("MergedOutline$Desk", "base", "LMergedOutline$Outline;", true)
  | 1 => ("MergedOutline$Desk", "left", "LMergedOutline$Outline;", true)
  | 2 => ("MergedOutline$Desk", "right", "LMergedOutline$Outline;", true)
  | 3 => ("MergedOutline$Desk", "preferred", "I", false)
  | _ => ("MergedOutline$Desk", "free", "I", false)
def tyX0 : Nat → FieldType := fun k => match k with
  | 0 => .object "MergedOutline$Outline"
  | 1 => .object "MergedOutline$Outline"
  | 2 => .object "MergedOutline$Outline"
  | 3 => .int
  | _ => .int
abbrev wsX00 : List Cond := u_ws RX0 TX0 5
theorem nmX0 : ∀ a, a < 5 → ∀ b, b < 5 → a ≠ b → (TX0 a).2.1 ≠ (TX0 b).2.1 := by decide +kernel
theorem tyX0_ok : ∀ k, k < 5 → parseFieldDescriptor (TX0 k).2.2.1 = some (tyX0 k) := by decide +kernel
abbrev cX0_init : ByteArray := prog_2_method_1_code
def yX0_init : MethodName := ⟨RX0, "<init>", "()V"⟩
abbrev cX0_copyFrom : ByteArray := prog_2_method_2_code
def yX0_copyFrom : MethodName := ⟨RX0, "copyFrom", "(LMergedOutline$Desk;)V"⟩
abbrev cX0_outline : ByteArray := prog_2_method_3_code
def yX0_outline : MethodName := ⟨RX0, "outline", "(I)LMergedOutline$Outline;"⟩
abbrev cX0_preferredSide : ByteArray := prog_2_method_4_code
def yX0_preferredSide : MethodName := ⟨RX0, "preferredSide", "()LMergedOutline$Outline;"⟩
abbrev cX0_otherSide : ByteArray := prog_2_method_5_code
def yX0_otherSide : MethodName := ⟨RX0, "otherSide", "()LMergedOutline$Outline;"⟩
abbrev cX0_add : ByteArray := prog_2_method_6_code
def yX0_add : MethodName := ⟨RX0, "add", "(IIIII)I"⟩
abbrev cX0_move : ByteArray := prog_2_method_7_code
def yX0_move : MethodName := ⟨RX0, "move", "(IIII)I"⟩
abbrev cX0_retell : ByteArray := prog_2_method_8_code
def yX0_retell : MethodName := ⟨RX0, "retell", "(IIII)I"⟩
abbrev cX0_delete : ByteArray := prog_2_method_9_code
def yX0_delete : MethodName := ⟨RX0, "delete", "(II)I"⟩
abbrev cX0_fork : ByteArray := prog_2_method_10_code
def yX0_fork : MethodName := ⟨RX0, "fork", "()I"⟩
abbrev cX0_prefer : ByteArray := prog_2_method_11_code
def yX0_prefer : MethodName := ⟨RX0, "prefer", "(I)I"⟩
abbrev cX0_adopt : ByteArray := prog_2_method_12_code
def yX0_adopt : MethodName := ⟨RX0, "adopt", "(LMergedOutline$Outline;)I"⟩
def RX1 : String := "MergedOutline$History"
def TX1 : u_T := fun k => match k with
  | 0 => ("MergedOutline$History", "kept", "[LMergedOutline$Desk;", true)
  | 1 => ("MergedOutline$History", "next", "I", false)
  | _ => ("MergedOutline$History", "count", "I", false)
def tyX1 : Nat → FieldType := fun k => match k with
  | 0 => .array (.object "MergedOutline$Desk")
  | 1 => .int
  | _ => .int
abbrev wsX10 : List Cond := u_ws RX1 TX1 3
theorem nmX1 : ∀ a, a < 3 → ∀ b, b < 3 → a ≠ b → (TX1 a).2.1 ≠ (TX1 b).2.1 := by decide +kernel
theorem tyX1_ok : ∀ k, k < 3 → parseFieldDescriptor (TX1 k).2.2.1 = some (tyX1 k) := by decide +kernel
abbrev cX1_init : ByteArray := prog_3_method_1_code
def yX1_init : MethodName := ⟨RX1, "<init>", "()V"⟩
abbrev cX1_keep : ByteArray := prog_3_method_2_code
def yX1_keep : MethodName := ⟨RX1, "keep", "(LMergedOutline$Desk;)V"⟩
abbrev cX1_takeBack : ByteArray := prog_3_method_3_code
def yX1_takeBack : MethodName := ⟨RX1, "takeBack", "(LMergedOutline$Desk;)V"⟩
abbrev cX1_slot : ByteArray := prog_3_method_4_code
def yX1_slot : MethodName := ⟨RX1, "slot", "(I)LMergedOutline$Desk;"⟩
def RX2 : String := "MergedOutline$Matching"
def TX2 : u_T := fun k => match k with
  | 0 => ("MergedOutline$Matching", "scores", "[I", true)
  | 1 => ("MergedOutline$Matching", "partners", "[I", true)
  | _ => ("MergedOutline$Matching", "taken", "[Z", true)
def tyX2 : Nat → FieldType := fun k => match k with
  | 0 => .array .int
  | 1 => .array .int
  | _ => .array .boolean
abbrev wsX20 : List Cond := u_ws RX2 TX2 3
theorem nmX2 : ∀ a, a < 3 → ∀ b, b < 3 → a ≠ b → (TX2 a).2.1 ≠ (TX2 b).2.1 := by decide +kernel
theorem tyX2_ok : ∀ k, k < 3 → parseFieldDescriptor (TX2 k).2.2.1 = some (tyX2 k) := by decide +kernel
abbrev cX2_init : ByteArray := prog_4_method_1_code
def yX2_init : MethodName := ⟨RX2, "<init>", "()V"⟩
abbrev cX2_match : ByteArray := prog_4_method_2_code
def yX2_match : MethodName := ⟨RX2, "match", "(LMergedOutline$Outline;LMergedOutline$Outline;)V"⟩
abbrev cX2_score : ByteArray := prog_4_method_3_code
def yX2_score : MethodName := ⟨RX2, "score", "(LMergedOutline$Outline;ILMergedOutline$Outline;I)I"⟩
abbrev cX2_pairAll : ByteArray := prog_4_method_4_code
def yX2_pairAll : MethodName := ⟨RX2, "pairAll", "(I)V"⟩
abbrev cX2_partnerOf : ByteArray := prog_4_method_5_code
def yX2_partnerOf : MethodName := ⟨RX2, "partnerOf", "(I)I"⟩
abbrev cX2_countStrangers : ByteArray := prog_4_method_6_code
def yX2_countStrangers : MethodName := ⟨RX2, "countStrangers", "()I"⟩
def RX3 : String := "MergedOutline$Merger"
def TX3 : u_T := fun k => match k with
  | 0 => ("MergedOutline$Merger", "desk", "LMergedOutline$Desk;", true)
  | 1 => ("MergedOutline$Merger", "merged", "LMergedOutline$Outline;", true)
  | 2 => ("MergedOutline$Merger", "conflictRows", "LMergedOutline$Table;", true)
  | 3 => ("MergedOutline$Merger", "putBack", "[Z", true)
  | 4 => ("MergedOutline$Merger", "keys", "[I", true)
  | _ => ("MergedOutline$Merger", "isOld", "Z", false)
def tyX3 : Nat → FieldType := fun k => match k with
  | 0 => .object "MergedOutline$Desk"
  | 1 => .object "MergedOutline$Outline"
  | 2 => .object "MergedOutline$Table"
  | 3 => .array .boolean
  | 4 => .array .int
  | _ => .boolean
abbrev wsX30 : List Cond := u_ws RX3 TX3 6
theorem nmX3 : ∀ a, a < 6 → ∀ b, b < 6 → a ≠ b → (TX3 a).2.1 ≠ (TX3 b).2.1 := by decide +kernel
theorem tyX3_ok : ∀ k, k < 6 → parseFieldDescriptor (TX3 k).2.2.1 = some (tyX3 k) := by decide +kernel
abbrev cX3_init : ByteArray := prog_5_method_1_code
def yX3_init : MethodName := ⟨RX3, "<init>", "()V"⟩
abbrev cX3_refresh : ByteArray := prog_5_method_2_code
def yX3_refresh : MethodName := ⟨RX3, "refresh", "(LMergedOutline$Desk;)V"⟩
abbrev cX3_chooseSections : ByteArray := prog_5_method_3_code
def yX3_chooseSections : MethodName := ⟨RX3, "chooseSections", "()V"⟩
abbrev cX3_isChanged : ByteArray := prog_5_method_4_code
def yX3_isChanged : MethodName := ⟨RX3, "isChanged", "(ILMergedOutline$Outline;)Z"⟩
abbrev cX3_isOther : ByteArray := prog_5_method_5_code
def yX3_isOther : MethodName := ⟨RX3, "isOther", "(ILMergedOutline$Outline;I)Z"⟩
abbrev cX3_hasNewChild : ByteArray := prog_5_method_6_code
def yX3_hasNewChild : MethodName := ⟨RX3, "hasNewChild", "(ILMergedOutline$Outline;)Z"⟩
abbrev cX3_chooseTraits : ByteArray := prog_5_method_7_code
def yX3_chooseTraits : MethodName := ⟨RX3, "chooseTraits", "(II)V"⟩
abbrev cX3_sourceOf : ByteArray := prog_5_method_8_code
def yX3_sourceOf : MethodName := ⟨RX3, "sourceOf", "(II)LMergedOutline$Outline;"⟩
abbrev cX3_isDisputed : ByteArray := prog_5_method_9_code
def yX3_isDisputed : MethodName := ⟨RX3, "isDisputed", "(II)Z"⟩
abbrev cX3_rehang : ByteArray := prog_5_method_10_code
def yX3_rehang : MethodName := ⟨RX3, "rehang", "()V"⟩
abbrev cX3_nearest : ByteArray := prog_5_method_11_code
def yX3_nearest : MethodName := ⟨RX3, "nearest", "(I)I"⟩
abbrev cX3_undoRings : ByteArray := prog_5_method_12_code
def yX3_undoRings : MethodName := ⟨RX3, "undoRings", "()V"⟩
abbrev cX3_leastInRing : ByteArray := prog_5_method_13_code
def yX3_leastInRing : MethodName := ⟨RX3, "leastInRing", "()I"⟩
abbrev cX3_rehangFromRing : ByteArray := prog_5_method_14_code
def yX3_rehangFromRing : MethodName := ⟨RX3, "rehangFromRing", "(II)V"⟩
abbrev cX3_leastToPutBack : ByteArray := prog_5_method_15_code
def yX3_leastToPutBack : MethodName := ⟨RX3, "leastToPutBack", "(I)I"⟩
abbrev cX3_isMoveOfOther : ByteArray := prog_5_method_16_code
def yX3_isMoveOfOther : MethodName := ⟨RX3, "isMoveOfOther", "(I)Z"⟩
abbrev cX3_orderChildren : ByteArray := prog_5_method_17_code
def yX3_orderChildren : MethodName := ⟨RX3, "orderChildren", "()V"⟩
abbrev cX3_keyOf : ByteArray := prog_5_method_18_code
def yX3_keyOf : MethodName := ⟨RX3, "keyOf", "(I)I"⟩
abbrev cX3_countAhead : ByteArray := prog_5_method_19_code
def yX3_countAhead : MethodName := ⟨RX3, "countAhead", "(I)I"⟩
abbrev cX3_isAhead : ByteArray := prog_5_method_20_code
def yX3_isAhead : MethodName := ⟨RX3, "isAhead", "(II)Z"⟩
def RX4 : String := "MergedOutline$Outline"
def TX4 : u_T := fun k => match k with
  | _ => ("MergedOutline$Outline", "cells", "[I", true)
def tyX4 : Nat → FieldType := fun k => match k with
  | _ => .array .int
abbrev wsX40 : List Cond := u_ws RX4 TX4 1
theorem nmX4 : ∀ a, a < 1 → ∀ b, b < 1 → a ≠ b → (TX4 a).2.1 ≠ (TX4 b).2.1 := by decide +kernel
theorem tyX4_ok : ∀ k, k < 1 → parseFieldDescriptor (TX4 k).2.2.1 = some (tyX4 k) := by decide +kernel
abbrev cX4_init : ByteArray := prog_6_method_1_code
def yX4_init : MethodName := ⟨RX4, "<init>", "()V"⟩
abbrev cX4_reset : ByteArray := prog_6_method_2_code
def yX4_reset : MethodName := ⟨RX4, "reset", "()V"⟩
abbrev cX4_copyFrom : ByteArray := prog_6_method_3_code
def yX4_copyFrom : MethodName := ⟨RX4, "copyFrom", "(LMergedOutline$Outline;)V"⟩
abbrev cX4_holds : ByteArray := prog_6_method_4_code
def yX4_holds : MethodName := ⟨RX4, "holds", "(I)Z"⟩
abbrev cX4_trait : ByteArray := prog_6_method_5_code
def yX4_trait : MethodName := ⟨RX4, "trait", "(II)I"⟩
abbrev cX4_put : ByteArray := prog_6_method_6_code
def yX4_put : MethodName := ⟨RX4, "put", "(III)V"⟩
abbrev cX4_include : ByteArray := prog_6_method_7_code
def yX4_include : MethodName := ⟨RX4, "include", "(I)V"⟩
abbrev cX4_count : ByteArray := prog_6_method_8_code
def yX4_count : MethodName := ⟨RX4, "count", "()I"⟩
abbrev cX4_isChild : ByteArray := prog_6_method_9_code
def yX4_isChild : MethodName := ⟨RX4, "isChild", "(II)Z"⟩
abbrev cX4_childCount : ByteArray := prog_6_method_10_code
def yX4_childCount : MethodName := ⟨RX4, "childCount", "(I)I"⟩
abbrev cX4_childAt : ByteArray := prog_6_method_11_code
def yX4_childAt : MethodName := ⟨RX4, "childAt", "(II)I"⟩
abbrev cX4_isBelow : ByteArray := prog_6_method_12_code
def yX4_isBelow : MethodName := ⟨RX4, "isBelow", "(II)Z"⟩
abbrev cX4_countBelow : ByteArray := prog_6_method_13_code
def yX4_countBelow : MethodName := ⟨RX4, "countBelow", "(I)I"⟩
abbrev cX4_depth : ByteArray := prog_6_method_14_code
def yX4_depth : MethodName := ⟨RX4, "depth", "()I"⟩
abbrev cX4_depthOf : ByteArray := prog_6_method_15_code
def yX4_depthOf : MethodName := ⟨RX4, "depthOf", "(I)I"⟩
abbrev cX4_following : ByteArray := prog_6_method_16_code
def yX4_following : MethodName := ⟨RX4, "following", "(I)I"⟩
abbrev cX4_countShared : ByteArray := prog_6_method_17_code
def yX4_countShared : MethodName := ⟨RX4, "countShared", "(LMergedOutline$Outline;)I"⟩
abbrev cX4_isSame : ByteArray := prog_6_method_18_code
def yX4_isSame : MethodName := ⟨RX4, "isSame", "(ILMergedOutline$Outline;)Z"⟩
abbrev cX4_attach : ByteArray := prog_6_method_19_code
def yX4_attach : MethodName := ⟨RX4, "attach", "(III)V"⟩
abbrev cX4_detach : ByteArray := prog_6_method_20_code
def yX4_detach : MethodName := ⟨RX4, "detach", "(I)V"⟩
abbrev cX4_shift : ByteArray := prog_6_method_21_code
def yX4_shift : MethodName := ⟨RX4, "shift", "(III)V"⟩
abbrev cX4_drop : ByteArray := prog_6_method_22_code
def yX4_drop : MethodName := ⟨RX4, "drop", "(I)I"⟩
def RX5 : String := "MergedOutline$Script"
def TX5 : u_T := fun k => match k with
  | _ => ("MergedOutline$Script", "rows", "LMergedOutline$Table;", true)
def tyX5 : Nat → FieldType := fun k => match k with
  | _ => .object "MergedOutline$Table"
abbrev wsX50 : List Cond := u_ws RX5 TX5 1
theorem nmX5 : ∀ a, a < 1 → ∀ b, b < 1 → a ≠ b → (TX5 a).2.1 ≠ (TX5 b).2.1 := by decide +kernel
theorem tyX5_ok : ∀ k, k < 1 → parseFieldDescriptor (TX5 k).2.2.1 = some (tyX5 k) := by decide +kernel
abbrev cX5_init : ByteArray := prog_7_method_1_code
def yX5_init : MethodName := ⟨RX5, "<init>", "()V"⟩
abbrev cX5_write : ByteArray := prog_7_method_2_code
def yX5_write : MethodName := ⟨RX5, "write", "(LMergedOutline$Outline;LMergedOutline$Outline;)V"⟩
abbrev cX5_writeChange : ByteArray := prog_7_method_3_code
def yX5_writeChange : MethodName := ⟨RX5, "writeChange", "(LMergedOutline$Outline;LMergedOutline$Outline;III)V"⟩
def RX6 : String := "MergedOutline$Table"
def TX6 : u_T := fun k => match k with
  | 0 => ("MergedOutline$Table", "kinds", "[I", true)
  | 1 => ("MergedOutline$Table", "ones", "[I", true)
  | 2 => ("MergedOutline$Table", "others", "[I", true)
  | _ => ("MergedOutline$Table", "count", "I", false)
def tyX6 : Nat → FieldType := fun k => match k with
  | 0 => .array .int
  | 1 => .array .int
  | 2 => .array .int
  | _ => .int
abbrev wsX60 : List Cond := u_ws RX6 TX6 4
theorem nmX6 : ∀ a, a < 4 → ∀ b, b < 4 → a ≠ b → (TX6 a).2.1 ≠ (TX6 b).2.1 := by decide +kernel
theorem tyX6_ok : ∀ k, k < 4 → parseFieldDescriptor (TX6 k).2.2.1 = some (tyX6 k) := by decide +kernel
abbrev cX6_init : ByteArray := prog_8_method_1_code
def yX6_init : MethodName := ⟨RX6, "<init>", "(I)V"⟩
abbrev cX6_wipe : ByteArray := prog_8_method_2_code
def yX6_wipe : MethodName := ⟨RX6, "wipe", "()V"⟩
abbrev cX6_tell : ByteArray := prog_8_method_3_code
def yX6_tell : MethodName := ⟨RX6, "tell", "(III)V"⟩
abbrev cX6_answer : ByteArray := prog_8_method_4_code
def yX6_answer : MethodName := ⟨RX6, "answer", "(II)I"⟩
def RX7 : String := "MergedOutline$Typed"
def TX7 : u_T := fun k => match k with
  | 0 => ("MergedOutline$Typed", "bytes", "[I", true)
  | 1 => ("MergedOutline$Typed", "orders", "[I", true)
  | 2 => ("MergedOutline$Typed", "length", "I", false)
  | 3 => ("MergedOutline$Typed", "orderCount", "I", false)
  | 4 => ("MergedOutline$Typed", "isOpen", "Z", false)
  | 5 => ("MergedOutline$Typed", "wanted", "I", false)
  | 6 => ("MergedOutline$Typed", "given", "I", false)
  | _ => ("MergedOutline$Typed", "figures", "I", false)
def tyX7 : Nat → FieldType := fun k => match k with
  | 0 => .array .int
  | 1 => .array .int
  | 2 => .int
  | 3 => .int
  | 4 => .boolean
  | 5 => .int
  | 6 => .int
  | _ => .int
abbrev wsX70 : List Cond := u_ws RX7 TX7 8
theorem nmX7 : ∀ a, a < 8 → ∀ b, b < 8 → a ≠ b → (TX7 a).2.1 ≠ (TX7 b).2.1 := by decide +kernel
theorem tyX7_ok : ∀ k, k < 8 → parseFieldDescriptor (TX7 k).2.2.1 = some (tyX7 k) := by decide +kernel
abbrev cX7_init : ByteArray := prog_9_method_1_code
def yX7_init : MethodName := ⟨RX7, "<init>", "()V"⟩
abbrev cX7_append : ByteArray := prog_9_method_2_code
def yX7_append : MethodName := ⟨RX7, "append", "(I)Z"⟩
abbrev cX7_wipe : ByteArray := prog_9_method_3_code
def yX7_wipe : MethodName := ⟨RX7, "wipe", "()I"⟩
abbrev cX7_read : ByteArray := prog_9_method_4_code
def yX7_read : MethodName := ⟨RX7, "read", "()I"⟩
abbrev cX7_takes : ByteArray := prog_9_method_5_code
def yX7_takes : MethodName := ⟨RX7, "takes", "(I)Z"⟩
abbrev cX7_opens : ByteArray := prog_9_method_6_code
def yX7_opens : MethodName := ⟨RX7, "opens", "(I)Z"⟩
abbrev cX7_numbersOf : ByteArray := prog_9_method_7_code
def yX7_numbersOf : MethodName := ⟨RX7, "numbersOf", "(I)I"⟩
abbrev cX7_takesFigure : ByteArray := prog_9_method_8_code
def yX7_takesFigure : MethodName := ⟨RX7, "takesFigure", "(I)Z"⟩
abbrev cX7_closes : ByteArray := prog_9_method_9_code
def yX7_closes : MethodName := ⟨RX7, "closes", "()Z"⟩
abbrev cX7_put : ByteArray := prog_9_method_10_code
def yX7_put : MethodName := ⟨RX7, "put", "(III)V"⟩
abbrev cX7_cell : ByteArray := prog_9_method_11_code
def yX7_cell : MethodName := ⟨RX7, "cell", "(II)I"⟩
abbrev cX7_isCell : ByteArray := prog_9_method_12_code
def yX7_isCell : MethodName := ⟨RX7, "isCell", "(II)Z"⟩
def RX8 : String := "MergedOutline"
def TX8 : u_T := fun k => match k with
  | 0 => ("MergedOutline", "desk", "LMergedOutline$Desk;", true)
  | 1 => ("MergedOutline", "before", "LMergedOutline$Desk;", true)
  | 2 => ("MergedOutline", "history", "LMergedOutline$History;", true)
  | 3 => ("MergedOutline", "merger", "LMergedOutline$Merger;", true)
  | 4 => ("MergedOutline", "script", "LMergedOutline$Script;", true)
  | 5 => ("MergedOutline", "matching", "LMergedOutline$Matching;", true)
  | 6 => ("MergedOutline", "typed", "LMergedOutline$Typed;", true)
  | 7 => ("MergedOutline", "badCount", "I", false)
  | 8 => ("MergedOutline", "noCount", "I", false)
  | _ => ("MergedOutline", "fullCount", "I", false)
def tyX8 : Nat → FieldType := fun k => match k with
  | 0 => .object "MergedOutline$Desk"
  | 1 => .object "MergedOutline$Desk"
  | 2 => .object "MergedOutline$History"
  | 3 => .object "MergedOutline$Merger"
  | 4 => .object "MergedOutline$Script"
  | 5 => .object "MergedOutline$Matching"
  | 6 => .object "MergedOutline$Typed"
  | 7 => .int
  | 8 => .int
  | _ => .int
abbrev wsX80 : List Cond := u_ws RX8 TX8 10
theorem nmX8 : ∀ a, a < 10 → ∀ b, b < 10 → a ≠ b → (TX8 a).2.1 ≠ (TX8 b).2.1 := by decide +kernel
theorem tyX8_ok : ∀ k, k < 10 → parseFieldDescriptor (TX8 k).2.2.1 = some (tyX8 k) := by decide +kernel
abbrev cX8_init : ByteArray := prog_1_method_1_code
def yX8_init : MethodName := ⟨RX8, "<init>", "()V"⟩
abbrev cX8_adds : ByteArray := prog_1_method_2_code
def yX8_adds : MethodName := ⟨RX8, "adds", "(IIIII)I"⟩
abbrev cX8_moves : ByteArray := prog_1_method_3_code
def yX8_moves : MethodName := ⟨RX8, "moves", "(IIII)I"⟩
abbrev cX8_renames : ByteArray := prog_1_method_4_code
def yX8_renames : MethodName := ⟨RX8, "renames", "(III)I"⟩
abbrev cX8_edits : ByteArray := prog_1_method_5_code
def yX8_edits : MethodName := ⟨RX8, "edits", "(III)I"⟩
abbrev cX8_deletes : ByteArray := prog_1_method_6_code
def yX8_deletes : MethodName := ⟨RX8, "deletes", "(II)I"⟩
abbrev cX8_forks : ByteArray := prog_1_method_7_code
def yX8_forks : MethodName := ⟨RX8, "forks", "()I"⟩
abbrev cX8_prefers : ByteArray := prog_1_method_8_code
def yX8_prefers : MethodName := ⟨RX8, "prefers", "(I)I"⟩
abbrev cX8_adopts : ByteArray := prog_1_method_9_code
def yX8_adopts : MethodName := ⟨RX8, "adopts", "()I"⟩
abbrev cX8_has : ByteArray := prog_1_method_10_code
def yX8_has : MethodName := ⟨RX8, "has", "(II)I"⟩
abbrev cX8_of : ByteArray := prog_1_method_11_code
def yX8_of : MethodName := ⟨RX8, "of", "(III)I"⟩
abbrev cX8_walk : ByteArray := prog_1_method_12_code
def yX8_walk : MethodName := ⟨RX8, "walk", "(II)I"⟩
abbrev cX8_size : ByteArray := prog_1_method_13_code
def yX8_size : MethodName := ⟨RX8, "size", "(II)I"⟩
abbrev cX8_alike : ByteArray := prog_1_method_14_code
def yX8_alike : MethodName := ⟨RX8, "alike", "(II)I"⟩
abbrev cX8_conflicts : ByteArray := prog_1_method_15_code
def yX8_conflicts : MethodName := ⟨RX8, "conflicts", "(II)I"⟩
abbrev cX8_script : ByteArray := prog_1_method_16_code
def yX8_script : MethodName := ⟨RX8, "script", "(III)I"⟩
abbrev cX8_matches : ByteArray := prog_1_method_17_code
def yX8_matches : MethodName := ⟨RX8, "matches", "(II)I"⟩
abbrev cX8_told : ByteArray := prog_1_method_18_code
def yX8_told : MethodName := ⟨RX8, "told", "(I)I"⟩
abbrev cX8_type : ByteArray := prog_1_method_19_code
def yX8_type : MethodName := ⟨RX8, "type", "(I)I"⟩
abbrev cX8_clear : ByteArray := prog_1_method_20_code
def yX8_clear : MethodName := ⟨RX8, "clear", "()I"⟩
abbrev cX8_does : ByteArray := prog_1_method_21_code
def yX8_does : MethodName := ⟨RX8, "does", "()I"⟩
abbrev cX8_back : ByteArray := prog_1_method_22_code
def yX8_back : MethodName := ⟨RX8, "back", "()I"⟩
abbrev cX8_refused : ByteArray := prog_1_method_23_code
def yX8_refused : MethodName := ⟨RX8, "refused", "(I)I"⟩
abbrev cX8_digest : ByteArray := prog_1_method_24_code
def yX8_digest : MethodName := ⟨RX8, "digest", "()J"⟩
abbrev cX8_settled : ByteArray := prog_1_method_25_code
def yX8_settled : MethodName := ⟨RX8, "settled", "(I)I"⟩
abbrev cX8_refuse : ByteArray := prog_1_method_26_code
def yX8_refuse : MethodName := ⟨RX8, "refuse", "(I)I"⟩
abbrev cX8_outline : ByteArray := prog_1_method_27_code
def yX8_outline : MethodName := ⟨RX8, "outline", "(I)LMergedOutline$Outline;"⟩
abbrev cX8_perform : ByteArray := prog_1_method_28_code
def yX8_perform : MethodName := ⟨RX8, "perform", "(I)I"⟩
abbrev cX8_tellCount : ByteArray := prog_1_method_29_code
def yX8_tellCount : MethodName := ⟨RX8, "tellCount", "(I)I"⟩
abbrev cX8_tellDesk : ByteArray := prog_1_method_30_code
def yX8_tellDesk : MethodName := ⟨RX8, "tellDesk", "(I)I"⟩
abbrev cX8_mixed : ByteArray := prog_1_method_31_code
def yX8_mixed : MethodName := ⟨RX8, "mixed", "(JI)J"⟩
abbrev cX8_mixedOutline : ByteArray := prog_1_method_32_code
def yX8_mixedOutline : MethodName := ⟨RX8, "mixedOutline", "(JLMergedOutline$Outline;)J"⟩
abbrev cX8_mixedConflicts : ByteArray := prog_1_method_33_code
def yX8_mixedConflicts : MethodName := ⟨RX8, "mixedConflicts", "(JLMergedOutline$Table;)J"⟩
abbrev cX8_isRowAsked : ByteArray := prog_1_method_34_code
def yX8_isRowAsked : MethodName := ⟨RX8, "isRowAsked", "(III)Z"⟩
abbrev cX8_isNumber : ByteArray := prog_1_method_35_code
def yX8_isNumber : MethodName := ⟨RX8, "isNumber", "(I)Z"⟩
abbrev cX8_isValue : ByteArray := prog_1_method_36_code
def yX8_isValue : MethodName := ⟨RX8, "isValue", "(I)Z"⟩
abbrev cX8_isSide : ByteArray := prog_1_method_37_code
def yX8_isSide : MethodName := ⟨RX8, "isSide", "(I)Z"⟩
abbrev cX8_isOwnOutline : ByteArray := prog_1_method_38_code
def yX8_isOwnOutline : MethodName := ⟨RX8, "isOwnOutline", "(I)Z"⟩
abbrev cX8_isAnyOutline : ByteArray := prog_1_method_39_code
def yX8_isAnyOutline : MethodName := ⟨RX8, "isAnyOutline", "(I)Z"⟩
def RX9 : String := "MergedOutlineModel"
def TX9 : u_T := fun k => match k with
  | 0 => ("MergedOutlineModel", "now", "[I", true)
  | 1 => ("MergedOutlineModel", "aside", "[I", true)
  | 2 => ("MergedOutlineModel", "before", "[I", true)
  | 3 => ("MergedOutlineModel", "past", "[I", true)
  | 4 => ("MergedOutlineModel", "states", "I", false)
  | 5 => ("MergedOutlineModel", "refusals", "[I", true)
  | 6 => ("MergedOutlineModel", "text", "[I", true)
  | 7 => ("MergedOutlineModel", "bytes", "I", false)
  | 8 => ("MergedOutlineModel", "orderLetter", "[I", true)
  | 9 => ("MergedOutlineModel", "orderFrom", "[I", true)
  | 10 => ("MergedOutlineModel", "numbers", "[I", true)
  | 11 => ("MergedOutlineModel", "orders", "I", false)
  | 12 => ("MergedOutlineModel", "found", "[I", true)
  | 13 => ("MergedOutlineModel", "conflictMany", "I", false)
  | 14 => ("MergedOutlineModel", "walked", "[I", true)
  | 15 => ("MergedOutlineModel", "waiting", "[I", true)
  | 16 => ("MergedOutlineModel", "steps", "[I", true)
  | 17 => ("MergedOutlineModel", "stepMany", "I", false)
  | 18 => ("MergedOutlineModel", "matchOf", "[I", true)
  | 19 => ("MergedOutlineModel", "letter", "I", false)
  | 20 => ("MergedOutlineModel", "begun", "I", false)
  | _ => ("MergedOutlineModel", "figures", "I", false)
def tyX9 : Nat → FieldType := fun k => match k with
  | 0 => .array .int
  | 1 => .array .int
  | 2 => .array .int
  | 3 => .array .int
  | 4 => .int
  | 5 => .array .int
  | 6 => .array .int
  | 7 => .int
  | 8 => .array .int
  | 9 => .array .int
  | 10 => .array .int
  | 11 => .int
  | 12 => .array .int
  | 13 => .int
  | 14 => .array .int
  | 15 => .array .int
  | 16 => .array .int
  | 17 => .int
  | 18 => .array .int
  | 19 => .int
  | 20 => .int
  | _ => .int
abbrev wsX90 : List Cond := u_ws RX9 TX9 22
theorem nmX9 : ∀ a, a < 22 → ∀ b, b < 22 → a ≠ b → (TX9 a).2.1 ≠ (TX9 b).2.1 := by decide +kernel
theorem tyX9_ok : ∀ k, k < 22 → parseFieldDescriptor (TX9 k).2.2.1 = some (tyX9 k) := by decide +kernel
abbrev cX9_init : ByteArray := prog_11_method_1_code
def yX9_init : MethodName := ⟨RX9, "<init>", "()V"⟩
abbrev cX9_in : ByteArray := prog_11_method_2_code
def yX9_in : MethodName := ⟨RX9, "in", "(III)Z"⟩
abbrev cX9_bring : ByteArray := prog_11_method_3_code
def yX9_bring : MethodName := ⟨RX9, "bring", "([II[III)V"⟩
abbrev cX9_refuse : ByteArray := prog_11_method_4_code
def yX9_refuse : MethodName := ⟨RX9, "refuse", "(I)I"⟩
abbrev cX9_save : ByteArray := prog_11_method_5_code
def yX9_save : MethodName := ⟨RX9, "save", "()V"⟩
abbrev cX9_isRefused : ByteArray := prog_11_method_6_code
def yX9_isRefused : MethodName := ⟨RX9, "isRefused", "(I)Z"⟩
abbrev cX9_finish : ByteArray := prog_11_method_7_code
def yX9_finish : MethodName := ⟨RX9, "finish", "(I)I"⟩
abbrev cX9_isIn : ByteArray := prog_11_method_8_code
def yX9_isIn : MethodName := ⟨RX9, "isIn", "(II)Z"⟩
abbrev cX9_isThere : ByteArray := prog_11_method_9_code
def yX9_isThere : MethodName := ⟨RX9, "isThere", "(II)Z"⟩
abbrev cX9_parentOf : ByteArray := prog_11_method_10_code
def yX9_parentOf : MethodName := ⟨RX9, "parentOf", "(II)I"⟩
abbrev cX9_placeOf : ByteArray := prog_11_method_11_code
def yX9_placeOf : MethodName := ⟨RX9, "placeOf", "(II)I"⟩
abbrev cX9_nameOf : ByteArray := prog_11_method_12_code
def yX9_nameOf : MethodName := ⟨RX9, "nameOf", "(II)I"⟩
abbrev cX9_textOf : ByteArray := prog_11_method_13_code
def yX9_textOf : MethodName := ⟨RX9, "textOf", "(II)I"⟩
abbrev cX9_childrenOf : ByteArray := prog_11_method_14_code
def yX9_childrenOf : MethodName := ⟨RX9, "childrenOf", "(II)I"⟩
abbrev cX9_manyIn : ByteArray := prog_11_method_15_code
def yX9_manyIn : MethodName := ⟨RX9, "manyIn", "(I)I"⟩
abbrev cX9_belowOf : ByteArray := prog_11_method_16_code
def yX9_belowOf : MethodName := ⟨RX9, "belowOf", "(II)I"⟩
abbrev cX9_ones : ByteArray := prog_11_method_17_code
def yX9_ones : MethodName := ⟨RX9, "ones", "(I)I"⟩
abbrev cX9_push : ByteArray := prog_11_method_18_code
def yX9_push : MethodName := ⟨RX9, "push", "(IIII)V"⟩
abbrev cX9_hang : ByteArray := prog_11_method_19_code
def yX9_hang : MethodName := ⟨RX9, "hang", "(IIII)V"⟩
abbrev cX9_unhang : ByteArray := prog_11_method_20_code
def yX9_unhang : MethodName := ⟨RX9, "unhang", "(II)V"⟩
abbrev cX9_isOutline : ByteArray := prog_11_method_21_code
def yX9_isOutline : MethodName := ⟨RX9, "isOutline", "(I)Z"⟩
abbrev cX9_isWord : ByteArray := prog_11_method_22_code
def yX9_isWord : MethodName := ⟨RX9, "isWord", "(I)Z"⟩
abbrev cX9_add : ByteArray := prog_11_method_23_code
def yX9_add : MethodName := ⟨RX9, "add", "(IIIII)I"⟩
abbrev cX9_move : ByteArray := prog_11_method_24_code
def yX9_move : MethodName := ⟨RX9, "move", "(IIII)I"⟩
abbrev cX9_put : ByteArray := prog_11_method_25_code
def yX9_put : MethodName := ⟨RX9, "put", "(IIII)I"⟩
abbrev cX9_delete : ByteArray := prog_11_method_26_code
def yX9_delete : MethodName := ⟨RX9, "delete", "(II)I"⟩
abbrev cX9_fork : ByteArray := prog_11_method_27_code
def yX9_fork : MethodName := ⟨RX9, "fork", "()I"⟩
abbrev cX9_prefer : ByteArray := prog_11_method_28_code
def yX9_prefer : MethodName := ⟨RX9, "prefer", "(I)I"⟩
abbrev cX9_adds : ByteArray := prog_11_method_29_code
def yX9_adds : MethodName := ⟨RX9, "adds", "(IIIII)I"⟩
abbrev cX9_moves : ByteArray := prog_11_method_30_code
def yX9_moves : MethodName := ⟨RX9, "moves", "(IIII)I"⟩
abbrev cX9_renames : ByteArray := prog_11_method_31_code
def yX9_renames : MethodName := ⟨RX9, "renames", "(III)I"⟩
abbrev cX9_edits : ByteArray := prog_11_method_32_code
def yX9_edits : MethodName := ⟨RX9, "edits", "(III)I"⟩
abbrev cX9_deletes : ByteArray := prog_11_method_33_code
def yX9_deletes : MethodName := ⟨RX9, "deletes", "(II)I"⟩
abbrev cX9_forks : ByteArray := prog_11_method_34_code
def yX9_forks : MethodName := ⟨RX9, "forks", "()I"⟩
abbrev cX9_prefers : ByteArray := prog_11_method_35_code
def yX9_prefers : MethodName := ⟨RX9, "prefers", "(I)I"⟩
abbrev cX9_adopts : ByteArray := prog_11_method_36_code
def yX9_adopts : MethodName := ⟨RX9, "adopts", "()I"⟩
abbrev cX9_conflict : ByteArray := prog_11_method_37_code
def yX9_conflict : MethodName := ⟨RX9, "conflict", "(III)V"⟩
abbrev cX9_isChanged : ByteArray := prog_11_method_38_code
def yX9_isChanged : MethodName := ⟨RX9, "isChanged", "(II)Z"⟩
abbrev cX9_mergeIn : ByteArray := prog_11_method_39_code
def yX9_mergeIn : MethodName := ⟨RX9, "mergeIn", "(I)V"⟩
abbrev cX9_settle : ByteArray := prog_11_method_40_code
def yX9_settle : MethodName := ⟨RX9, "settle", "(III)V"⟩
abbrev cX9_nearest : ByteArray := prog_11_method_41_code
def yX9_nearest : MethodName := ⟨RX9, "nearest", "(I)I"⟩
abbrev cX9_isOnRing : ByteArray := prog_11_method_42_code
def yX9_isOnRing : MethodName := ⟨RX9, "isOnRing", "(I)Z"⟩
abbrev cX9_ringFrom : ByteArray := prog_11_method_43_code
def yX9_ringFrom : MethodName := ⟨RX9, "ringFrom", "(I)I"⟩
abbrev cX9_breakRings : ByteArray := prog_11_method_44_code
def yX9_breakRings : MethodName := ⟨RX9, "breakRings", "()V"⟩
abbrev cX9_keyOf : ByteArray := prog_11_method_45_code
def yX9_keyOf : MethodName := ⟨RX9, "keyOf", "(I)I"⟩
abbrev cX9_merge : ByteArray := prog_11_method_46_code
def yX9_merge : MethodName := ⟨RX9, "merge", "()V"⟩
abbrev cX9_isAsked : ByteArray := prog_11_method_47_code
def yX9_isAsked : MethodName := ⟨RX9, "isAsked", "(I)Z"⟩
abbrev cX9_has : ByteArray := prog_11_method_48_code
def yX9_has : MethodName := ⟨RX9, "has", "(II)I"⟩
abbrev cX9_ofSection : ByteArray := prog_11_method_49_code
def yX9_ofSection : MethodName := ⟨RX9, "ofSection", "(III)I"⟩
abbrev cX9_of : ByteArray := prog_11_method_50_code
def yX9_of : MethodName := ⟨RX9, "of", "(III)I"⟩
abbrev cX9_walkAll : ByteArray := prog_11_method_51_code
def yX9_walkAll : MethodName := ⟨RX9, "walkAll", "(I)I"⟩
abbrev cX9_walk : ByteArray := prog_11_method_52_code
def yX9_walk : MethodName := ⟨RX9, "walk", "(II)I"⟩
abbrev cX9_deepOf : ByteArray := prog_11_method_53_code
def yX9_deepOf : MethodName := ⟨RX9, "deepOf", "(I)I"⟩
abbrev cX9_size : ByteArray := prog_11_method_54_code
def yX9_size : MethodName := ⟨RX9, "size", "(II)I"⟩
abbrev cX9_alike : ByteArray := prog_11_method_55_code
def yX9_alike : MethodName := ⟨RX9, "alike", "(II)I"⟩
abbrev cX9_conflicts : ByteArray := prog_11_method_56_code
def yX9_conflicts : MethodName := ⟨RX9, "conflicts", "(II)I"⟩
abbrev cX9_step : ByteArray := prog_11_method_57_code
def yX9_step : MethodName := ⟨RX9, "step", "(II)V"⟩
abbrev cX9_layScript : ByteArray := prog_11_method_58_code
def yX9_layScript : MethodName := ⟨RX9, "layScript", "(I)V"⟩
abbrev cX9_script : ByteArray := prog_11_method_59_code
def yX9_script : MethodName := ⟨RX9, "script", "(III)I"⟩
abbrev cX9_scoreOf : ByteArray := prog_11_method_60_code
def yX9_scoreOf : MethodName := ⟨RX9, "scoreOf", "(III)I"⟩
abbrev cX9_layMatches : ByteArray := prog_11_method_61_code
def yX9_layMatches : MethodName := ⟨RX9, "layMatches", "(I)V"⟩
abbrev cX9_matches : ByteArray := prog_11_method_62_code
def yX9_matches : MethodName := ⟨RX9, "matches", "(II)I"⟩
abbrev cX9_strangers : ByteArray := prog_11_method_63_code
def yX9_strangers : MethodName := ⟨RX9, "strangers", "(I)I"⟩
abbrev cX9_toldOf : ByteArray := prog_11_method_64_code
def yX9_toldOf : MethodName := ⟨RX9, "toldOf", "(I)I"⟩
abbrev cX9_told : ByteArray := prog_11_method_65_code
def yX9_told : MethodName := ⟨RX9, "told", "(I)I"⟩
abbrev cX9_type : ByteArray := prog_11_method_66_code
def yX9_type : MethodName := ⟨RX9, "type", "(I)I"⟩
abbrev cX9_clear : ByteArray := prog_11_method_67_code
def yX9_clear : MethodName := ⟨RX9, "clear", "()I"⟩
abbrev cX9_wantsOf : ByteArray := prog_11_method_68_code
def yX9_wantsOf : MethodName := ⟨RX9, "wantsOf", "(I)I"⟩
abbrev cX9_readByte : ByteArray := prog_11_method_69_code
def yX9_readByte : MethodName := ⟨RX9, "readByte", "(I)Z"⟩
abbrev cX9_readText : ByteArray := prog_11_method_70_code
def yX9_readText : MethodName := ⟨RX9, "readText", "()I"⟩
abbrev cX9_numberOf : ByteArray := prog_11_method_71_code
def yX9_numberOf : MethodName := ⟨RX9, "numberOf", "(II)I"⟩
abbrev cX9_doOrder : ByteArray := prog_11_method_72_code
def yX9_doOrder : MethodName := ⟨RX9, "doOrder", "(I)I"⟩
abbrev cX9_does : ByteArray := prog_11_method_73_code
def yX9_does : MethodName := ⟨RX9, "does", "()I"⟩
abbrev cX9_back : ByteArray := prog_11_method_74_code
def yX9_back : MethodName := ⟨RX9, "back", "()I"⟩
abbrev cX9_refusedOf : ByteArray := prog_11_method_75_code
def yX9_refusedOf : MethodName := ⟨RX9, "refusedOf", "(I)I"⟩
abbrev cX9_refused : ByteArray := prog_11_method_76_code
def yX9_refused : MethodName := ⟨RX9, "refused", "(I)I"⟩
abbrev cX9_digest : ByteArray := prog_11_method_77_code
def yX9_digest : MethodName := ⟨RX9, "digest", "()J"⟩
def RJ6 : String := "java/lang/Integer"
def TJ6 : u_T := fun k => match k with
  | _ => ("", "", "", false)
def tyJ6 : Nat → FieldType := fun k => match k with
  | _ => .int
abbrev wsJ60 : List Cond := u_ws RJ6 TJ6 0
theorem nmJ6 : ∀ a, a < 0 → ∀ b, b < 0 → a ≠ b → (TJ6 a).2.1 ≠ (TJ6 b).2.1 := by decide +kernel
theorem tyJ6_ok : ∀ k, k < 0 → parseFieldDescriptor (TJ6 k).2.2.1 = some (tyJ6 k) := by decide +kernel
abbrev cJ6_bitCount_0f7a4 : ByteArray := prog_12_method_49_code
def yJ6_bitCount_0f7a4 : MethodName := ⟨RJ6, "bitCount", "(I)I"⟩
def RJ9 : String := "java/lang/Math"
def TJ9 : u_T := fun k => match k with
  | _ => ("", "", "", false)
def tyJ9 : Nat → FieldType := fun k => match k with
  | _ => .int
abbrev wsJ90 : List Cond := u_ws RJ9 TJ9 0
theorem nmJ9 : ∀ a, a < 0 → ∀ b, b < 0 → a ≠ b → (TJ9 a).2.1 ≠ (TJ9 b).2.1 := by decide +kernel
theorem tyJ9_ok : ∀ k, k < 0 → parseFieldDescriptor (TJ9 k).2.2.1 = some (tyJ9 k) := by decide +kernel
abbrev cJ9_max_7cf53 : ByteArray := prog_13_method_65_code
def yJ9_max_7cf53 : MethodName := ⟨RJ9, "max", "(II)I"⟩
abbrev cJ9_min_7cf53 : ByteArray := prog_13_method_69_code
def yJ9_min_7cf53 : MethodName := ⟨RJ9, "min", "(II)I"⟩
def RJ10 : String := "java/lang/System"
def TJ10 : u_T := fun k => match k with
  | _ => ("", "", "", false)
def tyJ10 : Nat → FieldType := fun k => match k with
  | _ => .int
abbrev wsJ100 : List Cond := u_ws RJ10 TJ10 0
theorem nmJ10 : ∀ a, a < 0 → ∀ b, b < 0 → a ≠ b → (TJ10 a).2.1 ≠ (TJ10 b).2.1 := by decide +kernel
theorem tyJ10_ok : ∀ k, k < 0 → parseFieldDescriptor (TJ10 k).2.2.1 = some (tyJ10 k) := by decide +kernel
def RL : String := "MergedOutlineLaw"
abbrev cL_law : ByteArray := code
def yL_law : MethodName := ⟨RL, "law", "([I)Z"⟩
abbrev vwCl : List vw_C := [(RX0, TX0, 5), (RX1, TX1, 3), (RX2, TX2, 3), (RX3, TX3, 6), (RX4, TX4, 1), (RX5, TX5, 1), (RX6, TX6, 4), (RX7, TX7, 8), (RX8, TX8, 10), (RX9, TX9, 22)]
end
section
/-! ===== the tables' words as one fact, carried by every contract ===== -/
def isNestW : Cond → Bool
  | .fieldLinkNest _ _ _ _ _ _ => true
  | .methodLinkNest _ _ _ _ => true
  | _ => false
/-- the words that stay true -/
def tb : List Cond := lw_tbl.filter (fun w => goodWord w || isNestW w)
theorem tb_in {i : Nat} {w : Cond} (h : lw_tbl[i]? = some w) (h2 : (goodWord w || isNestW w) = true) : w ∈ tb := List.mem_filter.mpr ⟨List.mem_of_getElem? h, h2⟩
def TB (U : State) : Prop := ∀ w ∈ tb, ∀ a : Array Value, w.before a U = true
theorem nestW_cases {w : Cond} (h : isNestW w = true) : (∃ a i b n d h, w = .fieldLinkNest a i b n d h) ∨ ∃ a i x h, w = .methodLinkNest a i x h := by
  unfold isNestW at h
  split at h
  · exact Or.inl ⟨_, _, _, _, _, _, rfl⟩
  · exact Or.inr ⟨_, _, _, _, rfl⟩
  · cases h
theorem TB.warm {s U : State} (hW : s.WarmedH U.vm) (h : TB s) : TB U := by
  intro w hw a
  have h1 := (List.mem_filter.mp hw).2
  rcases (Bool.or_eq_true _ _).mp h1 with h2 | h2
  · exact word_at hW (good_of_word h2) (h w hw a)
  · rcases nestW_cases h2 with ⟨x1, x2, x3, x4, x5, x6, rfl⟩ | ⟨x1, x2, x3, x4, rfl⟩
    · exact va_Nw.use rfl (va_Nw.warmF hW (va_Nw.of rfl (h _ hw a)))
    · exact va_Nw.use rfl (va_Nw.warmM hW (va_Nw.of rfl (h _ hw a)))
theorem TB.start {s : State} {b : Array Value} (h : ∀ w ∈ lw_tbl, w.before b s = true) : TB s := by
  intro w hw a
  have h1 := (List.mem_filter.mp hw).2
  rcases (Bool.or_eq_true _ _).mp h1 with h2 | h2
  · exact word_at (State.WarmedH.refl s) (good_of_word h2) (h w (List.mem_filter.mp hw).1)
  · rcases nestW_cases h2 with ⟨x1, x2, x3, x4, x5, x6, rfl⟩ | ⟨x1, x2, x3, x4, rfl⟩
    · exact va_Nw.use rfl (va_Nw.of rfl (h _ (List.mem_filter.mp hw).1))
    · exact va_Nw.use rfl (va_Nw.of rfl (h _ (List.mem_filter.mp hw).1))
set_option maxRecDepth 100000 in
theorem inX0 : ∀ w ∈ wsX00, w ∈ tb := by decide +kernel
set_option maxRecDepth 100000 in
theorem inX1 : ∀ w ∈ wsX10, w ∈ tb := by decide +kernel
set_option maxRecDepth 100000 in
theorem inX2 : ∀ w ∈ wsX20, w ∈ tb := by decide +kernel
set_option maxRecDepth 100000 in
theorem inX3 : ∀ w ∈ wsX30, w ∈ tb := by decide +kernel
set_option maxRecDepth 100000 in
theorem inX4 : ∀ w ∈ wsX40, w ∈ tb := by decide +kernel
set_option maxRecDepth 100000 in
theorem inX5 : ∀ w ∈ wsX50, w ∈ tb := by decide +kernel
set_option maxRecDepth 100000 in
theorem inX6 : ∀ w ∈ wsX60, w ∈ tb := by decide +kernel
set_option maxRecDepth 100000 in
theorem inX7 : ∀ w ∈ wsX70, w ∈ tb := by decide +kernel
set_option maxRecDepth 100000 in
theorem inX8 : ∀ w ∈ wsX80, w ∈ tb := by decide +kernel
set_option maxRecDepth 100000 in
theorem inX9 : ∀ w ∈ wsX90, w ∈ tb := by decide +kernel
def G (D : va_G) (tys : List (ClassId × FieldType)) (U : State) : Prop := va_K D vwCl tys U ∧ TB U
theorem G.warm {D : va_G} {tys : List (ClassId × FieldType)} {s U : State} (hW : s.WarmedH U.vm) (h : G D tys s) : G D tys U := ⟨va_K.moved hW.alike h.1, h.2.warm hW⟩
/-- the world's cells stand, apart, and nothing else was changed -/
def xI (D : va_G) (A : Nat → Prop) (H0 : Heap) (w : va_W) (H : Heap) (locs : List Loc) : Prop := va_P D vwCl w H ∧ va_D A w ∧ va_S A H0 H locs
/-- a contract whose answer and world behind are known -/
def Pw (D : va_G) (tys : List (ClassId × FieldType)) (av : List Value) (w0 : va_W) (sz : Nat) : Array Value → State → Prop :=
  va_Pc av (fun U => U.heap.size = sz ∧ va_P D vwCl w0 U.heap ∧ G D tys U ∧ va_D (fun _ => True) w0)
def Qw (D : va_G) (tys : List (ClassId × FieldType)) (w0 : va_W) (sz : Nat) (v : Option Value) (w1 : va_W) : Array Value → State → Outcome → State → Prop :=
  fun _ st oc t => (oc = .returned v ∧ va_P D vwCl w1 t.heap ∧ G D tys t ∧ va_D (va_A w0 sz) w1) ∧ va_F (va_A w0 sz) st t
def Ct (l : Launch) (y : MethodName) (cc : ByteArray) (maxL : Nat) (ret : Option FieldType) (rm : Room) (D : va_G) (tys : List (ClassId × FieldType)) (av : List Value) (w0 : va_W) (v : Option Value) (w1 : va_W) : Prop :=
  ∀ sz : Nat, Met l y [Cond.code y cc maxL ret] rm (Pw D tys av w0 sz) (Qw D tys w0 sz v w1) 0 0 (va_A w0 sz)
def rmOf (f n : Nat) : Room := { frames := f, cells := 0, slots := 0, locals := n }
def Cx (p : Program) (s : State) (m : MethodId) (args : Array Value) (meth : Method) (c : Code) (cc : ByteArray) (own : String) (nL : Nat) (ret : Option FieldType) (D : va_G) (tys : List (ClassId × FieldType)) : Prop :=
  p.tables.exec = Jvm.exec ∧ c.code = cc ∧ c.maxLocals = nL ∧ s.vm.findClass own = some m.cls ∧ meth.sig.returnType = ret ∧ meth.locks = false ∧ G D tys s
abbrev xQ (D : va_G) (tys : List (ClassId × FieldType)) (below : List Frame) (args : Array Value) (s : State) (w0 : va_W) (v : Option Value) (w1 : va_W) : State → Prop :=
  MQ below (Qw D tys w0 s.heap.size v w1) args s 0 0 (va_A w0 s.heap.size)
theorem xA_of {w0 : va_W} {n : Nat} : ∀ q : Nat, n ≤ q → va_A w0 n q := fun _ h => Or.inr h
theorem Ct.ofW {l : Launch} {y : MethodName} {cc : ByteArray} {maxL : Nat} {ret : Option FieldType} {f n : Nat} {D : va_G} {tys : List (ClassId × FieldType)} {av : List Value} {w0 : va_W} {v : Option Value} {w1 : va_W}
    (hy : plainName y.cls = true)
    (body : ∀ (p : Program) (e : Env) (s : State) (m : MethodId) (below : List Frame) (meth : Method) (c : Code), Cx p s m av.toArray meth c cc y.cls maxL ret D tys → xI D (va_A w0 s.heap.size) s.heap w0 s.heap [] →
      W p l e (rmOf f n) s m av.toArray below meth c s.heap [] 0 0 (xQ D tys below av.toArray s w0 v w1) (entryFrame m av.toArray maxL)) : Ct l y cc maxL ret (rmOf f n) D tys av w0 v w1 := by
  intro sz
  refine Met.ofW (cc := cc) (maxL := maxL) (ret := ret) hy rfl ?_
  intro p e s m args below meth c s₁ B hml hv
  obtain ⟨rfl, hsz, hP, hG, hD0⟩ := hv
  subst hsz
  exact body p e s m below meth c ⟨B.exec, B.bytes, hml, findClass_of_methodNamed B.named, B.returns, B.notSynchronized, hG⟩ ⟨hP, hD0.self, va_S.rf⟩
/-- what the tables have of a method -/
def MWi (y : MethodName) (cc : ByteArray) (maxL : Nat) (ret : Option FieldType) (n : Nat) : Prop :=
  Cond.code y cc maxL ret ∈ tb ∧ Cond.initialized y.cls ∈ tb ∧ Cond.instanceMethod y ∈ tb ∧ Cond.selects y.cls y y ∈ tb ∧ y.cls ≠ "java/lang/invoke/MethodHandle" ∧ y.cls ≠ "java/lang/invoke/VarHandle" ∧ (parseMethodDescriptor y.desc).map (fun d => d.parameters.length) = some n
def MWs (y : MethodName) (cc : ByteArray) (maxL : Nat) (ret : Option FieldType) (n : Nat) : Prop :=
  Cond.code y cc maxL ret ∈ tb ∧ Cond.initialized y.cls ∈ tb ∧ Cond.static y ∈ tb ∧ y.cls ≠ "java/lang/invoke/MethodHandle" ∧ y.cls ≠ "java/lang/invoke/VarHandle" ∧ (parseMethodDescriptor y.desc).map (fun d => d.parameters.length) = some n
section XC
variable {p : Program} {l : Launch} {e : Env} {R : Room} {s : State} {m : MethodId} {args : Array Value} {below : List Frame} {meth : Method} {c : Code} {H : Heap} {locs : List Loc} {Q : State → Prop}
variable {cc : ByteArray} {pc : Nat} {ls : Array Slot} {rest : List Value} {D : va_G} {A : Nat → Prop} {tys : List (ClassId × FieldType)} {w0 w1 : va_W}
theorem xF_of {H0 : Heap} (hI : xI D A H0 w0 H locs) (hA : ∀ q, H0.size ≤ q → A q) : ∀ q, va_A w0 H.size q → A q := by
  intro q h
  rcases h with ⟨k, e, h⟩ | h
  · exact hI.2.1.2 k (q, e) h
  · exact hA q (Nat.le_trans hI.2.2.1 h)
theorem xc_run {st : List Value} {v : Option Value} {a : Array Value} {H0 : Heap} (hr : va_Run p l e R s m args below meth c H locs 0 0 0 0 (F0 m pc ls st) rest (Qw D tys w0 H.size v w1 a) (va_A w0 H.size)) (hI : xI D A H0 w0 H locs) (hA : ∀ q, H0.size ≤ q → A q)
    (kk : ∀ (H1 : Heap) (locs1 : List Loc), xI D A H0 w1 H1 locs1 → W p l e R s m args below meth c H1 locs1 0 0 Q (F0 m (pc + 3) ls (v.toList ++ rest))) : W p l e R s m args below meth c H locs 0 0 Q (F0 m pc ls st) := by
  have hF := xF_of hI hA
  intro T hT X
  obtain ⟨v', st₀, t, T', L, h0, X', hL, e1, e2, ⟨⟨hv, hP1, hG1, hD1⟩, hz, hk⟩, stp⟩ := hr T hT X
  cases hv
  rw [h0] at hz hk
  have hI1 : xI D A H0 w1 T'.heap (locs ++ L) := by
    refine ⟨by rw [e1]; exact hP1, hD1.weaken (fun k q _ h => hF q.1 h), Nat.le_trans hI.2.2.1 (by rw [e1]; exact hz), fun q h1 h2 => ?_, fun q hq => ?_⟩
    · rw [e1, hk q (Nat.lt_of_lt_of_le h1 hI.2.2.1) (fun z => h2 (hF q z))]
      exact hI.2.2.2.1 q h1 h2
    · rcases List.mem_append.mp hq with h | h
      · exact hI.2.2.2.2 q h
      · exact hF _ (hL q h)
  obtain ⟨t2, a1, b1⟩ := kk T'.heap (locs ++ L) hI1 T' rfl X'
  exact ⟨t2, stp t2 a1, b1⟩
theorem Pw.blind {av : List Value} {sz : Nat} : FrameBlind (Pw D tys av w0 sz) := by
  intro a U g mk q
  obtain ⟨q0, q1, qP, qG, qD⟩ := q
  exact ⟨q0, q1, qP, ⟨va_K.moved (u := U) (U := U.calling g mk a) (Vm.Alike.refl U.vm) qG.1, qG.2.warm (s := U) (U := U.calling g mk a) (State.WarmedH.refl U)⟩, qD⟩
theorem Pw.at {av : List Value} {H0 : Heap} (hG : G D tys s) (hI : xI D A H0 w0 H locs) : ∀ U : State, U.heap = H → s.WarmedH U.vm → Pw D tys av w0 H.size av.toArray U := by
  intro U hU hW
  exact ⟨rfl, by rw [hU], by rw [hU]; exact hI.1, hG.warm hW, hI.2.1.weaken (fun _ _ _ _ => trivial)⟩
theorem xCB {own : String} {index maxL n : Nat} {y : MethodName} {bytes : ByteArray} {ret : Option FieldType} {f ln : Nat} (hG : G D tys s) (hc : Cond.code y bytes maxL ret ∈ tb) (hi : Cond.initialized y.cls ∈ tb) (h1 : y.cls ≠ "java/lang/invoke/MethodHandle") (h2 : y.cls ≠ "java/lang/invoke/VarHandle") (h3 : (parseMethodDescriptor y.desc).map (fun d => d.parameters.length) = some n) (hl : Cond.methodLink own index y ∈ tb) (hR : f + 1 ≤ R.frames ∧ 8 + (maxL + 11) + ln ≤ R.locals) :
    CallB R s args own index y bytes maxL ret [Cond.code y bytes maxL ret] (rmOf f ln) 0 0 n := by
  refine ⟨rfl, rfl, hR.1, hR.2, fun w hw a' U hW => ?_, List.mem_cons_self, hG.2 _ hc args, hG.2 _ hi args, ⟨h1, h2⟩, fun sig h => ?_, hG.2 _ hl args⟩
  · rw [List.mem_singleton.mp hw]
    exact (hG.2.warm hW) _ hc a'
  · rw [h] at h3
    exact (Option.some.inj h3).symm
theorem xCN {own host : String} {index maxL n : Nat} {y : MethodName} {bytes : ByteArray} {ret : Option FieldType} {f ln : Nat} (hG : G D tys s) (hc : Cond.code y bytes maxL ret ∈ tb) (hi : Cond.initialized y.cls ∈ tb) (h1 : y.cls ≠ "java/lang/invoke/MethodHandle") (h2 : y.cls ≠ "java/lang/invoke/VarHandle") (h3 : (parseMethodDescriptor y.desc).map (fun d => d.parameters.length) = some n) (hl : Cond.methodLinkNest own index y host ∈ tb) (hR : f + 1 ≤ R.frames ∧ 8 + (maxL + 11) + ln ≤ R.locals) :
    va_CN R s args own index y host bytes maxL ret [Cond.code y bytes maxL ret] (rmOf f ln) 0 0 n := by
  refine ⟨⟨rfl, rfl, hR.1, hR.2, fun w hw a' U hW => ?_, List.mem_cons_self⟩, hG.2 _ hc args, hG.2 _ hi args, ⟨h1, h2⟩, fun sig h => ?_, hG.2 _ hl args⟩
  · rw [List.mem_singleton.mp hw]
    exact (hG.2.warm hW) _ hc a'
  · rw [h] at h3
    exact (Option.some.inj h3).symm
/-- invokevirtual of a method of the receiver's own class -/
theorem xc_V {own C : String} {index maxL n f ln nL ci q0 b : Nat} {q : vw_C} {fs As st : List Value} {y : MethodName} {bytes : ByteArray} {ret : Option FieldType} {v : Option Value} {H0 : Heap}
    (hC : Ct l y bytes maxL ret (rmOf f ln) D tys (.ref b :: As) w0 v w1) (hM : MWi y bytes maxL ret n) (hl : Cond.methodLink own index y ∈ tb)
    (hx : p.tables.exec = Jvm.exec) (hb : c.code = cc) (hml : c.maxLocals = nL) (hown : s.vm.findClass own = some m.cls) (hG : G D tys s) (hI : xI D A H0 w0 H locs) (hA : ∀ q, H0.size ≤ q → A q)
    (he : w0[q0]? = some (b, .inr (ci, fs))) (hc : vwCl[ci]? = some q) (hy : q.1 = y.cls) (hR : f + 1 ≤ R.frames ∧ 8 + (maxL + 11) + ln ≤ R.locals)
    (hn : As.length = n) (hls : ls.size = nL) (hst : st = As.reverse ++ .ref b :: rest) (hcat : (rest.map fun v => v.category).sum ≤ 8) (hdg : decode cc pc = .ok (.invokevirtual index, 3))
    (kk : ∀ (H1 : Heap) (locs1 : List Loc), xI D A H0 w1 H1 locs1 → W p l e R s m args below meth c H1 locs1 0 0 Q (F0 m (pc + 3) ls (v.toList ++ rest))) : W p l e R s m args below meth c H locs 0 0 Q (F0 m pc ls st) := by
  obtain ⟨m1, m2, m3, m4, m5, m6, m7⟩ := hM
  refine xc_run (va_runV (C := y.cls) (b := b) (As := As) (g := F0 m pc ls st) ⟨hx, hb, hml, hown, fun w h => hG.2 w h args⟩ (hC H.size) ⟨xCB hG m1 m2 m5 m6 m7 hl hR, hG.2 _ m3 args, hG.2 _ m4 args⟩ ⟨Pw.blind, ?_, Pw.at hG hI⟩ rfl hn hls hst (lv_room hcat) hdg ⟨Nat.zero_le _, Nat.zero_le _⟩) hI hA kk
  have h := va_recv hG.1 hI.1 hc he
  rw [hy] at h
  exact h
/-- the same, a private method of a nest mate -/
theorem xc_VN {own host : String} {index maxL n f ln nL ci q0 b : Nat} {q : vw_C} {fs As st : List Value} {y : MethodName} {bytes : ByteArray} {ret : Option FieldType} {v : Option Value} {H0 : Heap}
    (hC : Ct l y bytes maxL ret (rmOf f ln) D tys (.ref b :: As) w0 v w1) (hM : MWi y bytes maxL ret n) (hl : Cond.methodLinkNest own index y host ∈ tb)
    (hx : p.tables.exec = Jvm.exec) (hb : c.code = cc) (hml : c.maxLocals = nL) (hown : s.vm.findClass own = some m.cls) (hG : G D tys s) (hI : xI D A H0 w0 H locs) (hA : ∀ q, H0.size ≤ q → A q)
    (he : w0[q0]? = some (b, .inr (ci, fs))) (hc : vwCl[ci]? = some q) (hy : q.1 = y.cls) (hR : f + 1 ≤ R.frames ∧ 8 + (maxL + 11) + ln ≤ R.locals)
    (hn : As.length = n) (hls : ls.size = nL) (hst : st = As.reverse ++ .ref b :: rest) (hcat : (rest.map fun v => v.category).sum ≤ 8) (hdg : decode cc pc = .ok (.invokevirtual index, 3))
    (kk : ∀ (H1 : Heap) (locs1 : List Loc), xI D A H0 w1 H1 locs1 → W p l e R s m args below meth c H1 locs1 0 0 Q (F0 m (pc + 3) ls (v.toList ++ rest))) : W p l e R s m args below meth c H locs 0 0 Q (F0 m pc ls st) := by
  obtain ⟨m1, m2, m3, m4, m5, m6, m7⟩ := hM
  refine xc_run (va_runVN (C := y.cls) (b := b) (As := As) (g := F0 m pc ls st) (Ts := tb) ⟨hx, hb, hml, hown, fun w h => hG.2 w h args⟩ (hC H.size) ⟨xCN hG m1 m2 m5 m6 m7 hl hR, hG.2 _ m3 args, hG.2 _ m4 args⟩ ⟨Pw.blind, ?_, Pw.at hG hI⟩ rfl hn hls hst (lv_room hcat) hdg ⟨Nat.zero_le _, Nat.zero_le _⟩) hI hA kk
  have h := va_recv hG.1 hI.1 hc he
  rw [hy] at h
  exact h
/-- invokestatic -/
theorem xc_S {own : String} {index maxL n f ln nL : Nat} {As st : List Value} {y : MethodName} {bytes : ByteArray} {ret : Option FieldType} {v : Option Value} {H0 : Heap}
    (hC : Ct l y bytes maxL ret (rmOf f ln) D tys As w0 v w1) (hM : MWs y bytes maxL ret n) (hl : Cond.methodLink own index y ∈ tb)
    (hx : p.tables.exec = Jvm.exec) (hb : c.code = cc) (hml : c.maxLocals = nL) (hown : s.vm.findClass own = some m.cls) (hG : G D tys s) (hI : xI D A H0 w0 H locs) (hA : ∀ q, H0.size ≤ q → A q)
    (hR : f + 1 ≤ R.frames ∧ 8 + (maxL + 11) + ln ≤ R.locals)
    (hn : As.length = n) (hls : ls.size = nL) (hst : st = As.reverse ++ rest) (hcat : (rest.map fun v => v.category).sum ≤ 8) (hdg : decode cc pc = .ok (.invokestatic index, 3))
    (kk : ∀ (H1 : Heap) (locs1 : List Loc), xI D A H0 w1 H1 locs1 → W p l e R s m args below meth c H1 locs1 0 0 Q (F0 m (pc + 3) ls (v.toList ++ rest))) : W p l e R s m args below meth c H locs 0 0 Q (F0 m pc ls st) := by
  obtain ⟨m1, m2, m3, m5, m6, m7⟩ := hM
  exact xc_run (va_runS (As := As) (g := F0 m pc ls st) ⟨hx, hb, hml, hown, fun w h => hG.2 w h args⟩ (hC H.size) ⟨xCB hG m1 m2 m5 m6 m7 hl hR, hG.2 _ m3 args⟩ ⟨Pw.blind, Pw.at hG hI⟩ rfl hn hls hst (lv_room hcat) hdg ⟨Nat.zero_le _, Nat.zero_le _⟩) hI hA kk
theorem xc_SN {own host : String} {index maxL n f ln nL : Nat} {As st : List Value} {y : MethodName} {bytes : ByteArray} {ret : Option FieldType} {v : Option Value} {H0 : Heap}
    (hC : Ct l y bytes maxL ret (rmOf f ln) D tys As w0 v w1) (hM : MWs y bytes maxL ret n) (hl : Cond.methodLinkNest own index y host ∈ tb)
    (hx : p.tables.exec = Jvm.exec) (hb : c.code = cc) (hml : c.maxLocals = nL) (hown : s.vm.findClass own = some m.cls) (hG : G D tys s) (hI : xI D A H0 w0 H locs) (hA : ∀ q, H0.size ≤ q → A q)
    (hR : f + 1 ≤ R.frames ∧ 8 + (maxL + 11) + ln ≤ R.locals)
    (hn : As.length = n) (hls : ls.size = nL) (hst : st = As.reverse ++ rest) (hcat : (rest.map fun v => v.category).sum ≤ 8) (hdg : decode cc pc = .ok (.invokestatic index, 3))
    (kk : ∀ (H1 : Heap) (locs1 : List Loc), xI D A H0 w1 H1 locs1 → W p l e R s m args below meth c H1 locs1 0 0 Q (F0 m (pc + 3) ls (v.toList ++ rest))) : W p l e R s m args below meth c H locs 0 0 Q (F0 m pc ls st) := by
  obtain ⟨m1, m2, m3, m5, m6, m7⟩ := hM
  exact xc_run (va_runSN (As := As) (g := F0 m pc ls st) (Ts := tb) ⟨hx, hb, hml, hown, fun w h => hG.2 w h args⟩ (hC H.size) ⟨xCN hG m1 m2 m5 m6 m7 hl hR, hG.2 _ m3 args, trivial⟩ ⟨Pw.blind, Pw.at hG hI⟩ rfl hn hls hst (lv_room hcat) hdg ⟨Nat.zero_le _, Nat.zero_le _⟩) hI hA kk
/-! returns -/
theorem xr_q {v : Option Value} (hG : G D tys s) (hI : xI D (va_A w0 s.heap.size) s.heap w1 H locs) : ∀ t : State, t.heap = H → s.WarmedH t.vm → Qw D tys w0 s.heap.size v w1 args s (.returned v) t := by
  intro t ht hW
  exact ⟨⟨rfl, by rw [ht]; exact hI.1, hG.warm hW, hI.2.1⟩, hI.2.2.F ht⟩
theorem xr_i {r : Int32} (hx : p.tables.exec = Jvm.exec) (hb : c.code = cc) (hr : meth.sig.returnType = some .int) (hlk : meth.locks = false) (hG : G D tys s) (hI : xI D (va_A w0 s.heap.size) s.heap w1 H locs) (hdg : decode cc pc = .ok (.ireturn, 1)) : W p l e R s m args below meth c H locs 0 0 (xQ D tys below args s w0 (some (.int r)) w1) (F0 m pc ls [.int r]) :=
  W.iret hx hb hr (xr_q hG hI) hI.2.2.2.2 hdg hlk
def b2i (b : Bool) : Int32 := if b then 1 else 0
theorem b2i_nar (b : Bool) : narrow .boolean (.int (b2i b)) = .int (b2i b) := by cases b <;> decide +kernel
theorem xr_z {r : Bool} {x : Int32} (hxr : x = b2i r) (hx : p.tables.exec = Jvm.exec) (hb : c.code = cc) (hr : meth.sig.returnType = some .boolean) (hlk : meth.locks = false) (hG : G D tys s) (hI : xI D (va_A w0 s.heap.size) s.heap w1 H locs) (hdg : decode cc pc = .ok (.ireturn, 1)) : W p l e R s m args below meth c H locs 0 0 (xQ D tys below args s w0 (some (.int (b2i r))) w1) (F0 m pc ls [.int x]) := by
  subst hxr
  exact W.zret hx hb hr (b2i_nar r) (xr_q hG hI) hI.2.2.2.2 hdg hlk
theorem xr_l {r : Int64} (hx : p.tables.exec = Jvm.exec) (hb : c.code = cc) (hr : meth.sig.returnType = some .long) (hlk : meth.locks = false) (hG : G D tys s) (hI : xI D (va_A w0 s.heap.size) s.heap w1 H locs) (hdg : decode cc pc = .ok (.lreturn, 1)) : W p l e R s m args below meth c H locs 0 0 (xQ D tys below args s w0 (some (.long r)) w1) (F0 m pc ls [.long r]) :=
  W.lret hx hb hr (xr_q hG hI) hI.2.2.2.2 hdg hlk
theorem xr_v (hx : p.tables.exec = Jvm.exec) (hb : c.code = cc) (hr : meth.sig.returnType = none) (hlk : meth.locks = false) (hG : G D tys s) (hI : xI D (va_A w0 s.heap.size) s.heap w1 H locs) (hdg : decode cc pc = .ok (.return_, 1)) : W p l e R s m args below meth c H locs 0 0 (xQ D tys below args s w0 none w1) (F0 m pc ls []) :=
  W.vret hx hb hr (xr_q hG hI) hI.2.2.2.2 hdg hlk
theorem xr_a {v : Value} {rn : String} (hx : p.tables.exec = Jvm.exec) (hb : c.code = cc) (hr : meth.sig.returnType = some (.object rn)) (hlk : meth.locks = false) (hv : v = .null ∨ ∃ a, v = .ref a) (hG : G D tys s) (hI : xI D (va_A w0 s.heap.size) s.heap w1 H locs) (hdg : decode cc pc = .ok (.areturn, 1)) : W p l e R s m args below meth c H locs 0 0 (xQ D tys below args s w0 (some v) w1) (F0 m pc ls [v]) :=
  W.aret hx hb hr (Or.inl ⟨_, rfl⟩) hv (xr_q hG hI) hI.2.2.2.2 hdg hlk
end XC
end
