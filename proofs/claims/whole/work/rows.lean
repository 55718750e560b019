section
/-- a private method of a class that the tables say can be made, by its rows of tables_1 -/
def lw_okq (q : MethodName × Nat) : Prop := (q.1.cls ≠ "java/lang/invoke/MethodHandle" ∧ q.1.cls ≠ "java/lang/invoke/VarHandle") ∧ Cond.instantiable q.1.cls q.2 ∈ tables_1 ∧ Cond.privateMethod q.1 ∈ tables_1 ∧ Cond.instanceMethod q.1 ∈ tables_1
theorem lw_p0 : lw_okq (⟨"FrozenTrees$Reader", "step", "()V"⟩, 7) := ⟨⟨by decide +kernel, by decide +kernel⟩, List.mem_of_getElem? (i := 46) (by decide +kernel), List.mem_of_getElem? (i := 373) (by decide +kernel), List.mem_of_getElem? (i := 374) (by decide +kernel)⟩
theorem lw_p1 : lw_okq (⟨"FrozenTrees$Reader", "stepWord", "()V"⟩, 7) := ⟨⟨by decide +kernel, by decide +kernel⟩, List.mem_of_getElem? (i := 46) (by decide +kernel), List.mem_of_getElem? (i := 387) (by decide +kernel), List.mem_of_getElem? (i := 388) (by decide +kernel)⟩
theorem lw_p2 : lw_okq (⟨"FrozenTrees$Reader", "stepNumber", "()V"⟩, 7) := ⟨⟨by decide +kernel, by decide +kernel⟩, List.mem_of_getElem? (i := 46) (by decide +kernel), List.mem_of_getElem? (i := 394) (by decide +kernel), List.mem_of_getElem? (i := 395) (by decide +kernel)⟩
theorem lw_p3 : lw_okq (⟨"FrozenTrees$Reader", "readHead", "(LFrozenTrees$Story;)V"⟩, 7) := ⟨⟨by decide +kernel, by decide +kernel⟩, List.mem_of_getElem? (i := 46) (by decide +kernel), List.mem_of_getElem? (i := 401) (by decide +kernel), List.mem_of_getElem? (i := 402) (by decide +kernel)⟩
theorem lw_p4 : lw_okq (⟨"FrozenTrees$Reader", "takeWord", "(Ljava/lang/String;)V"⟩, 7) := ⟨⟨by decide +kernel, by decide +kernel⟩, List.mem_of_getElem? (i := 46) (by decide +kernel), List.mem_of_getElem? (i := 406) (by decide +kernel), List.mem_of_getElem? (i := 407) (by decide +kernel)⟩
theorem lw_p5 : lw_okq (⟨"FrozenTrees$Reader", "isWord", "(Ljava/lang/String;)Z"⟩, 7) := ⟨⟨by decide +kernel, by decide +kernel⟩, List.mem_of_getElem? (i := 46) (by decide +kernel), List.mem_of_getElem? (i := 410) (by decide +kernel), List.mem_of_getElem? (i := 411) (by decide +kernel)⟩
theorem lw_p6 : lw_okq (⟨"FrozenTrees$Reader", "blame", "(I)V"⟩, 7) := ⟨⟨by decide +kernel, by decide +kernel⟩, List.mem_of_getElem? (i := 46) (by decide +kernel), List.mem_of_getElem? (i := 462) (by decide +kernel), List.mem_of_getElem? (i := 463) (by decide +kernel)⟩
theorem lw_p7 : lw_okq (⟨"FrozenTrees$Reader", "takeNumber", "(II)I"⟩, 7) := ⟨⟨by decide +kernel, by decide +kernel⟩, List.mem_of_getElem? (i := 46) (by decide +kernel), List.mem_of_getElem? (i := 467) (by decide +kernel), List.mem_of_getElem? (i := 468) (by decide +kernel)⟩
theorem lw_p8 : lw_okq (⟨"FrozenTrees$Reader", "takeSemicolon", "()V"⟩, 7) := ⟨⟨by decide +kernel, by decide +kernel⟩, List.mem_of_getElem? (i := 46) (by decide +kernel), List.mem_of_getElem? (i := 472) (by decide +kernel), List.mem_of_getElem? (i := 473) (by decide +kernel)⟩
theorem lw_p9 : lw_okq (⟨"FrozenTrees$Reader", "readEvent", "(LFrozenTrees$Story;)V"⟩, 7) := ⟨⟨by decide +kernel, by decide +kernel⟩, List.mem_of_getElem? (i := 46) (by decide +kernel), List.mem_of_getElem? (i := 476) (by decide +kernel), List.mem_of_getElem? (i := 477) (by decide +kernel)⟩
theorem lw_p10 : lw_okq (⟨"FrozenTrees$Reader", "kindTold", "()I"⟩, 7) := ⟨⟨by decide +kernel, by decide +kernel⟩, List.mem_of_getElem? (i := 46) (by decide +kernel), List.mem_of_getElem? (i := 480) (by decide +kernel), List.mem_of_getElem? (i := 481) (by decide +kernel)⟩
theorem lw_p11 : lw_okq (⟨"FrozenTrees", "forgetRuns", "()V"⟩, 12) := ⟨⟨by decide +kernel, by decide +kernel⟩, List.mem_of_getElem? (i := 22) (by decide +kernel), List.mem_of_getElem? (i := 531) (by decide +kernel), List.mem_of_getElem? (i := 532) (by decide +kernel)⟩
theorem lw_p12 : lw_okq (⟨"FrozenTrees$World", "fork", "(II)I"⟩, 10) := ⟨⟨by decide +kernel, by decide +kernel⟩, List.mem_of_getElem? (i := 168) (by decide +kernel), List.mem_of_getElem? (i := 592) (by decide +kernel), List.mem_of_getElem? (i := 593) (by decide +kernel)⟩
theorem lw_p13 : lw_okq (⟨"FrozenTrees$World", "hold", "(III)V"⟩, 10) := ⟨⟨by decide +kernel, by decide +kernel⟩, List.mem_of_getElem? (i := 168) (by decide +kernel), List.mem_of_getElem? (i := 603) (by decide +kernel), List.mem_of_getElem? (i := 604) (by decide +kernel)⟩
theorem lw_p14 : lw_okq (⟨"FrozenTrees$World", "lead", "(I)I"⟩, 10) := ⟨⟨by decide +kernel, by decide +kernel⟩, List.mem_of_getElem? (i := 168) (by decide +kernel), List.mem_of_getElem? (i := 607) (by decide +kernel), List.mem_of_getElem? (i := 608) (by decide +kernel)⟩
theorem lw_p15 : lw_okq (⟨"FrozenTrees$World", "exit", "(II)I"⟩, 10) := ⟨⟨by decide +kernel, by decide +kernel⟩, List.mem_of_getElem? (i := 168) (by decide +kernel), List.mem_of_getElem? (i := 611) (by decide +kernel), List.mem_of_getElem? (i := 612) (by decide +kernel)⟩
def lw_privs_1 : List (MethodName × Nat) := [(⟨"FrozenTrees$Reader", "step", "()V"⟩, 7), (⟨"FrozenTrees$Reader", "stepWord", "()V"⟩, 7), (⟨"FrozenTrees$Reader", "stepNumber", "()V"⟩, 7), (⟨"FrozenTrees$Reader", "readHead", "(LFrozenTrees$Story;)V"⟩, 7), (⟨"FrozenTrees$Reader", "takeWord", "(Ljava/lang/String;)V"⟩, 7), (⟨"FrozenTrees$Reader", "isWord", "(Ljava/lang/String;)Z"⟩, 7), (⟨"FrozenTrees$Reader", "blame", "(I)V"⟩, 7), (⟨"FrozenTrees$Reader", "takeNumber", "(II)I"⟩, 7), (⟨"FrozenTrees$Reader", "takeSemicolon", "()V"⟩, 7), (⟨"FrozenTrees$Reader", "readEvent", "(LFrozenTrees$Story;)V"⟩, 7), (⟨"FrozenTrees$Reader", "kindTold", "()I"⟩, 7), (⟨"FrozenTrees", "forgetRuns", "()V"⟩, 12), (⟨"FrozenTrees$World", "fork", "(II)I"⟩, 10), (⟨"FrozenTrees$World", "hold", "(III)V"⟩, 10), (⟨"FrozenTrees$World", "lead", "(I)I"⟩, 10), (⟨"FrozenTrees$World", "exit", "(II)I"⟩, 10)]
theorem lw_r1 : ∀ q ∈ lw_privs_1, lw_okq q := List.forall_mem_cons.mpr ⟨lw_p0, List.forall_mem_cons.mpr ⟨lw_p1, List.forall_mem_cons.mpr ⟨lw_p2, List.forall_mem_cons.mpr ⟨lw_p3, List.forall_mem_cons.mpr ⟨lw_p4, List.forall_mem_cons.mpr ⟨lw_p5, List.forall_mem_cons.mpr ⟨lw_p6, List.forall_mem_cons.mpr ⟨lw_p7, List.forall_mem_cons.mpr ⟨lw_p8, List.forall_mem_cons.mpr ⟨lw_p9, List.forall_mem_cons.mpr ⟨lw_p10, List.forall_mem_cons.mpr ⟨lw_p11, List.forall_mem_cons.mpr ⟨lw_p12, List.forall_mem_cons.mpr ⟨lw_p13, List.forall_mem_cons.mpr ⟨lw_p14, List.forall_mem_cons.mpr ⟨lw_p15, fun _ h => absurd h List.not_mem_nil⟩⟩⟩⟩⟩⟩⟩⟩⟩⟩⟩⟩⟩⟩⟩⟩
theorem lw_p16 : lw_okq (⟨"FrozenTrees$World", "newParent", "(IIII)I"⟩, 10) := ⟨⟨by decide +kernel, by decide +kernel⟩, List.mem_of_getElem? (i := 168) (by decide +kernel), List.mem_of_getElem? (i := 619) (by decide +kernel), List.mem_of_getElem? (i := 620) (by decide +kernel)⟩
theorem lw_p17 : lw_okq (⟨"FrozenTrees$World", "isBelow", "(II)Z"⟩, 10) := ⟨⟨by decide +kernel, by decide +kernel⟩, List.mem_of_getElem? (i := 168) (by decide +kernel), List.mem_of_getElem? (i := 623) (by decide +kernel), List.mem_of_getElem? (i := 624) (by decide +kernel)⟩
theorem lw_p18 : lw_okq (⟨"FrozenTrees$World", "open", "(II)I"⟩, 10) := ⟨⟨by decide +kernel, by decide +kernel⟩, List.mem_of_getElem? (i := 168) (by decide +kernel), List.mem_of_getElem? (i := 627) (by decide +kernel), List.mem_of_getElem? (i := 628) (by decide +kernel)⟩
theorem lw_p19 : lw_okq (⟨"FrozenTrees$World", "newObject", "(I)I"⟩, 10) := ⟨⟨by decide +kernel, by decide +kernel⟩, List.mem_of_getElem? (i := 168) (by decide +kernel), List.mem_of_getElem? (i := 631) (by decide +kernel), List.mem_of_getElem? (i := 632) (by decide +kernel)⟩
theorem lw_p20 : lw_okq (⟨"FrozenTrees$World", "pipe", "(III)I"⟩, 10) := ⟨⟨by decide +kernel, by decide +kernel⟩, List.mem_of_getElem? (i := 168) (by decide +kernel), List.mem_of_getElem? (i := 635) (by decide +kernel), List.mem_of_getElem? (i := 636) (by decide +kernel)⟩
theorem lw_p21 : lw_okq (⟨"FrozenTrees$World", "copy", "(III)I"⟩, 10) := ⟨⟨by decide +kernel, by decide +kernel⟩, List.mem_of_getElem? (i := 168) (by decide +kernel), List.mem_of_getElem? (i := 639) (by decide +kernel), List.mem_of_getElem? (i := 640) (by decide +kernel)⟩
theorem lw_p22 : lw_okq (⟨"FrozenTrees$World", "close", "(II)I"⟩, 10) := ⟨⟨by decide +kernel, by decide +kernel⟩, List.mem_of_getElem? (i := 168) (by decide +kernel), List.mem_of_getElem? (i := 643) (by decide +kernel), List.mem_of_getElem? (i := 644) (by decide +kernel)⟩
theorem lw_p23 : lw_okq (⟨"FrozenTrees$World", "pour", "(II)I"⟩, 10) := ⟨⟨by decide +kernel, by decide +kernel⟩, List.mem_of_getElem? (i := 168) (by decide +kernel), List.mem_of_getElem? (i := 647) (by decide +kernel), List.mem_of_getElem? (i := 648) (by decide +kernel)⟩
theorem lw_p24 : lw_okq (⟨"FrozenTrees$World", "readEndOf", "(I)I"⟩, 10) := ⟨⟨by decide +kernel, by decide +kernel⟩, List.mem_of_getElem? (i := 168) (by decide +kernel), List.mem_of_getElem? (i := 651) (by decide +kernel), List.mem_of_getElem? (i := 652) (by decide +kernel)⟩
theorem lw_p25 : lw_okq (⟨"FrozenTrees$World", "drain", "(II)I"⟩, 10) := ⟨⟨by decide +kernel, by decide +kernel⟩, List.mem_of_getElem? (i := 168) (by decide +kernel), List.mem_of_getElem? (i := 655) (by decide +kernel), List.mem_of_getElem? (i := 656) (by decide +kernel)⟩
theorem lw_p26 : lw_okq (⟨"FrozenTrees", "noTick", "(I)Z"⟩, 12) := ⟨⟨by decide +kernel, by decide +kernel⟩, List.mem_of_getElem? (i := 22) (by decide +kernel), List.mem_of_getElem? (i := 664) (by decide +kernel), List.mem_of_getElem? (i := 665) (by decide +kernel)⟩
theorem lw_p27 : lw_okq (⟨"FrozenTrees", "noSystem", "()Z"⟩, 12) := ⟨⟨by decide +kernel, by decide +kernel⟩, List.mem_of_getElem? (i := 22) (by decide +kernel), List.mem_of_getElem? (i := 668) (by decide +kernel), List.mem_of_getElem? (i := 669) (by decide +kernel)⟩
theorem lw_p28 : lw_okq (⟨"FrozenTrees", "firstTickOf", "(IZI)I"⟩, 12) := ⟨⟨by decide +kernel, by decide +kernel⟩, List.mem_of_getElem? (i := 22) (by decide +kernel), List.mem_of_getElem? (i := 733) (by decide +kernel), List.mem_of_getElem? (i := 734) (by decide +kernel)⟩
theorem lw_p29 : lw_okq (⟨"FrozenTrees$Shapes", "draw", "(LFrozenTrees$World;[J)V"⟩, 9) := ⟨⟨by decide +kernel, by decide +kernel⟩, List.mem_of_getElem? (i := 251) (by decide +kernel), List.mem_of_getElem? (i := 813) (by decide +kernel), List.mem_of_getElem? (i := 814) (by decide +kernel)⟩
theorem lw_p30 : lw_okq (⟨"FrozenTrees$Shapes", "drawProcess", "(LFrozenTrees$World;I)J"⟩, 9) := ⟨⟨by decide +kernel, by decide +kernel⟩, List.mem_of_getElem? (i := 251) (by decide +kernel), List.mem_of_getElem? (i := 822) (by decide +kernel), List.mem_of_getElem? (i := 823) (by decide +kernel)⟩
theorem lw_p31 : lw_okq (⟨"FrozenTrees$Shapes", "drawObject", "(LFrozenTrees$World;I)J"⟩, 9) := ⟨⟨by decide +kernel, by decide +kernel⟩, List.mem_of_getElem? (i := 251) (by decide +kernel), List.mem_of_getElem? (i := 827) (by decide +kernel), List.mem_of_getElem? (i := 828) (by decide +kernel)⟩
def lw_privs_2 : List (MethodName × Nat) := [(⟨"FrozenTrees$World", "newParent", "(IIII)I"⟩, 10), (⟨"FrozenTrees$World", "isBelow", "(II)Z"⟩, 10), (⟨"FrozenTrees$World", "open", "(II)I"⟩, 10), (⟨"FrozenTrees$World", "newObject", "(I)I"⟩, 10), (⟨"FrozenTrees$World", "pipe", "(III)I"⟩, 10), (⟨"FrozenTrees$World", "copy", "(III)I"⟩, 10), (⟨"FrozenTrees$World", "close", "(II)I"⟩, 10), (⟨"FrozenTrees$World", "pour", "(II)I"⟩, 10), (⟨"FrozenTrees$World", "readEndOf", "(I)I"⟩, 10), (⟨"FrozenTrees$World", "drain", "(II)I"⟩, 10), (⟨"FrozenTrees", "noTick", "(I)Z"⟩, 12), (⟨"FrozenTrees", "noSystem", "()Z"⟩, 12), (⟨"FrozenTrees", "firstTickOf", "(IZI)I"⟩, 12), (⟨"FrozenTrees$Shapes", "draw", "(LFrozenTrees$World;[J)V"⟩, 9), (⟨"FrozenTrees$Shapes", "drawProcess", "(LFrozenTrees$World;I)J"⟩, 9), (⟨"FrozenTrees$Shapes", "drawObject", "(LFrozenTrees$World;I)J"⟩, 9)]
theorem lw_r2 : ∀ q ∈ lw_privs_2, lw_okq q := List.forall_mem_cons.mpr ⟨lw_p16, List.forall_mem_cons.mpr ⟨lw_p17, List.forall_mem_cons.mpr ⟨lw_p18, List.forall_mem_cons.mpr ⟨lw_p19, List.forall_mem_cons.mpr ⟨lw_p20, List.forall_mem_cons.mpr ⟨lw_p21, List.forall_mem_cons.mpr ⟨lw_p22, List.forall_mem_cons.mpr ⟨lw_p23, List.forall_mem_cons.mpr ⟨lw_p24, List.forall_mem_cons.mpr ⟨lw_p25, List.forall_mem_cons.mpr ⟨lw_p26, List.forall_mem_cons.mpr ⟨lw_p27, List.forall_mem_cons.mpr ⟨lw_p28, List.forall_mem_cons.mpr ⟨lw_p29, List.forall_mem_cons.mpr ⟨lw_p30, List.forall_mem_cons.mpr ⟨lw_p31, fun _ h => absurd h List.not_mem_nil⟩⟩⟩⟩⟩⟩⟩⟩⟩⟩⟩⟩⟩⟩⟩⟩
theorem lw_p32 : lw_okq (⟨"FrozenTrees$Plan", "raise", "(II)V"⟩, 4) := ⟨⟨by decide +kernel, by decide +kernel⟩, List.mem_of_getElem? (i := 287) (by decide +kernel), List.mem_of_getElem? (i := 868) (by decide +kernel), List.mem_of_getElem? (i := 869) (by decide +kernel)⟩
theorem lw_p33 : lw_okq (⟨"FrozenTrees$Plan", "raiseNext", "(LFrozenTrees$World;)V"⟩, 4) := ⟨⟨by decide +kernel, by decide +kernel⟩, List.mem_of_getElem? (i := 287) (by decide +kernel), List.mem_of_getElem? (i := 873) (by decide +kernel), List.mem_of_getElem? (i := 874) (by decide +kernel)⟩
theorem lw_p34 : lw_okq (⟨"FrozenTrees$Plan", "wayFor", "(LFrozenTrees$World;I)I"⟩, 4) := ⟨⟨by decide +kernel, by decide +kernel⟩, List.mem_of_getElem? (i := 287) (by decide +kernel), List.mem_of_getElem? (i := 877) (by decide +kernel), List.mem_of_getElem? (i := 878) (by decide +kernel)⟩
theorem lw_p35 : lw_okq (⟨"FrozenTrees", "noPrecopy", "(III)Z"⟩, 12) := ⟨⟨by decide +kernel, by decide +kernel⟩, List.mem_of_getElem? (i := 22) (by decide +kernel), List.mem_of_getElem? (i := 917) (by decide +kernel), List.mem_of_getElem? (i := 918) (by decide +kernel)⟩
theorem lw_p36 : lw_okq (⟨"FrozenTrees$Film", "soiledPages", "()I"⟩, 7) := ⟨⟨by decide +kernel, by decide +kernel⟩, List.mem_of_getElem? (i := 162) (by decide +kernel), List.mem_of_getElem? (i := 928) (by decide +kernel), List.mem_of_getElem? (i := 929) (by decide +kernel)⟩
theorem lw_p37 : lw_okq (⟨"FrozenTrees", "runTrial", "(II)I"⟩, 12) := ⟨⟨by decide +kernel, by decide +kernel⟩, List.mem_of_getElem? (i := 22) (by decide +kernel), List.mem_of_getElem? (i := 945) (by decide +kernel), List.mem_of_getElem? (i := 946) (by decide +kernel)⟩
theorem lw_p38 : lw_okq (⟨"FrozenTrees", "lookAt", "(I)I"⟩, 12) := ⟨⟨by decide +kernel, by decide +kernel⟩, List.mem_of_getElem? (i := 22) (by decide +kernel), List.mem_of_getElem? (i := 959) (by decide +kernel), List.mem_of_getElem? (i := 960) (by decide +kernel)⟩
theorem lw_p39 : lw_okq (⟨"FrozenTrees$Seen", "insert", "(III)V"⟩, 4) := ⟨⟨by decide +kernel, by decide +kernel⟩, List.mem_of_getElem? (i := 142) (by decide +kernel), List.mem_of_getElem? (i := 972) (by decide +kernel), List.mem_of_getElem? (i := 973) (by decide +kernel)⟩
theorem lw_p40 : lw_okq (⟨"FrozenTrees", "isAsSeen", "(II)Z"⟩, 12) := ⟨⟨by decide +kernel, by decide +kernel⟩, List.mem_of_getElem? (i := 22) (by decide +kernel), List.mem_of_getElem? (i := 976) (by decide +kernel), List.mem_of_getElem? (i := 977) (by decide +kernel)⟩
theorem lw_p41 : lw_okq (⟨"FrozenTrees", "lostBy", "(I)I"⟩, 12) := ⟨⟨by decide +kernel, by decide +kernel⟩, List.mem_of_getElem? (i := 22) (by decide +kernel), List.mem_of_getElem? (i := 1001) (by decide +kernel), List.mem_of_getElem? (i := 1002) (by decide +kernel)⟩
theorem lw_p42 : lw_okq (⟨"FrozenTrees", "worthOf", "(I)I"⟩, 12) := ⟨⟨by decide +kernel, by decide +kernel⟩, List.mem_of_getElem? (i := 22) (by decide +kernel), List.mem_of_getElem? (i := 1013) (by decide +kernel), List.mem_of_getElem? (i := 1014) (by decide +kernel)⟩
theorem lw_p43 : lw_okq (⟨"FrozenTrees", "payOf", "(IIIIZ)I"⟩, 12) := ⟨⟨by decide +kernel, by decide +kernel⟩, List.mem_of_getElem? (i := 22) (by decide +kernel), List.mem_of_getElem? (i := 1037) (by decide +kernel), List.mem_of_getElem? (i := 1038) (by decide +kernel)⟩
theorem lw_p44 : lw_okq (⟨"FrozenTrees", "noChance", "(II)Z"⟩, 12) := ⟨⟨by decide +kernel, by decide +kernel⟩, List.mem_of_getElem? (i := 22) (by decide +kernel), List.mem_of_getElem? (i := 1058) (by decide +kernel), List.mem_of_getElem? (i := 1059) (by decide +kernel)⟩
theorem lw_p45 : lw_okq (⟨"FrozenTrees", "weigh", "(II)J"⟩, 12) := ⟨⟨by decide +kernel, by decide +kernel⟩, List.mem_of_getElem? (i := 22) (by decide +kernel), List.mem_of_getElem? (i := 1063) (by decide +kernel), List.mem_of_getElem? (i := 1064) (by decide +kernel)⟩
theorem lw_p46 : lw_okq (⟨"FrozenTrees", "runDrawn", "(J)I"⟩, 12) := ⟨⟨by decide +kernel, by decide +kernel⟩, List.mem_of_getElem? (i := 22) (by decide +kernel), List.mem_of_getElem? (i := 1101) (by decide +kernel), List.mem_of_getElem? (i := 1102) (by decide +kernel)⟩
theorem lw_p47 : lw_okq (⟨"FrozenTrees", "rowsThere", "()I"⟩, 12) := ⟨⟨by decide +kernel, by decide +kernel⟩, List.mem_of_getElem? (i := 22) (by decide +kernel), List.mem_of_getElem? (i := 1117) (by decide +kernel), List.mem_of_getElem? (i := 1118) (by decide +kernel)⟩
def lw_privs_3 : List (MethodName × Nat) := [(⟨"FrozenTrees$Plan", "raise", "(II)V"⟩, 4), (⟨"FrozenTrees$Plan", "raiseNext", "(LFrozenTrees$World;)V"⟩, 4), (⟨"FrozenTrees$Plan", "wayFor", "(LFrozenTrees$World;I)I"⟩, 4), (⟨"FrozenTrees", "noPrecopy", "(III)Z"⟩, 12), (⟨"FrozenTrees$Film", "soiledPages", "()I"⟩, 7), (⟨"FrozenTrees", "runTrial", "(II)I"⟩, 12), (⟨"FrozenTrees", "lookAt", "(I)I"⟩, 12), (⟨"FrozenTrees$Seen", "insert", "(III)V"⟩, 4), (⟨"FrozenTrees", "isAsSeen", "(II)Z"⟩, 12), (⟨"FrozenTrees", "lostBy", "(I)I"⟩, 12), (⟨"FrozenTrees", "worthOf", "(I)I"⟩, 12), (⟨"FrozenTrees", "payOf", "(IIIIZ)I"⟩, 12), (⟨"FrozenTrees", "noChance", "(II)Z"⟩, 12), (⟨"FrozenTrees", "weigh", "(II)J"⟩, 12), (⟨"FrozenTrees", "runDrawn", "(J)I"⟩, 12), (⟨"FrozenTrees", "rowsThere", "()I"⟩, 12)]
theorem lw_r3 : ∀ q ∈ lw_privs_3, lw_okq q := List.forall_mem_cons.mpr ⟨lw_p32, List.forall_mem_cons.mpr ⟨lw_p33, List.forall_mem_cons.mpr ⟨lw_p34, List.forall_mem_cons.mpr ⟨lw_p35, List.forall_mem_cons.mpr ⟨lw_p36, List.forall_mem_cons.mpr ⟨lw_p37, List.forall_mem_cons.mpr ⟨lw_p38, List.forall_mem_cons.mpr ⟨lw_p39, List.forall_mem_cons.mpr ⟨lw_p40, List.forall_mem_cons.mpr ⟨lw_p41, List.forall_mem_cons.mpr ⟨lw_p42, List.forall_mem_cons.mpr ⟨lw_p43, List.forall_mem_cons.mpr ⟨lw_p44, List.forall_mem_cons.mpr ⟨lw_p45, List.forall_mem_cons.mpr ⟨lw_p46, List.forall_mem_cons.mpr ⟨lw_p47, fun _ h => absurd h List.not_mem_nil⟩⟩⟩⟩⟩⟩⟩⟩⟩⟩⟩⟩⟩⟩⟩⟩
theorem lw_p48 : lw_okq (⟨"FrozenTrees$Row", "cut", "(J)J"⟩, 4) := ⟨⟨by decide +kernel, by decide +kernel⟩, List.mem_of_getElem? (i := 116) (by decide +kernel), List.mem_of_getElem? (i := 1146) (by decide +kernel), List.mem_of_getElem? (i := 1147) (by decide +kernel)⟩
theorem lw_p49 : lw_okq (⟨"FrozenTreesModel", "advance", "()V"⟩, 58) := ⟨⟨by decide +kernel, by decide +kernel⟩, List.mem_of_getElem? (i := 1159) (by decide +kernel), List.mem_of_getElem? (i := 1369) (by decide +kernel), List.mem_of_getElem? (i := 1370) (by decide +kernel)⟩
theorem lw_p50 : lw_okq (⟨"FrozenTreesModel", "see", "(I)I"⟩, 58) := ⟨⟨by decide +kernel, by decide +kernel⟩, List.mem_of_getElem? (i := 1159) (by decide +kernel), List.mem_of_getElem? (i := 1373) (by decide +kernel), List.mem_of_getElem? (i := 1374) (by decide +kernel)⟩
theorem lw_p51 : lw_okq (⟨"FrozenTreesModel", "good", "()Z"⟩, 58) := ⟨⟨by decide +kernel, by decide +kernel⟩, List.mem_of_getElem? (i := 1159) (by decide +kernel), List.mem_of_getElem? (i := 1383) (by decide +kernel), List.mem_of_getElem? (i := 1384) (by decide +kernel)⟩
theorem lw_p52 : lw_okq (⟨"FrozenTreesModel", "readLine", "()V"⟩, 58) := ⟨⟨by decide +kernel, by decide +kernel⟩, List.mem_of_getElem? (i := 1159) (by decide +kernel), List.mem_of_getElem? (i := 1387) (by decide +kernel), List.mem_of_getElem? (i := 1388) (by decide +kernel)⟩
theorem lw_p53 : lw_okq (⟨"FrozenTreesModel", "readFirst", "()V"⟩, 58) := ⟨⟨by decide +kernel, by decide +kernel⟩, List.mem_of_getElem? (i := 1159) (by decide +kernel), List.mem_of_getElem? (i := 1391) (by decide +kernel), List.mem_of_getElem? (i := 1392) (by decide +kernel)⟩
theorem lw_p54 : lw_okq (⟨"FrozenTreesModel", "expects", "(Ljava/lang/String;)V"⟩, 58) := ⟨⟨by decide +kernel, by decide +kernel⟩, List.mem_of_getElem? (i := 1159) (by decide +kernel), List.mem_of_getElem? (i := 1396) (by decide +kernel), List.mem_of_getElem? (i := 1397) (by decide +kernel)⟩
theorem lw_p55 : lw_okq (⟨"FrozenTreesModel", "takes", "(Ljava/lang/String;)Z"⟩, 58) := ⟨⟨by decide +kernel, by decide +kernel⟩, List.mem_of_getElem? (i := 1159) (by decide +kernel), List.mem_of_getElem? (i := 1400) (by decide +kernel), List.mem_of_getElem? (i := 1401) (by decide +kernel)⟩
theorem lw_p56 : lw_okq (⟨"FrozenTreesModel", "is", "(Ljava/lang/String;)Z"⟩, 58) := ⟨⟨by decide +kernel, by decide +kernel⟩, List.mem_of_getElem? (i := 1159) (by decide +kernel), List.mem_of_getElem? (i := 1404) (by decide +kernel), List.mem_of_getElem? (i := 1405) (by decide +kernel)⟩
theorem lw_p57 : lw_okq (⟨"FrozenTreesModel", "errs", "(I)V"⟩, 58) := ⟨⟨by decide +kernel, by decide +kernel⟩, List.mem_of_getElem? (i := 1159) (by decide +kernel), List.mem_of_getElem? (i := 1410) (by decide +kernel), List.mem_of_getElem? (i := 1411) (by decide +kernel)⟩
theorem lw_p58 : lw_okq (⟨"FrozenTreesModel", "toldBy", "(Ljava/lang/String;II)I"⟩, 58) := ⟨⟨by decide +kernel, by decide +kernel⟩, List.mem_of_getElem? (i := 1159) (by decide +kernel), List.mem_of_getElem? (i := 1415) (by decide +kernel), List.mem_of_getElem? (i := 1416) (by decide +kernel)⟩
theorem lw_p59 : lw_okq (⟨"FrozenTreesModel", "number", "(II)I"⟩, 58) := ⟨⟨by decide +kernel, by decide +kernel⟩, List.mem_of_getElem? (i := 1159) (by decide +kernel), List.mem_of_getElem? (i := 1419) (by decide +kernel), List.mem_of_getElem? (i := 1420) (by decide +kernel)⟩
theorem lw_p60 : lw_okq (⟨"FrozenTreesModel", "readNext", "()V"⟩, 58) := ⟨⟨by decide +kernel, by decide +kernel⟩, List.mem_of_getElem? (i := 1159) (by decide +kernel), List.mem_of_getElem? (i := 1424) (by decide +kernel), List.mem_of_getElem? (i := 1425) (by decide +kernel)⟩
theorem lw_p61 : lw_okq (⟨"FrozenTreesModel", "kindWord", "()I"⟩, 58) := ⟨⟨by decide +kernel, by decide +kernel⟩, List.mem_of_getElem? (i := 1159) (by decide +kernel), List.mem_of_getElem? (i := 1428) (by decide +kernel), List.mem_of_getElem? (i := 1429) (by decide +kernel)⟩
theorem lw_p62 : lw_okq (⟨"FrozenTreesModel", "isEvent", "(I)Z"⟩, 58) := ⟨⟨by decide +kernel, by decide +kernel⟩, List.mem_of_getElem? (i := 1159) (by decide +kernel), List.mem_of_getElem? (i := 1452) (by decide +kernel), List.mem_of_getElem? (i := 1453) (by decide +kernel)⟩
theorem lw_p63 : lw_okq (⟨"FrozenTreesModel", "eventMany", "()I"⟩, 58) := ⟨⟨by decide +kernel, by decide +kernel⟩, List.mem_of_getElem? (i := 1159) (by decide +kernel), List.mem_of_getElem? (i := 1456) (by decide +kernel), List.mem_of_getElem? (i := 1457) (by decide +kernel)⟩
def lw_privs_4 : List (MethodName × Nat) := [(⟨"FrozenTrees$Row", "cut", "(J)J"⟩, 4), (⟨"FrozenTreesModel", "advance", "()V"⟩, 58), (⟨"FrozenTreesModel", "see", "(I)I"⟩, 58), (⟨"FrozenTreesModel", "good", "()Z"⟩, 58), (⟨"FrozenTreesModel", "readLine", "()V"⟩, 58), (⟨"FrozenTreesModel", "readFirst", "()V"⟩, 58), (⟨"FrozenTreesModel", "expects", "(Ljava/lang/String;)V"⟩, 58), (⟨"FrozenTreesModel", "takes", "(Ljava/lang/String;)Z"⟩, 58), (⟨"FrozenTreesModel", "is", "(Ljava/lang/String;)Z"⟩, 58), (⟨"FrozenTreesModel", "errs", "(I)V"⟩, 58), (⟨"FrozenTreesModel", "toldBy", "(Ljava/lang/String;II)I"⟩, 58), (⟨"FrozenTreesModel", "number", "(II)I"⟩, 58), (⟨"FrozenTreesModel", "readNext", "()V"⟩, 58), (⟨"FrozenTreesModel", "kindWord", "()I"⟩, 58), (⟨"FrozenTreesModel", "isEvent", "(I)Z"⟩, 58), (⟨"FrozenTreesModel", "eventMany", "()I"⟩, 58)]
theorem lw_r4 : ∀ q ∈ lw_privs_4, lw_okq q := List.forall_mem_cons.mpr ⟨lw_p48, List.forall_mem_cons.mpr ⟨lw_p49, List.forall_mem_cons.mpr ⟨lw_p50, List.forall_mem_cons.mpr ⟨lw_p51, List.forall_mem_cons.mpr ⟨lw_p52, List.forall_mem_cons.mpr ⟨lw_p53, List.forall_mem_cons.mpr ⟨lw_p54, List.forall_mem_cons.mpr ⟨lw_p55, List.forall_mem_cons.mpr ⟨lw_p56, List.forall_mem_cons.mpr ⟨lw_p57, List.forall_mem_cons.mpr ⟨lw_p58, List.forall_mem_cons.mpr ⟨lw_p59, List.forall_mem_cons.mpr ⟨lw_p60, List.forall_mem_cons.mpr ⟨lw_p61, List.forall_mem_cons.mpr ⟨lw_p62, List.forall_mem_cons.mpr ⟨lw_p63, fun _ h => absurd h List.not_mem_nil⟩⟩⟩⟩⟩⟩⟩⟩⟩⟩⟩⟩⟩⟩⟩⟩
theorem lw_p64 : lw_okq (⟨"FrozenTreesModel", "of", "(II)I"⟩, 58) := ⟨⟨by decide +kernel, by decide +kernel⟩, List.mem_of_getElem? (i := 1159) (by decide +kernel), List.mem_of_getElem? (i := 1461) (by decide +kernel), List.mem_of_getElem? (i := 1462) (by decide +kernel)⟩
theorem lw_p65 : lw_okq (⟨"FrozenTreesModel", "asks", "()Z"⟩, 58) := ⟨⟨by decide +kernel, by decide +kernel⟩, List.mem_of_getElem? (i := 1159) (by decide +kernel), List.mem_of_getElem? (i := 1469) (by decide +kernel), List.mem_of_getElem? (i := 1470) (by decide +kernel)⟩
theorem lw_p66 : lw_okq (⟨"FrozenTreesModel", "asItIs", "()V"⟩, 58) := ⟨⟨by decide +kernel, by decide +kernel⟩, List.mem_of_getElem? (i := 1159) (by decide +kernel), List.mem_of_getElem? (i := 1473) (by decide +kernel), List.mem_of_getElem? (i := 1474) (by decide +kernel)⟩
theorem lw_p67 : lw_okq (⟨"FrozenTreesModel", "layEvent", "(IIII)V"⟩, 58) := ⟨⟨by decide +kernel, by decide +kernel⟩, List.mem_of_getElem? (i := 1159) (by decide +kernel), List.mem_of_getElem? (i := 1477) (by decide +kernel), List.mem_of_getElem? (i := 1478) (by decide +kernel)⟩
theorem lw_p68 : lw_okq (⟨"FrozenTreesModel", "goAll", "()V"⟩, 58) := ⟨⟨by decide +kernel, by decide +kernel⟩, List.mem_of_getElem? (i := 1159) (by decide +kernel), List.mem_of_getElem? (i := 1481) (by decide +kernel), List.mem_of_getElem? (i := 1482) (by decide +kernel)⟩
theorem lw_p69 : lw_okq (⟨"FrozenTreesModel", "begins", "()V"⟩, 58) := ⟨⟨by decide +kernel, by decide +kernel⟩, List.mem_of_getElem? (i := 1159) (by decide +kernel), List.mem_of_getElem? (i := 1485) (by decide +kernel), List.mem_of_getElem? (i := 1486) (by decide +kernel)⟩
theorem lw_p70 : lw_okq (⟨"FrozenTreesModel", "keepTick", "(I)V"⟩, 58) := ⟨⟨by decide +kernel, by decide +kernel⟩, List.mem_of_getElem? (i := 1159) (by decide +kernel), List.mem_of_getElem? (i := 1489) (by decide +kernel), List.mem_of_getElem? (i := 1490) (by decide +kernel)⟩
theorem lw_p71 : lw_okq (⟨"FrozenTreesModel", "whyOf", "(I)I"⟩, 58) := ⟨⟨by decide +kernel, by decide +kernel⟩, List.mem_of_getElem? (i := 1159) (by decide +kernel), List.mem_of_getElem? (i := 1493) (by decide +kernel), List.mem_of_getElem? (i := 1494) (by decide +kernel)⟩
theorem lw_p72 : lw_okq (⟨"FrozenTreesModel", "handleWhy", "(IIII)I"⟩, 58) := ⟨⟨by decide +kernel, by decide +kernel⟩, List.mem_of_getElem? (i := 1159) (by decide +kernel), List.mem_of_getElem? (i := 1500) (by decide +kernel), List.mem_of_getElem? (i := 1501) (by decide +kernel)⟩
theorem lw_p73 : lw_okq (⟨"FrozenTreesModel", "objectOf", "(II)I"⟩, 58) := ⟨⟨by decide +kernel, by decide +kernel⟩, List.mem_of_getElem? (i := 1159) (by decide +kernel), List.mem_of_getElem? (i := 1504) (by decide +kernel), List.mem_of_getElem? (i := 1505) (by decide +kernel)⟩
theorem lw_p74 : lw_okq (⟨"FrozenTreesModel", "pipeWhy", "(IIII)I"⟩, 58) := ⟨⟨by decide +kernel, by decide +kernel⟩, List.mem_of_getElem? (i := 1159) (by decide +kernel), List.mem_of_getElem? (i := 1508) (by decide +kernel), List.mem_of_getElem? (i := 1509) (by decide +kernel)⟩
theorem lw_p75 : lw_okq (⟨"FrozenTreesModel", "isHeld", "(I)Z"⟩, 58) := ⟨⟨by decide +kernel, by decide +kernel⟩, List.mem_of_getElem? (i := 1159) (by decide +kernel), List.mem_of_getElem? (i := 1512) (by decide +kernel), List.mem_of_getElem? (i := 1513) (by decide +kernel)⟩
theorem lw_p76 : lw_okq (⟨"FrozenTreesModel", "applies", "(I)V"⟩, 58) := ⟨⟨by decide +kernel, by decide +kernel⟩, List.mem_of_getElem? (i := 1159) (by decide +kernel), List.mem_of_getElem? (i := 1516) (by decide +kernel), List.mem_of_getElem? (i := 1517) (by decide +kernel)⟩
theorem lw_p77 : lw_okq (⟨"FrozenTreesModel", "fork", "(II)V"⟩, 58) := ⟨⟨by decide +kernel, by decide +kernel⟩, List.mem_of_getElem? (i := 1159) (by decide +kernel), List.mem_of_getElem? (i := 1520) (by decide +kernel), List.mem_of_getElem? (i := 1521) (by decide +kernel)⟩
theorem lw_p78 : lw_okq (⟨"FrozenTreesModel", "exit", "(I)V"⟩, 58) := ⟨⟨by decide +kernel, by decide +kernel⟩, List.mem_of_getElem? (i := 1159) (by decide +kernel), List.mem_of_getElem? (i := 1524) (by decide +kernel), List.mem_of_getElem? (i := 1525) (by decide +kernel)⟩
theorem lw_p79 : lw_okq (⟨"FrozenTreesModel", "newParent", "(III)I"⟩, 58) := ⟨⟨by decide +kernel, by decide +kernel⟩, List.mem_of_getElem? (i := 1159) (by decide +kernel), List.mem_of_getElem? (i := 1528) (by decide +kernel), List.mem_of_getElem? (i := 1529) (by decide +kernel)⟩
def lw_privs_5 : List (MethodName × Nat) := [(⟨"FrozenTreesModel", "of", "(II)I"⟩, 58), (⟨"FrozenTreesModel", "asks", "()Z"⟩, 58), (⟨"FrozenTreesModel", "asItIs", "()V"⟩, 58), (⟨"FrozenTreesModel", "layEvent", "(IIII)V"⟩, 58), (⟨"FrozenTreesModel", "goAll", "()V"⟩, 58), (⟨"FrozenTreesModel", "begins", "()V"⟩, 58), (⟨"FrozenTreesModel", "keepTick", "(I)V"⟩, 58), (⟨"FrozenTreesModel", "whyOf", "(I)I"⟩, 58), (⟨"FrozenTreesModel", "handleWhy", "(IIII)I"⟩, 58), (⟨"FrozenTreesModel", "objectOf", "(II)I"⟩, 58), (⟨"FrozenTreesModel", "pipeWhy", "(IIII)I"⟩, 58), (⟨"FrozenTreesModel", "isHeld", "(I)Z"⟩, 58), (⟨"FrozenTreesModel", "applies", "(I)V"⟩, 58), (⟨"FrozenTreesModel", "fork", "(II)V"⟩, 58), (⟨"FrozenTreesModel", "exit", "(I)V"⟩, 58), (⟨"FrozenTreesModel", "newParent", "(III)I"⟩, 58)]
theorem lw_r5 : ∀ q ∈ lw_privs_5, lw_okq q := List.forall_mem_cons.mpr ⟨lw_p64, List.forall_mem_cons.mpr ⟨lw_p65, List.forall_mem_cons.mpr ⟨lw_p66, List.forall_mem_cons.mpr ⟨lw_p67, List.forall_mem_cons.mpr ⟨lw_p68, List.forall_mem_cons.mpr ⟨lw_p69, List.forall_mem_cons.mpr ⟨lw_p70, List.forall_mem_cons.mpr ⟨lw_p71, List.forall_mem_cons.mpr ⟨lw_p72, List.forall_mem_cons.mpr ⟨lw_p73, List.forall_mem_cons.mpr ⟨lw_p74, List.forall_mem_cons.mpr ⟨lw_p75, List.forall_mem_cons.mpr ⟨lw_p76, List.forall_mem_cons.mpr ⟨lw_p77, List.forall_mem_cons.mpr ⟨lw_p78, List.forall_mem_cons.mpr ⟨lw_p79, fun _ h => absurd h List.not_mem_nil⟩⟩⟩⟩⟩⟩⟩⟩⟩⟩⟩⟩⟩⟩⟩⟩
theorem lw_p80 : lw_okq (⟨"FrozenTreesModel", "hangsBy", "([IIII)Z"⟩, 58) := ⟨⟨by decide +kernel, by decide +kernel⟩, List.mem_of_getElem? (i := 1159) (by decide +kernel), List.mem_of_getElem? (i := 1532) (by decide +kernel), List.mem_of_getElem? (i := 1533) (by decide +kernel)⟩
theorem lw_p81 : lw_okq (⟨"FrozenTreesModel", "makes", "(I)I"⟩, 58) := ⟨⟨by decide +kernel, by decide +kernel⟩, List.mem_of_getElem? (i := 1159) (by decide +kernel), List.mem_of_getElem? (i := 1536) (by decide +kernel), List.mem_of_getElem? (i := 1537) (by decide +kernel)⟩
theorem lw_p82 : lw_okq (⟨"FrozenTreesModel", "isSystem", "()Z"⟩, 58) := ⟨⟨by decide +kernel, by decide +kernel⟩, List.mem_of_getElem? (i := 1159) (by decide +kernel), List.mem_of_getElem? (i := 1540) (by decide +kernel), List.mem_of_getElem? (i := 1541) (by decide +kernel)⟩
theorem lw_p83 : lw_okq (⟨"FrozenTreesModel", "asksTick", "(I)Z"⟩, 58) := ⟨⟨by decide +kernel, by decide +kernel⟩, List.mem_of_getElem? (i := 1159) (by decide +kernel), List.mem_of_getElem? (i := 1548) (by decide +kernel), List.mem_of_getElem? (i := 1549) (by decide +kernel)⟩
theorem lw_p84 : lw_okq (⟨"FrozenTreesModel", "isTick", "(J)Z"⟩, 58) := ⟨⟨by decide +kernel, by decide +kernel⟩, List.mem_of_getElem? (i := 1159) (by decide +kernel), List.mem_of_getElem? (i := 1552) (by decide +kernel), List.mem_of_getElem? (i := 1553) (by decide +kernel)⟩
theorem lw_p85 : lw_okq (⟨"FrozenTreesModel", "asksOne", "(II)Z"⟩, 58) := ⟨⟨by decide +kernel, by decide +kernel⟩, List.mem_of_getElem? (i := 1159) (by decide +kernel), List.mem_of_getElem? (i := 1564) (by decide +kernel), List.mem_of_getElem? (i := 1565) (by decide +kernel)⟩
theorem lw_p86 : lw_okq (⟨"FrozenTreesModel", "parentOf", "(II)I"⟩, 58) := ⟨⟨by decide +kernel, by decide +kernel⟩, List.mem_of_getElem? (i := 1159) (by decide +kernel), List.mem_of_getElem? (i := 1572) (by decide +kernel), List.mem_of_getElem? (i := 1573) (by decide +kernel)⟩
theorem lw_p87 : lw_okq (⟨"FrozenTreesModel", "isAlive", "(II)Z"⟩, 58) := ⟨⟨by decide +kernel, by decide +kernel⟩, List.mem_of_getElem? (i := 1159) (by decide +kernel), List.mem_of_getElem? (i := 1576) (by decide +kernel), List.mem_of_getElem? (i := 1577) (by decide +kernel)⟩
theorem lw_p88 : lw_okq (⟨"FrozenTreesModel", "sessionOf", "(II)I"⟩, 58) := ⟨⟨by decide +kernel, by decide +kernel⟩, List.mem_of_getElem? (i := 1159) (by decide +kernel), List.mem_of_getElem? (i := 1584) (by decide +kernel), List.mem_of_getElem? (i := 1585) (by decide +kernel)⟩
theorem lw_p89 : lw_okq (⟨"FrozenTreesModel", "underOf", "(II)I"⟩, 58) := ⟨⟨by decide +kernel, by decide +kernel⟩, List.mem_of_getElem? (i := 1159) (by decide +kernel), List.mem_of_getElem? (i := 1596) (by decide +kernel), List.mem_of_getElem? (i := 1597) (by decide +kernel)⟩
theorem lw_p90 : lw_okq (⟨"FrozenTreesModel", "membersOf", "(II)I"⟩, 58) := ⟨⟨by decide +kernel, by decide +kernel⟩, List.mem_of_getElem? (i := 1159) (by decide +kernel), List.mem_of_getElem? (i := 1608) (by decide +kernel), List.mem_of_getElem? (i := 1609) (by decide +kernel)⟩
theorem lw_p91 : lw_okq (⟨"FrozenTreesModel", "bornOf", "(I)I"⟩, 58) := ⟨⟨by decide +kernel, by decide +kernel⟩, List.mem_of_getElem? (i := 1159) (by decide +kernel), List.mem_of_getElem? (i := 1620) (by decide +kernel), List.mem_of_getElem? (i := 1621) (by decide +kernel)⟩
theorem lw_p92 : lw_okq (⟨"FrozenTreesModel", "heldBy", "(III)I"⟩, 58) := ⟨⟨by decide +kernel, by decide +kernel⟩, List.mem_of_getElem? (i := 1159) (by decide +kernel), List.mem_of_getElem? (i := 1636) (by decide +kernel), List.mem_of_getElem? (i := 1637) (by decide +kernel)⟩
theorem lw_p93 : lw_okq (⟨"FrozenTreesModel", "holdsOf", "(II)I"⟩, 58) := ⟨⟨by decide +kernel, by decide +kernel⟩, List.mem_of_getElem? (i := 1159) (by decide +kernel), List.mem_of_getElem? (i := 1652) (by decide +kernel), List.mem_of_getElem? (i := 1653) (by decide +kernel)⟩
theorem lw_p94 : lw_okq (⟨"FrozenTreesModel", "queuedOf", "(II)I"⟩, 58) := ⟨⟨by decide +kernel, by decide +kernel⟩, List.mem_of_getElem? (i := 1159) (by decide +kernel), List.mem_of_getElem? (i := 1668) (by decide +kernel), List.mem_of_getElem? (i := 1669) (by decide +kernel)⟩
theorem lw_p95 : lw_okq (⟨"FrozenTreesModel", "layLabels", "(I)V"⟩, 58) := ⟨⟨by decide +kernel, by decide +kernel⟩, List.mem_of_getElem? (i := 1159) (by decide +kernel), List.mem_of_getElem? (i := 1681) (by decide +kernel), List.mem_of_getElem? (i := 1682) (by decide +kernel)⟩
def lw_privs_6 : List (MethodName × Nat) := [(⟨"FrozenTreesModel", "hangsBy", "([IIII)Z"⟩, 58), (⟨"FrozenTreesModel", "makes", "(I)I"⟩, 58), (⟨"FrozenTreesModel", "isSystem", "()Z"⟩, 58), (⟨"FrozenTreesModel", "asksTick", "(I)Z"⟩, 58), (⟨"FrozenTreesModel", "isTick", "(J)Z"⟩, 58), (⟨"FrozenTreesModel", "asksOne", "(II)Z"⟩, 58), (⟨"FrozenTreesModel", "parentOf", "(II)I"⟩, 58), (⟨"FrozenTreesModel", "isAlive", "(II)Z"⟩, 58), (⟨"FrozenTreesModel", "sessionOf", "(II)I"⟩, 58), (⟨"FrozenTreesModel", "underOf", "(II)I"⟩, 58), (⟨"FrozenTreesModel", "membersOf", "(II)I"⟩, 58), (⟨"FrozenTreesModel", "bornOf", "(I)I"⟩, 58), (⟨"FrozenTreesModel", "heldBy", "(III)I"⟩, 58), (⟨"FrozenTreesModel", "holdsOf", "(II)I"⟩, 58), (⟨"FrozenTreesModel", "queuedOf", "(II)I"⟩, 58), (⟨"FrozenTreesModel", "layLabels", "(I)V"⟩, 58)]
theorem lw_r6 : ∀ q ∈ lw_privs_6, lw_okq q := List.forall_mem_cons.mpr ⟨lw_p80, List.forall_mem_cons.mpr ⟨lw_p81, List.forall_mem_cons.mpr ⟨lw_p82, List.forall_mem_cons.mpr ⟨lw_p83, List.forall_mem_cons.mpr ⟨lw_p84, List.forall_mem_cons.mpr ⟨lw_p85, List.forall_mem_cons.mpr ⟨lw_p86, List.forall_mem_cons.mpr ⟨lw_p87, List.forall_mem_cons.mpr ⟨lw_p88, List.forall_mem_cons.mpr ⟨lw_p89, List.forall_mem_cons.mpr ⟨lw_p90, List.forall_mem_cons.mpr ⟨lw_p91, List.forall_mem_cons.mpr ⟨lw_p92, List.forall_mem_cons.mpr ⟨lw_p93, List.forall_mem_cons.mpr ⟨lw_p94, List.forall_mem_cons.mpr ⟨lw_p95, fun _ h => absurd h List.not_mem_nil⟩⟩⟩⟩⟩⟩⟩⟩⟩⟩⟩⟩⟩⟩⟩⟩
theorem lw_p96 : lw_okq (⟨"FrozenTreesModel", "asksShapes", "()Z"⟩, 58) := ⟨⟨by decide +kernel, by decide +kernel⟩, List.mem_of_getElem? (i := 1159) (by decide +kernel), List.mem_of_getElem? (i := 1693) (by decide +kernel), List.mem_of_getElem? (i := 1694) (by decide +kernel)⟩
theorem lw_p97 : lw_okq (⟨"FrozenTreesModel", "layShape", "(I)V"⟩, 58) := ⟨⟨by decide +kernel, by decide +kernel⟩, List.mem_of_getElem? (i := 1159) (by decide +kernel), List.mem_of_getElem? (i := 1697) (by decide +kernel), List.mem_of_getElem? (i := 1698) (by decide +kernel)⟩
theorem lw_p98 : lw_okq (⟨"FrozenTreesModel", "isAlike", "(II)Z"⟩, 58) := ⟨⟨by decide +kernel, by decide +kernel⟩, List.mem_of_getElem? (i := 1159) (by decide +kernel), List.mem_of_getElem? (i := 1701) (by decide +kernel), List.mem_of_getElem? (i := 1702) (by decide +kernel)⟩
theorem lw_p99 : lw_okq (⟨"FrozenTreesModel", "sameOf", "(I)I"⟩, 58) := ⟨⟨by decide +kernel, by decide +kernel⟩, List.mem_of_getElem? (i := 1159) (by decide +kernel), List.mem_of_getElem? (i := 1709) (by decide +kernel), List.mem_of_getElem? (i := 1710) (by decide +kernel)⟩
theorem lw_p100 : lw_okq (⟨"FrozenTreesModel", "asksRaised", "(I)Z"⟩, 58) := ⟨⟨by decide +kernel, by decide +kernel⟩, List.mem_of_getElem? (i := 1159) (by decide +kernel), List.mem_of_getElem? (i := 1725) (by decide +kernel), List.mem_of_getElem? (i := 1726) (by decide +kernel)⟩
theorem lw_p101 : lw_okq (⟨"FrozenTreesModel", "raiseAll", "(I)V"⟩, 58) := ⟨⟨by decide +kernel, by decide +kernel⟩, List.mem_of_getElem? (i := 1159) (by decide +kernel), List.mem_of_getElem? (i := 1729) (by decide +kernel), List.mem_of_getElem? (i := 1730) (by decide +kernel)⟩
theorem lw_p102 : lw_okq (⟨"FrozenTreesModel", "raise", "(II)V"⟩, 58) := ⟨⟨by decide +kernel, by decide +kernel⟩, List.mem_of_getElem? (i := 1159) (by decide +kernel), List.mem_of_getElem? (i := 1733) (by decide +kernel), List.mem_of_getElem? (i := 1734) (by decide +kernel)⟩
theorem lw_p103 : lw_okq (⟨"FrozenTreesModel", "nextRaised", "(I)I"⟩, 58) := ⟨⟨by decide +kernel, by decide +kernel⟩, List.mem_of_getElem? (i := 1159) (by decide +kernel), List.mem_of_getElem? (i := 1737) (by decide +kernel), List.mem_of_getElem? (i := 1738) (by decide +kernel)⟩
theorem lw_p104 : lw_okq (⟨"FrozenTreesModel", "howOf", "(II)I"⟩, 58) := ⟨⟨by decide +kernel, by decide +kernel⟩, List.mem_of_getElem? (i := 1159) (by decide +kernel), List.mem_of_getElem? (i := 1741) (by decide +kernel), List.mem_of_getElem? (i := 1742) (by decide +kernel)⟩
theorem lw_p105 : lw_okq (⟨"FrozenTreesModel", "lostOf", "(I)I"⟩, 58) := ⟨⟨by decide +kernel, by decide +kernel⟩, List.mem_of_getElem? (i := 1159) (by decide +kernel), List.mem_of_getElem? (i := 1749) (by decide +kernel), List.mem_of_getElem? (i := 1750) (by decide +kernel)⟩
theorem lw_p106 : lw_okq (⟨"FrozenTreesModel", "dirtyIn", "(III)I"⟩, 58) := ⟨⟨by decide +kernel, by decide +kernel⟩, List.mem_of_getElem? (i := 1159) (by decide +kernel), List.mem_of_getElem? (i := 1773) (by decide +kernel), List.mem_of_getElem? (i := 1774) (by decide +kernel)⟩
theorem lw_p107 : lw_okq (⟨"FrozenTreesModel", "asksCopy", "(II)Z"⟩, 58) := ⟨⟨by decide +kernel, by decide +kernel⟩, List.mem_of_getElem? (i := 1159) (by decide +kernel), List.mem_of_getElem? (i := 1781) (by decide +kernel), List.mem_of_getElem? (i := 1782) (by decide +kernel)⟩
theorem lw_p108 : lw_okq (⟨"FrozenTreesModel", "lastRound", "(III)I"⟩, 58) := ⟨⟨by decide +kernel, by decide +kernel⟩, List.mem_of_getElem? (i := 1159) (by decide +kernel), List.mem_of_getElem? (i := 1786) (by decide +kernel), List.mem_of_getElem? (i := 1787) (by decide +kernel)⟩
theorem lw_p109 : lw_okq (⟨"FrozenTreesModel", "roundOf", "(IIII)I"⟩, 58) := ⟨⟨by decide +kernel, by decide +kernel⟩, List.mem_of_getElem? (i := 1159) (by decide +kernel), List.mem_of_getElem? (i := 1790) (by decide +kernel), List.mem_of_getElem? (i := 1791) (by decide +kernel)⟩
theorem lw_p110 : lw_okq (⟨"FrozenTreesModel", "aliveMany", "(I)I"⟩, 58) := ⟨⟨by decide +kernel, by decide +kernel⟩, List.mem_of_getElem? (i := 1159) (by decide +kernel), List.mem_of_getElem? (i := 1794) (by decide +kernel), List.mem_of_getElem? (i := 1795) (by decide +kernel)⟩
theorem lw_p111 : lw_okq (⟨"FrozenTreesModel", "copiedIn", "(II)I"⟩, 58) := ⟨⟨by decide +kernel, by decide +kernel⟩, List.mem_of_getElem? (i := 1159) (by decide +kernel), List.mem_of_getElem? (i := 1801) (by decide +kernel), List.mem_of_getElem? (i := 1802) (by decide +kernel)⟩
def lw_privs_7 : List (MethodName × Nat) := [(⟨"FrozenTreesModel", "asksShapes", "()Z"⟩, 58), (⟨"FrozenTreesModel", "layShape", "(I)V"⟩, 58), (⟨"FrozenTreesModel", "isAlike", "(II)Z"⟩, 58), (⟨"FrozenTreesModel", "sameOf", "(I)I"⟩, 58), (⟨"FrozenTreesModel", "asksRaised", "(I)Z"⟩, 58), (⟨"FrozenTreesModel", "raiseAll", "(I)V"⟩, 58), (⟨"FrozenTreesModel", "raise", "(II)V"⟩, 58), (⟨"FrozenTreesModel", "nextRaised", "(I)I"⟩, 58), (⟨"FrozenTreesModel", "howOf", "(II)I"⟩, 58), (⟨"FrozenTreesModel", "lostOf", "(I)I"⟩, 58), (⟨"FrozenTreesModel", "dirtyIn", "(III)I"⟩, 58), (⟨"FrozenTreesModel", "asksCopy", "(II)Z"⟩, 58), (⟨"FrozenTreesModel", "lastRound", "(III)I"⟩, 58), (⟨"FrozenTreesModel", "roundOf", "(IIII)I"⟩, 58), (⟨"FrozenTreesModel", "aliveMany", "(I)I"⟩, 58), (⟨"FrozenTreesModel", "copiedIn", "(II)I"⟩, 58)]
theorem lw_r7 : ∀ q ∈ lw_privs_7, lw_okq q := List.forall_mem_cons.mpr ⟨lw_p96, List.forall_mem_cons.mpr ⟨lw_p97, List.forall_mem_cons.mpr ⟨lw_p98, List.forall_mem_cons.mpr ⟨lw_p99, List.forall_mem_cons.mpr ⟨lw_p100, List.forall_mem_cons.mpr ⟨lw_p101, List.forall_mem_cons.mpr ⟨lw_p102, List.forall_mem_cons.mpr ⟨lw_p103, List.forall_mem_cons.mpr ⟨lw_p104, List.forall_mem_cons.mpr ⟨lw_p105, List.forall_mem_cons.mpr ⟨lw_p106, List.forall_mem_cons.mpr ⟨lw_p107, List.forall_mem_cons.mpr ⟨lw_p108, List.forall_mem_cons.mpr ⟨lw_p109, List.forall_mem_cons.mpr ⟨lw_p110, List.forall_mem_cons.mpr ⟨lw_p111, fun _ h => absurd h List.not_mem_nil⟩⟩⟩⟩⟩⟩⟩⟩⟩⟩⟩⟩⟩⟩⟩⟩
theorem lw_p112 : lw_okq (⟨"FrozenTreesModel", "copiedAll", "(III)I"⟩, 58) := ⟨⟨by decide +kernel, by decide +kernel⟩, List.mem_of_getElem? (i := 1159) (by decide +kernel), List.mem_of_getElem? (i := 1809) (by decide +kernel), List.mem_of_getElem? (i := 1810) (by decide +kernel)⟩
theorem lw_p113 : lw_okq (⟨"FrozenTreesModel", "goWithout", "(I)V"⟩, 58) := ⟨⟨by decide +kernel, by decide +kernel⟩, List.mem_of_getElem? (i := 1159) (by decide +kernel), List.mem_of_getElem? (i := 1821) (by decide +kernel), List.mem_of_getElem? (i := 1822) (by decide +kernel)⟩
theorem lw_p114 : lw_okq (⟨"FrozenTreesModel", "refusedBut", "(I)I"⟩, 58) := ⟨⟨by decide +kernel, by decide +kernel⟩, List.mem_of_getElem? (i := 1159) (by decide +kernel), List.mem_of_getElem? (i := 1829) (by decide +kernel), List.mem_of_getElem? (i := 1830) (by decide +kernel)⟩
theorem lw_p115 : lw_okq (⟨"FrozenTreesModel", "layMay", "(I)I"⟩, 58) := ⟨⟨by decide +kernel, by decide +kernel⟩, List.mem_of_getElem? (i := 1159) (by decide +kernel), List.mem_of_getElem? (i := 1837) (by decide +kernel), List.mem_of_getElem? (i := 1838) (by decide +kernel)⟩
theorem lw_p116 : lw_okq (⟨"FrozenTreesModel", "askSeen", "(I)I"⟩, 58) := ⟨⟨by decide +kernel, by decide +kernel⟩, List.mem_of_getElem? (i := 1159) (by decide +kernel), List.mem_of_getElem? (i := 1841) (by decide +kernel), List.mem_of_getElem? (i := 1842) (by decide +kernel)⟩
theorem lw_p117 : lw_okq (⟨"FrozenTreesModel", "numberAt", "(II)J"⟩, 58) := ⟨⟨by decide +kernel, by decide +kernel⟩, List.mem_of_getElem? (i := 1159) (by decide +kernel), List.mem_of_getElem? (i := 1848) (by decide +kernel), List.mem_of_getElem? (i := 1849) (by decide +kernel)⟩
theorem lw_p118 : lw_okq (⟨"FrozenTreesModel", "isSeen", "(I)Z"⟩, 58) := ⟨⟨by decide +kernel, by decide +kernel⟩, List.mem_of_getElem? (i := 1159) (by decide +kernel), List.mem_of_getElem? (i := 1853) (by decide +kernel), List.mem_of_getElem? (i := 1854) (by decide +kernel)⟩
theorem lw_p119 : lw_okq (⟨"FrozenTreesModel", "lostByLaw", "(I)I"⟩, 58) := ⟨⟨by decide +kernel, by decide +kernel⟩, List.mem_of_getElem? (i := 1159) (by decide +kernel), List.mem_of_getElem? (i := 1873) (by decide +kernel), List.mem_of_getElem? (i := 1874) (by decide +kernel)⟩
theorem lw_p120 : lw_okq (⟨"FrozenTreesModel", "worthOf", "(I)I"⟩, 58) := ⟨⟨by decide +kernel, by decide +kernel⟩, List.mem_of_getElem? (i := 1159) (by decide +kernel), List.mem_of_getElem? (i := 1886) (by decide +kernel), List.mem_of_getElem? (i := 1887) (by decide +kernel)⟩
theorem lw_p121 : lw_okq (⟨"FrozenTreesModel", "areTwo", "(II)Z"⟩, 58) := ⟨⟨by decide +kernel, by decide +kernel⟩, List.mem_of_getElem? (i := 1159) (by decide +kernel), List.mem_of_getElem? (i := 1908) (by decide +kernel), List.mem_of_getElem? (i := 1909) (by decide +kernel)⟩
theorem lw_p122 : lw_okq (⟨"FrozenTreesModel", "getsBy", "(IIIII)I"⟩, 58) := ⟨⟨by decide +kernel, by decide +kernel⟩, List.mem_of_getElem? (i := 1159) (by decide +kernel), List.mem_of_getElem? (i := 1912) (by decide +kernel), List.mem_of_getElem? (i := 1913) (by decide +kernel)⟩
theorem lw_p123 : lw_okq (⟨"FrozenTreesModel", "isChance", "(II)Z"⟩, 58) := ⟨⟨by decide +kernel, by decide +kernel⟩, List.mem_of_getElem? (i := 1159) (by decide +kernel), List.mem_of_getElem? (i := 1924) (by decide +kernel), List.mem_of_getElem? (i := 1925) (by decide +kernel)⟩
theorem lw_p124 : lw_okq (⟨"FrozenTreesModel", "layChance", "(II)V"⟩, 58) := ⟨⟨by decide +kernel, by decide +kernel⟩, List.mem_of_getElem? (i := 1159) (by decide +kernel), List.mem_of_getElem? (i := 1930) (by decide +kernel), List.mem_of_getElem? (i := 1931) (by decide +kernel)⟩
theorem lw_p125 : lw_okq (⟨"FrozenTreesModel", "goDrawn", "(J)I"⟩, 58) := ⟨⟨by decide +kernel, by decide +kernel⟩, List.mem_of_getElem? (i := 1159) (by decide +kernel), List.mem_of_getElem? (i := 1962) (by decide +kernel), List.mem_of_getElem? (i := 1963) (by decide +kernel)⟩
def lw_privs_8 : List (MethodName × Nat) := [(⟨"FrozenTreesModel", "copiedAll", "(III)I"⟩, 58), (⟨"FrozenTreesModel", "goWithout", "(I)V"⟩, 58), (⟨"FrozenTreesModel", "refusedBut", "(I)I"⟩, 58), (⟨"FrozenTreesModel", "layMay", "(I)I"⟩, 58), (⟨"FrozenTreesModel", "askSeen", "(I)I"⟩, 58), (⟨"FrozenTreesModel", "numberAt", "(II)J"⟩, 58), (⟨"FrozenTreesModel", "isSeen", "(I)Z"⟩, 58), (⟨"FrozenTreesModel", "lostByLaw", "(I)I"⟩, 58), (⟨"FrozenTreesModel", "worthOf", "(I)I"⟩, 58), (⟨"FrozenTreesModel", "areTwo", "(II)Z"⟩, 58), (⟨"FrozenTreesModel", "getsBy", "(IIIII)I"⟩, 58), (⟨"FrozenTreesModel", "isChance", "(II)Z"⟩, 58), (⟨"FrozenTreesModel", "layChance", "(II)V"⟩, 58), (⟨"FrozenTreesModel", "goDrawn", "(J)I"⟩, 58)]
theorem lw_r8 : ∀ q ∈ lw_privs_8, lw_okq q := List.forall_mem_cons.mpr ⟨lw_p112, List.forall_mem_cons.mpr ⟨lw_p113, List.forall_mem_cons.mpr ⟨lw_p114, List.forall_mem_cons.mpr ⟨lw_p115, List.forall_mem_cons.mpr ⟨lw_p116, List.forall_mem_cons.mpr ⟨lw_p117, List.forall_mem_cons.mpr ⟨lw_p118, List.forall_mem_cons.mpr ⟨lw_p119, List.forall_mem_cons.mpr ⟨lw_p120, List.forall_mem_cons.mpr ⟨lw_p121, List.forall_mem_cons.mpr ⟨lw_p122, List.forall_mem_cons.mpr ⟨lw_p123, List.forall_mem_cons.mpr ⟨lw_p124, List.forall_mem_cons.mpr ⟨lw_p125, fun _ h => absurd h List.not_mem_nil⟩⟩⟩⟩⟩⟩⟩⟩⟩⟩⟩⟩⟩⟩
def lw_privs : List (MethodName × Nat) := lw_privs_1 ++ (lw_privs_2 ++ (lw_privs_3 ++ (lw_privs_4 ++ (lw_privs_5 ++ (lw_privs_6 ++ (lw_privs_7 ++ (lw_privs_8)))))))
def lw_tbl : List Cond := k2_sels lw_privs ++ tables_1
theorem lw_privs_ok : ∀ q ∈ lw_privs, lw_okq q := by
  show ∀ q ∈ lw_privs_1 ++ (lw_privs_2 ++ (lw_privs_3 ++ (lw_privs_4 ++ (lw_privs_5 ++ (lw_privs_6 ++ (lw_privs_7 ++ (lw_privs_8))))))), lw_okq q
  exact List.forall_mem_append.mpr ⟨lw_r1, List.forall_mem_append.mpr ⟨lw_r2, List.forall_mem_append.mpr ⟨lw_r3, List.forall_mem_append.mpr ⟨lw_r4, List.forall_mem_append.mpr ⟨lw_r5, List.forall_mem_append.mpr ⟨lw_r6, List.forall_mem_append.mpr ⟨lw_r7, lw_r8⟩⟩⟩⟩⟩⟩⟩
end
section
def px_T0 : u_T := fun k => match k with
  | _ => ("", "", "", false)
def px_T1 : u_T := fun k => match k with
  | 0 => ("FrozenTrees$Film", "story", "LFrozenTrees$Story;", true)
  | 1 => ("FrozenTrees$Film", "world", "LFrozenTrees$World;", true)
  | 2 => ("FrozenTrees$Film", "why", "[I", true)
  | 3 => ("FrozenTrees$Film", "tick", "I", false)
  | 4 => ("FrozenTrees$Film", "copiedInRound", "I", false)
  | 5 => ("FrozenTrees$Film", "copiedInAll", "I", false)
  | _ => ("FrozenTrees$Film", "copiedLast", "I", false)
def px_T2 : u_T := fun k => match k with
  | 0 => ("FrozenTrees$Plan", "way", "[I", true)
  | 1 => ("FrozenTrees$Plan", "order", "[I", true)
  | 2 => ("FrozenTrees$Plan", "size", "I", false)
  | _ => ("FrozenTrees$Plan", "left", "I", false)
def px_T3 : u_T := fun k => match k with
  | 0 => ("FrozenTrees$Reader", "tape", "LFrozenTrees$Tape;", true)
  | 1 => ("FrozenTrees$Reader", "fault", "I", false)
  | 2 => ("FrozenTrees$Reader", "place", "I", false)
  | 3 => ("FrozenTrees$Reader", "token", "I", false)
  | 4 => ("FrozenTrees$Reader", "start", "I", false)
  | 5 => ("FrozenTrees$Reader", "stop", "I", false)
  | _ => ("FrozenTrees$Reader", "value", "I", false)
def px_T4 : u_T := fun k => match k with
  | 0 => ("FrozenTrees$Row", "numbers", "[J", true)
  | 1 => ("FrozenTrees$Row", "there", "Z", false)
  | 2 => ("FrozenTrees$Row", "width", "I", false)
  | _ => ("FrozenTrees$Row", "size", "I", false)
def px_T5 : u_T := fun k => match k with
  | 0 => ("FrozenTrees$Seen", "ticks", "[I", true)
  | 1 => ("FrozenTrees$Seen", "processes", "[I", true)
  | 2 => ("FrozenTrees$Seen", "parents", "[I", true)
  | _ => ("FrozenTrees$Seen", "size", "I", false)
def px_T6 : u_T := fun k => match k with
  | 0 => ("FrozenTrees$Shapes", "film", "LFrozenTrees$Film;", true)
  | 1 => ("FrozenTrees$Shapes", "story", "LFrozenTrees$Story;", true)
  | 2 => ("FrozenTrees$Shapes", "labels", "[I", true)
  | 3 => ("FrozenTrees$Shapes", "met", "[I", true)
  | 4 => ("FrozenTrees$Shapes", "size", "I", false)
  | 5 => ("FrozenTrees$Shapes", "pictures", "[[J", true)
  | 6 => ("FrozenTrees$Shapes", "first", "[I", true)
  | 7 => ("FrozenTrees$Shapes", "times", "[I", true)
  | _ => ("FrozenTrees$Shapes", "known", "I", false)
def px_T7 : u_T := fun k => match k with
  | 0 => ("FrozenTrees$Story", "codes", "[I", true)
  | 1 => ("FrozenTrees$Story", "lines", "I", false)
  | 2 => ("FrozenTrees$Story", "law", "I", false)
  | 3 => ("FrozenTrees$Story", "odds", "I", false)
  | 4 => ("FrozenTrees$Story", "told", "I", false)
  | 5 => ("FrozenTrees$Story", "acts", "I", false)
  | _ => ("FrozenTrees$Story", "kept", "Z", false)
def px_T8 : u_T := fun k => match k with
  | 0 => ("FrozenTrees$Tape", "signs", "[I", true)
  | _ => ("FrozenTrees$Tape", "size", "I", false)
def px_T9 : u_T := fun k => match k with
  | 0 => ("FrozenTrees$World", "living", "I", false)
  | 1 => ("FrozenTrees$World", "made", "I", false)
  | 2 => ("FrozenTrees$World", "ever", "I", false)
  | 3 => ("FrozenTrees$World", "parentOf", "[I", true)
  | 4 => ("FrozenTrees$World", "sessionOf", "[I", true)
  | 5 => ("FrozenTrees$World", "soiled", "[I", true)
  | 6 => ("FrozenTrees$World", "held", "[I", true)
  | 7 => ("FrozenTrees$World", "sort", "[I", true)
  | 8 => ("FrozenTrees$World", "holders", "[I", true)
  | _ => ("FrozenTrees$World", "queue", "[I", true)
def px_T10 : u_T := fun k => match k with
  | 0 => ("FrozenTrees", "tape", "LFrozenTrees$Tape;", true)
  | 1 => ("FrozenTrees", "reader", "LFrozenTrees$Reader;", true)
  | 2 => ("FrozenTrees", "story", "LFrozenTrees$Story;", true)
  | 3 => ("FrozenTrees", "draft", "LFrozenTrees$Story;", true)
  | 4 => ("FrozenTrees", "images", "[LFrozenTrees$Story;", true)
  | 5 => ("FrozenTrees", "rows", "[LFrozenTrees$Row;", true)
  | 6 => ("FrozenTrees", "seen", "LFrozenTrees$Seen;", true)
  | 7 => ("FrozenTrees", "film", "LFrozenTrees$Film;", true)
  | 8 => ("FrozenTrees", "forms", "LFrozenTrees$Shapes;", true)
  | 9 => ("FrozenTrees", "plan", "LFrozenTrees$Plan;", true)
  | 10 => ("FrozenTrees", "trial", "LFrozenTrees$World;", true)
  | _ => ("FrozenTrees", "worths", "[I", true)
def px_T11 : u_T := fun k => match k with
  | 0 => ("FrozenTreesModel", "thrown", "I", false)
  | 1 => ("FrozenTreesModel", "world", "[I", true)
  | 2 => ("FrozenTreesModel", "images", "[I", true)
  | 3 => ("FrozenTreesModel", "hasImage", "[Z", true)
  | 4 => ("FrozenTreesModel", "tape", "[B", true)
  | 5 => ("FrozenTreesModel", "taped", "I", false)
  | 6 => ("FrozenTreesModel", "five", "[I", true)
  | 7 => ("FrozenTreesModel", "size", "I", false)
  | 8 => ("FrozenTreesModel", "at", "I", false)
  | 9 => ("FrozenTreesModel", "from", "I", false)
  | 10 => ("FrozenTreesModel", "token", "I", false)
  | 11 => ("FrozenTreesModel", "value", "I", false)
  | 12 => ("FrozenTreesModel", "faultKind", "I", false)
  | 13 => ("FrozenTreesModel", "faultPlace", "I", false)
  | 14 => ("FrozenTreesModel", "fresh", "[I", true)
  | 15 => ("FrozenTreesModel", "kindNow", "[I", true)
  | 16 => ("FrozenTreesModel", "processNow", "[I", true)
  | 17 => ("FrozenTreesModel", "firstNow", "[I", true)
  | 18 => ("FrozenTreesModel", "secondNow", "[I", true)
  | 19 => ("FrozenTreesModel", "isLeft", "[Z", true)
  | 20 => ("FrozenTreesModel", "manyNow", "I", false)
  | 21 => ("FrozenTreesModel", "lawNow", "I", false)
  | 22 => ("FrozenTreesModel", "aliveNow", "I", false)
  | 23 => ("FrozenTreesModel", "everNow", "I", false)
  | 24 => ("FrozenTreesModel", "parentNow", "[I", true)
  | 25 => ("FrozenTreesModel", "sessionNow", "[I", true)
  | 26 => ("FrozenTreesModel", "objectNow", "[I", true)
  | 27 => ("FrozenTreesModel", "madeNow", "I", false)
  | 28 => ("FrozenTreesModel", "kindOf", "[I", true)
  | 29 => ("FrozenTreesModel", "bytesNow", "[I", true)
  | 30 => ("FrozenTreesModel", "whyNow", "[I", true)
  | 31 => ("FrozenTreesModel", "dirtyBy", "[I", true)
  | 32 => ("FrozenTreesModel", "dirtyOf", "[I", true)
  | 33 => ("FrozenTreesModel", "aliveAt", "[I", true)
  | 34 => ("FrozenTreesModel", "madeAt", "[I", true)
  | 35 => ("FrozenTreesModel", "parentAt", "[I", true)
  | 36 => ("FrozenTreesModel", "sessionAt", "[I", true)
  | 37 => ("FrozenTreesModel", "objectAt", "[I", true)
  | 38 => ("FrozenTreesModel", "bytesAt", "[I", true)
  | 39 => ("FrozenTreesModel", "labelOf", "[I", true)
  | 40 => ("FrozenTreesModel", "labelled", "[I", true)
  | 41 => ("FrozenTreesModel", "labelMany", "I", false)
  | 42 => ("FrozenTreesModel", "shapeAt", "[I", true)
  | 43 => ("FrozenTreesModel", "raisedSet", "I", false)
  | 44 => ("FrozenTreesModel", "howBy", "[I", true)
  | 45 => ("FrozenTreesModel", "raisedBy", "[I", true)
  | 46 => ("FrozenTreesModel", "raisedMany", "I", false)
  | 47 => ("FrozenTreesModel", "mayMany", "I", false)
  | 48 => ("FrozenTreesModel", "mayFirst", "I", false)
  | 49 => ("FrozenTreesModel", "mayPlain", "I", false)
  | 50 => ("FrozenTreesModel", "worthBy", "[I", true)
  | 51 => ("FrozenTreesModel", "oftenAll", "J", false)
  | 52 => ("FrozenTreesModel", "oftenAlive", "J", false)
  | 53 => ("FrozenTreesModel", "oftenMany", "J", false)
  | 54 => ("FrozenTreesModel", "many", "[I", true)
  | 55 => ("FrozenTreesModel", "width", "[I", true)
  | 56 => ("FrozenTreesModel", "numbers", "[J", true)
  | _ => ("FrozenTreesModel", "moving", "[J", true)
def px_cls : List vw_C := [("FrozenTrees$Code", px_T0, 0), ("FrozenTrees$Film", px_T1, 7), ("FrozenTrees$Plan", px_T2, 4), ("FrozenTrees$Reader", px_T3, 7), ("FrozenTrees$Row", px_T4, 4), ("FrozenTrees$Seen", px_T5, 4), ("FrozenTrees$Shapes", px_T6, 9), ("FrozenTrees$Story", px_T7, 7), ("FrozenTrees$Tape", px_T8, 2), ("FrozenTrees$World", px_T9, 10), ("FrozenTrees", px_T10, 12), ("FrozenTreesModel", px_T11, 58)]
def px_cnl : List String := ["FrozenTrees$Code", "FrozenTrees$Film", "FrozenTrees$Plan", "FrozenTrees$Reader", "FrozenTrees$Row", "FrozenTrees$Seen", "FrozenTrees$Shapes", "FrozenTrees$Story", "FrozenTrees$Tape", "FrozenTrees$World", "FrozenTrees", "FrozenTreesModel", "java/lang/String", "java/lang/Integer", "java/lang/Math", "java/lang/StringLatin1", "java/lang/StringUTF16", "java/lang/System", "java/util/Arrays", "jdk/internal/util/Preconditions", "FrozenTreesLaw"]
def px_cn (c : Nat) : String := px_cnl.getD c ""
def px_fcl : List (List Nat) := [[], [3, 3, 3, 0, 0, 0, 0], [3, 3, 0, 0], [3, 0, 0, 0, 0, 0, 0], [3, 2, 0, 0], [3, 3, 3, 0], [3, 3, 3, 3, 0, 3, 3, 3, 0], [3, 0, 0, 0, 0, 0, 2], [3, 0], [0, 0, 0, 3, 3, 3, 3, 3, 3, 3], [3, 3, 3, 3, 3, 3, 3, 3, 3, 3, 3, 3], [0, 3, 3, 3, 3, 0, 3, 0, 0, 0, 0, 0, 0, 0, 3, 3, 3, 3, 3, 3, 0, 0, 0, 0, 3, 3, 3, 0, 3, 3, 3, 3, 3, 3, 3, 3, 3, 3, 3, 3, 3, 0, 3, 0, 3, 3, 0, 0, 0, 0, 3, 1, 1, 1, 3, 3, 3, 3], [3, 0]]
def px_fc (c i : Nat) : Nat := (px_fcl.getD c []).getD i 9
def px_yns : List (List MethodName) := [[⟨"FrozenTrees$Code", "pack", "(IIII)I"⟩, ⟨"FrozenTrees$Code", "place", "(II)I"⟩, ⟨"FrozenTrees$Code", "kindOf", "(I)I"⟩, ⟨"FrozenTrees$Code", "numberOf", "(II)I"⟩, ⟨"FrozenTrees$Code", "numbersOf", "(I)I"⟩, ⟨"FrozenTrees$Code", "leastOf", "(II)I"⟩, ⟨"FrozenTrees$Code", "mostOf", "(II)I"⟩, ⟨"FrozenTrees$Code", "isAmount", "(II)Z"⟩, ⟨"FrozenTrees$Code", "fits", "(III)Z"⟩, ⟨"FrozenTrees$Code", "wordOf", "(I)Ljava/lang/String;"⟩, ⟨"FrozenTrees$Film", "forget", "()V"⟩, ⟨"FrozenTrees$Film", "at", "(I)LFrozenTrees$World;"⟩, ⟨"FrozenTrees$Film", "whyRefused", "(I)I"⟩, ⟨"FrozenTrees$Film", "refusedBefore", "(I)I"⟩, ⟨"FrozenTrees$Film", "precopy", "(IIII)V"⟩, ⟨"FrozenTrees$Film", "soiledPages", "()I"⟩, ⟨"FrozenTrees$Plan", "make", "(LFrozenTrees$World;)V"⟩, ⟨"FrozenTrees$Plan", "countBy", "(I)I"⟩, ⟨"FrozenTrees$Plan", "raise", "(II)V"⟩, ⟨"FrozenTrees$Plan", "raiseNext", "(LFrozenTrees$World;)V"⟩],
  [⟨"FrozenTrees$Plan", "wayFor", "(LFrozenTrees$World;I)I"⟩, ⟨"FrozenTrees$Reader", "readInto", "(LFrozenTrees$Story;)V"⟩, ⟨"FrozenTrees$Reader", "readHead", "(LFrozenTrees$Story;)V"⟩, ⟨"FrozenTrees$Reader", "readEvent", "(LFrozenTrees$Story;)V"⟩, ⟨"FrozenTrees$Reader", "kindTold", "()I"⟩, ⟨"FrozenTrees$Reader", "takeNumber", "(II)I"⟩, ⟨"FrozenTrees$Reader", "takeWord", "(Ljava/lang/String;)V"⟩, ⟨"FrozenTrees$Reader", "takeSemicolon", "()V"⟩, ⟨"FrozenTrees$Reader", "blame", "(I)V"⟩, ⟨"FrozenTrees$Reader", "isWord", "(Ljava/lang/String;)Z"⟩, ⟨"FrozenTrees$Reader", "step", "()V"⟩, ⟨"FrozenTrees$Reader", "stepWord", "()V"⟩, ⟨"FrozenTrees$Reader", "stepNumber", "()V"⟩, ⟨"FrozenTrees$Reader", "isBlank", "(I)Z"⟩, ⟨"FrozenTrees$Reader", "isLetter", "(I)Z"⟩, ⟨"FrozenTrees$Reader", "isDigit", "(I)Z"⟩, ⟨"FrozenTrees$Row", "begin", "(II)V"⟩, ⟨"FrozenTrees$Row", "put", "(IJ)V"⟩, ⟨"FrozenTrees$Row", "cut", "(J)J"⟩, ⟨"FrozenTrees$Row", "lacks", "(II)Z"⟩],
  [⟨"FrozenTrees$Seen", "learn", "(LFrozenTrees$Row;I)Z"⟩, ⟨"FrozenTrees$Seen", "insert", "(III)V"⟩, ⟨"FrozenTrees$Seen", "holdsFrom", "(IILFrozenTrees$World;)I"⟩, ⟨"FrozenTrees$Shapes", "forget", "()V"⟩, ⟨"FrozenTrees$Shapes", "giveLabels", "(LFrozenTrees$World;)V"⟩, ⟨"FrozenTrees$Shapes", "labelOf", "(I)I"⟩, ⟨"FrozenTrees$Shapes", "firstLike", "(I)I"⟩, ⟨"FrozenTrees$Shapes", "mostSeen", "()I"⟩, ⟨"FrozenTrees$Shapes", "learn", "()V"⟩, ⟨"FrozenTrees$Shapes", "areSame", "([J[J)Z"⟩, ⟨"FrozenTrees$Shapes", "draw", "(LFrozenTrees$World;[J)V"⟩, ⟨"FrozenTrees$Shapes", "drawProcess", "(LFrozenTrees$World;I)J"⟩, ⟨"FrozenTrees$Shapes", "drawObject", "(LFrozenTrees$World;I)J"⟩, ⟨"FrozenTrees$Story", "events", "()I"⟩, ⟨"FrozenTrees$Story", "code", "(I)I"⟩, ⟨"FrozenTrees$Story", "add", "(I)V"⟩, ⟨"FrozenTrees$Story", "clear", "()V"⟩, ⟨"FrozenTrees$Story", "become", "(LFrozenTrees$Story;)V"⟩, ⟨"FrozenTrees$Tape", "put", "(I)V"⟩, ⟨"FrozenTrees$Tape", "sign", "(I)I"⟩],
  [⟨"FrozenTrees$World", "begin", "()V"⟩, ⟨"FrozenTrees$World", "take", "(LFrozenTrees$World;)V"⟩, ⟨"FrozenTrees$World", "clean", "()V"⟩, ⟨"FrozenTrees$World", "lives", "(I)Z"⟩, ⟨"FrozenTrees$World", "hangsFrom", "(I)I"⟩, ⟨"FrozenTrees$World", "stepsUp", "(I)I"⟩, ⟨"FrozenTrees$World", "isBelow", "(II)Z"⟩, ⟨"FrozenTrees$World", "countBelow", "(I)I"⟩, ⟨"FrozenTrees$World", "objectOf", "(II)I"⟩, ⟨"FrozenTrees$World", "holdersOf", "(I)I"⟩, ⟨"FrozenTrees$World", "bytesOf", "(I)I"⟩, ⟨"FrozenTrees$World", "readEndOf", "(I)I"⟩, ⟨"FrozenTrees$World", "otherEnd", "(I)I"⟩, ⟨"FrozenTrees$World", "act", "(II)I"⟩, ⟨"FrozenTrees$World", "fork", "(II)I"⟩, ⟨"FrozenTrees$World", "lead", "(I)I"⟩, ⟨"FrozenTrees$World", "exit", "(II)I"⟩, ⟨"FrozenTrees$World", "newParent", "(IIII)I"⟩, ⟨"FrozenTrees$World", "open", "(II)I"⟩, ⟨"FrozenTrees$World", "pipe", "(III)I"⟩],
  [⟨"FrozenTrees$World", "copy", "(III)I"⟩, ⟨"FrozenTrees$World", "close", "(II)I"⟩, ⟨"FrozenTrees$World", "pour", "(II)I"⟩, ⟨"FrozenTrees$World", "drain", "(II)I"⟩, ⟨"FrozenTrees$World", "newObject", "(I)I"⟩, ⟨"FrozenTrees$World", "hold", "(III)V"⟩, ⟨"FrozenTrees", "feed", "(IIIII)I"⟩, ⟨"FrozenTrees", "end", "(I)I"⟩, ⟨"FrozenTrees", "system", "()I"⟩, ⟨"FrozenTrees", "fault", "(I)I"⟩, ⟨"FrozenTrees", "event", "(II)I"⟩, ⟨"FrozenTrees", "refused", "(I)I"⟩, ⟨"FrozenTrees", "refusals", "(I)I"⟩, ⟨"FrozenTrees", "alive", "(I)I"⟩, ⟨"FrozenTrees", "parent", "(II)I"⟩, ⟨"FrozenTrees", "session", "(II)I"⟩, ⟨"FrozenTrees", "kids", "(II)I"⟩, ⟨"FrozenTrees", "under", "(II)I"⟩, ⟨"FrozenTrees", "depth", "(II)I"⟩, ⟨"FrozenTrees", "members", "(II)I"⟩],
  [⟨"FrozenTrees", "sessions", "(I)I"⟩, ⟨"FrozenTrees", "born", "(I)I"⟩, ⟨"FrozenTrees", "died", "(I)I"⟩, ⟨"FrozenTrees", "object", "(III)I"⟩, ⟨"FrozenTrees", "handles", "(II)I"⟩, ⟨"FrozenTrees", "holds", "(II)I"⟩, ⟨"FrozenTrees", "kind", "(II)I"⟩, ⟨"FrozenTrees", "objects", "(I)I"⟩, ⟨"FrozenTrees", "queued", "(II)I"⟩, ⟨"FrozenTrees", "bytes", "(I)I"⟩, ⟨"FrozenTrees", "label", "(III)I"⟩, ⟨"FrozenTrees", "sharers", "(III)I"⟩, ⟨"FrozenTrees", "alike", "(II)I"⟩, ⟨"FrozenTrees", "same", "(I)I"⟩, ⟨"FrozenTrees", "shapes", "()I"⟩, ⟨"FrozenTrees", "usual", "()I"⟩, ⟨"FrozenTrees", "how", "(II)I"⟩, ⟨"FrozenTrees", "lost", "(I)I"⟩, ⟨"FrozenTrees", "steps", "(I)I"⟩, ⟨"FrozenTrees", "raised", "(II)I"⟩],
  [⟨"FrozenTrees", "helpers", "(I)I"⟩, ⟨"FrozenTrees", "safe", "()I"⟩, ⟨"FrozenTrees", "dirty", "(III)I"⟩, ⟨"FrozenTrees", "round", "(IIII)I"⟩, ⟨"FrozenTrees", "copied", "(III)I"⟩, ⟨"FrozenTrees", "pace", "(II)I"⟩, ⟨"FrozenTrees", "spare", "()I"⟩, ⟨"FrozenTrees", "root", "()I"⟩, ⟨"FrozenTrees", "may", "(I)I"⟩, ⟨"FrozenTrees", "which", "(I)I"⟩, ⟨"FrozenTrees", "plain", "(I)I"⟩, ⟨"FrozenTrees", "laws", "(I)I"⟩, ⟨"FrozenTrees", "by", "(I)I"⟩, ⟨"FrozenTrees", "law", "()I"⟩, ⟨"FrozenTrees", "worth", "(I)I"⟩, ⟨"FrozenTrees", "share", "(II)I"⟩, ⟨"FrozenTrees", "rests", "(II)I"⟩, ⟨"FrozenTrees", "gets", "(IIII)I"⟩, ⟨"FrozenTrees", "chance", "(III)J"⟩, ⟨"FrozenTrees", "mean", "(II)J"⟩],
  [⟨"FrozenTrees", "does", "(IIII)I"⟩, ⟨"FrozenTrees", "undo", "()I"⟩, ⟨"FrozenTrees", "anew", "()I"⟩, ⟨"FrozenTrees", "drawn", "(II)I"⟩, ⟨"FrozenTrees", "luck", "(III)I"⟩, ⟨"FrozenTrees", "count", "(I)I"⟩, ⟨"FrozenTrees", "image", "(I)I"⟩, ⟨"FrozenTrees", "back", "(I)I"⟩, ⟨"FrozenTrees", "row", "(III)I"⟩, ⟨"FrozenTrees", "write", "(IIJ)I"⟩, ⟨"FrozenTrees", "paste", "(IIIII)I"⟩, ⟨"FrozenTrees", "noSystem", "()Z"⟩, ⟨"FrozenTrees", "noTick", "(I)Z"⟩, ⟨"FrozenTrees", "noProcess", "(I)Z"⟩, ⟨"FrozenTrees", "noHandle", "(II)Z"⟩, ⟨"FrozenTrees", "noObject", "(I)Z"⟩, ⟨"FrozenTrees", "noSlot", "(I)Z"⟩, ⟨"FrozenTrees", "noSeed", "(I)Z"⟩, ⟨"FrozenTrees", "noPair", "(II)Z"⟩, ⟨"FrozenTrees", "noPrecopy", "(III)Z"⟩],
  [⟨"FrozenTrees", "noChance", "(II)Z"⟩, ⟨"FrozenTrees", "bit", "(I)I"⟩, ⟨"FrozenTrees", "rowsThere", "()I"⟩, ⟨"FrozenTrees", "forgetRuns", "()V"⟩, ⟨"FrozenTrees", "firstTickOf", "(IZI)I"⟩, ⟨"FrozenTrees", "runTrial", "(II)I"⟩, ⟨"FrozenTrees", "lostBy", "(I)I"⟩, ⟨"FrozenTrees", "lookAt", "(I)I"⟩, ⟨"FrozenTrees", "isAsSeen", "(II)Z"⟩, ⟨"FrozenTrees", "worthOf", "(I)I"⟩, ⟨"FrozenTrees", "payOf", "(IIIIZ)I"⟩, ⟨"FrozenTrees", "weigh", "(II)J"⟩, ⟨"FrozenTrees", "tensOf", "(I)J"⟩, ⟨"FrozenTrees", "lowestTerms", "(JJI)J"⟩, ⟨"FrozenTrees", "runDrawn", "(J)I"⟩, ⟨"FrozenTreesModel", "in", "(JJJ)Z"⟩, ⟨"FrozenTreesModel", "bits", "(I)I"⟩, ⟨"FrozenTreesModel", "bit", "(II)I"⟩, ⟨"FrozenTreesModel", "image", "(I)I"⟩, ⟨"FrozenTreesModel", "back", "(I)I"⟩],
  [⟨"FrozenTreesModel", "isSystem", "()Z"⟩, ⟨"FrozenTreesModel", "eventMany", "()I"⟩, ⟨"FrozenTreesModel", "isEvent", "(I)Z"⟩, ⟨"FrozenTreesModel", "isTick", "(J)Z"⟩, ⟨"FrozenTreesModel", "isProcess", "(J)Z"⟩, ⟨"FrozenTreesModel", "isHandle", "(I)Z"⟩, ⟨"FrozenTreesModel", "isObject", "(I)Z"⟩, ⟨"FrozenTreesModel", "of", "(II)I"⟩, ⟨"FrozenTreesModel", "greatest", "(II)I"⟩, ⟨"FrozenTreesModel", "smallest", "(II)I"⟩, ⟨"FrozenTreesModel", "feed", "(IIIII)I"⟩, ⟨"FrozenTreesModel", "end", "(I)I"⟩, ⟨"FrozenTreesModel", "see", "(I)I"⟩, ⟨"FrozenTreesModel", "advance", "()V"⟩, ⟨"FrozenTreesModel", "good", "()Z"⟩, ⟨"FrozenTreesModel", "errs", "(I)V"⟩, ⟨"FrozenTreesModel", "is", "(Ljava/lang/String;)Z"⟩, ⟨"FrozenTreesModel", "takes", "(Ljava/lang/String;)Z"⟩, ⟨"FrozenTreesModel", "expects", "(Ljava/lang/String;)V"⟩, ⟨"FrozenTreesModel", "number", "(II)I"⟩],
  [⟨"FrozenTreesModel", "toldBy", "(Ljava/lang/String;II)I"⟩, ⟨"FrozenTreesModel", "fault", "(I)I"⟩, ⟨"FrozenTreesModel", "kindWord", "()I"⟩, ⟨"FrozenTreesModel", "readFirst", "()V"⟩, ⟨"FrozenTreesModel", "readNext", "()V"⟩, ⟨"FrozenTreesModel", "readLine", "()V"⟩, ⟨"FrozenTreesModel", "system", "()I"⟩, ⟨"FrozenTreesModel", "event", "(II)I"⟩, ⟨"FrozenTreesModel", "layEvent", "(IIII)V"⟩, ⟨"FrozenTreesModel", "asItIs", "()V"⟩, ⟨"FrozenTreesModel", "objectOf", "(II)I"⟩, ⟨"FrozenTreesModel", "isHeld", "(I)Z"⟩, ⟨"FrozenTreesModel", "handleWhy", "(IIII)I"⟩, ⟨"FrozenTreesModel", "pipeWhy", "(IIII)I"⟩, ⟨"FrozenTreesModel", "whyOf", "(I)I"⟩, ⟨"FrozenTreesModel", "hangsBy", "([IIII)Z"⟩, ⟨"FrozenTreesModel", "newParent", "(III)I"⟩, ⟨"FrozenTreesModel", "exit", "(I)V"⟩, ⟨"FrozenTreesModel", "fork", "(II)V"⟩, ⟨"FrozenTreesModel", "makes", "(I)I"⟩],
  [⟨"FrozenTreesModel", "applies", "(I)V"⟩, ⟨"FrozenTreesModel", "keepTick", "(I)V"⟩, ⟨"FrozenTreesModel", "begins", "()V"⟩, ⟨"FrozenTreesModel", "goAll", "()V"⟩, ⟨"FrozenTreesModel", "asks", "()Z"⟩, ⟨"FrozenTreesModel", "asksTick", "(I)Z"⟩, ⟨"FrozenTreesModel", "asksOne", "(II)Z"⟩, ⟨"FrozenTreesModel", "isAlive", "(II)Z"⟩, ⟨"FrozenTreesModel", "parentOf", "(II)I"⟩, ⟨"FrozenTreesModel", "sessionOf", "(II)I"⟩, ⟨"FrozenTreesModel", "aliveMany", "(I)I"⟩, ⟨"FrozenTreesModel", "refused", "(I)I"⟩, ⟨"FrozenTreesModel", "refusals", "(I)I"⟩, ⟨"FrozenTreesModel", "alive", "(I)I"⟩, ⟨"FrozenTreesModel", "parent", "(II)I"⟩, ⟨"FrozenTreesModel", "session", "(II)I"⟩, ⟨"FrozenTreesModel", "kids", "(II)I"⟩, ⟨"FrozenTreesModel", "underOf", "(II)I"⟩, ⟨"FrozenTreesModel", "under", "(II)I"⟩, ⟨"FrozenTreesModel", "depth", "(II)I"⟩],
  [⟨"FrozenTreesModel", "membersOf", "(II)I"⟩, ⟨"FrozenTreesModel", "members", "(II)I"⟩, ⟨"FrozenTreesModel", "sessions", "(I)I"⟩, ⟨"FrozenTreesModel", "bornOf", "(I)I"⟩, ⟨"FrozenTreesModel", "born", "(I)I"⟩, ⟨"FrozenTreesModel", "died", "(I)I"⟩, ⟨"FrozenTreesModel", "heldBy", "(III)I"⟩, ⟨"FrozenTreesModel", "holdsOf", "(II)I"⟩, ⟨"FrozenTreesModel", "object", "(III)I"⟩, ⟨"FrozenTreesModel", "handles", "(II)I"⟩, ⟨"FrozenTreesModel", "holds", "(II)I"⟩, ⟨"FrozenTreesModel", "kind", "(II)I"⟩, ⟨"FrozenTreesModel", "objects", "(I)I"⟩, ⟨"FrozenTreesModel", "queuedOf", "(II)I"⟩, ⟨"FrozenTreesModel", "queued", "(II)I"⟩, ⟨"FrozenTreesModel", "bytes", "(I)I"⟩, ⟨"FrozenTreesModel", "layLabels", "(I)V"⟩, ⟨"FrozenTreesModel", "label", "(III)I"⟩, ⟨"FrozenTreesModel", "sharers", "(III)I"⟩, ⟨"FrozenTreesModel", "layShape", "(I)V"⟩],
  [⟨"FrozenTreesModel", "isAlike", "(II)Z"⟩, ⟨"FrozenTreesModel", "asksShapes", "()Z"⟩, ⟨"FrozenTreesModel", "sameOf", "(I)I"⟩, ⟨"FrozenTreesModel", "alike", "(II)I"⟩, ⟨"FrozenTreesModel", "same", "(I)I"⟩, ⟨"FrozenTreesModel", "shapes", "()I"⟩, ⟨"FrozenTreesModel", "usual", "()I"⟩, ⟨"FrozenTreesModel", "howOf", "(II)I"⟩, ⟨"FrozenTreesModel", "raise", "(II)V"⟩, ⟨"FrozenTreesModel", "nextRaised", "(I)I"⟩, ⟨"FrozenTreesModel", "raiseAll", "(I)V"⟩, ⟨"FrozenTreesModel", "asksRaised", "(I)Z"⟩, ⟨"FrozenTreesModel", "lostOf", "(I)I"⟩, ⟨"FrozenTreesModel", "how", "(II)I"⟩, ⟨"FrozenTreesModel", "lost", "(I)I"⟩, ⟨"FrozenTreesModel", "steps", "(I)I"⟩, ⟨"FrozenTreesModel", "raised", "(II)I"⟩, ⟨"FrozenTreesModel", "helpers", "(I)I"⟩, ⟨"FrozenTreesModel", "safe", "()I"⟩, ⟨"FrozenTreesModel", "dirtyIn", "(III)I"⟩],
  [⟨"FrozenTreesModel", "dirty", "(III)I"⟩, ⟨"FrozenTreesModel", "copiedIn", "(II)I"⟩, ⟨"FrozenTreesModel", "lastRound", "(III)I"⟩, ⟨"FrozenTreesModel", "roundOf", "(IIII)I"⟩, ⟨"FrozenTreesModel", "copiedAll", "(III)I"⟩, ⟨"FrozenTreesModel", "asksCopy", "(II)Z"⟩, ⟨"FrozenTreesModel", "round", "(IIII)I"⟩, ⟨"FrozenTreesModel", "copied", "(III)I"⟩, ⟨"FrozenTreesModel", "pace", "(II)I"⟩, ⟨"FrozenTreesModel", "goWithout", "(I)V"⟩, ⟨"FrozenTreesModel", "spare", "()I"⟩, ⟨"FrozenTreesModel", "refusedBut", "(I)I"⟩, ⟨"FrozenTreesModel", "root", "()I"⟩, ⟨"FrozenTreesModel", "numberAt", "(II)J"⟩, ⟨"FrozenTreesModel", "askSeen", "(I)I"⟩, ⟨"FrozenTreesModel", "isSeen", "(I)Z"⟩, ⟨"FrozenTreesModel", "layMay", "(I)I"⟩, ⟨"FrozenTreesModel", "may", "(I)I"⟩, ⟨"FrozenTreesModel", "which", "(I)I"⟩, ⟨"FrozenTreesModel", "plain", "(I)I"⟩],
  [⟨"FrozenTreesModel", "laws", "(I)I"⟩, ⟨"FrozenTreesModel", "lostByLaw", "(I)I"⟩, ⟨"FrozenTreesModel", "by", "(I)I"⟩, ⟨"FrozenTreesModel", "law", "()I"⟩, ⟨"FrozenTreesModel", "worthOf", "(I)I"⟩, ⟨"FrozenTreesModel", "worth", "(I)I"⟩, ⟨"FrozenTreesModel", "factorial", "(I)I"⟩, ⟨"FrozenTreesModel", "divisor", "(JJ)J"⟩, ⟨"FrozenTreesModel", "part", "(JJI)J"⟩, ⟨"FrozenTreesModel", "share", "(II)I"⟩, ⟨"FrozenTreesModel", "getsBy", "(IIIII)I"⟩, ⟨"FrozenTreesModel", "areTwo", "(II)Z"⟩, ⟨"FrozenTreesModel", "rests", "(II)I"⟩, ⟨"FrozenTreesModel", "gets", "(IIII)I"⟩, ⟨"FrozenTreesModel", "layChance", "(II)V"⟩, ⟨"FrozenTreesModel", "isChance", "(II)Z"⟩, ⟨"FrozenTreesModel", "chance", "(III)J"⟩, ⟨"FrozenTreesModel", "mean", "(II)J"⟩, ⟨"FrozenTreesModel", "isNumber", "(III)Z"⟩, ⟨"FrozenTreesModel", "does", "(IIII)I"⟩],
  [⟨"FrozenTreesModel", "undo", "()I"⟩, ⟨"FrozenTreesModel", "anew", "()I"⟩, ⟨"FrozenTreesModel", "goDrawn", "(J)I"⟩, ⟨"FrozenTreesModel", "isSeed", "(I)Z"⟩, ⟨"FrozenTreesModel", "drawn", "(II)I"⟩, ⟨"FrozenTreesModel", "luck", "(III)I"⟩, ⟨"FrozenTreesModel", "count", "(I)I"⟩, ⟨"FrozenTreesModel", "isSlot", "(I)Z"⟩, ⟨"FrozenTreesModel", "clipped", "(JI)J"⟩, ⟨"FrozenTreesModel", "row", "(III)I"⟩, ⟨"FrozenTreesModel", "write", "(IIJ)I"⟩, ⟨"FrozenTreesModel", "paste", "(IIIII)I"⟩, ⟨"java/lang/Integer", "bitCount", "(I)I"⟩, ⟨"java/lang/String", "length", "()I"⟩, ⟨"java/lang/String", "charAt", "(I)C"⟩, ⟨"java/lang/String", "coder", "()B"⟩, ⟨"java/lang/String", "isLatin1", "()Z"⟩, ⟨"java/lang/String", "checkIndex", "(II)V"⟩, ⟨"java/lang/StringLatin1", "charAt", "([BI)C"⟩, ⟨"java/util/Arrays", "fill", "([JJ)V"⟩],
  [⟨"java/util/Arrays", "fill", "([II)V"⟩, ⟨"jdk/internal/util/Preconditions", "checkIndex", "(IILjava/util/function/BiFunction;)I"⟩, ⟨"FrozenTreesLaw", "law", "([I)Z"⟩]]
def px_yn (k : Nat) : MethodName := (px_yns.getD (k / 20) []).getD (k % 20) ⟨"", "", ""⟩
def px_bys : List (List ByteArray) := [[prog_2_method_2_code, prog_2_method_3_code, prog_2_method_4_code, prog_2_method_5_code, prog_2_method_6_code, prog_2_method_7_code, prog_2_method_8_code, prog_2_method_9_code, prog_2_method_10_code, prog_2_method_11_code, prog_3_method_2_code, prog_3_method_3_code, prog_3_method_4_code, prog_3_method_5_code, prog_3_method_6_code, prog_3_method_7_code, prog_4_method_2_code, prog_4_method_3_code, prog_4_method_4_code, prog_4_method_5_code],
  [prog_4_method_6_code, prog_5_method_2_code, prog_5_method_3_code, prog_5_method_4_code, prog_5_method_5_code, prog_5_method_6_code, prog_5_method_7_code, prog_5_method_8_code, prog_5_method_9_code, prog_5_method_10_code, prog_5_method_11_code, prog_5_method_12_code, prog_5_method_13_code, prog_5_method_14_code, prog_5_method_15_code, prog_5_method_16_code, prog_6_method_2_code, prog_6_method_3_code, prog_6_method_4_code, prog_6_method_5_code],
  [prog_7_method_2_code, prog_7_method_3_code, prog_7_method_4_code, prog_8_method_2_code, prog_8_method_3_code, prog_8_method_4_code, prog_8_method_5_code, prog_8_method_6_code, prog_8_method_7_code, prog_8_method_8_code, prog_8_method_9_code, prog_8_method_10_code, prog_8_method_11_code, prog_9_method_2_code, prog_9_method_3_code, prog_9_method_4_code, prog_9_method_5_code, prog_9_method_6_code, prog_10_method_2_code, prog_10_method_3_code],
  [prog_11_method_2_code, prog_11_method_3_code, prog_11_method_4_code, prog_11_method_5_code, prog_11_method_6_code, prog_11_method_7_code, prog_11_method_8_code, prog_11_method_9_code, prog_11_method_10_code, prog_11_method_11_code, prog_11_method_12_code, prog_11_method_13_code, prog_11_method_14_code, prog_11_method_15_code, prog_11_method_16_code, prog_11_method_17_code, prog_11_method_18_code, prog_11_method_19_code, prog_11_method_20_code, prog_11_method_21_code],
  [prog_11_method_22_code, prog_11_method_23_code, prog_11_method_24_code, prog_11_method_25_code, prog_11_method_26_code, prog_11_method_27_code, prog_1_method_2_code, prog_1_method_3_code, prog_1_method_4_code, prog_1_method_5_code, prog_1_method_6_code, prog_1_method_7_code, prog_1_method_8_code, prog_1_method_9_code, prog_1_method_10_code, prog_1_method_11_code, prog_1_method_12_code, prog_1_method_13_code, prog_1_method_14_code, prog_1_method_15_code],
  [prog_1_method_16_code, prog_1_method_17_code, prog_1_method_18_code, prog_1_method_19_code, prog_1_method_20_code, prog_1_method_21_code, prog_1_method_22_code, prog_1_method_23_code, prog_1_method_24_code, prog_1_method_25_code, prog_1_method_26_code, prog_1_method_27_code, prog_1_method_28_code, prog_1_method_29_code, prog_1_method_30_code, prog_1_method_31_code, prog_1_method_32_code, prog_1_method_33_code, prog_1_method_34_code, prog_1_method_35_code],
  [prog_1_method_36_code, prog_1_method_37_code, prog_1_method_38_code, prog_1_method_39_code, prog_1_method_40_code, prog_1_method_41_code, prog_1_method_42_code, prog_1_method_43_code, prog_1_method_44_code, prog_1_method_45_code, prog_1_method_46_code, prog_1_method_47_code, prog_1_method_48_code, prog_1_method_49_code, prog_1_method_50_code, prog_1_method_51_code, prog_1_method_52_code, prog_1_method_53_code, prog_1_method_54_code, prog_1_method_55_code],
  [prog_1_method_56_code, prog_1_method_57_code, prog_1_method_58_code, prog_1_method_59_code, prog_1_method_60_code, prog_1_method_61_code, prog_1_method_62_code, prog_1_method_63_code, prog_1_method_64_code, prog_1_method_65_code, prog_1_method_66_code, prog_1_method_67_code, prog_1_method_68_code, prog_1_method_69_code, prog_1_method_70_code, prog_1_method_71_code, prog_1_method_72_code, prog_1_method_73_code, prog_1_method_74_code, prog_1_method_75_code],
  [prog_1_method_76_code, prog_1_method_77_code, prog_1_method_78_code, prog_1_method_79_code, prog_1_method_80_code, prog_1_method_81_code, prog_1_method_82_code, prog_1_method_83_code, prog_1_method_84_code, prog_1_method_85_code, prog_1_method_86_code, prog_1_method_87_code, prog_1_method_88_code, prog_1_method_89_code, prog_1_method_90_code, prog_13_method_3_code, prog_13_method_4_code, prog_13_method_5_code, prog_13_method_6_code, prog_13_method_7_code],
  [prog_13_method_8_code, prog_13_method_9_code, prog_13_method_10_code, prog_13_method_11_code, prog_13_method_12_code, prog_13_method_13_code, prog_13_method_14_code, prog_13_method_15_code, prog_13_method_16_code, prog_13_method_17_code, prog_13_method_18_code, prog_13_method_19_code, prog_13_method_20_code, prog_13_method_21_code, prog_13_method_22_code, prog_13_method_23_code, prog_13_method_24_code, prog_13_method_25_code, prog_13_method_26_code, prog_13_method_27_code],
  [prog_13_method_28_code, prog_13_method_29_code, prog_13_method_30_code, prog_13_method_31_code, prog_13_method_32_code, prog_13_method_33_code, prog_13_method_34_code, prog_13_method_35_code, prog_13_method_36_code, prog_13_method_37_code, prog_13_method_38_code, prog_13_method_39_code, prog_13_method_40_code, prog_13_method_41_code, prog_13_method_42_code, prog_13_method_43_code, prog_13_method_44_code, prog_13_method_45_code, prog_13_method_46_code, prog_13_method_47_code],
  [prog_13_method_48_code, prog_13_method_49_code, prog_13_method_50_code, prog_13_method_51_code, prog_13_method_52_code, prog_13_method_53_code, prog_13_method_54_code, prog_13_method_55_code, prog_13_method_56_code, prog_13_method_57_code, prog_13_method_58_code, prog_13_method_59_code, prog_13_method_60_code, prog_13_method_61_code, prog_13_method_62_code, prog_13_method_63_code, prog_13_method_64_code, prog_13_method_65_code, prog_13_method_66_code, prog_13_method_67_code],
  [prog_13_method_68_code, prog_13_method_69_code, prog_13_method_70_code, prog_13_method_71_code, prog_13_method_72_code, prog_13_method_73_code, prog_13_method_74_code, prog_13_method_75_code, prog_13_method_76_code, prog_13_method_77_code, prog_13_method_78_code, prog_13_method_79_code, prog_13_method_80_code, prog_13_method_81_code, prog_13_method_82_code, prog_13_method_83_code, prog_13_method_84_code, prog_13_method_85_code, prog_13_method_86_code, prog_13_method_87_code],
  [prog_13_method_88_code, prog_13_method_89_code, prog_13_method_90_code, prog_13_method_91_code, prog_13_method_92_code, prog_13_method_93_code, prog_13_method_94_code, prog_13_method_95_code, prog_13_method_96_code, prog_13_method_97_code, prog_13_method_98_code, prog_13_method_99_code, prog_13_method_100_code, prog_13_method_101_code, prog_13_method_102_code, prog_13_method_103_code, prog_13_method_104_code, prog_13_method_105_code, prog_13_method_106_code, prog_13_method_107_code],
  [prog_13_method_108_code, prog_13_method_109_code, prog_13_method_110_code, prog_13_method_111_code, prog_13_method_112_code, prog_13_method_113_code, prog_13_method_114_code, prog_13_method_115_code, prog_13_method_116_code, prog_13_method_117_code, prog_13_method_118_code, prog_13_method_119_code, prog_13_method_120_code, prog_13_method_121_code, prog_13_method_122_code, prog_13_method_123_code, prog_13_method_124_code, prog_13_method_125_code, prog_13_method_126_code, prog_13_method_127_code],
  [prog_13_method_128_code, prog_13_method_129_code, prog_13_method_130_code, prog_13_method_131_code, prog_13_method_132_code, prog_13_method_133_code, prog_13_method_134_code, prog_13_method_135_code, prog_13_method_136_code, prog_13_method_137_code, prog_13_method_138_code, prog_13_method_139_code, prog_13_method_140_code, prog_13_method_141_code, prog_13_method_142_code, prog_13_method_143_code, prog_13_method_144_code, prog_13_method_145_code, prog_13_method_146_code, prog_13_method_147_code],
  [prog_13_method_148_code, prog_13_method_149_code, prog_13_method_150_code, prog_13_method_151_code, prog_13_method_152_code, prog_13_method_153_code, prog_13_method_154_code, prog_13_method_155_code, prog_13_method_156_code, prog_13_method_157_code, prog_13_method_158_code, prog_13_method_159_code, prog_14_method_49_code, prog_16_method_54_code, prog_16_method_56_code, prog_16_method_152_code, prog_16_method_154_code, prog_16_method_155_code, prog_17_method_2_code, prog_20_method_101_code],
  [prog_20_method_103_code, prog_21_method_11_code, code]]
def px_by (k : Nat) : ByteArray := (px_bys.getD (k / 20) []).getD (k % 20) ⟨#[]⟩
def px_mes : List (List (Nat × Nat × Nat × Nat × Nat × Nat × List Nat × List Nat)) := [[(0, 4, 1, 1, 21, 4, [], [1173, 1172, 0, 144]), (0, 2, 1, 0, 0, 2, [], [640, 639, 0, 144]), (0, 1, 1, 0, 0, 1, [], [685, 684, 0, 144]), (0, 2, 1, 0, 0, 2, [], [689, 688, 0, 144]), (0, 1, 1, 0, 0, 1, [], [625, 624, 0, 144]), (0, 2, 1, 1, 21, 2, [], [630, 629, 0, 144]), (0, 2, 1, 1, 21, 2, [], [637, 636, 0, 144]), (0, 2, 2, 0, 0, 2, [], [634, 633, 0, 144]), (0, 3, 2, 2, 42, 3, [], [1206, 1205, 0, 144]), (0, 1, 7, 0, 0, 1, [], [611, 610, 0, 144]), (1, 1, 0, 2, 43, 1, [], [663, 661, 662, 133]), (1, 2, 4, 4, 100, 2, [], [704, 702, 703, 133]), (1, 2, 1, 5, 121, 2, [], [697, 695, 696, 133]), (1, 4, 1, 5, 121, 2, [], [800, 798, 799, 133]), (1, 7, 0, 5, 121, 5, [], [1049, 1047, 1048, 133]), (1, 3, 1, 1, 21, 1, [], [1056, 1055, 36, 133]), (2, 3, 0, 3, 65, 2, [], [991, 989, 990, 137]), (2, 4, 1, 0, 0, 2, [], [1017, 1015, 1016, 137]), (2, 3, 0, 1, 20, 3, [], [996, 995, 32, 137]), (2, 4, 0, 2, 42, 2, [], [1001, 1000, 33, 137])],
  [(2, 5, 1, 0, 0, 3, [], [1005, 1004, 34, 137]), (3, 3, 0, 7, 152, 2, [], [493, 491, 492, 129]), (3, 2, 0, 6, 128, 2, [], [529, 528, 3, 129]), (3, 5, 0, 6, 128, 2, [], [604, 603, 9, 129]), (3, 2, 1, 5, 107, 1, [], [608, 607, 10, 129]), (3, 4, 1, 3, 61, 3, [], [595, 594, 7, 129]), (3, 2, 0, 5, 107, 2, [], [534, 533, 4, 129]), (3, 1, 0, 3, 61, 1, [], [600, 599, 8, 129]), (3, 2, 0, 0, 0, 2, [], [590, 589, 6, 129]), (3, 3, 2, 4, 85, 2, [], [538, 537, 5, 129]), (3, 1, 0, 2, 41, 1, [], [501, 500, 0, 129]), (3, 1, 0, 1, 21, 1, [], [515, 514, 1, 129]), (3, 1, 0, 1, 21, 1, [], [522, 521, 2, 129]), (3, 1, 2, 0, 0, 1, [], [508, 507, 0, 129]), (3, 1, 2, 0, 0, 1, [], [511, 510, 0, 129]), (3, 1, 2, 0, 0, 1, [], [518, 517, 0, 129]), (4, 3, 0, 1, 24, 3, [], [1261, 1259, 1260, 131]), (4, 4, 0, 1, 22, 3, [2], [1270, 1268, 1269, 131]), (4, 3, 3, 0, 0, 2, [1], [1274, 1273, 48, 131]), (4, 3, 2, 0, 0, 3, [], [1282, 1280, 1281, 131])],
  [(5, 10, 2, 1, 24, 3, [4, 6, 8], [1094, 1092, 1093, 132]), (5, 5, 0, 0, 0, 4, [], [1100, 1099, 39, 132]), (5, 5, 1, 2, 42, 4, [], [1108, 1106, 1107, 132]), (6, 1, 0, 0, 0, 1, [], [668, 666, 667, 136]), (6, 5, 0, 1, 23, 2, [], [913, 911, 912, 136]), (6, 2, 1, 0, 0, 2, [], [919, 917, 918, 136]), (6, 2, 1, 0, 0, 2, [], [967, 965, 966, 136]), (6, 3, 1, 1, 23, 1, [], [983, 981, 982, 136]), (6, 2, 0, 5, 121, 1, [], [935, 933, 934, 136]), (6, 3, 2, 0, 0, 2, [], [963, 962, 0, 136]), (6, 4, 0, 3, 68, 3, [], [941, 940, 29, 136]), (6, 6, 3, 1, 23, 3, [3], [950, 949, 30, 136]), (6, 6, 3, 2, 43, 3, [3], [955, 954, 31, 136]), (7, 1, 1, 0, 0, 1, [], [648, 646, 647, 130]), (7, 2, 1, 0, 0, 2, [], [682, 680, 681, 130]), (7, 2, 0, 1, 20, 2, [], [644, 642, 643, 130]), (7, 1, 0, 0, 0, 1, [], [497, 495, 496, 130]), (7, 2, 0, 1, 26, 2, [], [652, 650, 651, 130]), (8, 3, 0, 0, 0, 2, [], [481, 479, 480, 128]), (8, 2, 1, 0, 0, 2, [], [505, 503, 504, 128])],
  [(9, 1, 0, 1, 23, 1, [], [302, 300, 301, 134]), (9, 2, 0, 1, 26, 2, [], [1169, 1167, 1168, 134]), (9, 1, 0, 1, 23, 1, [], [1037, 1035, 1036, 134]), (9, 2, 2, 0, 0, 2, [], [716, 714, 715, 134]), (9, 2, 1, 1, 21, 2, [], [743, 741, 742, 134]), (9, 4, 1, 0, 0, 2, [], [839, 837, 838, 134]), (9, 5, 2, 0, 0, 3, [], [751, 750, 17, 134]), (9, 4, 1, 1, 24, 2, [], [831, 829, 830, 134]), (9, 4, 1, 0, 0, 3, [], [727, 725, 726, 134]), (9, 4, 1, 1, 20, 2, [], [927, 925, 926, 134]), (9, 3, 1, 1, 21, 2, [], [900, 898, 899, 134]), (9, 2, 1, 0, 0, 2, [], [779, 778, 24, 134]), (9, 3, 1, 1, 21, 2, [], [959, 957, 958, 134]), (9, 7, 1, 3, 74, 3, [], [710, 708, 709, 134]), (9, 4, 1, 1, 24, 3, [], [720, 719, 12, 134]), (9, 2, 1, 0, 0, 2, [], [735, 734, 14, 134]), (9, 5, 1, 2, 50, 3, [], [739, 738, 15, 134]), (9, 7, 1, 1, 24, 5, [], [747, 746, 16, 134]), (9, 3, 1, 1, 24, 3, [], [755, 754, 18, 134]), (9, 4, 1, 1, 24, 4, [], [763, 762, 20, 134])],
  [(9, 4, 1, 1, 24, 4, [], [767, 766, 21, 134]), (9, 3, 1, 1, 24, 3, [], [771, 770, 22, 134]), (9, 4, 1, 1, 21, 3, [], [775, 774, 23, 134]), (9, 4, 1, 1, 21, 3, [], [783, 782, 25, 134]), (9, 2, 1, 0, 0, 2, [], [759, 758, 19, 134]), (9, 5, 0, 0, 0, 4, [], [731, 730, 13, 134]), (10, 6, 1, 1, 22, 6, [], [477, 475, 476, 127]), (10, 2, 1, 0, 0, 2, [], [485, 483, 484, 127]), (10, 1, 1, 8, 174, 1, [], [489, 487, 488, 127]), (10, 2, 1, 0, 0, 2, [], [673, 671, 672, 127]), (10, 5, 1, 1, 21, 3, [], [677, 675, 676, 127]), (10, 2, 1, 6, 142, 2, [], [693, 691, 692, 127]), (10, 2, 1, 6, 144, 2, [], [788, 786, 787, 127]), (10, 2, 1, 5, 121, 2, [], [804, 802, 803, 127]), (10, 3, 1, 5, 121, 3, [], [809, 807, 808, 127]), (10, 4, 1, 5, 121, 3, [], [817, 815, 816, 127]), (10, 6, 1, 5, 121, 3, [], [822, 820, 821, 127]), (10, 3, 1, 5, 121, 3, [], [827, 825, 826, 127]), (10, 4, 1, 5, 121, 3, [], [835, 833, 834, 127]), (10, 6, 1, 5, 121, 3, [], [843, 841, 842, 127])],
  [(10, 5, 1, 5, 121, 2, [], [847, 845, 846, 127]), (10, 2, 1, 6, 145, 2, [], [857, 855, 856, 127]), (10, 3, 1, 6, 145, 2, [], [865, 863, 864, 127]), (10, 4, 1, 5, 121, 4, [], [869, 867, 868, 127]), (10, 6, 1, 5, 121, 3, [], [877, 875, 876, 127]), (10, 3, 1, 5, 121, 3, [], [881, 879, 880, 127]), (10, 4, 1, 5, 121, 3, [], [888, 886, 887, 127]), (10, 5, 1, 5, 121, 2, [], [892, 890, 891, 127]), (10, 3, 1, 5, 121, 3, [], [896, 894, 895, 127]), (10, 5, 1, 5, 121, 2, [], [904, 902, 903, 127]), (10, 5, 1, 5, 121, 4, [], [909, 907, 908, 127]), (10, 6, 1, 5, 121, 4, [], [923, 921, 922, 127]), (10, 3, 1, 6, 142, 3, [], [931, 929, 930, 127]), (10, 2, 1, 6, 142, 2, [], [971, 969, 970, 127]), (10, 3, 1, 6, 142, 1, [], [975, 973, 974, 127]), (10, 1, 1, 6, 142, 1, [], [979, 977, 978, 127]), (10, 4, 1, 5, 121, 3, [], [987, 985, 986, 127]), (10, 2, 1, 5, 121, 2, [], [1009, 1007, 1008, 127]), (10, 2, 1, 5, 121, 2, [], [1013, 1011, 1012, 127]), (10, 3, 1, 5, 121, 3, [], [1021, 1019, 1020, 127])],
  [(10, 2, 1, 5, 121, 2, [], [1025, 1023, 1024, 127]), (10, 3, 1, 5, 121, 1, [], [1029, 1027, 1028, 127]), (10, 5, 1, 5, 121, 4, [], [1033, 1031, 1032, 127]), (10, 5, 1, 6, 147, 5, [], [1041, 1039, 1040, 127]), (10, 4, 1, 6, 147, 4, [], [1061, 1059, 1060, 127]), (10, 8, 1, 6, 147, 3, [], [1065, 1063, 1064, 127]), (10, 5, 1, 5, 124, 1, [], [1069, 1067, 1068, 127]), (10, 7, 1, 6, 144, 1, [], [1079, 1077, 1078, 127]), (10, 5, 1, 5, 124, 2, [], [1083, 1081, 1082, 127]), (10, 4, 1, 5, 124, 2, [], [1113, 1111, 1112, 127]), (10, 3, 1, 5, 124, 2, [], [1117, 1115, 1116, 127]), (10, 5, 1, 5, 124, 2, [], [1121, 1119, 1120, 127]), (10, 2, 1, 6, 145, 2, [], [1125, 1123, 1124, 127]), (10, 5, 1, 6, 145, 1, [], [1133, 1131, 1132, 127]), (10, 2, 1, 5, 124, 2, [], [1137, 1135, 1136, 127]), (10, 7, 1, 5, 124, 3, [], [1145, 1143, 1144, 127]), (10, 9, 1, 6, 148, 3, [], [1158, 1156, 1157, 127]), (10, 5, 1, 6, 148, 5, [], [1178, 1176, 1177, 127]), (10, 4, 3, 6, 150, 4, [], [1182, 1180, 1181, 127]), (10, 3, 3, 6, 150, 3, [], [1199, 1197, 1198, 127])],
  [(10, 5, 1, 6, 142, 5, [], [1203, 1201, 1202, 127]), (10, 1, 1, 4, 83, 1, [], [1213, 1211, 1212, 127]), (10, 2, 1, 4, 83, 1, [], [1217, 1215, 1216, 127]), (10, 4, 1, 5, 126, 3, [], [1221, 1219, 1220, 127]), (10, 6, 1, 5, 126, 4, [], [1237, 1235, 1236, 127]), (10, 2, 1, 1, 22, 2, [], [1241, 1239, 1240, 127]), (10, 2, 1, 2, 47, 2, [], [1249, 1247, 1248, 127]), (10, 2, 1, 4, 83, 2, [], [1253, 1251, 1252, 127]), (10, 4, 1, 2, 46, 4, [], [1257, 1255, 1256, 127]), (10, 6, 1, 2, 45, 4, [3], [1266, 1264, 1265, 127]), (10, 8, 1, 1, 26, 6, [], [1278, 1276, 1277, 127]), (10, 1, 2, 0, 0, 1, [], [796, 795, 27, 127]), (10, 2, 2, 1, 20, 2, [], [792, 791, 26, 127]), (10, 1, 2, 0, 0, 1, [], [812, 811, 0, 127]), (10, 2, 2, 1, 20, 2, [], [872, 871, 0, 127]), (10, 1, 2, 0, 0, 1, [], [884, 883, 0, 127]), (10, 1, 2, 0, 0, 1, [], [1090, 1089, 0, 127]), (10, 1, 2, 0, 0, 1, [], [1224, 1223, 0, 127]), (10, 2, 2, 1, 20, 2, [], [1161, 1160, 0, 127]), (10, 4, 2, 2, 41, 4, [], [1045, 1044, 35, 127])],
  [(10, 3, 2, 1, 20, 3, [], [1186, 1185, 44, 127]), (10, 1, 1, 0, 0, 1, [], [723, 722, 0, 127]), (10, 3, 1, 0, 0, 1, [], [1245, 1244, 47, 127]), (10, 1, 0, 3, 63, 1, [], [659, 658, 11, 127]), (10, 5, 1, 5, 121, 4, [], [861, 860, 28, 127]), (10, 5, 1, 4, 100, 3, [], [1073, 1072, 37, 127]), (10, 2, 1, 5, 124, 2, [], [1129, 1128, 41, 127]), (10, 2, 1, 2, 53, 2, [], [1087, 1086, 38, 127]), (10, 5, 2, 4, 100, 3, [], [1104, 1103, 40, 127]), (10, 5, 1, 4, 100, 2, [], [1141, 1140, 42, 127]), (10, 8, 1, 5, 121, 6, [], [1165, 1164, 43, 127]), (10, 10, 3, 5, 121, 3, [4, 7], [1191, 1190, 45, 127]), (10, 4, 3, 0, 0, 1, [1], [1194, 1193, 0, 127]), (10, 12, 3, 1, 21, 3, [0, 2, 5, 7, 10], [1151, 1150, 0, 127]), (10, 7, 1, 4, 100, 2, [1, 3], [1229, 1228, 46, 127]), (11, 6, 2, 0, 0, 3, [0, 2, 4], [1473, 1472, 0, 138]), (11, 3, 1, 0, 0, 1, [], [1925, 1924, 0, 138]), (11, 2, 1, 0, 0, 2, [], [1624, 1623, 0, 138]), (11, 3, 1, 1, 25, 2, [], [1469, 1467, 1468, 138]), (11, 3, 1, 1, 25, 2, [], [1477, 1475, 1476, 138])],
  [(11, 1, 2, 0, 0, 1, [], [1668, 1667, 82, 138]), (11, 1, 1, 0, 0, 1, [], [1584, 1583, 63, 138]), (11, 2, 2, 1, 25, 2, [], [1580, 1579, 62, 138]), (11, 3, 2, 1, 25, 2, [1], [1680, 1679, 84, 138]), (11, 2, 2, 1, 25, 1, [0], [1695, 1694, 0, 138]), (11, 1, 2, 1, 25, 1, [], [1759, 1758, 0, 138]), (11, 1, 2, 1, 25, 1, [], [1775, 1774, 0, 138]), (11, 3, 1, 0, 0, 3, [], [1589, 1588, 64, 138]), (11, 2, 1, 0, 0, 2, [], [1569, 1568, 0, 138]), (11, 2, 1, 0, 0, 2, [], [1572, 1571, 0, 138]), (11, 7, 1, 0, 0, 6, [], [1481, 1479, 1480, 138]), (11, 2, 1, 1, 25, 2, [], [1485, 1483, 1484, 138]), (11, 2, 1, 0, 0, 2, [], [1501, 1500, 50, 138]), (11, 2, 0, 1, 25, 1, [], [1497, 1496, 49, 138]), (11, 1, 2, 0, 0, 1, [], [1511, 1510, 51, 138]), (11, 2, 0, 1, 20, 2, [], [1538, 1537, 57, 138]), (11, 4, 2, 4, 85, 2, [], [1532, 1531, 56, 138]), (11, 3, 2, 5, 108, 2, [], [1528, 1527, 55, 138]), (11, 2, 0, 6, 130, 2, [], [1524, 1523, 54, 138]), (11, 4, 1, 2, 46, 3, [], [1547, 1546, 59, 138])],
  [(11, 4, 1, 7, 151, 4, [], [1543, 1542, 58, 138]), (11, 2, 1, 0, 0, 2, [], [1489, 1487, 1488, 138]), (11, 1, 1, 5, 108, 1, [], [1556, 1555, 61, 138]), (11, 1, 0, 8, 174, 1, [], [1519, 1518, 53, 138]), (11, 4, 0, 6, 128, 1, [], [1552, 1551, 60, 138]), (11, 1, 0, 9, 194, 1, [], [1515, 1514, 52, 138]), (11, 2, 1, 10, 214, 1, [], [1493, 1491, 1492, 138]), (11, 3, 1, 2, 46, 3, [], [1576, 1574, 1575, 138]), (11, 5, 0, 0, 0, 5, [], [1605, 1604, 67, 138]), (11, 2, 0, 1, 24, 1, [], [1601, 1600, 66, 138]), (11, 3, 1, 0, 0, 3, [], [1632, 1631, 73, 138]), (11, 4, 2, 0, 0, 2, [], [1640, 1639, 75, 138]), (11, 6, 1, 1, 22, 5, [], [1628, 1627, 72, 138]), (11, 6, 1, 1, 23, 5, [], [1636, 1635, 74, 138]), (11, 5, 1, 2, 48, 2, [], [1621, 1620, 71, 138]), (11, 7, 2, 0, 0, 5, [], [1660, 1659, 80, 138]), (11, 6, 1, 1, 26, 4, [], [1656, 1655, 79, 138]), (11, 4, 0, 2, 51, 2, [], [1652, 1651, 78, 138]), (11, 4, 0, 1, 22, 3, [], [1648, 1647, 77, 138]), (11, 2, 1, 0, 0, 2, [], [1664, 1663, 81, 138])],
  [(11, 5, 0, 3, 74, 2, [], [1644, 1643, 76, 138]), (11, 3, 0, 0, 0, 2, [], [1617, 1616, 70, 138]), (11, 2, 0, 1, 22, 1, [], [1613, 1612, 69, 138]), (11, 2, 0, 4, 98, 1, [], [1609, 1608, 68, 138]), (11, 1, 2, 5, 119, 1, [], [1597, 1596, 65, 138]), (11, 2, 2, 6, 139, 2, [], [1676, 1675, 83, 138]), (11, 3, 2, 7, 160, 3, [], [1692, 1691, 85, 138]), (11, 3, 2, 1, 21, 3, [], [1704, 1703, 87, 138]), (11, 3, 1, 2, 43, 3, [], [1700, 1699, 86, 138]), (11, 3, 1, 2, 43, 3, [], [1712, 1711, 88, 138]), (11, 2, 1, 1, 22, 2, [], [1922, 1921, 110, 138]), (11, 2, 1, 6, 139, 2, [], [1593, 1591, 1592, 138]), (11, 4, 1, 7, 160, 2, [], [1672, 1670, 1671, 138]), (11, 2, 1, 7, 160, 2, [], [1684, 1682, 1683, 138]), (11, 3, 1, 8, 182, 3, [], [1688, 1686, 1687, 138]), (11, 3, 1, 8, 182, 3, [], [1708, 1706, 1707, 138]), (11, 5, 1, 8, 182, 3, [], [1716, 1714, 1715, 138]), (11, 5, 1, 2, 43, 3, [], [1724, 1723, 89, 138]), (11, 3, 1, 8, 182, 3, [], [1720, 1718, 1719, 138]), (11, 5, 1, 8, 182, 3, [], [1728, 1726, 1727, 138])],
  [(11, 5, 1, 3, 65, 3, [], [1736, 1735, 90, 138]), (11, 3, 1, 8, 182, 3, [], [1732, 1730, 1731, 138]), (11, 4, 1, 7, 160, 2, [], [1740, 1738, 1739, 138]), (11, 3, 1, 2, 43, 2, [], [1748, 1747, 91, 138]), (11, 2, 1, 6, 139, 2, [], [1744, 1742, 1743, 138]), (11, 3, 1, 6, 139, 2, [], [1752, 1750, 1751, 138]), (11, 4, 1, 0, 0, 4, [], [1764, 1763, 92, 138]), (11, 5, 1, 0, 0, 3, [], [1780, 1779, 93, 138]), (11, 4, 1, 8, 182, 4, [], [1756, 1754, 1755, 138]), (11, 5, 1, 8, 182, 3, [], [1768, 1766, 1767, 138]), (11, 3, 1, 7, 160, 3, [], [1772, 1770, 1771, 138]), (11, 3, 1, 7, 160, 3, [], [1784, 1782, 1783, 138]), (11, 4, 1, 7, 160, 2, [], [1788, 1786, 1787, 138]), (11, 4, 1, 1, 24, 3, [], [1796, 1795, 94, 138]), (11, 3, 1, 7, 160, 3, [], [1792, 1790, 1791, 138]), (11, 4, 1, 7, 160, 2, [], [1800, 1798, 1799, 138]), (11, 5, 0, 1, 23, 2, [], [1809, 1808, 95, 138]), (11, 4, 1, 8, 182, 4, [], [1805, 1803, 1804, 138]), (11, 8, 1, 8, 182, 4, [], [1813, 1811, 1812, 138]), (11, 7, 0, 3, 65, 2, [], [1825, 1824, 97, 138])],
  [(11, 5, 2, 0, 0, 3, [], [1829, 1828, 98, 138]), (11, 3, 2, 6, 139, 1, [], [1821, 1820, 96, 138]), (11, 3, 1, 1, 24, 2, [], [1837, 1836, 99, 138]), (11, 3, 1, 7, 161, 3, [], [1817, 1815, 1816, 138]), (11, 2, 1, 7, 161, 2, [], [1833, 1831, 1832, 138]), (11, 3, 1, 7, 161, 1, [], [1841, 1839, 1840, 138]), (11, 6, 1, 7, 161, 1, [], [1845, 1843, 1844, 138]), (11, 5, 1, 3, 65, 3, [], [1869, 1868, 104, 138]), (11, 3, 0, 0, 0, 3, [], [1861, 1860, 102, 138]), (11, 3, 1, 4, 89, 2, [], [1865, 1864, 103, 138]), (11, 3, 0, 5, 111, 2, [], [1857, 1856, 101, 138]), (11, 2, 2, 7, 160, 2, [], [1853, 1852, 100, 138]), (11, 2, 1, 6, 133, 2, [], [1877, 1876, 105, 138]), (11, 3, 1, 8, 181, 3, [], [1849, 1847, 1848, 138]), (11, 2, 1, 7, 160, 2, [], [1873, 1871, 1872, 138]), (11, 4, 1, 8, 181, 2, [], [1881, 1879, 1880, 138]), (11, 3, 1, 8, 181, 3, [], [1885, 1883, 1884, 138]), (11, 4, 1, 8, 181, 2, [], [1889, 1887, 1888, 138]), (11, 2, 1, 7, 154, 1, [], [1893, 1891, 1892, 138]), (11, 6, 1, 2, 43, 4, [], [1901, 1900, 106, 138])],
  [(11, 4, 1, 8, 182, 4, [], [1897, 1895, 1896, 138]), (11, 5, 1, 3, 68, 3, [], [1929, 1928, 111, 138]), (11, 4, 1, 0, 0, 4, [], [1914, 1913, 108, 138]), (11, 5, 1, 4, 92, 5, [], [1918, 1917, 109, 138]), (11, 6, 1, 5, 116, 4, [], [1937, 1936, 112, 138]), (11, 3, 2, 7, 160, 3, [], [1909, 1908, 107, 138]), (11, 5, 1, 8, 182, 5, [], [1905, 1903, 1904, 138]), (11, 4, 1, 8, 182, 4, [], [1933, 1931, 1932, 138]), (11, 6, 1, 8, 182, 3, [], [1941, 1939, 1940, 138]), (11, 2, 0, 5, 119, 2, [], [1949, 1948, 113, 138]), (11, 4, 1, 6, 140, 1, [], [1945, 1943, 1944, 138]), (11, 4, 1, 0, 0, 2, [], [1957, 1956, 114, 138]), (11, 6, 1, 6, 140, 1, [], [1953, 1951, 1952, 138]), (11, 3, 3, 0, 0, 3, [], [1976, 1975, 117, 138]), (11, 3, 1, 2, 47, 2, [], [1969, 1968, 116, 138]), (11, 3, 2, 3, 65, 2, [], [1981, 1980, 118, 138]), (11, 4, 1, 6, 140, 2, [], [1965, 1964, 115, 138]), (11, 3, 1, 7, 163, 2, [], [1961, 1959, 1960, 138]), (11, 3, 1, 7, 163, 2, [], [1985, 1983, 1984, 138]), (11, 3, 1, 7, 163, 2, [], [1989, 1987, 1988, 138])],
  [(11, 4, 1, 5, 119, 2, [], [1993, 1991, 1992, 138]), (11, 2, 1, 7, 154, 2, [], [2001, 2000, 119, 138]), (11, 2, 1, 8, 175, 2, [], [1997, 1995, 1996, 138]), (11, 3, 1, 8, 175, 1, [], [2005, 2003, 2004, 138]), (11, 3, 1, 5, 119, 2, [], [2014, 2013, 120, 138]), (11, 2, 1, 6, 141, 2, [], [2009, 2007, 2008, 138]), (11, 3, 1, 0, 0, 1, [], [2021, 2020, 0, 138]), (11, 10, 3, 1, 21, 2, [0, 2, 4, 6, 8], [2027, 2026, 0, 138]), (11, 5, 3, 2, 50, 3, [0, 2], [2024, 2023, 0, 138]), (11, 7, 1, 6, 141, 3, [3], [2018, 2016, 2017, 138]), (11, 9, 1, 5, 119, 6, [], [2040, 2039, 122, 138]), (11, 3, 2, 1, 25, 3, [], [2036, 2035, 121, 138]), (11, 8, 1, 6, 147, 3, [], [2032, 2030, 2031, 138]), (11, 5, 1, 6, 147, 5, [], [2044, 2042, 2043, 138]), (11, 7, 0, 5, 119, 3, [4], [2058, 2057, 124, 138]), (11, 3, 2, 1, 25, 3, [], [2052, 2051, 123, 138]), (11, 4, 3, 6, 145, 4, [], [2048, 2046, 2047, 138]), (11, 3, 3, 6, 145, 3, [], [2062, 2060, 2061, 138]), (11, 4, 2, 1, 25, 3, [], [2070, 2069, 0, 138]), (11, 6, 1, 6, 139, 5, [], [2066, 2064, 2065, 138])],
  [(11, 1, 1, 1, 20, 1, [], [2074, 2072, 2073, 138]), (11, 2, 1, 1, 20, 1, [], [2078, 2076, 2077, 138]), (11, 7, 1, 5, 119, 2, [1, 3], [2090, 2089, 125, 138]), (11, 1, 2, 1, 25, 1, [], [2085, 2084, 0, 138]), (11, 4, 1, 6, 145, 3, [], [2082, 2080, 2081, 138]), (11, 6, 1, 6, 145, 4, [], [2099, 2097, 2098, 138]), (11, 4, 1, 1, 25, 2, [], [2104, 2102, 2103, 138]), (11, 1, 2, 1, 25, 1, [], [1972, 1971, 0, 138]), (11, 4, 3, 0, 0, 2, [0], [2116, 2115, 0, 138]), (11, 5, 1, 2, 45, 4, [], [2109, 2107, 2108, 138]), (11, 5, 1, 2, 45, 4, [3], [2113, 2111, 2112, 138]), (11, 7, 1, 2, 45, 6, [], [2120, 2118, 2119, 138]), (13, 1, 1, 0, 0, 1, [], [850, 849, 0, 146]), (12, 1, 1, 1, 20, 1, [], [542, 540, 541, 140]), (12, 2, 6, 3, 64, 2, [], [552, 550, 551, 140]), (12, 1, 5, 0, 0, 1, [], [546, 544, 545, 140]), (12, 1, 2, 0, 0, 1, [], [556, 554, 555, 140]), (12, 2, 0, 1, 22, 2, [], [562, 561, 0, 140]), (15, 2, 6, 2, 43, 2, [], [559, 558, 0, 141]), (18, 5, 0, 0, 0, 2, [1], [945, 944, 0, 135])],
  [(18, 4, 0, 0, 0, 2, [], [305, 304, 0, 135]), (19, 3, 1, 0, 0, 3, [], [567, 566, 0, 142]), (20, 4, 2, 11, 235, 1, [], [0, 0, 0, 126])]]
def px_me (k : Nat) : Nat × Nat × Nat × Nat × Nat × Nat × List Nat × List Nat := (px_mes.getD (k / 20) []).getD (k % 20) (0, 0, 0, 0, 0, 0, [], [])
def px_ow (k : Nat) := (px_me k).1
def px_ml (k : Nat) := (px_me k).2.1
def px_rt (k : Nat) := (px_me k).2.2.1
def px_nf (k : Nat) := (px_me k).2.2.2.1
def px_nl (k : Nat) := (px_me k).2.2.2.2.1
def px_na (k : Nat) := (px_me k).2.2.2.2.2.1
def px_ls (k : Nat) := (px_me k).2.2.2.2.2.2.1
def px_pw (k : Nat) := (px_me k).2.2.2.2.2.2.2
def px_NM : Nat := 343
def px_LAW : Nat := 342
def px_rty (r : Nat) : Option FieldType := match r with
  | 0 => none
  | 1 => some .int
  | 2 => some .boolean
  | 3 => some .long
  | 4 => some (.object "FrozenTrees$World")
  | 5 => some .byte
  | 6 => some .char
  | _ => some (.object "java/lang/String")
def px_lk {α : Type} (c : Nat) : List (Nat × α) → Option α
  | [] => none
  | (a, v) :: l => if a = c then some v else px_lk c l
def px_fl : List (List (Nat × Nat × Nat × Nat)) := [[],
  [(12, 1, 1, 352), (18, 1, 2, 353), (22, 1, 0, 351), (29, 1, 3, 354), (42, 7, 2, 212), (61, 9, 0, 308), (69, 1, 6, 359), (72, 1, 5, 357), (75, 1, 4, 355), (89, 9, 5, 321)],
  [(9, 2, 0, 418), (15, 2, 1, 420), (24, 2, 2, 422), (28, 9, 0, 307), (33, 2, 3, 424), (52, 9, 3, 314), (55, 9, 4, 317)],
  [(9, 3, 2, 180), (15, 3, 0, 177), (24, 3, 1, 178), (27, 3, 5, 184), (33, 3, 3, 182), (36, 7, 1, 208), (58, 7, 2, 211), (62, 7, 3, 215), (75, 7, 4, 219), (103, 3, 6, 185), (106, 3, 4, 183), (123, 8, 1, 164)],
  [(9, 4, 0, 247), (21, 4, 1, 250), (25, 4, 2, 252), (29, 4, 3, 255)],
  [(11, 5, 0, 273), (15, 5, 1, 274), (18, 5, 2, 275), (21, 5, 3, 276), (25, 4, 3, 254), (28, 4, 0, 248)],
  [(11, 6, 2, 386), (15, 6, 3, 387), (20, 6, 5, 389), (23, 6, 6, 390), (26, 6, 7, 391), (29, 6, 0, 384), (33, 6, 1, 385), (37, 6, 8, 392), (47, 6, 4, 388), (98, 9, 4, 318), (101, 9, 3, 315), (104, 9, 7, 325)],
  [(9, 7, 0, 207), (15, 7, 4, 218), (19, 7, 5, 221), (26, 7, 1, 210), (29, 7, 2, 213), (32, 7, 3, 216)],
  [(9, 8, 0, 161), (15, 8, 1, 163)],
  [(9, 9, 3, 313), (15, 9, 4, 316), (18, 9, 5, 320), (21, 9, 6, 323), (24, 9, 7, 324), (27, 9, 8, 327), (30, 9, 9, 329), (36, 9, 0, 306), (40, 9, 2, 312), (43, 9, 1, 310)],
  [(10, 10, 0, 437), (21, 10, 1, 438), (28, 10, 2, 439), (32, 10, 3, 440), (35, 10, 4, 441), (41, 10, 5, 442), (49, 10, 6, 443), (58, 10, 7, 444), (67, 10, 8, 445), (74, 10, 9, 446), (81, 10, 10, 447), (85, 10, 11, 448), (89, 8, 1, 162), (100, 3, 1, 179), (109, 7, 1, 209), (112, 3, 2, 181), (149, 9, 0, 309), (161, 9, 4, 319), (196, 9, 8, 328), (199, 9, 1, 311), (202, 9, 7, 326), (235, 2, 0, 419), (238, 2, 3, 425), (244, 2, 2, 423), (245, 2, 1, 421), (251, 9, 5, 322), (262, 1, 4, 356), (265, 1, 5, 358), (268, 1, 6, 360), (271, 7, 4, 220), (274, 7, 2, 214), (324, 7, 5, 222), (341, 7, 3, 217), (347, 7, 6, 223), (358, 4, 1, 251), (361, 4, 3, 256), (365, 4, 2, 253), (371, 4, 0, 249), (398, 5, 3, 277)],
  [(9, 11, 1, 1291), (13, 11, 2, 1292), (16, 11, 3, 1293), (20, 11, 4, 1294), (24, 11, 6, 1296), (27, 11, 13, 1303), (31, 11, 14, 1304), (34, 11, 15, 1305), (37, 11, 16, 1306), (40, 11, 17, 1307), (43, 11, 18, 1308), (46, 11, 19, 1309), (49, 11, 24, 1314), (52, 11, 25, 1315), (55, 11, 26, 1316), (58, 11, 28, 1318), (61, 11, 29, 1319), (64, 11, 30, 1320), (67, 11, 31, 1321), (70, 11, 32, 1322), (73, 11, 33, 1323), (76, 11, 34, 1324), (79, 11, 35, 1325), (82, 11, 36, 1326), (85, 11, 37, 1327), (88, 11, 38, 1328), (91, 11, 39, 1329), (94, 11, 40, 1330), (98, 11, 42, 1332), (101, 11, 44, 1334), (104, 11, 45, 1335), (107, 11, 50, 1340), (110, 11, 54, 1344), (113, 11, 55, 1345), (116, 11, 56, 1346), (120, 11, 57, 1347), (146, 11, 5, 1295), (149, 11, 7, 1297), (152, 11, 8, 1298), (159, 11, 9, 1299), (162, 11, 10, 1300), (173, 11, 11, 1301), (183, 11, 12, 1302), (276, 11, 20, 1310), (279, 11, 21, 1311), (292, 11, 22, 1312), (298, 11, 23, 1313), (316, 11, 27, 1317), (401, 11, 41, 1331), (419, 11, 43, 1333), (422, 11, 46, 1336), (484, 11, 47, 1337), (487, 11, 48, 1338), (493, 11, 49, 1339), (529, 11, 51, 1341), (533, 11, 52, 1342), (536, 11, 53, 1343)],
  [(9, 12, 0, 2122), (15, 12, 1, 2123)],
  [],
  [],
  [],
  [],
  [],
  [],
  [],
  []]
def px_flk (c i : Nat) : Option (Nat × Nat × Nat) := px_lk i (px_fl.getD c [])
def px_gsl : List (List (Nat × Nat × Nat)) := [[(15, 0, 626)],
  [],
  [],
  [],
  [],
  [],
  [],
  [],
  [],
  [],
  [(292, 1, 1146)],
  [],
  [(38, 2, 547), (1053, 3, 563)],
  [],
  [],
  [],
  [],
  [],
  [],
  [],
  []]
def px_gsk (c i : Nat) : Option (Nat × Nat) := px_lk i (px_gsl.getD c [])
def px_cl : List (List (Nat × Nat × Nat × Nat)) := [[(9, 1, 1, 1174), (19, 4, 1, 631), (23, 7, 1, 632), (27, 5, 1, 1207), (30, 6, 1, 1208)],
  [(26, 60, 0, 664), (33, 10, 0, 705), (36, 54, 0, 706), (45, 73, 0, 707), (49, 0, 4, 698), (54, 11, 0, 701), (58, 62, 0, 1050), (64, 332, 1, 1051), (78, 0, 5, 1052), (81, 15, 0, 1053), (85, 63, 0, 1057)],
  [(18, 340, 1, 992), (36, 18, 0, 993), (40, 19, 0, 998), (44, 161, 2, 997), (48, 20, 0, 1002)],
  [(19, 56, 0, 494), (30, 30, 0, 498), (39, 22, 0, 526), (43, 23, 0, 601), (48, 26, 0, 531), (54, 25, 0, 592), (64, 27, 0, 597), (67, 24, 0, 605), (71, 28, 0, 587), (78, 4, 1, 623), (84, 5, 1, 628), (87, 6, 1, 635), (90, 1, 1, 638), (92, 55, 0, 641), (95, 9, 1, 609), (99, 29, 0, 535), (109, 333, 0, 539), (114, 59, 0, 502), (119, 334, 0, 549), (126, 33, 1, 506), (130, 34, 1, 509), (133, 31, 0, 512), (136, 35, 1, 516), (139, 32, 0, 519), (142, 0, 5, 523)],
  [(15, 339, 1, 1262), (32, 38, 0, 1271)],
  [(36, 41, 0, 1097), (40, 64, 0, 1109)],
  [(41, 340, 1, 914), (50, 68, 0, 915), (56, 53, 0, 936), (62, 11, 0, 937), (68, 50, 0, 938), (72, 49, 1, 961), (76, 44, 0, 942), (80, 339, 1, 943), (83, 63, 0, 946), (87, 51, 0, 947), (91, 52, 0, 952), (94, 45, 0, 951), (107, 72, 0, 956), (110, 70, 0, 960)],
  [(22, 53, 0, 645), (35, 0, 3, 653)],
  [],
  [(33, 60, 0, 299), (46, 340, 1, 303), (52, 0, 3, 1170), (58, 63, 0, 713), (62, 66, 0, 748), (66, 161, 2, 721), (70, 71, 0, 776), (73, 2, 1, 711), (78, 3, 1, 712), (82, 74, 0, 717), (85, 75, 0, 732), (88, 76, 0, 736), (91, 78, 0, 752), (94, 79, 0, 760), (98, 80, 0, 764), (101, 81, 0, 768), (104, 68, 0, 724), (107, 82, 0, 772), (110, 83, 0, 780), (113, 85, 0, 728), (117, 64, 0, 740), (120, 77, 0, 744), (124, 84, 0, 756), (127, 0, 5, 784)],
  [(93, 58, 0, 478), (97, 21, 0, 490), (103, 57, 0, 649), (106, 163, 0, 656), (115, 53, 0, 678), (119, 54, 0, 679), (123, 2, 1, 683), (128, 4, 1, 686), (131, 3, 1, 687), (135, 12, 0, 694), (138, 152, 0, 789), (142, 13, 0, 797), (145, 11, 0, 805), (152, 153, 1, 810), (155, 64, 0, 813), (158, 63, 0, 818), (164, 161, 1, 823), (167, 67, 0, 828), (170, 65, 0, 836), (173, 332, 1, 848), (178, 151, 0, 793), (182, 164, 0, 858), (186, 154, 1, 870), (190, 68, 0, 873), (193, 155, 1, 882), (205, 70, 0, 897), (208, 0, 4, 905), (213, 44, 0, 910), (217, 45, 0, 916), (220, 69, 0, 924), (223, 48, 0, 932), (226, 46, 0, 964), (229, 47, 0, 980), (232, 16, 0, 988), (241, 17, 0, 1014), (248, 62, 0, 1034), (254, 159, 0, 1042), (258, 14, 0, 1046), (277, 165, 0, 1070), (280, 167, 0, 1084), (283, 168, 0, 1101), (286, 166, 0, 1126), (289, 169, 0, 1138), (297, 173, 1, 1149), (301, 158, 1, 1159), (304, 170, 0, 1162), (308, 160, 0, 1183), (313, 171, 0, 1188), (317, 172, 1, 1192), (321, 8, 1, 1204), (327, 0, 1, 1171), (331, 55, 0, 1209), (334, 157, 1, 1222), (337, 174, 0, 1226), (344, 162, 0, 1242), (351, 156, 1, 1088), (354, 36, 0, 1258), (362, 37, 0, 1267), (368, 39, 0, 1279), (375, 0, 3, 1283), (382, 10, 0, 660), (385, 43, 0, 665), (386, 60, 0, 1074), (388, 73, 0, 1075), (391, 40, 0, 1091), (394, 42, 0, 1105), (399, 61, 0, 1166), (404, 0, 6, 1152)],
  [(128, 175, 1, 1471), (132, 181, 0, 1581), (136, 180, 0, 1665), (155, 192, 0, 1498), (177, 0, 5, 1507), (186, 194, 0, 1508), (189, 333, 0, 1533), (194, 334, 0, 1534), (198, 196, 0, 1529), (202, 193, 0, 1494), (205, 197, 0, 1525), (208, 195, 0, 1535), (212, 198, 0, 1521), (216, 199, 0, 1544), (243, 200, 0, 1540), (249, 202, 0, 1553), (252, 188, 1, 1567), (255, 189, 1, 1570), (258, 203, 0, 1516), (261, 204, 0, 1549), (264, 205, 0, 1512), (267, 182, 0, 1577), (273, 187, 0, 1586), (282, 208, 0, 1602), (286, 210, 0, 1629), (289, 211, 0, 1637), (295, 177, 1, 1622), (301, 212, 0, 1625), (305, 213, 0, 1633), (308, 215, 0, 1657), (312, 216, 0, 1653), (319, 218, 0, 1645), (322, 217, 0, 1649), (324, 219, 0, 1661), (327, 221, 0, 1614), (330, 222, 0, 1610), (333, 214, 0, 1618), (336, 220, 0, 1641), (339, 209, 0, 1598), (342, 223, 0, 1606), (345, 224, 0, 1594), (348, 183, 0, 1677), (352, 225, 0, 1673), (355, 184, 1, 1693), (358, 227, 0, 1701), (362, 176, 1, 1923), (365, 226, 0, 1689), (368, 228, 0, 1697), (371, 229, 0, 1709), (374, 237, 0, 1721), (377, 240, 0, 1733), (380, 243, 0, 1745), (383, 185, 1, 1757), (386, 246, 0, 1761), (389, 186, 1, 1773), (392, 247, 0, 1777), (395, 253, 0, 1793), (398, 0, 4, 1801), (404, 256, 0, 1806), (407, 259, 0, 1822), (410, 260, 0, 1826), (413, 261, 0, 1818), (416, 262, 0, 1834), (425, 267, 0, 1866), (428, 268, 0, 1858), (431, 269, 0, 1862), (434, 270, 0, 1854), (437, 271, 0, 1850), (440, 272, 0, 1874), (443, 279, 0, 1898), (446, 230, 0, 1919), (449, 282, 0, 1911), (452, 281, 0, 1926), (455, 283, 0, 1915), (458, 285, 0, 1906), (463, 284, 0, 1934), (466, 289, 0, 1946), (469, 291, 0, 1954), (472, 327, 1, 1970), (475, 293, 0, 1973), (481, 294, 0, 1966), (490, 295, 0, 1978), (496, 296, 0, 1962), (499, 301, 0, 1998), (504, 304, 0, 2011), (507, 0, 6, 2028), (511, 307, 1, 2025), (515, 306, 1, 2019), (518, 308, 1, 2022), (522, 311, 0, 2033), (525, 310, 0, 2037), (541, 315, 0, 2049), (546, 314, 0, 2055), (551, 318, 1, 2068), (567, 323, 1, 2083), (570, 322, 0, 2087), (578, 328, 1, 2114)],
  [(335, 335, 0, 543), (492, 336, 0, 553), (495, 338, 1, 557), (1059, 341, 1, 565)],
  [],
  [],
  [(9, 337, 1, 560)],
  [(414, 337, 1, 577)],
  [],
  [],
  [],
  [(13, 86, 0, 474), (17, 190, 0, 1478), (18, 87, 0, 482), (22, 191, 0, 1482), (23, 88, 0, 486), (27, 206, 0, 1490), (28, 89, 0, 670), (31, 201, 0, 1486), (32, 90, 0, 674), (36, 207, 0, 1573), (37, 91, 0, 690), (40, 231, 0, 1590), (41, 92, 0, 785), (44, 232, 0, 1669), (45, 93, 0, 801), (48, 233, 0, 1681), (49, 94, 0, 806), (52, 234, 0, 1685), (53, 95, 0, 814), (56, 235, 0, 1705), (57, 96, 0, 819), (60, 236, 0, 1713), (61, 97, 0, 824), (64, 238, 0, 1717), (65, 98, 0, 832), (68, 239, 0, 1725), (69, 99, 0, 840), (72, 241, 0, 1729), (73, 100, 0, 844), (76, 242, 0, 1737), (77, 101, 0, 854), (80, 244, 0, 1741), (81, 102, 0, 862), (84, 245, 0, 1749), (85, 103, 0, 866), (89, 248, 0, 1753), (90, 104, 0, 874), (93, 249, 0, 1765), (94, 105, 0, 878), (97, 250, 0, 1769), (98, 106, 0, 885), (101, 251, 0, 1781), (102, 107, 0, 889), (105, 252, 0, 1785), (106, 108, 0, 893), (109, 254, 0, 1789), (110, 109, 0, 901), (113, 255, 0, 1797), (114, 110, 0, 906), (117, 257, 0, 1802), (118, 111, 0, 920), (121, 258, 0, 1810), (122, 112, 0, 928), (125, 263, 0, 1814), (126, 113, 0, 968), (129, 264, 0, 1830), (130, 114, 0, 972), (133, 265, 0, 1838), (134, 115, 0, 976), (137, 266, 0, 1842), (138, 116, 0, 984), (141, 273, 0, 1846), (142, 117, 0, 1006), (145, 274, 0, 1870), (146, 118, 0, 1010), (149, 275, 0, 1878), (150, 119, 0, 1018), (153, 276, 0, 1882), (154, 120, 0, 1022), (157, 277, 0, 1886), (158, 121, 0, 1026), (161, 278, 0, 1890), (162, 122, 0, 1030), (165, 280, 0, 1894), (166, 123, 0, 1038), (170, 286, 0, 1902), (171, 124, 0, 1058), (174, 287, 0, 1930), (175, 125, 0, 1062), (178, 288, 0, 1938), (179, 126, 0, 1066), (182, 290, 0, 1942), (183, 127, 0, 1076), (186, 292, 0, 1950), (187, 128, 0, 1080), (190, 297, 0, 1958), (191, 129, 0, 1110), (194, 298, 0, 1982), (195, 130, 0, 1114), (198, 299, 0, 1986), (199, 131, 0, 1118), (202, 300, 0, 1990), (203, 132, 0, 1122), (206, 302, 0, 1994), (207, 133, 0, 1130), (210, 303, 0, 2002), (211, 134, 0, 1134), (214, 305, 0, 2006), (215, 135, 0, 1142), (218, 309, 0, 2015), (219, 136, 0, 1155), (222, 312, 0, 2029), (223, 137, 0, 1175), (226, 313, 0, 2041), (227, 138, 0, 1179), (231, 316, 0, 2045), (232, 139, 0, 1196), (236, 317, 0, 2059), (237, 140, 0, 1200), (240, 319, 0, 2063), (241, 141, 0, 1210), (244, 320, 0, 2071), (245, 142, 0, 1214), (248, 321, 0, 2075), (249, 143, 0, 1218), (252, 324, 0, 2079), (253, 144, 0, 1234), (256, 325, 0, 2096), (257, 145, 0, 1238), (260, 326, 0, 2101), (261, 146, 0, 1246), (264, 178, 0, 1466), (265, 147, 0, 1250), (268, 179, 0, 1474), (269, 148, 0, 1254), (272, 329, 0, 2106), (275, 149, 0, 1263), (279, 330, 0, 2110), (280, 150, 0, 1275), (283, 331, 0, 2117)]]
def px_clk (c i : Nat) : Option (Nat × Nat × Nat) := px_lk i (px_cl.getD c [])
def px_nest : List (Nat × Nat × Nat) := [(2, 44, 161), (9, 66, 161)]
def px_kcl : List (List (Nat × Int32 × Nat)) := [[],
  [],
  [],
  [],
  [],
  [],
  [],
  [],
  [],
  [],
  [(381, (2000000000 : Int32), 1225)],
  [(97, (37230 : Int32), 1290), (176, (99999 : Int32), 1506)],
  [],
  [(265, (1431655765 : Int32), 851), (266, (858993459 : Int32), 852), (267, (252645135 : Int32), 853)],
  [],
  [],
  [],
  [],
  [],
  [],
  []]
def px_kck (c i : Nat) : Option (Int32 × Nat) := px_lk i (px_kcl.getD c [])
def px_kjl : List (List (Nat × Int64 × Nat)) := [[],
  [],
  [],
  [],
  [],
  [(32, (15 : Int64), 1095), (34, (-1 : Int64), 1096)],
  [],
  [],
  [],
  [],
  [(295, (720 : Int64), 1148), (311, (-2 : Int64), 1187), (402, (10 : Int64), 1195), (408, (1103515245 : Int64), 1230), (410, (12345 : Int64), 1231), (412, (2147483648 : Int64), 1232), (414, (65536 : Int64), 1233)],
  [(126, (2 : Int64), 1470), (140, (15 : Int64), 1696), (142, (7 : Int64), 1760), (144, (199 : Int64), 1776), (165, (97 : Int64), 1502), (167, (122 : Int64), 1503), (169, (48 : Int64), 1504), (171, (57 : Int64), 1505), (271, (3 : Int64), 1585), (461, (40 : Int64), 1910), (479, (-1 : Int64), 1977), (502, (32767 : Int64), 2010), (539, (6 : Int64), 2053), (544, (-2 : Int64), 2054), (549, (9 : Int64), 2067), (555, (1103515245 : Int64), 2091), (557, (12345 : Int64), 2092), (559, (2147483648 : Int64), 2093), (561, (65536 : Int64), 2094), (563, (10 : Int64), 2095), (565, (2000000000 : Int64), 2086), (574, (20 : Int64), 2100), (576, (4 : Int64), 2105)],
  [],
  [],
  [],
  [],
  [],
  [],
  [],
  [],
  [(273, (4294967295 : Int64), 2121)]]
def px_kjk (c i : Nat) : Option (Int64 × Nat) := px_lk i (px_kjl.getD c [])
def px_ksl : List (List (Nat × Nat × Nat)) := [[(33, 0, 612), (35, 1, 613), (37, 2, 614), (39, 3, 615), (41, 4, 616), (43, 5, 617), (45, 6, 618), (47, 7, 619), (49, 8, 620), (51, 9, 621), (53, 10, 622)],
  [],
  [],
  [(46, 11, 530), (52, 12, 591), (60, 13, 596)],
  [],
  [],
  [],
  [],
  [],
  [],
  [],
  [(219, 0, 1557), (221, 1, 1558), (223, 2, 1559), (225, 3, 1560), (227, 4, 1561), (229, 5, 1562), (231, 6, 1563), (233, 7, 1564), (235, 8, 1565), (237, 9, 1566), (239, 11, 1520), (241, 12, 1539), (247, 13, 1548)],
  [],
  [],
  [],
  [],
  [],
  [],
  [],
  [],
  []]
def px_ksk (c i : Nat) : Option (Nat × Nat) := px_lk i (px_ksl.getD c [])
def px_txt : List String := ["fork", "lead", "exit", "open", "pipe", "copy", "close", "write", "read", "touch", "", "system", "law", "odds"]
def px_str : List (List Int32) := [[102, 111, 114, 107], [108, 101, 97, 100], [101, 120, 105, 116], [111, 112, 101, 110], [112, 105, 112, 101], [99, 111, 112, 121], [99, 108, 111, 115, 101], [119, 114, 105, 116, 101], [114, 101, 97, 100], [116, 111, 117, 99, 104], [], [115, 121, 115, 116, 101, 109], [108, 97, 119], [111, 100, 100, 115]]
def px_shl : List (Nat ⊕ (Nat × Nat)) := [.inl 10, .inl 8, .inr (0, 900), .inl 3, .inl 7, .inr (0, 70), .inl 7, .inr (0, 70), .inr (4, 3), .inl 7, .inr (0, 70), .inl 7, .inr (0, 70), .inl 7, .inr (0, 70), .inr (5, 4), .inl 4, .inr (1, 60), .inl 4, .inr (1, 60), .inl 4, .inr (1, 60), .inl 4, .inr (1, 60), .inl 5, .inr (0, 20), .inr (0, 20), .inr (0, 20), .inl 1, .inl 9, .inr (0, 16), .inr (0, 16), .inr (0, 16), .inr (0, 128), .inr (0, 200), .inr (0, 200), .inr (0, 200), .inr (0, 70), .inl 6, .inr (0, 200), .inr (0, 120), .inr (6, 71), .inr (0, 71), .inr (0, 71), .inl 2, .inr (0, 16), .inr (0, 15), .inl 9, .inr (0, 16), .inr (0, 16), .inr (0, 16), .inr (0, 128), .inr (0, 200), .inr (0, 200), .inr (0, 200), .inr (0, 64), .inl 11, .inr (0, 285), .inr (0, 855), .inr (3, 3), .inr (2, 900), .inr (0, 5), .inr (0, 285), .inr (0, 72), .inr (0, 72), .inr (0, 72), .inr (0, 72), .inr (3, 72), .inr (0, 16), .inr (0, 16), .inr (0, 128), .inr (0, 200), .inr (0, 200), .inr (0, 72), .inr (0, 72), .inr (0, 72), .inr (0, 73), .inr (0, 73), .inr (0, 1168), .inr (0, 1168), .inr (0, 9344), .inr (0, 14600), .inr (0, 200), .inr (0, 120), .inr (0, 37230), .inr (0, 16), .inr (0, 16), .inr (0, 64), .inr (0, 4), .inr (0, 4), .inr (1, 240), .inr (1, 60), .inr (1, 45), .inr (1, 45), .inr (1, 45), .inr (1, 45), .inr (1, 45), .inr (1, 45), .inr (1, 45), .inr (1, 45), .inr (1, 45), .inr (1, 45), .inr (1, 45), .inr (1, 45), .inr (1, 45), .inr (1, 45), .inr (1, 45), .inr (1, 45), .inr (1, 45), .inr (1, 45), .inr (1, 45), .inr (1, 45), .inr (1, 45), .inr (1, 45), .inr (1, 45), .inr (1, 45), .inr (1, 45), .inr (1, 45), .inr (1, 45), .inr (1, 45), .inr (1, 45), .inr (1, 45), .inr (1, 45), .inr (1, 45), .inr (1, 45), .inr (1, 45), .inr (1, 45), .inr (1, 45), .inr (1, 45), .inr (1, 45), .inr (1, 45), .inr (1, 45), .inr (1, 45), .inr (1, 45), .inr (1, 45), .inr (1, 45), .inr (1, 45), .inr (1, 45), .inr (1, 45), .inr (1, 45), .inr (1, 45), .inr (1, 45), .inr (1, 45), .inr (1, 45), .inr (1, 45), .inr (1, 45), .inr (1, 45), .inr (1, 45), .inr (1, 45), .inr (1, 45), .inr (1, 45), .inr (1, 45), .inr (1, 45), .inr (1, 45), .inr (1, 45), .inr (1, 45), .inr (1, 45), .inr (1, 45), .inr (1, 45), .inr (1, 45), .inr (1, 45), .inr (1, 45), .inr (1, 45)]
def px_NP : Nat := 163
def px_rfl : List (List Nat) := [[1, 3, 4, 6, 8, 15, 24, 28, 38, 44, 47, 55], [2], [], [1], [5], [], [7], [], [9, 11, 13], [10], [], [12], [], [14], [], [16, 18, 20, 22], [17], [], [19], [], [21], [], [23], [], [25, 26, 27], [], [], [], [4, 29, 37], [0, 0, 0, 30, 31, 32, 33, 34, 35, 36], [], [], [], [], [], [], [], [], [28, 4, 39, 40, 0, 41, 42, 43], [], [], [92, 93, 94, 95, 96, 97, 98, 99, 100, 101, 102, 103, 104, 105, 106, 107, 108, 109, 110, 111, 112, 113, 114, 115, 116, 117, 118, 119, 120, 121, 122, 123, 124, 125, 126, 127, 128, 129, 130, 131, 132, 133, 134, 135, 136, 137, 138, 139, 140, 141, 142, 143, 144, 145, 146, 147, 148, 149, 150, 151, 152, 153, 154, 155, 156, 157, 158, 159, 160, 161, 162], [], [], [45, 46], [], [], [0, 0, 0, 48, 49, 50, 51, 52, 53, 54], [], [], [], [], [], [], [], [], [0, 57, 58, 59, 60, 0, 61, 0, 0, 0, 0, 0, 0, 0, 62, 63, 64, 65, 66, 67, 0, 0, 0, 0, 68, 69, 70, 0, 71, 72, 73, 74, 75, 76, 77, 78, 79, 80, 81, 82, 83, 0, 84, 0, 85, 86, 0, 0, 0, 0, 87, 0, 0, 0, 88, 89, 90, 91], [], [], [], [], [], [], [], [], [], [], [], [], [], [], [], [], [], [], [], [], [], [], [], [], [], [], [], [], [], [], [], [], [], [], [], [], [], [], [], [], [], [], [], [], [], [], [], [], [], [], [], [], [], [], [], [], [], [], [], [], [], [], [], [], [], [], [], [], [], [], [], [], [], [], [], [], [], [], [], [], [], [], [], [], [], [], [], [], [], [], [], [], [], [], [], [], [], [], [], [], [], [], [], [], [], []]
end
section
def px_t0 : List (List (Nat × Instr × Nat)) := [[(0, .iload_n 0, 1), (1, .iload_n 1, 1), (2, .iconst 1, 1), (3, .invokestatic 9, 3), (6, .ior, 1), (7, .iload_n 2, 1), (8, .iconst 2, 1), (9, .invokestatic 9, 3), (12, .ior, 1), (13, .iload_n 3, 1), (14, .iconst 3, 1), (15, .invokestatic 9, 3), (18, .ior, 1), (19, .ireturn, 1)]]
def px_t1 : List (List (Nat × Instr × Nat)) := [[(0, .iload_n 0, 1), (1, .iconst 4, 1), (2, .iload_n 1, 1), (3, .imul, 1), (4, .ishl, 1), (5, .ireturn, 1)]]
def px_t2 : List (List (Nat × Instr × Nat)) := [[(0, .iload_n 0, 1), (1, .bipush 15, 2), (3, .iand, 1), (4, .ireturn, 1)]]
def px_t3 : List (List (Nat × Instr × Nat)) := [[(0, .iload_n 0, 1), (1, .iconst 4, 1), (2, .iload_n 1, 1), (3, .imul, 1), (4, .ishr, 1), (5, .iload_n 1, 1), (6, .iconst 3, 1), (7, .if_icmp .ne 8, 3), (10, .bipush 31, 2), (12, .goto 5, 3), (15, .bipush 15, 2), (17, .iand, 1), (18, .ireturn, 1)]]
def px_t4 : List (List (Nat × Instr × Nat)) := [[(0, .iload_n 0, 1), (1, .ifCond .lt 17, 3), (4, .iload_n 0, 1), (5, .bipush 10, 2), (7, .if_icmp .ge 11, 3), (10, .getstatic 15, 3), (13, .iload_n 0, 1), (14, .iaload, 1), (15, .goto 4, 3), (18, .iconst 0, 1), (19, .ireturn, 1)]]
def px_t5 : List (List (Nat × Instr × Nat)) := [[(0, .iload_n 1, 1), (1, .iload_n 0, 1), (2, .invokestatic 19, 3), (5, .if_icmp .le 5, 3), (8, .iconst 0, 1), (9, .ireturn, 1), (10, .iload_n 1, 1), (11, .iconst 1, 1), (12, .if_icmp .eq 15, 3), (15, .iload_n 0, 1), (16, .ifCond .eq 11, 3), (19, .iload_n 0, 1), (20, .iload_n 1, 1), (21, .invokestatic 23, 3), (24, .ifCond .eq 7, 3), (27, .iconst 1, 1), (28, .goto 4, 3), (31, .iconst 0, 1), (32, .ireturn, 1)]]
def px_t6 : List (List (Nat × Instr × Nat)) := [[(0, .iload_n 1, 1), (1, .iload_n 0, 1), (2, .invokestatic 19, 3), (5, .if_icmp .le 5, 3), (8, .iconst 0, 1), (9, .ireturn, 1), (10, .iload_n 1, 1), (11, .iconst 1, 1), (12, .if_icmp .eq 7, 3), (15, .iload_n 0, 1), (16, .ifCond .ne 6, 3), (19, .bipush 15, 2), (21, .ireturn, 1), (22, .iload_n 0, 1), (23, .iload_n 1, 1), (24, .invokestatic 23, 3), (27, .ifCond .eq 8, 3), (30, .bipush 30, 2), (32, .goto 5, 3), (35, .bipush 7, 2), (37, .ireturn, 1)]]
def px_t7 : List (List (Nat × Instr × Nat)) := [[(0, .iload_n 1, 1), (1, .iconst 3, 1), (2, .if_icmp .ne 19, 3), (5, .iload_n 0, 1), (6, .bipush 7, 2), (8, .if_icmp .eq 9, 3), (11, .iload_n 0, 1), (12, .bipush 8, 2), (14, .if_icmp .ne 7, 3), (17, .iconst 1, 1), (18, .goto 4, 3), (21, .iconst 0, 1), (22, .ireturn, 1)]]
def px_t8 : List (List (Nat × Instr × Nat)) := [[(0, .iload_n 2, 1), (1, .iload_n 0, 1), (2, .iload_n 1, 1), (3, .invokestatic 27, 3), (6, .if_icmp .lt 16, 3), (9, .iload_n 2, 1), (10, .iload_n 0, 1), (11, .iload_n 1, 1), (12, .invokestatic 30, 3), (15, .if_icmp .gt 7, 3), (18, .iconst 1, 1), (19, .goto 4, 3), (22, .iconst 0, 1), (23, .ireturn, 1)]]
def px_t9 : List (List (Nat × Instr × Nat)) := [[(0, .iload_n 0, 1), (1, .tableswitch 85 0 9 #[55, 58, 61, 64, 67, 70, 73, 76, 79, 82], 55), (56, .ldc 33, 2), (58, .areturn, 1), (59, .ldc 35, 2), (61, .areturn, 1), (62, .ldc 37, 2)],
  [(64, .areturn, 1), (65, .ldc 39, 2), (67, .areturn, 1), (68, .ldc 41, 2), (70, .areturn, 1), (71, .ldc 43, 2), (73, .areturn, 1), (74, .ldc 45, 2), (76, .areturn, 1), (77, .ldc 47, 2), (79, .areturn, 1), (80, .ldc 49, 2), (82, .areturn, 1), (83, .ldc 51, 2), (85, .areturn, 1), (86, .ldc 53, 2), (88, .areturn, 1)]]
def px_t10 : List (List (Nat × Instr × Nat)) := [[(0, .aload_n 0, 1), (1, .getfield 12, 3), (4, .invokevirtual 26, 3), (7, .aload_n 0, 1), (8, .iconst 0, 1), (9, .putfield 29, 3), (12, .return_, 1)]]
def px_t11 : List (List (Nat × Instr × Nat)) := [[(0, .iload_n 1, 1), (1, .aload_n 0, 1), (2, .getfield 29, 3), (5, .if_icmp .ge 7, 3), (8, .aload_n 0, 1), (9, .invokevirtual 33, 3), (12, .aload_n 0, 1), (13, .getfield 29, 3), (16, .iload_n 1, 1), (17, .if_icmp .ge 59, 3), (20, .aload_n 0, 1), (21, .getfield 29, 3), (24, .bipush 70, 2), (26, .if_icmp .ge 50, 3), (29, .aload_n 0, 1), (30, .getfield 18, 3), (33, .aload_n 0, 1), (34, .getfield 29, 3), (37, .aload_n 0, 1), (38, .getfield 12, 3), (41, .aload_n 0, 1), (42, .getfield 22, 3), (45, .aload_n 0, 1), (46, .getfield 29, 3), (49, .invokevirtual 36, 3), (52, .aload_n 0, 1), (53, .getfield 22, 3), (56, .getfield 42, 3), (59, .invokevirtual 45, 3), (62, .iastore, 1), (63, .aload_n 0, 1)],
  [(64, .dup, 1), (65, .getfield 29, 3), (68, .iconst 1, 1), (69, .iadd, 1), (70, .putfield 29, 3), (73, .goto (-61), 3), (76, .aload_n 0, 1), (77, .getfield 12, 3), (80, .areturn, 1)]]
def px_t12 : List (List (Nat × Instr × Nat)) := [[(0, .iload_n 1, 1), (1, .ifCond .lt 9, 3), (4, .iload_n 1, 1), (5, .bipush 70, 2), (7, .if_icmp .lt 5, 3), (10, .iconst 0, 1), (11, .ireturn, 1), (12, .aload_n 0, 1), (13, .aload_n 0, 1), (14, .getfield 29, 3), (17, .iload_n 1, 1), (18, .iconst 1, 1), (19, .iadd, 1), (20, .invokestatic 49, 3), (23, .invokevirtual 54, 3), (26, .pop, 1), (27, .aload_n 0, 1), (28, .getfield 18, 3), (31, .iload_n 1, 1), (32, .iaload, 1), (33, .ireturn, 1)]]
def px_t13 : List (List (Nat × Instr × Nat)) := [[(0, .aload_n 0, 1), (1, .aload_n 0, 1), (2, .getfield 29, 3), (5, .iload_n 1, 1), (6, .invokestatic 49, 3), (9, .invokevirtual 54, 3), (12, .pop, 1), (13, .iconst 0, 1), (14, .istore_n 2, 1), (15, .iconst 0, 1), (16, .istore_n 3, 1), (17, .iload_n 3, 1), (18, .iload_n 1, 1), (19, .if_icmp .ge 27, 3), (22, .iload_n 3, 1), (23, .bipush 70, 2), (25, .if_icmp .ge 21, 3), (28, .aload_n 0, 1), (29, .getfield 18, 3), (32, .iload_n 3, 1), (33, .iaload, 1), (34, .ifCond .eq 6, 3), (37, .iinc 2 1, 3), (40, .iinc 3 1, 3), (43, .goto (-26), 3), (46, .iload_n 2, 1), (47, .ireturn, 1)]]
def px_t14 : List (List (Nat × Instr × Nat)) := [[(0, .aload_n 0, 1), (1, .iload_n 1, 1), (2, .invokevirtual 54, 3), (5, .invokevirtual 58, 3), (8, .iload_n 1, 1), (9, .istore 5, 2), (11, .aload_n 0, 1), (12, .bipush 8, 2), (14, .aload_n 0, 1), (15, .getfield 12, 3), (18, .getfield 61, 3), (21, .invokestatic 64, 3), (24, .imul, 1), (25, .putfield 69, 3), (28, .aload_n 0, 1), (29, .aload_n 0, 1), (30, .getfield 69, 3), (33, .putfield 72, 3), (36, .aload_n 0, 1), (37, .iload 4, 2), (39, .ifCond .ne 10, 3), (42, .aload_n 0, 1), (43, .getfield 69, 3), (46, .goto 4, 3), (49, .iconst (-1), 1), (50, .putfield 75, 3), (53, .iconst 1, 1), (54, .istore 6, 2), (56, .iload 6, 2), (58, .bipush 70, 2), (60, .if_icmp .gt 75, 3), (63, .iload 5, 2)],
  [(65, .iload_n 3, 1), (66, .if_icmp .ge 69, 3), (69, .iload 5, 2), (71, .iload_n 2, 1), (72, .iadd, 1), (73, .iload_n 3, 1), (74, .invokestatic 78, 3), (77, .istore 5, 2), (79, .aload_n 0, 1), (80, .iload 5, 2), (82, .invokevirtual 54, 3), (85, .pop, 1), (86, .aload_n 0, 1), (87, .aload_n 0, 1), (88, .invokevirtual 81, 3), (91, .putfield 69, 3), (94, .aload_n 0, 1), (95, .getfield 12, 3), (98, .invokevirtual 58, 3), (101, .aload_n 0, 1), (102, .dup, 1), (103, .getfield 72, 3), (106, .aload_n 0, 1), (107, .getfield 69, 3), (110, .iadd, 1), (111, .putfield 72, 3), (114, .iload 6, 2), (116, .iload 4, 2), (118, .if_icmp .ne 11, 3), (121, .aload_n 0, 1), (122, .aload_n 0, 1), (123, .getfield 69, 3), (126, .putfield 75, 3)],
  [(129, .iinc 6 1, 3), (132, .goto (-76), 3), (135, .return_, 1)]]
def px_t15 : List (List (Nat × Instr × Nat)) := [[(0, .iconst 0, 1), (1, .istore_n 1, 1), (2, .iconst 1, 1), (3, .istore_n 2, 1), (4, .iload_n 2, 1), (5, .bipush 15, 2), (7, .if_icmp .gt 35, 3), (10, .aload_n 0, 1), (11, .getfield 12, 3), (14, .iload_n 2, 1), (15, .invokevirtual 85, 3), (18, .ifCond .eq 18, 3), (21, .iload_n 1, 1), (22, .aload_n 0, 1), (23, .getfield 12, 3), (26, .getfield 89, 3), (29, .iload_n 2, 1), (30, .iaload, 1), (31, .invokestatic 64, 3), (34, .iadd, 1), (35, .istore_n 1, 1), (36, .iinc 2 1, 3), (39, .goto (-35), 3), (42, .iload_n 1, 1), (43, .ireturn, 1)]]
def px_t16 : List (List (Nat × Instr × Nat)) := [[(0, .aload_n 0, 1), (1, .getfield 9, 3), (4, .iconst 0, 1), (5, .invokestatic 18, 3), (8, .aload_n 0, 1), (9, .iconst 0, 1), (10, .putfield 24, 3), (13, .aload_n 0, 1), (14, .aload_n 1, 1), (15, .getfield 28, 3), (18, .putfield 33, 3), (21, .aload_n 0, 1), (22, .iconst 1, 1), (23, .iconst 1, 1), (24, .invokevirtual 36, 3), (27, .iconst 1, 1), (28, .istore_n 2, 1), (29, .iload_n 2, 1), (30, .bipush 15, 2), (32, .if_icmp .ge 14, 3), (35, .aload_n 0, 1), (36, .aload_n 1, 1), (37, .invokevirtual 40, 3), (40, .iinc 2 1, 3), (43, .goto (-14), 3), (46, .return_, 1)]]
def px_t17 : List (List (Nat × Instr × Nat)) := [[(0, .iconst 0, 1), (1, .istore_n 2, 1), (2, .iconst 1, 1), (3, .istore_n 3, 1), (4, .iload_n 3, 1), (5, .bipush 15, 2), (7, .if_icmp .gt 22, 3), (10, .aload_n 0, 1), (11, .getfield 9, 3), (14, .iload_n 3, 1), (15, .iaload, 1), (16, .iload_n 1, 1), (17, .if_icmp .ne 6, 3), (20, .iinc 2 1, 3), (23, .iinc 3 1, 3), (26, .goto (-22), 3), (29, .iload_n 2, 1), (30, .ireturn, 1)]]
def px_t18 : List (List (Nat × Instr × Nat)) := [[(0, .aload_n 0, 1), (1, .getfield 24, 3), (4, .aload_n 0, 1), (5, .getfield 15, 3), (8, .arraylength, 1), (9, .if_icmp .ge 45, 3), (12, .aload_n 0, 1), (13, .getfield 9, 3), (16, .iload_n 1, 1), (17, .iload_n 2, 1), (18, .iastore, 1), (19, .aload_n 0, 1), (20, .getfield 15, 3), (23, .aload_n 0, 1), (24, .getfield 24, 3), (27, .iload_n 1, 1), (28, .iastore, 1), (29, .aload_n 0, 1), (30, .dup, 1), (31, .getfield 24, 3), (34, .iconst 1, 1), (35, .iadd, 1), (36, .putfield 24, 3), (39, .aload_n 0, 1), (40, .dup, 1), (41, .getfield 33, 3), (44, .iload_n 1, 1), (45, .invokestatic 44, 3), (48, .iconst (-1), 1), (49, .ixor, 1), (50, .iand, 1), (51, .putfield 33, 3), (54, .return_, 1)]]
def px_t19 : List (List (Nat × Instr × Nat)) := [[(0, .iconst 2, 1), (1, .istore_n 2, 1), (2, .iload_n 2, 1), (3, .bipush 15, 2), (5, .if_icmp .gt 43, 3), (8, .aload_n 0, 1), (9, .getfield 33, 3), (12, .iload_n 2, 1), (13, .invokestatic 44, 3), (16, .iand, 1), (17, .ifCond .eq 12, 3), (20, .aload_n 0, 1), (21, .aload_n 1, 1), (22, .iload_n 2, 1), (23, .invokevirtual 48, 3), (26, .goto 4, 3), (29, .iconst 0, 1), (30, .istore_n 3, 1), (31, .iload_n 3, 1), (32, .ifCond .eq 10, 3), (35, .aload_n 0, 1), (36, .iload_n 2, 1), (37, .iload_n 3, 1), (38, .invokevirtual 36, 3), (41, .return_, 1), (42, .iinc 2 1, 3), (45, .goto (-43), 3), (48, .return_, 1)]]
def px_t20 : List (List (Nat × Instr × Nat)) := [[(0, .aload_n 1, 1), (1, .getfield 52, 3), (4, .iload_n 2, 1), (5, .iaload, 1), (6, .istore_n 3, 1), (7, .aload_n 1, 1), (8, .getfield 55, 3), (11, .iload_n 2, 1), (12, .iaload, 1), (13, .istore 4, 2), (15, .aload_n 0, 1), (16, .getfield 9, 3), (19, .iload_n 3, 1), (20, .iaload, 1), (21, .ifCond .ne 5, 3), (24, .iconst 0, 1), (25, .ireturn, 1), (26, .iload 4, 2), (28, .iload_n 2, 1), (29, .if_icmp .ne 5, 3), (32, .iconst 1, 1), (33, .ireturn, 1), (34, .iload 4, 2), (36, .aload_n 1, 1), (37, .getfield 55, 3), (40, .iload_n 3, 1), (41, .iaload, 1), (42, .if_icmp .ne 5, 3), (45, .iconst 2, 1), (46, .ireturn, 1), (47, .iload_n 3, 1), (48, .iconst 1, 1), (49, .if_icmp .ne 19, 3), (52, .aload_n 0, 1), (53, .getfield 9, 3), (56, .iload 4, 2), (58, .iaload, 1), (59, .ifCond .eq 7, 3), (62, .iconst 4, 1), (63, .goto 4, 3)],
  [(66, .iconst 0, 1), (67, .ireturn, 1), (68, .aload_n 0, 1), (69, .getfield 9, 3), (72, .iload_n 3, 1), (73, .iaload, 1), (74, .iconst 1, 1), (75, .if_icmp .ne 23, 3), (78, .iload 4, 2), (80, .aload_n 1, 1), (81, .getfield 55, 3), (84, .aload_n 1, 1), (85, .getfield 52, 3), (88, .iload_n 3, 1), (89, .iaload, 1), (90, .iaload, 1), (91, .if_icmp .ne 7, 3), (94, .iconst 3, 1), (95, .goto 4, 3), (98, .iconst 0, 1), (99, .ireturn, 1)]]
def px_t21 : List (List (Nat × Instr × Nat)) := [[(0, .aload_n 1, 1), (1, .invokevirtual 19, 3), (4, .aload_n 0, 1), (5, .iconst 0, 1), (6, .putfield 24, 3), (9, .aload_n 0, 1), (10, .iconst (-1), 1), (11, .putfield 9, 3), (14, .aload_n 0, 1), (15, .iconst 0, 1), (16, .putfield 27, 3), (19, .aload_n 0, 1), (20, .invokevirtual 30, 3), (23, .iconst 0, 1), (24, .istore_n 2, 1), (25, .iload_n 2, 1), (26, .sipush 900, 3), (29, .if_icmp .gt 53, 3), (32, .aload_n 0, 1), (33, .getfield 24, 3), (36, .ifCond .ne 46, 3), (39, .aload_n 0, 1), (40, .getfield 33, 3), (43, .ifCond .eq 39, 3), (46, .aload_n 1, 1), (47, .getfield 36, 3), (50, .ifCond .ne 11, 3), (53, .aload_n 0, 1), (54, .aload_n 1, 1), (55, .invokevirtual 39, 3), (58, .goto 8, 3), (61, .aload_n 0, 1), (62, .aload_n 1, 1), (63, .invokevirtual 43, 3)],
  [(66, .aload_n 1, 1), (67, .dup, 1), (68, .getfield 36, 3), (71, .iconst 1, 1), (72, .iadd, 1), (73, .putfield 36, 3), (76, .iinc 2 1, 3), (79, .goto (-54), 3), (82, .return_, 1)]]
def px_t22 : List (List (Nat × Instr × Nat)) := [[(0, .aload_n 0, 1), (1, .ldc 46, 2), (3, .invokevirtual 48, 3), (6, .aload_n 0, 1), (7, .ldc 52, 2), (9, .invokevirtual 48, 3), (12, .aload_n 1, 1), (13, .aload_n 0, 1), (14, .iconst 0, 1), (15, .iconst 3, 1), (16, .invokevirtual 54, 3), (19, .putfield 58, 3), (22, .aload_n 0, 1), (23, .ldc 60, 2), (25, .invokevirtual 48, 3), (28, .aload_n 1, 1), (29, .aload_n 0, 1), (30, .iconst 0, 1), (31, .bipush 10, 2), (33, .invokevirtual 54, 3), (36, .putfield 62, 3), (39, .aload_n 0, 1), (40, .invokevirtual 64, 3), (43, .return_, 1)]]
def px_t23 : List (List (Nat × Instr × Nat)) := [[(0, .aload_n 0, 1), (1, .invokevirtual 67, 3), (4, .istore_n 2, 1), (5, .iload_n 2, 1), (6, .ifCond .ge 9, 3), (9, .aload_n 0, 1), (10, .iconst 1, 1), (11, .invokevirtual 71, 3), (14, .return_, 1), (15, .aload_n 1, 1), (16, .getfield 75, 3), (19, .bipush 40, 2), (21, .if_icmp .lt 9, 3), (24, .aload_n 0, 1), (25, .iconst 3, 1), (26, .invokevirtual 71, 3), (29, .return_, 1), (30, .iload_n 2, 1), (31, .istore_n 3, 1), (32, .aload_n 0, 1), (33, .invokevirtual 30, 3), (36, .iconst 1, 1), (37, .istore 4, 2), (39, .iload 4, 2), (41, .iload_n 3, 1), (42, .invokestatic 78, 3), (45, .if_icmp .gt 33, 3), (48, .iload_n 2, 1), (49, .aload_n 0, 1), (50, .iload_n 3, 1), (51, .iload 4, 2), (53, .invokestatic 84, 3), (56, .iload_n 3, 1), (57, .iload 4, 2), (59, .invokestatic 87, 3), (62, .invokevirtual 54, 3)],
  [(65, .iload 4, 2), (67, .invokestatic 90, 3), (70, .ior, 1), (71, .istore_n 2, 1), (72, .iinc 4 1, 3), (75, .goto (-36), 3), (78, .aload_n 0, 1), (79, .invokevirtual 64, 3), (82, .aload_n 1, 1), (83, .iload_n 2, 1), (84, .invokevirtual 92, 3), (87, .aload_n 1, 1), (88, .dup, 1), (89, .getfield 75, 3), (92, .iconst 1, 1), (93, .iadd, 1), (94, .putfield 75, 3), (97, .return_, 1)]]
def px_t24 : List (List (Nat × Instr × Nat)) := [[(0, .iconst 0, 1), (1, .istore_n 1, 1), (2, .iload_n 1, 1), (3, .bipush 10, 2), (5, .if_icmp .ge 22, 3), (8, .aload_n 0, 1), (9, .iload_n 1, 1), (10, .invokestatic 95, 3), (13, .invokevirtual 99, 3), (16, .ifCond .eq 5, 3), (19, .iload_n 1, 1), (20, .ireturn, 1), (21, .iinc 1 1, 3), (24, .goto (-22), 3), (27, .iconst (-1), 1), (28, .ireturn, 1)]]
def px_t25 : List (List (Nat × Instr × Nat)) := [[(0, .aload_n 0, 1), (1, .getfield 103, 3), (4, .istore_n 3, 1), (5, .aload_n 0, 1), (6, .getfield 33, 3), (9, .iconst 2, 1), (10, .if_icmp .eq 11, 3), (13, .aload_n 0, 1), (14, .iconst 1, 1), (15, .invokevirtual 71, 3), (18, .goto 18, 3), (21, .iload_n 3, 1), (22, .iload_n 1, 1), (23, .if_icmp .lt 8, 3), (26, .iload_n 3, 1), (27, .iload_n 2, 1), (28, .if_icmp .le 8, 3), (31, .aload_n 0, 1), (32, .iconst 2, 1), (33, .invokevirtual 71, 3), (36, .aload_n 0, 1), (37, .invokevirtual 30, 3), (40, .iload_n 3, 1), (41, .ireturn, 1)]]
def px_t26 : List (List (Nat × Instr × Nat)) := [[(0, .aload_n 0, 1), (1, .aload_n 1, 1), (2, .invokevirtual 99, 3), (5, .ifCond .ne 8, 3), (8, .aload_n 0, 1), (9, .iconst 1, 1), (10, .invokevirtual 71, 3), (13, .aload_n 0, 1), (14, .invokevirtual 30, 3), (17, .return_, 1)]]
def px_t27 : List (List (Nat × Instr × Nat)) := [[(0, .aload_n 0, 1), (1, .getfield 33, 3), (4, .iconst 3, 1), (5, .if_icmp .eq 8, 3), (8, .aload_n 0, 1), (9, .iconst 1, 1), (10, .invokevirtual 71, 3), (13, .aload_n 0, 1), (14, .invokevirtual 30, 3), (17, .return_, 1)]]
def px_t28 : List (List (Nat × Instr × Nat)) := [[(0, .aload_n 0, 1), (1, .getfield 24, 3), (4, .ifCond .ne 16, 3), (7, .aload_n 0, 1), (8, .iload_n 1, 1), (9, .putfield 24, 3), (12, .aload_n 0, 1), (13, .aload_n 0, 1), (14, .getfield 106, 3), (17, .putfield 9, 3), (20, .return_, 1)]]
def px_t29 : List (List (Nat × Instr × Nat)) := [[(0, .aload_n 0, 1), (1, .getfield 33, 3), (4, .iconst 1, 1), (5, .if_icmp .ne 19, 3), (8, .aload_n 0, 1), (9, .getfield 27, 3), (12, .aload_n 0, 1), (13, .getfield 106, 3), (16, .isub, 1), (17, .aload_n 1, 1), (18, .invokevirtual 109, 3), (21, .if_icmp .eq 5, 3), (24, .iconst 0, 1), (25, .ireturn, 1), (26, .iconst 0, 1), (27, .istore_n 2, 1), (28, .iload_n 2, 1), (29, .aload_n 1, 1), (30, .invokevirtual 109, 3), (33, .if_icmp .ge 32, 3), (36, .aload_n 0, 1), (37, .getfield 15, 3), (40, .aload_n 0, 1), (41, .getfield 106, 3), (44, .iload_n 2, 1), (45, .iadd, 1), (46, .invokevirtual 114, 3), (49, .aload_n 1, 1), (50, .iload_n 2, 1), (51, .invokevirtual 119, 3), (54, .if_icmp .eq 5, 3), (57, .iconst 0, 1), (58, .ireturn, 1), (59, .iinc 2 1, 3), (62, .goto (-34), 3)],
  [(65, .iconst 1, 1), (66, .ireturn, 1)]]
def px_t30 : List (List (Nat × Instr × Nat)) := [[(0, .aload_n 0, 1), (1, .aload_n 0, 1), (2, .getfield 27, 3), (5, .putfield 106, 3), (8, .aload_n 0, 1), (9, .getfield 106, 3), (12, .aload_n 0, 1), (13, .getfield 15, 3), (16, .getfield 123, 3), (19, .if_icmp .ge 33, 3), (22, .aload_n 0, 1), (23, .getfield 15, 3), (26, .aload_n 0, 1), (27, .getfield 106, 3), (30, .invokevirtual 114, 3), (33, .invokestatic 126, 3), (36, .ifCond .eq 16, 3), (39, .aload_n 0, 1), (40, .dup, 1), (41, .getfield 106, 3), (44, .iconst 1, 1), (45, .iadd, 1), (46, .putfield 106, 3), (49, .goto (-41), 3), (52, .aload_n 0, 1), (53, .aload_n 0, 1), (54, .getfield 106, 3), (57, .putfield 27, 3), (60, .aload_n 0, 1), (61, .iconst (-1), 1), (62, .putfield 103, 3)],
  [(65, .aload_n 0, 1), (66, .getfield 106, 3), (69, .aload_n 0, 1), (70, .getfield 15, 3), (73, .getfield 123, 3), (76, .if_icmp .lt 11, 3), (79, .aload_n 0, 1), (80, .iconst 0, 1), (81, .putfield 33, 3), (84, .goto 86, 3), (87, .aload_n 0, 1), (88, .getfield 15, 3), (91, .aload_n 0, 1), (92, .getfield 106, 3), (95, .invokevirtual 114, 3), (98, .invokestatic 130, 3), (101, .ifCond .eq 10, 3), (104, .aload_n 0, 1), (105, .invokevirtual 133, 3), (108, .goto 62, 3), (111, .aload_n 0, 1), (112, .getfield 15, 3), (115, .aload_n 0, 1), (116, .getfield 106, 3), (119, .invokevirtual 114, 3), (122, .invokestatic 136, 3), (125, .ifCond .eq 10, 3)],
  [(128, .aload_n 0, 1), (129, .invokevirtual 139, 3), (132, .goto 38, 3), (135, .aload_n 0, 1), (136, .aload_n 0, 1), (137, .getfield 15, 3), (140, .aload_n 0, 1), (141, .getfield 106, 3), (144, .invokevirtual 114, 3), (147, .bipush 59, 2), (149, .if_icmp .ne 7, 3), (152, .iconst 3, 1), (153, .goto 4, 3), (156, .iconst 4, 1), (157, .putfield 33, 3), (160, .aload_n 0, 1), (161, .aload_n 0, 1), (162, .getfield 106, 3), (165, .iconst 1, 1), (166, .iadd, 1), (167, .putfield 27, 3), (170, .return_, 1)]]
def px_t31 : List (List (Nat × Instr × Nat)) := [[(0, .aload_n 0, 1), (1, .iconst 1, 1), (2, .putfield 33, 3), (5, .aload_n 0, 1), (6, .getfield 27, 3), (9, .aload_n 0, 1), (10, .getfield 15, 3), (13, .getfield 123, 3), (16, .if_icmp .ge 33, 3), (19, .aload_n 0, 1), (20, .getfield 15, 3), (23, .aload_n 0, 1), (24, .getfield 27, 3), (27, .invokevirtual 114, 3), (30, .invokestatic 130, 3), (33, .ifCond .eq 16, 3), (36, .aload_n 0, 1), (37, .dup, 1), (38, .getfield 27, 3), (41, .iconst 1, 1), (42, .iadd, 1), (43, .putfield 27, 3), (46, .goto (-41), 3), (49, .return_, 1)]]
def px_t32 : List (List (Nat × Instr × Nat)) := [[(0, .aload_n 0, 1), (1, .iconst 2, 1), (2, .putfield 33, 3), (5, .aload_n 0, 1), (6, .iconst 0, 1), (7, .putfield 103, 3), (10, .aload_n 0, 1), (11, .getfield 27, 3), (14, .aload_n 0, 1), (15, .getfield 15, 3), (18, .getfield 123, 3), (21, .if_icmp .ge 65, 3), (24, .aload_n 0, 1), (25, .getfield 15, 3), (28, .aload_n 0, 1), (29, .getfield 27, 3), (32, .invokevirtual 114, 3), (35, .invokestatic 136, 3), (38, .ifCond .eq 48, 3), (41, .aload_n 0, 1), (42, .sipush 1000, 3), (45, .bipush 10, 2), (47, .aload_n 0, 1), (48, .getfield 103, 3), (51, .imul, 1), (52, .aload_n 0, 1), (53, .getfield 15, 3), (56, .aload_n 0, 1), (57, .getfield 27, 3), (60, .invokevirtual 114, 3), (63, .iadd, 1)],
  [(64, .bipush 48, 2), (66, .isub, 1), (67, .invokestatic 142, 3), (70, .putfield 103, 3), (73, .aload_n 0, 1), (74, .dup, 1), (75, .getfield 27, 3), (78, .iconst 1, 1), (79, .iadd, 1), (80, .putfield 27, 3), (83, .goto (-73), 3), (86, .return_, 1)]]
def px_t33 : List (List (Nat × Instr × Nat)) := [[(0, .iload_n 0, 1), (1, .bipush 32, 2), (3, .if_icmp .eq 9, 3), (6, .iload_n 0, 1), (7, .bipush 10, 2), (9, .if_icmp .ne 7, 3), (12, .iconst 1, 1), (13, .goto 4, 3), (16, .iconst 0, 1), (17, .ireturn, 1)]]
def px_t34 : List (List (Nat × Instr × Nat)) := [[(0, .iload_n 0, 1), (1, .bipush 97, 2), (3, .if_icmp .lt 13, 3), (6, .iload_n 0, 1), (7, .bipush 122, 2), (9, .if_icmp .gt 7, 3), (12, .iconst 1, 1), (13, .goto 4, 3), (16, .iconst 0, 1), (17, .ireturn, 1)]]
def px_t35 : List (List (Nat × Instr × Nat)) := [[(0, .iload_n 0, 1), (1, .bipush 48, 2), (3, .if_icmp .lt 13, 3), (6, .iload_n 0, 1), (7, .bipush 57, 2), (9, .if_icmp .gt 7, 3), (12, .iconst 1, 1), (13, .goto 4, 3), (16, .iconst 0, 1), (17, .ireturn, 1)]]
def px_t36 : List (List (Nat × Instr × Nat)) := [[(0, .aload_n 0, 1), (1, .getfield 9, 3), (4, .lconst 0, 1), (5, .invokestatic 15, 3), (8, .aload_n 0, 1), (9, .iconst 1, 1), (10, .putfield 21, 3), (13, .aload_n 0, 1), (14, .iload_n 1, 1), (15, .putfield 25, 3), (18, .aload_n 0, 1), (19, .iload_n 2, 1), (20, .putfield 29, 3), (23, .return_, 1)]]
def px_t37 : List (List (Nat × Instr × Nat)) := [[(0, .iload_n 1, 1), (1, .ifCond .lt 22, 3), (4, .iload_n 1, 1), (5, .aload_n 0, 1), (6, .getfield 29, 3), (9, .if_icmp .ge 14, 3), (12, .aload_n 0, 1), (13, .getfield 9, 3), (16, .iload_n 1, 1), (17, .aload_n 0, 1), (18, .lload_n 2, 1), (19, .invokevirtual 32, 3), (22, .lastore, 1), (23, .return_, 1)]]
def px_t38 : List (List (Nat × Instr × Nat)) := [[(0, .aload_n 0, 1), (1, .getfield 25, 3), (4, .tableswitch 42 0 2 #[28, 33, 38], 28), (32, .lload_n 1, 1), (33, .l2i, 1), (34, .i2b, 1), (35, .i2l, 1), (36, .lreturn, 1), (37, .lload_n 1, 1), (38, .l2i, 1), (39, .i2s, 1), (40, .i2l, 1), (41, .lreturn, 1), (42, .lload_n 1, 1), (43, .l2i, 1), (44, .i2l, 1), (45, .lreturn, 1), (46, .lload_n 1, 1), (47, .lreturn, 1)]]
def px_t39 : List (List (Nat × Instr × Nat)) := [[(0, .iload_n 1, 1), (1, .ifCond .lt 21, 3), (4, .iload_n 2, 1), (5, .ifCond .lt 17, 3), (8, .iload_n 1, 1), (9, .i2l, 1), (10, .iload_n 2, 1), (11, .i2l, 1), (12, .ladd, 1), (13, .aload_n 0, 1), (14, .getfield 29, 3), (17, .i2l, 1), (18, .lcmp, 1), (19, .ifCond .le 7, 3), (22, .iconst 1, 1), (23, .goto 4, 3), (26, .iconst 0, 1), (27, .ireturn, 1)]]
def px_t40 : List (List (Nat × Instr × Nat)) := [[(0, .aload_n 0, 1), (1, .iconst 0, 1), (2, .putfield 21, 3), (5, .aload_n 1, 1), (6, .getfield 25, 3), (9, .iconst 3, 1), (10, .irem, 1), (11, .ifCond .eq 5, 3), (14, .iconst 0, 1), (15, .ireturn, 1), (16, .iconst 0, 1), (17, .istore_n 3, 1), (18, .iload_n 3, 1), (19, .iconst 2, 1), (20, .iadd, 1), (21, .aload_n 1, 1), (22, .getfield 25, 3), (25, .if_icmp .ge 103, 3), (28, .aload_n 1, 1), (29, .getfield 28, 3), (32, .iload_n 3, 1), (33, .laload, 1), (34, .lstore 4, 2), (36, .aload_n 1, 1), (37, .getfield 28, 3), (40, .iload_n 3, 1), (41, .iconst 1, 1), (42, .iadd, 1), (43, .laload, 1), (44, .lstore 6, 2), (46, .aload_n 1, 1), (47, .getfield 28, 3), (50, .iload_n 3, 1), (51, .iconst 2, 1), (52, .iadd, 1), (53, .laload, 1), (54, .lstore 8, 2), (56, .lload 4, 2), (58, .lconst 0, 1), (59, .lcmp, 1), (60, .ifCond .lt 27, 3), (63, .lload 4, 2)],
  [(65, .iload_n 2, 1), (66, .i2l, 1), (67, .lcmp, 1), (68, .ifCond .gt 19, 3), (71, .lload 6, 2), (73, .lconst 1, 1), (74, .lcmp, 1), (75, .ifCond .lt 12, 3), (78, .lload 6, 2), (80, .ldc2_w 32, 3), (83, .lcmp, 1), (84, .ifCond .le 5, 3), (87, .iconst 0, 1), (88, .ireturn, 1), (89, .lload 8, 2), (91, .ldc2_w 34, 3), (94, .lcmp, 1), (95, .ifCond .lt 12, 3), (98, .lload 8, 2), (100, .ldc2_w 32, 3), (103, .lcmp, 1), (104, .ifCond .le 5, 3), (107, .iconst 0, 1), (108, .ireturn, 1), (109, .aload_n 0, 1), (110, .lload 4, 2), (112, .l2i, 1), (113, .lload 6, 2), (115, .l2i, 1), (116, .lload 8, 2), (118, .l2i, 1), (119, .invokevirtual 36, 3), (122, .iinc 3 3, 3), (125, .goto (-107), 3)],
  [(128, .iconst 1, 1), (129, .ireturn, 1)]]
def px_t41 : List (List (Nat × Instr × Nat)) := [[(0, .aload_n 0, 1), (1, .getfield 21, 3), (4, .bipush 20, 2), (6, .if_icmp .lt 4, 3), (9, .return_, 1), (10, .aload_n 0, 1), (11, .getfield 21, 3), (14, .istore 4, 2), (16, .iload 4, 2), (18, .ifCond .le 70, 3), (21, .aload_n 0, 1), (22, .getfield 11, 3), (25, .iload 4, 2), (27, .iconst 1, 1), (28, .isub, 1), (29, .iaload, 1), (30, .iload_n 1, 1), (31, .if_icmp .le 57, 3), (34, .aload_n 0, 1), (35, .getfield 11, 3), (38, .iload 4, 2), (40, .aload_n 0, 1), (41, .getfield 11, 3), (44, .iload 4, 2), (46, .iconst 1, 1), (47, .isub, 1), (48, .iaload, 1), (49, .iastore, 1), (50, .aload_n 0, 1), (51, .getfield 15, 3), (54, .iload 4, 2), (56, .aload_n 0, 1), (57, .getfield 15, 3), (60, .iload 4, 2), (62, .iconst 1, 1), (63, .isub, 1)],
  [(64, .iaload, 1), (65, .iastore, 1), (66, .aload_n 0, 1), (67, .getfield 18, 3), (70, .iload 4, 2), (72, .aload_n 0, 1), (73, .getfield 18, 3), (76, .iload 4, 2), (78, .iconst 1, 1), (79, .isub, 1), (80, .iaload, 1), (81, .iastore, 1), (82, .iinc 4 (-1), 3), (85, .goto (-69), 3), (88, .aload_n 0, 1), (89, .getfield 11, 3), (92, .iload 4, 2), (94, .iload_n 1, 1), (95, .iastore, 1), (96, .aload_n 0, 1), (97, .getfield 15, 3), (100, .iload 4, 2), (102, .iload_n 2, 1), (103, .iastore, 1), (104, .aload_n 0, 1), (105, .getfield 18, 3), (108, .iload 4, 2), (110, .iload_n 3, 1), (111, .iastore, 1), (112, .aload_n 0, 1), (113, .dup, 1), (114, .getfield 21, 3), (117, .iconst 1, 1), (118, .iadd, 1), (119, .putfield 21, 3), (122, .return_, 1)]]
def px_t42 : List (List (Nat × Instr × Nat)) := [[(0, .iload_n 1, 1), (1, .istore 4, 2), (3, .iload 4, 2), (5, .ifCond .lt 52, 3), (8, .iload 4, 2), (10, .aload_n 0, 1), (11, .getfield 21, 3), (14, .if_icmp .ge 43, 3), (17, .aload_n 0, 1), (18, .getfield 11, 3), (21, .iload 4, 2), (23, .iaload, 1), (24, .iload_n 2, 1), (25, .if_icmp .ne 32, 3), (28, .aload_n 3, 1), (29, .aload_n 0, 1), (30, .getfield 15, 3), (33, .iload 4, 2), (35, .iaload, 1), (36, .invokevirtual 40, 3), (39, .aload_n 0, 1), (40, .getfield 18, 3), (43, .iload 4, 2), (45, .iaload, 1), (46, .if_icmp .eq 5, 3), (49, .iconst (-1), 1), (50, .ireturn, 1), (51, .iinc 4 1, 3), (54, .goto (-51), 3), (57, .iload 4, 2), (59, .ireturn, 1)]]
def px_t43 : List (List (Nat × Instr × Nat)) := [[(0, .aload_n 0, 1), (1, .iconst 0, 1), (2, .putfield 37, 3), (5, .return_, 1)]]
def px_t44 : List (List (Nat × Instr × Nat)) := [[(0, .aload_n 0, 1), (1, .getfield 11, 3), (4, .iconst (-1), 1), (5, .invokestatic 41, 3), (8, .aload_n 0, 1), (9, .iconst 0, 1), (10, .putfield 47, 3), (13, .iconst 1, 1), (14, .istore_n 2, 1), (15, .iload_n 2, 1), (16, .bipush 15, 2), (18, .if_icmp .gt 86, 3), (21, .iconst 0, 1), (22, .istore_n 3, 1), (23, .iload_n 3, 1), (24, .bipush 8, 2), (26, .if_icmp .ge 72, 3), (29, .aload_n 1, 1), (30, .iload_n 2, 1), (31, .iload_n 3, 1), (32, .invokevirtual 50, 3), (35, .istore 4, 2), (37, .iload 4, 2), (39, .ifCond .lt 53, 3), (42, .iload 4, 2), (44, .sipush 200, 3), (47, .if_icmp .ge 45, 3), (50, .aload_n 0, 1), (51, .getfield 11, 3), (54, .iload 4, 2), (56, .iaload, 1), (57, .ifCond .ge 35, 3), (60, .aload_n 0, 1), (61, .getfield 11, 3)],
  [(64, .iload 4, 2), (66, .aload_n 0, 1), (67, .getfield 47, 3), (70, .iastore, 1), (71, .aload_n 0, 1), (72, .getfield 15, 3), (75, .aload_n 0, 1), (76, .getfield 47, 3), (79, .iload 4, 2), (81, .iastore, 1), (82, .aload_n 0, 1), (83, .dup, 1), (84, .getfield 47, 3), (87, .iconst 1, 1), (88, .iadd, 1), (89, .putfield 47, 3), (92, .iinc 3 1, 3), (95, .goto (-72), 3), (98, .iinc 2 1, 3), (101, .goto (-86), 3), (104, .return_, 1)]]
def px_t45 : List (List (Nat × Instr × Nat)) := [[(0, .iload_n 1, 1), (1, .ifCond .lt 19, 3), (4, .iload_n 1, 1), (5, .sipush 200, 3), (8, .if_icmp .ge 12, 3), (11, .aload_n 0, 1), (12, .getfield 11, 3), (15, .iload_n 1, 1), (16, .iaload, 1), (17, .goto 4, 3), (20, .iconst (-1), 1), (21, .ireturn, 1)]]
def px_t46 : List (List (Nat × Instr × Nat)) := [[(0, .iload_n 1, 1), (1, .ifCond .lt 21, 3), (4, .iload_n 1, 1), (5, .aload_n 0, 1), (6, .getfield 23, 3), (9, .arraylength, 1), (10, .if_icmp .ge 12, 3), (13, .aload_n 0, 1), (14, .getfield 23, 3), (17, .iload_n 1, 1), (18, .iaload, 1), (19, .goto 4, 3), (22, .iconst (-1), 1), (23, .ireturn, 1)]]
def px_t47 : List (List (Nat × Instr × Nat)) := [[(0, .aload_n 0, 1), (1, .getfield 26, 3), (4, .iconst 0, 1), (5, .invokestatic 41, 3), (8, .iconst 0, 1), (9, .istore_n 1, 1), (10, .iload_n 1, 1), (11, .aload_n 0, 1), (12, .getfield 37, 3), (15, .if_icmp .ge 24, 3), (18, .aload_n 0, 1), (19, .getfield 26, 3), (22, .aload_n 0, 1), (23, .getfield 23, 3), (26, .iload_n 1, 1), (27, .iaload, 1), (28, .dup2, 1), (29, .iaload, 1), (30, .iconst 1, 1), (31, .iadd, 1), (32, .iastore, 1), (33, .iinc 1 1, 3), (36, .goto (-26), 3), (39, .iconst 0, 1), (40, .istore_n 1, 1), (41, .iconst 1, 1), (42, .istore_n 2, 1), (43, .iload_n 2, 1), (44, .aload_n 0, 1), (45, .getfield 37, 3), (48, .if_icmp .ge 26, 3), (51, .aload_n 0, 1), (52, .getfield 26, 3), (55, .iload_n 2, 1), (56, .iaload, 1), (57, .aload_n 0, 1), (58, .getfield 26, 3), (61, .iload_n 1, 1), (62, .iaload, 1), (63, .if_icmp .le 5, 3)],
  [(66, .iload_n 2, 1), (67, .istore_n 1, 1), (68, .iinc 2 1, 3), (71, .goto (-28), 3), (74, .iload_n 1, 1), (75, .ireturn, 1)]]
def px_t48 : List (List (Nat × Instr × Nat)) := [[(0, .aload_n 0, 1), (1, .getfield 37, 3), (4, .aload_n 0, 1), (5, .getfield 33, 3), (8, .invokevirtual 56, 3), (11, .if_icmp .gt 106, 3), (14, .aload_n 0, 1), (15, .getfield 37, 3), (18, .bipush 70, 2), (20, .if_icmp .gt 97, 3), (23, .aload_n 0, 1), (24, .aload_n 0, 1), (25, .getfield 29, 3), (28, .aload_n 0, 1), (29, .getfield 37, 3), (32, .invokevirtual 62, 3), (35, .aload_n 0, 1), (36, .getfield 20, 3), (39, .aload_n 0, 1), (40, .getfield 37, 3), (43, .aaload, 1), (44, .invokevirtual 68, 3), (47, .iconst 0, 1), (48, .istore_n 1, 1), (49, .iload_n 1, 1), (50, .aload_n 0, 1), (51, .getfield 37, 3), (54, .if_icmp .ge 40, 3), (57, .aload_n 0, 1), (58, .getfield 23, 3), (61, .iload_n 1, 1), (62, .iaload, 1), (63, .iload_n 1, 1)],
  [(64, .if_icmp .ne 24, 3), (67, .aload_n 0, 1), (68, .getfield 20, 3), (71, .iload_n 1, 1), (72, .aaload, 1), (73, .aload_n 0, 1), (74, .getfield 20, 3), (77, .aload_n 0, 1), (78, .getfield 37, 3), (81, .aaload, 1), (82, .invokestatic 72, 3), (85, .ifCond .ne 9, 3), (88, .iinc 1 1, 3), (91, .goto (-42), 3), (94, .aload_n 0, 1), (95, .getfield 23, 3), (98, .aload_n 0, 1), (99, .getfield 37, 3), (102, .iload_n 1, 1), (103, .iastore, 1), (104, .aload_n 0, 1), (105, .dup, 1), (106, .getfield 37, 3), (109, .iconst 1, 1), (110, .iadd, 1), (111, .putfield 37, 3), (114, .goto (-114), 3), (117, .return_, 1)]]
def px_t49 : List (List (Nat × Instr × Nat)) := [[(0, .iconst 0, 1), (1, .istore_n 2, 1), (2, .iload_n 2, 1), (3, .bipush 45, 2), (5, .if_icmp .ge 21, 3), (8, .aload_n 0, 1), (9, .iload_n 2, 1), (10, .laload, 1), (11, .aload_n 1, 1), (12, .iload_n 2, 1), (13, .laload, 1), (14, .lcmp, 1), (15, .ifCond .eq 5, 3), (18, .iconst 0, 1), (19, .ireturn, 1), (20, .iinc 2 1, 3), (23, .goto (-21), 3), (26, .iconst 1, 1), (27, .ireturn, 1)]]
def px_t50 : List (List (Nat × Instr × Nat)) := [[(0, .aload_n 0, 1), (1, .aload_n 1, 1), (2, .invokevirtual 76, 3), (5, .aload_n 2, 1), (6, .lconst 0, 1), (7, .invokestatic 80, 3), (10, .iconst 1, 1), (11, .istore_n 3, 1), (12, .iload_n 3, 1), (13, .bipush 15, 2), (15, .if_icmp .gt 28, 3), (18, .aload_n 1, 1), (19, .iload_n 3, 1), (20, .invokevirtual 83, 3), (23, .ifCond .eq 14, 3), (26, .aload_n 2, 1), (27, .iload_n 3, 1), (28, .iconst 1, 1), (29, .isub, 1), (30, .aload_n 0, 1), (31, .aload_n 1, 1), (32, .iload_n 3, 1), (33, .invokevirtual 87, 3), (36, .lastore, 1), (37, .iinc 3 1, 3), (40, .goto (-28), 3), (43, .iconst 0, 1), (44, .istore_n 3, 1), (45, .iload_n 3, 1), (46, .aload_n 0, 1), (47, .getfield 47, 3), (50, .if_icmp .ge 38, 3), (53, .aload_n 2, 1), (54, .bipush 15, 2), (56, .iload_n 3, 1), (57, .iconst 4, 1), (58, .idiv, 1), (59, .iadd, 1), (60, .dup2, 1), (61, .laload, 1), (62, .aload_n 0, 1), (63, .aload_n 1, 1)],
  [(64, .aload_n 0, 1), (65, .getfield 15, 3), (68, .iload_n 3, 1), (69, .iaload, 1), (70, .invokevirtual 91, 3), (73, .bipush 16, 2), (75, .iload_n 3, 1), (76, .iconst 4, 1), (77, .irem, 1), (78, .imul, 1), (79, .lshl, 1), (80, .lor, 1), (81, .lastore, 1), (82, .iinc 3 1, 3), (85, .goto (-40), 3), (88, .return_, 1)]]
def px_t51 : List (List (Nat × Instr × Nat)) := [[(0, .lconst 0, 1), (1, .lstore_n 3, 1), (2, .bipush 7, 2), (4, .istore 5, 2), (6, .iload 5, 2), (8, .ifCond .lt 29, 3), (11, .lload_n 3, 1), (12, .bipush 7, 2), (14, .lshl, 1), (15, .aload_n 0, 1), (16, .aload_n 1, 1), (17, .iload_n 2, 1), (18, .iload 5, 2), (20, .invokevirtual 50, 3), (23, .invokevirtual 94, 3), (26, .iconst 1, 1), (27, .iadd, 1), (28, .i2l, 1), (29, .lor, 1), (30, .lstore_n 3, 1), (31, .iinc 5 (-1), 3), (34, .goto (-28), 3), (37, .lload_n 3, 1), (38, .bipush 8, 2), (40, .lshl, 1), (41, .aload_n 1, 1), (42, .getfield 98, 3), (45, .iload_n 2, 1), (46, .iaload, 1), (47, .iconst 4, 1), (48, .ishl, 1), (49, .i2l, 1), (50, .lor, 1), (51, .aload_n 1, 1), (52, .getfield 101, 3), (55, .iload_n 2, 1), (56, .iaload, 1), (57, .i2l, 1), (58, .lor, 1), (59, .lreturn, 1)]]
def px_t52 : List (List (Nat × Instr × Nat)) := [[(0, .aload_n 1, 1), (1, .getfield 104, 3), (4, .iload_n 2, 1), (5, .iaload, 1), (6, .iconst 1, 1), (7, .iadd, 1), (8, .i2l, 1), (9, .lstore_n 3, 1), (10, .lload_n 3, 1), (11, .lconst 1, 1), (12, .lcmp, 1), (13, .ifCond .ne 5, 3), (16, .lload_n 3, 1), (17, .lreturn, 1), (18, .aload_n 0, 1), (19, .aload_n 1, 1), (20, .iload_n 2, 1), (21, .invokevirtual 107, 3), (24, .invokevirtual 94, 3), (27, .iconst 1, 1), (28, .iadd, 1), (29, .istore 5, 2), (31, .lload_n 3, 1), (32, .aload_n 1, 1), (33, .iload_n 2, 1), (34, .invokevirtual 110, 3), (37, .iconst 2, 1), (38, .ishl, 1), (39, .i2l, 1), (40, .lor, 1), (41, .iload 5, 2), (43, .bipush 8, 2), (45, .ishl, 1), (46, .i2l, 1), (47, .lor, 1), (48, .lreturn, 1)]]
def px_t53 : List (List (Nat × Instr × Nat)) := [[(0, .aload_n 0, 1), (1, .getfield 15, 3), (4, .aload_n 0, 1), (5, .getfield 19, 3), (8, .iadd, 1), (9, .ireturn, 1)]]
def px_t54 : List (List (Nat × Instr × Nat)) := [[(0, .iload_n 1, 1), (1, .ifCond .lt 18, 3), (4, .iload_n 1, 1), (5, .bipush 70, 2), (7, .if_icmp .ge 12, 3), (10, .aload_n 0, 1), (11, .getfield 9, 3), (14, .iload_n 1, 1), (15, .iaload, 1), (16, .goto 4, 3), (19, .iconst 0, 1), (20, .ireturn, 1)]]
def px_t55 : List (List (Nat × Instr × Nat)) := [[(0, .aload_n 0, 1), (1, .invokevirtual 22, 3), (4, .bipush 70, 2), (6, .if_icmp .ge 13, 3), (9, .aload_n 0, 1), (10, .getfield 9, 3), (13, .aload_n 0, 1), (14, .invokevirtual 22, 3), (17, .iload_n 1, 1), (18, .iastore, 1), (19, .return_, 1)]]
def px_t56 : List (List (Nat × Instr × Nat)) := [[(0, .aload_n 0, 1), (1, .iconst 0, 1), (2, .putfield 26, 3), (5, .aload_n 0, 1), (6, .iconst 0, 1), (7, .putfield 29, 3), (10, .aload_n 0, 1), (11, .iconst 0, 1), (12, .putfield 32, 3), (15, .aload_n 0, 1), (16, .iconst 0, 1), (17, .putfield 15, 3), (20, .aload_n 0, 1), (21, .iconst 0, 1), (22, .putfield 19, 3), (25, .return_, 1)]]
def px_t57 : List (List (Nat × Instr × Nat)) := [[(0, .aload_n 1, 1), (1, .getfield 9, 3), (4, .iconst 0, 1), (5, .aload_n 0, 1), (6, .getfield 9, 3), (9, .iconst 0, 1), (10, .bipush 70, 2), (12, .invokestatic 35, 3), (15, .aload_n 0, 1), (16, .aload_n 1, 1), (17, .getfield 26, 3), (20, .putfield 26, 3), (23, .aload_n 0, 1), (24, .aload_n 1, 1), (25, .getfield 29, 3), (28, .putfield 29, 3), (31, .aload_n 0, 1), (32, .aload_n 1, 1), (33, .getfield 32, 3), (36, .putfield 32, 3), (39, .aload_n 0, 1), (40, .aload_n 1, 1), (41, .getfield 15, 3), (44, .putfield 15, 3), (47, .aload_n 0, 1), (48, .aload_n 1, 1), (49, .getfield 19, 3), (52, .putfield 19, 3), (55, .return_, 1)]]
def px_t58 : List (List (Nat × Instr × Nat)) := [[(0, .bipush 24, 2), (2, .istore_n 2, 1), (3, .iload_n 2, 1), (4, .ifCond .lt 45, 3), (7, .aload_n 0, 1), (8, .getfield 15, 3), (11, .sipush 900, 3), (14, .if_icmp .ge 35, 3), (17, .aload_n 0, 1), (18, .getfield 9, 3), (21, .aload_n 0, 1), (22, .getfield 15, 3), (25, .iload_n 1, 1), (26, .iload_n 2, 1), (27, .iushr, 1), (28, .sipush 255, 3), (31, .iand, 1), (32, .iastore, 1), (33, .aload_n 0, 1), (34, .dup, 1), (35, .getfield 15, 3), (38, .iconst 1, 1), (39, .iadd, 1), (40, .putfield 15, 3), (43, .iinc 2 (-8), 3), (46, .goto (-43), 3), (49, .return_, 1)]]
def px_t59 : List (List (Nat × Instr × Nat)) := [[(0, .iload_n 1, 1), (1, .ifCond .lt 20, 3), (4, .iload_n 1, 1), (5, .aload_n 0, 1), (6, .getfield 15, 3), (9, .if_icmp .ge 12, 3), (12, .aload_n 0, 1), (13, .getfield 9, 3), (16, .iload_n 1, 1), (17, .iaload, 1), (18, .goto 5, 3), (21, .bipush 32, 2), (23, .ireturn, 1)]]
def px_t60 : List (List (Nat × Instr × Nat)) := [[(0, .aload_n 0, 1), (1, .iconst 1, 1), (2, .putfield 36, 3), (5, .aload_n 0, 1), (6, .iconst 1, 1), (7, .putfield 40, 3), (10, .aload_n 0, 1), (11, .iconst 0, 1), (12, .putfield 43, 3), (15, .aload_n 0, 1), (16, .getfield 9, 3), (19, .iconst 0, 1), (20, .invokestatic 46, 3), (23, .aload_n 0, 1), (24, .getfield 15, 3), (27, .iconst 0, 1), (28, .invokestatic 46, 3), (31, .aload_n 0, 1), (32, .getfield 15, 3), (35, .iconst 1, 1), (36, .iconst 1, 1), (37, .iastore, 1), (38, .aload_n 0, 1), (39, .getfield 18, 3), (42, .iconst 0, 1), (43, .invokestatic 46, 3), (46, .aload_n 0, 1), (47, .getfield 21, 3), (50, .iconst (-1), 1), (51, .invokestatic 46, 3), (54, .aload_n 0, 1), (55, .getfield 27, 3), (58, .iconst 0, 1), (59, .invokestatic 46, 3), (62, .return_, 1)]]
def px_t61 : List (List (Nat × Instr × Nat)) := [[(0, .aload_n 0, 1), (1, .aload_n 1, 1), (2, .getfield 36, 3), (5, .putfield 36, 3), (8, .aload_n 0, 1), (9, .aload_n 1, 1), (10, .getfield 40, 3), (13, .putfield 40, 3), (16, .aload_n 0, 1), (17, .aload_n 1, 1), (18, .getfield 43, 3), (21, .putfield 43, 3), (24, .aload_n 1, 1), (25, .getfield 9, 3), (28, .iconst 0, 1), (29, .aload_n 0, 1), (30, .getfield 9, 3), (33, .iconst 0, 1), (34, .aload_n 0, 1), (35, .getfield 9, 3), (38, .arraylength, 1), (39, .invokestatic 52, 3), (42, .aload_n 1, 1), (43, .getfield 15, 3), (46, .iconst 0, 1), (47, .aload_n 0, 1), (48, .getfield 15, 3), (51, .iconst 0, 1), (52, .aload_n 0, 1), (53, .getfield 15, 3), (56, .arraylength, 1), (57, .invokestatic 52, 3), (60, .aload_n 1, 1), (61, .getfield 18, 3)],
  [(64, .iconst 0, 1), (65, .aload_n 0, 1), (66, .getfield 18, 3), (69, .iconst 0, 1), (70, .aload_n 0, 1), (71, .getfield 18, 3), (74, .arraylength, 1), (75, .invokestatic 52, 3), (78, .aload_n 1, 1), (79, .getfield 21, 3), (82, .iconst 0, 1), (83, .aload_n 0, 1), (84, .getfield 21, 3), (87, .iconst 0, 1), (88, .aload_n 0, 1), (89, .getfield 21, 3), (92, .arraylength, 1), (93, .invokestatic 52, 3), (96, .aload_n 1, 1), (97, .getfield 24, 3), (100, .iconst 0, 1), (101, .aload_n 0, 1), (102, .getfield 24, 3), (105, .iconst 0, 1), (106, .aload_n 0, 1), (107, .getfield 24, 3), (110, .arraylength, 1), (111, .invokestatic 52, 3), (114, .aload_n 1, 1), (115, .getfield 27, 3), (118, .iconst 0, 1), (119, .aload_n 0, 1), (120, .getfield 27, 3), (123, .iconst 0, 1), (124, .aload_n 0, 1), (125, .getfield 27, 3)],
  [(128, .arraylength, 1), (129, .invokestatic 52, 3), (132, .aload_n 1, 1), (133, .getfield 30, 3), (136, .iconst 0, 1), (137, .aload_n 0, 1), (138, .getfield 30, 3), (141, .iconst 0, 1), (142, .aload_n 0, 1), (143, .getfield 30, 3), (146, .arraylength, 1), (147, .invokestatic 52, 3), (150, .return_, 1)]]
def px_t62 : List (List (Nat × Instr × Nat)) := [[(0, .aload_n 0, 1), (1, .getfield 18, 3), (4, .iconst 0, 1), (5, .invokestatic 46, 3), (8, .return_, 1)]]
def px_t63 : List (List (Nat × Instr × Nat)) := [[(0, .iload_n 1, 1), (1, .iconst 1, 1), (2, .if_icmp .lt 26, 3), (5, .iload_n 1, 1), (6, .bipush 15, 2), (8, .if_icmp .gt 20, 3), (11, .aload_n 0, 1), (12, .getfield 36, 3), (15, .iload_n 1, 1), (16, .iconst 1, 1), (17, .isub, 1), (18, .ishr, 1), (19, .iconst 1, 1), (20, .iand, 1), (21, .ifCond .eq 7, 3), (24, .iconst 1, 1), (25, .goto 4, 3), (28, .iconst 0, 1), (29, .ireturn, 1)]]
def px_t64 : List (List (Nat × Instr × Nat)) := [[(0, .aload_n 0, 1), (1, .iload_n 1, 1), (2, .invokevirtual 58, 3), (5, .ifCond .eq 12, 3), (8, .aload_n 0, 1), (9, .getfield 9, 3), (12, .iload_n 1, 1), (13, .iaload, 1), (14, .goto 4, 3), (17, .iconst (-1), 1), (18, .ireturn, 1)]]
def px_t65 : List (List (Nat × Instr × Nat)) := [[(0, .iconst 0, 1), (1, .istore_n 2, 1), (2, .iload_n 1, 1), (3, .istore_n 3, 1), (4, .iload_n 3, 1), (5, .ifCond .le 28, 3), (8, .iload_n 3, 1), (9, .bipush 15, 2), (11, .if_icmp .gt 22, 3), (14, .iload_n 2, 1), (15, .bipush 15, 2), (17, .if_icmp .gt 16, 3), (20, .aload_n 0, 1), (21, .getfield 9, 3), (24, .iload_n 3, 1), (25, .iaload, 1), (26, .istore_n 3, 1), (27, .iinc 2 1, 3), (30, .goto (-26), 3), (33, .iload_n 2, 1), (34, .ireturn, 1)]]
def px_t66 : List (List (Nat × Instr × Nat)) := [[(0, .iload_n 1, 1), (1, .istore_n 3, 1), (2, .iconst 0, 1), (3, .istore 4, 2), (5, .iload 4, 2), (7, .bipush 15, 2), (9, .if_icmp .gt 33, 3), (12, .iload_n 3, 1), (13, .ifCond .le 29, 3), (16, .iload_n 3, 1), (17, .bipush 15, 2), (19, .if_icmp .gt 23, 3), (22, .aload_n 0, 1), (23, .getfield 9, 3), (26, .iload_n 3, 1), (27, .iaload, 1), (28, .istore_n 3, 1), (29, .iload_n 3, 1), (30, .iload_n 2, 1), (31, .if_icmp .ne 5, 3), (34, .iconst 1, 1), (35, .ireturn, 1), (36, .iinc 4 1, 3), (39, .goto (-34), 3), (42, .iconst 0, 1), (43, .ireturn, 1)]]
def px_t67 : List (List (Nat × Instr × Nat)) := [[(0, .iconst 0, 1), (1, .istore_n 2, 1), (2, .iconst 1, 1), (3, .istore_n 3, 1), (4, .iload_n 3, 1), (5, .bipush 15, 2), (7, .if_icmp .gt 29, 3), (10, .aload_n 0, 1), (11, .iload_n 3, 1), (12, .invokevirtual 58, 3), (15, .ifCond .eq 15, 3), (18, .aload_n 0, 1), (19, .iload_n 3, 1), (20, .iload_n 1, 1), (21, .invokevirtual 62, 3), (24, .ifCond .eq 6, 3), (27, .iinc 2 1, 3), (30, .iinc 3 1, 3), (33, .goto (-29), 3), (36, .iload_n 2, 1), (37, .ireturn, 1)]]
def px_t68 : List (List (Nat × Instr × Nat)) := [[(0, .iload_n 1, 1), (1, .bipush 8, 2), (3, .imul, 1), (4, .iload_n 2, 1), (5, .iadd, 1), (6, .istore_n 3, 1), (7, .iload_n 3, 1), (8, .ifCond .lt 21, 3), (11, .iload_n 3, 1), (12, .aload_n 0, 1), (13, .getfield 21, 3), (16, .arraylength, 1), (17, .if_icmp .ge 12, 3), (20, .aload_n 0, 1), (21, .getfield 21, 3), (24, .iload_n 3, 1), (25, .iaload, 1), (26, .goto 4, 3), (29, .iconst (-1), 1), (30, .ireturn, 1)]]
def px_t69 : List (List (Nat × Instr × Nat)) := [[(0, .iconst 0, 1), (1, .istore_n 2, 1), (2, .bipush 8, 2), (4, .istore_n 3, 1), (5, .iload_n 3, 1), (6, .aload_n 0, 1), (7, .getfield 21, 3), (10, .arraylength, 1), (11, .if_icmp .ge 29, 3), (14, .aload_n 0, 1), (15, .getfield 21, 3), (18, .iload_n 3, 1), (19, .iaload, 1), (20, .iload_n 1, 1), (21, .if_icmp .ne 13, 3), (24, .iload_n 2, 1), (25, .iload_n 3, 1), (26, .bipush 8, 2), (28, .idiv, 1), (29, .invokestatic 66, 3), (32, .ior, 1), (33, .istore_n 2, 1), (34, .iinc 3 1, 3), (37, .goto (-32), 3), (40, .iload_n 2, 1), (41, .ireturn, 1)]]
def px_t70 : List (List (Nat × Instr × Nat)) := [[(0, .aload_n 0, 1), (1, .iload_n 1, 1), (2, .invokevirtual 70, 3), (5, .istore_n 2, 1), (6, .iload_n 2, 1), (7, .ifCond .lt 21, 3), (10, .aload_n 0, 1), (11, .getfield 27, 3), (14, .iload_n 2, 1), (15, .iaload, 1), (16, .aload_n 0, 1), (17, .getfield 27, 3), (20, .iload_n 2, 1), (21, .iconst 1, 1), (22, .iadd, 1), (23, .iaload, 1), (24, .iadd, 1), (25, .ifCond .ne 5, 3), (28, .iconst (-1), 1), (29, .ireturn, 1), (30, .aload_n 0, 1), (31, .getfield 30, 3), (34, .iload_n 2, 1), (35, .iaload, 1), (36, .ireturn, 1)]]
def px_t71 : List (List (Nat × Instr × Nat)) := [[(0, .iload_n 1, 1), (1, .ifCond .lt 11, 3), (4, .iload_n 1, 1), (5, .aload_n 0, 1), (6, .getfield 43, 3), (9, .if_icmp .lt 5, 3), (12, .iconst (-1), 1), (13, .ireturn, 1), (14, .aload_n 0, 1), (15, .getfield 24, 3), (18, .iload_n 1, 1), (19, .iaload, 1), (20, .iconst 1, 1), (21, .if_icmp .ne 15, 3), (24, .iload_n 1, 1), (25, .iconst 1, 1), (26, .iadd, 1), (27, .aload_n 0, 1), (28, .getfield 43, 3), (31, .if_icmp .ge 5, 3), (34, .iload_n 1, 1), (35, .ireturn, 1), (36, .aload_n 0, 1), (37, .getfield 24, 3), (40, .iload_n 1, 1), (41, .iaload, 1), (42, .iconst 2, 1), (43, .if_icmp .ne 13, 3), (46, .iload_n 1, 1), (47, .ifCond .le 9, 3), (50, .iload_n 1, 1), (51, .iconst 1, 1), (52, .isub, 1), (53, .goto 4, 3), (56, .iconst (-1), 1), (57, .ireturn, 1)]]
def px_t72 : List (List (Nat × Instr × Nat)) := [[(0, .aload_n 0, 1), (1, .iload_n 1, 1), (2, .invokevirtual 70, 3), (5, .istore_n 2, 1), (6, .iload_n 2, 1), (7, .ifCond .ge 5, 3), (10, .iconst (-1), 1), (11, .ireturn, 1), (12, .iload_n 2, 1), (13, .iload_n 1, 1), (14, .if_icmp .ne 9, 3), (17, .iload_n 2, 1), (18, .iconst 1, 1), (19, .iadd, 1), (20, .goto 4, 3), (23, .iload_n 2, 1), (24, .ireturn, 1)]]
def px_t73 : List (List (Nat × Instr × Nat)) := [[(0, .iload_n 1, 1), (1, .invokestatic 73, 3), (4, .istore_n 3, 1), (5, .iload_n 1, 1), (6, .iconst 1, 1), (7, .invokestatic 78, 3), (10, .istore 4, 2), (12, .iload_n 1, 1), (13, .iconst 2, 1), (14, .invokestatic 78, 3), (17, .istore 5, 2), (19, .iload_n 1, 1), (20, .iconst 3, 1), (21, .invokestatic 78, 3), (24, .istore 6, 2), (26, .aload_n 0, 1), (27, .iload 4, 2), (29, .invokevirtual 58, 3), (32, .ifCond .ne 5, 3), (35, .iconst 1, 1), (36, .ireturn, 1), (37, .iload_n 3, 1), (38, .tableswitch 144 0 8 #[50, 59, 66, 74, 83, 94, 105, 114, 129], 50)],
  [(88, .aload_n 0, 1), (89, .iload 4, 2), (91, .iload 5, 2), (93, .invokevirtual 82, 3), (96, .ireturn, 1), (97, .aload_n 0, 1), (98, .iload 4, 2), (100, .invokevirtual 85, 3), (103, .ireturn, 1), (104, .aload_n 0, 1), (105, .iload 4, 2), (107, .iload_n 2, 1), (108, .invokevirtual 88, 3), (111, .ireturn, 1), (112, .aload_n 0, 1), (113, .iload 4, 2), (115, .iload 5, 2), (117, .invokevirtual 91, 3), (120, .ireturn, 1), (121, .aload_n 0, 1), (122, .iload 4, 2), (124, .iload 5, 2), (126, .iload 6, 2)],
  [(128, .invokevirtual 94, 3), (131, .ireturn, 1), (132, .aload_n 0, 1), (133, .iload 4, 2), (135, .iload 5, 2), (137, .iload 6, 2), (139, .invokevirtual 98, 3), (142, .ireturn, 1), (143, .aload_n 0, 1), (144, .iload 4, 2), (146, .iload 5, 2), (148, .invokevirtual 101, 3), (151, .ireturn, 1), (152, .aload_n 0, 1), (153, .aload_n 0, 1), (154, .iload 4, 2), (156, .iload 5, 2), (158, .invokevirtual 104, 3), (161, .iload 6, 2), (163, .invokevirtual 107, 3), (166, .ireturn, 1), (167, .aload_n 0, 1), (168, .aload_n 0, 1), (169, .iload 4, 2), (171, .iload 5, 2), (173, .invokevirtual 104, 3), (176, .iload 6, 2), (178, .invokevirtual 110, 3), (181, .ireturn, 1), (182, .aload_n 0, 1), (183, .getfield 18, 3), (186, .iload 4, 2), (188, .dup2, 1), (189, .iaload, 1), (190, .iconst 1, 1), (191, .iload 5, 2)],
  [(193, .ishl, 1), (194, .ior, 1), (195, .iastore, 1), (196, .iconst 0, 1), (197, .ireturn, 1)]]
def px_t74 : List (List (Nat × Instr × Nat)) := [[(0, .iload_n 2, 1), (1, .iconst 1, 1), (2, .if_icmp .lt 21, 3), (5, .iload_n 2, 1), (6, .bipush 15, 2), (8, .if_icmp .gt 15, 3), (11, .aload_n 0, 1), (12, .getfield 40, 3), (15, .iload_n 2, 1), (16, .invokestatic 66, 3), (19, .iand, 1), (20, .ifCond .eq 5, 3), (23, .iconst 2, 1), (24, .ireturn, 1), (25, .aload_n 0, 1), (26, .dup, 1), (27, .getfield 36, 3), (30, .iload_n 2, 1), (31, .invokestatic 66, 3), (34, .ior, 1), (35, .putfield 36, 3), (38, .aload_n 0, 1), (39, .dup, 1), (40, .getfield 40, 3), (43, .iload_n 2, 1), (44, .invokestatic 66, 3), (47, .ior, 1), (48, .putfield 40, 3), (51, .aload_n 0, 1), (52, .getfield 9, 3), (55, .iload_n 2, 1), (56, .iload_n 1, 1), (57, .iastore, 1), (58, .aload_n 0, 1), (59, .getfield 15, 3), (62, .iload_n 2, 1), (63, .aload_n 0, 1)],
  [(64, .getfield 15, 3), (67, .iload_n 1, 1), (68, .iaload, 1), (69, .iastore, 1), (70, .aload_n 0, 1), (71, .getfield 18, 3), (74, .iload_n 2, 1), (75, .sipush 255, 3), (78, .iastore, 1), (79, .iconst 0, 1), (80, .istore_n 3, 1), (81, .iload_n 3, 1), (82, .bipush 8, 2), (84, .if_icmp .ge 21, 3), (87, .aload_n 0, 1), (88, .iload_n 2, 1), (89, .iload_n 3, 1), (90, .aload_n 0, 1), (91, .iload_n 1, 1), (92, .iload_n 3, 1), (93, .invokevirtual 104, 3), (96, .invokevirtual 113, 3), (99, .iinc 3 1, 3), (102, .goto (-21), 3), (105, .iconst 0, 1), (106, .ireturn, 1)]]
def px_t75 : List (List (Nat × Instr × Nat)) := [[(0, .aload_n 0, 1), (1, .getfield 15, 3), (4, .iload_n 1, 1), (5, .iaload, 1), (6, .iload_n 1, 1), (7, .if_icmp .ne 5, 3), (10, .iconst 2, 1), (11, .ireturn, 1), (12, .aload_n 0, 1), (13, .getfield 15, 3), (16, .iload_n 1, 1), (17, .iload_n 1, 1), (18, .iastore, 1), (19, .iconst 0, 1), (20, .ireturn, 1)]]
def px_t76 : List (List (Nat × Instr × Nat)) := [[(0, .iload_n 1, 1), (1, .iconst 1, 1), (2, .if_icmp .ne 5, 3), (5, .iconst 2, 1), (6, .ireturn, 1), (7, .aload_n 0, 1), (8, .dup, 1), (9, .getfield 36, 3), (12, .iload_n 1, 1), (13, .invokestatic 66, 3), (16, .iconst (-1), 1), (17, .ixor, 1), (18, .iand, 1), (19, .putfield 36, 3), (22, .iconst 0, 1), (23, .istore_n 3, 1), (24, .iload_n 3, 1), (25, .bipush 8, 2), (27, .if_icmp .ge 16, 3), (30, .aload_n 0, 1), (31, .iload_n 1, 1), (32, .iload_n 3, 1), (33, .iconst (-1), 1), (34, .invokevirtual 113, 3), (37, .iinc 3 1, 3), (40, .goto (-16), 3), (43, .iconst 0, 1), (44, .istore_n 3, 1), (45, .iconst 1, 1), (46, .istore 4, 2), (48, .iload 4, 2), (50, .bipush 15, 2), (52, .if_icmp .gt 51, 3), (55, .aload_n 0, 1), (56, .iload 4, 2), (58, .invokevirtual 117, 3), (61, .iload_n 1, 1), (62, .if_icmp .ne 35, 3)],
  [(65, .aload_n 0, 1), (66, .getfield 9, 3), (69, .iload 4, 2), (71, .aload_n 0, 1), (72, .iload 4, 2), (74, .aload_n 0, 1), (75, .getfield 9, 3), (78, .iload_n 1, 1), (79, .iaload, 1), (80, .iload_n 3, 1), (81, .iload_n 2, 1), (82, .invokevirtual 120, 3), (85, .iastore, 1), (86, .iload_n 3, 1), (87, .ifCond .ne 8, 3), (90, .iload 4, 2), (92, .goto 4, 3), (95, .iload_n 3, 1), (96, .istore_n 3, 1), (97, .iinc 4 1, 3), (100, .goto (-52), 3), (103, .iconst 0, 1), (104, .ireturn, 1)]]
def px_t77 : List (List (Nat × Instr × Nat)) := [[(0, .iload 4, 2), (2, .iconst 1, 1), (3, .if_icmp .ne 5, 3), (6, .iload_n 2, 1), (7, .ireturn, 1), (8, .iload 4, 2), (10, .iconst 3, 1), (11, .if_icmp .ne 13, 3), (14, .iload_n 3, 1), (15, .ifCond .ne 7, 3), (18, .iload_n 2, 1), (19, .goto 4, 3), (22, .iload_n 3, 1), (23, .ireturn, 1), (24, .iload 4, 2), (26, .iconst 2, 1), (27, .if_icmp .ne 55, 3), (30, .aload_n 0, 1), (31, .getfield 15, 3), (34, .iload_n 1, 1), (35, .iaload, 1), (36, .istore 5, 2), (38, .aload_n 0, 1), (39, .iload 5, 2), (41, .invokevirtual 58, 3), (44, .ifCond .eq 23, 3), (47, .iload 5, 2), (49, .iload_n 1, 1), (50, .if_icmp .eq 17, 3), (53, .aload_n 0, 1), (54, .iload 5, 2), (56, .iload_n 1, 1), (57, .invokevirtual 62, 3), (60, .ifCond .ne 7, 3), (63, .iconst 1, 1)],
  [(64, .goto 4, 3), (67, .iconst 0, 1), (68, .istore 6, 2), (70, .iload 6, 2), (72, .ifCond .eq 8, 3), (75, .iload 5, 2), (77, .goto 4, 3), (80, .iconst 1, 1), (81, .ireturn, 1), (82, .iconst 1, 1), (83, .ireturn, 1)]]
def px_t78 : List (List (Nat × Instr × Nat)) := [[(0, .aload_n 0, 1), (1, .iload_n 1, 1), (2, .iload_n 2, 1), (3, .invokevirtual 104, 3), (6, .ifCond .lt 5, 3), (9, .iconst 3, 1), (10, .ireturn, 1), (11, .aload_n 0, 1), (12, .iload_n 1, 1), (13, .iload_n 2, 1), (14, .aload_n 0, 1), (15, .iconst 0, 1), (16, .invokevirtual 124, 3), (19, .invokevirtual 113, 3), (22, .iconst 0, 1), (23, .ireturn, 1)]]
def px_t79 : List (List (Nat × Instr × Nat)) := [[(0, .iload_n 2, 1), (1, .iload_n 3, 1), (2, .if_icmp .eq 21, 3), (5, .aload_n 0, 1), (6, .iload_n 1, 1), (7, .iload_n 2, 1), (8, .invokevirtual 104, 3), (11, .ifCond .ge 12, 3), (14, .aload_n 0, 1), (15, .iload_n 1, 1), (16, .iload_n 3, 1), (17, .invokevirtual 104, 3), (20, .ifCond .lt 5, 3), (23, .iconst 3, 1), (24, .ireturn, 1), (25, .aload_n 0, 1), (26, .iload_n 1, 1), (27, .iload_n 2, 1), (28, .aload_n 0, 1), (29, .iconst 1, 1), (30, .invokevirtual 124, 3), (33, .invokevirtual 113, 3), (36, .aload_n 0, 1), (37, .iload_n 1, 1), (38, .iload_n 3, 1), (39, .aload_n 0, 1), (40, .iconst 2, 1), (41, .invokevirtual 124, 3), (44, .invokevirtual 113, 3), (47, .iconst 0, 1), (48, .ireturn, 1)]]
def px_t80 : List (List (Nat × Instr × Nat)) := [[(0, .aload_n 0, 1), (1, .iload_n 1, 1), (2, .iload_n 2, 1), (3, .invokevirtual 104, 3), (6, .ifCond .lt 12, 3), (9, .aload_n 0, 1), (10, .iload_n 1, 1), (11, .iload_n 3, 1), (12, .invokevirtual 104, 3), (15, .ifCond .lt 5, 3), (18, .iconst 3, 1), (19, .ireturn, 1), (20, .aload_n 0, 1), (21, .iload_n 1, 1), (22, .iload_n 3, 1), (23, .aload_n 0, 1), (24, .iload_n 1, 1), (25, .iload_n 2, 1), (26, .invokevirtual 104, 3), (29, .invokevirtual 113, 3), (32, .iconst 0, 1), (33, .ireturn, 1)]]
def px_t81 : List (List (Nat × Instr × Nat)) := [[(0, .aload_n 0, 1), (1, .iload_n 1, 1), (2, .iload_n 2, 1), (3, .invokevirtual 104, 3), (6, .ifCond .ge 5, 3), (9, .iconst 3, 1), (10, .ireturn, 1), (11, .aload_n 0, 1), (12, .iload_n 1, 1), (13, .iload_n 2, 1), (14, .iconst (-1), 1), (15, .invokevirtual 113, 3), (18, .iconst 0, 1), (19, .ireturn, 1)]]
def px_t82 : List (List (Nat × Instr × Nat)) := [[(0, .iload_n 1, 1), (1, .ifCond .ge 5, 3), (4, .iconst 3, 1), (5, .ireturn, 1), (6, .aload_n 0, 1), (7, .iload_n 1, 1), (8, .invokevirtual 70, 3), (11, .istore_n 3, 1), (12, .iload_n 3, 1), (13, .ifCond .lt 8, 3), (16, .iload_n 3, 1), (17, .iload_n 1, 1), (18, .if_icmp .ne 5, 3), (21, .iconst 4, 1), (22, .ireturn, 1), (23, .aload_n 0, 1), (24, .getfield 27, 3), (27, .iload_n 3, 1), (28, .iaload, 1), (29, .ifCond .ne 5, 3), (32, .iconst 5, 1), (33, .ireturn, 1), (34, .aload_n 0, 1), (35, .getfield 30, 3), (38, .iload_n 3, 1), (39, .iaload, 1), (40, .iload_n 2, 1), (41, .iadd, 1), (42, .bipush 60, 2), (44, .if_icmp .le 6, 3), (47, .bipush 6, 2), (49, .ireturn, 1), (50, .aload_n 0, 1), (51, .getfield 30, 3), (54, .iload_n 3, 1), (55, .dup2, 1), (56, .iaload, 1), (57, .iload_n 2, 1), (58, .iadd, 1), (59, .iastore, 1), (60, .iconst 0, 1), (61, .ireturn, 1)]]
def px_t83 : List (List (Nat × Instr × Nat)) := [[(0, .iload_n 1, 1), (1, .ifCond .ge 5, 3), (4, .iconst 3, 1), (5, .ireturn, 1), (6, .aload_n 0, 1), (7, .iload_n 1, 1), (8, .invokevirtual 70, 3), (11, .istore_n 3, 1), (12, .iload_n 3, 1), (13, .ifCond .lt 8, 3), (16, .iload_n 3, 1), (17, .iload_n 1, 1), (18, .if_icmp .eq 5, 3), (21, .iconst 4, 1), (22, .ireturn, 1), (23, .aload_n 0, 1), (24, .getfield 30, 3), (27, .iload_n 3, 1), (28, .iaload, 1), (29, .iload_n 2, 1), (30, .if_icmp .ge 16, 3), (33, .aload_n 0, 1), (34, .getfield 27, 3), (37, .iload_n 3, 1), (38, .iconst 1, 1), (39, .iadd, 1), (40, .iaload, 1), (41, .ifCond .le 5, 3), (44, .iconst 5, 1), (45, .ireturn, 1), (46, .aload_n 0, 1), (47, .getfield 30, 3), (50, .iload_n 3, 1), (51, .dup2, 1), (52, .iaload, 1), (53, .iload_n 2, 1), (54, .aload_n 0, 1), (55, .getfield 30, 3), (58, .iload_n 3, 1), (59, .iaload, 1), (60, .invokestatic 127, 3), (63, .isub, 1)],
  [(64, .iastore, 1), (65, .iconst 0, 1), (66, .ireturn, 1)]]
def px_t84 : List (List (Nat × Instr × Nat)) := [[(0, .aload_n 0, 1), (1, .getfield 43, 3), (4, .sipush 200, 3), (7, .if_icmp .lt 5, 3), (10, .iconst (-1), 1), (11, .ireturn, 1), (12, .aload_n 0, 1), (13, .getfield 24, 3), (16, .aload_n 0, 1), (17, .getfield 43, 3), (20, .iload_n 1, 1), (21, .iastore, 1), (22, .aload_n 0, 1), (23, .getfield 30, 3), (26, .aload_n 0, 1), (27, .getfield 43, 3), (30, .iconst 0, 1), (31, .iastore, 1), (32, .aload_n 0, 1), (33, .dup, 1), (34, .getfield 43, 3), (37, .iconst 1, 1), (38, .iadd, 1), (39, .putfield 43, 3), (42, .aload_n 0, 1), (43, .getfield 43, 3), (46, .iconst 1, 1), (47, .isub, 1), (48, .ireturn, 1)]]
def px_t85 : List (List (Nat × Instr × Nat)) := [[(0, .iload_n 1, 1), (1, .bipush 8, 2), (3, .imul, 1), (4, .iload_n 2, 1), (5, .iadd, 1), (6, .istore 4, 2), (8, .iload 4, 2), (10, .ifCond .lt 13, 3), (13, .iload 4, 2), (15, .aload_n 0, 1), (16, .getfield 21, 3), (19, .arraylength, 1), (20, .if_icmp .lt 4, 3), (23, .return_, 1), (24, .aload_n 0, 1), (25, .getfield 21, 3), (28, .iload 4, 2), (30, .iaload, 1), (31, .ifCond .lt 32, 3), (34, .aload_n 0, 1), (35, .getfield 21, 3), (38, .iload 4, 2), (40, .iaload, 1), (41, .sipush 200, 3), (44, .if_icmp .ge 19, 3), (47, .aload_n 0, 1), (48, .getfield 27, 3), (51, .aload_n 0, 1), (52, .getfield 21, 3), (55, .iload 4, 2), (57, .iaload, 1), (58, .dup2, 1), (59, .iaload, 1), (60, .iconst 1, 1), (61, .isub, 1), (62, .iastore, 1), (63, .aload_n 0, 1)],
  [(64, .getfield 21, 3), (67, .iload 4, 2), (69, .iload_n 3, 1), (70, .iastore, 1), (71, .iload_n 3, 1), (72, .ifCond .lt 20, 3), (75, .iload_n 3, 1), (76, .sipush 200, 3), (79, .if_icmp .ge 13, 3), (82, .aload_n 0, 1), (83, .getfield 27, 3), (86, .iload_n 3, 1), (87, .dup2, 1), (88, .iaload, 1), (89, .iconst 1, 1), (90, .iadd, 1), (91, .iastore, 1), (92, .return_, 1)]]
def px_t86 : List (List (Nat × Instr × Nat)) := [[(0, .aload_n 0, 1), (1, .getfield 10, 3), (4, .getfield 89, 3), (7, .bipush 20, 2), (9, .iadd, 1), (10, .sipush 900, 3), (13, .if_icmp .le 5, 3), (16, .iconst (-1), 1), (17, .ireturn, 1), (18, .aload_n 0, 1), (19, .getfield 10, 3), (22, .iload_n 1, 1), (23, .invokevirtual 93, 3), (26, .aload_n 0, 1), (27, .getfield 10, 3), (30, .iload_n 2, 1), (31, .invokevirtual 93, 3), (34, .aload_n 0, 1), (35, .getfield 10, 3), (38, .iload_n 3, 1), (39, .invokevirtual 93, 3), (42, .aload_n 0, 1), (43, .getfield 10, 3), (46, .iload 4, 2), (48, .invokevirtual 93, 3), (51, .aload_n 0, 1), (52, .getfield 10, 3), (55, .iload 5, 2), (57, .invokevirtual 93, 3), (60, .aload_n 0, 1), (61, .getfield 10, 3)],
  [(64, .getfield 89, 3), (67, .ireturn, 1)]]
def px_t87 : List (List (Nat × Instr × Nat)) := [[(0, .iload_n 1, 1), (1, .ifCond .lt 14, 3), (4, .iload_n 1, 1), (5, .aload_n 0, 1), (6, .getfield 10, 3), (9, .getfield 89, 3), (12, .if_icmp .le 5, 3), (15, .iconst (-1), 1), (16, .ireturn, 1), (17, .aload_n 0, 1), (18, .getfield 10, 3), (21, .iload_n 1, 1), (22, .putfield 89, 3), (25, .iload_n 1, 1), (26, .ireturn, 1)]]
def px_t88 : List (List (Nat × Instr × Nat)) := [[(0, .aload_n 0, 1), (1, .getfield 21, 3), (4, .aload_n 0, 1), (5, .getfield 32, 3), (8, .invokevirtual 97, 3), (11, .aload_n 0, 1), (12, .getfield 10, 3), (15, .iconst 0, 1), (16, .putfield 89, 3), (19, .aload_n 0, 1), (20, .getfield 21, 3), (23, .getfield 100, 3), (26, .ifCond .eq 6, 3), (29, .bipush (-4), 2), (31, .ireturn, 1), (32, .aload_n 0, 1), (33, .getfield 28, 3), (36, .aload_n 0, 1), (37, .getfield 32, 3), (40, .invokevirtual 103, 3), (43, .aload_n 0, 1), (44, .invokevirtual 106, 3), (47, .aload_n 0, 1), (48, .getfield 28, 3), (51, .getfield 109, 3), (54, .ireturn, 1)]]
def px_t89 : List (List (Nat × Instr × Nat)) := [[(0, .iload_n 1, 1), (1, .ifCond .ne 11, 3), (4, .aload_n 0, 1), (5, .getfield 21, 3), (8, .getfield 100, 3), (11, .ireturn, 1), (12, .iload_n 1, 1), (13, .iconst 1, 1), (14, .if_icmp .ne 13, 3), (17, .aload_n 0, 1), (18, .getfield 21, 3), (21, .getfield 112, 3), (24, .goto 4, 3), (27, .iconst (-1), 1), (28, .ireturn, 1)]]
def px_t90 : List (List (Nat × Instr × Nat)) := [[(0, .iload_n 1, 1), (1, .ifCond .lt 23, 3), (4, .iload_n 1, 1), (5, .aload_n 0, 1), (6, .getfield 28, 3), (9, .invokevirtual 115, 3), (12, .if_icmp .ge 12, 3), (15, .iload_n 2, 1), (16, .ifCond .lt 8, 3), (19, .iload_n 2, 1), (20, .iconst 3, 1), (21, .if_icmp .le 6, 3), (24, .bipush (-2), 2), (26, .ireturn, 1), (27, .aload_n 0, 1), (28, .getfield 28, 3), (31, .iload_n 1, 1), (32, .invokevirtual 119, 3), (35, .istore_n 3, 1), (36, .iload_n 3, 1), (37, .invokestatic 123, 3), (40, .istore 4, 2), (42, .iload_n 2, 1), (43, .ifCond .ne 6, 3), (46, .iload 4, 2), (48, .ireturn, 1), (49, .iload_n 2, 1), (50, .iload 4, 2), (52, .invokestatic 128, 3), (55, .if_icmp .le 7, 3), (58, .iconst (-1), 1), (59, .goto 8, 3), (62, .iload_n 3, 1), (63, .iload_n 2, 1)],
  [(64, .invokestatic 131, 3), (67, .ireturn, 1)]]
def px_t91 : List (List (Nat × Instr × Nat)) := [[(0, .iload_n 1, 1), (1, .ifCond .lt 14, 3), (4, .iload_n 1, 1), (5, .aload_n 0, 1), (6, .getfield 28, 3), (9, .invokevirtual 115, 3), (12, .if_icmp .lt 6, 3), (15, .bipush (-2), 2), (17, .ireturn, 1), (18, .aload_n 0, 1), (19, .getfield 58, 3), (22, .iload_n 1, 1), (23, .invokevirtual 135, 3), (26, .ireturn, 1)]]
def px_t92 : List (List (Nat × Instr × Nat)) := [[(0, .aload_n 0, 1), (1, .iload_n 1, 1), (2, .invokevirtual 138, 3), (5, .ifCond .eq 8, 3), (8, .bipush (-2), 2), (10, .goto 11, 3), (13, .aload_n 0, 1), (14, .getfield 58, 3), (17, .iload_n 1, 1), (18, .invokevirtual 142, 3), (21, .ireturn, 1)]]
def px_t93 : List (List (Nat × Instr × Nat)) := [[(0, .aload_n 0, 1), (1, .iload_n 1, 1), (2, .invokevirtual 138, 3), (5, .ifCond .eq 8, 3), (8, .bipush (-2), 2), (10, .goto 14, 3), (13, .aload_n 0, 1), (14, .getfield 58, 3), (17, .iload_n 1, 1), (18, .invokevirtual 145, 3), (21, .getfield 149, 3), (24, .ireturn, 1)]]
def px_t94 : List (List (Nat × Instr × Nat)) := [[(0, .iload_n 1, 1), (1, .invokestatic 152, 3), (4, .ifCond .ne 11, 3), (7, .aload_n 0, 1), (8, .iload_n 2, 1), (9, .invokevirtual 138, 3), (12, .ifCond .eq 6, 3), (15, .bipush (-2), 2), (17, .ireturn, 1), (18, .aload_n 0, 1), (19, .getfield 58, 3), (22, .iload_n 2, 1), (23, .invokevirtual 145, 3), (26, .iload_n 1, 1), (27, .invokevirtual 155, 3), (30, .ireturn, 1)]]
def px_t95 : List (List (Nat × Instr × Nat)) := [[(0, .iload_n 1, 1), (1, .invokestatic 152, 3), (4, .ifCond .ne 11, 3), (7, .aload_n 0, 1), (8, .iload_n 2, 1), (9, .invokevirtual 138, 3), (12, .ifCond .eq 6, 3), (15, .bipush (-2), 2), (17, .ireturn, 1), (18, .aload_n 0, 1), (19, .getfield 58, 3), (22, .iload_n 2, 1), (23, .invokevirtual 145, 3), (26, .astore_n 3, 1), (27, .aload_n 3, 1), (28, .iload_n 1, 1), (29, .invokevirtual 158, 3), (32, .ifCond .eq 12, 3), (35, .aload_n 3, 1), (36, .getfield 161, 3), (39, .iload_n 1, 1), (40, .iaload, 1), (41, .goto 4, 3), (44, .iconst (-1), 1), (45, .ireturn, 1)]]
def px_t96 : List (List (Nat × Instr × Nat)) := [[(0, .iload_n 1, 1), (1, .invokestatic 152, 3), (4, .ifCond .ne 11, 3), (7, .aload_n 0, 1), (8, .iload_n 2, 1), (9, .invokevirtual 138, 3), (12, .ifCond .eq 6, 3), (15, .bipush (-2), 2), (17, .ireturn, 1), (18, .aload_n 0, 1), (19, .getfield 58, 3), (22, .iload_n 2, 1), (23, .invokevirtual 145, 3), (26, .astore_n 3, 1), (27, .iconst 0, 1), (28, .istore 4, 2), (30, .iconst 1, 1), (31, .istore 5, 2), (33, .iload 5, 2), (35, .bipush 15, 2), (37, .if_icmp .gt 29, 3), (40, .aload_n 3, 1), (41, .iload 5, 2), (43, .invokevirtual 155, 3), (46, .iload_n 1, 1), (47, .if_icmp .ne 13, 3), (50, .iload 4, 2), (52, .iload 5, 2), (54, .invokestatic 164, 3), (57, .ior, 1), (58, .istore 4, 2), (60, .iinc 5 1, 3), (63, .goto (-30), 3)],
  [(66, .iload 4, 2), (68, .ireturn, 1)]]
def px_t97 : List (List (Nat × Instr × Nat)) := [[(0, .iload_n 1, 1), (1, .invokestatic 152, 3), (4, .ifCond .ne 11, 3), (7, .aload_n 0, 1), (8, .iload_n 2, 1), (9, .invokevirtual 138, 3), (12, .ifCond .eq 6, 3), (15, .bipush (-2), 2), (17, .ireturn, 1), (18, .aload_n 0, 1), (19, .getfield 58, 3), (22, .iload_n 2, 1), (23, .invokevirtual 145, 3), (26, .iload_n 1, 1), (27, .invokevirtual 167, 3), (30, .ireturn, 1)]]
def px_t98 : List (List (Nat × Instr × Nat)) := [[(0, .iload_n 1, 1), (1, .invokestatic 152, 3), (4, .ifCond .ne 11, 3), (7, .aload_n 0, 1), (8, .iload_n 2, 1), (9, .invokevirtual 138, 3), (12, .ifCond .eq 6, 3), (15, .bipush (-2), 2), (17, .ireturn, 1), (18, .aload_n 0, 1), (19, .getfield 58, 3), (22, .iload_n 2, 1), (23, .invokevirtual 145, 3), (26, .astore_n 3, 1), (27, .aload_n 3, 1), (28, .iload_n 1, 1), (29, .invokevirtual 158, 3), (32, .ifCond .eq 11, 3), (35, .aload_n 3, 1), (36, .iload_n 1, 1), (37, .invokevirtual 170, 3), (40, .goto 4, 3), (43, .iconst (-1), 1), (44, .ireturn, 1)]]
def px_t99 : List (List (Nat × Instr × Nat)) := [[(0, .iload_n 1, 1), (1, .invokestatic 152, 3), (4, .ifCond .ne 11, 3), (7, .aload_n 0, 1), (8, .iload_n 2, 1), (9, .invokevirtual 138, 3), (12, .ifCond .eq 6, 3), (15, .bipush (-2), 2), (17, .ireturn, 1), (18, .aload_n 0, 1), (19, .getfield 58, 3), (22, .iload_n 2, 1), (23, .invokevirtual 145, 3), (26, .astore_n 3, 1), (27, .iconst 0, 1), (28, .istore 4, 2), (30, .iconst 1, 1), (31, .istore 5, 2), (33, .iload 5, 2), (35, .bipush 15, 2), (37, .if_icmp .gt 39, 3), (40, .aload_n 3, 1), (41, .iload 5, 2), (43, .invokevirtual 158, 3), (46, .ifCond .eq 24, 3), (49, .aload_n 3, 1), (50, .getfield 161, 3), (53, .iload 5, 2), (55, .iaload, 1), (56, .iload_n 1, 1), (57, .if_icmp .ne 13, 3), (60, .iload 4, 2), (62, .iload 5, 2)],
  [(64, .invokestatic 164, 3), (67, .ior, 1), (68, .istore 4, 2), (70, .iinc 5 1, 3), (73, .goto (-40), 3), (76, .iload 4, 2), (78, .ireturn, 1)]]
def px_t100 : List (List (Nat × Instr × Nat)) := [[(0, .aload_n 0, 1), (1, .iload_n 1, 1), (2, .invokevirtual 138, 3), (5, .ifCond .eq 6, 3), (8, .bipush (-2), 2), (10, .ireturn, 1), (11, .aload_n 0, 1), (12, .getfield 58, 3), (15, .iload_n 1, 1), (16, .invokevirtual 145, 3), (19, .astore_n 2, 1), (20, .iconst 0, 1), (21, .istore_n 3, 1), (22, .iconst 1, 1), (23, .istore 4, 2), (25, .iload 4, 2), (27, .bipush 15, 2), (29, .if_icmp .gt 31, 3), (32, .aload_n 2, 1), (33, .iload 4, 2), (35, .invokevirtual 158, 3), (38, .ifCond .eq 16, 3), (41, .iload_n 3, 1), (42, .aload_n 2, 1), (43, .getfield 161, 3), (46, .iload 4, 2), (48, .iaload, 1), (49, .invokestatic 164, 3), (52, .ior, 1), (53, .istore_n 3, 1), (54, .iinc 4 1, 3), (57, .goto (-32), 3), (60, .iload_n 3, 1), (61, .invokestatic 173, 3)],
  [(64, .ireturn, 1)]]
def px_t101 : List (List (Nat × Instr × Nat)) := [[(0, .iload_n 1, 1), (1, .invokestatic 152, 3), (4, .ifCond .ne 10, 3), (7, .aload_n 0, 1), (8, .invokevirtual 178, 3), (11, .ifCond .eq 6, 3), (14, .bipush (-2), 2), (16, .ireturn, 1), (17, .aload_n 0, 1), (18, .iload_n 1, 1), (19, .iconst 1, 1), (20, .iconst 0, 1), (21, .invokevirtual 182, 3), (24, .ireturn, 1)]]
def px_t102 : List (List (Nat × Instr × Nat)) := [[(0, .iload_n 1, 1), (1, .invokestatic 152, 3), (4, .ifCond .ne 10, 3), (7, .aload_n 0, 1), (8, .invokevirtual 178, 3), (11, .ifCond .eq 6, 3), (14, .bipush (-2), 2), (16, .ireturn, 1), (17, .aload_n 0, 1), (18, .iload_n 1, 1), (19, .iconst 1, 1), (20, .iconst 0, 1), (21, .invokevirtual 182, 3), (24, .istore_n 2, 1), (25, .iload_n 2, 1), (26, .ifCond .ge 7, 3), (29, .iconst (-1), 1), (30, .goto 10, 3), (33, .aload_n 0, 1), (34, .iload_n 1, 1), (35, .iconst 0, 1), (36, .iload_n 2, 1), (37, .invokevirtual 182, 3), (40, .ireturn, 1)]]
def px_t103 : List (List (Nat × Instr × Nat)) := [[(0, .iload_n 1, 1), (1, .iload_n 2, 1), (2, .invokestatic 186, 3), (5, .ifCond .ne 11, 3), (8, .aload_n 0, 1), (9, .iload_n 3, 1), (10, .invokevirtual 138, 3), (13, .ifCond .eq 6, 3), (16, .bipush (-2), 2), (18, .ireturn, 1), (19, .aload_n 0, 1), (20, .getfield 58, 3), (23, .iload_n 3, 1), (24, .invokevirtual 145, 3), (27, .iload_n 1, 1), (28, .iload_n 2, 1), (29, .invokevirtual 190, 3), (32, .ireturn, 1)]]
def px_t104 : List (List (Nat × Instr × Nat)) := [[(0, .iload_n 1, 1), (1, .invokestatic 152, 3), (4, .ifCond .ne 11, 3), (7, .aload_n 0, 1), (8, .iload_n 2, 1), (9, .invokevirtual 138, 3), (12, .ifCond .eq 6, 3), (15, .bipush (-2), 2), (17, .ireturn, 1), (18, .aload_n 0, 1), (19, .getfield 58, 3), (22, .iload_n 2, 1), (23, .invokevirtual 145, 3), (26, .astore_n 3, 1), (27, .iconst 0, 1), (28, .istore 4, 2), (30, .iconst 0, 1), (31, .istore 5, 2), (33, .iload 5, 2), (35, .bipush 8, 2), (37, .if_icmp .ge 28, 3), (40, .aload_n 3, 1), (41, .iload_n 1, 1), (42, .iload 5, 2), (44, .invokevirtual 190, 3), (47, .ifCond .lt 12, 3), (50, .iload 4, 2), (52, .iconst 1, 1), (53, .iload 5, 2), (55, .ishl, 1), (56, .ior, 1), (57, .istore 4, 2), (59, .iinc 5 1, 3), (62, .goto (-29), 3)],
  [(65, .iload 4, 2), (67, .ireturn, 1)]]
def px_t105 : List (List (Nat × Instr × Nat)) := [[(0, .iload_n 1, 1), (1, .invokestatic 193, 3), (4, .ifCond .ne 11, 3), (7, .aload_n 0, 1), (8, .iload_n 2, 1), (9, .invokevirtual 138, 3), (12, .ifCond .eq 6, 3), (15, .bipush (-2), 2), (17, .ireturn, 1), (18, .aload_n 0, 1), (19, .getfield 58, 3), (22, .iload_n 2, 1), (23, .invokevirtual 145, 3), (26, .getfield 196, 3), (29, .iload_n 1, 1), (30, .iaload, 1), (31, .ireturn, 1)]]
def px_t106 : List (List (Nat × Instr × Nat)) := [[(0, .iload_n 1, 1), (1, .invokestatic 193, 3), (4, .ifCond .ne 11, 3), (7, .aload_n 0, 1), (8, .iload_n 2, 1), (9, .invokevirtual 138, 3), (12, .ifCond .eq 6, 3), (15, .bipush (-2), 2), (17, .ireturn, 1), (18, .aload_n 0, 1), (19, .getfield 58, 3), (22, .iload_n 2, 1), (23, .invokevirtual 145, 3), (26, .astore_n 3, 1), (27, .iload_n 1, 1), (28, .aload_n 3, 1), (29, .getfield 199, 3), (32, .if_icmp .ge 12, 3), (35, .aload_n 3, 1), (36, .getfield 202, 3), (39, .iload_n 1, 1), (40, .iaload, 1), (41, .goto 4, 3), (44, .iconst (-1), 1), (45, .ireturn, 1)]]
def px_t107 : List (List (Nat × Instr × Nat)) := [[(0, .aload_n 0, 1), (1, .iload_n 1, 1), (2, .invokevirtual 138, 3), (5, .ifCond .eq 6, 3), (8, .bipush (-2), 2), (10, .ireturn, 1), (11, .aload_n 0, 1), (12, .getfield 58, 3), (15, .iload_n 1, 1), (16, .invokevirtual 145, 3), (19, .astore_n 2, 1), (20, .iconst 0, 1), (21, .istore_n 3, 1), (22, .iconst 0, 1), (23, .istore 4, 2), (25, .iload 4, 2), (27, .aload_n 2, 1), (28, .getfield 199, 3), (31, .if_icmp .ge 22, 3), (34, .aload_n 2, 1), (35, .getfield 196, 3), (38, .iload 4, 2), (40, .iaload, 1), (41, .ifCond .le 6, 3), (44, .iinc 3 1, 3), (47, .iinc 4 1, 3), (50, .goto (-25), 3), (53, .iload_n 3, 1), (54, .ireturn, 1)]]
def px_t108 : List (List (Nat × Instr × Nat)) := [[(0, .iload_n 1, 1), (1, .invokestatic 193, 3), (4, .ifCond .ne 11, 3), (7, .aload_n 0, 1), (8, .iload_n 2, 1), (9, .invokevirtual 138, 3), (12, .ifCond .eq 6, 3), (15, .bipush (-2), 2), (17, .ireturn, 1), (18, .aload_n 0, 1), (19, .getfield 58, 3), (22, .iload_n 2, 1), (23, .invokevirtual 145, 3), (26, .iload_n 1, 1), (27, .invokevirtual 205, 3), (30, .ireturn, 1)]]
def px_t109 : List (List (Nat × Instr × Nat)) := [[(0, .aload_n 0, 1), (1, .iload_n 1, 1), (2, .invokevirtual 138, 3), (5, .ifCond .eq 6, 3), (8, .bipush (-2), 2), (10, .ireturn, 1), (11, .aload_n 0, 1), (12, .getfield 58, 3), (15, .iload_n 1, 1), (16, .invokevirtual 145, 3), (19, .astore_n 2, 1), (20, .iconst 0, 1), (21, .istore_n 3, 1), (22, .iconst 0, 1), (23, .istore 4, 2), (25, .iload 4, 2), (27, .aload_n 2, 1), (28, .getfield 199, 3), (31, .if_icmp .ge 33, 3), (34, .aload_n 2, 1), (35, .getfield 202, 3), (38, .iload 4, 2), (40, .iaload, 1), (41, .iconst 1, 1), (42, .if_icmp .ne 16, 3), (45, .iload_n 3, 1), (46, .iconst 0, 1), (47, .aload_n 2, 1), (48, .iload 4, 2), (50, .invokevirtual 205, 3), (53, .invokestatic 208, 3), (56, .iadd, 1), (57, .istore_n 3, 1), (58, .iinc 4 1, 3), (61, .goto (-36), 3)],
  [(64, .iload_n 3, 1), (65, .ireturn, 1)]]
def px_t110 : List (List (Nat × Instr × Nat)) := [[(0, .iload_n 1, 1), (1, .iload_n 2, 1), (2, .invokestatic 186, 3), (5, .ifCond .ne 11, 3), (8, .aload_n 0, 1), (9, .iload_n 3, 1), (10, .invokevirtual 138, 3), (13, .ifCond .eq 6, 3), (16, .bipush (-2), 2), (18, .ireturn, 1), (19, .aload_n 0, 1), (20, .getfield 58, 3), (23, .iload_n 3, 1), (24, .invokevirtual 145, 3), (27, .astore 4, 2), (29, .aload_n 0, 1), (30, .getfield 67, 3), (33, .aload 4, 2), (35, .invokevirtual 213, 3), (38, .aload_n 0, 1), (39, .getfield 67, 3), (42, .aload 4, 2), (44, .iload_n 1, 1), (45, .iload_n 2, 1), (46, .invokevirtual 190, 3), (49, .invokevirtual 217, 3), (52, .ireturn, 1)]]
def px_t111 : List (List (Nat × Instr × Nat)) := [[(0, .iload_n 1, 1), (1, .iload_n 2, 1), (2, .invokestatic 186, 3), (5, .ifCond .ne 11, 3), (8, .aload_n 0, 1), (9, .iload_n 3, 1), (10, .invokevirtual 138, 3), (13, .ifCond .eq 6, 3), (16, .bipush (-2), 2), (18, .ireturn, 1), (19, .aload_n 0, 1), (20, .getfield 58, 3), (23, .iload_n 3, 1), (24, .invokevirtual 145, 3), (27, .astore 4, 2), (29, .aload 4, 2), (31, .iload_n 1, 1), (32, .iload_n 2, 1), (33, .invokevirtual 190, 3), (36, .istore 5, 2), (38, .iload 5, 2), (40, .ifCond .ge 7, 3), (43, .iconst 0, 1), (44, .goto 10, 3), (47, .aload 4, 2), (49, .iload 5, 2), (51, .invokevirtual 220, 3), (54, .ireturn, 1)]]
def px_t112 : List (List (Nat × Instr × Nat)) := [[(0, .aload_n 0, 1), (1, .iload_n 1, 1), (2, .invokevirtual 138, 3), (5, .ifCond .ne 11, 3), (8, .aload_n 0, 1), (9, .iload_n 2, 1), (10, .invokevirtual 138, 3), (13, .ifCond .eq 6, 3), (16, .bipush (-2), 2), (18, .ireturn, 1), (19, .aload_n 0, 1), (20, .getfield 67, 3), (23, .invokevirtual 223, 3), (26, .aload_n 0, 1), (27, .getfield 67, 3), (30, .iload_n 1, 1), (31, .invokevirtual 226, 3), (34, .aload_n 0, 1), (35, .getfield 67, 3), (38, .iload_n 2, 1), (39, .invokevirtual 226, 3), (42, .if_icmp .ne 7, 3), (45, .iconst 1, 1), (46, .goto 4, 3), (49, .iconst 0, 1), (50, .ireturn, 1)]]
def px_t113 : List (List (Nat × Instr × Nat)) := [[(0, .aload_n 0, 1), (1, .iload_n 1, 1), (2, .invokevirtual 138, 3), (5, .ifCond .eq 6, 3), (8, .bipush (-2), 2), (10, .ireturn, 1), (11, .aload_n 0, 1), (12, .getfield 67, 3), (15, .invokevirtual 223, 3), (18, .aload_n 0, 1), (19, .getfield 67, 3), (22, .iload_n 1, 1), (23, .invokevirtual 226, 3), (26, .ireturn, 1)]]
def px_t114 : List (List (Nat × Instr × Nat)) := [[(0, .aload_n 0, 1), (1, .invokevirtual 178, 3), (4, .ifCond .eq 6, 3), (7, .bipush (-2), 2), (9, .ireturn, 1), (10, .aload_n 0, 1), (11, .getfield 67, 3), (14, .invokevirtual 223, 3), (17, .iconst 0, 1), (18, .istore_n 1, 1), (19, .iconst 0, 1), (20, .istore_n 2, 1), (21, .iload_n 2, 1), (22, .aload_n 0, 1), (23, .getfield 28, 3), (26, .invokevirtual 115, 3), (29, .if_icmp .gt 24, 3), (32, .aload_n 0, 1), (33, .getfield 67, 3), (36, .iload_n 2, 1), (37, .invokevirtual 226, 3), (40, .iload_n 2, 1), (41, .if_icmp .ne 6, 3), (44, .iinc 1 1, 3), (47, .iinc 2 1, 3), (50, .goto (-29), 3), (53, .iload_n 1, 1), (54, .ireturn, 1)]]
def px_t115 : List (List (Nat × Instr × Nat)) := [[(0, .aload_n 0, 1), (1, .invokevirtual 178, 3), (4, .ifCond .eq 6, 3), (7, .bipush (-2), 2), (9, .ireturn, 1), (10, .aload_n 0, 1), (11, .getfield 67, 3), (14, .invokevirtual 223, 3), (17, .aload_n 0, 1), (18, .getfield 67, 3), (21, .invokevirtual 229, 3), (24, .ireturn, 1)]]
def px_t116 : List (List (Nat × Instr × Nat)) := [[(0, .iload_n 1, 1), (1, .invokestatic 152, 3), (4, .ifCond .ne 11, 3), (7, .aload_n 0, 1), (8, .iload_n 2, 1), (9, .invokevirtual 138, 3), (12, .ifCond .eq 6, 3), (15, .bipush (-2), 2), (17, .ireturn, 1), (18, .aload_n 0, 1), (19, .getfield 58, 3), (22, .iload_n 2, 1), (23, .invokevirtual 145, 3), (26, .astore_n 3, 1), (27, .aload_n 3, 1), (28, .iload_n 1, 1), (29, .invokevirtual 158, 3), (32, .ifCond .ne 5, 3), (35, .iconst (-1), 1), (36, .ireturn, 1), (37, .aload_n 0, 1), (38, .getfield 74, 3), (41, .aload_n 3, 1), (42, .invokevirtual 232, 3), (45, .aload_n 0, 1), (46, .getfield 74, 3), (49, .getfield 235, 3), (52, .iload_n 1, 1), (53, .iaload, 1), (54, .ireturn, 1)]]
def px_t117 : List (List (Nat × Instr × Nat)) := [[(0, .aload_n 0, 1), (1, .iload_n 1, 1), (2, .invokevirtual 138, 3), (5, .ifCond .eq 6, 3), (8, .bipush (-2), 2), (10, .ireturn, 1), (11, .aload_n 0, 1), (12, .getfield 74, 3), (15, .aload_n 0, 1), (16, .getfield 58, 3), (19, .iload_n 1, 1), (20, .invokevirtual 145, 3), (23, .invokevirtual 232, 3), (26, .aload_n 0, 1), (27, .getfield 74, 3), (30, .getfield 238, 3), (33, .ireturn, 1)]]
def px_t118 : List (List (Nat × Instr × Nat)) := [[(0, .aload_n 0, 1), (1, .iload_n 1, 1), (2, .invokevirtual 138, 3), (5, .ifCond .eq 6, 3), (8, .bipush (-2), 2), (10, .ireturn, 1), (11, .aload_n 0, 1), (12, .getfield 74, 3), (15, .aload_n 0, 1), (16, .getfield 58, 3), (19, .iload_n 1, 1), (20, .invokevirtual 145, 3), (23, .invokevirtual 232, 3), (26, .iconst 2, 1), (27, .aload_n 0, 1), (28, .getfield 74, 3), (31, .iconst 1, 1), (32, .invokevirtual 241, 3), (35, .iconst 1, 1), (36, .isub, 1), (37, .imul, 1), (38, .aload_n 0, 1), (39, .getfield 74, 3), (42, .iconst 2, 1), (43, .invokevirtual 241, 3), (46, .iadd, 1), (47, .aload_n 0, 1), (48, .getfield 74, 3), (51, .iconst 3, 1), (52, .invokevirtual 241, 3), (55, .iadd, 1), (56, .iconst 3, 1), (57, .aload_n 0, 1), (58, .getfield 74, 3), (61, .iconst 4, 1), (62, .invokevirtual 241, 3)],
  [(65, .imul, 1), (66, .iadd, 1), (67, .ireturn, 1)]]
def px_t119 : List (List (Nat × Instr × Nat)) := [[(0, .iload_n 1, 1), (1, .ifCond .lt 11, 3), (4, .aload_n 0, 1), (5, .iload_n 2, 1), (6, .invokevirtual 138, 3), (9, .ifCond .eq 6, 3), (12, .bipush (-2), 2), (14, .ireturn, 1), (15, .aload_n 0, 1), (16, .getfield 74, 3), (19, .aload_n 0, 1), (20, .getfield 58, 3), (23, .iload_n 2, 1), (24, .invokevirtual 145, 3), (27, .invokevirtual 232, 3), (30, .iload_n 1, 1), (31, .aload_n 0, 1), (32, .getfield 74, 3), (35, .getfield 244, 3), (38, .if_icmp .ge 15, 3), (41, .aload_n 0, 1), (42, .getfield 74, 3), (45, .getfield 245, 3), (48, .iload_n 1, 1), (49, .iaload, 1), (50, .goto 4, 3), (53, .iconst (-1), 1), (54, .ireturn, 1)]]
def px_t120 : List (List (Nat × Instr × Nat)) := [[(0, .aload_n 0, 1), (1, .iload_n 1, 1), (2, .invokevirtual 138, 3), (5, .ifCond .eq 6, 3), (8, .bipush (-2), 2), (10, .ireturn, 1), (11, .aload_n 0, 1), (12, .getfield 74, 3), (15, .aload_n 0, 1), (16, .getfield 58, 3), (19, .iload_n 1, 1), (20, .invokevirtual 145, 3), (23, .invokevirtual 232, 3), (26, .aload_n 0, 1), (27, .getfield 74, 3), (30, .iconst 4, 1), (31, .invokevirtual 241, 3), (34, .ireturn, 1)]]
def px_t121 : List (List (Nat × Instr × Nat)) := [[(0, .aload_n 0, 1), (1, .invokevirtual 178, 3), (4, .ifCond .eq 6, 3), (7, .bipush (-2), 2), (9, .ireturn, 1), (10, .iconst 0, 1), (11, .istore_n 1, 1), (12, .iconst 0, 1), (13, .istore_n 2, 1), (14, .iload_n 2, 1), (15, .aload_n 0, 1), (16, .getfield 28, 3), (19, .invokevirtual 115, 3), (22, .if_icmp .gt 36, 3), (25, .aload_n 0, 1), (26, .getfield 74, 3), (29, .aload_n 0, 1), (30, .getfield 58, 3), (33, .iload_n 2, 1), (34, .invokevirtual 145, 3), (37, .invokevirtual 232, 3), (40, .aload_n 0, 1), (41, .getfield 74, 3), (44, .getfield 238, 3), (47, .ifCond .ne 5, 3), (50, .iload_n 2, 1), (51, .istore_n 1, 1), (52, .iinc 2 1, 3), (55, .goto (-41), 3), (58, .iload_n 1, 1), (59, .ireturn, 1)]]
def px_t122 : List (List (Nat × Instr × Nat)) := [[(0, .iload_n 1, 1), (1, .invokestatic 152, 3), (4, .ifCond .ne 24, 3), (7, .aload_n 0, 1), (8, .iload_n 2, 1), (9, .invokevirtual 138, 3), (12, .ifCond .ne 16, 3), (15, .aload_n 0, 1), (16, .iload_n 3, 1), (17, .invokevirtual 138, 3), (20, .ifCond .ne 8, 3), (23, .iload_n 3, 1), (24, .iload_n 2, 1), (25, .if_icmp .ge 6, 3), (28, .bipush (-2), 2), (30, .ireturn, 1), (31, .aload_n 0, 1), (32, .getfield 58, 3), (35, .iload_n 2, 1), (36, .invokevirtual 145, 3), (39, .invokevirtual 248, 3), (42, .aload_n 0, 1), (43, .getfield 58, 3), (46, .iload_n 3, 1), (47, .invokevirtual 145, 3), (50, .astore 4, 2), (52, .aload 4, 2), (54, .iload_n 1, 1), (55, .invokevirtual 158, 3), (58, .ifCond .eq 13, 3), (61, .aload 4, 2), (63, .getfield 251, 3)],
  [(66, .iload_n 1, 1), (67, .iaload, 1), (68, .goto 4, 3), (71, .iconst 0, 1), (72, .ireturn, 1)]]
def px_t123 : List (List (Nat × Instr × Nat)) := [[(0, .aload_n 0, 1), (1, .iload_n 1, 1), (2, .iload_n 2, 1), (3, .iload_n 3, 1), (4, .invokevirtual 254, 3), (7, .ifCond .ne 8, 3), (10, .iload 4, 2), (12, .ifCond .ge 6, 3), (15, .bipush (-2), 2), (17, .ireturn, 1), (18, .aload_n 0, 1), (19, .getfield 58, 3), (22, .iload_n 1, 1), (23, .iload_n 2, 1), (24, .iload_n 3, 1), (25, .iload 4, 2), (27, .invokevirtual 258, 3), (30, .aload_n 0, 1), (31, .getfield 58, 3), (34, .getfield 262, 3), (37, .ireturn, 1)]]
def px_t124 : List (List (Nat × Instr × Nat)) := [[(0, .aload_n 0, 1), (1, .iload_n 1, 1), (2, .iload_n 2, 1), (3, .iload_n 3, 1), (4, .invokevirtual 254, 3), (7, .ifCond .eq 6, 3), (10, .bipush (-2), 2), (12, .ireturn, 1), (13, .aload_n 0, 1), (14, .getfield 58, 3), (17, .iload_n 1, 1), (18, .iload_n 2, 1), (19, .iload_n 3, 1), (20, .iconst 0, 1), (21, .invokevirtual 258, 3), (24, .aload_n 0, 1), (25, .getfield 58, 3), (28, .getfield 265, 3), (31, .ireturn, 1)]]
def px_t125 : List (List (Nat × Instr × Nat)) := [[(0, .aload_n 0, 1), (1, .iload_n 1, 1), (2, .iconst 1, 1), (3, .iload_n 2, 1), (4, .invokevirtual 254, 3), (7, .ifCond .eq 6, 3), (10, .bipush (-2), 2), (12, .ireturn, 1), (13, .iconst 0, 1), (14, .istore_n 3, 1), (15, .iconst 0, 1), (16, .istore 4, 2), (18, .iconst 0, 1), (19, .istore 5, 2), (21, .iconst 1, 1), (22, .istore 6, 2), (24, .iload 6, 2), (26, .bipush 40, 2), (28, .if_icmp .gt 94, 3), (31, .aload_n 0, 1), (32, .getfield 58, 3), (35, .iload_n 1, 1), (36, .iload 6, 2), (38, .iload_n 2, 1), (39, .iconst 0, 1), (40, .invokevirtual 258, 3), (43, .aload_n 0, 1), (44, .getfield 58, 3), (47, .getfield 268, 3), (50, .iload 4, 2), (52, .if_icmp .lt 27, 3), (55, .aload_n 0, 1), (56, .getfield 58, 3), (59, .getfield 268, 3), (62, .iload 4, 2)],
  [(64, .if_icmp .ne 19, 3), (67, .aload_n 0, 1), (68, .getfield 58, 3), (71, .getfield 265, 3), (74, .iload 5, 2), (76, .if_icmp .gt 7, 3), (79, .iconst 1, 1), (80, .goto 4, 3), (83, .iconst 0, 1), (84, .istore 7, 2), (86, .iload_n 3, 1), (87, .ifCond .eq 8, 3), (90, .iload 7, 2), (92, .ifCond .eq 24, 3), (95, .iload 6, 2), (97, .istore_n 3, 1), (98, .aload_n 0, 1), (99, .getfield 58, 3), (102, .getfield 268, 3), (105, .istore 4, 2), (107, .aload_n 0, 1), (108, .getfield 58, 3), (111, .getfield 265, 3), (114, .istore 5, 2), (116, .iinc 6 1, 3), (119, .goto (-95), 3), (122, .iload_n 3, 1), (123, .ireturn, 1)]]
def px_t126 : List (List (Nat × Instr × Nat)) := [[(0, .aload_n 0, 1), (1, .invokevirtual 178, 3), (4, .ifCond .eq 6, 3), (7, .bipush (-2), 2), (9, .ireturn, 1), (10, .aload_n 0, 1), (11, .getfield 58, 3), (14, .aload_n 0, 1), (15, .getfield 28, 3), (18, .invokevirtual 115, 3), (21, .invokevirtual 145, 3), (24, .getfield 149, 3), (27, .invokestatic 173, 3), (30, .istore_n 1, 1), (31, .iconst (-1), 1), (32, .istore_n 2, 1), (33, .iconst 0, 1), (34, .istore_n 3, 1), (35, .iload_n 3, 1), (36, .aload_n 0, 1), (37, .getfield 28, 3), (40, .getfield 271, 3), (43, .if_icmp .ge 45, 3), (46, .aload_n 0, 1), (47, .iload_n 3, 1), (48, .aload_n 0, 1), (49, .getfield 28, 3), (52, .getfield 274, 3), (55, .invokevirtual 277, 3), (58, .pop, 1), (59, .aload_n 0, 1), (60, .getfield 81, 3), (63, .getfield 149, 3)],
  [(66, .invokestatic 173, 3), (69, .istore 4, 2), (71, .iload 4, 2), (73, .iload_n 1, 1), (74, .if_icmp .le 8, 3), (77, .iload 4, 2), (79, .istore_n 1, 1), (80, .iload_n 3, 1), (81, .istore_n 2, 1), (82, .iinc 3 1, 3), (85, .goto (-50), 3), (88, .iload_n 2, 1), (89, .ireturn, 1)]]
def px_t127 : List (List (Nat × Instr × Nat)) := [[(0, .aload_n 0, 1), (1, .invokevirtual 178, 3), (4, .ifCond .eq 6, 3), (7, .bipush (-2), 2), (9, .ireturn, 1), (10, .aload_n 0, 1), (11, .getfield 58, 3), (14, .aload_n 0, 1), (15, .getfield 28, 3), (18, .invokevirtual 115, 3), (21, .invokevirtual 142, 3), (24, .istore_n 1, 1), (25, .iconst 0, 1), (26, .istore_n 2, 1), (27, .iconst (-1), 1), (28, .istore_n 3, 1), (29, .iconst 0, 1), (30, .istore 4, 2), (32, .iload 4, 2), (34, .aload_n 0, 1), (35, .getfield 28, 3), (38, .getfield 271, 3), (41, .if_icmp .ge 60, 3), (44, .aload_n 0, 1), (45, .getfield 58, 3), (48, .iload 4, 2), (50, .invokevirtual 135, 3), (53, .ifCond .eq 7, 3), (56, .iconst 1, 1), (57, .goto 4, 3), (60, .iconst 0, 1), (61, .istore 5, 2), (63, .aload_n 0, 1)],
  [(64, .iload 4, 2), (66, .aload_n 0, 1), (67, .getfield 28, 3), (70, .getfield 274, 3), (73, .invokevirtual 277, 3), (76, .iload_n 1, 1), (77, .iload 5, 2), (79, .isub, 1), (80, .isub, 1), (81, .istore 6, 2), (83, .iload 6, 2), (85, .iload_n 2, 1), (86, .if_icmp .le 9, 3), (89, .iload 6, 2), (91, .istore_n 2, 1), (92, .iload 4, 2), (94, .istore_n 3, 1), (95, .iinc 4 1, 3), (98, .goto (-66), 3), (101, .iload_n 3, 1), (102, .ireturn, 1)]]
def px_t128 : List (List (Nat × Instr × Nat)) := [[(0, .aload_n 0, 1), (1, .iload_n 1, 1), (2, .invokevirtual 280, 3), (5, .istore_n 2, 1), (6, .iload_n 2, 1), (7, .ifCond .eq 5, 3), (10, .iload_n 2, 1), (11, .ireturn, 1), (12, .iconst 0, 1), (13, .istore_n 3, 1), (14, .iconst 0, 1), (15, .istore 4, 2), (17, .iload 4, 2), (19, .aload_n 0, 1), (20, .getfield 28, 3), (23, .getfield 271, 3), (26, .if_icmp .ge 28, 3), (29, .aload_n 0, 1), (30, .iload 4, 2), (32, .aload_n 0, 1), (33, .getfield 28, 3), (36, .getfield 274, 3), (39, .invokevirtual 283, 3), (42, .ifCond .eq 6, 3), (45, .iinc 3 1, 3), (48, .iinc 4 1, 3), (51, .goto (-34), 3), (54, .iload_n 3, 1), (55, .ireturn, 1)]]
def px_t129 : List (List (Nat × Instr × Nat)) := [[(0, .aload_n 0, 1), (1, .iload_n 1, 1), (2, .invokevirtual 280, 3), (5, .istore_n 2, 1), (6, .iload_n 2, 1), (7, .ifCond .eq 5, 3), (10, .iload_n 2, 1), (11, .ireturn, 1), (12, .iconst 0, 1), (13, .istore_n 3, 1), (14, .iload_n 3, 1), (15, .aload_n 0, 1), (16, .getfield 28, 3), (19, .getfield 271, 3), (22, .if_icmp .ge 26, 3), (25, .aload_n 0, 1), (26, .iload_n 3, 1), (27, .aload_n 0, 1), (28, .getfield 28, 3), (31, .getfield 274, 3), (34, .invokevirtual 283, 3), (37, .ifCond .eq 5, 3), (40, .iload_n 3, 1), (41, .ireturn, 1), (42, .iinc 3 1, 3), (45, .goto (-31), 3), (48, .iconst (-1), 1), (49, .ireturn, 1)]]
def px_t130 : List (List (Nat × Instr × Nat)) := [[(0, .aload_n 0, 1), (1, .iload_n 1, 1), (2, .invokevirtual 280, 3), (5, .istore_n 2, 1), (6, .iload_n 2, 1), (7, .ifCond .eq 5, 3), (10, .iload_n 2, 1), (11, .ireturn, 1), (12, .aload_n 0, 1), (13, .iconst (-1), 1), (14, .aload_n 0, 1), (15, .getfield 28, 3), (18, .getfield 274, 3), (21, .invokevirtual 283, 3), (24, .ifCond .eq 7, 3), (27, .iconst 1, 1), (28, .goto 4, 3), (31, .iconst 0, 1), (32, .ireturn, 1)]]
def px_t131 : List (List (Nat × Instr × Nat)) := [[(0, .aload_n 0, 1), (1, .iload_n 1, 1), (2, .invokevirtual 280, 3), (5, .istore_n 2, 1), (6, .iload_n 2, 1), (7, .ifCond .eq 5, 3), (10, .iload_n 2, 1), (11, .ireturn, 1), (12, .iconst 0, 1), (13, .istore_n 3, 1), (14, .iconst 0, 1), (15, .istore 4, 2), (17, .iload 4, 2), (19, .iconst 4, 1), (20, .if_icmp .ge 26, 3), (23, .aload_n 0, 1), (24, .iconst (-1), 1), (25, .iload 4, 2), (27, .invokevirtual 283, 3), (30, .ifCond .eq 10, 3), (33, .iload_n 3, 1), (34, .iconst 1, 1), (35, .iload 4, 2), (37, .ishl, 1), (38, .ior, 1), (39, .istore_n 3, 1), (40, .iinc 4 1, 3), (43, .goto (-26), 3), (46, .iload_n 3, 1), (47, .ireturn, 1)]]
def px_t132 : List (List (Nat × Instr × Nat)) := [[(0, .iload_n 1, 1), (1, .ifCond .lt 15, 3), (4, .iload_n 1, 1), (5, .iconst 4, 1), (6, .if_icmp .ge 10, 3), (9, .aload_n 0, 1), (10, .invokevirtual 178, 3), (13, .ifCond .eq 6, 3), (16, .bipush (-2), 2), (18, .ireturn, 1), (19, .aload_n 0, 1), (20, .iload_n 1, 1), (21, .invokevirtual 286, 3), (24, .ireturn, 1)]]
def px_t133 : List (List (Nat × Instr × Nat)) := [[(0, .aload_n 0, 1), (1, .invokevirtual 178, 3), (4, .ifCond .eq 6, 3), (7, .bipush (-2), 2), (9, .ireturn, 1), (10, .iconst 0, 1), (11, .istore_n 1, 1), (12, .aload_n 0, 1), (13, .iconst 0, 1), (14, .invokevirtual 286, 3), (17, .istore_n 2, 1), (18, .iconst 1, 1), (19, .istore_n 3, 1), (20, .iload_n 3, 1), (21, .iconst 4, 1), (22, .if_icmp .ge 27, 3), (25, .aload_n 0, 1), (26, .iload_n 3, 1), (27, .invokevirtual 286, 3), (30, .istore 4, 2), (32, .iload 4, 2), (34, .iload_n 2, 1), (35, .if_icmp .ge 8, 3), (38, .iload 4, 2), (40, .istore_n 2, 1), (41, .iload_n 3, 1), (42, .istore_n 1, 1), (43, .iinc 3 1, 3), (46, .goto (-26), 3), (49, .iload_n 1, 1), (50, .ireturn, 1)]]
def px_t134 : List (List (Nat × Instr × Nat)) := [[(0, .iload_n 1, 1), (1, .ifCond .lt 17, 3), (4, .iload_n 1, 1), (5, .sipush 32767, 3), (8, .if_icmp .gt 10, 3), (11, .aload_n 0, 1), (12, .invokevirtual 178, 3), (15, .ifCond .eq 6, 3), (18, .bipush (-2), 2), (20, .ireturn, 1), (21, .aload_n 0, 1), (22, .iload_n 1, 1), (23, .invokevirtual 289, 3), (26, .ireturn, 1)]]
def px_t135 : List (List (Nat × Instr × Nat)) := [[(0, .iload_n 1, 1), (1, .iconst 2, 1), (2, .if_icmp .lt 25, 3), (5, .iload_n 1, 1), (6, .bipush 7, 2), (8, .if_icmp .gt 19, 3), (11, .iload_n 2, 1), (12, .ifCond .lt 15, 3), (15, .iload_n 2, 1), (16, .iconst 1, 1), (17, .if_icmp .gt 10, 3), (20, .aload_n 0, 1), (21, .invokevirtual 178, 3), (24, .ifCond .eq 7, 3), (27, .sipush (-1000), 3), (30, .ireturn, 1), (31, .iconst 0, 1), (32, .istore_n 3, 1), (33, .iload_n 3, 1), (34, .aload_n 0, 1), (35, .getfield 85, 3), (38, .arraylength, 1), (39, .if_icmp .ge 26, 3), (42, .aload_n 0, 1), (43, .getfield 85, 3), (46, .iload_n 3, 1), (47, .aload_n 0, 1), (48, .sipush 32641, 3), (51, .iload_n 3, 1), (52, .iconst 1, 1), (53, .ishl, 1), (54, .ior, 1), (55, .invokevirtual 289, 3), (58, .iastore, 1), (59, .iinc 3 1, 3), (62, .goto (-29), 3)],
  [(65, .iconst 1, 1), (66, .iload_n 1, 1), (67, .iconst 2, 1), (68, .isub, 1), (69, .ishl, 1), (70, .istore_n 3, 1), (71, .iconst 0, 1), (72, .istore 4, 2), (74, .iconst 0, 1), (75, .istore 5, 2), (77, .iload 5, 2), (79, .aload_n 0, 1), (80, .getfield 85, 3), (83, .arraylength, 1), (84, .if_icmp .ge 61, 3), (87, .iload 5, 2), (89, .invokestatic 173, 3), (92, .istore 6, 2), (94, .iload 5, 2), (96, .iload_n 3, 1), (97, .iand, 1), (98, .ifCond .ne 41, 3), (101, .iload 6, 2), (103, .getstatic 292, 3), (106, .arraylength, 1), (107, .if_icmp .ge 32, 3), (110, .iload 4, 2), (112, .getstatic 292, 3), (115, .iload 6, 2), (117, .iaload, 1), (118, .aload_n 0, 1), (119, .getfield 85, 3), (122, .iload 5, 2), (124, .iload_n 3, 1), (125, .ior, 1), (126, .iaload, 1), (127, .aload_n 0, 1)],
  [(128, .getfield 85, 3), (131, .iload 5, 2), (133, .iaload, 1), (134, .isub, 1), (135, .imul, 1), (136, .iadd, 1), (137, .istore 4, 2), (139, .iinc 5 1, 3), (142, .goto (-65), 3), (145, .iload 4, 2), (147, .i2l, 1), (148, .ldc2_w 295, 3), (151, .iload_n 2, 1), (152, .invokestatic 297, 3), (155, .l2i, 1), (156, .ireturn, 1)]]
def px_t136 : List (List (Nat × Instr × Nat)) := [[(0, .iload_n 1, 1), (1, .iload_n 2, 1), (2, .invokestatic 301, 3), (5, .ifCond .ne 10, 3), (8, .aload_n 0, 1), (9, .invokevirtual 178, 3), (12, .ifCond .eq 6, 3), (15, .bipush (-2), 2), (17, .ireturn, 1), (18, .iconst 0, 1), (19, .istore_n 3, 1), (20, .iconst 0, 1), (21, .istore 4, 2), (23, .iload 4, 2), (25, .iconst 4, 1), (26, .if_icmp .ge 106, 3), (29, .iload 4, 2), (31, .iconst 1, 1), (32, .iand, 1), (33, .istore 5, 2), (35, .iload 4, 2), (37, .iconst 1, 1), (38, .ishr, 1), (39, .istore 6, 2), (41, .aload_n 0, 1), (42, .iload_n 1, 1), (43, .iload_n 2, 1), (44, .iload 5, 2), (46, .iload 6, 2), (48, .iconst 0, 1), (49, .invokevirtual 304, 3), (52, .aload_n 0, 1), (53, .iload_n 1, 1), (54, .iload_n 2, 1), (55, .iconst 1, 1), (56, .iload 5, 2), (58, .isub, 1), (59, .iload 6, 2), (61, .iconst 0, 1), (62, .invokevirtual 304, 3)],
  [(65, .if_icmp .lt 7, 3), (68, .iconst 1, 1), (69, .goto 4, 3), (72, .iconst 0, 1), (73, .istore 7, 2), (75, .aload_n 0, 1), (76, .iload_n 1, 1), (77, .iload_n 2, 1), (78, .iload 5, 2), (80, .iload 6, 2), (82, .iconst 1, 1), (83, .invokevirtual 304, 3), (86, .aload_n 0, 1), (87, .iload_n 1, 1), (88, .iload_n 2, 1), (89, .iload 5, 2), (91, .iconst 1, 1), (92, .iload 6, 2), (94, .isub, 1), (95, .iconst 1, 1), (96, .invokevirtual 304, 3), (99, .if_icmp .lt 7, 3), (102, .iconst 1, 1), (103, .goto 4, 3), (106, .iconst 0, 1), (107, .istore 8, 2), (109, .iload 7, 2), (111, .ifCond .eq 15, 3), (114, .iload 8, 2), (116, .ifCond .eq 10, 3), (119, .iload_n 3, 1), (120, .iconst 1, 1), (121, .iload 4, 2), (123, .ishl, 1), (124, .ior, 1), (125, .istore_n 3, 1), (126, .iinc 4 1, 3)],
  [(129, .goto (-106), 3), (132, .iload_n 3, 1), (133, .ireturn, 1)]]
def px_t137 : List (List (Nat × Instr × Nat)) := [[(0, .iload_n 1, 1), (1, .iload_n 2, 1), (2, .invokestatic 301, 3), (5, .ifCond .ne 30, 3), (8, .iload_n 3, 1), (9, .ifCond .lt 26, 3), (12, .iload_n 3, 1), (13, .iconst 1, 1), (14, .if_icmp .gt 21, 3), (17, .iload 4, 2), (19, .ifCond .lt 16, 3), (22, .iload 4, 2), (24, .iconst 1, 1), (25, .if_icmp .gt 10, 3), (28, .aload_n 0, 1), (29, .invokevirtual 178, 3), (32, .ifCond .eq 6, 3), (35, .bipush (-2), 2), (37, .ireturn, 1), (38, .aload_n 0, 1), (39, .iload_n 1, 1), (40, .iload_n 2, 1), (41, .iload_n 3, 1), (42, .iload 4, 2), (44, .iconst 0, 1), (45, .invokevirtual 304, 3), (48, .ireturn, 1)]]
def px_t138 : List (List (Nat × Instr × Nat)) := [[(0, .iload_n 1, 1), (1, .invokestatic 152, 3), (4, .ifCond .ne 12, 3), (7, .aload_n 0, 1), (8, .iload_n 2, 1), (9, .iload_n 3, 1), (10, .invokevirtual 308, 3), (13, .ifCond .eq 7, 3), (16, .ldc2_w 311, 3), (19, .lreturn, 1), (20, .aload_n 0, 1), (21, .iload_n 2, 1), (22, .iload_n 1, 1), (23, .invokestatic 164, 3), (26, .invokevirtual 313, 3), (29, .iload_n 2, 1), (30, .invokestatic 317, 3), (33, .iload_n 3, 1), (34, .invokestatic 297, 3), (37, .lreturn, 1)]]
def px_t139 : List (List (Nat × Instr × Nat)) := [[(0, .aload_n 0, 1), (1, .iload_n 1, 1), (2, .iload_n 2, 1), (3, .invokevirtual 308, 3), (6, .ifCond .eq 7, 3), (9, .ldc2_w 311, 3), (12, .lreturn, 1), (13, .aload_n 0, 1), (14, .iload_n 1, 1), (15, .sipush 32767, 3), (18, .invokevirtual 313, 3), (21, .iload_n 1, 1), (22, .invokestatic 317, 3), (25, .iload_n 2, 1), (26, .invokestatic 297, 3), (29, .lreturn, 1)]]
def px_t140 : List (List (Nat × Instr × Nat)) := [[(0, .aload_n 0, 1), (1, .invokevirtual 178, 3), (4, .ifCond .ne 13, 3), (7, .iload_n 1, 1), (8, .ifCond .lt 9, 3), (11, .iload_n 1, 1), (12, .bipush 10, 2), (14, .if_icmp .lt 6, 3), (17, .bipush (-2), 2), (19, .ireturn, 1), (20, .iload_n 1, 1), (21, .iconst 1, 1), (22, .iload_n 2, 1), (23, .invokestatic 321, 3), (26, .ifCond .eq 22, 3), (29, .iload_n 1, 1), (30, .iconst 2, 1), (31, .iload_n 3, 1), (32, .invokestatic 321, 3), (35, .ifCond .eq 13, 3), (38, .iload_n 1, 1), (39, .iconst 3, 1), (40, .iload 4, 2), (42, .invokestatic 321, 3), (45, .ifCond .ne 6, 3), (48, .bipush (-2), 2), (50, .ireturn, 1), (51, .aload_n 0, 1), (52, .getfield 28, 3), (55, .getfield 324, 3), (58, .bipush 30, 2), (60, .if_icmp .lt 6, 3), (63, .bipush (-5), 2)],
  [(65, .ireturn, 1), (66, .aload_n 0, 1), (67, .getfield 28, 3), (70, .iload_n 1, 1), (71, .iload_n 2, 1), (72, .iload_n 3, 1), (73, .iload 4, 2), (75, .invokestatic 327, 3), (78, .invokevirtual 331, 3), (81, .aload_n 0, 1), (82, .getfield 28, 3), (85, .dup, 1), (86, .getfield 324, 3), (89, .iconst 1, 1), (90, .iadd, 1), (91, .putfield 324, 3), (94, .aload_n 0, 1), (95, .getfield 58, 3), (98, .aload_n 0, 1), (99, .getfield 28, 3), (102, .invokevirtual 115, 3), (105, .iconst 1, 1), (106, .isub, 1), (107, .invokevirtual 135, 3), (110, .ireturn, 1)]]
def px_t141 : List (List (Nat × Instr × Nat)) := [[(0, .aload_n 0, 1), (1, .invokevirtual 178, 3), (4, .ifCond .eq 6, 3), (7, .bipush (-2), 2), (9, .ireturn, 1), (10, .aload_n 0, 1), (11, .getfield 28, 3), (14, .getfield 324, 3), (17, .ifCond .ne 6, 3), (20, .bipush (-5), 2), (22, .ireturn, 1), (23, .aload_n 0, 1), (24, .getfield 28, 3), (27, .dup, 1), (28, .getfield 324, 3), (31, .iconst 1, 1), (32, .isub, 1), (33, .putfield 324, 3), (36, .aload_n 0, 1), (37, .invokevirtual 106, 3), (40, .aload_n 0, 1), (41, .getfield 28, 3), (44, .getfield 324, 3), (47, .ireturn, 1)]]
def px_t142 : List (List (Nat × Instr × Nat)) := [[(0, .aload_n 0, 1), (1, .invokevirtual 178, 3), (4, .ifCond .eq 6, 3), (7, .bipush (-2), 2), (9, .ireturn, 1), (10, .aload_n 0, 1), (11, .getfield 28, 3), (14, .getfield 324, 3), (17, .istore_n 1, 1), (18, .aload_n 0, 1), (19, .getfield 28, 3), (22, .iconst 0, 1), (23, .putfield 324, 3), (26, .aload_n 0, 1), (27, .invokevirtual 106, 3), (30, .iload_n 1, 1), (31, .ireturn, 1)]]
def px_t143 : List (List (Nat × Instr × Nat)) := [[(0, .iload_n 1, 1), (1, .invokestatic 334, 3), (4, .ifCond .ne 19, 3), (7, .iload_n 2, 1), (8, .ifCond .lt 15, 3), (11, .iload_n 2, 1), (12, .iconst 1, 1), (13, .if_icmp .gt 10, 3), (16, .aload_n 0, 1), (17, .invokevirtual 178, 3), (20, .ifCond .eq 6, 3), (23, .bipush (-2), 2), (25, .ireturn, 1), (26, .aload_n 0, 1), (27, .iload_n 1, 1), (28, .i2l, 1), (29, .invokevirtual 337, 3), (32, .istore_n 3, 1), (33, .iload_n 2, 1), (34, .ifCond .ne 7, 3), (37, .iload_n 3, 1), (38, .goto 13, 3), (41, .aload_n 0, 1), (42, .getfield 81, 3), (45, .getfield 149, 3), (48, .invokestatic 173, 3), (51, .ireturn, 1)]]
def px_t144 : List (List (Nat × Instr × Nat)) := [[(0, .iload_n 1, 1), (1, .invokestatic 334, 3), (4, .ifCond .ne 28, 3), (7, .iload_n 2, 1), (8, .iconst 1, 1), (9, .if_icmp .lt 23, 3), (12, .iload_n 2, 1), (13, .bipush 20, 2), (15, .if_icmp .gt 17, 3), (18, .iload_n 3, 1), (19, .invokestatic 152, 3), (22, .ifCond .ne 10, 3), (25, .aload_n 0, 1), (26, .invokevirtual 178, 3), (29, .ifCond .eq 6, 3), (32, .bipush (-2), 2), (34, .ireturn, 1), (35, .iconst 0, 1), (36, .istore 4, 2), (38, .iconst 0, 1), (39, .istore 5, 2), (41, .iload 5, 2), (43, .iload_n 2, 1), (44, .if_icmp .ge 34, 3), (47, .aload_n 0, 1), (48, .iload_n 1, 1), (49, .i2l, 1), (50, .iload 5, 2), (52, .i2l, 1), (53, .ladd, 1), (54, .invokevirtual 337, 3), (57, .pop, 1), (58, .aload_n 0, 1), (59, .getfield 81, 3), (62, .iload_n 3, 1), (63, .invokevirtual 158, 3)],
  [(66, .ifCond .eq 6, 3), (69, .iinc 4 1, 3), (72, .iinc 5 1, 3), (75, .goto (-34), 3), (78, .iload 4, 2), (80, .ireturn, 1)]]
def px_t145 : List (List (Nat × Instr × Nat)) := [[(0, .iload_n 1, 1), (1, .tableswitch 96 0 6 #[43, 51, 59, 67, 75, 83, 91], 43), (44, .aload_n 0, 1), (45, .getfield 28, 3), (48, .getfield 274, 3), (51, .ireturn, 1), (52, .aload_n 0, 1), (53, .getfield 28, 3), (56, .getfield 341, 3), (59, .ireturn, 1), (60, .aload_n 0, 1), (61, .getfield 28, 3)],
  [(64, .getfield 271, 3), (67, .ireturn, 1), (68, .aload_n 0, 1), (69, .getfield 28, 3), (72, .getfield 324, 3), (75, .ireturn, 1), (76, .aload_n 0, 1), (77, .getfield 28, 3), (80, .getfield 109, 3), (83, .ireturn, 1), (84, .aload_n 0, 1), (85, .getfield 10, 3), (88, .getfield 89, 3), (91, .ireturn, 1), (92, .aload_n 0, 1), (93, .invokevirtual 344, 3), (96, .ireturn, 1), (97, .iconst (-1), 1), (98, .ireturn, 1)]]
def px_t146 : List (List (Nat × Instr × Nat)) := [[(0, .iload_n 1, 1), (1, .ifCond .lt 8, 3), (4, .iload_n 1, 1), (5, .iconst 3, 1), (6, .if_icmp .lt 6, 3), (9, .bipush (-2), 2), (11, .ireturn, 1), (12, .aload_n 0, 1), (13, .getfield 35, 3), (16, .iload_n 1, 1), (17, .aaload, 1), (18, .aload_n 0, 1), (19, .getfield 28, 3), (22, .invokevirtual 103, 3), (25, .aload_n 0, 1), (26, .getfield 35, 3), (29, .iload_n 1, 1), (30, .aaload, 1), (31, .iconst 1, 1), (32, .putfield 347, 3), (35, .iconst 0, 1), (36, .ireturn, 1)]]
def px_t147 : List (List (Nat × Instr × Nat)) := [[(0, .iload_n 1, 1), (1, .ifCond .lt 8, 3), (4, .iload_n 1, 1), (5, .iconst 3, 1), (6, .if_icmp .lt 6, 3), (9, .bipush (-2), 2), (11, .ireturn, 1), (12, .aload_n 0, 1), (13, .getfield 35, 3), (16, .iload_n 1, 1), (17, .aaload, 1), (18, .getfield 347, 3), (21, .ifCond .ne 6, 3), (24, .bipush (-6), 2), (26, .ireturn, 1), (27, .aload_n 0, 1), (28, .getfield 28, 3), (31, .aload_n 0, 1), (32, .getfield 35, 3), (35, .iload_n 1, 1), (36, .aaload, 1), (37, .invokevirtual 103, 3), (40, .aload_n 0, 1), (41, .invokevirtual 106, 3), (44, .iconst 0, 1), (45, .ireturn, 1)]]
def px_t148 : List (List (Nat × Instr × Nat)) := [[(0, .iload_n 1, 1), (1, .invokestatic 351, 3), (4, .ifCond .ne 18, 3), (7, .iload_n 2, 1), (8, .ifCond .lt 14, 3), (11, .iload_n 2, 1), (12, .iconst 4, 1), (13, .if_icmp .ge 9, 3), (16, .iload_n 3, 1), (17, .bipush 60, 2), (19, .if_icmp .le 6, 3), (22, .bipush (-2), 2), (24, .ireturn, 1), (25, .iload_n 3, 1), (26, .ifCond .ge 6, 3), (29, .bipush (-3), 2), (31, .ireturn, 1), (32, .aload_n 0, 1), (33, .getfield 41, 3), (36, .iload_n 1, 1), (37, .aaload, 1), (38, .iload_n 2, 1), (39, .iload_n 3, 1), (40, .invokevirtual 354, 3), (43, .iconst 0, 1), (44, .ireturn, 1)]]
def px_t149 : List (List (Nat × Instr × Nat)) := [[(0, .iload_n 1, 1), (1, .invokestatic 351, 3), (4, .ifCond .eq 6, 3), (7, .bipush (-2), 2), (9, .ireturn, 1), (10, .aload_n 0, 1), (11, .getfield 41, 3), (14, .iload_n 1, 1), (15, .aaload, 1), (16, .astore 5, 2), (18, .aload 5, 2), (20, .getfield 358, 3), (23, .ifCond .ne 6, 3), (26, .bipush (-6), 2), (28, .ireturn, 1), (29, .iload_n 2, 1), (30, .ifCond .lt 12, 3), (33, .iload_n 2, 1), (34, .aload 5, 2), (36, .getfield 361, 3), (39, .if_icmp .lt 6, 3), (42, .bipush (-7), 2), (44, .ireturn, 1), (45, .aload 5, 2), (47, .iload_n 2, 1), (48, .lload_n 3, 1), (49, .invokevirtual 362, 3), (52, .iconst 0, 1), (53, .ireturn, 1)]]
def px_t150 : List (List (Nat × Instr × Nat)) := [[(0, .iload_n 1, 1), (1, .invokestatic 351, 3), (4, .ifCond .ne 10, 3), (7, .iload_n 3, 1), (8, .invokestatic 351, 3), (11, .ifCond .eq 6, 3), (14, .bipush (-2), 2), (16, .ireturn, 1), (17, .aload_n 0, 1), (18, .getfield 41, 3), (21, .iload_n 1, 1), (22, .aaload, 1), (23, .astore 6, 2), (25, .aload_n 0, 1), (26, .getfield 41, 3), (29, .iload_n 3, 1), (30, .aaload, 1), (31, .astore 7, 2), (33, .aload 6, 2), (35, .getfield 358, 3), (38, .ifCond .eq 11, 3), (41, .aload 7, 2), (43, .getfield 358, 3), (46, .ifCond .ne 6, 3), (49, .bipush (-6), 2), (51, .ireturn, 1), (52, .aload 6, 2), (54, .getfield 365, 3), (57, .aload 7, 2), (59, .getfield 365, 3), (62, .if_icmp .eq 6, 3)],
  [(65, .bipush (-8), 2), (67, .ireturn, 1), (68, .aload 6, 2), (70, .iload_n 2, 1), (71, .iload 5, 2), (73, .invokevirtual 368, 3), (76, .ifCond .ne 15, 3), (79, .aload 7, 2), (81, .iload 4, 2), (83, .iload 5, 2), (85, .invokevirtual 368, 3), (88, .ifCond .eq 6, 3), (91, .bipush (-7), 2), (93, .ireturn, 1), (94, .aload 6, 2), (96, .getfield 371, 3), (99, .iload_n 2, 1), (100, .aload 7, 2), (102, .getfield 371, 3), (105, .iload 4, 2), (107, .iload 5, 2), (109, .invokestatic 375, 3), (112, .iconst 0, 1), (113, .ireturn, 1)]]
def px_t151 : List (List (Nat × Instr × Nat)) := [[(0, .aload_n 0, 1), (1, .getfield 28, 3), (4, .getfield 109, 3), (7, .ifCond .ne 7, 3), (10, .iconst 1, 1), (11, .goto 4, 3), (14, .iconst 0, 1), (15, .ireturn, 1)]]
def px_t152 : List (List (Nat × Instr × Nat)) := [[(0, .aload_n 0, 1), (1, .invokevirtual 178, 3), (4, .ifCond .ne 18, 3), (7, .iload_n 1, 1), (8, .ifCond .lt 14, 3), (11, .iload_n 1, 1), (12, .aload_n 0, 1), (13, .getfield 28, 3), (16, .invokevirtual 115, 3), (19, .if_icmp .le 7, 3), (22, .iconst 1, 1), (23, .goto 4, 3), (26, .iconst 0, 1), (27, .ireturn, 1)]]
def px_t153 : List (List (Nat × Instr × Nat)) := [[(0, .iload_n 0, 1), (1, .iconst 1, 1), (2, .if_icmp .lt 9, 3), (5, .iload_n 0, 1), (6, .bipush 15, 2), (8, .if_icmp .le 7, 3), (11, .iconst 1, 1), (12, .goto 4, 3), (15, .iconst 0, 1), (16, .ireturn, 1)]]
def px_t154 : List (List (Nat × Instr × Nat)) := [[(0, .iload_n 0, 1), (1, .invokestatic 152, 3), (4, .ifCond .ne 13, 3), (7, .iload_n 1, 1), (8, .ifCond .lt 9, 3), (11, .iload_n 1, 1), (12, .bipush 8, 2), (14, .if_icmp .lt 7, 3), (17, .iconst 1, 1), (18, .goto 4, 3), (21, .iconst 0, 1), (22, .ireturn, 1)]]
def px_t155 : List (List (Nat × Instr × Nat)) := [[(0, .iload_n 0, 1), (1, .ifCond .lt 10, 3), (4, .iload_n 0, 1), (5, .sipush 200, 3), (8, .if_icmp .lt 7, 3), (11, .iconst 1, 1), (12, .goto 4, 3), (15, .iconst 0, 1), (16, .ireturn, 1)]]
def px_t156 : List (List (Nat × Instr × Nat)) := [[(0, .iload_n 0, 1), (1, .ifCond .lt 8, 3), (4, .iload_n 0, 1), (5, .iconst 4, 1), (6, .if_icmp .lt 7, 3), (9, .iconst 1, 1), (10, .goto 4, 3), (13, .iconst 0, 1), (14, .ireturn, 1)]]
def px_t157 : List (List (Nat × Instr × Nat)) := [[(0, .iload_n 0, 1), (1, .ifCond .lt 10, 3), (4, .iload_n 0, 1), (5, .ldc_w 381, 3), (8, .if_icmp .le 7, 3), (11, .iconst 1, 1), (12, .goto 4, 3), (15, .iconst 0, 1), (16, .ireturn, 1)]]
def px_t158 : List (List (Nat × Instr × Nat)) := [[(0, .iload_n 0, 1), (1, .iconst 2, 1), (2, .if_icmp .lt 27, 3), (5, .iload_n 0, 1), (6, .invokestatic 152, 3), (9, .ifCond .ne 20, 3), (12, .iload_n 1, 1), (13, .iconst 2, 1), (14, .if_icmp .lt 15, 3), (17, .iload_n 1, 1), (18, .invokestatic 152, 3), (21, .ifCond .ne 8, 3), (24, .iload_n 0, 1), (25, .iload_n 1, 1), (26, .if_icmp .ne 7, 3), (29, .iconst 1, 1), (30, .goto 4, 3), (33, .iconst 0, 1), (34, .ireturn, 1)]]
def px_t159 : List (List (Nat × Instr × Nat)) := [[(0, .aload_n 0, 1), (1, .iload_n 1, 1), (2, .invokevirtual 138, 3), (5, .ifCond .ne 27, 3), (8, .aload_n 0, 1), (9, .iload_n 3, 1), (10, .invokevirtual 138, 3), (13, .ifCond .ne 19, 3), (16, .iload_n 3, 1), (17, .iload_n 1, 1), (18, .if_icmp .le 14, 3), (21, .iload_n 2, 1), (22, .iconst 1, 1), (23, .if_icmp .lt 9, 3), (26, .iload_n 2, 1), (27, .bipush 40, 2), (29, .if_icmp .le 7, 3), (32, .iconst 1, 1), (33, .goto 4, 3), (36, .iconst 0, 1), (37, .ireturn, 1)]]
def px_t160 : List (List (Nat × Instr × Nat)) := [[(0, .aload_n 0, 1), (1, .invokevirtual 178, 3), (4, .ifCond .ne 33, 3), (7, .iload_n 1, 1), (8, .ifCond .lt 29, 3), (11, .iload_n 1, 1), (12, .bipush 6, 2), (14, .if_icmp .gt 23, 3), (17, .iload_n 1, 1), (18, .aload_n 0, 1), (19, .getfield 28, 3), (22, .invokevirtual 115, 3), (25, .if_icmp .gt 12, 3), (28, .iload_n 2, 1), (29, .ifCond .lt 8, 3), (32, .iload_n 2, 1), (33, .iconst 1, 1), (34, .if_icmp .le 7, 3), (37, .iconst 1, 1), (38, .goto 4, 3), (41, .iconst 0, 1), (42, .ireturn, 1)]]
def px_t161 : List (List (Nat × Instr × Nat)) := [[(0, .iconst 1, 1), (1, .iload_n 0, 1), (2, .iconst 1, 1), (3, .isub, 1), (4, .ishl, 1), (5, .ireturn, 1)]]
def px_t162 : List (List (Nat × Instr × Nat)) := [[(0, .iconst 0, 1), (1, .istore_n 1, 1), (2, .iconst 0, 1), (3, .istore_n 2, 1), (4, .iload_n 2, 1), (5, .iconst 4, 1), (6, .if_icmp .ge 24, 3), (9, .aload_n 0, 1), (10, .getfield 41, 3), (13, .iload_n 2, 1), (14, .aaload, 1), (15, .getfield 358, 3), (18, .ifCond .eq 6, 3), (21, .iinc 1 1, 3), (24, .iinc 2 1, 3), (27, .goto (-23), 3), (30, .iload_n 1, 1), (31, .ireturn, 1)]]
def px_t163 : List (List (Nat × Instr × Nat)) := [[(0, .aload_n 0, 1), (1, .getfield 58, 3), (4, .invokevirtual 382, 3), (7, .aload_n 0, 1), (8, .getfield 67, 3), (11, .invokevirtual 385, 3), (14, .return_, 1)]]
def px_t164 : List (List (Nat × Instr × Nat)) := [[(0, .iload_n 3, 1), (1, .istore 4, 2), (3, .iload 4, 2), (5, .aload_n 0, 1), (6, .getfield 28, 3), (9, .invokevirtual 115, 3), (12, .if_icmp .gt 29, 3), (15, .aload_n 0, 1), (16, .getfield 58, 3), (19, .iload 4, 2), (21, .invokevirtual 145, 3), (24, .iload_n 1, 1), (25, .invokevirtual 158, 3), (28, .iload_n 2, 1), (29, .if_icmp .ne 6, 3), (32, .iload 4, 2), (34, .ireturn, 1), (35, .iinc 4 1, 3), (38, .goto (-35), 3), (41, .iconst (-1), 1), (42, .ireturn, 1)]]
def px_t165 : List (List (Nat × Instr × Nat)) := [[(0, .aload_n 0, 1), (1, .getfield 81, 3), (4, .invokevirtual 386, 3), (7, .iconst 0, 1), (8, .istore_n 3, 1), (9, .iconst 0, 1), (10, .istore 4, 2), (12, .iload 4, 2), (14, .aload_n 0, 1), (15, .getfield 28, 3), (18, .invokevirtual 115, 3), (21, .if_icmp .ge 38, 3), (24, .iload 4, 2), (26, .iload_n 1, 1), (27, .if_icmp .eq 26, 3), (30, .aload_n 0, 1), (31, .getfield 81, 3), (34, .aload_n 0, 1), (35, .getfield 28, 3), (38, .iload 4, 2), (40, .invokevirtual 119, 3), (43, .iload_n 2, 1), (44, .invokevirtual 388, 3), (47, .ifCond .eq 6, 3), (50, .iinc 3 1, 3), (53, .iinc 4 1, 3), (56, .goto (-44), 3), (59, .iload_n 3, 1), (60, .ireturn, 1)]]
def px_t166 : List (List (Nat × Instr × Nat)) := [[(0, .aload_n 0, 1), (1, .iconst (-1), 1), (2, .iload_n 1, 1), (3, .invokevirtual 277, 3), (6, .pop, 1), (7, .aload_n 0, 1), (8, .getfield 74, 3), (11, .aload_n 0, 1), (12, .getfield 81, 3), (15, .invokevirtual 232, 3), (18, .aload_n 0, 1), (19, .getfield 74, 3), (22, .getfield 238, 3), (25, .invokestatic 173, 3), (28, .ireturn, 1)]]
def px_t167 : List (List (Nat × Instr × Nat)) := [[(0, .iload_n 1, 1), (1, .invokestatic 351, 3), (4, .ifCond .ne 10, 3), (7, .aload_n 0, 1), (8, .invokevirtual 178, 3), (11, .ifCond .eq 6, 3), (14, .bipush (-2), 2), (16, .ireturn, 1), (17, .aload_n 0, 1), (18, .getfield 41, 3), (21, .iload_n 1, 1), (22, .aaload, 1), (23, .getfield 358, 3), (26, .ifCond .ne 6, 3), (29, .bipush (-6), 2), (31, .ireturn, 1), (32, .aload_n 0, 1), (33, .getfield 49, 3), (36, .aload_n 0, 1), (37, .getfield 41, 3), (40, .iload_n 1, 1), (41, .aaload, 1), (42, .aload_n 0, 1), (43, .getfield 28, 3), (46, .invokevirtual 115, 3), (49, .invokevirtual 391, 3), (52, .ifCond .eq 7, 3), (55, .iconst 0, 1), (56, .goto 5, 3), (59, .bipush (-2), 2), (61, .ireturn, 1)]]
def px_t168 : List (List (Nat × Instr × Nat)) := [[(0, .aload_n 0, 1), (1, .getfield 81, 3), (4, .invokevirtual 386, 3), (7, .aload_n 0, 1), (8, .getfield 49, 3), (11, .iconst 0, 1), (12, .iconst 0, 1), (13, .aload_n 0, 1), (14, .getfield 81, 3), (17, .invokevirtual 394, 3), (20, .istore_n 3, 1), (21, .iconst 0, 1), (22, .istore 4, 2), (24, .iload 4, 2), (26, .aload_n 0, 1), (27, .getfield 28, 3), (30, .invokevirtual 115, 3), (33, .if_icmp .ge 65, 3), (36, .iload_n 3, 1), (37, .ifCond .lt 61, 3), (40, .iload_n 3, 1), (41, .aload_n 0, 1), (42, .getfield 49, 3), (45, .getfield 398, 3), (48, .if_icmp .ge 50, 3), (51, .iload 4, 2), (53, .iload_n 1, 1), (54, .if_icmp .eq 21, 3), (57, .aload_n 0, 1), (58, .getfield 81, 3), (61, .aload_n 0, 1), (62, .getfield 28, 3)],
  [(65, .iload 4, 2), (67, .invokevirtual 119, 3), (70, .iload_n 2, 1), (71, .invokevirtual 388, 3), (74, .pop, 1), (75, .aload_n 0, 1), (76, .getfield 49, 3), (79, .iload_n 3, 1), (80, .iload 4, 2), (82, .iconst 1, 1), (83, .iadd, 1), (84, .aload_n 0, 1), (85, .getfield 81, 3), (88, .invokevirtual 394, 3), (91, .istore_n 3, 1), (92, .iinc 4 1, 3), (95, .goto (-71), 3), (98, .iload_n 3, 1), (99, .ifCond .lt 7, 3), (102, .iconst 1, 1), (103, .goto 4, 3), (106, .iconst 0, 1), (107, .ireturn, 1)]]
def px_t169 : List (List (Nat × Instr × Nat)) := [[(0, .aload_n 0, 1), (1, .getfield 81, 3), (4, .invokevirtual 386, 3), (7, .iload_n 1, 1), (8, .iconst 1, 1), (9, .ior, 1), (10, .istore_n 2, 1), (11, .iconst 0, 1), (12, .istore_n 3, 1), (13, .iload_n 3, 1), (14, .aload_n 0, 1), (15, .getfield 28, 3), (18, .invokevirtual 115, 3), (21, .if_icmp .ge 50, 3), (24, .aload_n 0, 1), (25, .getfield 28, 3), (28, .iload_n 3, 1), (29, .invokevirtual 119, 3), (32, .istore 4, 2), (34, .iload_n 2, 1), (35, .iload 4, 2), (37, .iconst 1, 1), (38, .invokestatic 131, 3), (41, .invokestatic 164, 3), (44, .iand, 1), (45, .ifCond .eq 20, 3), (48, .aload_n 0, 1), (49, .getfield 81, 3), (52, .iload 4, 2), (54, .aload_n 0, 1), (55, .getfield 28, 3), (58, .getfield 274, 3), (61, .invokevirtual 388, 3)],
  [(64, .pop, 1), (65, .iinc 3 1, 3), (68, .goto (-55), 3), (71, .aload_n 0, 1), (72, .getfield 81, 3), (75, .getfield 149, 3), (78, .invokestatic 173, 3), (81, .ireturn, 1)]]
def px_t170 : List (List (Nat × Instr × Nat)) := [[(0, .aload_n 0, 1), (1, .getfield 81, 3), (4, .aload_n 0, 1), (5, .getfield 58, 3), (8, .aload_n 0, 1), (9, .getfield 28, 3), (12, .invokevirtual 115, 3), (15, .invokevirtual 145, 3), (18, .invokevirtual 399, 3), (21, .iload 5, 2), (23, .ifCond .eq 7, 3), (26, .iload_n 2, 1), (27, .goto 4, 3), (30, .iload_n 1, 1), (31, .istore 6, 2), (33, .aload_n 0, 1), (34, .getfield 81, 3), (37, .iload 6, 2), (39, .invokevirtual 158, 3), (42, .istore 7, 2), (44, .iload_n 3, 1), (45, .iconst 1, 1), (46, .if_icmp .ne 25, 3), (49, .aload_n 0, 1), (50, .getfield 81, 3), (53, .iconst 2, 1), (54, .iload_n 1, 1), (55, .iconst 0, 1), (56, .iconst 0, 1), (57, .invokestatic 327, 3), (60, .aload_n 0, 1), (61, .getfield 28, 3)],
  [(64, .getfield 274, 3), (67, .invokevirtual 388, 3), (70, .pop, 1), (71, .iload 4, 2), (73, .iconst 1, 1), (74, .if_icmp .ne 25, 3), (77, .aload_n 0, 1), (78, .getfield 81, 3), (81, .iconst 2, 1), (82, .iload_n 2, 1), (83, .iconst 0, 1), (84, .iconst 0, 1), (85, .invokestatic 327, 3), (88, .aload_n 0, 1), (89, .getfield 28, 3), (92, .getfield 274, 3), (95, .invokevirtual 388, 3), (98, .pop, 1), (99, .iload 5, 2), (101, .ifCond .eq 8, 3), (104, .iload 4, 2), (106, .goto 4, 3), (109, .iload_n 3, 1), (110, .iconst 1, 1), (111, .if_icmp .ne 14, 3), (114, .iload 7, 2), (116, .ifCond .eq 7, 3), (119, .iconst 2, 1), (120, .goto 4, 3), (123, .iconst 0, 1), (124, .ireturn, 1), (125, .iconst 3, 1), (126, .aload_n 0, 1), (127, .getfield 81, 3)],
  [(130, .iload 6, 2), (132, .invokevirtual 167, 3), (135, .imul, 1), (136, .ireturn, 1)]]
def px_t171 : List (List (Nat × Instr × Nat)) := [[(0, .aload_n 0, 1), (1, .getfield 28, 3), (4, .invokevirtual 115, 3), (7, .iload_n 1, 1), (8, .isub, 1), (9, .istore_n 3, 1), (10, .lconst 0, 1), (11, .lstore 4, 2), (13, .iconst 0, 1), (14, .istore 6, 2), (16, .iload 6, 2), (18, .iconst 1, 1), (19, .iload_n 1, 1), (20, .ishl, 1), (21, .if_icmp .ge 131, 3), (24, .lconst 1, 1), (25, .lstore 7, 2), (27, .aload_n 0, 1), (28, .getfield 81, 3), (31, .aload_n 0, 1), (32, .getfield 58, 3), (35, .iload_n 3, 1), (36, .invokevirtual 145, 3), (39, .invokevirtual 399, 3), (42, .iconst 0, 1), (43, .istore 9, 2), (45, .iload 9, 2), (47, .iload_n 1, 1), (48, .if_icmp .ge 77, 3), (51, .iload 6, 2), (53, .iload 9, 2), (55, .ishr, 1), (56, .iconst 1, 1), (57, .iand, 1), (58, .ifCond .eq 19, 3), (61, .lload 7, 2), (63, .aload_n 0, 1)],
  [(64, .getfield 28, 3), (67, .getfield 341, 3), (70, .i2l, 1), (71, .lmul, 1), (72, .lstore 7, 2), (74, .goto 45, 3), (77, .lload 7, 2), (79, .bipush 10, 2), (81, .aload_n 0, 1), (82, .getfield 28, 3), (85, .getfield 341, 3), (88, .isub, 1), (89, .i2l, 1), (90, .lmul, 1), (91, .lstore 7, 2), (93, .aload_n 0, 1), (94, .getfield 81, 3), (97, .aload_n 0, 1), (98, .getfield 28, 3), (101, .iload_n 3, 1), (102, .iload 9, 2), (104, .iadd, 1), (105, .invokevirtual 119, 3), (108, .aload_n 0, 1), (109, .getfield 28, 3), (112, .getfield 274, 3), (115, .invokevirtual 388, 3), (118, .pop, 1), (119, .iinc 9 1, 3), (122, .goto (-77), 3), (125, .lload 4, 2), (127, .lload 7, 2)],
  [(129, .aload_n 0, 1), (130, .getfield 81, 3), (133, .getfield 149, 3), (136, .iload_n 2, 1), (137, .iand, 1), (138, .invokestatic 173, 3), (141, .i2l, 1), (142, .lmul, 1), (143, .ladd, 1), (144, .lstore 4, 2), (146, .iinc 6 1, 3), (149, .goto (-133), 3), (152, .lload 4, 2), (154, .lreturn, 1)]]
def px_t172 : List (List (Nat × Instr × Nat)) := [[(0, .lconst 1, 1), (1, .lstore_n 1, 1), (2, .iconst 0, 1), (3, .istore_n 3, 1), (4, .iload_n 3, 1), (5, .iload_n 0, 1), (6, .if_icmp .ge 15, 3), (9, .lload_n 1, 1), (10, .ldc2_w 402, 3), (13, .lmul, 1), (14, .lstore_n 1, 1), (15, .iinc 3 1, 3), (18, .goto (-14), 3), (21, .lload_n 1, 1), (22, .lreturn, 1)]]
def px_t173 : List (List (Nat × Instr × Nat)) := [[(0, .lload_n 0, 1), (1, .invokestatic 404, 3), (4, .lstore 5, 2), (6, .lload_n 2, 1), (7, .lstore 7, 2), (9, .iconst 0, 1), (10, .istore 9, 2), (12, .iload 9, 2), (14, .sipush 200, 3), (17, .if_icmp .ge 31, 3), (20, .lload 5, 2), (22, .lconst 0, 1), (23, .lcmp, 1), (24, .ifCond .eq 24, 3), (27, .lload 7, 2), (29, .lload 5, 2), (31, .lrem, 1), (32, .lstore 10, 2), (34, .lload 5, 2), (36, .lstore 7, 2), (38, .lload 10, 2), (40, .lstore 5, 2), (42, .iinc 9 1, 3), (45, .goto (-33), 3), (48, .lload 7, 2), (50, .lconst 0, 1), (51, .lcmp, 1), (52, .ifCond .ne 5, 3), (55, .lconst 0, 1), (56, .lreturn, 1), (57, .iload 4, 2), (59, .ifCond .ne 7, 3), (62, .lload_n 0, 1), (63, .goto 4, 3)],
  [(66, .lload_n 2, 1), (67, .lload 7, 2), (69, .ldiv, 1), (70, .lreturn, 1)]]
def px_t174 : List (List (Nat × Instr × Nat)) := [[(0, .aload_n 0, 1), (1, .getfield 81, 3), (4, .invokevirtual 386, 3), (7, .lload_n 1, 1), (8, .lstore_n 3, 1), (9, .iconst 0, 1), (10, .istore 5, 2), (12, .iconst 0, 1), (13, .istore 6, 2), (15, .iload 6, 2), (17, .aload_n 0, 1), (18, .getfield 28, 3), (21, .invokevirtual 115, 3), (24, .if_icmp .ge 74, 3), (27, .ldc2_w 408, 3), (30, .lload_n 3, 1), (31, .lmul, 1), (32, .ldc2_w 410, 3), (35, .ladd, 1), (36, .ldc2_w 412, 3), (39, .lrem, 1), (40, .lstore_n 3, 1), (41, .lload_n 3, 1), (42, .ldc2_w 414, 3), (45, .ldiv, 1), (46, .ldc2_w 402, 3), (49, .lrem, 1), (50, .aload_n 0, 1), (51, .getfield 28, 3), (54, .getfield 341, 3), (57, .i2l, 1), (58, .lcmp, 1), (59, .ifCond .ge 9, 3), (62, .iinc 5 1, 3)],
  [(65, .goto 27, 3), (68, .aload_n 0, 1), (69, .getfield 81, 3), (72, .aload_n 0, 1), (73, .getfield 28, 3), (76, .iload 6, 2), (78, .invokevirtual 119, 3), (81, .aload_n 0, 1), (82, .getfield 28, 3), (85, .getfield 274, 3), (88, .invokevirtual 388, 3), (91, .pop, 1), (92, .iinc 6 1, 3), (95, .goto (-80), 3), (98, .iload 5, 2), (100, .ireturn, 1)]]
def px_t175 : List (List (Nat × Instr × Nat)) := [[(0, .lload_n 0, 1), (1, .lload_n 2, 1), (2, .lcmp, 1), (3, .ifCond .lt 14, 3), (6, .lload_n 0, 1), (7, .lload 4, 2), (9, .lcmp, 1), (10, .ifCond .gt 7, 3), (13, .iconst 1, 1), (14, .goto 4, 3), (17, .iconst 0, 1), (18, .ireturn, 1)]]
def px_t176 : List (List (Nat × Instr × Nat)) := [[(0, .iconst 0, 1), (1, .istore_n 1, 1), (2, .iconst 0, 1), (3, .istore_n 2, 1), (4, .iload_n 2, 1), (5, .bipush 16, 2), (7, .if_icmp .ge 17, 3), (10, .iload_n 1, 1), (11, .iload_n 0, 1), (12, .iload_n 2, 1), (13, .ishr, 1), (14, .iconst 1, 1), (15, .iand, 1), (16, .iadd, 1), (17, .istore_n 1, 1), (18, .iinc 2 1, 3), (21, .goto (-17), 3), (24, .iload_n 1, 1), (25, .ireturn, 1)]]
def px_t177 : List (List (Nat × Instr × Nat)) := [[(0, .iload_n 0, 1), (1, .iload_n 1, 1), (2, .ishr, 1), (3, .iconst 1, 1), (4, .iand, 1), (5, .ireturn, 1)]]
def px_t178 : List (List (Nat × Instr × Nat)) := [[(0, .iload_n 1, 1), (1, .i2l, 1), (2, .lconst 0, 1), (3, .ldc2_w 126, 3), (6, .invokestatic 128, 3), (9, .ifCond .ne 6, 3), (12, .bipush (-2), 2), (14, .ireturn, 1), (15, .iconst 0, 1), (16, .istore_n 2, 1), (17, .iload_n 2, 1), (18, .sipush 285, 3), (21, .if_icmp .ge 27, 3), (24, .aload_n 0, 1), (25, .getfield 13, 3), (28, .sipush 285, 3), (31, .iload_n 1, 1), (32, .imul, 1), (33, .iload_n 2, 1), (34, .iadd, 1), (35, .aload_n 0, 1), (36, .getfield 9, 3), (39, .iload_n 2, 1), (40, .iaload, 1), (41, .iastore, 1), (42, .iinc 2 1, 3), (45, .goto (-28), 3), (48, .aload_n 0, 1), (49, .getfield 16, 3), (52, .iload_n 1, 1), (53, .iconst 1, 1), (54, .bastore, 1), (55, .iconst 0, 1), (56, .ireturn, 1)]]
def px_t179 : List (List (Nat × Instr × Nat)) := [[(0, .iload_n 1, 1), (1, .i2l, 1), (2, .lconst 0, 1), (3, .ldc2_w 126, 3), (6, .invokestatic 128, 3), (9, .ifCond .ne 6, 3), (12, .bipush (-2), 2), (14, .ireturn, 1), (15, .aload_n 0, 1), (16, .getfield 16, 3), (19, .iload_n 1, 1), (20, .baload, 1), (21, .ifCond .ne 6, 3), (24, .bipush (-6), 2), (26, .ireturn, 1), (27, .iconst 0, 1), (28, .istore_n 2, 1), (29, .iload_n 2, 1), (30, .sipush 285, 3), (33, .if_icmp .ge 27, 3), (36, .aload_n 0, 1), (37, .getfield 9, 3), (40, .iload_n 2, 1), (41, .aload_n 0, 1), (42, .getfield 13, 3), (45, .sipush 285, 3), (48, .iload_n 1, 1), (49, .imul, 1), (50, .iload_n 2, 1), (51, .iadd, 1), (52, .iaload, 1), (53, .iastore, 1), (54, .iinc 2 1, 3), (57, .goto (-28), 3), (60, .iconst 0, 1), (61, .ireturn, 1)]]
def px_t180 : List (List (Nat × Instr × Nat)) := [[(0, .aload_n 0, 1), (1, .getfield 9, 3), (4, .iconst 4, 1), (5, .iaload, 1), (6, .ifCond .le 7, 3), (9, .iconst 1, 1), (10, .goto 4, 3), (13, .iconst 0, 1), (14, .ireturn, 1)]]
def px_t181 : List (List (Nat × Instr × Nat)) := [[(0, .aload_n 0, 1), (1, .getfield 9, 3), (4, .iconst 2, 1), (5, .iaload, 1), (6, .aload_n 0, 1), (7, .getfield 9, 3), (10, .iconst 3, 1), (11, .iaload, 1), (12, .iadd, 1), (13, .ireturn, 1)]]
def px_t182 : List (List (Nat × Instr × Nat)) := [[(0, .iload_n 1, 1), (1, .i2l, 1), (2, .lconst 0, 1), (3, .aload_n 0, 1), (4, .invokevirtual 132, 3), (7, .iconst 1, 1), (8, .isub, 1), (9, .i2l, 1), (10, .invokestatic 128, 3), (13, .ireturn, 1)]]
def px_t183 : List (List (Nat × Instr × Nat)) := [[(0, .aload_n 0, 1), (1, .invokevirtual 136, 3), (4, .ifCond .eq 20, 3), (7, .lload_n 1, 1), (8, .lconst 0, 1), (9, .aload_n 0, 1), (10, .invokevirtual 132, 3), (13, .i2l, 1), (14, .invokestatic 128, 3), (17, .ifCond .eq 7, 3), (20, .iconst 1, 1), (21, .goto 4, 3), (24, .iconst 0, 1), (25, .ireturn, 1)]]
def px_t184 : List (List (Nat × Instr × Nat)) := [[(0, .lload_n 0, 1), (1, .lconst 1, 1), (2, .ldc2_w 140, 3), (5, .invokestatic 128, 3), (8, .ireturn, 1)]]
def px_t185 : List (List (Nat × Instr × Nat)) := [[(0, .iload_n 0, 1), (1, .i2l, 1), (2, .lconst 0, 1), (3, .ldc2_w 142, 3), (6, .invokestatic 128, 3), (9, .ireturn, 1)]]
def px_t186 : List (List (Nat × Instr × Nat)) := [[(0, .iload_n 0, 1), (1, .i2l, 1), (2, .lconst 0, 1), (3, .ldc2_w 144, 3), (6, .invokestatic 128, 3), (9, .ireturn, 1)]]
def px_t187 : List (List (Nat × Instr × Nat)) := [[(0, .aload_n 0, 1), (1, .getfield 9, 3), (4, .iconst 5, 1), (5, .iconst 4, 1), (6, .iload_n 1, 1), (7, .imul, 1), (8, .iadd, 1), (9, .iload_n 2, 1), (10, .iadd, 1), (11, .iaload, 1), (12, .ireturn, 1)]]
def px_t188 : List (List (Nat × Instr × Nat)) := [[(0, .iload_n 1, 1), (1, .iconst 1, 1), (2, .if_icmp .ne 29, 3), (5, .iload_n 0, 1), (6, .iconst 1, 1), (7, .if_icmp .eq 8, 3), (10, .iload_n 0, 1), (11, .iconst 2, 1), (12, .if_icmp .ne 7, 3), (15, .iconst (-1), 1), (16, .goto 14, 3), (19, .iload_n 0, 1), (20, .ifCond .ne 8, 3), (23, .bipush 15, 2), (25, .goto 5, 3), (28, .bipush 7, 2), (30, .ireturn, 1), (31, .iload_n 0, 1), (32, .iconst 4, 1), (33, .if_icmp .eq 8, 3), (36, .iload_n 0, 1), (37, .iconst 5, 1), (38, .if_icmp .ne 6, 3), (41, .bipush 7, 2), (43, .ireturn, 1), (44, .iload_n 0, 1), (45, .bipush 7, 2), (47, .if_icmp .eq 9, 3), (50, .iload_n 0, 1), (51, .bipush 8, 2), (53, .if_icmp .ne 8, 3), (56, .bipush 30, 2), (58, .goto 4, 3), (61, .iconst (-1), 1), (62, .ireturn, 1)]]
def px_t189 : List (List (Nat × Instr × Nat)) := [[(0, .iload_n 1, 1), (1, .iconst 1, 1), (2, .if_icmp .ne 15, 3), (5, .iload_n 0, 1), (6, .ifCond .ne 7, 3), (9, .iconst 1, 1), (10, .goto 24, 3), (13, .iconst 0, 1), (14, .goto 20, 3), (17, .iload_n 0, 1), (18, .bipush 7, 2), (20, .if_icmp .eq 9, 3), (23, .iload_n 0, 1), (24, .bipush 8, 2), (26, .if_icmp .ne 7, 3), (29, .iconst 1, 1), (30, .goto 4, 3), (33, .iconst 0, 1), (34, .ireturn, 1)]]
def px_t190 : List (List (Nat × Instr × Nat)) := [[(0, .aload_n 0, 1), (1, .getfield 146, 3), (4, .bipush 20, 2), (6, .iadd, 1), (7, .sipush 900, 3), (10, .if_icmp .le 5, 3), (13, .iconst (-1), 1), (14, .ireturn, 1), (15, .aload_n 0, 1), (16, .getfield 24, 3), (19, .iconst 0, 1), (20, .iload_n 1, 1), (21, .iastore, 1), (22, .aload_n 0, 1), (23, .getfield 24, 3), (26, .iconst 1, 1), (27, .iload_n 2, 1), (28, .iastore, 1), (29, .aload_n 0, 1), (30, .getfield 24, 3), (33, .iconst 2, 1), (34, .iload_n 3, 1), (35, .iastore, 1), (36, .aload_n 0, 1), (37, .getfield 24, 3), (40, .iconst 3, 1), (41, .iload 4, 2), (43, .iastore, 1), (44, .aload_n 0, 1), (45, .getfield 24, 3), (48, .iconst 4, 1), (49, .iload 5, 2), (51, .iastore, 1), (52, .iconst 0, 1), (53, .istore 6, 2), (55, .iload 6, 2), (57, .bipush 20, 2), (59, .if_icmp .ge 42, 3), (62, .aload_n 0, 1), (63, .getfield 20, 3)],
  [(66, .aload_n 0, 1), (67, .getfield 146, 3), (70, .iload 6, 2), (72, .iadd, 1), (73, .aload_n 0, 1), (74, .getfield 24, 3), (77, .iload 6, 2), (79, .iconst 4, 1), (80, .idiv, 1), (81, .iaload, 1), (82, .bipush 24, 2), (84, .bipush 8, 2), (86, .iload 6, 2), (88, .iconst 4, 1), (89, .irem, 1), (90, .imul, 1), (91, .isub, 1), (92, .ishr, 1), (93, .i2b, 1), (94, .bastore, 1), (95, .iinc 6 1, 3), (98, .goto (-43), 3), (101, .aload_n 0, 1), (102, .dup, 1), (103, .getfield 146, 3), (106, .bipush 20, 2), (108, .iadd, 1), (109, .putfield 146, 3), (112, .aload_n 0, 1), (113, .getfield 146, 3), (116, .ireturn, 1)]]
def px_t191 : List (List (Nat × Instr × Nat)) := [[(0, .iload_n 1, 1), (1, .i2l, 1), (2, .lconst 0, 1), (3, .aload_n 0, 1), (4, .getfield 146, 3), (7, .i2l, 1), (8, .invokestatic 128, 3), (11, .ifCond .ne 5, 3), (14, .iconst (-1), 1), (15, .ireturn, 1), (16, .aload_n 0, 1), (17, .iload_n 1, 1), (18, .putfield 146, 3), (21, .iload_n 1, 1), (22, .ireturn, 1)]]
def px_t192 : List (List (Nat × Instr × Nat)) := [[(0, .iload_n 1, 1), (1, .aload_n 0, 1), (2, .getfield 149, 3), (5, .if_icmp .ge 16, 3), (8, .aload_n 0, 1), (9, .getfield 20, 3), (12, .iload_n 1, 1), (13, .baload, 1), (14, .sipush 255, 3), (17, .iand, 1), (18, .goto 4, 3), (21, .iconst (-1), 1), (22, .ireturn, 1)]]
def px_t193 : List (List (Nat × Instr × Nat)) := [[(0, .aload_n 0, 1), (1, .aload_n 0, 1), (2, .getfield 152, 3), (5, .invokevirtual 155, 3), (8, .bipush 32, 2), (10, .if_icmp .eq 16, 3), (13, .aload_n 0, 1), (14, .aload_n 0, 1), (15, .getfield 152, 3), (18, .invokevirtual 155, 3), (21, .bipush 10, 2), (23, .if_icmp .ne 16, 3), (26, .aload_n 0, 1), (27, .dup, 1), (28, .getfield 152, 3), (31, .iconst 1, 1), (32, .iadd, 1), (33, .putfield 152, 3), (36, .goto (-36), 3), (39, .aload_n 0, 1), (40, .aload_n 0, 1), (41, .getfield 152, 3), (44, .putfield 159, 3), (47, .aload_n 0, 1), (48, .aload_n 0, 1), (49, .getfield 152, 3), (52, .invokevirtual 155, 3), (55, .istore_n 1, 1), (56, .iload_n 1, 1), (57, .iconst (-1), 1), (58, .if_icmp .ne 11, 3), (61, .aload_n 0, 1), (62, .iconst 0, 1), (63, .putfield 162, 3)],
  [(66, .goto 173, 3), (69, .iload_n 1, 1), (70, .i2l, 1), (71, .ldc2_w 165, 3), (74, .ldc2_w 167, 3), (77, .invokestatic 128, 3), (80, .ifCond .eq 45, 3), (83, .aload_n 0, 1), (84, .aload_n 0, 1), (85, .getfield 152, 3), (88, .invokevirtual 155, 3), (91, .i2l, 1), (92, .ldc2_w 165, 3), (95, .ldc2_w 167, 3), (98, .invokestatic 128, 3), (101, .ifCond .eq 16, 3), (104, .aload_n 0, 1), (105, .dup, 1), (106, .getfield 152, 3), (109, .iconst 1, 1), (110, .iadd, 1), (111, .putfield 152, 3), (114, .goto (-31), 3), (117, .aload_n 0, 1), (118, .iconst 1, 1), (119, .putfield 162, 3), (122, .goto 117, 3), (125, .iload_n 1, 1), (126, .i2l, 1), (127, .ldc2_w 169, 3)],
  [(130, .ldc2_w 171, 3), (133, .invokestatic 128, 3), (136, .ifCond .eq 78, 3), (139, .aload_n 0, 1), (140, .iconst 0, 1), (141, .putfield 173, 3), (144, .aload_n 0, 1), (145, .aload_n 0, 1), (146, .getfield 152, 3), (149, .invokevirtual 155, 3), (152, .i2l, 1), (153, .ldc2_w 169, 3), (156, .ldc2_w 171, 3), (159, .invokestatic 128, 3), (162, .ifCond .eq 44, 3), (165, .aload_n 0, 1), (166, .ldc 176, 2), (168, .bipush 10, 2), (170, .aload_n 0, 1), (171, .getfield 173, 3), (174, .imul, 1), (175, .aload_n 0, 1), (176, .aload_n 0, 1), (177, .getfield 152, 3), (180, .invokevirtual 155, 3), (183, .iadd, 1), (184, .bipush 48, 2), (186, .isub, 1), (187, .invokestatic 177, 3), (190, .putfield 173, 3)],
  [(193, .aload_n 0, 1), (194, .dup, 1), (195, .getfield 152, 3), (198, .iconst 1, 1), (199, .iadd, 1), (200, .putfield 152, 3), (203, .goto (-59), 3), (206, .aload_n 0, 1), (207, .iconst 2, 1), (208, .putfield 162, 3), (211, .goto 28, 3), (214, .aload_n 0, 1), (215, .iload_n 1, 1), (216, .bipush 59, 2), (218, .if_icmp .ne 7, 3), (221, .iconst 3, 1), (222, .goto 4, 3), (225, .iconst 4, 1), (226, .putfield 162, 3), (229, .aload_n 0, 1), (230, .dup, 1), (231, .getfield 152, 3), (234, .iconst 1, 1), (235, .iadd, 1), (236, .putfield 152, 3), (239, .return_, 1)]]
def px_t194 : List (List (Nat × Instr × Nat)) := [[(0, .aload_n 0, 1), (1, .getfield 183, 3), (4, .ifCond .ne 7, 3), (7, .iconst 1, 1), (8, .goto 4, 3), (11, .iconst 0, 1), (12, .ireturn, 1)]]
def px_t195 : List (List (Nat × Instr × Nat)) := [[(0, .aload_n 0, 1), (1, .invokevirtual 186, 3), (4, .ifCond .ne 4, 3), (7, .return_, 1), (8, .aload_n 0, 1), (9, .iload_n 1, 1), (10, .putfield 183, 3), (13, .aload_n 0, 1), (14, .aload_n 0, 1), (15, .getfield 159, 3), (18, .putfield 27, 3), (21, .return_, 1)]]
def px_t196 : List (List (Nat × Instr × Nat)) := [[(0, .aload_n 0, 1), (1, .invokevirtual 186, 3), (4, .ifCond .eq 31, 3), (7, .aload_n 0, 1), (8, .getfield 162, 3), (11, .iconst 1, 1), (12, .if_icmp .ne 23, 3), (15, .aload_n 0, 1), (16, .getfield 152, 3), (19, .aload_n 0, 1), (20, .getfield 159, 3), (23, .isub, 1), (24, .aload_n 1, 1), (25, .invokevirtual 189, 3), (28, .if_icmp .ne 7, 3), (31, .iconst 1, 1), (32, .goto 4, 3), (35, .iconst 0, 1), (36, .istore_n 2, 1), (37, .iconst 0, 1), (38, .istore_n 3, 1), (39, .iload_n 3, 1), (40, .aload_n 1, 1), (41, .invokevirtual 189, 3), (44, .if_icmp .ge 38, 3), (47, .iload_n 2, 1), (48, .ifCond .eq 34, 3), (51, .aload_n 0, 1), (52, .getfield 20, 3), (55, .aload_n 0, 1), (56, .getfield 159, 3), (59, .iload_n 3, 1), (60, .iadd, 1), (61, .baload, 1), (62, .aload_n 1, 1), (63, .iload_n 3, 1)],
  [(64, .invokevirtual 194, 3), (67, .if_icmp .ne 7, 3), (70, .iconst 1, 1), (71, .goto 4, 3), (74, .iconst 0, 1), (75, .istore_n 2, 1), (76, .iinc 3 1, 3), (79, .goto (-40), 3), (82, .iload_n 2, 1), (83, .ireturn, 1)]]
def px_t197 : List (List (Nat × Instr × Nat)) := [[(0, .aload_n 0, 1), (1, .aload_n 1, 1), (2, .invokevirtual 198, 3), (5, .istore_n 2, 1), (6, .iload_n 2, 1), (7, .ifCond .eq 7, 3), (10, .aload_n 0, 1), (11, .invokevirtual 202, 3), (14, .iload_n 2, 1), (15, .ireturn, 1)]]
def px_t198 : List (List (Nat × Instr × Nat)) := [[(0, .aload_n 0, 1), (1, .aload_n 1, 1), (2, .invokevirtual 205, 3), (5, .ifCond .ne 8, 3), (8, .aload_n 0, 1), (9, .iconst 1, 1), (10, .invokevirtual 208, 3), (13, .return_, 1)]]
def px_t199 : List (List (Nat × Instr × Nat)) := [[(0, .aload_n 0, 1), (1, .invokevirtual 186, 3), (4, .ifCond .eq 16, 3), (7, .aload_n 0, 1), (8, .getfield 162, 3), (11, .iconst 2, 1), (12, .if_icmp .eq 8, 3), (15, .aload_n 0, 1), (16, .iconst 1, 1), (17, .invokevirtual 208, 3), (20, .aload_n 0, 1), (21, .invokevirtual 186, 3), (24, .ifCond .eq 23, 3), (27, .aload_n 0, 1), (28, .getfield 173, 3), (31, .i2l, 1), (32, .iload_n 1, 1), (33, .i2l, 1), (34, .iload_n 2, 1), (35, .i2l, 1), (36, .invokestatic 128, 3), (39, .ifCond .ne 8, 3), (42, .aload_n 0, 1), (43, .iconst 2, 1), (44, .invokevirtual 208, 3), (47, .aload_n 0, 1), (48, .invokevirtual 186, 3), (51, .ifCond .ne 5, 3), (54, .iconst 0, 1), (55, .ireturn, 1), (56, .aload_n 0, 1), (57, .getfield 173, 3), (60, .istore_n 3, 1), (61, .aload_n 0, 1), (62, .invokevirtual 202, 3)],
  [(65, .iload_n 3, 1), (66, .ireturn, 1)]]
def px_t200 : List (List (Nat × Instr × Nat)) := [[(0, .aload_n 0, 1), (1, .aload_n 1, 1), (2, .invokevirtual 212, 3), (5, .aload_n 0, 1), (6, .iload_n 2, 1), (7, .iload_n 3, 1), (8, .invokevirtual 216, 3), (11, .ireturn, 1)]]
def px_t201 : List (List (Nat × Instr × Nat)) := [[(0, .iload_n 1, 1), (1, .ifCond .ne 10, 3), (4, .aload_n 0, 1), (5, .getfield 183, 3), (8, .goto 16, 3), (11, .iload_n 1, 1), (12, .iconst 1, 1), (13, .if_icmp .ne 10, 3), (16, .aload_n 0, 1), (17, .getfield 27, 3), (20, .goto 4, 3), (23, .iconst (-1), 1), (24, .ireturn, 1)]]
def px_t202 : List (List (Nat × Instr × Nat)) := [[(0, .aload_n 0, 1), (1, .ldc 219, 2), (3, .invokevirtual 198, 3), (6, .ifCond .eq 5, 3), (9, .iconst 0, 1), (10, .ireturn, 1), (11, .aload_n 0, 1), (12, .ldc 221, 2), (14, .invokevirtual 198, 3), (17, .ifCond .eq 5, 3), (20, .iconst 1, 1), (21, .ireturn, 1), (22, .aload_n 0, 1), (23, .ldc 223, 2), (25, .invokevirtual 198, 3), (28, .ifCond .eq 5, 3), (31, .iconst 2, 1), (32, .ireturn, 1), (33, .aload_n 0, 1), (34, .ldc 225, 2), (36, .invokevirtual 198, 3), (39, .ifCond .eq 5, 3), (42, .iconst 3, 1), (43, .ireturn, 1), (44, .aload_n 0, 1), (45, .ldc 227, 2), (47, .invokevirtual 198, 3), (50, .ifCond .eq 5, 3), (53, .iconst 4, 1), (54, .ireturn, 1), (55, .aload_n 0, 1), (56, .ldc 229, 2), (58, .invokevirtual 198, 3), (61, .ifCond .eq 5, 3)],
  [(64, .iconst 5, 1), (65, .ireturn, 1), (66, .aload_n 0, 1), (67, .ldc 231, 2), (69, .invokevirtual 198, 3), (72, .ifCond .eq 6, 3), (75, .bipush 6, 2), (77, .ireturn, 1), (78, .aload_n 0, 1), (79, .ldc 233, 2), (81, .invokevirtual 198, 3), (84, .ifCond .eq 6, 3), (87, .bipush 7, 2), (89, .ireturn, 1), (90, .aload_n 0, 1), (91, .ldc 235, 2), (93, .invokevirtual 198, 3), (96, .ifCond .eq 6, 3), (99, .bipush 8, 2), (101, .ireturn, 1), (102, .aload_n 0, 1), (103, .ldc 237, 2), (105, .invokevirtual 198, 3), (108, .ifCond .eq 8, 3), (111, .bipush 9, 2), (113, .goto 4, 3), (116, .iconst (-1), 1), (117, .ireturn, 1)]]
def px_t203 : List (List (Nat × Instr × Nat)) := [[(0, .aload_n 0, 1), (1, .ldc 239, 2), (3, .invokevirtual 212, 3), (6, .aload_n 0, 1), (7, .getfield 31, 3), (10, .iconst 0, 1), (11, .aload_n 0, 1), (12, .ldc 241, 2), (14, .iconst 0, 1), (15, .iconst 3, 1), (16, .invokevirtual 243, 3), (19, .iastore, 1), (20, .aload_n 0, 1), (21, .getfield 31, 3), (24, .iconst 1, 1), (25, .aload_n 0, 1), (26, .ldc 247, 2), (28, .iconst 0, 1), (29, .bipush 10, 2), (31, .invokevirtual 243, 3), (34, .iastore, 1), (35, .return_, 1)]]
def px_t204 : List (List (Nat × Instr × Nat)) := [[(0, .aload_n 0, 1), (1, .invokevirtual 249, 3), (4, .istore_n 1, 1), (5, .iload_n 1, 1), (6, .iconst (-1), 1), (7, .if_icmp .ne 8, 3), (10, .aload_n 0, 1), (11, .iconst 1, 1), (12, .invokevirtual 208, 3), (15, .aload_n 0, 1), (16, .getfield 31, 3), (19, .iconst 2, 1), (20, .iaload, 1), (21, .bipush 40, 2), (23, .if_icmp .ne 8, 3), (26, .aload_n 0, 1), (27, .iconst 3, 1), (28, .invokevirtual 208, 3), (31, .aload_n 0, 1), (32, .invokevirtual 186, 3), (35, .ifCond .ne 4, 3), (38, .return_, 1), (39, .aload_n 0, 1), (40, .invokevirtual 202, 3), (43, .iconst 5, 1), (44, .iconst 4, 1), (45, .aload_n 0, 1), (46, .getfield 31, 3), (49, .iconst 2, 1), (50, .iaload, 1), (51, .imul, 1), (52, .iadd, 1), (53, .istore_n 2, 1), (54, .aload_n 0, 1), (55, .getfield 31, 3), (58, .iload_n 2, 1), (59, .iload_n 1, 1), (60, .iastore, 1), (61, .aload_n 0, 1), (62, .getfield 31, 3)],
  [(65, .iload_n 2, 1), (66, .iconst 1, 1), (67, .iadd, 1), (68, .aload_n 0, 1), (69, .iconst 1, 1), (70, .bipush 15, 2), (72, .invokevirtual 216, 3), (75, .iastore, 1), (76, .iconst 1, 1), (77, .istore_n 3, 1), (78, .iload_n 3, 1), (79, .iconst 3, 1), (80, .if_icmp .ge 42, 3), (83, .iload_n 1, 1), (84, .iload_n 3, 1), (85, .invokestatic 252, 3), (88, .iconst (-1), 1), (89, .if_icmp .eq 27, 3), (92, .aload_n 0, 1), (93, .getfield 31, 3), (96, .iload_n 2, 1), (97, .iconst 1, 1), (98, .iadd, 1), (99, .iload_n 3, 1), (100, .iadd, 1), (101, .aload_n 0, 1), (102, .iload_n 1, 1), (103, .iload_n 3, 1), (104, .invokestatic 255, 3), (107, .iload_n 1, 1), (108, .iload_n 3, 1), (109, .invokestatic 252, 3), (112, .invokevirtual 216, 3), (115, .iastore, 1), (116, .iinc 3 1, 3), (119, .goto (-41), 3), (122, .aload_n 0, 1), (123, .getfield 31, 3), (126, .iconst 2, 1), (127, .dup2, 1)],
  [(128, .iaload, 1), (129, .iconst 1, 1), (130, .iadd, 1), (131, .iastore, 1), (132, .return_, 1)]]
def px_t205 : List (List (Nat × Instr × Nat)) := [[(0, .aload_n 0, 1), (1, .getfield 31, 3), (4, .iconst 4, 1), (5, .iaload, 1), (6, .ifCond .ne 10, 3), (9, .aload_n 0, 1), (10, .invokevirtual 258, 3), (13, .goto 7, 3), (16, .aload_n 0, 1), (17, .invokevirtual 261, 3), (20, .aload_n 0, 1), (21, .invokevirtual 186, 3), (24, .ifCond .eq 16, 3), (27, .aload_n 0, 1), (28, .getfield 162, 3), (31, .iconst 3, 1), (32, .if_icmp .eq 8, 3), (35, .aload_n 0, 1), (36, .iconst 1, 1), (37, .invokevirtual 208, 3), (40, .aload_n 0, 1), (41, .invokevirtual 186, 3), (44, .ifCond .eq 7, 3), (47, .aload_n 0, 1), (48, .invokevirtual 202, 3), (51, .aload_n 0, 1), (52, .getfield 31, 3), (55, .iconst 4, 1), (56, .dup2, 1), (57, .iaload, 1), (58, .iconst 1, 1), (59, .iadd, 1), (60, .iastore, 1), (61, .return_, 1)]]
def px_t206 : List (List (Nat × Instr × Nat)) := [[(0, .aload_n 0, 1), (1, .aload_n 0, 1), (2, .getfield 146, 3), (5, .putfield 149, 3), (8, .aload_n 0, 1), (9, .iconst 0, 1), (10, .putfield 146, 3), (13, .aload_n 0, 1), (14, .iconst 0, 1), (15, .putfield 152, 3), (18, .aload_n 0, 1), (19, .iconst 0, 1), (20, .putfield 183, 3), (23, .aload_n 0, 1), (24, .iconst (-1), 1), (25, .putfield 27, 3), (28, .iconst 0, 1), (29, .istore_n 1, 1), (30, .iload_n 1, 1), (31, .sipush 285, 3), (34, .if_icmp .ge 16, 3), (37, .aload_n 0, 1), (38, .getfield 31, 3), (41, .iload_n 1, 1), (42, .iconst 0, 1), (43, .iastore, 1), (44, .iinc 1 1, 3), (47, .goto (-17), 3), (50, .aload_n 0, 1), (51, .invokevirtual 202, 3), (54, .aload_n 0, 1), (55, .invokevirtual 186, 3), (58, .ifCond .eq 17, 3), (61, .aload_n 0, 1), (62, .getfield 162, 3)],
  [(65, .ifCond .eq 10, 3), (68, .aload_n 0, 1), (69, .invokevirtual 264, 3), (72, .goto (-18), 3), (75, .aload_n 0, 1), (76, .invokevirtual 186, 3), (79, .ifCond .ne 6, 3), (82, .bipush (-4), 2), (84, .ireturn, 1), (85, .iconst 0, 1), (86, .istore_n 1, 1), (87, .iload_n 1, 1), (88, .sipush 285, 3), (91, .if_icmp .ge 21, 3), (94, .aload_n 0, 1), (95, .getfield 9, 3), (98, .iload_n 1, 1), (99, .aload_n 0, 1), (100, .getfield 31, 3), (103, .iload_n 1, 1), (104, .iaload, 1), (105, .iastore, 1), (106, .iinc 1 1, 3), (109, .goto (-22), 3), (112, .aload_n 0, 1), (113, .getfield 9, 3), (116, .iconst 4, 1), (117, .iaload, 1), (118, .ireturn, 1)]]
def px_t207 : List (List (Nat × Instr × Nat)) := [[(0, .aload_n 0, 1), (1, .iload_n 1, 1), (2, .invokevirtual 267, 3), (5, .ifCond .eq 15, 3), (8, .iload_n 2, 1), (9, .i2l, 1), (10, .lconst 0, 1), (11, .ldc2_w 271, 3), (14, .invokestatic 128, 3), (17, .ifCond .ne 6, 3), (20, .bipush (-2), 2), (22, .ireturn, 1), (23, .iload_n 2, 1), (24, .iconst 1, 1), (25, .if_icmp .le 23, 3), (28, .aload_n 0, 1), (29, .iload_n 1, 1), (30, .iconst 0, 1), (31, .invokevirtual 273, 3), (34, .iload_n 2, 1), (35, .iconst 1, 1), (36, .isub, 1), (37, .invokestatic 252, 3), (40, .iconst (-1), 1), (41, .if_icmp .ne 7, 3), (44, .iconst (-1), 1), (45, .goto 9, 3), (48, .aload_n 0, 1), (49, .iload_n 1, 1), (50, .iload_n 2, 1), (51, .invokevirtual 273, 3), (54, .ireturn, 1)]]
def px_t208 : List (List (Nat × Instr × Nat)) := [[(0, .aload_n 0, 1), (1, .getfield 34, 3), (4, .aload_n 0, 1), (5, .getfield 276, 3), (8, .iload_n 1, 1), (9, .iastore, 1), (10, .aload_n 0, 1), (11, .getfield 37, 3), (14, .aload_n 0, 1), (15, .getfield 276, 3), (18, .iload_n 2, 1), (19, .iastore, 1), (20, .aload_n 0, 1), (21, .getfield 40, 3), (24, .aload_n 0, 1), (25, .getfield 276, 3), (28, .iload_n 3, 1), (29, .iastore, 1), (30, .aload_n 0, 1), (31, .getfield 43, 3), (34, .aload_n 0, 1), (35, .getfield 276, 3), (38, .iload 4, 2), (40, .iastore, 1), (41, .aload_n 0, 1), (42, .getfield 46, 3), (45, .aload_n 0, 1), (46, .getfield 276, 3), (49, .iconst 0, 1), (50, .bastore, 1), (51, .aload_n 0, 1), (52, .dup, 1), (53, .getfield 276, 3), (56, .iconst 1, 1), (57, .iadd, 1), (58, .putfield 276, 3), (61, .return_, 1)]]
def px_t209 : List (List (Nat × Instr × Nat)) := [[(0, .aload_n 0, 1), (1, .aload_n 0, 1), (2, .getfield 9, 3), (5, .iconst 0, 1), (6, .iaload, 1), (7, .putfield 279, 3), (10, .aload_n 0, 1), (11, .iconst 0, 1), (12, .putfield 276, 3), (15, .iconst 0, 1), (16, .istore_n 1, 1), (17, .iload_n 1, 1), (18, .aload_n 0, 1), (19, .invokevirtual 132, 3), (22, .if_icmp .ge 37, 3), (25, .aload_n 0, 1), (26, .aload_n 0, 1), (27, .iload_n 1, 1), (28, .iconst 0, 1), (29, .invokevirtual 273, 3), (32, .aload_n 0, 1), (33, .iload_n 1, 1), (34, .iconst 1, 1), (35, .invokevirtual 273, 3), (38, .aload_n 0, 1), (39, .iload_n 1, 1), (40, .iconst 2, 1), (41, .invokevirtual 273, 3), (44, .aload_n 0, 1), (45, .iload_n 1, 1), (46, .iconst 3, 1), (47, .invokevirtual 273, 3), (50, .invokevirtual 282, 3), (53, .iinc 1 1, 3), (56, .goto (-39), 3), (59, .return_, 1)]]
def px_t210 : List (List (Nat × Instr × Nat)) := [[(0, .aload_n 0, 1), (1, .getfield 55, 3), (4, .bipush 8, 2), (6, .iload_n 1, 1), (7, .imul, 1), (8, .iload_n 2, 1), (9, .iadd, 1), (10, .iaload, 1), (11, .ireturn, 1)]]
def px_t211 : List (List (Nat × Instr × Nat)) := [[(0, .iconst 0, 1), (1, .istore_n 2, 1), (2, .iconst 0, 1), (3, .istore_n 3, 1), (4, .iload_n 3, 1), (5, .sipush 128, 3), (8, .if_icmp .ge 29, 3), (11, .iload_n 2, 1), (12, .ifCond .ne 13, 3), (15, .aload_n 0, 1), (16, .getfield 55, 3), (19, .iload_n 3, 1), (20, .iaload, 1), (21, .iload_n 1, 1), (22, .if_icmp .ne 7, 3), (25, .iconst 1, 1), (26, .goto 4, 3), (29, .iconst 0, 1), (30, .istore_n 2, 1), (31, .iinc 3 1, 3), (34, .goto (-30), 3), (37, .iload_n 2, 1), (38, .ireturn, 1)]]
def px_t212 : List (List (Nat × Instr × Nat)) := [[(0, .aload_n 0, 1), (1, .iload_n 2, 1), (2, .iload_n 3, 1), (3, .invokevirtual 286, 3), (6, .iconst (-1), 1), (7, .if_icmp .eq 7, 3), (10, .iconst 1, 1), (11, .goto 4, 3), (14, .iconst 0, 1), (15, .istore 5, 2), (17, .iload_n 1, 1), (18, .iconst 3, 1), (19, .if_icmp .ne 14, 3), (22, .iload 5, 2), (24, .ifCond .eq 7, 3), (27, .iconst 3, 1), (28, .goto 4, 3), (31, .iconst 0, 1), (32, .ireturn, 1), (33, .iload_n 1, 1), (34, .iconst 4, 1), (35, .if_icmp .ne 31, 3), (38, .iload 5, 2), (40, .ifCond .ne 20, 3), (43, .aload_n 0, 1), (44, .iload_n 2, 1), (45, .iload 4, 2), (47, .invokevirtual 286, 3), (50, .iconst (-1), 1), (51, .if_icmp .ne 9, 3), (54, .iload_n 3, 1), (55, .iload 4, 2), (57, .if_icmp .ne 7, 3), (60, .iconst 3, 1), (61, .goto 4, 3)],
  [(64, .iconst 0, 1), (65, .ireturn, 1), (66, .iload_n 1, 1), (67, .iconst 5, 1), (68, .if_icmp .ne 25, 3), (71, .iload 5, 2), (73, .ifCond .eq 14, 3), (76, .aload_n 0, 1), (77, .iload_n 2, 1), (78, .iload 4, 2), (80, .invokevirtual 286, 3), (83, .iconst (-1), 1), (84, .if_icmp .eq 7, 3), (87, .iconst 3, 1), (88, .goto 4, 3), (91, .iconst 0, 1), (92, .ireturn, 1), (93, .iload 5, 2), (95, .ifCond .eq 7, 3), (98, .iconst 0, 1), (99, .goto 4, 3), (102, .iconst 3, 1), (103, .ireturn, 1)]]
def px_t213 : List (List (Nat × Instr × Nat)) := [[(0, .aload_n 0, 1), (1, .iload_n 2, 1), (2, .iload_n 3, 1), (3, .invokevirtual 286, 3), (6, .istore 5, 2), (8, .iload_n 1, 1), (9, .bipush 7, 2), (11, .if_icmp .ne 53, 3), (14, .aload_n 0, 1), (15, .getfield 58, 3), (18, .iload 5, 2), (20, .iaload, 1), (21, .iconst 2, 1), (22, .if_icmp .eq 5, 3), (25, .iconst 4, 1), (26, .ireturn, 1), (27, .aload_n 0, 1), (28, .iload 5, 2), (30, .iconst 1, 1), (31, .isub, 1), (32, .invokevirtual 289, 3), (35, .ifCond .ne 5, 3), (38, .iconst 5, 1), (39, .ireturn, 1), (40, .aload_n 0, 1), (41, .getfield 61, 3), (44, .iload 5, 2), (46, .iconst 1, 1), (47, .isub, 1), (48, .iaload, 1), (49, .iload 4, 2), (51, .iadd, 1), (52, .bipush 60, 2), (54, .if_icmp .le 8, 3), (57, .bipush 6, 2), (59, .goto 4, 3), (62, .iconst 0, 1), (63, .ireturn, 1)],
  [(64, .aload_n 0, 1), (65, .getfield 58, 3), (68, .iload 5, 2), (70, .iaload, 1), (71, .iconst 1, 1), (72, .if_icmp .eq 5, 3), (75, .iconst 4, 1), (76, .ireturn, 1), (77, .aload_n 0, 1), (78, .getfield 61, 3), (81, .iload 5, 2), (83, .iaload, 1), (84, .iload 4, 2), (86, .if_icmp .ge 18, 3), (89, .aload_n 0, 1), (90, .iload 5, 2), (92, .iconst 1, 1), (93, .iadd, 1), (94, .invokevirtual 289, 3), (97, .ifCond .eq 7, 3), (100, .iconst 5, 1), (101, .goto 4, 3), (104, .iconst 0, 1), (105, .ireturn, 1)]]
def px_t214 : List (List (Nat × Instr × Nat)) := [[(0, .aload_n 0, 1), (1, .getfield 34, 3), (4, .iload_n 1, 1), (5, .iaload, 1), (6, .istore_n 2, 1), (7, .aload_n 0, 1), (8, .getfield 37, 3), (11, .iload_n 1, 1), (12, .iaload, 1), (13, .istore_n 3, 1), (14, .aload_n 0, 1), (15, .getfield 292, 3), (18, .iload_n 3, 1), (19, .invokestatic 295, 3), (22, .ifCond .ne 5, 3), (25, .iconst 1, 1), (26, .ireturn, 1), (27, .iload_n 2, 1), (28, .ifCond .ne 26, 3), (31, .aload_n 0, 1), (32, .getfield 298, 3), (35, .aload_n 0, 1), (36, .getfield 40, 3), (39, .iload_n 1, 1), (40, .iaload, 1), (41, .invokestatic 295, 3), (44, .iconst 1, 1), (45, .if_icmp .ne 7, 3), (48, .iconst 2, 1), (49, .goto 4, 3), (52, .iconst 0, 1), (53, .ireturn, 1), (54, .iload_n 2, 1), (55, .iconst 1, 1), (56, .if_icmp .ne 19, 3), (59, .aload_n 0, 1), (60, .getfield 52, 3), (63, .iload_n 3, 1)],
  [(64, .iaload, 1), (65, .iload_n 3, 1), (66, .if_icmp .ne 7, 3), (69, .iconst 2, 1), (70, .goto 4, 3), (73, .iconst 0, 1), (74, .ireturn, 1), (75, .iload_n 2, 1), (76, .iconst 2, 1), (77, .if_icmp .ne 14, 3), (80, .iload_n 3, 1), (81, .iconst 1, 1), (82, .if_icmp .ne 7, 3), (85, .iconst 2, 1), (86, .goto 4, 3), (89, .iconst 0, 1), (90, .ireturn, 1), (91, .iload_n 2, 1), (92, .bipush 9, 2), (94, .if_icmp .ne 5, 3), (97, .iconst 0, 1), (98, .ireturn, 1), (99, .aload_n 0, 1), (100, .iload_n 2, 1), (101, .iload_n 3, 1), (102, .aload_n 0, 1), (103, .getfield 40, 3), (106, .iload_n 1, 1), (107, .iaload, 1), (108, .aload_n 0, 1), (109, .getfield 43, 3), (112, .iload_n 1, 1), (113, .iaload, 1), (114, .invokevirtual 301, 3), (117, .istore 4, 2), (119, .iload 4, 2), (121, .ifCond .ne 35, 3), (124, .iload_n 2, 1), (125, .bipush 7, 2), (127, .if_icmp .eq 9, 3)],
  [(130, .iload_n 2, 1), (131, .bipush 8, 2), (133, .if_icmp .ne 23, 3), (136, .aload_n 0, 1), (137, .iload_n 2, 1), (138, .iload_n 3, 1), (139, .aload_n 0, 1), (140, .getfield 40, 3), (143, .iload_n 1, 1), (144, .iaload, 1), (145, .aload_n 0, 1), (146, .getfield 43, 3), (149, .iload_n 1, 1), (150, .iaload, 1), (151, .invokevirtual 305, 3), (154, .istore 4, 2), (156, .iload 4, 2), (158, .ireturn, 1)]]
def px_t215 : List (List (Nat × Instr × Nat)) := [[(0, .aload_n 1, 1), (1, .iload_n 2, 1), (2, .iload_n 3, 1), (3, .iadd, 1), (4, .iaload, 1), (5, .istore 5, 2), (7, .iconst 0, 1), (8, .istore 6, 2), (10, .iload 6, 2), (12, .bipush 16, 2), (14, .if_icmp .ge 31, 3), (17, .iload 5, 2), (19, .ifCond .eq 26, 3), (22, .iload 5, 2), (24, .iload 4, 2), (26, .if_icmp .ne 5, 3), (29, .iconst 1, 1), (30, .ireturn, 1), (31, .aload_n 1, 1), (32, .iload_n 2, 1), (33, .iload 5, 2), (35, .iadd, 1), (36, .iaload, 1), (37, .istore 5, 2), (39, .iinc 6 1, 3), (42, .goto (-32), 3), (45, .iconst 0, 1), (46, .ireturn, 1)]]
def px_t216 : List (List (Nat × Instr × Nat)) := [[(0, .aload_n 0, 1), (1, .getfield 279, 3), (4, .ifCond .ne 5, 3), (7, .iconst 1, 1), (8, .ireturn, 1), (9, .aload_n 0, 1), (10, .getfield 279, 3), (13, .iconst 1, 1), (14, .if_icmp .eq 16, 3), (17, .aload_n 0, 1), (18, .getfield 279, 3), (21, .iconst 3, 1), (22, .if_icmp .ne 15, 3), (25, .iload_n 1, 1), (26, .iload_n 3, 1), (27, .if_icmp .ne 10, 3), (30, .aload_n 0, 1), (31, .getfield 49, 3), (34, .iload_n 2, 1), (35, .iaload, 1), (36, .ireturn, 1), (37, .aload_n 0, 1), (38, .getfield 279, 3), (41, .iconst 3, 1), (42, .if_icmp .ne 5, 3), (45, .iload_n 3, 1), (46, .ireturn, 1), (47, .aload_n 0, 1), (48, .getfield 52, 3), (51, .iload_n 1, 1), (52, .iaload, 1), (53, .istore 4, 2), (55, .aload_n 0, 1), (56, .getfield 292, 3), (59, .iload 4, 2), (61, .invokestatic 295, 3)],
  [(64, .iconst 1, 1), (65, .if_icmp .ne 28, 3), (68, .iload 4, 2), (70, .iload_n 1, 1), (71, .if_icmp .eq 22, 3), (74, .aload_n 0, 1), (75, .aload_n 0, 1), (76, .getfield 49, 3), (79, .iconst 0, 1), (80, .iload 4, 2), (82, .iload_n 1, 1), (83, .invokevirtual 308, 3), (86, .ifCond .ne 7, 3), (89, .iconst 1, 1), (90, .goto 4, 3), (93, .iconst 0, 1), (94, .istore 5, 2), (96, .iload 5, 2), (98, .ifCond .eq 8, 3), (101, .iload 4, 2), (103, .goto 4, 3), (106, .iconst 1, 1), (107, .ireturn, 1)]]
def px_t217 : List (List (Nat × Instr × Nat)) := [[(0, .aload_n 0, 1), (1, .dup, 1), (2, .getfield 292, 3), (5, .iconst 1, 1), (6, .iload_n 1, 1), (7, .ishl, 1), (8, .iconst (-1), 1), (9, .ixor, 1), (10, .iand, 1), (11, .putfield 292, 3), (14, .iconst 0, 1), (15, .istore_n 2, 1), (16, .iload_n 2, 1), (17, .bipush 8, 2), (19, .if_icmp .ge 21, 3), (22, .aload_n 0, 1), (23, .getfield 55, 3), (26, .bipush 8, 2), (28, .iload_n 1, 1), (29, .imul, 1), (30, .iload_n 2, 1), (31, .iadd, 1), (32, .iconst (-1), 1), (33, .iastore, 1), (34, .iinc 2 1, 3), (37, .goto (-21), 3), (40, .iconst (-1), 1), (41, .istore_n 2, 1), (42, .iconst 1, 1), (43, .istore_n 3, 1), (44, .iload_n 3, 1), (45, .bipush 16, 2), (47, .if_icmp .ge 53, 3), (50, .aload_n 0, 1), (51, .getfield 292, 3), (54, .iload_n 3, 1), (55, .invokestatic 295, 3), (58, .ifCond .eq 36, 3), (61, .aload_n 0, 1), (62, .getfield 49, 3)],
  [(65, .iload_n 3, 1), (66, .iaload, 1), (67, .iload_n 1, 1), (68, .if_icmp .eq 6, 3), (71, .goto 23, 3), (74, .iload_n 2, 1), (75, .iconst (-1), 1), (76, .if_icmp .ne 5, 3), (79, .iload_n 3, 1), (80, .istore_n 2, 1), (81, .aload_n 0, 1), (82, .getfield 49, 3), (85, .iload_n 3, 1), (86, .aload_n 0, 1), (87, .iload_n 3, 1), (88, .iload_n 1, 1), (89, .iload_n 2, 1), (90, .invokevirtual 312, 3), (93, .iastore, 1), (94, .iinc 3 1, 3), (97, .goto (-53), 3), (100, .return_, 1)]]
def px_t218 : List (List (Nat × Instr × Nat)) := [[(0, .aload_n 0, 1), (1, .dup, 1), (2, .getfield 292, 3), (5, .iconst 1, 1), (6, .iload_n 2, 1), (7, .ishl, 1), (8, .ior, 1), (9, .putfield 292, 3), (12, .aload_n 0, 1), (13, .dup, 1), (14, .getfield 298, 3), (17, .iconst 1, 1), (18, .iload_n 2, 1), (19, .ishl, 1), (20, .ior, 1), (21, .putfield 298, 3), (24, .aload_n 0, 1), (25, .getfield 49, 3), (28, .iload_n 2, 1), (29, .iload_n 1, 1), (30, .iastore, 1), (31, .aload_n 0, 1), (32, .getfield 52, 3), (35, .iload_n 2, 1), (36, .aload_n 0, 1), (37, .getfield 52, 3), (40, .iload_n 1, 1), (41, .iaload, 1), (42, .iastore, 1), (43, .iconst 0, 1), (44, .istore_n 3, 1), (45, .iload_n 3, 1), (46, .bipush 8, 2), (48, .if_icmp .ge 26, 3), (51, .aload_n 0, 1), (52, .getfield 55, 3), (55, .bipush 8, 2), (57, .iload_n 2, 1), (58, .imul, 1), (59, .iload_n 3, 1), (60, .iadd, 1), (61, .aload_n 0, 1), (62, .iload_n 1, 1), (63, .iload_n 3, 1)],
  [(64, .invokevirtual 286, 3), (67, .iastore, 1), (68, .iinc 3 1, 3), (71, .goto (-26), 3), (74, .return_, 1)]]
def px_t219 : List (List (Nat × Instr × Nat)) := [[(0, .aload_n 0, 1), (1, .getfield 58, 3), (4, .aload_n 0, 1), (5, .getfield 316, 3), (8, .iload_n 1, 1), (9, .iastore, 1), (10, .aload_n 0, 1), (11, .getfield 61, 3), (14, .aload_n 0, 1), (15, .getfield 316, 3), (18, .iconst 0, 1), (19, .iastore, 1), (20, .aload_n 0, 1), (21, .dup, 1), (22, .getfield 316, 3), (25, .iconst 1, 1), (26, .iadd, 1), (27, .putfield 316, 3), (30, .aload_n 0, 1), (31, .getfield 316, 3), (34, .iconst 1, 1), (35, .isub, 1), (36, .ireturn, 1)]]
def px_t220 : List (List (Nat × Instr × Nat)) := [[(0, .aload_n 0, 1), (1, .getfield 37, 3), (4, .iload_n 1, 1), (5, .iaload, 1), (6, .istore_n 2, 1), (7, .bipush 8, 2), (9, .iload_n 2, 1), (10, .imul, 1), (11, .aload_n 0, 1), (12, .getfield 40, 3), (15, .iload_n 1, 1), (16, .iaload, 1), (17, .iadd, 1), (18, .istore_n 3, 1), (19, .bipush 8, 2), (21, .iload_n 2, 1), (22, .imul, 1), (23, .aload_n 0, 1), (24, .getfield 43, 3), (27, .iload_n 1, 1), (28, .iaload, 1), (29, .iadd, 1), (30, .istore 4, 2), (32, .aload_n 0, 1), (33, .getfield 34, 3), (36, .iload_n 1, 1), (37, .iaload, 1), (38, .tableswitch 210 0 8 #[50, 64, 74, 82, 96, 122, 138, 148, 173], 50)],
  [(88, .aload_n 0, 1), (89, .iload_n 2, 1), (90, .aload_n 0, 1), (91, .getfield 40, 3), (94, .iload_n 1, 1), (95, .iaload, 1), (96, .invokevirtual 319, 3), (99, .goto 149, 3), (102, .aload_n 0, 1), (103, .getfield 52, 3), (106, .iload_n 2, 1), (107, .iload_n 2, 1), (108, .iastore, 1), (109, .goto 139, 3), (112, .aload_n 0, 1), (113, .iload_n 2, 1), (114, .invokevirtual 322, 3), (117, .goto 131, 3), (120, .aload_n 0, 1), (121, .getfield 55, 3), (124, .iload_n 3, 1), (125, .aload_n 0, 1), (126, .iconst 0, 1), (127, .invokevirtual 324, 3)],
  [(130, .iastore, 1), (131, .goto 117, 3), (134, .aload_n 0, 1), (135, .getfield 55, 3), (138, .iload_n 3, 1), (139, .aload_n 0, 1), (140, .iconst 1, 1), (141, .invokevirtual 324, 3), (144, .iastore, 1), (145, .aload_n 0, 1), (146, .getfield 55, 3), (149, .iload 4, 2), (151, .aload_n 0, 1), (152, .iconst 2, 1), (153, .invokevirtual 324, 3), (156, .iastore, 1), (157, .goto 91, 3), (160, .aload_n 0, 1), (161, .getfield 55, 3), (164, .iload 4, 2), (166, .aload_n 0, 1), (167, .getfield 55, 3), (170, .iload_n 3, 1), (171, .iaload, 1), (172, .iastore, 1), (173, .goto 75, 3), (176, .aload_n 0, 1), (177, .getfield 55, 3), (180, .iload_n 3, 1), (181, .iconst (-1), 1), (182, .iastore, 1), (183, .goto 65, 3), (186, .aload_n 0, 1), (187, .getfield 61, 3), (190, .aload_n 0, 1), (191, .getfield 55, 3)],
  [(194, .iload_n 3, 1), (195, .iaload, 1), (196, .iconst 1, 1), (197, .isub, 1), (198, .dup2, 1), (199, .iaload, 1), (200, .aload_n 0, 1), (201, .getfield 43, 3), (204, .iload_n 1, 1), (205, .iaload, 1), (206, .iadd, 1), (207, .iastore, 1), (208, .goto 40, 3), (211, .aload_n 0, 1), (212, .getfield 61, 3), (215, .aload_n 0, 1), (216, .getfield 55, 3), (219, .iload_n 3, 1), (220, .iaload, 1), (221, .dup2, 1), (222, .iaload, 1), (223, .aload_n 0, 1), (224, .getfield 61, 3), (227, .aload_n 0, 1), (228, .getfield 55, 3), (231, .iload_n 3, 1), (232, .iaload, 1), (233, .iaload, 1), (234, .aload_n 0, 1), (235, .getfield 43, 3), (238, .iload_n 1, 1), (239, .iaload, 1), (240, .invokestatic 177, 3), (243, .isub, 1), (244, .iastore, 1), (245, .goto 3, 3), (248, .return_, 1)]]
def px_t221 : List (List (Nat × Instr × Nat)) := [[(0, .aload_n 0, 1), (1, .getfield 73, 3), (4, .iload_n 1, 1), (5, .aload_n 0, 1), (6, .getfield 292, 3), (9, .iastore, 1), (10, .aload_n 0, 1), (11, .getfield 76, 3), (14, .iload_n 1, 1), (15, .aload_n 0, 1), (16, .getfield 316, 3), (19, .iastore, 1), (20, .iconst 0, 1), (21, .istore_n 2, 1), (22, .iload_n 2, 1), (23, .bipush 16, 2), (25, .if_icmp .ge 43, 3), (28, .aload_n 0, 1), (29, .getfield 79, 3), (32, .bipush 16, 2), (34, .iload_n 1, 1), (35, .imul, 1), (36, .iload_n 2, 1), (37, .iadd, 1), (38, .aload_n 0, 1), (39, .getfield 49, 3), (42, .iload_n 2, 1), (43, .iaload, 1), (44, .iastore, 1), (45, .aload_n 0, 1), (46, .getfield 82, 3), (49, .bipush 16, 2), (51, .iload_n 1, 1), (52, .imul, 1), (53, .iload_n 2, 1), (54, .iadd, 1), (55, .aload_n 0, 1), (56, .getfield 52, 3), (59, .iload_n 2, 1), (60, .iaload, 1), (61, .iastore, 1), (62, .iinc 2 1, 3)],
  [(65, .goto (-43), 3), (68, .iconst 0, 1), (69, .istore_n 2, 1), (70, .iload_n 2, 1), (71, .sipush 128, 3), (74, .if_icmp .ge 27, 3), (77, .aload_n 0, 1), (78, .getfield 85, 3), (81, .sipush 128, 3), (84, .iload_n 1, 1), (85, .imul, 1), (86, .iload_n 2, 1), (87, .iadd, 1), (88, .aload_n 0, 1), (89, .getfield 55, 3), (92, .iload_n 2, 1), (93, .iaload, 1), (94, .iastore, 1), (95, .iinc 2 1, 3), (98, .goto (-28), 3), (101, .iconst 0, 1), (102, .istore_n 2, 1), (103, .iload_n 2, 1), (104, .aload_n 0, 1), (105, .getfield 316, 3), (108, .if_icmp .ge 27, 3), (111, .aload_n 0, 1), (112, .getfield 88, 3), (115, .sipush 200, 3), (118, .iload_n 1, 1), (119, .imul, 1), (120, .iload_n 2, 1), (121, .iadd, 1), (122, .aload_n 0, 1), (123, .getfield 61, 3), (126, .iload_n 2, 1), (127, .iaload, 1)],
  [(128, .iastore, 1), (129, .iinc 2 1, 3), (132, .goto (-29), 3), (135, .return_, 1)]]
def px_t222 : List (List (Nat × Instr × Nat)) := [[(0, .aload_n 0, 1), (1, .iconst 2, 1), (2, .putfield 292, 3), (5, .aload_n 0, 1), (6, .iconst 2, 1), (7, .putfield 298, 3), (10, .aload_n 0, 1), (11, .iconst 0, 1), (12, .putfield 316, 3), (15, .iconst 0, 1), (16, .istore_n 1, 1), (17, .iload_n 1, 1), (18, .bipush 16, 2), (20, .if_icmp .ge 23, 3), (23, .aload_n 0, 1), (24, .getfield 49, 3), (27, .iload_n 1, 1), (28, .iconst 0, 1), (29, .iastore, 1), (30, .aload_n 0, 1), (31, .getfield 52, 3), (34, .iload_n 1, 1), (35, .iconst 0, 1), (36, .iastore, 1), (37, .iinc 1 1, 3), (40, .goto (-23), 3), (43, .aload_n 0, 1), (44, .getfield 52, 3), (47, .iconst 1, 1), (48, .iconst 1, 1), (49, .iastore, 1), (50, .iconst 0, 1), (51, .istore_n 1, 1), (52, .iload_n 1, 1), (53, .sipush 128, 3), (56, .if_icmp .ge 16, 3), (59, .aload_n 0, 1), (60, .getfield 55, 3), (63, .iload_n 1, 1)],
  [(64, .iconst (-1), 1), (65, .iastore, 1), (66, .iinc 1 1, 3), (69, .goto (-17), 3), (72, .aload_n 0, 1), (73, .iconst 0, 1), (74, .invokevirtual 327, 3), (77, .return_, 1)]]
def px_t223 : List (List (Nat × Instr × Nat)) := [[(0, .aload_n 0, 1), (1, .invokevirtual 330, 3), (4, .iconst 0, 1), (5, .istore_n 1, 1), (6, .iload_n 1, 1), (7, .aload_n 0, 1), (8, .getfield 276, 3), (11, .if_icmp .ge 135, 3), (14, .aload_n 0, 1), (15, .getfield 64, 3), (18, .iload_n 1, 1), (19, .aload_n 0, 1), (20, .getfield 46, 3), (23, .iload_n 1, 1), (24, .baload, 1), (25, .ifCond .eq 7, 3), (28, .iconst (-1), 1), (29, .goto 8, 3), (32, .aload_n 0, 1), (33, .iload_n 1, 1), (34, .invokevirtual 333, 3), (37, .iastore, 1), (38, .aload_n 0, 1), (39, .getfield 67, 3), (42, .iload_n 1, 1), (43, .iconst 0, 1), (44, .iastore, 1), (45, .aload_n 0, 1), (46, .getfield 64, 3), (49, .iload_n 1, 1), (50, .iaload, 1), (51, .ifCond .ne 82, 3), (54, .aload_n 0, 1), (55, .iload_n 1, 1), (56, .invokevirtual 336, 3), (59, .aload_n 0, 1), (60, .getfield 70, 3), (63, .iload_n 1, 1)],
  [(64, .aload_n 0, 1), (65, .getfield 34, 3), (68, .iload_n 1, 1), (69, .iaload, 1), (70, .ifCond .ne 12, 3), (73, .aload_n 0, 1), (74, .getfield 40, 3), (77, .iload_n 1, 1), (78, .iaload, 1), (79, .goto 9, 3), (82, .aload_n 0, 1), (83, .getfield 37, 3), (86, .iload_n 1, 1), (87, .iaload, 1), (88, .iastore, 1), (89, .aload_n 0, 1), (90, .getfield 67, 3), (93, .iload_n 1, 1), (94, .aload_n 0, 1), (95, .getfield 34, 3), (98, .iload_n 1, 1), (99, .iaload, 1), (100, .ifCond .ne 9, 3), (103, .sipush 255, 3), (106, .goto 26, 3), (109, .aload_n 0, 1), (110, .getfield 34, 3), (113, .iload_n 1, 1), (114, .iaload, 1), (115, .bipush 9, 2), (117, .if_icmp .ne 14, 3), (120, .iconst 1, 1), (121, .aload_n 0, 1), (122, .getfield 40, 3), (125, .iload_n 1, 1), (126, .iaload, 1), (127, .ishl, 1)],
  [(128, .goto 4, 3), (131, .iconst 0, 1), (132, .iastore, 1), (133, .aload_n 0, 1), (134, .iload_n 1, 1), (135, .iconst 1, 1), (136, .iadd, 1), (137, .invokevirtual 327, 3), (140, .iinc 1 1, 3), (143, .goto (-137), 3), (146, .return_, 1)]]
def px_t224 : List (List (Nat × Instr × Nat)) := [[(0, .aload_n 0, 1), (1, .invokevirtual 339, 3), (4, .aload_n 0, 1), (5, .invokevirtual 342, 3), (8, .aload_n 0, 1), (9, .invokevirtual 136, 3), (12, .ireturn, 1)]]
def px_t225 : List (List (Nat × Instr × Nat)) := [[(0, .aload_n 0, 1), (1, .invokevirtual 345, 3), (4, .pop, 1), (5, .aload_n 0, 1), (6, .iload_n 1, 1), (7, .i2l, 1), (8, .invokevirtual 348, 3), (11, .ireturn, 1)]]
def px_t226 : List (List (Nat × Instr × Nat)) := [[(0, .aload_n 0, 1), (1, .iload_n 2, 1), (2, .invokevirtual 352, 3), (5, .ifCond .eq 15, 3), (8, .iload_n 1, 1), (9, .i2l, 1), (10, .invokestatic 355, 3), (13, .ifCond .eq 7, 3), (16, .iconst 1, 1), (17, .goto 4, 3), (20, .iconst 0, 1), (21, .ireturn, 1)]]
def px_t227 : List (List (Nat × Instr × Nat)) := [[(0, .aload_n 0, 1), (1, .getfield 73, 3), (4, .iload_n 2, 1), (5, .iaload, 1), (6, .iload_n 1, 1), (7, .invokestatic 295, 3), (10, .iconst 1, 1), (11, .if_icmp .ne 7, 3), (14, .iconst 1, 1), (15, .goto 4, 3), (18, .iconst 0, 1), (19, .ireturn, 1)]]
def px_t228 : List (List (Nat × Instr × Nat)) := [[(0, .aload_n 0, 1), (1, .iload_n 1, 1), (2, .iload_n 2, 1), (3, .invokevirtual 358, 3), (6, .ifCond .eq 17, 3), (9, .aload_n 0, 1), (10, .getfield 79, 3), (13, .bipush 16, 2), (15, .iload_n 2, 1), (16, .imul, 1), (17, .iload_n 1, 1), (18, .iadd, 1), (19, .iaload, 1), (20, .goto 4, 3), (23, .iconst (-1), 1), (24, .ireturn, 1)]]
def px_t229 : List (List (Nat × Instr × Nat)) := [[(0, .aload_n 0, 1), (1, .iload_n 1, 1), (2, .iload_n 2, 1), (3, .invokevirtual 358, 3), (6, .ifCond .eq 17, 3), (9, .aload_n 0, 1), (10, .getfield 82, 3), (13, .bipush 16, 2), (15, .iload_n 2, 1), (16, .imul, 1), (17, .iload_n 1, 1), (18, .iadd, 1), (19, .iaload, 1), (20, .goto 4, 3), (23, .iconst (-1), 1), (24, .ireturn, 1)]]
def px_t230 : List (List (Nat × Instr × Nat)) := [[(0, .aload_n 0, 1), (1, .getfield 73, 3), (4, .iload_n 1, 1), (5, .iaload, 1), (6, .invokestatic 362, 3), (9, .ireturn, 1)]]
def px_t231 : List (List (Nat × Instr × Nat)) := [[(0, .aload_n 0, 1), (1, .invokevirtual 345, 3), (4, .pop, 1), (5, .aload_n 0, 1), (6, .iload_n 1, 1), (7, .invokevirtual 267, 3), (10, .ifCond .eq 12, 3), (13, .aload_n 0, 1), (14, .getfield 64, 3), (17, .iload_n 1, 1), (18, .iaload, 1), (19, .goto 5, 3), (22, .bipush (-2), 2), (24, .ireturn, 1)]]
def px_t232 : List (List (Nat × Instr × Nat)) := [[(0, .aload_n 0, 1), (1, .iload_n 1, 1), (2, .invokevirtual 352, 3), (5, .ifCond .ne 6, 3), (8, .bipush (-2), 2), (10, .ireturn, 1), (11, .iconst 0, 1), (12, .istore_n 2, 1), (13, .iconst 0, 1), (14, .istore_n 3, 1), (15, .iload_n 3, 1), (16, .iload_n 1, 1), (17, .if_icmp .ge 26, 3), (20, .iload_n 2, 1), (21, .aload_n 0, 1), (22, .getfield 64, 3), (25, .iload_n 3, 1), (26, .iaload, 1), (27, .ifCond .le 7, 3), (30, .iconst 1, 1), (31, .goto 4, 3), (34, .iconst 0, 1), (35, .iadd, 1), (36, .istore_n 2, 1), (37, .iinc 3 1, 3), (40, .goto (-25), 3), (43, .iload_n 2, 1), (44, .ireturn, 1)]]
def px_t233 : List (List (Nat × Instr × Nat)) := [[(0, .aload_n 0, 1), (1, .iload_n 1, 1), (2, .invokevirtual 352, 3), (5, .ifCond .eq 14, 3), (8, .aload_n 0, 1), (9, .getfield 73, 3), (12, .iload_n 1, 1), (13, .iaload, 1), (14, .iconst 1, 1), (15, .ishr, 1), (16, .goto 5, 3), (19, .bipush (-2), 2), (21, .ireturn, 1)]]
def px_t234 : List (List (Nat × Instr × Nat)) := [[(0, .aload_n 0, 1), (1, .iload_n 1, 1), (2, .iload_n 2, 1), (3, .invokevirtual 365, 3), (6, .ifCond .eq 12, 3), (9, .aload_n 0, 1), (10, .iload_n 1, 1), (11, .iload_n 2, 1), (12, .invokevirtual 368, 3), (15, .goto 5, 3), (18, .bipush (-2), 2), (20, .ireturn, 1)]]
def px_t235 : List (List (Nat × Instr × Nat)) := [[(0, .aload_n 0, 1), (1, .iload_n 1, 1), (2, .iload_n 2, 1), (3, .invokevirtual 365, 3), (6, .ifCond .eq 12, 3), (9, .aload_n 0, 1), (10, .iload_n 1, 1), (11, .iload_n 2, 1), (12, .invokevirtual 371, 3), (15, .goto 5, 3), (18, .bipush (-2), 2), (20, .ireturn, 1)]]
def px_t236 : List (List (Nat × Instr × Nat)) := [[(0, .aload_n 0, 1), (1, .iload_n 1, 1), (2, .iload_n 2, 1), (3, .invokevirtual 365, 3), (6, .ifCond .ne 6, 3), (9, .bipush (-2), 2), (11, .ireturn, 1), (12, .iconst 0, 1), (13, .istore_n 3, 1), (14, .iconst 1, 1), (15, .istore 4, 2), (17, .iload 4, 2), (19, .bipush 16, 2), (21, .if_icmp .ge 33, 3), (24, .iload_n 3, 1), (25, .aload_n 0, 1), (26, .iload 4, 2), (28, .iload_n 2, 1), (29, .invokevirtual 368, 3), (32, .iload_n 1, 1), (33, .if_icmp .ne 12, 3), (36, .iconst 1, 1), (37, .iload 4, 2), (39, .iconst 1, 1), (40, .isub, 1), (41, .ishl, 1), (42, .goto 4, 3), (45, .iconst 0, 1), (46, .ior, 1), (47, .istore_n 3, 1), (48, .iinc 4 1, 3), (51, .goto (-34), 3), (54, .iload_n 3, 1), (55, .ireturn, 1)]]
def px_t237 : List (List (Nat × Instr × Nat)) := [[(0, .iconst 0, 1), (1, .istore_n 3, 1), (2, .iconst 1, 1), (3, .istore 4, 2), (5, .iload 4, 2), (7, .bipush 16, 2), (9, .if_icmp .ge 54, 3), (12, .iload_n 3, 1), (13, .aload_n 0, 1), (14, .iload 4, 2), (16, .iload_n 2, 1), (17, .invokevirtual 358, 3), (20, .ifCond .eq 34, 3), (23, .aload_n 0, 1), (24, .iload_n 1, 1), (25, .iload_n 2, 1), (26, .invokevirtual 358, 3), (29, .ifCond .eq 25, 3), (32, .aload_n 0, 1), (33, .aload_n 0, 1), (34, .getfield 79, 3), (37, .bipush 16, 2), (39, .iload_n 2, 1), (40, .imul, 1), (41, .iload 4, 2), (43, .iload_n 1, 1), (44, .invokevirtual 308, 3), (47, .ifCond .eq 7, 3), (50, .iconst 1, 1), (51, .goto 4, 3), (54, .iconst 0, 1), (55, .iadd, 1), (56, .istore_n 3, 1), (57, .iinc 4 1, 3), (60, .goto (-55), 3), (63, .iload_n 3, 1)],
  [(64, .ireturn, 1)]]
def px_t238 : List (List (Nat × Instr × Nat)) := [[(0, .aload_n 0, 1), (1, .iload_n 1, 1), (2, .iload_n 2, 1), (3, .invokevirtual 365, 3), (6, .ifCond .eq 12, 3), (9, .aload_n 0, 1), (10, .iload_n 1, 1), (11, .iload_n 2, 1), (12, .invokevirtual 374, 3), (15, .goto 5, 3), (18, .bipush (-2), 2), (20, .ireturn, 1)]]
def px_t239 : List (List (Nat × Instr × Nat)) := [[(0, .aload_n 0, 1), (1, .iload_n 1, 1), (2, .iload_n 2, 1), (3, .invokevirtual 365, 3), (6, .ifCond .ne 6, 3), (9, .bipush (-2), 2), (11, .ireturn, 1), (12, .aload_n 0, 1), (13, .iload_n 1, 1), (14, .iload_n 2, 1), (15, .invokevirtual 358, 3), (18, .ifCond .ne 5, 3), (21, .iconst (-1), 1), (22, .ireturn, 1), (23, .iconst 0, 1), (24, .istore_n 3, 1), (25, .iload_n 1, 1), (26, .istore 4, 2), (28, .iload 4, 2), (30, .ifCond .eq 18, 3), (33, .iinc 3 1, 3), (36, .aload_n 0, 1), (37, .iload 4, 2), (39, .iload_n 2, 1), (40, .invokevirtual 368, 3), (43, .istore 4, 2), (45, .goto (-17), 3), (48, .iload_n 3, 1), (49, .ireturn, 1)]]
def px_t240 : List (List (Nat × Instr × Nat)) := [[(0, .iconst 0, 1), (1, .istore_n 3, 1), (2, .iconst 1, 1), (3, .istore 4, 2), (5, .iload 4, 2), (7, .bipush 16, 2), (9, .if_icmp .ge 33, 3), (12, .iload_n 3, 1), (13, .aload_n 0, 1), (14, .iload 4, 2), (16, .iload_n 2, 1), (17, .invokevirtual 371, 3), (20, .iload_n 1, 1), (21, .if_icmp .ne 12, 3), (24, .iconst 1, 1), (25, .iload 4, 2), (27, .iconst 1, 1), (28, .isub, 1), (29, .ishl, 1), (30, .goto 4, 3), (33, .iconst 0, 1), (34, .ior, 1), (35, .istore_n 3, 1), (36, .iinc 4 1, 3), (39, .goto (-34), 3), (42, .iload_n 3, 1), (43, .ireturn, 1)]]
def px_t241 : List (List (Nat × Instr × Nat)) := [[(0, .aload_n 0, 1), (1, .iload_n 1, 1), (2, .iload_n 2, 1), (3, .invokevirtual 365, 3), (6, .ifCond .eq 12, 3), (9, .aload_n 0, 1), (10, .iload_n 1, 1), (11, .iload_n 2, 1), (12, .invokevirtual 377, 3), (15, .goto 5, 3), (18, .bipush (-2), 2), (20, .ireturn, 1)]]
def px_t242 : List (List (Nat × Instr × Nat)) := [[(0, .aload_n 0, 1), (1, .iload_n 1, 1), (2, .invokevirtual 352, 3), (5, .ifCond .ne 6, 3), (8, .bipush (-2), 2), (10, .ireturn, 1), (11, .iconst 0, 1), (12, .istore_n 2, 1), (13, .iconst 1, 1), (14, .istore_n 3, 1), (15, .iload_n 3, 1), (16, .bipush 16, 2), (18, .if_icmp .ge 26, 3), (21, .iload_n 2, 1), (22, .aload_n 0, 1), (23, .iload_n 3, 1), (24, .iload_n 1, 1), (25, .invokevirtual 377, 3), (28, .ifCond .eq 7, 3), (31, .iconst 1, 1), (32, .goto 4, 3), (35, .iconst 0, 1), (36, .iadd, 1), (37, .istore_n 2, 1), (38, .iinc 3 1, 3), (41, .goto (-26), 3), (44, .iload_n 2, 1), (45, .ireturn, 1)]]
def px_t243 : List (List (Nat × Instr × Nat)) := [[(0, .iconst 0, 1), (1, .istore_n 2, 1), (2, .iload_n 2, 1), (3, .aload_n 0, 1), (4, .getfield 276, 3), (7, .if_icmp .gt 20, 3), (10, .aload_n 0, 1), (11, .iload_n 1, 1), (12, .iload_n 2, 1), (13, .invokevirtual 358, 3), (16, .ifCond .eq 5, 3), (19, .iload_n 2, 1), (20, .ireturn, 1), (21, .iinc 2 1, 3), (24, .goto (-22), 3), (27, .iconst (-1), 1), (28, .ireturn, 1)]]
def px_t244 : List (List (Nat × Instr × Nat)) := [[(0, .aload_n 0, 1), (1, .invokevirtual 345, 3), (4, .ifCond .eq 19, 3), (7, .iload_n 1, 1), (8, .i2l, 1), (9, .invokestatic 355, 3), (12, .ifCond .eq 11, 3), (15, .aload_n 0, 1), (16, .iload_n 1, 1), (17, .invokevirtual 380, 3), (20, .goto 5, 3), (23, .bipush (-2), 2), (25, .ireturn, 1)]]
def px_t245 : List (List (Nat × Instr × Nat)) := [[(0, .aload_n 0, 1), (1, .invokevirtual 345, 3), (4, .ifCond .eq 11, 3), (7, .iload_n 1, 1), (8, .i2l, 1), (9, .invokestatic 355, 3), (12, .ifCond .ne 6, 3), (15, .bipush (-2), 2), (17, .ireturn, 1), (18, .aload_n 0, 1), (19, .iload_n 1, 1), (20, .invokevirtual 380, 3), (23, .iconst (-1), 1), (24, .if_icmp .ne 5, 3), (27, .iconst (-1), 1), (28, .ireturn, 1), (29, .aload_n 0, 1), (30, .iload_n 1, 1), (31, .invokevirtual 380, 3), (34, .istore_n 2, 1), (35, .iload_n 2, 1), (36, .aload_n 0, 1), (37, .getfield 276, 3), (40, .if_icmp .gt 20, 3), (43, .aload_n 0, 1), (44, .iload_n 1, 1), (45, .iload_n 2, 1), (46, .invokevirtual 358, 3), (49, .ifCond .ne 5, 3), (52, .iload_n 2, 1), (53, .ireturn, 1), (54, .iinc 2 1, 3), (57, .goto (-22), 3), (60, .iconst (-1), 1), (61, .ireturn, 1)]]
def px_t246 : List (List (Nat × Instr × Nat)) := [[(0, .aload_n 0, 1), (1, .getfield 85, 3), (4, .sipush 128, 3), (7, .iload_n 3, 1), (8, .imul, 1), (9, .bipush 8, 2), (11, .iload_n 1, 1), (12, .imul, 1), (13, .iadd, 1), (14, .iload_n 2, 1), (15, .iadd, 1), (16, .iaload, 1), (17, .ireturn, 1)]]
def px_t247 : List (List (Nat × Instr × Nat)) := [[(0, .iconst 0, 1), (1, .istore_n 3, 1), (2, .iconst 0, 1), (3, .istore 4, 2), (5, .iload 4, 2), (7, .sipush 128, 3), (10, .if_icmp .ge 34, 3), (13, .iload_n 3, 1), (14, .aload_n 0, 1), (15, .getfield 85, 3), (18, .sipush 128, 3), (21, .iload_n 2, 1), (22, .imul, 1), (23, .iload 4, 2), (25, .iadd, 1), (26, .iaload, 1), (27, .iload_n 1, 1), (28, .if_icmp .ne 7, 3), (31, .iconst 1, 1), (32, .goto 4, 3), (35, .iconst 0, 1), (36, .iadd, 1), (37, .istore_n 3, 1), (38, .iinc 4 1, 3), (41, .goto (-36), 3), (44, .iload_n 3, 1), (45, .ireturn, 1)]]
def px_t248 : List (List (Nat × Instr × Nat)) := [[(0, .aload_n 0, 1), (1, .iload_n 1, 1), (2, .iload_n 3, 1), (3, .invokevirtual 365, 3), (6, .ifCond .eq 20, 3), (9, .iload_n 2, 1), (10, .invokestatic 383, 3), (13, .ifCond .eq 13, 3), (16, .aload_n 0, 1), (17, .iload_n 1, 1), (18, .iload_n 2, 1), (19, .iload_n 3, 1), (20, .invokevirtual 386, 3), (23, .goto 5, 3), (26, .bipush (-2), 2), (28, .ireturn, 1)]]
def px_t249 : List (List (Nat × Instr × Nat)) := [[(0, .aload_n 0, 1), (1, .iload_n 1, 1), (2, .iload_n 2, 1), (3, .invokevirtual 365, 3), (6, .ifCond .ne 6, 3), (9, .bipush (-2), 2), (11, .ireturn, 1), (12, .iconst 0, 1), (13, .istore_n 3, 1), (14, .iconst 0, 1), (15, .istore 4, 2), (17, .iload 4, 2), (19, .bipush 8, 2), (21, .if_icmp .ge 32, 3), (24, .iload_n 3, 1), (25, .aload_n 0, 1), (26, .iload_n 1, 1), (27, .iload 4, 2), (29, .iload_n 2, 1), (30, .invokevirtual 386, 3), (33, .iconst (-1), 1), (34, .if_icmp .eq 10, 3), (37, .iconst 1, 1), (38, .iload 4, 2), (40, .ishl, 1), (41, .goto 4, 3), (44, .iconst 0, 1), (45, .ior, 1), (46, .istore_n 3, 1), (47, .iinc 4 1, 3), (50, .goto (-33), 3), (53, .iload_n 3, 1), (54, .ireturn, 1)]]
def px_t250 : List (List (Nat × Instr × Nat)) := [[(0, .aload_n 0, 1), (1, .iload_n 2, 1), (2, .invokevirtual 352, 3), (5, .ifCond .eq 19, 3), (8, .iload_n 1, 1), (9, .invokestatic 389, 3), (12, .ifCond .eq 12, 3), (15, .aload_n 0, 1), (16, .iload_n 1, 1), (17, .iload_n 2, 1), (18, .invokevirtual 392, 3), (21, .goto 5, 3), (24, .bipush (-2), 2), (26, .ireturn, 1)]]
def px_t251 : List (List (Nat × Instr × Nat)) := [[(0, .aload_n 0, 1), (1, .iload_n 2, 1), (2, .invokevirtual 352, 3), (5, .ifCond .eq 10, 3), (8, .iload_n 1, 1), (9, .invokestatic 389, 3), (12, .ifCond .ne 6, 3), (15, .bipush (-2), 2), (17, .ireturn, 1), (18, .iload_n 1, 1), (19, .aload_n 0, 1), (20, .getfield 76, 3), (23, .iload_n 2, 1), (24, .iaload, 1), (25, .if_icmp .ge 12, 3), (28, .aload_n 0, 1), (29, .getfield 58, 3), (32, .iload_n 1, 1), (33, .iaload, 1), (34, .goto 4, 3), (37, .iconst (-1), 1), (38, .ireturn, 1)]]
def px_t252 : List (List (Nat × Instr × Nat)) := [[(0, .aload_n 0, 1), (1, .iload_n 1, 1), (2, .invokevirtual 352, 3), (5, .ifCond .ne 6, 3), (8, .bipush (-2), 2), (10, .ireturn, 1), (11, .iconst 0, 1), (12, .istore_n 2, 1), (13, .iconst 0, 1), (14, .istore_n 3, 1), (15, .iload_n 3, 1), (16, .aload_n 0, 1), (17, .getfield 76, 3), (20, .iload_n 1, 1), (21, .iaload, 1), (22, .if_icmp .ge 26, 3), (25, .iload_n 2, 1), (26, .aload_n 0, 1), (27, .iload_n 3, 1), (28, .iload_n 1, 1), (29, .invokevirtual 392, 3), (32, .ifCond .le 7, 3), (35, .iconst 1, 1), (36, .goto 4, 3), (39, .iconst 0, 1), (40, .iadd, 1), (41, .istore_n 2, 1), (42, .iinc 3 1, 3), (45, .goto (-30), 3), (48, .iload_n 2, 1), (49, .ireturn, 1)]]
def px_t253 : List (List (Nat × Instr × Nat)) := [[(0, .iload_n 1, 1), (1, .aload_n 0, 1), (2, .getfield 76, 3), (5, .iload_n 2, 1), (6, .iaload, 1), (7, .if_icmp .ge 12, 3), (10, .aload_n 0, 1), (11, .getfield 58, 3), (14, .iload_n 1, 1), (15, .iaload, 1), (16, .ifCond .ne 5, 3), (19, .iconst (-1), 1), (20, .ireturn, 1), (21, .aload_n 0, 1), (22, .getfield 58, 3), (25, .iload_n 1, 1), (26, .iaload, 1), (27, .iconst 1, 1), (28, .if_icmp .ne 7, 3), (31, .iload_n 1, 1), (32, .goto 6, 3), (35, .iload_n 1, 1), (36, .iconst 1, 1), (37, .isub, 1), (38, .istore_n 3, 1), (39, .aload_n 0, 1), (40, .iload_n 3, 1), (41, .iload_n 2, 1), (42, .invokevirtual 392, 3), (45, .aload_n 0, 1), (46, .iload_n 3, 1), (47, .iconst 1, 1), (48, .iadd, 1), (49, .iload_n 2, 1), (50, .invokevirtual 392, 3), (53, .iadd, 1), (54, .ifCond .le 18, 3), (57, .aload_n 0, 1), (58, .getfield 88, 3), (61, .sipush 200, 3)],
  [(64, .iload_n 2, 1), (65, .imul, 1), (66, .iload_n 3, 1), (67, .iadd, 1), (68, .iaload, 1), (69, .goto 4, 3), (72, .iconst (-1), 1), (73, .ireturn, 1)]]
def px_t254 : List (List (Nat × Instr × Nat)) := [[(0, .aload_n 0, 1), (1, .iload_n 2, 1), (2, .invokevirtual 352, 3), (5, .ifCond .eq 19, 3), (8, .iload_n 1, 1), (9, .invokestatic 389, 3), (12, .ifCond .eq 12, 3), (15, .aload_n 0, 1), (16, .iload_n 1, 1), (17, .iload_n 2, 1), (18, .invokevirtual 395, 3), (21, .goto 5, 3), (24, .bipush (-2), 2), (26, .ireturn, 1)]]
def px_t255 : List (List (Nat × Instr × Nat)) := [[(0, .aload_n 0, 1), (1, .iload_n 1, 1), (2, .invokevirtual 352, 3), (5, .ifCond .ne 6, 3), (8, .bipush (-2), 2), (10, .ireturn, 1), (11, .iconst 0, 1), (12, .istore_n 2, 1), (13, .iconst 0, 1), (14, .istore_n 3, 1), (15, .iload_n 3, 1), (16, .aload_n 0, 1), (17, .getfield 76, 3), (20, .iload_n 1, 1), (21, .iaload, 1), (22, .if_icmp .ge 36, 3), (25, .iload_n 2, 1), (26, .aload_n 0, 1), (27, .getfield 58, 3), (30, .iload_n 3, 1), (31, .iaload, 1), (32, .iconst 1, 1), (33, .if_icmp .ne 16, 3), (36, .iconst 0, 1), (37, .aload_n 0, 1), (38, .iload_n 3, 1), (39, .iload_n 1, 1), (40, .invokevirtual 395, 3), (43, .invokestatic 398, 3), (46, .goto 4, 3), (49, .iconst 0, 1), (50, .iadd, 1), (51, .istore_n 2, 1), (52, .iinc 3 1, 3), (55, .goto (-40), 3), (58, .iload_n 2, 1), (59, .ireturn, 1)]]
def px_t256 : List (List (Nat × Instr × Nat)) := [[(0, .aload_n 0, 1), (1, .iconst 0, 1), (2, .putfield 401, 3), (5, .iconst 0, 1), (6, .istore_n 2, 1), (7, .iload_n 2, 1), (8, .sipush 200, 3), (11, .if_icmp .ge 16, 3), (14, .aload_n 0, 1), (15, .getfield 91, 3), (18, .iload_n 2, 1), (19, .iconst (-1), 1), (20, .iastore, 1), (21, .iinc 2 1, 3), (24, .goto (-17), 3), (27, .iconst 1, 1), (28, .istore_n 2, 1), (29, .iload_n 2, 1), (30, .bipush 16, 2), (32, .if_icmp .ge 84, 3), (35, .iconst 0, 1), (36, .istore_n 3, 1), (37, .iload_n 3, 1), (38, .bipush 8, 2), (40, .if_icmp .ge 70, 3), (43, .aload_n 0, 1), (44, .iload_n 2, 1), (45, .iload_n 3, 1), (46, .iload_n 1, 1), (47, .invokevirtual 386, 3), (50, .istore 4, 2), (52, .iload 4, 2), (54, .iconst (-1), 1), (55, .if_icmp .eq 49, 3), (58, .aload_n 0, 1), (59, .getfield 91, 3), (62, .iload 4, 2)],
  [(64, .iaload, 1), (65, .iconst (-1), 1), (66, .if_icmp .eq 6, 3), (69, .goto 35, 3), (72, .aload_n 0, 1), (73, .getfield 94, 3), (76, .aload_n 0, 1), (77, .getfield 401, 3), (80, .iload 4, 2), (82, .iastore, 1), (83, .aload_n 0, 1), (84, .getfield 91, 3), (87, .iload 4, 2), (89, .aload_n 0, 1), (90, .getfield 401, 3), (93, .iastore, 1), (94, .aload_n 0, 1), (95, .dup, 1), (96, .getfield 401, 3), (99, .iconst 1, 1), (100, .iadd, 1), (101, .putfield 401, 3), (104, .iinc 3 1, 3), (107, .goto (-70), 3), (110, .iinc 2 1, 3), (113, .goto (-84), 3), (116, .return_, 1)]]
def px_t257 : List (List (Nat × Instr × Nat)) := [[(0, .aload_n 0, 1), (1, .iload_n 1, 1), (2, .iload_n 3, 1), (3, .invokevirtual 365, 3), (6, .ifCond .eq 10, 3), (9, .iload_n 2, 1), (10, .invokestatic 383, 3), (13, .ifCond .ne 6, 3), (16, .bipush (-2), 2), (18, .ireturn, 1), (19, .aload_n 0, 1), (20, .iload_n 3, 1), (21, .invokevirtual 404, 3), (24, .aload_n 0, 1), (25, .iload_n 1, 1), (26, .iload_n 2, 1), (27, .iload_n 3, 1), (28, .invokevirtual 386, 3), (31, .iconst (-1), 1), (32, .if_icmp .ne 7, 3), (35, .iconst (-1), 1), (36, .goto 15, 3), (39, .aload_n 0, 1), (40, .getfield 91, 3), (43, .aload_n 0, 1), (44, .iload_n 1, 1), (45, .iload_n 2, 1), (46, .iload_n 3, 1), (47, .invokevirtual 386, 3), (50, .iaload, 1), (51, .ireturn, 1)]]
def px_t258 : List (List (Nat × Instr × Nat)) := [[(0, .aload_n 0, 1), (1, .iload_n 1, 1), (2, .iload_n 3, 1), (3, .invokevirtual 365, 3), (6, .ifCond .eq 10, 3), (9, .iload_n 2, 1), (10, .invokestatic 383, 3), (13, .ifCond .ne 6, 3), (16, .bipush (-2), 2), (18, .ireturn, 1), (19, .iconst 0, 1), (20, .istore 4, 2), (22, .aload_n 0, 1), (23, .iload_n 1, 1), (24, .iload_n 2, 1), (25, .iload_n 3, 1), (26, .invokevirtual 386, 3), (29, .istore 5, 2), (31, .iload 5, 2), (33, .iconst (-1), 1), (34, .if_icmp .ne 5, 3), (37, .iconst 0, 1), (38, .ireturn, 1), (39, .iconst 1, 1), (40, .istore 6, 2), (42, .iload 6, 2), (44, .bipush 16, 2), (46, .if_icmp .ge 54, 3), (49, .iconst 0, 1), (50, .istore 7, 2), (52, .iload 7, 2), (54, .bipush 8, 2), (56, .if_icmp .ge 38, 3), (59, .iload 4, 2), (61, .aload_n 0, 1), (62, .iload 6, 2)],
  [(64, .iload 7, 2), (66, .iload_n 3, 1), (67, .invokevirtual 386, 3), (70, .iload 5, 2), (72, .if_icmp .ne 12, 3), (75, .iconst 1, 1), (76, .iload 6, 2), (78, .iconst 1, 1), (79, .isub, 1), (80, .ishl, 1), (81, .goto 4, 3), (84, .iconst 0, 1), (85, .ior, 1), (86, .istore 4, 2), (88, .iinc 7 1, 3), (91, .goto (-39), 3), (94, .iinc 6 1, 3), (97, .goto (-55), 3), (100, .iload 4, 2), (102, .ireturn, 1)]]
def px_t259 : List (List (Nat × Instr × Nat)) := [[(0, .aload_n 0, 1), (1, .iload_n 1, 1), (2, .invokevirtual 404, 3), (5, .sipush 510, 3), (8, .iload_n 1, 1), (9, .imul, 1), (10, .istore_n 2, 1), (11, .iconst 1, 1), (12, .istore_n 3, 1), (13, .iload_n 3, 1), (14, .bipush 16, 2), (16, .if_icmp .ge 94, 3), (19, .aload_n 0, 1), (20, .getfield 98, 3), (23, .iload_n 2, 1), (24, .aload_n 0, 1), (25, .iload_n 3, 1), (26, .iload_n 1, 1), (27, .invokevirtual 368, 3), (30, .iastore, 1), (31, .aload_n 0, 1), (32, .getfield 98, 3), (35, .iload_n 2, 1), (36, .iconst 1, 1), (37, .iadd, 1), (38, .aload_n 0, 1), (39, .iload_n 3, 1), (40, .iload_n 1, 1), (41, .invokevirtual 371, 3), (44, .iastore, 1), (45, .iconst 0, 1), (46, .istore 4, 2), (48, .iload 4, 2), (50, .bipush 8, 2), (52, .if_icmp .ge 49, 3), (55, .aload_n 0, 1), (56, .getfield 98, 3), (59, .iload_n 2, 1), (60, .iconst 2, 1), (61, .iadd, 1), (62, .iload 4, 2)],
  [(64, .iadd, 1), (65, .aload_n 0, 1), (66, .iload_n 3, 1), (67, .iload 4, 2), (69, .iload_n 1, 1), (70, .invokevirtual 386, 3), (73, .iconst (-1), 1), (74, .if_icmp .ne 7, 3), (77, .iconst (-1), 1), (78, .goto 16, 3), (81, .aload_n 0, 1), (82, .getfield 91, 3), (85, .aload_n 0, 1), (86, .iload_n 3, 1), (87, .iload 4, 2), (89, .iload_n 1, 1), (90, .invokevirtual 386, 3), (93, .iaload, 1), (94, .iastore, 1), (95, .iinc 4 1, 3), (98, .goto (-50), 3), (101, .iinc 2 10, 3), (104, .iinc 3 1, 3), (107, .goto (-94), 3), (110, .iconst 0, 1), (111, .istore_n 3, 1), (112, .iload_n 3, 1), (113, .bipush 120, 2), (115, .if_icmp .ge 153, 3), (118, .iload_n 3, 1), (119, .aload_n 0, 1), (120, .getfield 401, 3), (123, .if_icmp .ge 7, 3), (126, .iconst 1, 1), (127, .goto 4, 3)],
  [(130, .iconst 0, 1), (131, .istore 4, 2), (133, .iload 4, 2), (135, .ifCond .eq 12, 3), (138, .aload_n 0, 1), (139, .getfield 94, 3), (142, .iload_n 3, 1), (143, .iaload, 1), (144, .goto 4, 3), (147, .iconst 0, 1), (148, .istore 5, 2), (150, .iload 4, 2), (152, .ifCond .eq 13, 3), (155, .aload_n 0, 1), (156, .getfield 58, 3), (159, .iload 5, 2), (161, .iaload, 1), (162, .ifCond .ne 7, 3), (165, .iconst (-1), 1), (166, .goto 35, 3), (169, .aload_n 0, 1), (170, .getfield 58, 3), (173, .iload 5, 2), (175, .iaload, 1), (176, .iconst 1, 1), (177, .if_icmp .ne 15, 3), (180, .aload_n 0, 1), (181, .getfield 91, 3), (184, .iload 5, 2), (186, .iconst 1, 1), (187, .iadd, 1), (188, .iaload, 1), (189, .goto 12, 3)],
  [(192, .aload_n 0, 1), (193, .getfield 91, 3), (196, .iload 5, 2), (198, .iconst 1, 1), (199, .isub, 1), (200, .iaload, 1), (201, .istore 6, 2), (203, .aload_n 0, 1), (204, .getfield 98, 3), (207, .iload_n 2, 1), (208, .iload 4, 2), (210, .ifCond .eq 13, 3), (213, .aload_n 0, 1), (214, .getfield 58, 3), (217, .iload 5, 2), (219, .iaload, 1), (220, .goto 4, 3), (223, .iconst (-1), 1), (224, .iastore, 1), (225, .aload_n 0, 1), (226, .getfield 98, 3), (229, .iload_n 2, 1), (230, .iconst 1, 1), (231, .iadd, 1), (232, .iload 4, 2), (234, .ifCond .eq 13, 3), (237, .aload_n 0, 1), (238, .iload 5, 2), (240, .iload_n 1, 1), (241, .invokevirtual 395, 3), (244, .goto 4, 3), (247, .iconst (-1), 1), (248, .iastore, 1), (249, .aload_n 0, 1), (250, .getfield 98, 3), (253, .iload_n 2, 1), (254, .iconst 2, 1), (255, .iadd, 1)],
  [(256, .iload 6, 2), (258, .iastore, 1), (259, .iinc 2 3, 3), (262, .iinc 3 1, 3), (265, .goto (-153), 3), (268, .return_, 1)]]
def px_t260 : List (List (Nat × Instr × Nat)) := [[(0, .iconst 1, 1), (1, .istore_n 3, 1), (2, .iconst 0, 1), (3, .istore 4, 2), (5, .iload 4, 2), (7, .sipush 510, 3), (10, .if_icmp .ge 48, 3), (13, .iload_n 3, 1), (14, .ifCond .eq 44, 3), (17, .aload_n 0, 1), (18, .getfield 98, 3), (21, .sipush 510, 3), (24, .iload_n 1, 1), (25, .imul, 1), (26, .iload 4, 2), (28, .iadd, 1), (29, .iaload, 1), (30, .aload_n 0, 1), (31, .getfield 98, 3), (34, .sipush 510, 3), (37, .iload_n 2, 1), (38, .imul, 1), (39, .iload 4, 2), (41, .iadd, 1), (42, .iaload, 1), (43, .if_icmp .ne 7, 3), (46, .iconst 1, 1), (47, .goto 4, 3), (50, .iconst 0, 1), (51, .istore_n 3, 1), (52, .iinc 4 1, 3), (55, .goto (-50), 3), (58, .iload_n 3, 1), (59, .ireturn, 1)]]
def px_t261 : List (List (Nat × Instr × Nat)) := [[(0, .aload_n 0, 1), (1, .invokevirtual 345, 3), (4, .istore_n 1, 1), (5, .iconst 0, 1), (6, .istore_n 2, 1), (7, .iload_n 2, 1), (8, .aload_n 0, 1), (9, .getfield 276, 3), (12, .if_icmp .gt 14, 3), (15, .aload_n 0, 1), (16, .iload_n 2, 1), (17, .invokevirtual 407, 3), (20, .iinc 2 1, 3), (23, .goto (-16), 3), (26, .iload_n 1, 1), (27, .ireturn, 1)]]
def px_t262 : List (List (Nat × Instr × Nat)) := [[(0, .iconst 0, 1), (1, .istore_n 2, 1), (2, .aload_n 0, 1), (3, .iload_n 2, 1), (4, .iload_n 1, 1), (5, .invokevirtual 410, 3), (8, .ifCond .ne 9, 3), (11, .iinc 2 1, 3), (14, .goto (-12), 3), (17, .iload_n 2, 1), (18, .ireturn, 1)]]
def px_t263 : List (List (Nat × Instr × Nat)) := [[(0, .aload_n 0, 1), (1, .invokevirtual 413, 3), (4, .ifCond .eq 21, 3), (7, .aload_n 0, 1), (8, .iload_n 1, 1), (9, .i2l, 1), (10, .invokevirtual 348, 3), (13, .ifCond .eq 12, 3), (16, .aload_n 0, 1), (17, .iload_n 2, 1), (18, .i2l, 1), (19, .invokevirtual 348, 3), (22, .ifCond .ne 6, 3), (25, .bipush (-2), 2), (27, .ireturn, 1), (28, .aload_n 0, 1), (29, .iload_n 1, 1), (30, .iload_n 2, 1), (31, .invokevirtual 410, 3), (34, .ifCond .eq 7, 3), (37, .iconst 1, 1), (38, .goto 4, 3), (41, .iconst 0, 1), (42, .ireturn, 1)]]
def px_t264 : List (List (Nat × Instr × Nat)) := [[(0, .aload_n 0, 1), (1, .invokevirtual 413, 3), (4, .ifCond .eq 20, 3), (7, .aload_n 0, 1), (8, .iload_n 1, 1), (9, .i2l, 1), (10, .invokevirtual 348, 3), (13, .ifCond .eq 11, 3), (16, .aload_n 0, 1), (17, .iload_n 1, 1), (18, .invokevirtual 416, 3), (21, .goto 5, 3), (24, .bipush (-2), 2), (26, .ireturn, 1)]]
def px_t265 : List (List (Nat × Instr × Nat)) := [[(0, .aload_n 0, 1), (1, .invokevirtual 413, 3), (4, .ifCond .ne 6, 3), (7, .bipush (-2), 2), (9, .ireturn, 1), (10, .iconst 0, 1), (11, .istore_n 1, 1), (12, .iconst 0, 1), (13, .istore_n 2, 1), (14, .iload_n 2, 1), (15, .aload_n 0, 1), (16, .getfield 276, 3), (19, .if_icmp .gt 26, 3), (22, .iload_n 1, 1), (23, .aload_n 0, 1), (24, .iload_n 2, 1), (25, .invokevirtual 416, 3), (28, .iload_n 2, 1), (29, .if_icmp .ne 7, 3), (32, .iconst 1, 1), (33, .goto 4, 3), (36, .iconst 0, 1), (37, .iadd, 1), (38, .istore_n 1, 1), (39, .iinc 2 1, 3), (42, .goto (-28), 3), (45, .iload_n 1, 1), (46, .ireturn, 1)]]
def px_t266 : List (List (Nat × Instr × Nat)) := [[(0, .aload_n 0, 1), (1, .invokevirtual 413, 3), (4, .ifCond .ne 6, 3), (7, .bipush (-2), 2), (9, .ireturn, 1), (10, .iconst 0, 1), (11, .istore_n 1, 1), (12, .iconst 0, 1), (13, .istore_n 2, 1), (14, .iconst 0, 1), (15, .istore_n 3, 1), (16, .iload_n 3, 1), (17, .aload_n 0, 1), (18, .getfield 276, 3), (21, .if_icmp .gt 73, 3), (24, .iconst 0, 1), (25, .istore 4, 2), (27, .iload_n 3, 1), (28, .istore 5, 2), (30, .iload 5, 2), (32, .aload_n 0, 1), (33, .getfield 276, 3), (36, .if_icmp .gt 38, 3), (39, .aload_n 0, 1), (40, .iload_n 3, 1), (41, .invokevirtual 416, 3), (44, .iload_n 3, 1), (45, .if_icmp .ne 29, 3), (48, .iload 4, 2), (50, .aload_n 0, 1), (51, .iload 5, 2), (53, .invokevirtual 416, 3), (56, .iload_n 3, 1), (57, .if_icmp .ne 7, 3), (60, .iconst 1, 1), (61, .goto 4, 3)],
  [(64, .iconst 0, 1), (65, .iadd, 1), (66, .istore 4, 2), (68, .iinc 5 1, 3), (71, .goto (-41), 3), (74, .iload 4, 2), (76, .iload_n 2, 1), (77, .if_icmp .gt 6, 3), (80, .goto 8, 3), (83, .iload 4, 2), (85, .istore_n 2, 1), (86, .iload_n 3, 1), (87, .istore_n 1, 1), (88, .iinc 3 1, 3), (91, .goto (-75), 3), (94, .iload_n 1, 1), (95, .ireturn, 1)]]
def px_t267 : List (List (Nat × Instr × Nat)) := [[(0, .aload_n 0, 1), (1, .iload_n 1, 1), (2, .iload_n 2, 1), (3, .invokevirtual 368, 3), (6, .istore_n 3, 1), (7, .aload_n 0, 1), (8, .iload_n 1, 1), (9, .iload_n 2, 1), (10, .invokevirtual 371, 3), (13, .istore 4, 2), (15, .iload 4, 2), (17, .iload_n 1, 1), (18, .if_icmp .ne 5, 3), (21, .iconst 1, 1), (22, .ireturn, 1), (23, .iload 4, 2), (25, .aload_n 0, 1), (26, .iload_n 3, 1), (27, .iload_n 2, 1), (28, .invokevirtual 371, 3), (31, .if_icmp .ne 5, 3), (34, .iconst 2, 1), (35, .ireturn, 1), (36, .iload_n 3, 1), (37, .iconst 1, 1), (38, .if_icmp .eq 31, 3), (41, .aload_n 0, 1), (42, .getfield 101, 3), (45, .iload_n 3, 1), (46, .iaload, 1), (47, .iconst 1, 1), (48, .if_icmp .ne 21, 3), (51, .iload 4, 2), (53, .aload_n 0, 1), (54, .aload_n 0, 1), (55, .iload_n 3, 1), (56, .iload_n 2, 1), (57, .invokevirtual 368, 3), (60, .iload_n 2, 1), (61, .invokevirtual 371, 3)],
  [(64, .if_icmp .ne 5, 3), (67, .iconst 3, 1), (68, .ireturn, 1), (69, .iload_n 3, 1), (70, .iconst 1, 1), (71, .if_icmp .ne 20, 3), (74, .aload_n 0, 1), (75, .getfield 419, 3), (78, .iload 4, 2), (80, .invokestatic 295, 3), (83, .iconst 1, 1), (84, .if_icmp .ne 7, 3), (87, .iconst 4, 1), (88, .goto 4, 3), (91, .iconst 0, 1), (92, .ireturn, 1)]]
def px_t268 : List (List (Nat × Instr × Nat)) := [[(0, .aload_n 0, 1), (1, .dup, 1), (2, .getfield 419, 3), (5, .iconst 1, 1), (6, .iload_n 1, 1), (7, .ishl, 1), (8, .ior, 1), (9, .putfield 419, 3), (12, .aload_n 0, 1), (13, .getfield 101, 3), (16, .iload_n 1, 1), (17, .iload_n 2, 1), (18, .iastore, 1), (19, .aload_n 0, 1), (20, .getfield 104, 3), (23, .aload_n 0, 1), (24, .getfield 422, 3), (27, .iload_n 1, 1), (28, .iastore, 1), (29, .aload_n 0, 1), (30, .dup, 1), (31, .getfield 422, 3), (34, .iconst 1, 1), (35, .iadd, 1), (36, .putfield 422, 3), (39, .return_, 1)]]
def px_t269 : List (List (Nat × Instr × Nat)) := [[(0, .iconst 2, 1), (1, .istore_n 2, 1), (2, .iload_n 2, 1), (3, .bipush 16, 2), (5, .if_icmp .ge 57, 3), (8, .aload_n 0, 1), (9, .iload_n 2, 1), (10, .iload_n 1, 1), (11, .invokevirtual 358, 3), (14, .ifCond .eq 42, 3), (17, .aload_n 0, 1), (18, .getfield 419, 3), (21, .iload_n 2, 1), (22, .invokestatic 295, 3), (25, .ifCond .ne 31, 3), (28, .aload_n 0, 1), (29, .getfield 419, 3), (32, .aload_n 0, 1), (33, .iload_n 2, 1), (34, .iload_n 1, 1), (35, .invokevirtual 368, 3), (38, .invokestatic 295, 3), (41, .iconst 1, 1), (42, .if_icmp .ne 14, 3), (45, .aload_n 0, 1), (46, .iload_n 2, 1), (47, .iload_n 1, 1), (48, .invokevirtual 425, 3), (51, .ifCond .le 5, 3), (54, .iload_n 2, 1), (55, .ireturn, 1), (56, .iinc 2 1, 3), (59, .goto (-57), 3), (62, .iconst (-1), 1), (63, .ireturn, 1)]]
def px_t270 : List (List (Nat × Instr × Nat)) := [[(0, .aload_n 0, 1), (1, .iconst 0, 1), (2, .putfield 419, 3), (5, .aload_n 0, 1), (6, .iconst 0, 1), (7, .putfield 422, 3), (10, .iconst 0, 1), (11, .istore_n 2, 1), (12, .iload_n 2, 1), (13, .bipush 16, 2), (15, .if_icmp .ge 16, 3), (18, .aload_n 0, 1), (19, .getfield 101, 3), (22, .iload_n 2, 1), (23, .iconst 0, 1), (24, .iastore, 1), (25, .iinc 2 1, 3), (28, .goto (-16), 3), (31, .aload_n 0, 1), (32, .iconst 1, 1), (33, .iconst 1, 1), (34, .invokevirtual 428, 3), (37, .aload_n 0, 1), (38, .iload_n 1, 1), (39, .invokevirtual 431, 3), (42, .istore_n 2, 1), (43, .iload_n 2, 1), (44, .iconst (-1), 1), (45, .if_icmp .eq 23, 3), (48, .aload_n 0, 1), (49, .iload_n 2, 1), (50, .aload_n 0, 1), (51, .iload_n 2, 1), (52, .iload_n 1, 1), (53, .invokevirtual 425, 3), (56, .invokevirtual 428, 3), (59, .aload_n 0, 1), (60, .iload_n 1, 1), (61, .invokevirtual 431, 3)],
  [(64, .istore_n 2, 1), (65, .goto (-22), 3), (68, .return_, 1)]]
def px_t271 : List (List (Nat × Instr × Nat)) := [[(0, .aload_n 0, 1), (1, .iload_n 1, 1), (2, .invokevirtual 352, 3), (5, .ifCond .ne 5, 3), (8, .iconst 0, 1), (9, .ireturn, 1), (10, .aload_n 0, 1), (11, .iload_n 1, 1), (12, .invokevirtual 434, 3), (15, .iconst 1, 1), (16, .ireturn, 1)]]
def px_t272 : List (List (Nat × Instr × Nat)) := [[(0, .aload_n 0, 1), (1, .iload_n 1, 1), (2, .invokevirtual 434, 3), (5, .aload_n 0, 1), (6, .getfield 73, 3), (9, .iload_n 1, 1), (10, .iaload, 1), (11, .aload_n 0, 1), (12, .getfield 419, 3), (15, .iconst (-1), 1), (16, .ixor, 1), (17, .iand, 1), (18, .ireturn, 1)]]
def px_t273 : List (List (Nat × Instr × Nat)) := [[(0, .aload_n 0, 1), (1, .iload_n 2, 1), (2, .invokevirtual 437, 3), (5, .ifCond .eq 11, 3), (8, .iload_n 1, 1), (9, .i2l, 1), (10, .invokestatic 355, 3), (13, .ifCond .ne 6, 3), (16, .bipush (-2), 2), (18, .ireturn, 1), (19, .aload_n 0, 1), (20, .iload_n 1, 1), (21, .iload_n 2, 1), (22, .invokevirtual 358, 3), (25, .ifCond .eq 12, 3), (28, .aload_n 0, 1), (29, .getfield 101, 3), (32, .iload_n 1, 1), (33, .iaload, 1), (34, .goto 4, 3), (37, .iconst (-1), 1), (38, .ireturn, 1)]]
def px_t274 : List (List (Nat × Instr × Nat)) := [[(0, .aload_n 0, 1), (1, .iload_n 1, 1), (2, .invokevirtual 352, 3), (5, .ifCond .eq 13, 3), (8, .aload_n 0, 1), (9, .iload_n 1, 1), (10, .invokevirtual 440, 3), (13, .iconst 1, 1), (14, .ishr, 1), (15, .goto 5, 3), (18, .bipush (-2), 2), (20, .ireturn, 1)]]
def px_t275 : List (List (Nat × Instr × Nat)) := [[(0, .aload_n 0, 1), (1, .iload_n 1, 1), (2, .invokevirtual 437, 3), (5, .ifCond .ne 6, 3), (8, .bipush (-2), 2), (10, .ireturn, 1), (11, .iconst 0, 1), (12, .istore_n 2, 1), (13, .iconst 1, 1), (14, .istore_n 3, 1), (15, .iload_n 3, 1), (16, .aload_n 0, 1), (17, .getfield 422, 3), (20, .if_icmp .ge 51, 3), (23, .iload_n 2, 1), (24, .aload_n 0, 1), (25, .getfield 101, 3), (28, .aload_n 0, 1), (29, .getfield 104, 3), (32, .iload_n 3, 1), (33, .iaload, 1), (34, .iaload, 1), (35, .iconst 1, 1), (36, .if_icmp .ne 7, 3), (39, .iconst 2, 1), (40, .goto 23, 3), (43, .aload_n 0, 1), (44, .getfield 101, 3), (47, .aload_n 0, 1), (48, .getfield 104, 3), (51, .iload_n 3, 1), (52, .iaload, 1), (53, .iaload, 1), (54, .iconst 4, 1), (55, .if_icmp .ne 7, 3), (58, .iconst 3, 1), (59, .goto 4, 3), (62, .iconst 1, 1), (63, .iadd, 1)],
  [(64, .istore_n 2, 1), (65, .iinc 3 1, 3), (68, .goto (-53), 3), (71, .iload_n 2, 1), (72, .ireturn, 1)]]
def px_t276 : List (List (Nat × Instr × Nat)) := [[(0, .aload_n 0, 1), (1, .iload_n 2, 1), (2, .invokevirtual 437, 3), (5, .ifCond .eq 7, 3), (8, .iload_n 1, 1), (9, .ifCond .ge 6, 3), (12, .bipush (-2), 2), (14, .ireturn, 1), (15, .iload_n 1, 1), (16, .aload_n 0, 1), (17, .getfield 422, 3), (20, .if_icmp .ge 12, 3), (23, .aload_n 0, 1), (24, .getfield 104, 3), (27, .iload_n 1, 1), (28, .iaload, 1), (29, .goto 4, 3), (32, .iconst (-1), 1), (33, .ireturn, 1)]]
def px_t277 : List (List (Nat × Instr × Nat)) := [[(0, .aload_n 0, 1), (1, .iload_n 1, 1), (2, .invokevirtual 437, 3), (5, .ifCond .ne 6, 3), (8, .bipush (-2), 2), (10, .ireturn, 1), (11, .iconst 0, 1), (12, .istore_n 2, 1), (13, .iconst 0, 1), (14, .istore_n 3, 1), (15, .iload_n 3, 1), (16, .aload_n 0, 1), (17, .getfield 422, 3), (20, .if_icmp .ge 32, 3), (23, .iload_n 2, 1), (24, .aload_n 0, 1), (25, .getfield 101, 3), (28, .aload_n 0, 1), (29, .getfield 104, 3), (32, .iload_n 3, 1), (33, .iaload, 1), (34, .iaload, 1), (35, .iconst 4, 1), (36, .if_icmp .ne 7, 3), (39, .iconst 1, 1), (40, .goto 4, 3), (43, .iconst 0, 1), (44, .iadd, 1), (45, .istore_n 2, 1), (46, .iinc 3 1, 3), (49, .goto (-34), 3), (52, .iload_n 2, 1), (53, .ireturn, 1)]]
def px_t278 : List (List (Nat × Instr × Nat)) := [[(0, .aload_n 0, 1), (1, .invokevirtual 345, 3), (4, .ifCond .ne 6, 3), (7, .bipush (-2), 2), (9, .ireturn, 1), (10, .aload_n 0, 1), (11, .getfield 276, 3), (14, .istore_n 1, 1), (15, .aload_n 0, 1), (16, .iload_n 1, 1), (17, .invokevirtual 440, 3), (20, .ifCond .eq 9, 3), (23, .iinc 1 (-1), 3), (26, .goto (-11), 3), (29, .iload_n 1, 1), (30, .ireturn, 1)]]
def px_t279 : List (List (Nat × Instr × Nat)) := [[(0, .iconst 0, 1), (1, .istore 4, 2), (3, .iload_n 2, 1), (4, .istore 5, 2), (6, .iload 5, 2), (8, .iload_n 3, 1), (9, .if_icmp .ge 46, 3), (12, .iload 4, 2), (14, .aload_n 0, 1), (15, .getfield 67, 3), (18, .iload 5, 2), (20, .iaload, 1), (21, .ifCond .eq 24, 3), (24, .aload_n 0, 1), (25, .getfield 70, 3), (28, .iload 5, 2), (30, .iaload, 1), (31, .iload_n 1, 1), (32, .if_icmp .ne 13, 3), (35, .aload_n 0, 1), (36, .getfield 67, 3), (39, .iload 5, 2), (41, .iaload, 1), (42, .goto 4, 3), (45, .iconst 0, 1), (46, .ior, 1), (47, .istore 4, 2), (49, .iinc 5 1, 3), (52, .goto (-46), 3), (55, .aload_n 0, 1), (56, .iload_n 1, 1), (57, .iload_n 3, 1), (58, .invokevirtual 358, 3), (61, .ifCond .eq 8, 3)],
  [(64, .iload 4, 2), (66, .goto 4, 3), (69, .iconst 0, 1), (70, .ireturn, 1)]]
def px_t280 : List (List (Nat × Instr × Nat)) := [[(0, .aload_n 0, 1), (1, .iload_n 1, 1), (2, .iload_n 2, 1), (3, .invokevirtual 365, 3), (6, .ifCond .eq 27, 3), (9, .aload_n 0, 1), (10, .iload_n 3, 1), (11, .i2l, 1), (12, .invokevirtual 348, 3), (15, .ifCond .eq 18, 3), (18, .iload_n 3, 1), (19, .iload_n 2, 1), (20, .if_icmp .lt 13, 3), (23, .aload_n 0, 1), (24, .iload_n 1, 1), (25, .iload_n 2, 1), (26, .iload_n 3, 1), (27, .invokevirtual 443, 3), (30, .goto 5, 3), (33, .bipush (-2), 2), (35, .ireturn, 1)]]
def px_t281 : List (List (Nat × Instr × Nat)) := [[(0, .iconst 0, 1), (1, .istore_n 3, 1), (2, .iconst 1, 1), (3, .istore 4, 2), (5, .iload 4, 2), (7, .bipush 16, 2), (9, .if_icmp .ge 23, 3), (12, .iload_n 3, 1), (13, .aload_n 0, 1), (14, .iload 4, 2), (16, .iload_n 1, 1), (17, .iload_n 2, 1), (18, .invokevirtual 443, 3), (21, .invokestatic 362, 3), (24, .iadd, 1), (25, .istore_n 3, 1), (26, .iinc 4 1, 3), (29, .goto (-24), 3), (32, .iload_n 3, 1), (33, .ireturn, 1)]]
def px_t282 : List (List (Nat × Instr × Nat)) := [[(0, .iload_n 3, 1), (1, .iload_n 1, 1), (2, .isub, 1), (3, .iconst 1, 1), (4, .isub, 1), (5, .iload_n 2, 1), (6, .idiv, 1), (7, .iconst 1, 1), (8, .iadd, 1), (9, .ireturn, 1)]]
def px_t283 : List (List (Nat × Instr × Nat)) := [[(0, .iload 4, 2), (2, .ifCond .ne 12, 3), (5, .bipush 8, 2), (7, .aload_n 0, 1), (8, .iload_n 1, 1), (9, .invokevirtual 446, 3), (12, .imul, 1), (13, .ireturn, 1), (14, .aload_n 0, 1), (15, .iload_n 1, 1), (16, .iload 4, 2), (18, .iconst 1, 1), (19, .isub, 1), (20, .iload_n 2, 1), (21, .imul, 1), (22, .iadd, 1), (23, .iload 4, 2), (25, .aload_n 0, 1), (26, .iload_n 1, 1), (27, .iload_n 2, 1), (28, .iload_n 3, 1), (29, .invokevirtual 449, 3), (32, .if_icmp .ne 7, 3), (35, .iload_n 3, 1), (36, .goto 9, 3), (39, .iload_n 1, 1), (40, .iload 4, 2), (42, .iload_n 2, 1), (43, .imul, 1), (44, .iadd, 1), (45, .invokevirtual 452, 3), (48, .ireturn, 1)]]
def px_t284 : List (List (Nat × Instr × Nat)) := [[(0, .iconst 0, 1), (1, .istore 4, 2), (3, .iconst 0, 1), (4, .istore 5, 2), (6, .iload 5, 2), (8, .aload_n 0, 1), (9, .iload_n 1, 1), (10, .iload_n 2, 1), (11, .iload_n 3, 1), (12, .invokevirtual 449, 3), (15, .if_icmp .gt 23, 3), (18, .iload 4, 2), (20, .aload_n 0, 1), (21, .iload_n 1, 1), (22, .iload_n 2, 1), (23, .iload_n 3, 1), (24, .iload 5, 2), (26, .invokevirtual 455, 3), (29, .iadd, 1), (30, .istore 4, 2), (32, .iinc 5 1, 3), (35, .goto (-29), 3), (38, .iload 4, 2), (40, .ireturn, 1)]]
def px_t285 : List (List (Nat × Instr × Nat)) := [[(0, .aload_n 0, 1), (1, .iload_n 1, 1), (2, .invokevirtual 352, 3), (5, .ifCond .eq 21, 3), (8, .aload_n 0, 1), (9, .iload_n 2, 1), (10, .i2l, 1), (11, .invokevirtual 348, 3), (14, .ifCond .eq 12, 3), (17, .iload_n 2, 1), (18, .iload_n 1, 1), (19, .if_icmp .le 7, 3), (22, .iconst 1, 1), (23, .goto 4, 3), (26, .iconst 0, 1), (27, .ireturn, 1)]]
def px_t286 : List (List (Nat × Instr × Nat)) := [[(0, .aload_n 0, 1), (1, .iload_n 1, 1), (2, .iload_n 3, 1), (3, .invokevirtual 458, 3), (6, .ifCond .eq 20, 3), (9, .iload_n 2, 1), (10, .i2l, 1), (11, .lconst 1, 1), (12, .ldc2_w 461, 3), (15, .invokestatic 128, 3), (18, .ifCond .eq 8, 3), (21, .iload 4, 2), (23, .ifCond .ge 6, 3), (26, .bipush (-2), 2), (28, .ireturn, 1), (29, .iload 4, 2), (31, .aload_n 0, 1), (32, .iload_n 1, 1), (33, .iload_n 2, 1), (34, .iload_n 3, 1), (35, .invokevirtual 449, 3), (38, .if_icmp .le 7, 3), (41, .iconst (-1), 1), (42, .goto 12, 3), (45, .aload_n 0, 1), (46, .iload_n 1, 1), (47, .iload_n 2, 1), (48, .iload_n 3, 1), (49, .iload 4, 2), (51, .invokevirtual 455, 3), (54, .ireturn, 1)]]
def px_t287 : List (List (Nat × Instr × Nat)) := [[(0, .aload_n 0, 1), (1, .iload_n 1, 1), (2, .iload_n 3, 1), (3, .invokevirtual 458, 3), (6, .ifCond .eq 25, 3), (9, .iload_n 2, 1), (10, .i2l, 1), (11, .lconst 1, 1), (12, .ldc2_w 461, 3), (15, .invokestatic 128, 3), (18, .ifCond .eq 13, 3), (21, .aload_n 0, 1), (22, .iload_n 1, 1), (23, .iload_n 2, 1), (24, .iload_n 3, 1), (25, .invokevirtual 463, 3), (28, .goto 5, 3), (31, .bipush (-2), 2), (33, .ireturn, 1)]]
def px_t288 : List (List (Nat × Instr × Nat)) := [[(0, .aload_n 0, 1), (1, .iload_n 1, 1), (2, .iload_n 2, 1), (3, .invokevirtual 458, 3), (6, .ifCond .ne 6, 3), (9, .bipush (-2), 2), (11, .ireturn, 1), (12, .iconst 1, 1), (13, .istore_n 3, 1), (14, .iconst 2, 1), (15, .istore 4, 2), (17, .iload 4, 2), (19, .bipush 40, 2), (21, .if_icmp .gt 73, 3), (24, .aload_n 0, 1), (25, .iload_n 1, 1), (26, .iload 4, 2), (28, .iload_n 2, 1), (29, .aload_n 0, 1), (30, .iload_n 1, 1), (31, .iload 4, 2), (33, .iload_n 2, 1), (34, .invokevirtual 449, 3), (37, .invokevirtual 455, 3), (40, .aload_n 0, 1), (41, .iload_n 1, 1), (42, .iload_n 3, 1), (43, .iload_n 2, 1), (44, .aload_n 0, 1), (45, .iload_n 1, 1), (46, .iload_n 3, 1), (47, .iload_n 2, 1), (48, .invokevirtual 449, 3), (51, .invokevirtual 455, 3), (54, .isub, 1), (55, .istore 5, 2), (57, .iload 5, 2), (59, .ifCond .lt 26, 3), (62, .iload 5, 2)],
  [(64, .ifCond .ne 24, 3), (67, .aload_n 0, 1), (68, .iload_n 1, 1), (69, .iload 4, 2), (71, .iload_n 2, 1), (72, .invokevirtual 463, 3), (75, .aload_n 0, 1), (76, .iload_n 1, 1), (77, .iload_n 3, 1), (78, .iload_n 2, 1), (79, .invokevirtual 463, 3), (82, .if_icmp .gt 6, 3), (85, .iload 4, 2), (87, .istore_n 3, 1), (88, .iinc 4 1, 3), (91, .goto (-74), 3), (94, .iload_n 3, 1), (95, .ireturn, 1)]]
def px_t289 : List (List (Nat × Instr × Nat)) := [[(0, .iload_n 1, 1), (1, .iconst (-1), 1), (2, .if_icmp .eq 10, 3), (5, .aload_n 0, 1), (6, .getfield 46, 3), (9, .iload_n 1, 1), (10, .iconst 1, 1), (11, .bastore, 1), (12, .aload_n 0, 1), (13, .invokevirtual 342, 3), (16, .iload_n 1, 1), (17, .iconst (-1), 1), (18, .if_icmp .eq 10, 3), (21, .aload_n 0, 1), (22, .getfield 46, 3), (25, .iload_n 1, 1), (26, .iconst 0, 1), (27, .bastore, 1), (28, .return_, 1)]]
def px_t290 : List (List (Nat × Instr × Nat)) := [[(0, .aload_n 0, 1), (1, .invokevirtual 345, 3), (4, .ifCond .ne 6, 3), (7, .bipush (-2), 2), (9, .ireturn, 1), (10, .aload_n 0, 1), (11, .aload_n 0, 1), (12, .getfield 276, 3), (15, .invokevirtual 446, 3), (18, .istore_n 1, 1), (19, .iconst (-1), 1), (20, .istore_n 2, 1), (21, .iconst 0, 1), (22, .istore_n 3, 1), (23, .iload_n 3, 1), (24, .aload_n 0, 1), (25, .getfield 9, 3), (28, .iconst 2, 1), (29, .iaload, 1), (30, .if_icmp .ge 40, 3), (33, .aload_n 0, 1), (34, .iload_n 3, 1), (35, .invokevirtual 466, 3), (38, .aload_n 0, 1), (39, .aload_n 0, 1), (40, .getfield 276, 3), (43, .invokevirtual 446, 3), (46, .iload_n 1, 1), (47, .if_icmp .gt 6, 3), (50, .goto 14, 3), (53, .aload_n 0, 1), (54, .aload_n 0, 1), (55, .getfield 276, 3), (58, .invokevirtual 446, 3), (61, .istore_n 1, 1), (62, .iload_n 3, 1), (63, .istore_n 2, 1)],
  [(64, .iinc 3 1, 3), (67, .goto (-44), 3), (70, .iload_n 2, 1), (71, .ireturn, 1)]]
def px_t291 : List (List (Nat × Instr × Nat)) := [[(0, .iconst 0, 1), (1, .istore_n 2, 1), (2, .iconst 0, 1), (3, .istore_n 3, 1), (4, .iload_n 3, 1), (5, .aload_n 0, 1), (6, .getfield 276, 3), (9, .if_icmp .ge 31, 3), (12, .iload_n 2, 1), (13, .iload_n 3, 1), (14, .iload_n 1, 1), (15, .if_icmp .eq 16, 3), (18, .aload_n 0, 1), (19, .getfield 64, 3), (22, .iload_n 3, 1), (23, .iaload, 1), (24, .ifCond .le 7, 3), (27, .iconst 1, 1), (28, .goto 4, 3), (31, .iconst 0, 1), (32, .iadd, 1), (33, .istore_n 2, 1), (34, .iinc 3 1, 3), (37, .goto (-33), 3), (40, .iload_n 2, 1), (41, .ireturn, 1)]]
def px_t292 : List (List (Nat × Instr × Nat)) := [[(0, .aload_n 0, 1), (1, .invokevirtual 345, 3), (4, .ifCond .ne 6, 3), (7, .bipush (-2), 2), (9, .ireturn, 1), (10, .iconst 0, 1), (11, .istore_n 1, 1), (12, .iconst (-1), 1), (13, .istore_n 2, 1), (14, .iconst 0, 1), (15, .istore_n 3, 1), (16, .iload_n 3, 1), (17, .aload_n 0, 1), (18, .getfield 9, 3), (21, .iconst 2, 1), (22, .iaload, 1), (23, .if_icmp .ge 50, 3), (26, .aload_n 0, 1), (27, .iconst (-1), 1), (28, .invokevirtual 466, 3), (31, .aload_n 0, 1), (32, .iload_n 3, 1), (33, .invokevirtual 469, 3), (36, .istore 4, 2), (38, .aload_n 0, 1), (39, .iload_n 3, 1), (40, .invokevirtual 466, 3), (43, .aload_n 0, 1), (44, .iload_n 3, 1), (45, .invokevirtual 469, 3), (48, .iload 4, 2), (50, .isub, 1), (51, .istore 5, 2), (53, .iload 5, 2), (55, .iload_n 1, 1), (56, .if_icmp .gt 6, 3), (59, .goto 8, 3), (62, .iload 5, 2)],
  [(64, .istore_n 1, 1), (65, .iload_n 3, 1), (66, .istore_n 2, 1), (67, .iinc 3 1, 3), (70, .goto (-54), 3), (73, .iload_n 2, 1), (74, .ireturn, 1)]]
def px_t293 : List (List (Nat × Instr × Nat)) := [[(0, .aload_n 0, 1), (1, .getfield 116, 3), (4, .bipush 60, 2), (6, .iload_n 1, 1), (7, .imul, 1), (8, .iload_n 2, 1), (9, .iadd, 1), (10, .laload, 1), (11, .lreturn, 1)]]
def px_t294 : List (List (Nat × Instr × Nat)) := [[(0, .iload_n 1, 1), (1, .invokestatic 472, 3), (4, .ifCond .eq 10, 3), (7, .aload_n 0, 1), (8, .invokevirtual 136, 3), (11, .ifCond .ne 6, 3), (14, .bipush (-2), 2), (16, .ireturn, 1), (17, .aload_n 0, 1), (18, .getfield 110, 3), (21, .iload_n 1, 1), (22, .iaload, 1), (23, .iconst (-1), 1), (24, .if_icmp .ne 6, 3), (27, .bipush (-6), 2), (29, .ireturn, 1), (30, .aload_n 0, 1), (31, .getfield 110, 3), (34, .iload_n 1, 1), (35, .iaload, 1), (36, .iconst 3, 1), (37, .irem, 1), (38, .ifCond .eq 6, 3), (41, .bipush (-2), 2), (43, .ireturn, 1), (44, .iconst 0, 1), (45, .istore_n 2, 1), (46, .iload_n 2, 1), (47, .aload_n 0, 1), (48, .getfield 110, 3), (51, .iload_n 1, 1), (52, .iaload, 1), (53, .if_icmp .ge 59, 3), (56, .aload_n 0, 1), (57, .aload_n 0, 1), (58, .iload_n 1, 1), (59, .iload_n 2, 1), (60, .invokevirtual 475, 3), (63, .invokevirtual 348, 3)],
  [(66, .ifCond .eq 37, 3), (69, .aload_n 0, 1), (70, .iload_n 1, 1), (71, .iload_n 2, 1), (72, .iconst 1, 1), (73, .iadd, 1), (74, .invokevirtual 475, 3), (77, .invokestatic 355, 3), (80, .ifCond .eq 23, 3), (83, .aload_n 0, 1), (84, .iload_n 1, 1), (85, .iload_n 2, 1), (86, .iconst 2, 1), (87, .iadd, 1), (88, .invokevirtual 475, 3), (91, .ldc2_w 479, 3), (94, .ldc2_w 140, 3), (97, .invokestatic 128, 3), (100, .ifCond .ne 6, 3), (103, .bipush (-2), 2), (105, .ireturn, 1), (106, .iinc 2 3, 3), (109, .goto (-63), 3), (112, .aload_n 0, 1), (113, .invokevirtual 339, 3), (116, .iconst 0, 1), (117, .ireturn, 1)]]
def px_t295 : List (List (Nat × Instr × Nat)) := [[(0, .iconst 0, 1), (1, .istore_n 2, 1), (2, .iload_n 2, 1), (3, .aload_n 0, 1), (4, .getfield 110, 3), (7, .iload_n 1, 1), (8, .iaload, 1), (9, .if_icmp .ge 44, 3), (12, .aload_n 0, 1), (13, .aload_n 0, 1), (14, .iload_n 1, 1), (15, .iload_n 2, 1), (16, .iconst 1, 1), (17, .iadd, 1), (18, .invokevirtual 475, 3), (21, .l2i, 1), (22, .aload_n 0, 1), (23, .iload_n 1, 1), (24, .iload_n 2, 1), (25, .invokevirtual 475, 3), (28, .l2i, 1), (29, .invokevirtual 368, 3), (32, .i2l, 1), (33, .aload_n 0, 1), (34, .iload_n 1, 1), (35, .iload_n 2, 1), (36, .iconst 2, 1), (37, .iadd, 1), (38, .invokevirtual 475, 3), (41, .lcmp, 1), (42, .ifCond .eq 5, 3), (45, .iconst 0, 1), (46, .ireturn, 1), (47, .iinc 2 3, 3), (50, .goto (-48), 3), (53, .iconst 1, 1), (54, .ireturn, 1)]]
def px_t296 : List (List (Nat × Instr × Nat)) := [[(0, .aload_n 0, 1), (1, .iload_n 1, 1), (2, .invokevirtual 481, 3), (5, .istore_n 2, 1), (6, .iload_n 2, 1), (7, .ifCond .ge 5, 3), (10, .iload_n 2, 1), (11, .ireturn, 1), (12, .aload_n 0, 1), (13, .iconst 0, 1), (14, .putfield 484, 3), (17, .aload_n 0, 1), (18, .iconst (-1), 1), (19, .putfield 487, 3), (22, .iconst 0, 1), (23, .istore_n 3, 1), (24, .iload_n 3, 1), (25, .aload_n 0, 1), (26, .getfield 9, 3), (29, .iconst 2, 1), (30, .iaload, 1), (31, .if_icmp .ge 47, 3), (34, .aload_n 0, 1), (35, .iload_n 3, 1), (36, .invokevirtual 466, 3), (39, .aload_n 0, 1), (40, .iload_n 1, 1), (41, .invokevirtual 490, 3), (44, .ifCond .ne 6, 3), (47, .goto 25, 3), (50, .aload_n 0, 1), (51, .getfield 484, 3), (54, .ifCond .ne 8, 3), (57, .aload_n 0, 1), (58, .iload_n 3, 1), (59, .putfield 487, 3), (62, .aload_n 0, 1), (63, .dup, 1)],
  [(64, .getfield 484, 3), (67, .iconst 1, 1), (68, .iadd, 1), (69, .putfield 484, 3), (72, .iinc 3 1, 3), (75, .goto (-51), 3), (78, .aload_n 0, 1), (79, .iconst (-1), 1), (80, .invokevirtual 466, 3), (83, .aload_n 0, 1), (84, .aload_n 0, 1), (85, .iload_n 1, 1), (86, .invokevirtual 490, 3), (89, .ifCond .eq 7, 3), (92, .iconst 1, 1), (93, .goto 4, 3), (96, .iconst 0, 1), (97, .putfield 493, 3), (100, .iconst 0, 1), (101, .ireturn, 1)]]
def px_t297 : List (List (Nat × Instr × Nat)) := [[(0, .aload_n 0, 1), (1, .iload_n 1, 1), (2, .invokevirtual 496, 3), (5, .istore_n 2, 1), (6, .iload_n 2, 1), (7, .ifCond .ge 7, 3), (10, .iload_n 2, 1), (11, .goto 7, 3), (14, .aload_n 0, 1), (15, .getfield 484, 3), (18, .ireturn, 1)]]
def px_t298 : List (List (Nat × Instr × Nat)) := [[(0, .aload_n 0, 1), (1, .iload_n 1, 1), (2, .invokevirtual 496, 3), (5, .istore_n 2, 1), (6, .iload_n 2, 1), (7, .ifCond .ge 7, 3), (10, .iload_n 2, 1), (11, .goto 7, 3), (14, .aload_n 0, 1), (15, .getfield 487, 3), (18, .ireturn, 1)]]
def px_t299 : List (List (Nat × Instr × Nat)) := [[(0, .aload_n 0, 1), (1, .iload_n 1, 1), (2, .invokevirtual 496, 3), (5, .istore_n 2, 1), (6, .iload_n 2, 1), (7, .ifCond .ge 7, 3), (10, .iload_n 2, 1), (11, .goto 7, 3), (14, .aload_n 0, 1), (15, .getfield 493, 3), (18, .ireturn, 1)]]
def px_t300 : List (List (Nat × Instr × Nat)) := [[(0, .aload_n 0, 1), (1, .iload_n 1, 1), (2, .invokevirtual 481, 3), (5, .istore_n 2, 1), (6, .iload_n 2, 1), (7, .ifCond .ge 5, 3), (10, .iload_n 2, 1), (11, .ireturn, 1), (12, .iconst 0, 1), (13, .istore_n 3, 1), (14, .aload_n 0, 1), (15, .iconst 0, 1), (16, .putfield 279, 3), (19, .aload_n 0, 1), (20, .getfield 279, 3), (23, .iconst 4, 1), (24, .if_icmp .ge 41, 3), (27, .aload_n 0, 1), (28, .invokevirtual 342, 3), (31, .iload_n 3, 1), (32, .aload_n 0, 1), (33, .iload_n 1, 1), (34, .invokevirtual 490, 3), (37, .ifCond .eq 12, 3), (40, .iconst 1, 1), (41, .aload_n 0, 1), (42, .getfield 279, 3), (45, .ishl, 1), (46, .goto 4, 3), (49, .iconst 0, 1), (50, .ior, 1), (51, .istore_n 3, 1), (52, .aload_n 0, 1), (53, .dup, 1), (54, .getfield 279, 3), (57, .iconst 1, 1), (58, .iadd, 1), (59, .putfield 279, 3), (62, .goto (-43), 3)],
  [(65, .iload_n 3, 1), (66, .ireturn, 1)]]
def px_t301 : List (List (Nat × Instr × Nat)) := [[(0, .aload_n 0, 1), (1, .iload_n 1, 1), (2, .putfield 279, 3), (5, .aload_n 0, 1), (6, .invokevirtual 342, 3), (9, .aload_n 0, 1), (10, .aload_n 0, 1), (11, .getfield 276, 3), (14, .invokevirtual 440, 3), (17, .invokestatic 362, 3), (20, .ireturn, 1)]]
def px_t302 : List (List (Nat × Instr × Nat)) := [[(0, .aload_n 0, 1), (1, .invokevirtual 345, 3), (4, .ifCond .eq 23, 3), (7, .iload_n 1, 1), (8, .i2l, 1), (9, .lconst 0, 1), (10, .ldc2_w 271, 3), (13, .invokestatic 128, 3), (16, .ifCond .eq 11, 3), (19, .aload_n 0, 1), (20, .iload_n 1, 1), (21, .invokevirtual 499, 3), (24, .goto 5, 3), (27, .bipush (-2), 2), (29, .ireturn, 1)]]
def px_t303 : List (List (Nat × Instr × Nat)) := [[(0, .aload_n 0, 1), (1, .invokevirtual 345, 3), (4, .ifCond .ne 6, 3), (7, .bipush (-2), 2), (9, .ireturn, 1), (10, .iconst 0, 1), (11, .istore_n 1, 1), (12, .iconst 1, 1), (13, .istore_n 2, 1), (14, .iload_n 2, 1), (15, .iconst 4, 1), (16, .if_icmp .ge 28, 3), (19, .aload_n 0, 1), (20, .iload_n 2, 1), (21, .invokevirtual 499, 3), (24, .aload_n 0, 1), (25, .iload_n 1, 1), (26, .invokevirtual 499, 3), (29, .if_icmp .ge 7, 3), (32, .iload_n 2, 1), (33, .goto 4, 3), (36, .iload_n 1, 1), (37, .istore_n 1, 1), (38, .iinc 2 1, 3), (41, .goto (-27), 3), (44, .iload_n 1, 1), (45, .ireturn, 1)]]
def px_t304 : List (List (Nat × Instr × Nat)) := [[(0, .iconst 0, 1), (1, .istore_n 2, 1), (2, .iload_n 2, 1), (3, .aload_n 0, 1), (4, .getfield 276, 3), (7, .if_icmp .ge 45, 3), (10, .aload_n 0, 1), (11, .getfield 46, 3), (14, .iload_n 2, 1), (15, .aload_n 0, 1), (16, .getfield 37, 3), (19, .iload_n 2, 1), (20, .iaload, 1), (21, .iconst 1, 1), (22, .if_icmp .eq 22, 3), (25, .iload_n 1, 1), (26, .aload_n 0, 1), (27, .getfield 37, 3), (30, .iload_n 2, 1), (31, .iaload, 1), (32, .iconst 1, 1), (33, .isub, 1), (34, .invokestatic 295, 3), (37, .ifCond .ne 7, 3), (40, .iconst 1, 1), (41, .goto 4, 3), (44, .iconst 0, 1), (45, .bastore, 1), (46, .iinc 2 1, 3), (49, .goto (-47), 3), (52, .aload_n 0, 1), (53, .invokevirtual 342, 3), (56, .aload_n 0, 1), (57, .aload_n 0, 1), (58, .getfield 276, 3), (61, .invokevirtual 446, 3)],
  [(64, .ireturn, 1)]]
def px_t305 : List (List (Nat × Instr × Nat)) := [[(0, .aload_n 0, 1), (1, .invokevirtual 339, 3), (4, .aload_n 0, 1), (5, .invokevirtual 136, 3), (8, .ifCond .eq 23, 3), (11, .iload_n 1, 1), (12, .i2l, 1), (13, .lconst 0, 1), (14, .ldc2_w 502, 3), (17, .invokestatic 128, 3), (20, .ifCond .eq 11, 3), (23, .aload_n 0, 1), (24, .iload_n 1, 1), (25, .invokevirtual 504, 3), (28, .goto 5, 3), (31, .bipush (-2), 2), (33, .ireturn, 1)]]
def px_t306 : List (List (Nat × Instr × Nat)) := [[(0, .iconst 1, 1), (1, .istore_n 1, 1), (2, .iconst 2, 1), (3, .istore_n 2, 1), (4, .iload_n 2, 1), (5, .iload_n 0, 1), (6, .if_icmp .gt 13, 3), (9, .iload_n 1, 1), (10, .iload_n 2, 1), (11, .imul, 1), (12, .istore_n 1, 1), (13, .iinc 2 1, 3), (16, .goto (-12), 3), (19, .iload_n 1, 1), (20, .ireturn, 1)]]
def px_t307 : List (List (Nat × Instr × Nat)) := [[(0, .lload_n 0, 1), (1, .invokestatic 507, 3), (4, .lstore 4, 2), (6, .lload_n 2, 1), (7, .lstore 6, 2), (9, .lload 6, 2), (11, .lconst 0, 1), (12, .lcmp, 1), (13, .ifCond .eq 21, 3), (16, .lload 4, 2), (18, .lload 6, 2), (20, .lrem, 1), (21, .lstore 8, 2), (23, .lload 6, 2), (25, .lstore 4, 2), (27, .lload 8, 2), (29, .lstore 6, 2), (31, .goto (-22), 3), (34, .lload 4, 2), (36, .lreturn, 1)]]
def px_t308 : List (List (Nat × Instr × Nat)) := [[(0, .iload 4, 2), (2, .ifCond .ne 7, 3), (5, .lload_n 0, 1), (6, .goto 4, 3), (9, .lload_n 2, 1), (10, .lload_n 0, 1), (11, .lload_n 2, 1), (12, .invokestatic 511, 3), (15, .ldiv, 1), (16, .lreturn, 1)]]
def px_t309 : List (List (Nat × Instr × Nat)) := [[(0, .aload_n 0, 1), (1, .invokevirtual 339, 3), (4, .aload_n 0, 1), (5, .invokevirtual 136, 3), (8, .ifCond .eq 27, 3), (11, .iload_n 1, 1), (12, .i2l, 1), (13, .ldc2_w 126, 3), (16, .ldc2_w 142, 3), (19, .invokestatic 128, 3), (22, .ifCond .eq 13, 3), (25, .iload_n 2, 1), (26, .i2l, 1), (27, .lconst 0, 1), (28, .lconst 1, 1), (29, .invokestatic 128, 3), (32, .ifCond .ne 7, 3), (35, .sipush (-1000), 3), (38, .ireturn, 1), (39, .iconst 0, 1), (40, .istore_n 3, 1), (41, .iload_n 3, 1), (42, .bipush 64, 2), (44, .if_icmp .ge 26, 3), (47, .aload_n 0, 1), (48, .getfield 107, 3), (51, .iload_n 3, 1), (52, .aload_n 0, 1), (53, .iload_n 3, 1), (54, .iconst 1, 1), (55, .ishl, 1), (56, .sipush 32640, 3), (59, .ior, 1), (60, .invokevirtual 504, 3), (63, .iastore, 1)],
  [(64, .iinc 3 1, 3), (67, .goto (-26), 3), (70, .lconst 0, 1), (71, .lstore_n 3, 1), (72, .iload_n 1, 1), (73, .iconst 2, 1), (74, .isub, 1), (75, .istore 5, 2), (77, .iconst 0, 1), (78, .istore 6, 2), (80, .iload 6, 2), (82, .bipush 64, 2), (84, .if_icmp .ge 65, 3), (87, .iload 6, 2), (89, .iload 5, 2), (91, .invokestatic 295, 3), (94, .ifCond .ne 49, 3), (97, .lload_n 3, 1), (98, .iload 6, 2), (100, .invokestatic 362, 3), (103, .invokestatic 515, 3), (106, .i2l, 1), (107, .iconst 5, 1), (108, .iload 6, 2), (110, .invokestatic 362, 3), (113, .isub, 1), (114, .invokestatic 515, 3), (117, .i2l, 1), (118, .lmul, 1), (119, .aload_n 0, 1), (120, .getfield 107, 3), (123, .iload 6, 2), (125, .iconst 1, 1), (126, .iload 5, 2)],
  [(128, .ishl, 1), (129, .ior, 1), (130, .iaload, 1), (131, .aload_n 0, 1), (132, .getfield 107, 3), (135, .iload 6, 2), (137, .iaload, 1), (138, .isub, 1), (139, .i2l, 1), (140, .lmul, 1), (141, .ladd, 1), (142, .lstore_n 3, 1), (143, .iinc 6 1, 3), (146, .goto (-66), 3), (149, .lload_n 3, 1), (150, .bipush 6, 2), (152, .invokestatic 515, 3), (155, .i2l, 1), (156, .iload_n 2, 1), (157, .invokestatic 518, 3), (160, .l2i, 1), (161, .ireturn, 1)]]
def px_t310 : List (List (Nat × Instr × Nat)) := [[(0, .aload_n 0, 1), (1, .invokevirtual 339, 3), (4, .iload_n 3, 1), (5, .iconst 1, 1), (6, .if_icmp .ne 11, 3), (9, .aload_n 0, 1), (10, .iconst 2, 1), (11, .iload_n 1, 1), (12, .iconst 0, 1), (13, .iconst 0, 1), (14, .invokevirtual 282, 3), (17, .aload_n 0, 1), (18, .getfield 276, 3), (21, .istore 6, 2), (23, .iload 4, 2), (25, .iconst 1, 1), (26, .if_icmp .ne 11, 3), (29, .aload_n 0, 1), (30, .iconst 2, 1), (31, .iload_n 2, 1), (32, .iconst 0, 1), (33, .iconst 0, 1), (34, .invokevirtual 282, 3), (37, .aload_n 0, 1), (38, .invokevirtual 342, 3), (41, .iload 5, 2), (43, .ifCond .ne 7, 3), (46, .iload_n 3, 1), (47, .goto 5, 3), (50, .iload 4, 2), (52, .iconst 1, 1), (53, .if_icmp .ne 7, 3), (56, .iconst 1, 1), (57, .goto 4, 3), (60, .iconst 0, 1), (61, .istore 7, 2), (63, .iload 5, 2)],
  [(65, .ifCond .ne 10, 3), (68, .aload_n 0, 1), (69, .invokevirtual 132, 3), (72, .goto 5, 3), (75, .iload 6, 2), (77, .istore 8, 2), (79, .iload 7, 2), (81, .ifCond .eq 19, 3), (84, .aload_n 0, 1), (85, .getfield 64, 3), (88, .iload 8, 2), (90, .iaload, 1), (91, .ifCond .ne 7, 3), (94, .iconst 2, 1), (95, .goto 4, 3), (98, .iconst 0, 1), (99, .ireturn, 1), (100, .iconst 3, 1), (101, .aload_n 0, 1), (102, .iload 5, 2), (104, .ifCond .ne 7, 3), (107, .iload_n 1, 1), (108, .goto 4, 3), (111, .iload_n 2, 1), (112, .aload_n 0, 1), (113, .getfield 276, 3), (116, .invokevirtual 374, 3), (119, .imul, 1), (120, .ireturn, 1)]]
def px_t311 : List (List (Nat × Instr × Nat)) := [[(0, .aload_n 0, 1), (1, .invokevirtual 136, 3), (4, .ifCond .eq 40, 3), (7, .iload_n 1, 1), (8, .i2l, 1), (9, .ldc2_w 126, 3), (12, .ldc2_w 140, 3), (15, .invokestatic 128, 3), (18, .ifCond .eq 26, 3), (21, .iload_n 2, 1), (22, .i2l, 1), (23, .ldc2_w 126, 3), (26, .ldc2_w 140, 3), (29, .invokestatic 128, 3), (32, .ifCond .eq 12, 3), (35, .iload_n 1, 1), (36, .iload_n 2, 1), (37, .if_icmp .eq 7, 3), (40, .iconst 1, 1), (41, .goto 4, 3), (44, .iconst 0, 1), (45, .ireturn, 1)]]
def px_t312 : List (List (Nat × Instr × Nat)) := [[(0, .aload_n 0, 1), (1, .iload_n 1, 1), (2, .iload_n 2, 1), (3, .invokevirtual 522, 3), (6, .ifCond .ne 6, 3), (9, .bipush (-2), 2), (11, .ireturn, 1), (12, .iconst 0, 1), (13, .istore_n 3, 1), (14, .iconst 0, 1), (15, .istore 4, 2), (17, .iload 4, 2), (19, .iconst 4, 1), (20, .if_icmp .ge 98, 3), (23, .iload 4, 2), (25, .iconst 1, 1), (26, .iand, 1), (27, .istore 5, 2), (29, .iload 4, 2), (31, .iconst 1, 1), (32, .ishr, 1), (33, .istore 6, 2), (35, .aload_n 0, 1), (36, .iload_n 1, 1), (37, .iload_n 2, 1), (38, .iload 5, 2), (40, .iload 6, 2), (42, .iconst 0, 1), (43, .invokevirtual 525, 3), (46, .aload_n 0, 1), (47, .iload_n 1, 1), (48, .iload_n 2, 1), (49, .iconst 1, 1), (50, .iload 5, 2), (52, .isub, 1), (53, .iload 6, 2), (55, .iconst 0, 1), (56, .invokevirtual 525, 3), (59, .if_icmp .lt 34, 3), (62, .aload_n 0, 1), (63, .iload_n 1, 1)],
  [(64, .iload_n 2, 1), (65, .iload 5, 2), (67, .iload 6, 2), (69, .iconst 1, 1), (70, .invokevirtual 525, 3), (73, .aload_n 0, 1), (74, .iload_n 1, 1), (75, .iload_n 2, 1), (76, .iload 5, 2), (78, .iconst 1, 1), (79, .iload 6, 2), (81, .isub, 1), (82, .iconst 1, 1), (83, .invokevirtual 525, 3), (86, .if_icmp .lt 7, 3), (89, .iconst 1, 1), (90, .goto 4, 3), (93, .iconst 0, 1), (94, .istore 7, 2), (96, .iload_n 3, 1), (97, .iload 7, 2), (99, .ifCond .eq 10, 3), (102, .iconst 1, 1), (103, .iload 4, 2), (105, .ishl, 1), (106, .goto 4, 3), (109, .iconst 0, 1), (110, .ior, 1), (111, .istore_n 3, 1), (112, .iinc 4 1, 3), (115, .goto (-98), 3), (118, .iload_n 3, 1), (119, .ireturn, 1)]]
def px_t313 : List (List (Nat × Instr × Nat)) := [[(0, .aload_n 0, 1), (1, .iload_n 1, 1), (2, .iload_n 2, 1), (3, .invokevirtual 522, 3), (6, .ifCond .eq 37, 3), (9, .iload_n 3, 1), (10, .i2l, 1), (11, .lconst 0, 1), (12, .lconst 1, 1), (13, .invokestatic 128, 3), (16, .ifCond .eq 27, 3), (19, .iload 4, 2), (21, .i2l, 1), (22, .lconst 0, 1), (23, .lconst 1, 1), (24, .invokestatic 128, 3), (27, .ifCond .eq 16, 3), (30, .aload_n 0, 1), (31, .iload_n 1, 1), (32, .iload_n 2, 1), (33, .iload_n 3, 1), (34, .iload 4, 2), (36, .iconst 0, 1), (37, .invokevirtual 525, 3), (40, .goto 5, 3), (43, .bipush (-2), 2), (45, .ireturn, 1)]]
def px_t314 : List (List (Nat × Instr × Nat)) := [[(0, .aload_n 0, 1), (1, .lconst 0, 1), (2, .putfield 529, 3), (5, .aload_n 0, 1), (6, .lconst 0, 1), (7, .putfield 533, 3), (10, .aload_n 0, 1), (11, .lconst 0, 1), (12, .putfield 536, 3), (15, .aload_n 0, 1), (16, .invokevirtual 339, 3), (19, .iconst 0, 1), (20, .istore_n 3, 1), (21, .iload_n 3, 1), (22, .iconst 1, 1), (23, .iload_n 2, 1), (24, .ishl, 1), (25, .if_icmp .ge 164, 3), (28, .lconst 1, 1), (29, .lstore 4, 2), (31, .iconst 0, 1), (32, .istore 6, 2), (34, .iload 6, 2), (36, .iload_n 2, 1), (37, .if_icmp .ge 73, 3), (40, .lload 4, 2), (42, .iload_n 3, 1), (43, .iload 6, 2), (45, .invokestatic 295, 3), (48, .iconst 1, 1), (49, .if_icmp .ne 13, 3), (52, .aload_n 0, 1), (53, .getfield 9, 3), (56, .iconst 1, 1), (57, .iaload, 1), (58, .i2l, 1), (59, .goto 13, 3), (62, .bipush 10, 2)],
  [(64, .aload_n 0, 1), (65, .getfield 9, 3), (68, .iconst 1, 1), (69, .iaload, 1), (70, .isub, 1), (71, .i2l, 1), (72, .lmul, 1), (73, .lstore 4, 2), (75, .aload_n 0, 1), (76, .getfield 46, 3), (79, .aload_n 0, 1), (80, .getfield 276, 3), (83, .iload_n 2, 1), (84, .isub, 1), (85, .iload 6, 2), (87, .iadd, 1), (88, .iload_n 3, 1), (89, .iload 6, 2), (91, .invokestatic 295, 3), (94, .iconst 1, 1), (95, .if_icmp .ne 7, 3), (98, .iconst 1, 1), (99, .goto 4, 3), (102, .iconst 0, 1), (103, .bastore, 1), (104, .iinc 6 1, 3), (107, .goto (-73), 3), (110, .lload 4, 2), (112, .lconst 0, 1), (113, .lcmp, 1), (114, .ifCond .ne 6, 3), (117, .goto 66, 3), (120, .aload_n 0, 1), (121, .invokevirtual 342, 3), (124, .aload_n 0, 1), (125, .dup, 1), (126, .getfield 529, 3)],
  [(129, .lload 4, 2), (131, .ladd, 1), (132, .putfield 529, 3), (135, .aload_n 0, 1), (136, .dup, 1), (137, .getfield 533, 3), (140, .aload_n 0, 1), (141, .iload_n 1, 1), (142, .aload_n 0, 1), (143, .getfield 276, 3), (146, .invokevirtual 358, 3), (149, .ifCond .eq 8, 3), (152, .lload 4, 2), (154, .goto 4, 3), (157, .lconst 0, 1), (158, .ladd, 1), (159, .putfield 533, 3), (162, .aload_n 0, 1), (163, .dup, 1), (164, .getfield 536, 3), (167, .lload 4, 2), (169, .aload_n 0, 1), (170, .aload_n 0, 1), (171, .getfield 276, 3), (174, .invokevirtual 446, 3), (177, .i2l, 1), (178, .lmul, 1), (179, .ladd, 1), (180, .putfield 536, 3), (183, .iinc 3 1, 3), (186, .goto (-165), 3), (189, .return_, 1)]]
def px_t315 : List (List (Nat × Instr × Nat)) := [[(0, .aload_n 0, 1), (1, .invokevirtual 136, 3), (4, .ifCond .eq 37, 3), (7, .iload_n 1, 1), (8, .i2l, 1), (9, .lconst 0, 1), (10, .ldc2_w 539, 3), (13, .invokestatic 128, 3), (16, .ifCond .eq 25, 3), (19, .iload_n 1, 1), (20, .aload_n 0, 1), (21, .invokevirtual 132, 3), (24, .if_icmp .gt 17, 3), (27, .iload_n 2, 1), (28, .i2l, 1), (29, .lconst 0, 1), (30, .lconst 1, 1), (31, .invokestatic 128, 3), (34, .ifCond .eq 7, 3), (37, .iconst 1, 1), (38, .goto 4, 3), (41, .iconst 0, 1), (42, .ireturn, 1)]]
def px_t316 : List (List (Nat × Instr × Nat)) := [[(0, .aload_n 0, 1), (1, .iload_n 2, 1), (2, .iload_n 3, 1), (3, .invokevirtual 541, 3), (6, .ifCond .eq 11, 3), (9, .iload_n 1, 1), (10, .i2l, 1), (11, .invokestatic 355, 3), (14, .ifCond .ne 7, 3), (17, .ldc2_w 544, 3), (20, .lreturn, 1), (21, .aload_n 0, 1), (22, .iload_n 1, 1), (23, .iload_n 2, 1), (24, .invokevirtual 546, 3), (27, .aload_n 0, 1), (28, .getfield 533, 3), (31, .aload_n 0, 1), (32, .getfield 529, 3), (35, .iload_n 3, 1), (36, .invokestatic 518, 3), (39, .lreturn, 1)]]
def px_t317 : List (List (Nat × Instr × Nat)) := [[(0, .aload_n 0, 1), (1, .iload_n 1, 1), (2, .iload_n 2, 1), (3, .invokevirtual 541, 3), (6, .ifCond .ne 7, 3), (9, .ldc2_w 544, 3), (12, .lreturn, 1), (13, .aload_n 0, 1), (14, .iconst 1, 1), (15, .iload_n 1, 1), (16, .invokevirtual 546, 3), (19, .aload_n 0, 1), (20, .getfield 536, 3), (23, .aload_n 0, 1), (24, .getfield 529, 3), (27, .iload_n 2, 1), (28, .invokestatic 518, 3), (31, .lreturn, 1)]]
def px_t318 : List (List (Nat × Instr × Nat)) := [[(0, .iload_n 0, 1), (1, .iload_n 1, 1), (2, .invokestatic 252, 3), (5, .istore_n 3, 1), (6, .iload_n 3, 1), (7, .iconst (-1), 1), (8, .if_icmp .ne 15, 3), (11, .iload_n 2, 1), (12, .ifCond .ne 7, 3), (15, .iconst 1, 1), (16, .goto 20, 3), (19, .iconst 0, 1), (20, .goto 16, 3), (23, .iload_n 2, 1), (24, .i2l, 1), (25, .iload_n 0, 1), (26, .iload_n 1, 1), (27, .invokestatic 255, 3), (30, .i2l, 1), (31, .iload_n 3, 1), (32, .i2l, 1), (33, .invokestatic 128, 3), (36, .ireturn, 1)]]
def px_t319 : List (List (Nat × Instr × Nat)) := [[(0, .aload_n 0, 1), (1, .invokevirtual 136, 3), (4, .ifCond .eq 42, 3), (7, .iload_n 1, 1), (8, .i2l, 1), (9, .lconst 0, 1), (10, .ldc2_w 549, 3), (13, .invokestatic 128, 3), (16, .ifCond .eq 30, 3), (19, .iload_n 2, 1), (20, .i2l, 1), (21, .invokestatic 355, 3), (24, .ifCond .eq 22, 3), (27, .iload_n 1, 1), (28, .iconst 1, 1), (29, .iload_n 3, 1), (30, .invokestatic 551, 3), (33, .ifCond .eq 13, 3), (36, .iload_n 1, 1), (37, .iconst 2, 1), (38, .iload 4, 2), (40, .invokestatic 551, 3), (43, .ifCond .ne 6, 3), (46, .bipush (-2), 2), (48, .ireturn, 1), (49, .aload_n 0, 1), (50, .getfield 9, 3), (53, .iconst 3, 1), (54, .iaload, 1), (55, .bipush 30, 2), (57, .if_icmp .ne 6, 3), (60, .bipush (-5), 2), (62, .ireturn, 1), (63, .iconst 5, 1)],
  [(64, .iconst 4, 1), (65, .aload_n 0, 1), (66, .invokevirtual 132, 3), (69, .imul, 1), (70, .iadd, 1), (71, .istore 5, 2), (73, .aload_n 0, 1), (74, .getfield 9, 3), (77, .iload 5, 2), (79, .iload_n 1, 1), (80, .iastore, 1), (81, .aload_n 0, 1), (82, .getfield 9, 3), (85, .iload 5, 2), (87, .iconst 1, 1), (88, .iadd, 1), (89, .iload_n 2, 1), (90, .iastore, 1), (91, .aload_n 0, 1), (92, .getfield 9, 3), (95, .iload 5, 2), (97, .iconst 2, 1), (98, .iadd, 1), (99, .iload_n 3, 1), (100, .iastore, 1), (101, .aload_n 0, 1), (102, .getfield 9, 3), (105, .iload 5, 2), (107, .iconst 3, 1), (108, .iadd, 1), (109, .iload 4, 2), (111, .iastore, 1), (112, .aload_n 0, 1), (113, .getfield 9, 3), (116, .iconst 3, 1), (117, .dup2, 1), (118, .iaload, 1), (119, .iconst 1, 1), (120, .iadd, 1), (121, .iastore, 1), (122, .aload_n 0, 1), (123, .invokevirtual 345, 3), (126, .pop, 1), (127, .aload_n 0, 1)],
  [(128, .getfield 64, 3), (131, .aload_n 0, 1), (132, .getfield 276, 3), (135, .iconst 1, 1), (136, .isub, 1), (137, .iaload, 1), (138, .ireturn, 1)]]
def px_t320 : List (List (Nat × Instr × Nat)) := [[(0, .aload_n 0, 1), (1, .invokevirtual 136, 3), (4, .ifCond .ne 6, 3), (7, .bipush (-2), 2), (9, .ireturn, 1), (10, .aload_n 0, 1), (11, .getfield 9, 3), (14, .iconst 3, 1), (15, .iaload, 1), (16, .ifCond .ne 6, 3), (19, .bipush (-5), 2), (21, .ireturn, 1), (22, .aload_n 0, 1), (23, .getfield 9, 3), (26, .iconst 3, 1), (27, .dup2, 1), (28, .iaload, 1), (29, .iconst 1, 1), (30, .isub, 1), (31, .iastore, 1), (32, .aload_n 0, 1), (33, .getfield 9, 3), (36, .iconst 3, 1), (37, .iaload, 1), (38, .ireturn, 1)]]
def px_t321 : List (List (Nat × Instr × Nat)) := [[(0, .aload_n 0, 1), (1, .invokevirtual 136, 3), (4, .ifCond .ne 6, 3), (7, .bipush (-2), 2), (9, .ireturn, 1), (10, .aload_n 0, 1), (11, .getfield 9, 3), (14, .iconst 3, 1), (15, .iaload, 1), (16, .istore_n 1, 1), (17, .aload_n 0, 1), (18, .getfield 9, 3), (21, .iconst 3, 1), (22, .iconst 0, 1), (23, .iastore, 1), (24, .iload_n 1, 1), (25, .ireturn, 1)]]
def px_t322 : List (List (Nat × Instr × Nat)) := [[(0, .aload_n 0, 1), (1, .invokevirtual 339, 3), (4, .lload_n 1, 1), (5, .lstore_n 3, 1), (6, .iconst 0, 1), (7, .istore 5, 2), (9, .iconst 0, 1), (10, .istore 6, 2), (12, .iload 6, 2), (14, .aload_n 0, 1), (15, .getfield 276, 3), (18, .if_icmp .ge 75, 3), (21, .ldc2_w 555, 3), (24, .lload_n 3, 1), (25, .lmul, 1), (26, .ldc2_w 557, 3), (29, .ladd, 1), (30, .ldc2_w 559, 3), (33, .lrem, 1), (34, .lstore_n 3, 1), (35, .aload_n 0, 1), (36, .getfield 46, 3), (39, .iload 6, 2), (41, .lload_n 3, 1), (42, .ldc2_w 561, 3), (45, .ldiv, 1), (46, .ldc2_w 563, 3), (49, .lrem, 1), (50, .aload_n 0, 1), (51, .getfield 9, 3), (54, .iconst 1, 1), (55, .iaload, 1), (56, .i2l, 1), (57, .lcmp, 1), (58, .ifCond .ge 7, 3), (61, .iconst 1, 1), (62, .goto 4, 3)],
  [(65, .iconst 0, 1), (66, .bastore, 1), (67, .iload 5, 2), (69, .aload_n 0, 1), (70, .getfield 46, 3), (73, .iload 6, 2), (75, .baload, 1), (76, .ifCond .eq 7, 3), (79, .iconst 1, 1), (80, .goto 4, 3), (83, .iconst 0, 1), (84, .iadd, 1), (85, .istore 5, 2), (87, .iinc 6 1, 3), (90, .goto (-78), 3), (93, .aload_n 0, 1), (94, .invokevirtual 342, 3), (97, .iload 5, 2), (99, .ireturn, 1)]]
def px_t323 : List (List (Nat × Instr × Nat)) := [[(0, .iload_n 0, 1), (1, .i2l, 1), (2, .lconst 0, 1), (3, .ldc2_w 565, 3), (6, .invokestatic 128, 3), (9, .ireturn, 1)]]
def px_t324 : List (List (Nat × Instr × Nat)) := [[(0, .aload_n 0, 1), (1, .invokevirtual 136, 3), (4, .ifCond .eq 20, 3), (7, .iload_n 1, 1), (8, .invokestatic 567, 3), (11, .ifCond .eq 13, 3), (14, .iload_n 2, 1), (15, .i2l, 1), (16, .lconst 0, 1), (17, .lconst 1, 1), (18, .invokestatic 128, 3), (21, .ifCond .ne 6, 3), (24, .bipush (-2), 2), (26, .ireturn, 1), (27, .aload_n 0, 1), (28, .iload_n 1, 1), (29, .i2l, 1), (30, .invokevirtual 570, 3), (33, .istore_n 3, 1), (34, .iload_n 2, 1), (35, .ifCond .ne 7, 3), (38, .iload_n 3, 1), (39, .goto 11, 3), (42, .aload_n 0, 1), (43, .aload_n 0, 1), (44, .getfield 276, 3), (47, .invokevirtual 446, 3), (50, .ireturn, 1)]]
def px_t325 : List (List (Nat × Instr × Nat)) := [[(0, .aload_n 0, 1), (1, .invokevirtual 136, 3), (4, .ifCond .eq 30, 3), (7, .iload_n 1, 1), (8, .invokestatic 567, 3), (11, .ifCond .eq 23, 3), (14, .iload_n 2, 1), (15, .i2l, 1), (16, .lconst 1, 1), (17, .ldc2_w 574, 3), (20, .invokestatic 128, 3), (23, .ifCond .eq 11, 3), (26, .iload_n 3, 1), (27, .i2l, 1), (28, .invokestatic 355, 3), (31, .ifCond .ne 6, 3), (34, .bipush (-2), 2), (36, .ireturn, 1), (37, .iconst 0, 1), (38, .istore 4, 2), (40, .iconst 0, 1), (41, .istore 5, 2), (43, .iload 5, 2), (45, .iload_n 2, 1), (46, .if_icmp .ge 42, 3), (49, .aload_n 0, 1), (50, .iload_n 1, 1), (51, .i2l, 1), (52, .iload 5, 2), (54, .i2l, 1), (55, .ladd, 1), (56, .invokevirtual 570, 3), (59, .pop, 1), (60, .iload 4, 2), (62, .aload_n 0, 1), (63, .iload_n 3, 1)],
  [(64, .aload_n 0, 1), (65, .getfield 276, 3), (68, .invokevirtual 358, 3), (71, .ifCond .eq 7, 3), (74, .iconst 1, 1), (75, .goto 4, 3), (78, .iconst 0, 1), (79, .iadd, 1), (80, .istore 4, 2), (82, .iinc 5 1, 3), (85, .goto (-42), 3), (88, .iload 4, 2), (90, .ireturn, 1)]]
def px_t326 : List (List (Nat × Instr × Nat)) := [[(0, .iload_n 1, 1), (1, .i2l, 1), (2, .lconst 0, 1), (3, .ldc2_w 576, 3), (6, .invokestatic 128, 3), (9, .ifCond .eq 10, 3), (12, .aload_n 0, 1), (13, .getfield 9, 3), (16, .iload_n 1, 1), (17, .iaload, 1), (18, .ireturn, 1), (19, .iload_n 1, 1), (20, .iconst 5, 1), (21, .if_icmp .ne 8, 3), (24, .aload_n 0, 1), (25, .getfield 146, 3), (28, .ireturn, 1), (29, .iload_n 1, 1), (30, .bipush 6, 2), (32, .if_icmp .eq 5, 3), (35, .iconst (-1), 1), (36, .ireturn, 1), (37, .iconst 0, 1), (38, .istore_n 2, 1), (39, .iconst 0, 1), (40, .istore_n 3, 1), (41, .iload_n 3, 1), (42, .iconst 4, 1), (43, .if_icmp .ge 27, 3), (46, .iload_n 2, 1), (47, .aload_n 0, 1), (48, .getfield 110, 3), (51, .iload_n 3, 1), (52, .iaload, 1), (53, .iconst (-1), 1), (54, .if_icmp .ne 7, 3), (57, .iconst 0, 1), (58, .goto 4, 3), (61, .iconst 1, 1), (62, .iadd, 1), (63, .istore_n 2, 1)],
  [(64, .iinc 3 1, 3), (67, .goto (-26), 3), (70, .iload_n 2, 1), (71, .ireturn, 1)]]
def px_t327 : List (List (Nat × Instr × Nat)) := [[(0, .iload_n 0, 1), (1, .i2l, 1), (2, .lconst 0, 1), (3, .ldc2_w 271, 3), (6, .invokestatic 128, 3), (9, .ireturn, 1)]]
def px_t328 : List (List (Nat × Instr × Nat)) := [[(0, .bipush 64, 2), (2, .bipush 8, 2), (4, .iload_n 2, 1), (5, .ishl, 1), (6, .isub, 1), (7, .istore_n 3, 1), (8, .lload_n 0, 1), (9, .iload_n 3, 1), (10, .lshl, 1), (11, .iload_n 3, 1), (12, .lshr, 1), (13, .lreturn, 1)]]
def px_t329 : List (List (Nat × Instr × Nat)) := [[(0, .iload_n 1, 1), (1, .invokestatic 472, 3), (4, .ifCond .eq 21, 3), (7, .iload_n 2, 1), (8, .i2l, 1), (9, .lconst 0, 1), (10, .ldc2_w 271, 3), (13, .invokestatic 128, 3), (16, .ifCond .eq 9, 3), (19, .iload_n 3, 1), (20, .bipush 60, 2), (22, .if_icmp .le 6, 3), (25, .bipush (-2), 2), (27, .ireturn, 1), (28, .iload_n 3, 1), (29, .ifCond .ge 6, 3), (32, .bipush (-3), 2), (34, .ireturn, 1), (35, .aload_n 0, 1), (36, .getfield 110, 3), (39, .iload_n 1, 1), (40, .iload_n 3, 1), (41, .iastore, 1), (42, .aload_n 0, 1), (43, .getfield 113, 3), (46, .iload_n 1, 1), (47, .iload_n 2, 1), (48, .iastore, 1), (49, .iconst 0, 1), (50, .istore 4, 2), (52, .iload 4, 2), (54, .bipush 60, 2), (56, .if_icmp .ge 22, 3), (59, .aload_n 0, 1), (60, .getfield 116, 3), (63, .bipush 60, 2)],
  [(65, .iload_n 1, 1), (66, .imul, 1), (67, .iload 4, 2), (69, .iadd, 1), (70, .lconst 0, 1), (71, .lastore, 1), (72, .iinc 4 1, 3), (75, .goto (-23), 3), (78, .iconst 0, 1), (79, .ireturn, 1)]]
def px_t330 : List (List (Nat × Instr × Nat)) := [[(0, .iload_n 1, 1), (1, .invokestatic 472, 3), (4, .ifCond .ne 6, 3), (7, .bipush (-2), 2), (9, .ireturn, 1), (10, .aload_n 0, 1), (11, .getfield 110, 3), (14, .iload_n 1, 1), (15, .iaload, 1), (16, .iconst (-1), 1), (17, .if_icmp .ne 6, 3), (20, .bipush (-6), 2), (22, .ireturn, 1), (23, .iload_n 2, 1), (24, .i2l, 1), (25, .lconst 0, 1), (26, .aload_n 0, 1), (27, .getfield 110, 3), (30, .iload_n 1, 1), (31, .iaload, 1), (32, .iconst 1, 1), (33, .isub, 1), (34, .i2l, 1), (35, .invokestatic 128, 3), (38, .ifCond .ne 6, 3), (41, .bipush (-7), 2), (43, .ireturn, 1), (44, .aload_n 0, 1), (45, .getfield 116, 3), (48, .bipush 60, 2), (50, .iload_n 1, 1), (51, .imul, 1), (52, .iload_n 2, 1), (53, .iadd, 1), (54, .lload_n 3, 1), (55, .aload_n 0, 1), (56, .getfield 113, 3), (59, .iload_n 1, 1), (60, .iaload, 1), (61, .invokestatic 578, 3)],
  [(64, .lastore, 1), (65, .iconst 0, 1), (66, .ireturn, 1)]]
def px_t331 : List (List (Nat × Instr × Nat)) := [[(0, .iload_n 1, 1), (1, .invokestatic 472, 3), (4, .ifCond .eq 10, 3), (7, .iload_n 3, 1), (8, .invokestatic 472, 3), (11, .ifCond .ne 6, 3), (14, .bipush (-2), 2), (16, .ireturn, 1), (17, .aload_n 0, 1), (18, .getfield 110, 3), (21, .iload_n 1, 1), (22, .iaload, 1), (23, .iconst (-1), 1), (24, .if_icmp .eq 13, 3), (27, .aload_n 0, 1), (28, .getfield 110, 3), (31, .iload_n 3, 1), (32, .iaload, 1), (33, .iconst (-1), 1), (34, .if_icmp .ne 6, 3), (37, .bipush (-6), 2), (39, .ireturn, 1), (40, .aload_n 0, 1), (41, .getfield 113, 3), (44, .iload_n 1, 1), (45, .iaload, 1), (46, .aload_n 0, 1), (47, .getfield 113, 3), (50, .iload_n 3, 1), (51, .iaload, 1), (52, .if_icmp .eq 6, 3), (55, .bipush (-8), 2), (57, .ireturn, 1), (58, .iload_n 2, 1), (59, .ifCond .lt 48, 3), (62, .iload 4, 2)],
  [(64, .ifCond .lt 43, 3), (67, .iload 5, 2), (69, .ifCond .lt 38, 3), (72, .iload_n 2, 1), (73, .i2l, 1), (74, .iload 5, 2), (76, .i2l, 1), (77, .ladd, 1), (78, .aload_n 0, 1), (79, .getfield 110, 3), (82, .iload_n 1, 1), (83, .iaload, 1), (84, .i2l, 1), (85, .lcmp, 1), (86, .ifCond .gt 21, 3), (89, .iload 4, 2), (91, .i2l, 1), (92, .iload 5, 2), (94, .i2l, 1), (95, .ladd, 1), (96, .aload_n 0, 1), (97, .getfield 110, 3), (100, .iload_n 3, 1), (101, .iaload, 1), (102, .i2l, 1), (103, .lcmp, 1), (104, .ifCond .le 6, 3), (107, .bipush (-7), 2), (109, .ireturn, 1), (110, .iconst 0, 1), (111, .istore 6, 2), (113, .iload 6, 2), (115, .iload 5, 2), (117, .if_icmp .ge 30, 3), (120, .aload_n 0, 1), (121, .getfield 120, 3), (124, .iload 6, 2), (126, .aload_n 0, 1), (127, .getfield 116, 3)],
  [(130, .bipush 60, 2), (132, .iload_n 1, 1), (133, .imul, 1), (134, .iload_n 2, 1), (135, .iadd, 1), (136, .iload 6, 2), (138, .iadd, 1), (139, .laload, 1), (140, .lastore, 1), (141, .iinc 6 1, 3), (144, .goto (-31), 3), (147, .iconst 0, 1), (148, .istore 6, 2), (150, .iload 6, 2), (152, .iload 5, 2), (154, .if_icmp .ge 31, 3), (157, .aload_n 0, 1), (158, .getfield 116, 3), (161, .bipush 60, 2), (163, .iload_n 3, 1), (164, .imul, 1), (165, .iload 4, 2), (167, .iadd, 1), (168, .iload 6, 2), (170, .iadd, 1), (171, .aload_n 0, 1), (172, .getfield 120, 3), (175, .iload 6, 2), (177, .laload, 1), (178, .lastore, 1), (179, .iinc 6 1, 3), (182, .goto (-32), 3), (185, .iconst 0, 1), (186, .ireturn, 1)]]
def px_t332 : List (List (Nat × Instr × Nat)) := [[(0, .iload_n 0, 1), (1, .iload_n 0, 1), (2, .iconst 1, 1), (3, .iushr, 1), (4, .ldc_w 265, 3), (7, .iand, 1), (8, .isub, 1), (9, .istore_n 0, 1), (10, .iload_n 0, 1), (11, .ldc_w 266, 3), (14, .iand, 1), (15, .iload_n 0, 1), (16, .iconst 2, 1), (17, .iushr, 1), (18, .ldc_w 266, 3), (21, .iand, 1), (22, .iadd, 1), (23, .istore_n 0, 1), (24, .iload_n 0, 1), (25, .iload_n 0, 1), (26, .iconst 4, 1), (27, .iushr, 1), (28, .iadd, 1), (29, .ldc_w 267, 3), (32, .iand, 1), (33, .istore_n 0, 1), (34, .iload_n 0, 1), (35, .iload_n 0, 1), (36, .bipush 8, 2), (38, .iushr, 1), (39, .iadd, 1), (40, .istore_n 0, 1), (41, .iload_n 0, 1), (42, .iload_n 0, 1), (43, .bipush 16, 2), (45, .iushr, 1), (46, .iadd, 1), (47, .istore_n 0, 1), (48, .iload_n 0, 1), (49, .bipush 63, 2), (51, .iand, 1), (52, .ireturn, 1)]]
def px_t333 : List (List (Nat × Instr × Nat)) := [[(0, .aload_n 0, 1), (1, .getfield 9, 3), (4, .arraylength, 1), (5, .aload_n 0, 1), (6, .invokevirtual 335, 3), (9, .ishr, 1), (10, .ireturn, 1)]]
def px_t334 : List (List (Nat × Instr × Nat)) := [[(0, .aload_n 0, 1), (1, .invokevirtual 492, 3), (4, .ifCond .eq 12, 3), (7, .aload_n 0, 1), (8, .getfield 9, 3), (11, .iload_n 1, 1), (12, .invokestatic 495, 3), (15, .ireturn, 1), (16, .aload_n 0, 1), (17, .getfield 9, 3), (20, .iload_n 1, 1), (21, .invokestatic 498, 3), (24, .ireturn, 1)]]
def px_t335 : List (List (Nat × Instr × Nat)) := [[(0, .getstatic 38, 3), (3, .ifCond .eq 10, 3), (6, .aload_n 0, 1), (7, .getfield 15, 3), (10, .goto 4, 3), (13, .iconst 1, 1), (14, .ireturn, 1)]]
def px_t336 : List (List (Nat × Instr × Nat)) := [[(0, .getstatic 38, 3), (3, .ifCond .eq 14, 3), (6, .aload_n 0, 1), (7, .getfield 15, 3), (10, .ifCond .ne 7, 3), (13, .iconst 1, 1), (14, .goto 4, 3), (17, .iconst 0, 1), (18, .ireturn, 1)]]
def px_t337 : List (List (Nat × Instr × Nat)) := [[(0, .iload_n 0, 1), (1, .iload_n 1, 1), (2, .getstatic 1053, 3), (5, .invokestatic 1059, 3), (8, .pop, 1), (9, .return_, 1)]]
def px_t338 : List (List (Nat × Instr × Nat)) := [[(0, .iload_n 1, 1), (1, .aload_n 0, 1), (2, .arraylength, 1), (3, .invokestatic 9, 3), (6, .aload_n 0, 1), (7, .iload_n 1, 1), (8, .baload, 1), (9, .sipush 255, 3), (12, .iand, 1), (13, .i2c, 1), (14, .ireturn, 1)]]
def px_t339 : List (List (Nat × Instr × Nat)) := [[(0, .iconst 0, 1), (1, .istore_n 3, 1), (2, .aload_n 0, 1), (3, .arraylength, 1), (4, .istore 4, 2), (6, .iload_n 3, 1), (7, .iload 4, 2), (9, .if_icmp .ge 13, 3), (12, .aload_n 0, 1), (13, .iload_n 3, 1), (14, .lload_n 1, 1), (15, .lastore, 1), (16, .iinc 3 1, 3), (19, .goto (-13), 3), (22, .return_, 1)]]
def px_t340 : List (List (Nat × Instr × Nat)) := [[(0, .iconst 0, 1), (1, .istore_n 2, 1), (2, .aload_n 0, 1), (3, .arraylength, 1), (4, .istore_n 3, 1), (5, .iload_n 2, 1), (6, .iload_n 3, 1), (7, .if_icmp .ge 13, 3), (10, .aload_n 0, 1), (11, .iload_n 2, 1), (12, .iload_n 1, 1), (13, .iastore, 1), (14, .iinc 2 1, 3), (17, .goto (-12), 3), (20, .return_, 1)]]
def px_t341 : List (List (Nat × Instr × Nat)) := [[(0, .iload_n 0, 1), (1, .ifCond .lt 8, 3), (4, .iload_n 0, 1), (5, .iload_n 1, 1), (6, .if_icmp .lt 10, 3), (9, .aload_n 2, 1), (10, .iload_n 0, 1), (11, .iload_n 1, 1), (12, .invokestatic 95, 3), (15, .athrow, 1), (16, .iload_n 0, 1), (17, .ireturn, 1)]]
set_option maxRecDepth 100000 in
def px_t342 : List (List (Nat × Instr × Nat)) := [[(0, .new 7, 3), (3, .dup, 1), (4, .invokespecial 9, 3), (7, .astore_n 1, 1), (8, .new 10, 3), (11, .dup, 1), (12, .invokespecial 12, 3), (15, .astore_n 2, 1), (16, .iconst 0, 1), (17, .istore_n 3, 1), (18, .iload_n 3, 1), (19, .aload_n 0, 1), (20, .arraylength, 1), (21, .bipush 6, 2), (23, .isub, 1), (24, .if_icmp .gt 2267, 3), (27, .aload_n 0, 1), (28, .iload_n 3, 1), (29, .iaload, 1), (30, .bipush 127, 2), (32, .iand, 1), (33, .tableswitch 2252 0 64 #[275, 338, 361, 374, 397, 430, 453, 476, 499, 532, 565, 598, 631, 664, 697, 720, 743, 766, 809, 842, 875, 908, 931, 964, 987, 1030, 1073, 1106, 1129, 1142, 1155, 1188, 1211, 1234, 1267, 1290, 1303, 1346, 1399, 1442, 1475, 1488, 1501, 1524, 1547, 1570, 1593, 1616, 1629, 1652, 1685, 1718, 1771, 1815, 1849, 1902, 1915, 1928, 1961, 2004, 2027, 2050, 2073, 2116, 2189], 275)],
  [],
  [],
  [],
  [(308, .aload_n 1, 1), (309, .aload_n 0, 1), (310, .iload_n 3, 1), (311, .iconst 1, 1), (312, .iadd, 1), (313, .iaload, 1), (314, .aload_n 0, 1), (315, .iload_n 3, 1), (316, .iconst 2, 1), (317, .iadd, 1), (318, .iaload, 1), (319, .aload_n 0, 1)],
  [(320, .iload_n 3, 1), (321, .iconst 3, 1), (322, .iadd, 1), (323, .iaload, 1), (324, .aload_n 0, 1), (325, .iload_n 3, 1), (326, .iconst 4, 1), (327, .iadd, 1), (328, .iaload, 1), (329, .aload_n 0, 1), (330, .iload_n 3, 1), (331, .iconst 5, 1), (332, .iadd, 1), (333, .iaload, 1), (334, .invokevirtual 13, 3), (337, .aload_n 2, 1), (338, .aload_n 0, 1), (339, .iload_n 3, 1), (340, .iconst 1, 1), (341, .iadd, 1), (342, .iaload, 1), (343, .aload_n 0, 1), (344, .iload_n 3, 1), (345, .iconst 2, 1), (346, .iadd, 1), (347, .iaload, 1), (348, .aload_n 0, 1), (349, .iload_n 3, 1), (350, .iconst 3, 1), (351, .iadd, 1), (352, .iaload, 1), (353, .aload_n 0, 1), (354, .iload_n 3, 1), (355, .iconst 4, 1), (356, .iadd, 1), (357, .iaload, 1), (358, .aload_n 0, 1), (359, .iload_n 3, 1), (360, .iconst 5, 1), (361, .iadd, 1), (362, .iaload, 1), (363, .invokevirtual 17, 3), (366, .if_icmp .eq 1919, 3), (369, .iconst 0, 1), (370, .ireturn, 1), (371, .aload_n 1, 1), (372, .aload_n 0, 1), (373, .iload_n 3, 1), (374, .iconst 1, 1), (375, .iadd, 1), (376, .iaload, 1), (377, .invokevirtual 18, 3), (380, .aload_n 2, 1), (381, .aload_n 0, 1), (382, .iload_n 3, 1), (383, .iconst 1, 1)],
  [(384, .iadd, 1), (385, .iaload, 1), (386, .invokevirtual 22, 3), (389, .if_icmp .eq 1896, 3), (392, .iconst 0, 1), (393, .ireturn, 1), (394, .aload_n 1, 1), (395, .invokevirtual 23, 3), (398, .aload_n 2, 1), (399, .invokevirtual 27, 3), (402, .if_icmp .eq 1883, 3), (405, .iconst 0, 1), (406, .ireturn, 1), (407, .aload_n 1, 1), (408, .aload_n 0, 1), (409, .iload_n 3, 1), (410, .iconst 1, 1), (411, .iadd, 1), (412, .iaload, 1), (413, .invokevirtual 28, 3), (416, .aload_n 2, 1), (417, .aload_n 0, 1), (418, .iload_n 3, 1), (419, .iconst 1, 1), (420, .iadd, 1), (421, .iaload, 1), (422, .invokevirtual 31, 3), (425, .if_icmp .eq 1860, 3), (428, .iconst 0, 1), (429, .ireturn, 1), (430, .aload_n 1, 1), (431, .aload_n 0, 1), (432, .iload_n 3, 1), (433, .iconst 1, 1), (434, .iadd, 1), (435, .iaload, 1), (436, .aload_n 0, 1), (437, .iload_n 3, 1), (438, .iconst 2, 1), (439, .iadd, 1), (440, .iaload, 1), (441, .invokevirtual 32, 3), (444, .aload_n 2, 1), (445, .aload_n 0, 1), (446, .iload_n 3, 1), (447, .iconst 1, 1)],
  [(448, .iadd, 1), (449, .iaload, 1), (450, .aload_n 0, 1), (451, .iload_n 3, 1), (452, .iconst 2, 1), (453, .iadd, 1), (454, .iaload, 1), (455, .invokevirtual 36, 3), (458, .if_icmp .eq 1827, 3), (461, .iconst 0, 1), (462, .ireturn, 1), (463, .aload_n 1, 1), (464, .aload_n 0, 1), (465, .iload_n 3, 1), (466, .iconst 1, 1), (467, .iadd, 1), (468, .iaload, 1), (469, .invokevirtual 37, 3), (472, .aload_n 2, 1), (473, .aload_n 0, 1), (474, .iload_n 3, 1), (475, .iconst 1, 1), (476, .iadd, 1), (477, .iaload, 1), (478, .invokevirtual 40, 3), (481, .if_icmp .eq 1804, 3), (484, .iconst 0, 1), (485, .ireturn, 1), (486, .aload_n 1, 1), (487, .aload_n 0, 1), (488, .iload_n 3, 1), (489, .iconst 1, 1), (490, .iadd, 1), (491, .iaload, 1), (492, .invokevirtual 41, 3), (495, .aload_n 2, 1), (496, .aload_n 0, 1), (497, .iload_n 3, 1), (498, .iconst 1, 1), (499, .iadd, 1), (500, .iaload, 1), (501, .invokevirtual 44, 3), (504, .if_icmp .eq 1781, 3), (507, .iconst 0, 1), (508, .ireturn, 1), (509, .aload_n 1, 1), (510, .aload_n 0, 1), (511, .iload_n 3, 1)],
  [(512, .iconst 1, 1), (513, .iadd, 1), (514, .iaload, 1), (515, .invokevirtual 45, 3), (518, .aload_n 2, 1), (519, .aload_n 0, 1), (520, .iload_n 3, 1), (521, .iconst 1, 1), (522, .iadd, 1), (523, .iaload, 1), (524, .invokevirtual 48, 3), (527, .if_icmp .eq 1758, 3), (530, .iconst 0, 1), (531, .ireturn, 1), (532, .aload_n 1, 1), (533, .aload_n 0, 1), (534, .iload_n 3, 1), (535, .iconst 1, 1), (536, .iadd, 1), (537, .iaload, 1), (538, .aload_n 0, 1), (539, .iload_n 3, 1), (540, .iconst 2, 1), (541, .iadd, 1), (542, .iaload, 1), (543, .invokevirtual 49, 3), (546, .aload_n 2, 1), (547, .aload_n 0, 1), (548, .iload_n 3, 1), (549, .iconst 1, 1), (550, .iadd, 1), (551, .iaload, 1), (552, .aload_n 0, 1), (553, .iload_n 3, 1), (554, .iconst 2, 1), (555, .iadd, 1), (556, .iaload, 1), (557, .invokevirtual 52, 3), (560, .if_icmp .eq 1725, 3), (563, .iconst 0, 1), (564, .ireturn, 1), (565, .aload_n 1, 1), (566, .aload_n 0, 1), (567, .iload_n 3, 1), (568, .iconst 1, 1), (569, .iadd, 1), (570, .iaload, 1), (571, .aload_n 0, 1), (572, .iload_n 3, 1), (573, .iconst 2, 1), (574, .iadd, 1), (575, .iaload, 1)],
  [(576, .invokevirtual 53, 3), (579, .aload_n 2, 1), (580, .aload_n 0, 1), (581, .iload_n 3, 1), (582, .iconst 1, 1), (583, .iadd, 1), (584, .iaload, 1), (585, .aload_n 0, 1), (586, .iload_n 3, 1), (587, .iconst 2, 1), (588, .iadd, 1), (589, .iaload, 1), (590, .invokevirtual 56, 3), (593, .if_icmp .eq 1692, 3), (596, .iconst 0, 1), (597, .ireturn, 1), (598, .aload_n 1, 1), (599, .aload_n 0, 1), (600, .iload_n 3, 1), (601, .iconst 1, 1), (602, .iadd, 1), (603, .iaload, 1), (604, .aload_n 0, 1), (605, .iload_n 3, 1), (606, .iconst 2, 1), (607, .iadd, 1), (608, .iaload, 1), (609, .invokevirtual 57, 3), (612, .aload_n 2, 1), (613, .aload_n 0, 1), (614, .iload_n 3, 1), (615, .iconst 1, 1), (616, .iadd, 1), (617, .iaload, 1), (618, .aload_n 0, 1), (619, .iload_n 3, 1), (620, .iconst 2, 1), (621, .iadd, 1), (622, .iaload, 1), (623, .invokevirtual 60, 3), (626, .if_icmp .eq 1659, 3), (629, .iconst 0, 1), (630, .ireturn, 1), (631, .aload_n 1, 1), (632, .aload_n 0, 1), (633, .iload_n 3, 1), (634, .iconst 1, 1), (635, .iadd, 1), (636, .iaload, 1), (637, .aload_n 0, 1), (638, .iload_n 3, 1), (639, .iconst 2, 1)],
  [(640, .iadd, 1), (641, .iaload, 1), (642, .invokevirtual 61, 3), (645, .aload_n 2, 1), (646, .aload_n 0, 1), (647, .iload_n 3, 1), (648, .iconst 1, 1), (649, .iadd, 1), (650, .iaload, 1), (651, .aload_n 0, 1), (652, .iload_n 3, 1), (653, .iconst 2, 1), (654, .iadd, 1), (655, .iaload, 1), (656, .invokevirtual 64, 3), (659, .if_icmp .eq 1626, 3), (662, .iconst 0, 1), (663, .ireturn, 1), (664, .aload_n 1, 1), (665, .aload_n 0, 1), (666, .iload_n 3, 1), (667, .iconst 1, 1), (668, .iadd, 1), (669, .iaload, 1), (670, .aload_n 0, 1), (671, .iload_n 3, 1), (672, .iconst 2, 1), (673, .iadd, 1), (674, .iaload, 1), (675, .invokevirtual 65, 3), (678, .aload_n 2, 1), (679, .aload_n 0, 1), (680, .iload_n 3, 1), (681, .iconst 1, 1), (682, .iadd, 1), (683, .iaload, 1), (684, .aload_n 0, 1), (685, .iload_n 3, 1), (686, .iconst 2, 1), (687, .iadd, 1), (688, .iaload, 1), (689, .invokevirtual 68, 3), (692, .if_icmp .eq 1593, 3), (695, .iconst 0, 1), (696, .ireturn, 1), (697, .aload_n 1, 1), (698, .aload_n 0, 1), (699, .iload_n 3, 1), (700, .iconst 1, 1), (701, .iadd, 1), (702, .iaload, 1), (703, .aload_n 0, 1)],
  [(704, .iload_n 3, 1), (705, .iconst 2, 1), (706, .iadd, 1), (707, .iaload, 1), (708, .invokevirtual 69, 3), (711, .aload_n 2, 1), (712, .aload_n 0, 1), (713, .iload_n 3, 1), (714, .iconst 1, 1), (715, .iadd, 1), (716, .iaload, 1), (717, .aload_n 0, 1), (718, .iload_n 3, 1), (719, .iconst 2, 1), (720, .iadd, 1), (721, .iaload, 1), (722, .invokevirtual 72, 3), (725, .if_icmp .eq 1560, 3), (728, .iconst 0, 1), (729, .ireturn, 1), (730, .aload_n 1, 1), (731, .aload_n 0, 1), (732, .iload_n 3, 1), (733, .iconst 1, 1), (734, .iadd, 1), (735, .iaload, 1), (736, .invokevirtual 73, 3), (739, .aload_n 2, 1), (740, .aload_n 0, 1), (741, .iload_n 3, 1), (742, .iconst 1, 1), (743, .iadd, 1), (744, .iaload, 1), (745, .invokevirtual 76, 3), (748, .if_icmp .eq 1537, 3), (751, .iconst 0, 1), (752, .ireturn, 1), (753, .aload_n 1, 1), (754, .aload_n 0, 1), (755, .iload_n 3, 1), (756, .iconst 1, 1), (757, .iadd, 1), (758, .iaload, 1), (759, .invokevirtual 77, 3), (762, .aload_n 2, 1), (763, .aload_n 0, 1), (764, .iload_n 3, 1), (765, .iconst 1, 1), (766, .iadd, 1), (767, .iaload, 1)],
  [(768, .invokevirtual 80, 3), (771, .if_icmp .eq 1514, 3), (774, .iconst 0, 1), (775, .ireturn, 1), (776, .aload_n 1, 1), (777, .aload_n 0, 1), (778, .iload_n 3, 1), (779, .iconst 1, 1), (780, .iadd, 1), (781, .iaload, 1), (782, .invokevirtual 81, 3), (785, .aload_n 2, 1), (786, .aload_n 0, 1), (787, .iload_n 3, 1), (788, .iconst 1, 1), (789, .iadd, 1), (790, .iaload, 1), (791, .invokevirtual 84, 3), (794, .if_icmp .eq 1491, 3), (797, .iconst 0, 1), (798, .ireturn, 1), (799, .aload_n 1, 1), (800, .aload_n 0, 1), (801, .iload_n 3, 1), (802, .iconst 1, 1), (803, .iadd, 1), (804, .iaload, 1), (805, .aload_n 0, 1), (806, .iload_n 3, 1), (807, .iconst 2, 1), (808, .iadd, 1), (809, .iaload, 1), (810, .aload_n 0, 1), (811, .iload_n 3, 1), (812, .iconst 3, 1), (813, .iadd, 1), (814, .iaload, 1), (815, .invokevirtual 85, 3), (818, .aload_n 2, 1), (819, .aload_n 0, 1), (820, .iload_n 3, 1), (821, .iconst 1, 1), (822, .iadd, 1), (823, .iaload, 1), (824, .aload_n 0, 1), (825, .iload_n 3, 1), (826, .iconst 2, 1), (827, .iadd, 1), (828, .iaload, 1), (829, .aload_n 0, 1), (830, .iload_n 3, 1), (831, .iconst 3, 1)],
  [(832, .iadd, 1), (833, .iaload, 1), (834, .invokevirtual 89, 3), (837, .if_icmp .eq 1448, 3), (840, .iconst 0, 1), (841, .ireturn, 1), (842, .aload_n 1, 1), (843, .aload_n 0, 1), (844, .iload_n 3, 1), (845, .iconst 1, 1), (846, .iadd, 1), (847, .iaload, 1), (848, .aload_n 0, 1), (849, .iload_n 3, 1), (850, .iconst 2, 1), (851, .iadd, 1), (852, .iaload, 1), (853, .invokevirtual 90, 3), (856, .aload_n 2, 1), (857, .aload_n 0, 1), (858, .iload_n 3, 1), (859, .iconst 1, 1), (860, .iadd, 1), (861, .iaload, 1), (862, .aload_n 0, 1), (863, .iload_n 3, 1), (864, .iconst 2, 1), (865, .iadd, 1), (866, .iaload, 1), (867, .invokevirtual 93, 3), (870, .if_icmp .eq 1415, 3), (873, .iconst 0, 1), (874, .ireturn, 1), (875, .aload_n 1, 1), (876, .aload_n 0, 1), (877, .iload_n 3, 1), (878, .iconst 1, 1), (879, .iadd, 1), (880, .iaload, 1), (881, .aload_n 0, 1), (882, .iload_n 3, 1), (883, .iconst 2, 1), (884, .iadd, 1), (885, .iaload, 1), (886, .invokevirtual 94, 3), (889, .aload_n 2, 1), (890, .aload_n 0, 1), (891, .iload_n 3, 1), (892, .iconst 1, 1), (893, .iadd, 1), (894, .iaload, 1), (895, .aload_n 0, 1)],
  [(896, .iload_n 3, 1), (897, .iconst 2, 1), (898, .iadd, 1), (899, .iaload, 1), (900, .invokevirtual 97, 3), (903, .if_icmp .eq 1382, 3), (906, .iconst 0, 1), (907, .ireturn, 1), (908, .aload_n 1, 1), (909, .aload_n 0, 1), (910, .iload_n 3, 1), (911, .iconst 1, 1), (912, .iadd, 1), (913, .iaload, 1), (914, .aload_n 0, 1), (915, .iload_n 3, 1), (916, .iconst 2, 1), (917, .iadd, 1), (918, .iaload, 1), (919, .invokevirtual 98, 3), (922, .aload_n 2, 1), (923, .aload_n 0, 1), (924, .iload_n 3, 1), (925, .iconst 1, 1), (926, .iadd, 1), (927, .iaload, 1), (928, .aload_n 0, 1), (929, .iload_n 3, 1), (930, .iconst 2, 1), (931, .iadd, 1), (932, .iaload, 1), (933, .invokevirtual 101, 3), (936, .if_icmp .eq 1349, 3), (939, .iconst 0, 1), (940, .ireturn, 1), (941, .aload_n 1, 1), (942, .aload_n 0, 1), (943, .iload_n 3, 1), (944, .iconst 1, 1), (945, .iadd, 1), (946, .iaload, 1), (947, .invokevirtual 102, 3), (950, .aload_n 2, 1), (951, .aload_n 0, 1), (952, .iload_n 3, 1), (953, .iconst 1, 1), (954, .iadd, 1), (955, .iaload, 1), (956, .invokevirtual 105, 3), (959, .if_icmp .eq 1326, 3)],
  [(962, .iconst 0, 1), (963, .ireturn, 1), (964, .aload_n 1, 1), (965, .aload_n 0, 1), (966, .iload_n 3, 1), (967, .iconst 1, 1), (968, .iadd, 1), (969, .iaload, 1), (970, .aload_n 0, 1), (971, .iload_n 3, 1), (972, .iconst 2, 1), (973, .iadd, 1), (974, .iaload, 1), (975, .invokevirtual 106, 3), (978, .aload_n 2, 1), (979, .aload_n 0, 1), (980, .iload_n 3, 1), (981, .iconst 1, 1), (982, .iadd, 1), (983, .iaload, 1), (984, .aload_n 0, 1), (985, .iload_n 3, 1), (986, .iconst 2, 1), (987, .iadd, 1), (988, .iaload, 1), (989, .invokevirtual 109, 3), (992, .if_icmp .eq 1293, 3), (995, .iconst 0, 1), (996, .ireturn, 1), (997, .aload_n 1, 1), (998, .aload_n 0, 1), (999, .iload_n 3, 1), (1000, .iconst 1, 1), (1001, .iadd, 1), (1002, .iaload, 1), (1003, .invokevirtual 110, 3), (1006, .aload_n 2, 1), (1007, .aload_n 0, 1), (1008, .iload_n 3, 1), (1009, .iconst 1, 1), (1010, .iadd, 1), (1011, .iaload, 1), (1012, .invokevirtual 113, 3), (1015, .if_icmp .eq 1270, 3), (1018, .iconst 0, 1), (1019, .ireturn, 1), (1020, .aload_n 1, 1), (1021, .aload_n 0, 1), (1022, .iload_n 3, 1), (1023, .iconst 1, 1)],
  [(1024, .iadd, 1), (1025, .iaload, 1), (1026, .aload_n 0, 1), (1027, .iload_n 3, 1), (1028, .iconst 2, 1), (1029, .iadd, 1), (1030, .iaload, 1), (1031, .aload_n 0, 1), (1032, .iload_n 3, 1), (1033, .iconst 3, 1), (1034, .iadd, 1), (1035, .iaload, 1), (1036, .invokevirtual 114, 3), (1039, .aload_n 2, 1), (1040, .aload_n 0, 1), (1041, .iload_n 3, 1), (1042, .iconst 1, 1), (1043, .iadd, 1), (1044, .iaload, 1), (1045, .aload_n 0, 1), (1046, .iload_n 3, 1), (1047, .iconst 2, 1), (1048, .iadd, 1), (1049, .iaload, 1), (1050, .aload_n 0, 1), (1051, .iload_n 3, 1), (1052, .iconst 3, 1), (1053, .iadd, 1), (1054, .iaload, 1), (1055, .invokevirtual 117, 3), (1058, .if_icmp .eq 1227, 3), (1061, .iconst 0, 1), (1062, .ireturn, 1), (1063, .aload_n 1, 1), (1064, .aload_n 0, 1), (1065, .iload_n 3, 1), (1066, .iconst 1, 1), (1067, .iadd, 1), (1068, .iaload, 1), (1069, .aload_n 0, 1), (1070, .iload_n 3, 1), (1071, .iconst 2, 1), (1072, .iadd, 1), (1073, .iaload, 1), (1074, .aload_n 0, 1), (1075, .iload_n 3, 1), (1076, .iconst 3, 1), (1077, .iadd, 1), (1078, .iaload, 1), (1079, .invokevirtual 118, 3), (1082, .aload_n 2, 1), (1083, .aload_n 0, 1), (1084, .iload_n 3, 1), (1085, .iconst 1, 1), (1086, .iadd, 1), (1087, .iaload, 1)],
  [(1088, .aload_n 0, 1), (1089, .iload_n 3, 1), (1090, .iconst 2, 1), (1091, .iadd, 1), (1092, .iaload, 1), (1093, .aload_n 0, 1), (1094, .iload_n 3, 1), (1095, .iconst 3, 1), (1096, .iadd, 1), (1097, .iaload, 1), (1098, .invokevirtual 121, 3), (1101, .if_icmp .eq 1184, 3), (1104, .iconst 0, 1), (1105, .ireturn, 1), (1106, .aload_n 1, 1), (1107, .aload_n 0, 1), (1108, .iload_n 3, 1), (1109, .iconst 1, 1), (1110, .iadd, 1), (1111, .iaload, 1), (1112, .aload_n 0, 1), (1113, .iload_n 3, 1), (1114, .iconst 2, 1), (1115, .iadd, 1), (1116, .iaload, 1), (1117, .invokevirtual 122, 3), (1120, .aload_n 2, 1), (1121, .aload_n 0, 1), (1122, .iload_n 3, 1), (1123, .iconst 1, 1), (1124, .iadd, 1), (1125, .iaload, 1), (1126, .aload_n 0, 1), (1127, .iload_n 3, 1), (1128, .iconst 2, 1), (1129, .iadd, 1), (1130, .iaload, 1), (1131, .invokevirtual 125, 3), (1134, .if_icmp .eq 1151, 3), (1137, .iconst 0, 1), (1138, .ireturn, 1), (1139, .aload_n 1, 1), (1140, .aload_n 0, 1), (1141, .iload_n 3, 1), (1142, .iconst 1, 1), (1143, .iadd, 1), (1144, .iaload, 1), (1145, .invokevirtual 126, 3), (1148, .aload_n 2, 1), (1149, .aload_n 0, 1), (1150, .iload_n 3, 1), (1151, .iconst 1, 1)],
  [(1152, .iadd, 1), (1153, .iaload, 1), (1154, .invokevirtual 129, 3), (1157, .if_icmp .eq 1128, 3), (1160, .iconst 0, 1), (1161, .ireturn, 1), (1162, .aload_n 1, 1), (1163, .invokevirtual 130, 3), (1166, .aload_n 2, 1), (1167, .invokevirtual 133, 3), (1170, .if_icmp .eq 1115, 3), (1173, .iconst 0, 1), (1174, .ireturn, 1), (1175, .aload_n 1, 1), (1176, .invokevirtual 134, 3), (1179, .aload_n 2, 1), (1180, .invokevirtual 137, 3), (1183, .if_icmp .eq 1102, 3), (1186, .iconst 0, 1), (1187, .ireturn, 1), (1188, .aload_n 1, 1), (1189, .aload_n 0, 1), (1190, .iload_n 3, 1), (1191, .iconst 1, 1), (1192, .iadd, 1), (1193, .iaload, 1), (1194, .aload_n 0, 1), (1195, .iload_n 3, 1), (1196, .iconst 2, 1), (1197, .iadd, 1), (1198, .iaload, 1), (1199, .invokevirtual 138, 3), (1202, .aload_n 2, 1), (1203, .aload_n 0, 1), (1204, .iload_n 3, 1), (1205, .iconst 1, 1), (1206, .iadd, 1), (1207, .iaload, 1), (1208, .aload_n 0, 1), (1209, .iload_n 3, 1), (1210, .iconst 2, 1), (1211, .iadd, 1), (1212, .iaload, 1), (1213, .invokevirtual 141, 3)],
  [(1216, .if_icmp .eq 1069, 3), (1219, .iconst 0, 1), (1220, .ireturn, 1), (1221, .aload_n 1, 1), (1222, .aload_n 0, 1), (1223, .iload_n 3, 1), (1224, .iconst 1, 1), (1225, .iadd, 1), (1226, .iaload, 1), (1227, .invokevirtual 142, 3), (1230, .aload_n 2, 1), (1231, .aload_n 0, 1), (1232, .iload_n 3, 1), (1233, .iconst 1, 1), (1234, .iadd, 1), (1235, .iaload, 1), (1236, .invokevirtual 145, 3), (1239, .if_icmp .eq 1046, 3), (1242, .iconst 0, 1), (1243, .ireturn, 1), (1244, .aload_n 1, 1), (1245, .aload_n 0, 1), (1246, .iload_n 3, 1), (1247, .iconst 1, 1), (1248, .iadd, 1), (1249, .iaload, 1), (1250, .invokevirtual 146, 3), (1253, .aload_n 2, 1), (1254, .aload_n 0, 1), (1255, .iload_n 3, 1), (1256, .iconst 1, 1), (1257, .iadd, 1), (1258, .iaload, 1), (1259, .invokevirtual 149, 3), (1262, .if_icmp .eq 1023, 3), (1265, .iconst 0, 1), (1266, .ireturn, 1), (1267, .aload_n 1, 1), (1268, .aload_n 0, 1), (1269, .iload_n 3, 1), (1270, .iconst 1, 1), (1271, .iadd, 1), (1272, .iaload, 1), (1273, .aload_n 0, 1), (1274, .iload_n 3, 1), (1275, .iconst 2, 1), (1276, .iadd, 1), (1277, .iaload, 1), (1278, .invokevirtual 150, 3)],
  [(1281, .aload_n 2, 1), (1282, .aload_n 0, 1), (1283, .iload_n 3, 1), (1284, .iconst 1, 1), (1285, .iadd, 1), (1286, .iaload, 1), (1287, .aload_n 0, 1), (1288, .iload_n 3, 1), (1289, .iconst 2, 1), (1290, .iadd, 1), (1291, .iaload, 1), (1292, .invokevirtual 153, 3), (1295, .if_icmp .eq 990, 3), (1298, .iconst 0, 1), (1299, .ireturn, 1), (1300, .aload_n 1, 1), (1301, .aload_n 0, 1), (1302, .iload_n 3, 1), (1303, .iconst 1, 1), (1304, .iadd, 1), (1305, .iaload, 1), (1306, .invokevirtual 154, 3), (1309, .aload_n 2, 1), (1310, .aload_n 0, 1), (1311, .iload_n 3, 1), (1312, .iconst 1, 1), (1313, .iadd, 1), (1314, .iaload, 1), (1315, .invokevirtual 157, 3), (1318, .if_icmp .eq 967, 3), (1321, .iconst 0, 1), (1322, .ireturn, 1), (1323, .aload_n 1, 1), (1324, .invokevirtual 158, 3), (1327, .aload_n 2, 1), (1328, .invokevirtual 161, 3), (1331, .if_icmp .eq 954, 3), (1334, .iconst 0, 1), (1335, .ireturn, 1), (1336, .aload_n 1, 1), (1337, .aload_n 0, 1), (1338, .iload_n 3, 1), (1339, .iconst 1, 1), (1340, .iadd, 1), (1341, .iaload, 1), (1342, .aload_n 0, 1), (1343, .iload_n 3, 1)],
  [(1344, .iconst 2, 1), (1345, .iadd, 1), (1346, .iaload, 1), (1347, .aload_n 0, 1), (1348, .iload_n 3, 1), (1349, .iconst 3, 1), (1350, .iadd, 1), (1351, .iaload, 1), (1352, .invokevirtual 162, 3), (1355, .aload_n 2, 1), (1356, .aload_n 0, 1), (1357, .iload_n 3, 1), (1358, .iconst 1, 1), (1359, .iadd, 1), (1360, .iaload, 1), (1361, .aload_n 0, 1), (1362, .iload_n 3, 1), (1363, .iconst 2, 1), (1364, .iadd, 1), (1365, .iaload, 1), (1366, .aload_n 0, 1), (1367, .iload_n 3, 1), (1368, .iconst 3, 1), (1369, .iadd, 1), (1370, .iaload, 1), (1371, .invokevirtual 165, 3), (1374, .if_icmp .eq 911, 3), (1377, .iconst 0, 1), (1378, .ireturn, 1), (1379, .aload_n 1, 1), (1380, .aload_n 0, 1), (1381, .iload_n 3, 1), (1382, .iconst 1, 1), (1383, .iadd, 1), (1384, .iaload, 1), (1385, .aload_n 0, 1), (1386, .iload_n 3, 1), (1387, .iconst 2, 1), (1388, .iadd, 1), (1389, .iaload, 1), (1390, .aload_n 0, 1), (1391, .iload_n 3, 1), (1392, .iconst 3, 1), (1393, .iadd, 1), (1394, .iaload, 1), (1395, .aload_n 0, 1), (1396, .iload_n 3, 1), (1397, .iconst 4, 1), (1398, .iadd, 1), (1399, .iaload, 1), (1400, .invokevirtual 166, 3), (1403, .aload_n 2, 1), (1404, .aload_n 0, 1), (1405, .iload_n 3, 1), (1406, .iconst 1, 1), (1407, .iadd, 1)],
  [(1408, .iaload, 1), (1409, .aload_n 0, 1), (1410, .iload_n 3, 1), (1411, .iconst 2, 1), (1412, .iadd, 1), (1413, .iaload, 1), (1414, .aload_n 0, 1), (1415, .iload_n 3, 1), (1416, .iconst 3, 1), (1417, .iadd, 1), (1418, .iaload, 1), (1419, .aload_n 0, 1), (1420, .iload_n 3, 1), (1421, .iconst 4, 1), (1422, .iadd, 1), (1423, .iaload, 1), (1424, .invokevirtual 170, 3), (1427, .if_icmp .eq 858, 3), (1430, .iconst 0, 1), (1431, .ireturn, 1), (1432, .aload_n 1, 1), (1433, .aload_n 0, 1), (1434, .iload_n 3, 1), (1435, .iconst 1, 1), (1436, .iadd, 1), (1437, .iaload, 1), (1438, .aload_n 0, 1), (1439, .iload_n 3, 1), (1440, .iconst 2, 1), (1441, .iadd, 1), (1442, .iaload, 1), (1443, .aload_n 0, 1), (1444, .iload_n 3, 1), (1445, .iconst 3, 1), (1446, .iadd, 1), (1447, .iaload, 1), (1448, .invokevirtual 171, 3), (1451, .aload_n 2, 1), (1452, .aload_n 0, 1), (1453, .iload_n 3, 1), (1454, .iconst 1, 1), (1455, .iadd, 1), (1456, .iaload, 1), (1457, .aload_n 0, 1), (1458, .iload_n 3, 1), (1459, .iconst 2, 1), (1460, .iadd, 1), (1461, .iaload, 1), (1462, .aload_n 0, 1), (1463, .iload_n 3, 1), (1464, .iconst 3, 1), (1465, .iadd, 1), (1466, .iaload, 1), (1467, .invokevirtual 174, 3), (1470, .if_icmp .eq 815, 3)],
  [(1473, .iconst 0, 1), (1474, .ireturn, 1), (1475, .aload_n 1, 1), (1476, .aload_n 0, 1), (1477, .iload_n 3, 1), (1478, .iconst 1, 1), (1479, .iadd, 1), (1480, .iaload, 1), (1481, .aload_n 0, 1), (1482, .iload_n 3, 1), (1483, .iconst 2, 1), (1484, .iadd, 1), (1485, .iaload, 1), (1486, .invokevirtual 175, 3), (1489, .aload_n 2, 1), (1490, .aload_n 0, 1), (1491, .iload_n 3, 1), (1492, .iconst 1, 1), (1493, .iadd, 1), (1494, .iaload, 1), (1495, .aload_n 0, 1), (1496, .iload_n 3, 1), (1497, .iconst 2, 1), (1498, .iadd, 1), (1499, .iaload, 1), (1500, .invokevirtual 178, 3), (1503, .if_icmp .eq 782, 3), (1506, .iconst 0, 1), (1507, .ireturn, 1), (1508, .aload_n 1, 1), (1509, .invokevirtual 179, 3), (1512, .aload_n 2, 1), (1513, .invokevirtual 182, 3), (1516, .if_icmp .eq 769, 3), (1519, .iconst 0, 1), (1520, .ireturn, 1), (1521, .aload_n 1, 1), (1522, .invokevirtual 183, 3), (1525, .aload_n 2, 1), (1526, .invokevirtual 186, 3), (1529, .if_icmp .eq 756, 3), (1532, .iconst 0, 1), (1533, .ireturn, 1), (1534, .aload_n 1, 1), (1535, .aload_n 0, 1)],
  [(1536, .iload_n 3, 1), (1537, .iconst 1, 1), (1538, .iadd, 1), (1539, .iaload, 1), (1540, .invokevirtual 187, 3), (1543, .aload_n 2, 1), (1544, .aload_n 0, 1), (1545, .iload_n 3, 1), (1546, .iconst 1, 1), (1547, .iadd, 1), (1548, .iaload, 1), (1549, .invokevirtual 190, 3), (1552, .if_icmp .eq 733, 3), (1555, .iconst 0, 1), (1556, .ireturn, 1), (1557, .aload_n 1, 1), (1558, .aload_n 0, 1), (1559, .iload_n 3, 1), (1560, .iconst 1, 1), (1561, .iadd, 1), (1562, .iaload, 1), (1563, .invokevirtual 191, 3), (1566, .aload_n 2, 1), (1567, .aload_n 0, 1), (1568, .iload_n 3, 1), (1569, .iconst 1, 1), (1570, .iadd, 1), (1571, .iaload, 1), (1572, .invokevirtual 194, 3), (1575, .if_icmp .eq 710, 3), (1578, .iconst 0, 1), (1579, .ireturn, 1), (1580, .aload_n 1, 1), (1581, .aload_n 0, 1), (1582, .iload_n 3, 1), (1583, .iconst 1, 1), (1584, .iadd, 1), (1585, .iaload, 1), (1586, .invokevirtual 195, 3), (1589, .aload_n 2, 1), (1590, .aload_n 0, 1), (1591, .iload_n 3, 1), (1592, .iconst 1, 1), (1593, .iadd, 1), (1594, .iaload, 1), (1595, .invokevirtual 198, 3), (1598, .if_icmp .eq 687, 3)],
  [(1601, .iconst 0, 1), (1602, .ireturn, 1), (1603, .aload_n 1, 1), (1604, .aload_n 0, 1), (1605, .iload_n 3, 1), (1606, .iconst 1, 1), (1607, .iadd, 1), (1608, .iaload, 1), (1609, .invokevirtual 199, 3), (1612, .aload_n 2, 1), (1613, .aload_n 0, 1), (1614, .iload_n 3, 1), (1615, .iconst 1, 1), (1616, .iadd, 1), (1617, .iaload, 1), (1618, .invokevirtual 202, 3), (1621, .if_icmp .eq 664, 3), (1624, .iconst 0, 1), (1625, .ireturn, 1), (1626, .aload_n 1, 1), (1627, .aload_n 0, 1), (1628, .iload_n 3, 1), (1629, .iconst 1, 1), (1630, .iadd, 1), (1631, .iaload, 1), (1632, .invokevirtual 203, 3), (1635, .aload_n 2, 1), (1636, .aload_n 0, 1), (1637, .iload_n 3, 1), (1638, .iconst 1, 1), (1639, .iadd, 1), (1640, .iaload, 1), (1641, .invokevirtual 206, 3), (1644, .if_icmp .eq 641, 3), (1647, .iconst 0, 1), (1648, .ireturn, 1), (1649, .aload_n 1, 1), (1650, .invokevirtual 207, 3), (1653, .aload_n 2, 1), (1654, .invokevirtual 210, 3), (1657, .if_icmp .eq 628, 3), (1660, .iconst 0, 1), (1661, .ireturn, 1), (1662, .aload_n 1, 1), (1663, .aload_n 0, 1)],
  [(1664, .iload_n 3, 1), (1665, .iconst 1, 1), (1666, .iadd, 1), (1667, .iaload, 1), (1668, .invokevirtual 211, 3), (1671, .aload_n 2, 1), (1672, .aload_n 0, 1), (1673, .iload_n 3, 1), (1674, .iconst 1, 1), (1675, .iadd, 1), (1676, .iaload, 1), (1677, .invokevirtual 214, 3), (1680, .if_icmp .eq 605, 3), (1683, .iconst 0, 1), (1684, .ireturn, 1), (1685, .aload_n 1, 1), (1686, .aload_n 0, 1), (1687, .iload_n 3, 1), (1688, .iconst 1, 1), (1689, .iadd, 1), (1690, .iaload, 1), (1691, .aload_n 0, 1), (1692, .iload_n 3, 1), (1693, .iconst 2, 1), (1694, .iadd, 1), (1695, .iaload, 1), (1696, .invokevirtual 215, 3), (1699, .aload_n 2, 1), (1700, .aload_n 0, 1), (1701, .iload_n 3, 1), (1702, .iconst 1, 1), (1703, .iadd, 1), (1704, .iaload, 1), (1705, .aload_n 0, 1), (1706, .iload_n 3, 1), (1707, .iconst 2, 1), (1708, .iadd, 1), (1709, .iaload, 1), (1710, .invokevirtual 218, 3), (1713, .if_icmp .eq 572, 3), (1716, .iconst 0, 1), (1717, .ireturn, 1), (1718, .aload_n 1, 1), (1719, .aload_n 0, 1), (1720, .iload_n 3, 1), (1721, .iconst 1, 1), (1722, .iadd, 1), (1723, .iaload, 1), (1724, .aload_n 0, 1), (1725, .iload_n 3, 1), (1726, .iconst 2, 1), (1727, .iadd, 1)],
  [(1728, .iaload, 1), (1729, .invokevirtual 219, 3), (1732, .aload_n 2, 1), (1733, .aload_n 0, 1), (1734, .iload_n 3, 1), (1735, .iconst 1, 1), (1736, .iadd, 1), (1737, .iaload, 1), (1738, .aload_n 0, 1), (1739, .iload_n 3, 1), (1740, .iconst 2, 1), (1741, .iadd, 1), (1742, .iaload, 1), (1743, .invokevirtual 222, 3), (1746, .if_icmp .eq 539, 3), (1749, .iconst 0, 1), (1750, .ireturn, 1), (1751, .aload_n 1, 1), (1752, .aload_n 0, 1), (1753, .iload_n 3, 1), (1754, .iconst 1, 1), (1755, .iadd, 1), (1756, .iaload, 1), (1757, .aload_n 0, 1), (1758, .iload_n 3, 1), (1759, .iconst 2, 1), (1760, .iadd, 1), (1761, .iaload, 1), (1762, .aload_n 0, 1), (1763, .iload_n 3, 1), (1764, .iconst 3, 1), (1765, .iadd, 1), (1766, .iaload, 1), (1767, .aload_n 0, 1), (1768, .iload_n 3, 1), (1769, .iconst 4, 1), (1770, .iadd, 1), (1771, .iaload, 1), (1772, .invokevirtual 223, 3), (1775, .aload_n 2, 1), (1776, .aload_n 0, 1), (1777, .iload_n 3, 1), (1778, .iconst 1, 1), (1779, .iadd, 1), (1780, .iaload, 1), (1781, .aload_n 0, 1), (1782, .iload_n 3, 1), (1783, .iconst 2, 1), (1784, .iadd, 1), (1785, .iaload, 1), (1786, .aload_n 0, 1), (1787, .iload_n 3, 1), (1788, .iconst 3, 1), (1789, .iadd, 1), (1790, .iaload, 1), (1791, .aload_n 0, 1)],
  [(1792, .iload_n 3, 1), (1793, .iconst 4, 1), (1794, .iadd, 1), (1795, .iaload, 1), (1796, .invokevirtual 226, 3), (1799, .if_icmp .eq 486, 3), (1802, .iconst 0, 1), (1803, .ireturn, 1), (1804, .aload_n 1, 1), (1805, .aload_n 0, 1), (1806, .iload_n 3, 1), (1807, .iconst 1, 1), (1808, .iadd, 1), (1809, .iaload, 1), (1810, .aload_n 0, 1), (1811, .iload_n 3, 1), (1812, .iconst 2, 1), (1813, .iadd, 1), (1814, .iaload, 1), (1815, .aload_n 0, 1), (1816, .iload_n 3, 1), (1817, .iconst 3, 1), (1818, .iadd, 1), (1819, .iaload, 1), (1820, .invokevirtual 227, 3), (1823, .aload_n 2, 1), (1824, .aload_n 0, 1), (1825, .iload_n 3, 1), (1826, .iconst 1, 1), (1827, .iadd, 1), (1828, .iaload, 1), (1829, .aload_n 0, 1), (1830, .iload_n 3, 1), (1831, .iconst 2, 1), (1832, .iadd, 1), (1833, .iaload, 1), (1834, .aload_n 0, 1), (1835, .iload_n 3, 1), (1836, .iconst 3, 1), (1837, .iadd, 1), (1838, .iaload, 1), (1839, .invokevirtual 231, 3), (1842, .lcmp, 1), (1843, .ifCond .eq 442, 3), (1846, .iconst 0, 1), (1847, .ireturn, 1), (1848, .aload_n 1, 1), (1849, .aload_n 0, 1), (1850, .iload_n 3, 1), (1851, .iconst 1, 1), (1852, .iadd, 1), (1853, .iaload, 1), (1854, .aload_n 0, 1), (1855, .iload_n 3, 1)],
  [(1856, .iconst 2, 1), (1857, .iadd, 1), (1858, .iaload, 1), (1859, .invokevirtual 232, 3), (1862, .aload_n 2, 1), (1863, .aload_n 0, 1), (1864, .iload_n 3, 1), (1865, .iconst 1, 1), (1866, .iadd, 1), (1867, .iaload, 1), (1868, .aload_n 0, 1), (1869, .iload_n 3, 1), (1870, .iconst 2, 1), (1871, .iadd, 1), (1872, .iaload, 1), (1873, .invokevirtual 236, 3), (1876, .lcmp, 1), (1877, .ifCond .eq 408, 3), (1880, .iconst 0, 1), (1881, .ireturn, 1), (1882, .aload_n 1, 1), (1883, .aload_n 0, 1), (1884, .iload_n 3, 1), (1885, .iconst 1, 1), (1886, .iadd, 1), (1887, .iaload, 1), (1888, .aload_n 0, 1), (1889, .iload_n 3, 1), (1890, .iconst 2, 1), (1891, .iadd, 1), (1892, .iaload, 1), (1893, .aload_n 0, 1), (1894, .iload_n 3, 1), (1895, .iconst 3, 1), (1896, .iadd, 1), (1897, .iaload, 1), (1898, .aload_n 0, 1), (1899, .iload_n 3, 1), (1900, .iconst 4, 1), (1901, .iadd, 1), (1902, .iaload, 1), (1903, .invokevirtual 237, 3), (1906, .aload_n 2, 1), (1907, .aload_n 0, 1), (1908, .iload_n 3, 1), (1909, .iconst 1, 1), (1910, .iadd, 1), (1911, .iaload, 1), (1912, .aload_n 0, 1), (1913, .iload_n 3, 1), (1914, .iconst 2, 1), (1915, .iadd, 1), (1916, .iaload, 1), (1917, .aload_n 0, 1), (1918, .iload_n 3, 1), (1919, .iconst 3, 1)],
  [(1920, .iadd, 1), (1921, .iaload, 1), (1922, .aload_n 0, 1), (1923, .iload_n 3, 1), (1924, .iconst 4, 1), (1925, .iadd, 1), (1926, .iaload, 1), (1927, .invokevirtual 240, 3), (1930, .if_icmp .eq 355, 3), (1933, .iconst 0, 1), (1934, .ireturn, 1), (1935, .aload_n 1, 1), (1936, .invokevirtual 241, 3), (1939, .aload_n 2, 1), (1940, .invokevirtual 244, 3), (1943, .if_icmp .eq 342, 3), (1946, .iconst 0, 1), (1947, .ireturn, 1), (1948, .aload_n 1, 1), (1949, .invokevirtual 245, 3), (1952, .aload_n 2, 1), (1953, .invokevirtual 248, 3), (1956, .if_icmp .eq 329, 3), (1959, .iconst 0, 1), (1960, .ireturn, 1), (1961, .aload_n 1, 1), (1962, .aload_n 0, 1), (1963, .iload_n 3, 1), (1964, .iconst 1, 1), (1965, .iadd, 1), (1966, .iaload, 1), (1967, .aload_n 0, 1), (1968, .iload_n 3, 1), (1969, .iconst 2, 1), (1970, .iadd, 1), (1971, .iaload, 1), (1972, .invokevirtual 249, 3), (1975, .aload_n 2, 1), (1976, .aload_n 0, 1), (1977, .iload_n 3, 1), (1978, .iconst 1, 1), (1979, .iadd, 1), (1980, .iaload, 1), (1981, .aload_n 0, 1), (1982, .iload_n 3, 1), (1983, .iconst 2, 1)],
  [(1984, .iadd, 1), (1985, .iaload, 1), (1986, .invokevirtual 252, 3), (1989, .if_icmp .eq 296, 3), (1992, .iconst 0, 1), (1993, .ireturn, 1), (1994, .aload_n 1, 1), (1995, .aload_n 0, 1), (1996, .iload_n 3, 1), (1997, .iconst 1, 1), (1998, .iadd, 1), (1999, .iaload, 1), (2000, .aload_n 0, 1), (2001, .iload_n 3, 1), (2002, .iconst 2, 1), (2003, .iadd, 1), (2004, .iaload, 1), (2005, .aload_n 0, 1), (2006, .iload_n 3, 1), (2007, .iconst 3, 1), (2008, .iadd, 1), (2009, .iaload, 1), (2010, .invokevirtual 253, 3), (2013, .aload_n 2, 1), (2014, .aload_n 0, 1), (2015, .iload_n 3, 1), (2016, .iconst 1, 1), (2017, .iadd, 1), (2018, .iaload, 1), (2019, .aload_n 0, 1), (2020, .iload_n 3, 1), (2021, .iconst 2, 1), (2022, .iadd, 1), (2023, .iaload, 1), (2024, .aload_n 0, 1), (2025, .iload_n 3, 1), (2026, .iconst 3, 1), (2027, .iadd, 1), (2028, .iaload, 1), (2029, .invokevirtual 256, 3), (2032, .if_icmp .eq 253, 3), (2035, .iconst 0, 1), (2036, .ireturn, 1), (2037, .aload_n 1, 1), (2038, .aload_n 0, 1), (2039, .iload_n 3, 1), (2040, .iconst 1, 1), (2041, .iadd, 1), (2042, .iaload, 1), (2043, .invokevirtual 257, 3), (2046, .aload_n 2, 1), (2047, .aload_n 0, 1)],
  [(2048, .iload_n 3, 1), (2049, .iconst 1, 1), (2050, .iadd, 1), (2051, .iaload, 1), (2052, .invokevirtual 260, 3), (2055, .if_icmp .eq 230, 3), (2058, .iconst 0, 1), (2059, .ireturn, 1), (2060, .aload_n 1, 1), (2061, .aload_n 0, 1), (2062, .iload_n 3, 1), (2063, .iconst 1, 1), (2064, .iadd, 1), (2065, .iaload, 1), (2066, .invokevirtual 261, 3), (2069, .aload_n 2, 1), (2070, .aload_n 0, 1), (2071, .iload_n 3, 1), (2072, .iconst 1, 1), (2073, .iadd, 1), (2074, .iaload, 1), (2075, .invokevirtual 264, 3), (2078, .if_icmp .eq 207, 3), (2081, .iconst 0, 1), (2082, .ireturn, 1), (2083, .aload_n 1, 1), (2084, .aload_n 0, 1), (2085, .iload_n 3, 1), (2086, .iconst 1, 1), (2087, .iadd, 1), (2088, .iaload, 1), (2089, .invokevirtual 265, 3), (2092, .aload_n 2, 1), (2093, .aload_n 0, 1), (2094, .iload_n 3, 1), (2095, .iconst 1, 1), (2096, .iadd, 1), (2097, .iaload, 1), (2098, .invokevirtual 268, 3), (2101, .if_icmp .eq 184, 3), (2104, .iconst 0, 1), (2105, .ireturn, 1), (2106, .aload_n 1, 1), (2107, .aload_n 0, 1), (2108, .iload_n 3, 1), (2109, .iconst 1, 1), (2110, .iadd, 1), (2111, .iaload, 1)],
  [(2112, .aload_n 0, 1), (2113, .iload_n 3, 1), (2114, .iconst 2, 1), (2115, .iadd, 1), (2116, .iaload, 1), (2117, .aload_n 0, 1), (2118, .iload_n 3, 1), (2119, .iconst 3, 1), (2120, .iadd, 1), (2121, .iaload, 1), (2122, .invokevirtual 269, 3), (2125, .aload_n 2, 1), (2126, .aload_n 0, 1), (2127, .iload_n 3, 1), (2128, .iconst 1, 1), (2129, .iadd, 1), (2130, .iaload, 1), (2131, .aload_n 0, 1), (2132, .iload_n 3, 1), (2133, .iconst 2, 1), (2134, .iadd, 1), (2135, .iaload, 1), (2136, .aload_n 0, 1), (2137, .iload_n 3, 1), (2138, .iconst 3, 1), (2139, .iadd, 1), (2140, .iaload, 1), (2141, .invokevirtual 272, 3), (2144, .if_icmp .eq 141, 3), (2147, .iconst 0, 1), (2148, .ireturn, 1), (2149, .aload_n 1, 1), (2150, .aload_n 0, 1), (2151, .iload_n 3, 1), (2152, .iconst 1, 1), (2153, .iadd, 1), (2154, .iaload, 1), (2155, .aload_n 0, 1), (2156, .iload_n 3, 1), (2157, .iconst 2, 1), (2158, .iadd, 1), (2159, .iaload, 1), (2160, .aload_n 0, 1), (2161, .iload_n 3, 1), (2162, .iconst 3, 1), (2163, .iadd, 1), (2164, .iaload, 1), (2165, .i2l, 1), (2166, .bipush 32, 2), (2168, .lshl, 1), (2169, .aload_n 0, 1), (2170, .iload_n 3, 1), (2171, .iconst 4, 1), (2172, .iadd, 1), (2173, .iaload, 1), (2174, .i2l, 1), (2175, .ldc2_w 273, 3)],
  [(2178, .land, 1), (2179, .lor, 1), (2180, .invokevirtual 275, 3), (2183, .aload_n 2, 1), (2184, .aload_n 0, 1), (2185, .iload_n 3, 1), (2186, .iconst 1, 1), (2187, .iadd, 1), (2188, .iaload, 1), (2189, .aload_n 0, 1), (2190, .iload_n 3, 1), (2191, .iconst 2, 1), (2192, .iadd, 1), (2193, .iaload, 1), (2194, .aload_n 0, 1), (2195, .iload_n 3, 1), (2196, .iconst 3, 1), (2197, .iadd, 1), (2198, .iaload, 1), (2199, .i2l, 1), (2200, .bipush 32, 2), (2202, .lshl, 1), (2203, .aload_n 0, 1), (2204, .iload_n 3, 1), (2205, .iconst 4, 1), (2206, .iadd, 1), (2207, .iaload, 1), (2208, .i2l, 1), (2209, .ldc2_w 273, 3), (2212, .land, 1), (2213, .lor, 1), (2214, .invokevirtual 279, 3), (2217, .if_icmp .eq 68, 3), (2220, .iconst 0, 1), (2221, .ireturn, 1), (2222, .aload_n 1, 1), (2223, .aload_n 0, 1), (2224, .iload_n 3, 1), (2225, .iconst 1, 1), (2226, .iadd, 1), (2227, .iaload, 1), (2228, .aload_n 0, 1), (2229, .iload_n 3, 1), (2230, .iconst 2, 1), (2231, .iadd, 1), (2232, .iaload, 1), (2233, .aload_n 0, 1), (2234, .iload_n 3, 1), (2235, .iconst 3, 1), (2236, .iadd, 1), (2237, .iaload, 1), (2238, .aload_n 0, 1), (2239, .iload_n 3, 1)],
  [(2240, .iconst 4, 1), (2241, .iadd, 1), (2242, .iaload, 1), (2243, .aload_n 0, 1), (2244, .iload_n 3, 1), (2245, .iconst 5, 1), (2246, .iadd, 1), (2247, .iaload, 1), (2248, .invokevirtual 280, 3), (2251, .aload_n 2, 1), (2252, .aload_n 0, 1), (2253, .iload_n 3, 1), (2254, .iconst 1, 1), (2255, .iadd, 1), (2256, .iaload, 1), (2257, .aload_n 0, 1), (2258, .iload_n 3, 1), (2259, .iconst 2, 1), (2260, .iadd, 1), (2261, .iaload, 1), (2262, .aload_n 0, 1), (2263, .iload_n 3, 1), (2264, .iconst 3, 1), (2265, .iadd, 1), (2266, .iaload, 1), (2267, .aload_n 0, 1), (2268, .iload_n 3, 1), (2269, .iconst 4, 1), (2270, .iadd, 1), (2271, .iaload, 1), (2272, .aload_n 0, 1), (2273, .iload_n 3, 1), (2274, .iconst 5, 1), (2275, .iadd, 1), (2276, .iaload, 1), (2277, .invokevirtual 283, 3), (2280, .if_icmp .eq 5, 3), (2283, .iconst 0, 1), (2284, .ireturn, 1), (2285, .iinc 3 6, 3), (2288, .goto (-2270), 3), (2291, .iconst 1, 1), (2292, .ireturn, 1)]]
def px_tbs : List (List (List (List (Nat × Instr × Nat)))) := [[px_t0, px_t1, px_t2, px_t3, px_t4, px_t5, px_t6, px_t7, px_t8, px_t9, px_t10, px_t11, px_t12, px_t13, px_t14, px_t15, px_t16, px_t17, px_t18, px_t19],
  [px_t20, px_t21, px_t22, px_t23, px_t24, px_t25, px_t26, px_t27, px_t28, px_t29, px_t30, px_t31, px_t32, px_t33, px_t34, px_t35, px_t36, px_t37, px_t38, px_t39],
  [px_t40, px_t41, px_t42, px_t43, px_t44, px_t45, px_t46, px_t47, px_t48, px_t49, px_t50, px_t51, px_t52, px_t53, px_t54, px_t55, px_t56, px_t57, px_t58, px_t59],
  [px_t60, px_t61, px_t62, px_t63, px_t64, px_t65, px_t66, px_t67, px_t68, px_t69, px_t70, px_t71, px_t72, px_t73, px_t74, px_t75, px_t76, px_t77, px_t78, px_t79],
  [px_t80, px_t81, px_t82, px_t83, px_t84, px_t85, px_t86, px_t87, px_t88, px_t89, px_t90, px_t91, px_t92, px_t93, px_t94, px_t95, px_t96, px_t97, px_t98, px_t99],
  [px_t100, px_t101, px_t102, px_t103, px_t104, px_t105, px_t106, px_t107, px_t108, px_t109, px_t110, px_t111, px_t112, px_t113, px_t114, px_t115, px_t116, px_t117, px_t118, px_t119],
  [px_t120, px_t121, px_t122, px_t123, px_t124, px_t125, px_t126, px_t127, px_t128, px_t129, px_t130, px_t131, px_t132, px_t133, px_t134, px_t135, px_t136, px_t137, px_t138, px_t139],
  [px_t140, px_t141, px_t142, px_t143, px_t144, px_t145, px_t146, px_t147, px_t148, px_t149, px_t150, px_t151, px_t152, px_t153, px_t154, px_t155, px_t156, px_t157, px_t158, px_t159],
  [px_t160, px_t161, px_t162, px_t163, px_t164, px_t165, px_t166, px_t167, px_t168, px_t169, px_t170, px_t171, px_t172, px_t173, px_t174, px_t175, px_t176, px_t177, px_t178, px_t179],
  [px_t180, px_t181, px_t182, px_t183, px_t184, px_t185, px_t186, px_t187, px_t188, px_t189, px_t190, px_t191, px_t192, px_t193, px_t194, px_t195, px_t196, px_t197, px_t198, px_t199],
  [px_t200, px_t201, px_t202, px_t203, px_t204, px_t205, px_t206, px_t207, px_t208, px_t209, px_t210, px_t211, px_t212, px_t213, px_t214, px_t215, px_t216, px_t217, px_t218, px_t219],
  [px_t220, px_t221, px_t222, px_t223, px_t224, px_t225, px_t226, px_t227, px_t228, px_t229, px_t230, px_t231, px_t232, px_t233, px_t234, px_t235, px_t236, px_t237, px_t238, px_t239],
  [px_t240, px_t241, px_t242, px_t243, px_t244, px_t245, px_t246, px_t247, px_t248, px_t249, px_t250, px_t251, px_t252, px_t253, px_t254, px_t255, px_t256, px_t257, px_t258, px_t259],
  [px_t260, px_t261, px_t262, px_t263, px_t264, px_t265, px_t266, px_t267, px_t268, px_t269, px_t270, px_t271, px_t272, px_t273, px_t274, px_t275, px_t276, px_t277, px_t278, px_t279],
  [px_t280, px_t281, px_t282, px_t283, px_t284, px_t285, px_t286, px_t287, px_t288, px_t289, px_t290, px_t291, px_t292, px_t293, px_t294, px_t295, px_t296, px_t297, px_t298, px_t299],
  [px_t300, px_t301, px_t302, px_t303, px_t304, px_t305, px_t306, px_t307, px_t308, px_t309, px_t310, px_t311, px_t312, px_t313, px_t314, px_t315, px_t316, px_t317, px_t318, px_t319],
  [px_t320, px_t321, px_t322, px_t323, px_t324, px_t325, px_t326, px_t327, px_t328, px_t329, px_t330, px_t331, px_t332, px_t333, px_t334, px_t335, px_t336, px_t337, px_t338, px_t339],
  [px_t340, px_t341, px_t342]]
def px_tb (k : Nat) : List (List (Nat × Instr × Nat)) := (px_tbs.getD (k / 20) []).getD (k % 20) []
def px_in (k pc : Nat) : Option (Instr × Nat) := px_lk pc ((px_tb k).getD (pc / 64) [])
end
section
abbrev px_Mem : Type := (Nat → Nat → Int32) × (Nat → Nat → Int64)
abbrev px_Lo : Type := List (Option Value)
abbrev px_Po : Type := Option Value → px_Mem → Prop
def px_sh0 (a : Nat) : Option (Nat ⊕ (Nat × Nat)) :=
  if a < 1000 then px_shl[a]?
  else if a = 1000 then some (.inr (12, 0))
  else if a = 1001 then some (.inr (10, 10))
  else if a = 1002 then some (.inr (10, 6))
  else if 1100 ≤ a ∧ a < 1114 then some (.inl 12)
  else if 1200 ≤ a ∧ a < 1214 then some (.inr (11, (px_str.getD (a - 1200) []).length))
  else none
def px_sh (g a : Nat) : Option (Nat ⊕ (Nat × Nat)) := if g = 0 then px_sh0 a else if 47 ≤ a ∧ a < 55 then px_sh0 a else none
def px_rf (a i : Nat) : Nat := if a < 1000 then (px_rfl.getD a []).getD i 0 else a + 100
def px_ld (ls : px_Lo) (i : Nat) : Option Value := ls.getD i none
def px_k1 (k : Nat) (ls : px_Lo) (i : Nat) : px_Lo := if (px_ls k).contains (i - 1) && i != 0 then ls.set (i - 1) none else ls
def px_s1 (k : Nat) (ls : px_Lo) (i : Nat) (v : Value) : px_Lo := (px_k1 k ls i).set i (some v)
def px_s2 (k : Nat) (ls : px_Lo) (i : Nat) (v : Value) : px_Lo := ((px_k1 k ls i).set i (some v)).set (i + 1) none
def px_jt (pc : Nat) (off : Int) : Nat := ((pc : Int) + off).toNat
def px_wI (M : px_Mem) (a i : Nat) (x : Int32) : px_Mem := (va_up M.1 a (upd (M.1 a) i x), M.2)
def px_wL (M : px_Mem) (a i : Nat) (x : Int64) : px_Mem := (M.1, va_up M.2 a (vp_updL (M.2 a) i x))
def px_aI (M : px_Mem) (a : Nat) (f : Nat → Int32) : px_Mem := (va_up M.1 a f, M.2)
def px_aL (M : px_Mem) (a : Nat) (f : Nat → Int64) : px_Mem := (M.1, va_up M.2 a f)
def px_fv (M : px_Mem) (a i c : Nat) : Value := match c with
  | 1 => .long (M.2 a i)
  | 3 => .ref (px_rf a i)
  | _ => .int (M.1 a i)
def px_br (c : ClassFile.Cond) (x y : Int32) (A B : Prop) : Prop := match c with
  | .eq => (x = y → A) ∧ (¬ x = y → B)
  | .ne => (¬ x = y → A) ∧ (x = y → B)
  | .lt => (x < y → A) ∧ (¬ x < y → B)
  | .ge => (y ≤ x → A) ∧ (¬ y ≤ x → B)
  | .gt => (y < x → A) ∧ (¬ y < x → B)
  | .le => (x ≤ y → A) ∧ (¬ x ≤ y → B)
/-- an int array that may be read -/
def px_ia (g : Nat) (M : px_Mem) (a : Nat) (i : Int32) : Prop := (∃ t n : Nat, (t = 0 ∨ t = 10) ∧ px_sh g a = some (.inr (t, n)) ∧ vp_in i n) ∨ (px_sh g a = some (.inr (12, 0)) ∧ vp_in i (M.1 999 0).toNatClampNeg)
/-- a small array -/
def px_ba (g a : Nat) (i : Int32) : Prop := ∃ t n : Nat, (t = 2 ∨ t = 3 ∨ t = 11) ∧ px_sh g a = some (.inr (t, n)) ∧ vp_in i n
def px_at (g t a : Nat) (i : Int32) : Prop := ∃ n : Nat, px_sh g a = some (.inr (t, n)) ∧ vp_in i n
def px_ra (g a : Nat) (i : Int32) : Prop := ∃ t n : Nat, (t = 4 ∨ t = 5 ∨ t = 6) ∧ px_sh g a = some (.inr (t, n)) ∧ vp_in i n
def px_cp (g t a b : Nat) (sp dp n : Int32) : Prop := ∃ n0 n1 : Nat, px_sh g b = some (.inr (t, n0)) ∧ px_sh g a = some (.inr (t, n1)) ∧ ¬ sp < 0 ∧ ¬ dp < 0 ∧ ¬ n < 0 ∧ sp.toNatClampNeg + n.toNatClampNeg ≤ n0 ∧ dp.toNatClampNeg + n.toNatClampNeg ≤ n1
def px_sw (pc : Nat) (dflt lo hi : Int) (offs : Array Int) (x : Int32) : Nat := if x.toInt < lo ∨ hi < x.toInt then px_jt pc dflt else px_jt pc (offs.getD (x.toInt - lo).toNat 0)
def px_rk (r : Nat) (v : Int32) : Prop := match r with
  | 1 => True
  | 2 => v = 0 ∨ v = 1
  | 5 => narrow .byte (.int v) = .int v
  | 6 => narrow .char (.int v) = .int v
  | _ => False
/-- where the arguments lie -/
def px_en : List Value → px_Lo
  | [] => []
  | .long x :: vs => some (.long x) :: none :: px_en vs
  | .double x :: vs => some (.double x) :: none :: px_en vs
  | v :: vs => some v :: px_en vs
def px_ent (y : Nat) (vs : List Value) : px_Lo := px_en vs ++ List.replicate (px_ml y - (px_en vs).length) none
/-- the slots of longs are as the table says -/
def px_wf (k i : Nat) : px_Lo → Bool
  | [] => true
  | some v :: l => (v.category != 2 || (px_ls k).contains i) && px_wf k (i + 1) l
  | none :: l => px_wf k (i + 1) l
def px_cok (k y : Nat) (st : List Value) : Bool := decide (px_na y ≤ st.length) && decide (((st.drop (px_na y)).map fun v => v.category).sum ≤ 8) && decide (px_nf y + 1 ≤ px_nf k) && decide (19 + px_ml y + px_nl y ≤ px_nl k) && decide ((px_en (st.take (px_na y)).reverse).length ≤ px_ml y) && px_wf y 0 (px_en (st.take (px_na y)).reverse)
section PXM
variable (g k pc : Nat) (ls : px_Lo) (M : px_Mem) (Q : px_Po) (go : Nat → px_Lo → List Value → px_Mem → Prop) (cal : Nat → List Value → px_Mem → px_Po → Prop)
def px_call (y : Nat) (st : List Value) : Prop := px_cok k y st = true ∧ ∃ (r : Option Value) (M' : px_Mem), cal y (st.take (px_na y)).reverse M (fun r' m' => r' = r ∧ m' = M') ∧ go (pc + 3) ls (r.toList ++ st.drop (px_na y)) M'
def px_recv (y : Nat) (st : List Value) : Prop := match (st.take (px_na y)).reverse with
  | .ref a :: _ => px_sh g a = some (.inl (px_ow y))
  | _ => False
def px_st (len : Nat) (st : List Value) : Instr → Prop
  | .aload_n j => match px_ld ls j with
    | some (.ref a) => go (pc + 1) ls (.ref a :: st) M
    | _ => False
  | .aload j => match px_ld ls j with
    | some (.ref a) => go (pc + 2) ls (.ref a :: st) M
    | _ => False
  | .iload_n j => match px_ld ls j with
    | some (.int x) => go (pc + 1) ls (.int x :: st) M
    | _ => False
  | .iload j => match px_ld ls j with
    | some (.int x) => go (pc + 2) ls (.int x :: st) M
    | _ => False
  | .lload_n j => match px_ld ls j with
    | some (.long x) => go (pc + 1) ls (.long x :: st) M
    | _ => False
  | .lload j => match px_ld ls j with
    | some (.long x) => go (pc + 2) ls (.long x :: st) M
    | _ => False
  | .istore_n j => match st with
    | .int x :: r => go (pc + 1) (px_s1 k ls j (.int x)) r M
    | _ => False
  | .istore j => match st with
    | .int x :: r => go (pc + 2) (px_s1 k ls j (.int x)) r M
    | _ => False
  | .astore_n j => match st with
    | .ref x :: r => go (pc + 1) (px_s1 k ls j (.ref x)) r M
    | _ => False
  | .astore j => match st with
    | .ref x :: r => go (pc + 2) (px_s1 k ls j (.ref x)) r M
    | _ => False
  | .lstore_n j => match st with
    | .long x :: r => go (pc + 1) (px_s2 k ls j (.long x)) r M
    | _ => False
  | .lstore j => match st with
    | .long x :: r => go (pc + 2) (px_s2 k ls j (.long x)) r M
    | _ => False
  | .iinc j n => match px_ld ls j with
    | some (.int x) => go (pc + 3) (px_s1 k ls j (.int (x + Int32.ofInt n))) st M
    | _ => False
  | .iconst n => go (pc + 1) ls (.int (Int32.ofInt n) :: st) M
  | .bipush n => go (pc + 2) ls (.int ((Int8.ofInt n).toInt32) :: st) M
  | .sipush n => go (pc + 3) ls (.int ((Int16.ofInt n).toInt32) :: st) M
  | .lconst n => go (pc + 1) ls (.long (Int64.ofNat (n : Nat)) :: st) M
  | .ldc i => match px_kck (px_ow k) i with
    | some (v, _) => go (pc + 2) ls (.int v :: st) M
    | none => match px_ksk (px_ow k) i with
      | some (t, _) => g = 0 ∧ go (pc + 2) ls (.ref (1100 + t) :: st) M
      | none => False
  | .ldc_w i => match px_kck (px_ow k) i with
    | some (v, _) => go (pc + 3) ls (.int v :: st) M
    | none => False
  | .ldc2_w i => match px_kjk (px_ow k) i with
    | some (v, _) => go (pc + 3) ls (.long v :: st) M
    | none => False
  | .dup => match st with
    | v :: r => if v.category = 1 then go (pc + 1) ls (v :: v :: r) M else False
    | _ => False
  | .pop => match st with
    | v :: r => if v.category = 1 then go (pc + 1) ls r M else False
    | _ => False
  | .dup2 => match st with
    | .long x :: r => go (pc + 1) ls (.long x :: .long x :: r) M
    | v :: w :: r => if v.category = 1 ∧ w.category = 1 then go (pc + 1) ls (v :: w :: v :: w :: r) M else False
    | _ => False
  | .iadd => match st with
    | .int y :: .int x :: r => go (pc + 1) ls (.int (x + y) :: r) M
    | _ => False
  | .isub => match st with
    | .int y :: .int x :: r => go (pc + 1) ls (.int (x - y) :: r) M
    | _ => False
  | .imul => match st with
    | .int y :: .int x :: r => go (pc + 1) ls (.int (x * y) :: r) M
    | _ => False
  | .iand => match st with
    | .int y :: .int x :: r => go (pc + 1) ls (.int (x &&& y) :: r) M
    | _ => False
  | .ior => match st with
    | .int y :: .int x :: r => go (pc + 1) ls (.int (x ||| y) :: r) M
    | _ => False
  | .ixor => match st with
    | .int y :: .int x :: r => go (pc + 1) ls (.int (x ^^^ y) :: r) M
    | _ => False
  | .idiv => match st with
    | .int y :: .int x :: r => (¬ y = 0) ∧ go (pc + 1) ls (.int (x / y) :: r) M
    | _ => False
  | .irem => match st with
    | .int y :: .int x :: r => (¬ y = 0) ∧ go (pc + 1) ls (.int (x - x / y * y) :: r) M
    | _ => False
  | .ishl => match st with
    | .int y :: .int x :: r => go (pc + 1) ls (.int (x <<< (y &&& 31)) :: r) M
    | _ => False
  | .ishr => match st with
    | .int y :: .int x :: r => go (pc + 1) ls (.int (x >>> (y &&& 31)) :: r) M
    | _ => False
  | .iushr => match st with
    | .int y :: .int x :: r => go (pc + 1) ls (.int (x.toUInt32 >>> (y.toUInt32 &&& Int32.toUInt32 31)).toInt32 :: r) M
    | _ => False
  | .ladd => match st with
    | .long y :: .long x :: r => go (pc + 1) ls (.long (x + y) :: r) M
    | _ => False
  | .lsub => match st with
    | .long y :: .long x :: r => go (pc + 1) ls (.long (x - y) :: r) M
    | _ => False
  | .lmul => match st with
    | .long y :: .long x :: r => go (pc + 1) ls (.long (x * y) :: r) M
    | _ => False
  | .land => match st with
    | .long y :: .long x :: r => go (pc + 1) ls (.long (x &&& y) :: r) M
    | _ => False
  | .lor => match st with
    | .long y :: .long x :: r => go (pc + 1) ls (.long (x ||| y) :: r) M
    | _ => False
  | .ldiv => match st with
    | .long y :: .long x :: r => (¬ y = 0) ∧ go (pc + 1) ls (.long (x / y) :: r) M
    | _ => False
  | .lrem => match st with
    | .long y :: .long x :: r => (¬ y = 0) ∧ go (pc + 1) ls (.long (x - x / y * y) :: r) M
    | _ => False
  | .lneg => match st with
    | .long x :: r => go (pc + 1) ls (.long (-x) :: r) M
    | _ => False
  | .lshl => match st with
    | .int y :: .long x :: r => go (pc + 1) ls (.long (x <<< (y.toInt64 &&& 63)) :: r) M
    | _ => False
  | .lshr => match st with
    | .int y :: .long x :: r => go (pc + 1) ls (.long (x >>> (y.toInt64 &&& 63)) :: r) M
    | _ => False
  | .i2l => match st with
    | .int x :: r => go (pc + 1) ls (.long x.toInt64 :: r) M
    | _ => False
  | .l2i => match st with
    | .long x :: r => go (pc + 1) ls (.int x.toInt32 :: r) M
    | _ => False
  | .i2b => match st with
    | .int x :: r => go (pc + 1) ls (.int x.toInt8.toInt32 :: r) M
    | _ => False
  | .i2s => match st with
    | .int x :: r => go (pc + 1) ls (.int x.toInt16.toInt32 :: r) M
    | _ => False
  | .i2c => match st with
    | .int x :: r => go (pc + 1) ls (.int (x.toUInt32 % 65536).toInt32 :: r) M
    | _ => False
  | .lcmp => match st with
    | .long y :: .long x :: r => go (pc + 1) ls (.int (lg_cmp x y) :: r) M
    | _ => False
  | .if_icmp c off => match st with
    | .int y :: .int x :: r => px_br c x y (go (px_jt pc off) ls r M) (go (pc + 3) ls r M)
    | _ => False
  | .ifCond c off => match st with
    | .int x :: r => px_br c x 0 (go (px_jt pc off) ls r M) (go (pc + 3) ls r M)
    | _ => False
  | .goto off => go (px_jt pc off) ls st M
  | .tableswitch dflt lo hi offs => match st with
    | .int x :: r => go (px_sw pc dflt lo hi offs x) ls r M
    | _ => False
  | .getfield i => match st with
    | .ref a :: r => match px_flk (px_ow k) i with
      | some (ci, j, _) => px_sh g a = some (.inl ci) ∧ go (pc + 3) ls (px_fv M a j (px_fc ci j) :: r) M
      | none => False
    | _ => False
  | .putfield i => match px_flk (px_ow k) i with
    | some (ci, j, _) => match px_fc ci j with
      | 0 => match st with
        | .int x :: .ref a :: r => px_sh g a = some (.inl ci) ∧ go (pc + 3) ls r (px_wI M a j x)
        | _ => False
      | 1 => match st with
        | .long x :: .ref a :: r => px_sh g a = some (.inl ci) ∧ go (pc + 3) ls r (px_wL M a j x)
        | _ => False
      | 2 => match st with
        | .int x :: .ref a :: r => px_sh g a = some (.inl ci) ∧ (x = 0 ∨ x = 1) ∧ go (pc + 3) ls r (px_wI M a j x)
        | _ => False
      | _ => False
    | none => False
  | .getstatic i => match px_gsk (px_ow k) i with
    | some (0, _) => g = 0 ∧ go (pc + 3) ls (.ref 1001 :: st) M
    | some (1, _) => g = 0 ∧ go (pc + 3) ls (.ref 1002 :: st) M
    | some (2, _) => g = 0 ∧ go (pc + 3) ls (.int 1 :: st) M
    | some (3, _) => g = 0 ∧ go (pc + 3) ls (.ref 1003 :: st) M
    | _ => False
  | .iaload => match st with
    | .int i :: .ref a :: r => px_ia g M a i ∧ go (pc + 1) ls (.int (M.1 a i.toNatClampNeg) :: r) M
    | _ => False
  | .baload => match st with
    | .int i :: .ref a :: r => px_ba g a i ∧ go (pc + 1) ls (.int (M.1 a i.toNatClampNeg) :: r) M
    | _ => False
  | .laload => match st with
    | .int i :: .ref a :: r => px_at g 1 a i ∧ go (pc + 1) ls (.long (M.2 a i.toNatClampNeg) :: r) M
    | _ => False
  | .aaload => match st with
    | .int i :: .ref a :: r => px_ra g a i ∧ go (pc + 1) ls (.ref (px_rf a i.toNatClampNeg) :: r) M
    | _ => False
  | .iastore => match st with
    | .int x :: .int i :: .ref a :: r => px_at g 0 a i ∧ go (pc + 1) ls r (px_wI M a i.toNatClampNeg x)
    | _ => False
  | .lastore => match st with
    | .long x :: .int i :: .ref a :: r => px_at g 1 a i ∧ go (pc + 1) ls r (px_wL M a i.toNatClampNeg x)
    | _ => False
  | .bastore => match st with
    | .int x :: .int i :: .ref a :: r => (px_at g 2 a i ∧ go (pc + 1) ls r (px_wI M a i.toNatClampNeg (vp_nar .byte x))) ∨ (px_at g 3 a i ∧ go (pc + 1) ls r (px_wI M a i.toNatClampNeg (vp_nar .boolean x)))
    | _ => False
  | .arraylength => match st with
    | .ref a :: r => (∃ t n : Nat, px_sh g a = some (.inr (t, n)) ∧ t ≠ 12 ∧ go (pc + 1) ls (.int (Int32.ofNat n) :: r) M) ∨ (px_sh g a = some (.inr (12, 0)) ∧ go (pc + 1) ls (.int (M.1 999 0) :: r) M)
    | _ => False
  | .invokevirtual i => match px_clk (px_ow k) i with
    | some (y, 0, _) => px_recv g y st ∧ px_call k pc ls M go cal y st
    | _ => False
  | .invokestatic i => match px_clk (px_ow k) i with
    | some (y, 1, _) => px_call k pc ls M go cal y st
    | some (y, 2, _) => g = 0 ∧ px_call k pc ls M go cal y st
    | some (_, 3, _) => match st with
      | .int n :: .int dp :: .ref a :: .int sp :: .ref b :: r => (r.map fun v => v.category).sum ≤ 8 ∧ 1 ≤ px_nf k ∧ 26 ≤ px_nl k ∧ ((px_cp g 0 a b sp dp n ∧ go (pc + 3) ls r (px_aI M a (va_cpy (M.1 b) (M.1 a) sp.toNatClampNeg dp.toNatClampNeg n.toNatClampNeg))) ∨ (px_cp g 1 a b sp dp n ∧ go (pc + 3) ls r (px_aL M a (va_cpy (M.2 b) (M.2 a) sp.toNatClampNeg dp.toNatClampNeg n.toNatClampNeg))))
      | _ => False
    | some (_, 4, _) => match st with
      | .int y :: .int x :: r => (r.map fun v => v.category).sum ≤ 8 ∧ 1 ≤ px_nf k ∧ 21 ≤ px_nl k ∧ go (pc + 3) ls (.int (if x < y then y else x) :: r) M
      | _ => False
    | some (_, 5, _) => match st with
      | .int y :: .int x :: r => (r.map fun v => v.category).sum ≤ 8 ∧ 1 ≤ px_nf k ∧ 21 ≤ px_nl k ∧ go (pc + 3) ls (.int (if y < x then y else x) :: r) M
      | _ => False
    | some (_, 6, _) => match st with
      | .long x :: r => (r.map fun v => v.category).sum ≤ 8 ∧ 1 ≤ px_nf k ∧ 21 ≤ px_nl k ∧ go (pc + 3) ls (.long (if 0 < x then x else -x) :: r) M
      | _ => False
    | _ => False
  | .ireturn => match st with
    | [.int v] => px_rk (px_rt k) v ∧ Q (some (.int v)) M
    | _ => False
  | .lreturn => match st with
    | [.long v] => px_rt k = 3 ∧ Q (some (.long v)) M
    | _ => False
  | .areturn => match st with
    | [.ref a] => (px_rt k = 4 ∨ px_rt k = 7) ∧ a ≠ 1003 ∧ Q (some (.ref a)) M
    | _ => False
  | .return_ => match st with
    | [] => px_rt k = 0 ∧ Q none M
    | _ => False
  | _ => False
end PXM
def px_wp (g : Nat) : Nat → Nat → Nat → px_Lo → List Value → px_Mem → px_Po → Prop
  | 0, _, _, _, _, _, _ => False
  | n + 1, k, pc, ls, st, M, Q => match px_in k pc with
    | some (i, len) => px_st g k pc ls M Q (fun pc' ls' st' M' => px_wp g n k pc' ls' st' M' Q) (fun y vs M' Q' => px_wp g n y 0 (px_ent y vs) [] M' Q') len st i
    | none => False
end
section
def px_gw : List Cond := lw_tbl.filter goodWord
def px_w (i : Nat) (w : Cond) : Bool := decide (lw_tbl[i]? = some w) && goodWord w
theorem px_w_in {i : Nat} {w : Cond} (h : px_w i w = true) : w ∈ px_gw := by
  unfold px_w at h
  rw [Bool.and_eq_true] at h
  exact List.mem_filter.mpr ⟨List.mem_of_getElem? (of_decide_eq_true h.1), h.2⟩
theorem px_gw_good {w : Cond} (h : w ∈ px_gw) : (w.onTables && w.keeps) = true ∨ ∃ ty, w = .arrayClass ty := good_of_word (List.mem_filter.mp h).2
theorem px_gw_tbl {w : Cond} (h : w ∈ px_gw) : w ∈ lw_tbl := (List.mem_filter.mp h).1
theorem px_lk_in {α : Type} {c : Nat} {v : α} : ∀ {l : List (Nat × α)}, px_lk c l = some v → (c, v) ∈ l
  | [], h => by cases h
  | (a, w) :: l, h => by
    unfold px_lk at h
    split at h
    · rename_i e
      cases h
      rw [e]
      exact List.mem_cons_self
    · exact List.mem_cons_of_mem _ (px_lk_in h)
def px_len : Instr → Nat
  | .aload _ | .iload _ | .lload _ | .istore _ | .astore _ | .lstore _ | .bipush _ | .ldc _ => 2
  | .iinc _ _ | .sipush _ | .ldc_w _ | .ldc2_w _ | .if_icmp _ _ | .ifCond _ _ | .goto _ | .getfield _ | .putfield _ | .getstatic _ | .invokevirtual _ | .invokestatic _ => 3
  | _ => 1
def px_fin (c j : Nat) : Bool := match px_cls[c]? with
  | some q => (q.2.1 j).2.2.2
  | none => true
def px_oki (k pc len : Nat) : Instr → Bool
  | .istore_n j => decide (len = 1) && decide ((j : Nat) < px_ml k)
  | .astore_n j => decide (len = 1) && decide ((j : Nat) < px_ml k)
  | .lstore_n j => decide (len = 1) && decide ((j : Nat) + 1 < px_ml k) && (px_ls k).contains (j : Nat)
  | .istore j => decide (len = 2) && decide (j < px_ml k)
  | .astore j => decide (len = 2) && decide (j < px_ml k)
  | .lstore j => decide (len = 2) && decide (j + 1 < px_ml k) && (px_ls k).contains j
  | .iinc j _ => decide (len = 3) && decide (j < px_ml k)
  | .if_icmp _ off => decide (len = 3) && decide (0 ≤ (pc : Int) + off)
  | .ifCond _ off => decide (len = 3) && decide (0 ≤ (pc : Int) + off)
  | .goto off => decide (len = 3) && decide (0 ≤ (pc : Int) + off)
  | .tableswitch d lo hi offs => decide (0 ≤ (pc : Int) + d) && offs.toList.all (fun o => decide (0 ≤ (pc : Int) + o)) && decide (hi - lo < offs.size)
  | .putfield i => decide (len = 3) && (match px_flk (px_ow k) i with
    | some (ci, j, _) => !px_fin ci j
    | none => true)
  | .new _ | .invokespecial _ | .anewarray _ | .newarray _ | .multianewarray _ _ => true
  | i => decide (len = px_len i)
def px_chk (k : Nat) : Bool := (px_tb k).all fun ch => ch.all fun e => decide (decode (px_by k) e.1 = .ok (e.2.1, e.2.2)) && px_oki k e.1 e.2.2 e.2.1
def px_wm (k : Nat) : Bool := px_w ((px_pw k).getD 0 0) (.code (px_yn k) (px_by k) (px_ml k) (px_rty (px_rt k))) && px_w ((px_pw k).getD 3 0) (.initialized (px_yn k).cls) && decide ((px_yn k).cls = px_cn (px_ow k)) && plainName (px_yn k).cls && decide ((px_yn k).cls ≠ "java/lang/invoke/MethodHandle") && decide ((px_yn k).cls ≠ "java/lang/invoke/VarHandle")
def px_np (k n : Nat) : Bool := decide ((parseMethodDescriptor (px_yn k).desc).map (fun d => d.parameters.length) = some n)
def px_wi (k : Nat) : Bool := px_w ((px_pw k).getD 1 0) (.instanceMethod (px_yn k)) && px_w ((px_pw k).getD 2 0) (.selects (px_yn k).cls (px_yn k) (px_yn k)) && px_np k (px_na k - 1) && decide (1 ≤ px_na k)
def px_wz (k : Nat) : Bool := px_w ((px_pw k).getD 1 0) (.static (px_yn k)) && px_np k (px_na k)
/-- links -/
def px_kf (c : Nat) (q : Nat × Nat × Nat × Nat) : Bool := if q.2.1 = 12 then (match q.2.2.1 with
    | 0 => px_w q.2.2.2 (.fieldLink (px_cn c) q.1 "java/lang/String" "value" "[B")
    | 1 => px_w q.2.2.2 (.fieldLink (px_cn c) q.1 "java/lang/String" "coder" "B")
    | _ => false)
  else match px_cls[q.2.1]? with
    | some r => px_w q.2.2.2 (.fieldLink (px_cn c) q.1 r.1 (r.2.1 q.2.2.1).2.1 (r.2.1 q.2.2.1).2.2.1) && decide ((r.2.1 q.2.2.1).1 = r.1) && decide (q.2.2.1 < r.2.2)
    | none => false
def px_kg (c : Nat) (q : Nat × Nat × Nat) : Bool := match q.2.1 with
  | 0 => px_w q.2.2 (.fieldLink (px_cn c) q.1 "FrozenTrees$Code" "NUMBERS" "[I")
  | 1 => px_w q.2.2 (.fieldLink (px_cn c) q.1 "FrozenTrees" "ORDERS" "[I")
  | 2 => px_w q.2.2 (.fieldLink (px_cn c) q.1 "java/lang/String" "COMPACT_STRINGS" "Z")
  | 3 => px_w q.2.2 (.fieldLink (px_cn c) q.1 "jdk/internal/util/Preconditions" "SIOOBE_FORMATTER" "Ljava/util/function/BiFunction;")
  | _ => false
def px_km (c : Nat) (q : Nat × Nat × Nat × Nat) : Bool := match q.2.2.1 with
  | 0 => px_w q.2.2.2 (.methodLink (px_cn c) q.1 (px_yn q.2.1)) && px_wi q.2.1 && decide (q.2.1 < px_LAW)
  | 1 => px_w q.2.2.2 (.methodLink (px_cn c) q.1 (px_yn q.2.1)) && px_wz q.2.1 && decide (q.2.1 < px_LAW)
  | 2 => decide ((c, q.1, q.2.1) ∈ px_nest) && px_wz q.2.1 && decide (q.2.1 < px_LAW)
  | 3 => px_w q.2.2.2 (.methodLink (px_cn c) q.1 arraycopyName)
  | 4 => px_w q.2.2.2 (.methodLink (px_cn c) q.1 Lib.Math.max.name)
  | 5 => px_w q.2.2.2 (.methodLink (px_cn c) q.1 Lib.Math.min.name)
  | 6 => px_w q.2.2.2 (.methodLink (px_cn c) q.1 Lib.MathLoose.abs_long.x)
  | _ => false
def px_ki (c : Nat) (q : Nat × Int32 × Nat) : Bool := px_w q.2.2 (.constant (px_cn c) q.1 q.2.1)
def px_kl (c : Nat) (q : Nat × Int64 × Nat) : Bool := px_w q.2.2 (.constantLong (px_cn c) q.1 q.2.1)
end
section
set_option maxRecDepth 100000 in
theorem px_chk_0 : (List.range' 0 13).all px_chk = true := by decide +kernel
set_option maxRecDepth 100000 in
theorem px_chk_13 : (List.range' 13 6).all px_chk = true := by decide +kernel
set_option maxRecDepth 100000 in
theorem px_chk_19 : (List.range' 19 5).all px_chk = true := by decide +kernel
set_option maxRecDepth 100000 in
theorem px_chk_24 : (List.range' 24 8).all px_chk = true := by decide +kernel
set_option maxRecDepth 100000 in
theorem px_chk_32 : (List.range' 32 9).all px_chk = true := by decide +kernel
set_option maxRecDepth 100000 in
theorem px_chk_41 : (List.range' 41 6).all px_chk = true := by decide +kernel
set_option maxRecDepth 100000 in
theorem px_chk_47 : (List.range' 47 4).all px_chk = true := by decide +kernel
set_option maxRecDepth 100000 in
theorem px_chk_51 : (List.range' 51 9).all px_chk = true := by decide +kernel
set_option maxRecDepth 100000 in
theorem px_chk_60 : (List.range' 60 7).all px_chk = true := by decide +kernel
set_option maxRecDepth 100000 in
theorem px_chk_67 : (List.range' 67 6).all px_chk = true := by decide +kernel
set_option maxRecDepth 100000 in
theorem px_chk_73 : (List.range' 73 3).all px_chk = true := by decide +kernel
set_option maxRecDepth 100000 in
theorem px_chk_76 : (List.range' 76 6).all px_chk = true := by decide +kernel
set_option maxRecDepth 100000 in
theorem px_chk_82 : (List.range' 82 6).all px_chk = true := by decide +kernel
end
section
set_option maxRecDepth 100000 in
theorem px_chk_88 : (List.range' 88 10).all px_chk = true := by decide +kernel
set_option maxRecDepth 100000 in
theorem px_chk_98 : (List.range' 98 8).all px_chk = true := by decide +kernel
set_option maxRecDepth 100000 in
theorem px_chk_106 : (List.range' 106 8).all px_chk = true := by decide +kernel
set_option maxRecDepth 100000 in
theorem px_chk_114 : (List.range' 114 8).all px_chk = true := by decide +kernel
set_option maxRecDepth 100000 in
theorem px_chk_122 : (List.range' 122 5).all px_chk = true := by decide +kernel
set_option maxRecDepth 100000 in
theorem px_chk_127 : (List.range' 127 8).all px_chk = true := by decide +kernel
set_option maxRecDepth 100000 in
theorem px_chk_135 : (List.range' 135 4).all px_chk = true := by decide +kernel
set_option maxRecDepth 100000 in
theorem px_chk_139 : (List.range' 139 7).all px_chk = true := by decide +kernel
set_option maxRecDepth 100000 in
theorem px_chk_146 : (List.range' 146 11).all px_chk = true := by decide +kernel
set_option maxRecDepth 100000 in
theorem px_chk_157 : (List.range' 157 11).all px_chk = true := by decide +kernel
set_option maxRecDepth 100000 in
theorem px_chk_168 : (List.range' 168 3).all px_chk = true := by decide +kernel
set_option maxRecDepth 100000 in
theorem px_chk_171 : (List.range' 171 6).all px_chk = true := by decide +kernel
set_option maxRecDepth 100000 in
theorem px_chk_177 : (List.range' 177 13).all px_chk = true := by decide +kernel
end
section
set_option maxRecDepth 100000 in
theorem px_chk_190 : (List.range' 190 4).all px_chk = true := by decide +kernel
set_option maxRecDepth 100000 in
theorem px_chk_194 : (List.range' 194 9).all px_chk = true := by decide +kernel
set_option maxRecDepth 100000 in
theorem px_chk_203 : (List.range' 203 4).all px_chk = true := by decide +kernel
set_option maxRecDepth 100000 in
theorem px_chk_207 : (List.range' 207 6).all px_chk = true := by decide +kernel
set_option maxRecDepth 100000 in
theorem px_chk_213 : (List.range' 213 3).all px_chk = true := by decide +kernel
set_option maxRecDepth 100000 in
theorem px_chk_216 : (List.range' 216 4).all px_chk = true := by decide +kernel
set_option maxRecDepth 100000 in
theorem px_chk_220 : (List.range' 220 2).all px_chk = true := by decide +kernel
set_option maxRecDepth 100000 in
theorem px_chk_222 : (List.range' 222 9).all px_chk = true := by decide +kernel
set_option maxRecDepth 100000 in
theorem px_chk_231 : (List.range' 231 10).all px_chk = true := by decide +kernel
set_option maxRecDepth 100000 in
theorem px_chk_241 : (List.range' 241 10).all px_chk = true := by decide +kernel
set_option maxRecDepth 100000 in
theorem px_chk_251 : (List.range' 251 6).all px_chk = true := by decide +kernel
set_option maxRecDepth 100000 in
theorem px_chk_257 : (List.range' 257 2).all px_chk = true := by decide +kernel
set_option maxRecDepth 100000 in
theorem px_chk_259 : (List.range' 259 4).all px_chk = true := by decide +kernel
end
section
set_option maxRecDepth 100000 in
theorem px_chk_263 : (List.range' 263 6).all px_chk = true := by decide +kernel
set_option maxRecDepth 100000 in
theorem px_chk_269 : (List.range' 269 8).all px_chk = true := by decide +kernel
set_option maxRecDepth 100000 in
theorem px_chk_277 : (List.range' 277 9).all px_chk = true := by decide +kernel
set_option maxRecDepth 100000 in
theorem px_chk_286 : (List.range' 286 6).all px_chk = true := by decide +kernel
set_option maxRecDepth 100000 in
theorem px_chk_292 : (List.range' 292 5).all px_chk = true := by decide +kernel
set_option maxRecDepth 100000 in
theorem px_chk_297 : (List.range' 297 11).all px_chk = true := by decide +kernel
set_option maxRecDepth 100000 in
theorem px_chk_308 : (List.range' 308 4).all px_chk = true := by decide +kernel
set_option maxRecDepth 100000 in
theorem px_chk_312 : (List.range' 312 3).all px_chk = true := by decide +kernel
set_option maxRecDepth 100000 in
theorem px_chk_315 : (List.range' 315 7).all px_chk = true := by decide +kernel
set_option maxRecDepth 100000 in
theorem px_chk_322 : (List.range' 322 7).all px_chk = true := by decide +kernel
set_option maxRecDepth 100000 in
theorem px_chk_329 : (List.range' 329 3).all px_chk = true := by decide +kernel
set_option maxRecDepth 100000 in
theorem px_chk_332 : (List.range' 332 10).all px_chk = true := by decide +kernel
end
section
set_option maxRecDepth 100000 in
theorem px_chl_0 : ((px_tb px_LAW).drop 0 |>.take 3).all (fun ch => ch.all fun e => decide (decode (px_by px_LAW) e.1 = .ok (e.2.1, e.2.2)) && px_oki px_LAW e.1 e.2.2 e.2.1) = true := by decide +kernel
set_option maxRecDepth 100000 in
theorem px_chl_3 : ((px_tb px_LAW).drop 3 |>.take 3).all (fun ch => ch.all fun e => decide (decode (px_by px_LAW) e.1 = .ok (e.2.1, e.2.2)) && px_oki px_LAW e.1 e.2.2 e.2.1) = true := by decide +kernel
set_option maxRecDepth 100000 in
theorem px_chl_6 : ((px_tb px_LAW).drop 6 |>.take 3).all (fun ch => ch.all fun e => decide (decode (px_by px_LAW) e.1 = .ok (e.2.1, e.2.2)) && px_oki px_LAW e.1 e.2.2 e.2.1) = true := by decide +kernel
set_option maxRecDepth 100000 in
theorem px_chl_9 : ((px_tb px_LAW).drop 9 |>.take 3).all (fun ch => ch.all fun e => decide (decode (px_by px_LAW) e.1 = .ok (e.2.1, e.2.2)) && px_oki px_LAW e.1 e.2.2 e.2.1) = true := by decide +kernel
end
section
set_option maxRecDepth 100000 in
theorem px_chl_12 : ((px_tb px_LAW).drop 12 |>.take 3).all (fun ch => ch.all fun e => decide (decode (px_by px_LAW) e.1 = .ok (e.2.1, e.2.2)) && px_oki px_LAW e.1 e.2.2 e.2.1) = true := by decide +kernel
set_option maxRecDepth 100000 in
theorem px_chl_15 : ((px_tb px_LAW).drop 15 |>.take 3).all (fun ch => ch.all fun e => decide (decode (px_by px_LAW) e.1 = .ok (e.2.1, e.2.2)) && px_oki px_LAW e.1 e.2.2 e.2.1) = true := by decide +kernel
set_option maxRecDepth 100000 in
theorem px_chl_18 : ((px_tb px_LAW).drop 18 |>.take 3).all (fun ch => ch.all fun e => decide (decode (px_by px_LAW) e.1 = .ok (e.2.1, e.2.2)) && px_oki px_LAW e.1 e.2.2 e.2.1) = true := by decide +kernel
set_option maxRecDepth 100000 in
theorem px_chl_21 : ((px_tb px_LAW).drop 21 |>.take 3).all (fun ch => ch.all fun e => decide (decode (px_by px_LAW) e.1 = .ok (e.2.1, e.2.2)) && px_oki px_LAW e.1 e.2.2 e.2.1) = true := by decide +kernel
end
section
set_option maxRecDepth 100000 in
theorem px_chl_24 : ((px_tb px_LAW).drop 24 |>.take 3).all (fun ch => ch.all fun e => decide (decode (px_by px_LAW) e.1 = .ok (e.2.1, e.2.2)) && px_oki px_LAW e.1 e.2.2 e.2.1) = true := by decide +kernel
end
section
set_option maxRecDepth 100000 in
theorem px_chl_27 : ((px_tb px_LAW).drop 27 |>.take 3).all (fun ch => ch.all fun e => decide (decode (px_by px_LAW) e.1 = .ok (e.2.1, e.2.2)) && px_oki px_LAW e.1 e.2.2 e.2.1) = true := by decide +kernel
end
section
set_option maxRecDepth 100000 in
theorem px_chl_30 : ((px_tb px_LAW).drop 30 |>.take 3).all (fun ch => ch.all fun e => decide (decode (px_by px_LAW) e.1 = .ok (e.2.1, e.2.2)) && px_oki px_LAW e.1 e.2.2 e.2.1) = true := by decide +kernel
end
section
set_option maxRecDepth 100000 in
theorem px_chm_33 : ((px_tb px_LAW).drop 33 |>.take 1).all (fun ch => ch.all fun e => decide (decode (px_by px_LAW) e.1 = .ok (e.2.1, e.2.2)) && px_oki px_LAW e.1 e.2.2 e.2.1) = true := by decide +kernel
end
section
set_option maxRecDepth 100000 in
theorem px_chm_34 : ((px_tb px_LAW).drop 34 |>.take 1).all (fun ch => ch.all fun e => decide (decode (px_by px_LAW) e.1 = .ok (e.2.1, e.2.2)) && px_oki px_LAW e.1 e.2.2 e.2.1) = true := by decide +kernel
end
section
set_option maxRecDepth 100000 in
theorem px_chm_35 : ((px_tb px_LAW).drop 35 |>.take 1).all (fun ch => ch.all fun e => decide (decode (px_by px_LAW) e.1 = .ok (e.2.1, e.2.2)) && px_oki px_LAW e.1 e.2.2 e.2.1) = true := by decide +kernel
end
section
theorem px_chk_lt (k : Nat) (hk : k < 342) : px_chk k = true := by
  rcases Nat.lt_or_ge k 13 with h | h
  · exact List.all_eq_true.mp px_chk_0 k (by rw [List.mem_range'_1]; omega)
  rcases Nat.lt_or_ge k 19 with h | h
  · exact List.all_eq_true.mp px_chk_13 k (by rw [List.mem_range'_1]; omega)
  rcases Nat.lt_or_ge k 24 with h | h
  · exact List.all_eq_true.mp px_chk_19 k (by rw [List.mem_range'_1]; omega)
  rcases Nat.lt_or_ge k 32 with h | h
  · exact List.all_eq_true.mp px_chk_24 k (by rw [List.mem_range'_1]; omega)
  rcases Nat.lt_or_ge k 41 with h | h
  · exact List.all_eq_true.mp px_chk_32 k (by rw [List.mem_range'_1]; omega)
  rcases Nat.lt_or_ge k 47 with h | h
  · exact List.all_eq_true.mp px_chk_41 k (by rw [List.mem_range'_1]; omega)
  rcases Nat.lt_or_ge k 51 with h | h
  · exact List.all_eq_true.mp px_chk_47 k (by rw [List.mem_range'_1]; omega)
  rcases Nat.lt_or_ge k 60 with h | h
  · exact List.all_eq_true.mp px_chk_51 k (by rw [List.mem_range'_1]; omega)
  rcases Nat.lt_or_ge k 67 with h | h
  · exact List.all_eq_true.mp px_chk_60 k (by rw [List.mem_range'_1]; omega)
  rcases Nat.lt_or_ge k 73 with h | h
  · exact List.all_eq_true.mp px_chk_67 k (by rw [List.mem_range'_1]; omega)
  rcases Nat.lt_or_ge k 76 with h | h
  · exact List.all_eq_true.mp px_chk_73 k (by rw [List.mem_range'_1]; omega)
  rcases Nat.lt_or_ge k 82 with h | h
  · exact List.all_eq_true.mp px_chk_76 k (by rw [List.mem_range'_1]; omega)
  rcases Nat.lt_or_ge k 88 with h | h
  · exact List.all_eq_true.mp px_chk_82 k (by rw [List.mem_range'_1]; omega)
  rcases Nat.lt_or_ge k 98 with h | h
  · exact List.all_eq_true.mp px_chk_88 k (by rw [List.mem_range'_1]; omega)
  rcases Nat.lt_or_ge k 106 with h | h
  · exact List.all_eq_true.mp px_chk_98 k (by rw [List.mem_range'_1]; omega)
  rcases Nat.lt_or_ge k 114 with h | h
  · exact List.all_eq_true.mp px_chk_106 k (by rw [List.mem_range'_1]; omega)
  rcases Nat.lt_or_ge k 122 with h | h
  · exact List.all_eq_true.mp px_chk_114 k (by rw [List.mem_range'_1]; omega)
  rcases Nat.lt_or_ge k 127 with h | h
  · exact List.all_eq_true.mp px_chk_122 k (by rw [List.mem_range'_1]; omega)
  rcases Nat.lt_or_ge k 135 with h | h
  · exact List.all_eq_true.mp px_chk_127 k (by rw [List.mem_range'_1]; omega)
  rcases Nat.lt_or_ge k 139 with h | h
  · exact List.all_eq_true.mp px_chk_135 k (by rw [List.mem_range'_1]; omega)
  rcases Nat.lt_or_ge k 146 with h | h
  · exact List.all_eq_true.mp px_chk_139 k (by rw [List.mem_range'_1]; omega)
  rcases Nat.lt_or_ge k 157 with h | h
  · exact List.all_eq_true.mp px_chk_146 k (by rw [List.mem_range'_1]; omega)
  rcases Nat.lt_or_ge k 168 with h | h
  · exact List.all_eq_true.mp px_chk_157 k (by rw [List.mem_range'_1]; omega)
  rcases Nat.lt_or_ge k 171 with h | h
  · exact List.all_eq_true.mp px_chk_168 k (by rw [List.mem_range'_1]; omega)
  rcases Nat.lt_or_ge k 177 with h | h
  · exact List.all_eq_true.mp px_chk_171 k (by rw [List.mem_range'_1]; omega)
  rcases Nat.lt_or_ge k 190 with h | h
  · exact List.all_eq_true.mp px_chk_177 k (by rw [List.mem_range'_1]; omega)
  rcases Nat.lt_or_ge k 194 with h | h
  · exact List.all_eq_true.mp px_chk_190 k (by rw [List.mem_range'_1]; omega)
  rcases Nat.lt_or_ge k 203 with h | h
  · exact List.all_eq_true.mp px_chk_194 k (by rw [List.mem_range'_1]; omega)
  rcases Nat.lt_or_ge k 207 with h | h
  · exact List.all_eq_true.mp px_chk_203 k (by rw [List.mem_range'_1]; omega)
  rcases Nat.lt_or_ge k 213 with h | h
  · exact List.all_eq_true.mp px_chk_207 k (by rw [List.mem_range'_1]; omega)
  rcases Nat.lt_or_ge k 216 with h | h
  · exact List.all_eq_true.mp px_chk_213 k (by rw [List.mem_range'_1]; omega)
  rcases Nat.lt_or_ge k 220 with h | h
  · exact List.all_eq_true.mp px_chk_216 k (by rw [List.mem_range'_1]; omega)
  rcases Nat.lt_or_ge k 222 with h | h
  · exact List.all_eq_true.mp px_chk_220 k (by rw [List.mem_range'_1]; omega)
  rcases Nat.lt_or_ge k 231 with h | h
  · exact List.all_eq_true.mp px_chk_222 k (by rw [List.mem_range'_1]; omega)
  rcases Nat.lt_or_ge k 241 with h | h
  · exact List.all_eq_true.mp px_chk_231 k (by rw [List.mem_range'_1]; omega)
  rcases Nat.lt_or_ge k 251 with h | h
  · exact List.all_eq_true.mp px_chk_241 k (by rw [List.mem_range'_1]; omega)
  rcases Nat.lt_or_ge k 257 with h | h
  · exact List.all_eq_true.mp px_chk_251 k (by rw [List.mem_range'_1]; omega)
  rcases Nat.lt_or_ge k 259 with h | h
  · exact List.all_eq_true.mp px_chk_257 k (by rw [List.mem_range'_1]; omega)
  rcases Nat.lt_or_ge k 263 with h | h
  · exact List.all_eq_true.mp px_chk_259 k (by rw [List.mem_range'_1]; omega)
  rcases Nat.lt_or_ge k 269 with h | h
  · exact List.all_eq_true.mp px_chk_263 k (by rw [List.mem_range'_1]; omega)
  rcases Nat.lt_or_ge k 277 with h | h
  · exact List.all_eq_true.mp px_chk_269 k (by rw [List.mem_range'_1]; omega)
  rcases Nat.lt_or_ge k 286 with h | h
  · exact List.all_eq_true.mp px_chk_277 k (by rw [List.mem_range'_1]; omega)
  rcases Nat.lt_or_ge k 292 with h | h
  · exact List.all_eq_true.mp px_chk_286 k (by rw [List.mem_range'_1]; omega)
  rcases Nat.lt_or_ge k 297 with h | h
  · exact List.all_eq_true.mp px_chk_292 k (by rw [List.mem_range'_1]; omega)
  rcases Nat.lt_or_ge k 308 with h | h
  · exact List.all_eq_true.mp px_chk_297 k (by rw [List.mem_range'_1]; omega)
  rcases Nat.lt_or_ge k 312 with h | h
  · exact List.all_eq_true.mp px_chk_308 k (by rw [List.mem_range'_1]; omega)
  rcases Nat.lt_or_ge k 315 with h | h
  · exact List.all_eq_true.mp px_chk_312 k (by rw [List.mem_range'_1]; omega)
  rcases Nat.lt_or_ge k 322 with h | h
  · exact List.all_eq_true.mp px_chk_315 k (by rw [List.mem_range'_1]; omega)
  rcases Nat.lt_or_ge k 329 with h | h
  · exact List.all_eq_true.mp px_chk_322 k (by rw [List.mem_range'_1]; omega)
  rcases Nat.lt_or_ge k 332 with h | h
  · exact List.all_eq_true.mp px_chk_329 k (by rw [List.mem_range'_1]; omega)
  rcases Nat.lt_or_ge k 342 with h | h
  · exact List.all_eq_true.mp px_chk_332 k (by rw [List.mem_range'_1]; omega)
  · omega
theorem px_all3 {α : Type} {P : α → Bool} {l : List α} (h : ∀ a, a < 12 → ((l.drop (3 * a)).take 3).all P = true) (hl : l.length ≤ 36) : l.all P = true := by
  rw [List.all_eq_true]
  intro x hx
  obtain ⟨j, hj⟩ := List.getElem?_of_mem hx
  have hlt : j < l.length := (List.getElem?_eq_some_iff.mp hj).1
  have h1 := h (j / 3) (by omega)
  rw [List.all_eq_true] at h1
  apply h1
  have h2 : ((l.drop (3 * (j / 3))).take 3)[j % 3]? = some x := by
    rw [List.getElem?_take_of_lt (by omega), List.getElem?_drop, show 3 * (j / 3) + j % 3 = j by omega]
    exact hj
  exact List.mem_of_getElem? h2
theorem px_tk3 {α : Type} {P : α → Bool} {l : List α} {a : Nat} (h0 : ((l.drop a).take 1).all P = true) (h1 : ((l.drop (a + 1)).take 1).all P = true) (h2 : ((l.drop (a + 2)).take 1).all P = true) : ((l.drop a).take 3).all P = true := by
  have e1 : l.drop (a + 1) = (l.drop a).drop 1 := by simp [List.drop_drop]
  have e2 : l.drop (a + 2) = (l.drop a).drop 2 := by simp [List.drop_drop]
  rw [e1] at h1
  rw [e2] at h2
  generalize l.drop a = L at h0 h1 h2
  match L, h0, h1, h2 with
  | [], _, _, _ => rfl
  | [x], h0, _, _ => simpa using h0
  | [x, y], h0, h1, _ => simp at h0 h1; simp [h0, h1]
  | x :: y :: z :: t, h0, h1, h2 => simp at h0 h1 h2; simp [h0, h1, h2]
theorem px_chk_law : px_chk px_LAW = true := by
  refine px_all3 (fun a ha => ?_) (by decide +kernel)
  match a, ha with
  | 0, _ => exact px_chl_0
  | 1, _ => exact px_chl_3
  | 2, _ => exact px_chl_6
  | 3, _ => exact px_chl_9
  | 4, _ => exact px_chl_12
  | 5, _ => exact px_chl_15
  | 6, _ => exact px_chl_18
  | 7, _ => exact px_chl_21
  | 8, _ => exact px_chl_24
  | 9, _ => exact px_chl_27
  | 10, _ => exact px_chl_30
  | 11, _ => exact px_tk3 (a := 33) px_chm_33 px_chm_34 px_chm_35
theorem px_chk_all (k : Nat) (hk : k < px_NM) : px_chk k = true := by
  have hk2 : k < 343 := hk
  rcases Nat.lt_or_ge k 342 with h | h
  · exact px_chk_lt k h
  · rw [show k = px_LAW from (by show k = 342; omega)]
    exact px_chk_law
theorem px_in_ok {k pc len : Nat} {i : Instr} (hk : k < px_NM) (h : px_in k pc = some (i, len)) : decode (px_by k) pc = .ok (i, len) ∧ px_oki k pc len i = true := by
  have h1 := px_lk_in h
  have h2 := px_chk_all k hk
  unfold px_chk at h2
  rw [List.all_eq_true] at h2
  by_cases hc : pc / 64 < (px_tb k).length
  · have h3 := h2 ((px_tb k).getD (pc / 64) []) (by rw [List.getD_eq_getElem?_getD, List.getElem?_eq_getElem hc]; exact List.getElem_mem hc)
    rw [List.all_eq_true] at h3
    have h4 := h3 _ h1
    rw [Bool.and_eq_true] at h4
    exact ⟨of_decide_eq_true h4.1, h4.2⟩
  · rw [List.getD_eq_getElem?_getD, List.getElem?_eq_none (by omega)] at h1
    cases h1
end
section
set_option maxRecDepth 100000 in
theorem px_wm_0 : (List.range' 0 35).all px_wm = true := by decide +kernel
set_option maxRecDepth 100000 in
theorem px_wm_35 : (List.range' 35 35).all px_wm = true := by decide +kernel
set_option maxRecDepth 100000 in
theorem px_wm_70 : (List.range' 70 35).all px_wm = true := by decide +kernel
set_option maxRecDepth 100000 in
theorem px_wm_105 : (List.range' 105 35).all px_wm = true := by decide +kernel
set_option maxRecDepth 100000 in
theorem px_wm_140 : (List.range' 140 35).all px_wm = true := by decide +kernel
set_option maxRecDepth 100000 in
theorem px_wm_175 : (List.range' 175 35).all px_wm = true := by decide +kernel
set_option maxRecDepth 100000 in
theorem px_wm_210 : (List.range' 210 35).all px_wm = true := by decide +kernel
set_option maxRecDepth 100000 in
theorem px_wm_245 : (List.range' 245 35).all px_wm = true := by decide +kernel
set_option maxRecDepth 100000 in
theorem px_wm_280 : (List.range' 280 35).all px_wm = true := by decide +kernel
set_option maxRecDepth 100000 in
theorem px_wm_315 : (List.range' 315 27).all px_wm = true := by decide +kernel
theorem px_wm_all (k : Nat) (hk : k < px_LAW) : px_wm k = true := by
  have hk2 : k < 342 := hk
  rcases Nat.lt_or_ge k 35 with h | h
  · exact List.all_eq_true.mp px_wm_0 k (by rw [List.mem_range'_1]; omega)
  rcases Nat.lt_or_ge k 70 with h | h
  · exact List.all_eq_true.mp px_wm_35 k (by rw [List.mem_range'_1]; omega)
  rcases Nat.lt_or_ge k 105 with h | h
  · exact List.all_eq_true.mp px_wm_70 k (by rw [List.mem_range'_1]; omega)
  rcases Nat.lt_or_ge k 140 with h | h
  · exact List.all_eq_true.mp px_wm_105 k (by rw [List.mem_range'_1]; omega)
  rcases Nat.lt_or_ge k 175 with h | h
  · exact List.all_eq_true.mp px_wm_140 k (by rw [List.mem_range'_1]; omega)
  rcases Nat.lt_or_ge k 210 with h | h
  · exact List.all_eq_true.mp px_wm_175 k (by rw [List.mem_range'_1]; omega)
  rcases Nat.lt_or_ge k 245 with h | h
  · exact List.all_eq_true.mp px_wm_210 k (by rw [List.mem_range'_1]; omega)
  rcases Nat.lt_or_ge k 280 with h | h
  · exact List.all_eq_true.mp px_wm_245 k (by rw [List.mem_range'_1]; omega)
  rcases Nat.lt_or_ge k 315 with h | h
  · exact List.all_eq_true.mp px_wm_280 k (by rw [List.mem_range'_1]; omega)
  rcases Nat.lt_or_ge k 342 with h | h
  · exact List.all_eq_true.mp px_wm_315 k (by rw [List.mem_range'_1]; omega)
  · omega
end
section
set_option maxRecDepth 100000 in
theorem px_qf_0 : (px_fl.getD 0 []).all (px_kf 0) = true := by decide +kernel
set_option maxRecDepth 100000 in
theorem px_qf_1 : (px_fl.getD 1 []).all (px_kf 1) = true := by decide +kernel
set_option maxRecDepth 100000 in
theorem px_qf_2 : (px_fl.getD 2 []).all (px_kf 2) = true := by decide +kernel
set_option maxRecDepth 100000 in
theorem px_qf_3 : (px_fl.getD 3 []).all (px_kf 3) = true := by decide +kernel
set_option maxRecDepth 100000 in
theorem px_qf_4 : (px_fl.getD 4 []).all (px_kf 4) = true := by decide +kernel
set_option maxRecDepth 100000 in
theorem px_qf_5 : (px_fl.getD 5 []).all (px_kf 5) = true := by decide +kernel
set_option maxRecDepth 100000 in
theorem px_qf_6 : (px_fl.getD 6 []).all (px_kf 6) = true := by decide +kernel
set_option maxRecDepth 100000 in
theorem px_qf_7 : (px_fl.getD 7 []).all (px_kf 7) = true := by decide +kernel
set_option maxRecDepth 100000 in
theorem px_qf_8 : (px_fl.getD 8 []).all (px_kf 8) = true := by decide +kernel
set_option maxRecDepth 100000 in
theorem px_qf_9 : (px_fl.getD 9 []).all (px_kf 9) = true := by decide +kernel
set_option maxRecDepth 100000 in
theorem px_qf_10 : (px_fl.getD 10 []).all (px_kf 10) = true := by decide +kernel
set_option maxRecDepth 100000 in
theorem px_qf_11 : (px_fl.getD 11 []).all (px_kf 11) = true := by decide +kernel
set_option maxRecDepth 100000 in
theorem px_qf_12 : (px_fl.getD 12 []).all (px_kf 12) = true := by decide +kernel
set_option maxRecDepth 100000 in
theorem px_qf_13 : (px_fl.getD 13 []).all (px_kf 13) = true := by decide +kernel
set_option maxRecDepth 100000 in
theorem px_qf_14 : (px_fl.getD 14 []).all (px_kf 14) = true := by decide +kernel
set_option maxRecDepth 100000 in
theorem px_qf_15 : (px_fl.getD 15 []).all (px_kf 15) = true := by decide +kernel
set_option maxRecDepth 100000 in
theorem px_qf_16 : (px_fl.getD 16 []).all (px_kf 16) = true := by decide +kernel
set_option maxRecDepth 100000 in
theorem px_qf_17 : (px_fl.getD 17 []).all (px_kf 17) = true := by decide +kernel
set_option maxRecDepth 100000 in
theorem px_qf_18 : (px_fl.getD 18 []).all (px_kf 18) = true := by decide +kernel
set_option maxRecDepth 100000 in
theorem px_qf_19 : (px_fl.getD 19 []).all (px_kf 19) = true := by decide +kernel
set_option maxRecDepth 100000 in
theorem px_qf_20 : (px_fl.getD 20 []).all (px_kf 20) = true := by decide +kernel
theorem px_qf_all (c : Nat) : (px_fl.getD c []).all (px_kf c) = true := by
  match c with
  | 0 => exact px_qf_0
  | 1 => exact px_qf_1
  | 2 => exact px_qf_2
  | 3 => exact px_qf_3
  | 4 => exact px_qf_4
  | 5 => exact px_qf_5
  | 6 => exact px_qf_6
  | 7 => exact px_qf_7
  | 8 => exact px_qf_8
  | 9 => exact px_qf_9
  | 10 => exact px_qf_10
  | 11 => exact px_qf_11
  | 12 => exact px_qf_12
  | 13 => exact px_qf_13
  | 14 => exact px_qf_14
  | 15 => exact px_qf_15
  | 16 => exact px_qf_16
  | 17 => exact px_qf_17
  | 18 => exact px_qf_18
  | 19 => exact px_qf_19
  | 20 => exact px_qf_20
  | n + 21 =>
    rw [List.getD_eq_getElem?_getD, List.getElem?_eq_none (by show 21 ≤ _; omega)]
    rfl
set_option maxRecDepth 100000 in
theorem px_qg_0 : (px_gsl.getD 0 []).all (px_kg 0) = true := by decide +kernel
set_option maxRecDepth 100000 in
theorem px_qg_1 : (px_gsl.getD 1 []).all (px_kg 1) = true := by decide +kernel
set_option maxRecDepth 100000 in
theorem px_qg_2 : (px_gsl.getD 2 []).all (px_kg 2) = true := by decide +kernel
set_option maxRecDepth 100000 in
theorem px_qg_3 : (px_gsl.getD 3 []).all (px_kg 3) = true := by decide +kernel
set_option maxRecDepth 100000 in
theorem px_qg_4 : (px_gsl.getD 4 []).all (px_kg 4) = true := by decide +kernel
set_option maxRecDepth 100000 in
theorem px_qg_5 : (px_gsl.getD 5 []).all (px_kg 5) = true := by decide +kernel
set_option maxRecDepth 100000 in
theorem px_qg_6 : (px_gsl.getD 6 []).all (px_kg 6) = true := by decide +kernel
set_option maxRecDepth 100000 in
theorem px_qg_7 : (px_gsl.getD 7 []).all (px_kg 7) = true := by decide +kernel
set_option maxRecDepth 100000 in
theorem px_qg_8 : (px_gsl.getD 8 []).all (px_kg 8) = true := by decide +kernel
set_option maxRecDepth 100000 in
theorem px_qg_9 : (px_gsl.getD 9 []).all (px_kg 9) = true := by decide +kernel
set_option maxRecDepth 100000 in
theorem px_qg_10 : (px_gsl.getD 10 []).all (px_kg 10) = true := by decide +kernel
set_option maxRecDepth 100000 in
theorem px_qg_11 : (px_gsl.getD 11 []).all (px_kg 11) = true := by decide +kernel
set_option maxRecDepth 100000 in
theorem px_qg_12 : (px_gsl.getD 12 []).all (px_kg 12) = true := by decide +kernel
set_option maxRecDepth 100000 in
theorem px_qg_13 : (px_gsl.getD 13 []).all (px_kg 13) = true := by decide +kernel
set_option maxRecDepth 100000 in
theorem px_qg_14 : (px_gsl.getD 14 []).all (px_kg 14) = true := by decide +kernel
set_option maxRecDepth 100000 in
theorem px_qg_15 : (px_gsl.getD 15 []).all (px_kg 15) = true := by decide +kernel
set_option maxRecDepth 100000 in
theorem px_qg_16 : (px_gsl.getD 16 []).all (px_kg 16) = true := by decide +kernel
set_option maxRecDepth 100000 in
theorem px_qg_17 : (px_gsl.getD 17 []).all (px_kg 17) = true := by decide +kernel
set_option maxRecDepth 100000 in
theorem px_qg_18 : (px_gsl.getD 18 []).all (px_kg 18) = true := by decide +kernel
set_option maxRecDepth 100000 in
theorem px_qg_19 : (px_gsl.getD 19 []).all (px_kg 19) = true := by decide +kernel
set_option maxRecDepth 100000 in
theorem px_qg_20 : (px_gsl.getD 20 []).all (px_kg 20) = true := by decide +kernel
theorem px_qg_all (c : Nat) : (px_gsl.getD c []).all (px_kg c) = true := by
  match c with
  | 0 => exact px_qg_0
  | 1 => exact px_qg_1
  | 2 => exact px_qg_2
  | 3 => exact px_qg_3
  | 4 => exact px_qg_4
  | 5 => exact px_qg_5
  | 6 => exact px_qg_6
  | 7 => exact px_qg_7
  | 8 => exact px_qg_8
  | 9 => exact px_qg_9
  | 10 => exact px_qg_10
  | 11 => exact px_qg_11
  | 12 => exact px_qg_12
  | 13 => exact px_qg_13
  | 14 => exact px_qg_14
  | 15 => exact px_qg_15
  | 16 => exact px_qg_16
  | 17 => exact px_qg_17
  | 18 => exact px_qg_18
  | 19 => exact px_qg_19
  | 20 => exact px_qg_20
  | n + 21 =>
    rw [List.getD_eq_getElem?_getD, List.getElem?_eq_none (by show 21 ≤ _; omega)]
    rfl
set_option maxRecDepth 100000 in
theorem px_qm_0 : (px_cl.getD 0 []).all (px_km 0) = true := by decide +kernel
set_option maxRecDepth 100000 in
theorem px_qm_1 : (px_cl.getD 1 []).all (px_km 1) = true := by decide +kernel
set_option maxRecDepth 100000 in
theorem px_qm_2 : (px_cl.getD 2 []).all (px_km 2) = true := by decide +kernel
set_option maxRecDepth 100000 in
theorem px_qm_3 : (px_cl.getD 3 []).all (px_km 3) = true := by decide +kernel
set_option maxRecDepth 100000 in
theorem px_qm_4 : (px_cl.getD 4 []).all (px_km 4) = true := by decide +kernel
set_option maxRecDepth 100000 in
theorem px_qm_5 : (px_cl.getD 5 []).all (px_km 5) = true := by decide +kernel
set_option maxRecDepth 100000 in
theorem px_qm_6 : (px_cl.getD 6 []).all (px_km 6) = true := by decide +kernel
set_option maxRecDepth 100000 in
theorem px_qm_7 : (px_cl.getD 7 []).all (px_km 7) = true := by decide +kernel
set_option maxRecDepth 100000 in
theorem px_qm_8 : (px_cl.getD 8 []).all (px_km 8) = true := by decide +kernel
set_option maxRecDepth 100000 in
theorem px_qm_9 : (px_cl.getD 9 []).all (px_km 9) = true := by decide +kernel
set_option maxRecDepth 100000 in
theorem px_qm_10 : (px_cl.getD 10 []).all (px_km 10) = true := by decide +kernel
set_option maxRecDepth 100000 in
theorem px_qm_11 : (px_cl.getD 11 []).all (px_km 11) = true := by decide +kernel
set_option maxRecDepth 100000 in
theorem px_qm_12 : (px_cl.getD 12 []).all (px_km 12) = true := by decide +kernel
set_option maxRecDepth 100000 in
theorem px_qm_13 : (px_cl.getD 13 []).all (px_km 13) = true := by decide +kernel
set_option maxRecDepth 100000 in
theorem px_qm_14 : (px_cl.getD 14 []).all (px_km 14) = true := by decide +kernel
set_option maxRecDepth 100000 in
theorem px_qm_15 : (px_cl.getD 15 []).all (px_km 15) = true := by decide +kernel
set_option maxRecDepth 100000 in
theorem px_qm_16 : (px_cl.getD 16 []).all (px_km 16) = true := by decide +kernel
set_option maxRecDepth 100000 in
theorem px_qm_17 : (px_cl.getD 17 []).all (px_km 17) = true := by decide +kernel
set_option maxRecDepth 100000 in
theorem px_qm_18 : (px_cl.getD 18 []).all (px_km 18) = true := by decide +kernel
set_option maxRecDepth 100000 in
theorem px_qm_19 : (px_cl.getD 19 []).all (px_km 19) = true := by decide +kernel
set_option maxRecDepth 100000 in
theorem px_qm_20 : (px_cl.getD 20 []).all (px_km 20) = true := by decide +kernel
theorem px_qm_all (c : Nat) : (px_cl.getD c []).all (px_km c) = true := by
  match c with
  | 0 => exact px_qm_0
  | 1 => exact px_qm_1
  | 2 => exact px_qm_2
  | 3 => exact px_qm_3
  | 4 => exact px_qm_4
  | 5 => exact px_qm_5
  | 6 => exact px_qm_6
  | 7 => exact px_qm_7
  | 8 => exact px_qm_8
  | 9 => exact px_qm_9
  | 10 => exact px_qm_10
  | 11 => exact px_qm_11
  | 12 => exact px_qm_12
  | 13 => exact px_qm_13
  | 14 => exact px_qm_14
  | 15 => exact px_qm_15
  | 16 => exact px_qm_16
  | 17 => exact px_qm_17
  | 18 => exact px_qm_18
  | 19 => exact px_qm_19
  | 20 => exact px_qm_20
  | n + 21 =>
    rw [List.getD_eq_getElem?_getD, List.getElem?_eq_none (by show 21 ≤ _; omega)]
    rfl
set_option maxRecDepth 100000 in
theorem px_qi_0 : (px_kcl.getD 0 []).all (px_ki 0) = true := by decide +kernel
set_option maxRecDepth 100000 in
theorem px_qi_1 : (px_kcl.getD 1 []).all (px_ki 1) = true := by decide +kernel
set_option maxRecDepth 100000 in
theorem px_qi_2 : (px_kcl.getD 2 []).all (px_ki 2) = true := by decide +kernel
set_option maxRecDepth 100000 in
theorem px_qi_3 : (px_kcl.getD 3 []).all (px_ki 3) = true := by decide +kernel
set_option maxRecDepth 100000 in
theorem px_qi_4 : (px_kcl.getD 4 []).all (px_ki 4) = true := by decide +kernel
set_option maxRecDepth 100000 in
theorem px_qi_5 : (px_kcl.getD 5 []).all (px_ki 5) = true := by decide +kernel
set_option maxRecDepth 100000 in
theorem px_qi_6 : (px_kcl.getD 6 []).all (px_ki 6) = true := by decide +kernel
set_option maxRecDepth 100000 in
theorem px_qi_7 : (px_kcl.getD 7 []).all (px_ki 7) = true := by decide +kernel
set_option maxRecDepth 100000 in
theorem px_qi_8 : (px_kcl.getD 8 []).all (px_ki 8) = true := by decide +kernel
set_option maxRecDepth 100000 in
theorem px_qi_9 : (px_kcl.getD 9 []).all (px_ki 9) = true := by decide +kernel
set_option maxRecDepth 100000 in
theorem px_qi_10 : (px_kcl.getD 10 []).all (px_ki 10) = true := by decide +kernel
set_option maxRecDepth 100000 in
theorem px_qi_11 : (px_kcl.getD 11 []).all (px_ki 11) = true := by decide +kernel
set_option maxRecDepth 100000 in
theorem px_qi_12 : (px_kcl.getD 12 []).all (px_ki 12) = true := by decide +kernel
set_option maxRecDepth 100000 in
theorem px_qi_13 : (px_kcl.getD 13 []).all (px_ki 13) = true := by decide +kernel
set_option maxRecDepth 100000 in
theorem px_qi_14 : (px_kcl.getD 14 []).all (px_ki 14) = true := by decide +kernel
set_option maxRecDepth 100000 in
theorem px_qi_15 : (px_kcl.getD 15 []).all (px_ki 15) = true := by decide +kernel
set_option maxRecDepth 100000 in
theorem px_qi_16 : (px_kcl.getD 16 []).all (px_ki 16) = true := by decide +kernel
set_option maxRecDepth 100000 in
theorem px_qi_17 : (px_kcl.getD 17 []).all (px_ki 17) = true := by decide +kernel
set_option maxRecDepth 100000 in
theorem px_qi_18 : (px_kcl.getD 18 []).all (px_ki 18) = true := by decide +kernel
set_option maxRecDepth 100000 in
theorem px_qi_19 : (px_kcl.getD 19 []).all (px_ki 19) = true := by decide +kernel
set_option maxRecDepth 100000 in
theorem px_qi_20 : (px_kcl.getD 20 []).all (px_ki 20) = true := by decide +kernel
theorem px_qi_all (c : Nat) : (px_kcl.getD c []).all (px_ki c) = true := by
  match c with
  | 0 => exact px_qi_0
  | 1 => exact px_qi_1
  | 2 => exact px_qi_2
  | 3 => exact px_qi_3
  | 4 => exact px_qi_4
  | 5 => exact px_qi_5
  | 6 => exact px_qi_6
  | 7 => exact px_qi_7
  | 8 => exact px_qi_8
  | 9 => exact px_qi_9
  | 10 => exact px_qi_10
  | 11 => exact px_qi_11
  | 12 => exact px_qi_12
  | 13 => exact px_qi_13
  | 14 => exact px_qi_14
  | 15 => exact px_qi_15
  | 16 => exact px_qi_16
  | 17 => exact px_qi_17
  | 18 => exact px_qi_18
  | 19 => exact px_qi_19
  | 20 => exact px_qi_20
  | n + 21 =>
    rw [List.getD_eq_getElem?_getD, List.getElem?_eq_none (by show 21 ≤ _; omega)]
    rfl
set_option maxRecDepth 100000 in
theorem px_ql_0 : (px_kjl.getD 0 []).all (px_kl 0) = true := by decide +kernel
set_option maxRecDepth 100000 in
theorem px_ql_1 : (px_kjl.getD 1 []).all (px_kl 1) = true := by decide +kernel
set_option maxRecDepth 100000 in
theorem px_ql_2 : (px_kjl.getD 2 []).all (px_kl 2) = true := by decide +kernel
set_option maxRecDepth 100000 in
theorem px_ql_3 : (px_kjl.getD 3 []).all (px_kl 3) = true := by decide +kernel
set_option maxRecDepth 100000 in
theorem px_ql_4 : (px_kjl.getD 4 []).all (px_kl 4) = true := by decide +kernel
set_option maxRecDepth 100000 in
theorem px_ql_5 : (px_kjl.getD 5 []).all (px_kl 5) = true := by decide +kernel
set_option maxRecDepth 100000 in
theorem px_ql_6 : (px_kjl.getD 6 []).all (px_kl 6) = true := by decide +kernel
set_option maxRecDepth 100000 in
theorem px_ql_7 : (px_kjl.getD 7 []).all (px_kl 7) = true := by decide +kernel
set_option maxRecDepth 100000 in
theorem px_ql_8 : (px_kjl.getD 8 []).all (px_kl 8) = true := by decide +kernel
set_option maxRecDepth 100000 in
theorem px_ql_9 : (px_kjl.getD 9 []).all (px_kl 9) = true := by decide +kernel
set_option maxRecDepth 100000 in
theorem px_ql_10 : (px_kjl.getD 10 []).all (px_kl 10) = true := by decide +kernel
set_option maxRecDepth 100000 in
theorem px_ql_11 : (px_kjl.getD 11 []).all (px_kl 11) = true := by decide +kernel
set_option maxRecDepth 100000 in
theorem px_ql_12 : (px_kjl.getD 12 []).all (px_kl 12) = true := by decide +kernel
set_option maxRecDepth 100000 in
theorem px_ql_13 : (px_kjl.getD 13 []).all (px_kl 13) = true := by decide +kernel
set_option maxRecDepth 100000 in
theorem px_ql_14 : (px_kjl.getD 14 []).all (px_kl 14) = true := by decide +kernel
set_option maxRecDepth 100000 in
theorem px_ql_15 : (px_kjl.getD 15 []).all (px_kl 15) = true := by decide +kernel
set_option maxRecDepth 100000 in
theorem px_ql_16 : (px_kjl.getD 16 []).all (px_kl 16) = true := by decide +kernel
set_option maxRecDepth 100000 in
theorem px_ql_17 : (px_kjl.getD 17 []).all (px_kl 17) = true := by decide +kernel
set_option maxRecDepth 100000 in
theorem px_ql_18 : (px_kjl.getD 18 []).all (px_kl 18) = true := by decide +kernel
set_option maxRecDepth 100000 in
theorem px_ql_19 : (px_kjl.getD 19 []).all (px_kl 19) = true := by decide +kernel
set_option maxRecDepth 100000 in
theorem px_ql_20 : (px_kjl.getD 20 []).all (px_kl 20) = true := by decide +kernel
theorem px_ql_all (c : Nat) : (px_kjl.getD c []).all (px_kl c) = true := by
  match c with
  | 0 => exact px_ql_0
  | 1 => exact px_ql_1
  | 2 => exact px_ql_2
  | 3 => exact px_ql_3
  | 4 => exact px_ql_4
  | 5 => exact px_ql_5
  | 6 => exact px_ql_6
  | 7 => exact px_ql_7
  | 8 => exact px_ql_8
  | 9 => exact px_ql_9
  | 10 => exact px_ql_10
  | 11 => exact px_ql_11
  | 12 => exact px_ql_12
  | 13 => exact px_ql_13
  | 14 => exact px_ql_14
  | 15 => exact px_ql_15
  | 16 => exact px_ql_16
  | 17 => exact px_ql_17
  | 18 => exact px_ql_18
  | 19 => exact px_ql_19
  | 20 => exact px_ql_20
  | n + 21 =>
    rw [List.getD_eq_getElem?_getD, List.getElem?_eq_none (by show 21 ≤ _; omega)]
    rfl
end
section
def px_lyp : List (List Nat) := [[], [361, 363, 365, 367, 369, 371, 373], [426, 428, 430, 432], [186, 188, 190, 192, 194, 196, 198], [257, 259, 261, 263], [278, 280, 282, 284], [393, 395, 397, 399, 401, 403, 405, 407, 409], [224, 226, 228, 230, 232, 234, 236], [165, 167], [330, 332, 334, 336, 338, 340, 342, 344, 346, 348], [449, 451, 453, 455, 457, 459, 461, 463, 465, 467, 469, 471], [1348, 1350, 1352, 1354, 1356, 1358, 1360, 1362, 1364, 1366, 1368, 1370, 1372, 1374, 1376, 1378, 1380, 1382, 1384, 1386, 1388, 1390, 1392, 1394, 1396, 1398, 1400, 1402, 1404, 1406, 1408, 1410, 1412, 1414, 1416, 1418, 1420, 1422, 1424, 1426, 1428, 1430, 1432, 1434, 1436, 1438, 1440, 1442, 1444, 1446, 1448, 1450, 1452, 1454, 1456, 1458, 1460, 1462]]
def px_tyk (ci k : Nat) (d : String) : Bool := match px_fc ci k with
  | 0 => decide (parseFieldDescriptor d = some .int)
  | 1 => decide (parseFieldDescriptor d = some .long)
  | 2 => decide (parseFieldDescriptor d = some .boolean)
  | _ => (parseFieldDescriptor d).isSome
def px_ck (ci : Nat) : Bool := match px_cls[ci]? with
  | some q => (List.range q.2.2).all (fun i => px_w ((px_lyp.getD ci []).getD i 0) (u_lay q.1 q.2.1 i) && px_tyk ci i (q.2.1 i).2.2.1) && (List.range q.2.2).all (fun a => (List.range q.2.2).all fun b => decide (a = b) || decide ((q.2.1 a).2.1 ≠ (q.2.1 b).2.1)) && decide ((px_fcl.getD ci []).length = q.2.2)
  | none => true
set_option maxRecDepth 100000 in
theorem px_ck_0 : px_ck 0 = true := by decide +kernel
set_option maxRecDepth 100000 in
theorem px_ck_1 : px_ck 1 = true := by decide +kernel
set_option maxRecDepth 100000 in
theorem px_ck_2 : px_ck 2 = true := by decide +kernel
set_option maxRecDepth 100000 in
theorem px_ck_3 : px_ck 3 = true := by decide +kernel
set_option maxRecDepth 100000 in
theorem px_ck_4 : px_ck 4 = true := by decide +kernel
set_option maxRecDepth 100000 in
theorem px_ck_5 : px_ck 5 = true := by decide +kernel
set_option maxRecDepth 100000 in
theorem px_ck_6 : px_ck 6 = true := by decide +kernel
set_option maxRecDepth 100000 in
theorem px_ck_7 : px_ck 7 = true := by decide +kernel
set_option maxRecDepth 100000 in
theorem px_ck_8 : px_ck 8 = true := by decide +kernel
set_option maxRecDepth 100000 in
theorem px_ck_9 : px_ck 9 = true := by decide +kernel
set_option maxRecDepth 100000 in
theorem px_ck_10 : px_ck 10 = true := by decide +kernel
set_option maxRecDepth 100000 in
theorem px_ck_11 : px_ck 11 = true := by decide +kernel
theorem px_ck_all (ci : Nat) : px_ck ci = true := by
  match ci with
  | 0 => exact px_ck_0
  | 1 => exact px_ck_1
  | 2 => exact px_ck_2
  | 3 => exact px_ck_3
  | 4 => exact px_ck_4
  | 5 => exact px_ck_5
  | 6 => exact px_ck_6
  | 7 => exact px_ck_7
  | 8 => exact px_ck_8
  | 9 => exact px_ck_9
  | 10 => exact px_ck_10
  | 11 => exact px_ck_11
  | n + 12 =>
    unfold px_ck
    rw [List.getElem?_eq_none (by show 12 ≤ _; omega)]
theorem px_cls_ok {ci : Nat} {q : vw_C} (h : px_cls[ci]? = some q) : (∀ w ∈ u_ws q.1 q.2.1 q.2.2, w ∈ px_gw) ∧ (∀ k, k < q.2.2 → px_tyk ci k (q.2.1 k).2.2.1 = true) ∧ (∀ a, a < q.2.2 → ∀ b, b < q.2.2 → a ≠ b → (q.2.1 a).2.1 ≠ (q.2.1 b).2.1) ∧ (px_fcl.getD ci []).length = q.2.2 := by
  have h1 := px_ck_all ci
  unfold px_ck at h1
  rw [h] at h1
  simp only [Bool.and_eq_true, List.all_eq_true, List.mem_range, Bool.or_eq_true, decide_eq_true_eq] at h1
  obtain ⟨⟨h2, h3⟩, h4⟩ := h1
  refine ⟨fun w hw => ?_, fun k hk => (h2 k hk).2, fun a ha b hb hab => ?_, h4⟩
  · obtain ⟨i, hi, rfl⟩ := List.mem_map.mp hw
    exact px_w_in (h2 i (List.mem_range.mp hi)).1
  · rcases h3 a ha b hb with h5 | h5
    · exact absurd h5 hab
    · exact h5
theorem px_tyk_some {ci k : Nat} {d : String} (h : px_tyk ci k d = true) : parseFieldDescriptor d = some ((parseFieldDescriptor d).getD .int) := by
  unfold px_tyk at h
  cases hp : parseFieldDescriptor d with
  | some t => rfl
  | none =>
    rw [hp] at h
    split at h <;> simp at h
end
section
def px_cv (fv : Value) (ar : Nat → Nat) : Value → Value
  | .ref a => if a = 1003 then fv else .ref (ar a)
  | v => v
theorem px_cv_r {fv : Value} {ar : Nat → Nat} {a : Nat} (h : a ≠ 1003) : px_cv fv ar (.ref a) = .ref (ar a) := if_neg h
def px_fw (ar : Nat → Nat) (M : px_Mem) (a i c : Nat) : Value := match c with
  | 1 => .long (M.2 a i)
  | 3 => .ref (ar (px_rf a i))
  | _ => .int (M.1 a i)
def px_ae (ar : Nat → Nat) (M : px_Mem) (a t n : Nat) : vp_A := (n, match t with
  | 1 => .inr (.inl (M.2 a))
  | 4 => .inr (.inr (.inr (.inr (fun j => some (ar (px_rf a j))))))
  | 5 => .inr (.inr (.inr (.inr (fun j => some (ar (px_rf a j))))))
  | 6 => .inr (.inr (.inr (.inr (fun j => some (ar (px_rf a j))))))
  | _ => .inl (M.1 a))
def px_e (ar : Nat → Nat) (cA : Nat → ClassId) (M : px_Mem) (a : Nat) : va_E := match px_sh0 a with
  | some (.inl ci) => .inr (ci, (px_fcl.getD ci []).mapIdx (fun i c => px_fw ar M a i c))
  | some (.inr (t, n)) => .inl (cA t, px_ae ar M a t n)
  | none => .inr (0, [])
def px_L (g : Nat) : List Nat := if g = 0 then List.range 163 else [47, 48, 49, 50, 51, 52, 53, 54]
def px_ws (g : Nat) (ar : Nat → Nat) (cA : Nat → ClassId) (M : px_Mem) : va_W := (px_L g).map fun a => (ar a, px_e ar cA M a)
def px_aty (t : Nat) : FieldType := match t with
  | 0 => .int
  | 1 => .long
  | 2 => .byte
  | 3 => .boolean
  | 4 => .object "FrozenTrees$Story"
  | 5 => .object "FrozenTrees$Row"
  | _ => .array .long
def px_tys (g : Nat) (cA : Nat → ClassId) : List (ClassId × FieldType) := if g = 0 then (List.range 7).map (fun t => (cA t, px_aty t)) else [(cA 0, .int)]
def px_tyb (x : Nat ⊕ (Nat × Nat)) : Bool := match x with
  | .inl ci => decide (ci < 12)
  | .inr q => decide (q.1 < 7)
theorem px_shl_all : px_shl.all px_tyb = true := by decide +kernel
theorem px_shl_ty {x : Nat ⊕ (Nat × Nat)} (h : x ∈ px_shl) : px_tyb x = true := List.all_eq_true.mp px_shl_all x h
theorem px_shl_ln : px_shl.length = 163 := by decide +kernel
theorem px_sh_0 {g a : Nat} {x : Nat ⊕ (Nat × Nat)} (h : px_sh g a = some x) : px_sh0 a = some x := by
  unfold px_sh at h
  split at h
  · exact h
  · split at h
    · exact h
    · cases h
theorem px_sh0_w {a : Nat} (h : a < 1000) : px_sh0 a = px_shl[a]? := if_pos h
theorem px_sh_L {g a : Nat} {x : Nat ⊕ (Nat × Nat)} (h : px_sh g a = some x) (ha : a < 1000) : a ∈ px_L g := by
  unfold px_sh at h
  unfold px_L
  split at h
  · rename_i hg
    rw [if_pos hg]
    rw [px_sh0_w ha] at h
    have := (List.getElem?_eq_some_iff.mp h).1
    rw [px_shl_ln] at this
    exact List.mem_range.mpr this
  · rename_i hg
    rw [if_neg hg]
    split at h
    · rename_i hr
      have : a = 47 ∨ a = 48 ∨ a = 49 ∨ a = 50 ∨ a = 51 ∨ a = 52 ∨ a = 53 ∨ a = 54 := by omega
      simp [this]
    · cases h
theorem px_L_lt {g a : Nat} (h : a ∈ px_L g) : a < 163 := by
  unfold px_L at h
  split at h
  · exact List.mem_range.mp h
  · simp at h
    omega
theorem px_L_nd (g : Nat) : (px_L g).Nodup := by
  unfold px_L
  split
  · exact List.nodup_range
  · decide
theorem px_sh0_c {a ci : Nat} (ha : a < 1000) (h : px_sh0 a = some (.inl ci)) : ci < 12 := by
  rw [px_sh0_w ha] at h
  exact of_decide_eq_true (px_shl_ty (List.mem_of_getElem? h))
theorem px_sh0_t {a t n : Nat} (ha : a < 1000) (h : px_sh0 a = some (.inr (t, n))) : t < 7 := by
  rw [px_sh0_w ha] at h
  exact of_decide_eq_true (px_shl_ty (List.mem_of_getElem? h))
theorem px_sh1_t {a t n : Nat} (h : 47 ≤ a ∧ a < 55) (hs : px_sh0 a = some (.inr (t, n))) : t = 0 := by
  have : a = 47 ∨ a = 48 ∨ a = 49 ∨ a = 50 ∨ a = 51 ∨ a = 52 ∨ a = 53 ∨ a = 54 := by omega
  rcases this with rfl | rfl | rfl | rfl | rfl | rfl | rfl | rfl
  · rw [show px_sh0 47 = some (.inl 9) by decide +kernel] at hs
    cases hs
  · rw [show px_sh0 48 = some (.inr (0, 16)) by decide +kernel] at hs
    cases hs
    rfl
  · rw [show px_sh0 49 = some (.inr (0, 16)) by decide +kernel] at hs
    cases hs
    rfl
  · rw [show px_sh0 50 = some (.inr (0, 16)) by decide +kernel] at hs
    cases hs
    rfl
  · rw [show px_sh0 51 = some (.inr (0, 128)) by decide +kernel] at hs
    cases hs
    rfl
  · rw [show px_sh0 52 = some (.inr (0, 200)) by decide +kernel] at hs
    cases hs
    rfl
  · rw [show px_sh0 53 = some (.inr (0, 200)) by decide +kernel] at hs
    cases hs
    rfl
  · rw [show px_sh0 54 = some (.inr (0, 200)) by decide +kernel] at hs
    cases hs
    rfl
theorem px_ty_at {g a t n : Nat} {cA : Nat → ClassId} (h : px_sh g a = some (.inr (t, n))) (ha : a < 1000) : (px_tys g cA)[t]? = some (cA t, px_aty t) := by
  have h7 := px_sh0_t ha (px_sh_0 h)
  unfold px_tys
  by_cases hg : g = 0
  · rw [if_pos hg, List.getElem?_map, List.getElem?_range h7]
    rfl
  · rw [if_neg hg]
    unfold px_sh at h
    rw [if_neg hg] at h
    split at h
    · rename_i hr
      have ht : t = 0 := px_sh1_t hr h
      subst ht
      rfl
    · cases h
theorem px_ws_get {g a : Nat} {ar : Nat → Nat} {cA : Nat → ClassId} {M : px_Mem} (h : a ∈ px_L g) : ∃ q : Nat, (px_L g)[q]? = some a ∧ (px_ws g ar cA M)[q]? = some (ar a, px_e ar cA M a) := by
  obtain ⟨q, hq⟩ := List.getElem?_of_mem h
  refine ⟨q, hq, ?_⟩
  unfold px_ws
  rw [List.getElem?_map, hq]
  rfl
theorem px_ws_set {g a q : Nat} {ar : Nat → Nat} {cA : Nat → ClassId} {M M' : px_Mem} {x : va_E} (hq : (px_L g)[q]? = some a) (hx : px_e ar cA M' a = x) (ho : ∀ b, b ≠ a → px_e ar cA M' b = px_e ar cA M b) : (px_ws g ar cA M).set q (ar a, x) = px_ws g ar cA M' := by
  subst hx
  apply List.ext_getElem?
  intro j
  have hlt := (List.getElem?_eq_some_iff.mp hq).1
  unfold px_ws
  by_cases hj : j = q
  · subst hj
    rw [List.getElem?_set_self (by rw [List.length_map]; exact hlt), List.getElem?_map, hq]
    rfl
  · rw [List.getElem?_set_ne (fun e => hj e.symm), List.getElem?_map, List.getElem?_map]
    cases hb : (px_L g)[j]? with
    | none => rfl
    | some b =>
      have hne : b ≠ a := by
        intro e
        subst e
        have h1 := (List.getElem?_eq_some_iff.mp hb)
        have h2 := (List.getElem?_eq_some_iff.mp hq)
        obtain ⟨l1, e1⟩ := h1
        obtain ⟨l2, e2⟩ := h2
        exact hj ((List.getElem_inj (px_L_nd g)).mp (e1.trans e2.symm))
      show some (ar b, px_e ar cA M b) = some (ar b, px_e ar cA M' b)
      rw [ho b hne]
theorem px_e_o {ar : Nat → Nat} {cA : Nat → ClassId} {M : px_Mem} {a ci : Nat} (h : px_sh0 a = some (.inl ci)) : px_e ar cA M a = .inr (ci, (px_fcl.getD ci []).mapIdx (fun i c => px_fw ar M a i c)) := by
  unfold px_e
  rw [h]
theorem px_e_a {ar : Nat → Nat} {cA : Nat → ClassId} {M : px_Mem} {a t n : Nat} (h : px_sh0 a = some (.inr (t, n))) : px_e ar cA M a = .inl (cA t, px_ae ar M a t n) := by
  unfold px_e
  rw [h]
theorem px_e_oth {ar : Nat → Nat} {cA : Nat → ClassId} {M M' : px_Mem} {b : Nat} (h1 : M'.1 b = M.1 b) (h2 : M'.2 b = M.2 b) : px_e ar cA M' b = px_e ar cA M b := by
  unfold px_e px_ae px_fw
  rw [h1, h2]
theorem px_rfl_lt : ∀ l ∈ px_rfl, ∀ x ∈ l, x < 163 := by decide +kernel
theorem px_rf_ne (a i : Nat) : px_rf a i ≠ 1003 := by
  unfold px_rf
  split
  · intro h
    have h1 : (px_rfl.getD a []).getD i 0 < 163 := by
      by_cases h2 : a < px_rfl.length
      · have h3 : px_rfl.getD a [] ∈ px_rfl := by
          rw [List.getD_eq_getElem?_getD, List.getElem?_eq_getElem h2]
          exact List.getElem_mem h2
        by_cases h4 : i < (px_rfl.getD a []).length
        · apply px_rfl_lt _ h3
          rw [List.getD_eq_getElem?_getD (l := px_rfl.getD a []), List.getElem?_eq_getElem h4]
          exact List.getElem_mem h4
        · rw [List.getD_eq_getElem?_getD (l := px_rfl.getD a []), List.getElem?_eq_none (by omega)]
          decide
      · rw [List.getD_eq_getElem?_getD (l := px_rfl), List.getElem?_eq_none (by omega)]
        show (0 : Nat) < 163
        decide
    omega
  · omega
theorem px_fv_cv {fv : Value} {ar : Nat → Nat} {M : px_Mem} {a i c : Nat} : px_cv fv ar (px_fv M a i c) = px_fw ar M a i c := by
  unfold px_fv px_fw
  split
  · rfl
  · exact px_cv_r (px_rf_ne a i)
  · split <;> first | rfl | contradiction
theorem px_ro_t {a t n : Nat} (ha : ¬ a < 1000) (h : px_sh0 a = some (.inr (t, n))) : (a = 1000 ∧ t = 12 ∧ n = 0) ∨ (a = 1001 ∧ t = 10 ∧ n = 10) ∨ (a = 1002 ∧ t = 10 ∧ n = 6) ∨ ∃ i, i < 14 ∧ a = 1200 + i ∧ t = 11 ∧ n = (px_str.getD i []).length := by
  unfold px_sh0 at h
  rw [if_neg ha] at h
  split at h
  · cases h; exact Or.inl ⟨by assumption, rfl, rfl⟩
  · split at h
    · cases h; exact Or.inr (Or.inl ⟨by assumption, rfl, rfl⟩)
    · split at h
      · cases h; exact Or.inr (Or.inr (Or.inl ⟨by assumption, rfl, rfl⟩))
      · split at h
        · cases h
        · split at h
          · rename_i hr
            cases h
            exact Or.inr (Or.inr (Or.inr ⟨a - 1200, by omega, by omega, rfl, rfl⟩))
          · cases h
theorem px_ro_o {a ci : Nat} (ha : ¬ a < 1000) (h : px_sh0 a = some (.inl ci)) : ∃ i, i < 14 ∧ a = 1100 + i ∧ ci = 12 := by
  unfold px_sh0 at h
  rw [if_neg ha] at h
  split at h
  · cases h
  · split at h
    · cases h
    · split at h
      · cases h
      · split at h
        · rename_i hr
          cases h
          exact ⟨a - 1100, by omega, by omega, rfl⟩
        · split at h <;> cases h
theorem px_sh_g {g a : Nat} {x : Nat ⊕ (Nat × Nat)} (h : px_sh g a = some x) (ha : ¬ a < 1000) : g = 0 := by
  unfold px_sh at h
  split at h
  · assumption
  · split at h
    · omega
    · cases h
/-! locals -/
def px_lvs (fv : Value) (ar : Nat → Nat) (ls : px_Lo) : List (Nat × Value) := (List.range ls.length).filterMap fun p => (px_ld ls p).map fun v => (p, px_cv fv ar v)
theorem px_lvs_in {fv : Value} {ar : Nat → Nat} {ls : px_Lo} {q : Nat × Value} : q ∈ px_lvs fv ar ls ↔ ∃ v, px_ld ls q.1 = some v ∧ q.2 = px_cv fv ar v := by
  unfold px_lvs
  rw [List.mem_filterMap]
  constructor
  · rintro ⟨p, -, hp⟩
    cases hv : px_ld ls p with
    | none => rw [hv] at hp; cases hp
    | some v =>
      rw [hv] at hp
      cases hp
      exact ⟨v, hv, rfl⟩
  · rintro ⟨v, h1, h2⟩
    refine ⟨q.1, ?_, ?_⟩
    · apply List.mem_range.mpr
      by_cases h : q.1 < ls.length
      · exact h
      · unfold px_ld at h1
        rw [List.getD_eq_getElem?_getD, List.getElem?_eq_none (by omega)] at h1
        cases h1
    · rw [h1]
      show some (q.1, px_cv fv ar v) = some q
      rw [← h2]
theorem px_lv_mono {ls : Array Slot} {n : Nat} {l l' : List (Nat × Value)} (h : lv_has ls n l) (hs : ∀ q ∈ l', q ∈ l) : lv_has ls n l' := ⟨h.1, h.2.1, fun q hq => h.2.2 q (hs q hq)⟩
theorem px_lv_at {ls : Array Slot} {n : Nat} {fv : Value} {ar : Nat → Nat} {lo : px_Lo} {j : Nat} {v : Value} (h : lv_has ls n (px_lvs fv ar lo)) (hv : px_ld lo j = some v) : ls[j]? = some (.val (px_cv fv ar v)) := h.2.2 (j, px_cv fv ar v) (px_lvs_in.mpr ⟨v, hv, rfl⟩)
def px_wfp (k : Nat) (ls : px_Lo) : Prop := ∀ (p : Nat) (w : Value), px_ld ls p = some w → w.category = 2 → (px_ls k).contains p = true
theorem px_ld_set {ls : px_Lo} {i p : Nat} {x : Option Value} : px_ld (ls.set i x) p = if p = i ∧ i < ls.length then x else px_ld ls p := by
  unfold px_ld
  rw [List.getD_eq_getElem?_getD, List.getD_eq_getElem?_getD, List.getElem?_set]
  by_cases h : i = p
  · subst h
    by_cases h2 : i < ls.length
    · simp [h2]
    · simp [h2]
  · rw [if_neg h, if_neg (fun q => h q.1.symm)]
theorem px_k1_ld {k i p : Nat} {ls : px_Lo} {w : Value} (h : px_ld (px_k1 k ls i) p = some w) : px_ld ls p = some w ∧ (p + 1 = i → ¬ (px_ls k).contains p = true) := by
  unfold px_k1 at h
  split at h
  · rename_i hc
    rw [Bool.and_eq_true] at hc
    rw [px_ld_set] at h
    split at h
    · cases h
    · rename_i hn
      refine ⟨h, fun e => ?_⟩
      exfalso
      apply hn
      refine ⟨by omega, ?_⟩
      by_cases hl : i - 1 < ls.length
      · exact hl
      · unfold px_ld at h
        rw [List.getD_eq_getElem?_getD, List.getElem?_eq_none (by omega)] at h
        cases h
  · rename_i hc
    refine ⟨h, fun e hcon => hc ?_⟩
    rw [show i - 1 = p by omega, hcon]
    simp
    omega
theorem px_cv_cat {fv : Value} {ar : Nat → Nat} {v : Value} (hf : fv.category = 1) : (px_cv fv ar v).category = v.category := by
  cases v with
  | ref a =>
    show (if a = 1003 then fv else Value.ref (ar a)).category = 1
    by_cases h : a = 1003
    · rw [if_pos h]
      exact hf
    · rw [if_neg h]
      rfl
  | _ => rfl
theorem px_s1_sub {k i : Nat} {ls : px_Lo} {v : Value} {fv : Value} {ar : Nat → Nat} (hf : fv.category = 1) (hw : px_wfp k ls) : ∀ q ∈ px_lvs fv ar (px_s1 k ls i v), q ∈ (i, px_cv fv ar v) :: (px_lvs fv ar ls).filter (fun q => !(q.1 == i) && !(q.1 + 1 == i && q.2.category == 2)) := by
  intro q hq
  obtain ⟨w, h1, h2⟩ := px_lvs_in.mp hq
  unfold px_s1 at h1
  rw [px_ld_set] at h1
  split at h1
  · rename_i hi
    cases h1
    rw [show q = (i, px_cv fv ar v) from Prod.ext hi.1 h2]
    exact List.mem_cons_self
  · rename_i hi
    obtain ⟨h3, h4⟩ := px_k1_ld h1
    have hne : q.1 ≠ i := by
      intro e
      apply hi
      refine ⟨e, ?_⟩
      by_cases hl : i < (px_k1 k ls i).length
      · exact hl
      · unfold px_ld at h1
        rw [List.getD_eq_getElem?_getD, List.getElem?_eq_none (by omega)] at h1
        cases h1
    refine List.mem_cons_of_mem _ (List.mem_filter.mpr ⟨px_lvs_in.mpr ⟨w, h3, h2⟩, ?_⟩)
    have hc : ¬ (q.1 + 1 = i ∧ q.2.category = 2) := by
      rintro ⟨e1, e2⟩
      rw [h2, px_cv_cat hf] at e2
      exact h4 e1 (hw _ _ h3 e2)
    simp only [Bool.and_eq_true, Bool.not_eq_true', beq_eq_false_iff_ne, ne_eq, Bool.and_eq_false_iff]
    refine ⟨hne, ?_⟩
    by_cases e1 : q.1 + 1 = i
    · exact Or.inr (fun e2 => hc ⟨e1, e2⟩)
    · exact Or.inl e1
theorem px_s2_sub {k i : Nat} {ls : px_Lo} {v : Value} {fv : Value} {ar : Nat → Nat} (hf : fv.category = 1) (hw : px_wfp k ls) : ∀ q ∈ px_lvs fv ar (px_s2 k ls i v), q ∈ (i, px_cv fv ar v) :: (px_lvs fv ar ls).filter (fun q => !(q.1 == i) && (!(q.1 == i + 1) && !(q.1 + 1 == i && q.2.category == 2))) := by
  intro q hq
  obtain ⟨w, h1, h2⟩ := px_lvs_in.mp hq
  unfold px_s2 at h1
  rw [px_ld_set] at h1
  split at h1
  · cases h1
  · rename_i hj
    rw [px_ld_set] at h1
    split at h1
    · rename_i hi
      cases h1
      rw [show q = (i, px_cv fv ar v) from Prod.ext hi.1 h2]
      exact List.mem_cons_self
    · rename_i hi
      obtain ⟨h3, h4⟩ := px_k1_ld h1
      have hlt : q.1 < (px_k1 k ls i).length := by
        by_cases hl : q.1 < (px_k1 k ls i).length
        · exact hl
        · unfold px_ld at h1
          rw [List.getD_eq_getElem?_getD, List.getElem?_eq_none (by omega)] at h1
          cases h1
      have hne : q.1 ≠ i := fun e => hi ⟨e, by omega⟩
      have hne2 : q.1 ≠ i + 1 := fun e => hj ⟨e, by rw [List.length_set]; omega⟩
      refine List.mem_cons_of_mem _ (List.mem_filter.mpr ⟨px_lvs_in.mpr ⟨w, h3, h2⟩, ?_⟩)
      have hc : ¬ (q.1 + 1 = i ∧ q.2.category = 2) := by
        rintro ⟨e1, e2⟩
        rw [h2, px_cv_cat hf] at e2
        exact h4 e1 (hw _ _ h3 e2)
      simp only [Bool.and_eq_true, Bool.not_eq_true', beq_eq_false_iff_ne, ne_eq, Bool.and_eq_false_iff]
      refine ⟨hne, hne2, ?_⟩
      by_cases e1 : q.1 + 1 = i
      · exact Or.inr (fun e2 => hc ⟨e1, e2⟩)
      · exact Or.inl e1
theorem px_s1_wf {k i : Nat} {ls : px_Lo} {v : Value} (hw : px_wfp k ls) (hv : v.category = 1) : px_wfp k (px_s1 k ls i v) := by
  intro p w h hc
  unfold px_s1 at h
  rw [px_ld_set] at h
  split at h
  · cases h
    rw [hv] at hc
    cases hc
  · exact hw p w (px_k1_ld h).1 hc
theorem px_s2_wf {k i : Nat} {ls : px_Lo} {v : Value} (hw : px_wfp k ls) (hi : (px_ls k).contains i = true) : px_wfp k (px_s2 k ls i v) := by
  intro p w h hc
  unfold px_s2 at h
  rw [px_ld_set] at h
  split at h
  · cases h
  · rw [px_ld_set] at h
    split at h
    · rename_i e
      rw [e.1]
      exact hi
    · exact hw p w (px_k1_ld h).1 hc
end
section
def px_ro (ro : Nat → Nat → Int32) (M : px_Mem) : Prop := ∀ a, 163 ≤ a → M.1 a = ro a
def px_STb (ar : Nat → Nat) (fv : Value) (ro : Nat → Nat → Int32) (A : Nat → Prop) (Lx : Nat) (U : State) (H : Heap) : Prop :=
  (va_Z "FrozenTrees$Code" "NUMBERS" "[I" (.ref (ar 1001)) A U H ∧ va_T .int (ar 1001) 10 (fun j => .int (ro 1001 j)) A U H) ∧
  (va_Z "FrozenTrees" "ORDERS" "[I" (.ref (ar 1002)) A U H ∧ va_T .int (ar 1002) 6 (fun j => .int (ro 1002 j)) A U H) ∧
  (va_Z "java/lang/String" "COMPACT_STRINGS" "Z" (.int 1) A U H ∧ va_Z "jdk/internal/util/Preconditions" "SIOOBE_FORMATTER" "Ljava/util/function/BiFunction;" fv A U H) ∧
  (∀ i, i < 14 → va_O "java/lang/String" (ar (1100 + i)) A U H ∧ va_OF "java/lang/String" "coder" "B" (.int (ro (1100 + i) 1)) (ar (1100 + i)) A U H ∧ va_OF "java/lang/String" "value" "[B" (.ref (ar (1200 + i))) (ar (1100 + i)) A U H ∧ va_T .byte (ar (1200 + i)) (px_str.getD i []).length (fun j => .int (ro (1200 + i) j)) A U H) ∧
  (∀ own cp t pl, px_ksk own cp = some (t, pl) → vk_R (px_cn own) cp (px_txt.getD t "") (ar (1100 + t)) U) ∧
  (∀ e ∈ px_nest, va_Nw (.methodLinkNest (px_cn e.1) e.2.1 (px_yn e.2.2) "FrozenTrees") U) ∧
  (va_X (ar 1000) Lx (ro 1000) U H ∧ ¬ A (ar 1000) ∧ ar 1000 < H.size ∧ ro 999 0 = Int32.ofNat Lx ∧ Lx ≤ 3072)
def px_ST (g : Nat) (ar : Nat → Nat) (fv : Value) (ro : Nat → Nat → Int32) (A : Nat → Prop) (Lx : Nat) (U : State) (H : Heap) : Prop := g = 0 → px_STb ar fv ro A Lx U H
theorem px_ST_mv {g : Nat} {ar : Nat → Nat} {fv : Value} {ro : Nat → Nat → Int32} {A : Nat → Prop} {Lx : Nat} {u U : State} {H H1 : Heap} (hvm : u.vm.Alike U.vm) (hr : ∀ own cp tx a, vk_R own cp tx a u → vk_R own cp tx a U) (hn : ∀ own cp y h, va_Nw (.methodLinkNest own cp y h) u → va_Nw (.methodLinkNest own cp y h) U) (hz : H.size ≤ H1.size) (hq : ∀ a : Nat, a < H.size → ¬ A a → H1[a]? = H[a]?) (h : px_ST g ar fv ro A Lx u H) : px_ST g ar fv ro A Lx U H1 := by
  intro hg
  obtain ⟨⟨a1, a2⟩, ⟨b1, b2⟩, ⟨c1, c2⟩, d1, e1, f1, ⟨x1, x2, x3, x4⟩⟩ := h hg
  refine ⟨⟨(a1.moved hvm).kept hq, (a2.moved hvm).kept hq⟩, ⟨(b1.moved hvm).kept hq, (b2.moved hvm).kept hq⟩, ⟨(c1.moved hvm).kept hq, (c2.moved hvm).kept hq⟩, fun i hi => ?_, fun own cp t pl h => hr _ _ _ _ (e1 own cp t pl h), fun e he => hn _ _ _ _ (f1 e he), ⟨(x1.moved hvm).kept (hq _ x3 x2), x2, Nat.lt_of_lt_of_le x3 hz, x4⟩⟩
  obtain ⟨d2, d3, d4, d5⟩ := d1 i hi
  exact ⟨(d2.moved hvm).kept hq, (d3.moved hvm).kept hq, (d4.moved hvm).kept hq, (d5.moved hvm).kept hq⟩
theorem px_ST_warm {g : Nat} {ar : Nat → Nat} {fv : Value} {ro : Nat → Nat → Int32} {A : Nat → Prop} {Lx : Nat} {s U : State} {H1 : Heap} (hW : s.WarmedH U.vm) (hz : s.heap.size ≤ H1.size) (hq : ∀ a : Nat, a < s.heap.size → ¬ A a → H1[a]? = s.heap[a]?) (h : px_ST g ar fv ro A Lx s s.heap) : px_ST g ar fv ro A Lx U H1 :=
  px_ST_mv hW.alike (fun _ _ _ _ h => vk_R.warm hW h) (fun _ _ _ _ h => va_Nw.warmM hW h) hz hq h
theorem px_ST_same {g : Nat} {ar : Nat → Nat} {fv : Value} {ro : Nat → Nat → Int32} {A : Nat → Prop} {Lx : Nat} {u U : State} {H : Heap} (hv : U.vm = u.vm) (h : px_ST g ar fv ro A Lx u H) : px_ST g ar fv ro A Lx U H :=
  px_ST_mv (by rw [hv]; exact Vm.Alike.refl u.vm) (fun _ _ _ _ h => vk_R.same hv h) (fun _ _ _ _ h => va_Nw.same rfl hv.symm h) (Nat.le_refl _) (fun _ _ _ => rfl) h
def px_Iv (g : Nat) (D : va_G) (cA : Nat → ClassId) (ar : Nat → Nat) (fv : Value) (ro : Nat → Nat → Int32) (A : Nat → Prop) (Lx : Nat) (M : px_Mem) (U : State) : Prop := va_P D px_cls (px_ws g ar cA M) U.heap ∧ va_K D px_cls (px_tys g cA) U ∧ va_D A (px_ws g ar cA M) ∧ px_ro ro M ∧ px_ST g ar fv ro A Lx U U.heap
def px_Qc (g : Nat) (D : va_G) (cA : Nat → ClassId) (ar : Nat → Nat) (fv : Value) (ro : Nat → Nat → Int32) (A : Nat → Prop) (Lx : Nat) (Q : px_Po) : Array Value → State → Outcome → State → Prop := fun _ st o t => (∃ (r : Option Value) (M : px_Mem), o = .returned (r.map (px_cv fv ar)) ∧ Q r M ∧ px_Iv g D cA ar fv ro A Lx M t) ∧ va_F A st t
def px_rm (y : Nat) : Room := { frames := px_nf y, cells := 0, slots := 0, locals := px_nl y }
def px_wsy (y : Nat) : List Cond := .code (px_yn y) (px_by y) (px_ml y) (px_rty (px_rt y)) :: px_gw
def px_Mt (l : Launch) (g : Nat) (D : va_G) (cA : Nat → ClassId) (ar : Nat → Nat) (fv : Value) (ro : Nat → Nat → Int32) (A : Nat → Prop) (Lx : Nat) (y : Nat) (vs : List Value) (M : px_Mem) (Q : px_Po) : Prop := Met l (px_yn y) (px_wsy y) (px_rm y) (va_Pc (vs.map (px_cv fv ar)) (px_Iv g D cA ar fv ro A Lx M)) (px_Qc g D cA ar fv ro A Lx Q) 0 0 A
def px_Cx (p : Program) (R : Room) (s : State) (m : MethodId) (args : Array Value) (c : Code) (cells slots g k : Nat) (D : va_G) (cA : Nat → ClassId) (ar : Nat → Nat) (fv : Value) (ro : Nat → Nat → Int32) (A : Nat → Prop) (Lx : Nat) : Prop :=
  p.tables.exec = Jvm.exec ∧ c.code = px_by k ∧ c.maxLocals = px_ml k ∧ s.vm.findClass (px_cn (px_ow k)) = some m.cls ∧ (∀ w ∈ px_gw, w.before args s = true) ∧ (px_nf k ≤ R.frames ∧ px_nl k ≤ R.locals) ∧ (cells ≤ R.cells ∧ slots ≤ R.slots) ∧ va_K D px_cls (px_tys g cA) s ∧ px_ST g ar fv ro A Lx s s.heap ∧ (fv = .null ∨ ∃ t, fv = .ref t)
def px_G (p : Program) (l : Launch) (e : Env) (R : Room) (s : State) (m : MethodId) (args : Array Value) (below : List Frame) (meth : Method) (c : Code) (cells slots : Nat) (Qm : State → Prop) (g k : Nat) (D : va_G) (cA : Nat → ClassId) (ar : Nat → Nat) (fv : Value) (ro : Nat → Nat → Int32) (A : Nat → Prop) (pc : Nat) (ls : px_Lo) (st : List Value) (M : px_Mem) : Prop :=
  ∀ (H : Heap) (locs : List Loc) (jls : Array Slot), va_P D px_cls (px_ws g ar cA M) H → va_D A (px_ws g ar cA M) → va_S A s.heap H locs → px_ro ro M → lv_has jls (px_ml k) (px_lvs fv ar ls) → px_wfp k ls → W p l e R s m args below meth c H locs cells slots Qm (F0 m pc jls (st.map (px_cv fv ar)))
theorem px_fcat {fv : Value} (h : fv = .null ∨ ∃ t, fv = .ref t) : fv.category = 1 := by
  rcases h with rfl | ⟨t, rfl⟩ <;> rfl
theorem px_sh_ne {g a : Nat} {x : Nat ⊕ (Nat × Nat)} (h : px_sh g a = some x) : a ≠ 1003 := by
  intro e
  subst e
  have h0 := px_sh_0 h
  have h1 : px_sh0 1003 = none := by decide +kernel
  rw [h1] at h0
  cases h0
theorem px_jt_ok {pc : Nat} {off : Int} (h : 0 ≤ (pc : Int) + off) : (pc : Int) + off = (px_jt pc off : Int) := (Int.toNat_of_nonneg h).symm
section PXS
variable {p : Program} {l : Launch} {e : Env} {R : Room} {s : State} {m : MethodId} {args : Array Value} {below : List Frame} {meth : Method} {c : Code} {cells slots : Nat} {Qm : State → Prop} {g k : Nat} {D : va_G} {cA : Nat → ClassId} {ar : Nat → Nat} {fv : Value} {ro : Nat → Nat → Int32} {A : Nat → Prop} {Lx : Nat} {pc : Nat} {ls : px_Lo} {M : px_Mem} {r : List Value}
theorem px_x_iadd {x y : Int32} (C : px_Cx p R s m args c cells slots g k D cA ar fv ro A Lx) (hd : decode (px_by k) pc = .ok (.iadd, 1)) (h : px_G p l e R s m args below meth c cells slots Qm g k D cA ar fv ro A (pc + 1) (ls) (.int (x + y) :: r) (M)) : px_G p l e R s m args below meth c cells slots Qm g k D cA ar fv ro A (pc) (ls) (.int y :: .int x :: r) (M) := fun H locs jls hP hD hS hR hl hw => lv_iadd C.1 C.2.1 hd (h H locs jls hP hD hS hR hl hw)
theorem px_x_isub {x y : Int32} (C : px_Cx p R s m args c cells slots g k D cA ar fv ro A Lx) (hd : decode (px_by k) pc = .ok (.isub, 1)) (h : px_G p l e R s m args below meth c cells slots Qm g k D cA ar fv ro A (pc + 1) (ls) (.int (x - y) :: r) (M)) : px_G p l e R s m args below meth c cells slots Qm g k D cA ar fv ro A (pc) (ls) (.int y :: .int x :: r) (M) := fun H locs jls hP hD hS hR hl hw => lv_isub C.1 C.2.1 hd (h H locs jls hP hD hS hR hl hw)
theorem px_x_imul {x y : Int32} (C : px_Cx p R s m args c cells slots g k D cA ar fv ro A Lx) (hd : decode (px_by k) pc = .ok (.imul, 1)) (h : px_G p l e R s m args below meth c cells slots Qm g k D cA ar fv ro A (pc + 1) (ls) (.int (x * y) :: r) (M)) : px_G p l e R s m args below meth c cells slots Qm g k D cA ar fv ro A (pc) (ls) (.int y :: .int x :: r) (M) := fun H locs jls hP hD hS hR hl hw => lv_imul C.1 C.2.1 hd (h H locs jls hP hD hS hR hl hw)
theorem px_x_iand {x y : Int32} (C : px_Cx p R s m args c cells slots g k D cA ar fv ro A Lx) (hd : decode (px_by k) pc = .ok (.iand, 1)) (h : px_G p l e R s m args below meth c cells slots Qm g k D cA ar fv ro A (pc + 1) (ls) (.int (x &&& y) :: r) (M)) : px_G p l e R s m args below meth c cells slots Qm g k D cA ar fv ro A (pc) (ls) (.int y :: .int x :: r) (M) := fun H locs jls hP hD hS hR hl hw => lv_iand C.1 C.2.1 hd (h H locs jls hP hD hS hR hl hw)
theorem px_x_ior {x y : Int32} (C : px_Cx p R s m args c cells slots g k D cA ar fv ro A Lx) (hd : decode (px_by k) pc = .ok (.ior, 1)) (h : px_G p l e R s m args below meth c cells slots Qm g k D cA ar fv ro A (pc + 1) (ls) (.int (x ||| y) :: r) (M)) : px_G p l e R s m args below meth c cells slots Qm g k D cA ar fv ro A (pc) (ls) (.int y :: .int x :: r) (M) := fun H locs jls hP hD hS hR hl hw => lv_ior C.1 C.2.1 hd (h H locs jls hP hD hS hR hl hw)
theorem px_x_ixor {x y : Int32} (C : px_Cx p R s m args c cells slots g k D cA ar fv ro A Lx) (hd : decode (px_by k) pc = .ok (.ixor, 1)) (h : px_G p l e R s m args below meth c cells slots Qm g k D cA ar fv ro A (pc + 1) (ls) (.int (x ^^^ y) :: r) (M)) : px_G p l e R s m args below meth c cells slots Qm g k D cA ar fv ro A (pc) (ls) (.int y :: .int x :: r) (M) := fun H locs jls hP hD hS hR hl hw => lv_ixor C.1 C.2.1 hd (h H locs jls hP hD hS hR hl hw)
theorem px_x_ishl {x y : Int32} (C : px_Cx p R s m args c cells slots g k D cA ar fv ro A Lx) (hd : decode (px_by k) pc = .ok (.ishl, 1)) (h : px_G p l e R s m args below meth c cells slots Qm g k D cA ar fv ro A (pc + 1) (ls) (.int (x <<< (y &&& 31)) :: r) (M)) : px_G p l e R s m args below meth c cells slots Qm g k D cA ar fv ro A (pc) (ls) (.int y :: .int x :: r) (M) := fun H locs jls hP hD hS hR hl hw => lv_ishl C.1 C.2.1 hd (h H locs jls hP hD hS hR hl hw)
theorem px_x_ishr {x y : Int32} (C : px_Cx p R s m args c cells slots g k D cA ar fv ro A Lx) (hd : decode (px_by k) pc = .ok (.ishr, 1)) (h : px_G p l e R s m args below meth c cells slots Qm g k D cA ar fv ro A (pc + 1) (ls) (.int (x >>> (y &&& 31)) :: r) (M)) : px_G p l e R s m args below meth c cells slots Qm g k D cA ar fv ro A (pc) (ls) (.int y :: .int x :: r) (M) := fun H locs jls hP hD hS hR hl hw => lv_ishr C.1 C.2.1 hd (h H locs jls hP hD hS hR hl hw)
theorem px_x_idiv {x y : Int32} (C : px_Cx p R s m args c cells slots g k D cA ar fv ro A Lx) (hd : decode (px_by k) pc = .ok (.idiv, 1)) (hy : ¬ y = 0) (h : px_G p l e R s m args below meth c cells slots Qm g k D cA ar fv ro A (pc + 1) (ls) (.int (x / y) :: r) (M)) : px_G p l e R s m args below meth c cells slots Qm g k D cA ar fv ro A (pc) (ls) (.int y :: .int x :: r) (M) := fun H locs jls hP hD hS hR hl hw => lv_idiv C.1 C.2.1 hd hy (h H locs jls hP hD hS hR hl hw)
theorem px_x_irem {x y : Int32} (C : px_Cx p R s m args c cells slots g k D cA ar fv ro A Lx) (hd : decode (px_by k) pc = .ok (.irem, 1)) (hy : ¬ y = 0) (h : px_G p l e R s m args below meth c cells slots Qm g k D cA ar fv ro A (pc + 1) (ls) (.int (x - x / y * y) :: r) (M)) : px_G p l e R s m args below meth c cells slots Qm g k D cA ar fv ro A (pc) (ls) (.int y :: .int x :: r) (M) := fun H locs jls hP hD hS hR hl hw => lv_irem C.1 C.2.1 hd hy (h H locs jls hP hD hS hR hl hw)
theorem px_x_iushr {x y : Int32} (C : px_Cx p R s m args c cells slots g k D cA ar fv ro A Lx) (hd : decode (px_by k) pc = .ok (.iushr, 1)) (h : px_G p l e R s m args below meth c cells slots Qm g k D cA ar fv ro A (pc + 1) (ls) (.int (x.toUInt32 >>> (y.toUInt32 &&& Int32.toUInt32 31)).toInt32 :: r) (M)) : px_G p l e R s m args below meth c cells slots Qm g k D cA ar fv ro A (pc) (ls) (.int y :: .int x :: r) (M) := fun H locs jls hP hD hS hR hl hw => lv_iushr C.1 C.2.1 hd rfl (h H locs jls hP hD hS hR hl hw)
theorem px_x_ladd {x y : Int64} (C : px_Cx p R s m args c cells slots g k D cA ar fv ro A Lx) (hd : decode (px_by k) pc = .ok (.ladd, 1)) (h : px_G p l e R s m args below meth c cells slots Qm g k D cA ar fv ro A (pc + 1) (ls) (.long (x + y) :: r) (M)) : px_G p l e R s m args below meth c cells slots Qm g k D cA ar fv ro A (pc) (ls) (.long y :: .long x :: r) (M) := fun H locs jls hP hD hS hR hl hw => lv_ladd C.1 C.2.1 hd (h H locs jls hP hD hS hR hl hw)
theorem px_x_lsub {x y : Int64} (C : px_Cx p R s m args c cells slots g k D cA ar fv ro A Lx) (hd : decode (px_by k) pc = .ok (.lsub, 1)) (h : px_G p l e R s m args below meth c cells slots Qm g k D cA ar fv ro A (pc + 1) (ls) (.long (x - y) :: r) (M)) : px_G p l e R s m args below meth c cells slots Qm g k D cA ar fv ro A (pc) (ls) (.long y :: .long x :: r) (M) := fun H locs jls hP hD hS hR hl hw => lv_lsub C.1 C.2.1 hd (h H locs jls hP hD hS hR hl hw)
theorem px_x_lmul {x y : Int64} (C : px_Cx p R s m args c cells slots g k D cA ar fv ro A Lx) (hd : decode (px_by k) pc = .ok (.lmul, 1)) (h : px_G p l e R s m args below meth c cells slots Qm g k D cA ar fv ro A (pc + 1) (ls) (.long (x * y) :: r) (M)) : px_G p l e R s m args below meth c cells slots Qm g k D cA ar fv ro A (pc) (ls) (.long y :: .long x :: r) (M) := fun H locs jls hP hD hS hR hl hw => lv_lmul C.1 C.2.1 hd (h H locs jls hP hD hS hR hl hw)
theorem px_x_land {x y : Int64} (C : px_Cx p R s m args c cells slots g k D cA ar fv ro A Lx) (hd : decode (px_by k) pc = .ok (.land, 1)) (h : px_G p l e R s m args below meth c cells slots Qm g k D cA ar fv ro A (pc + 1) (ls) (.long (x &&& y) :: r) (M)) : px_G p l e R s m args below meth c cells slots Qm g k D cA ar fv ro A (pc) (ls) (.long y :: .long x :: r) (M) := fun H locs jls hP hD hS hR hl hw => lv_land C.1 C.2.1 hd (h H locs jls hP hD hS hR hl hw)
theorem px_x_lor {x y : Int64} (C : px_Cx p R s m args c cells slots g k D cA ar fv ro A Lx) (hd : decode (px_by k) pc = .ok (.lor, 1)) (h : px_G p l e R s m args below meth c cells slots Qm g k D cA ar fv ro A (pc + 1) (ls) (.long (x ||| y) :: r) (M)) : px_G p l e R s m args below meth c cells slots Qm g k D cA ar fv ro A (pc) (ls) (.long y :: .long x :: r) (M) := fun H locs jls hP hD hS hR hl hw => lv_lor C.1 C.2.1 hd (h H locs jls hP hD hS hR hl hw)
theorem px_x_ldiv {x y : Int64} (C : px_Cx p R s m args c cells slots g k D cA ar fv ro A Lx) (hd : decode (px_by k) pc = .ok (.ldiv, 1)) (hy : ¬ y = 0) (h : px_G p l e R s m args below meth c cells slots Qm g k D cA ar fv ro A (pc + 1) (ls) (.long (x / y) :: r) (M)) : px_G p l e R s m args below meth c cells slots Qm g k D cA ar fv ro A (pc) (ls) (.long y :: .long x :: r) (M) := fun H locs jls hP hD hS hR hl hw => lv_ldiv C.1 C.2.1 hd hy (h H locs jls hP hD hS hR hl hw)
theorem px_x_lrem {x y : Int64} (C : px_Cx p R s m args c cells slots g k D cA ar fv ro A Lx) (hd : decode (px_by k) pc = .ok (.lrem, 1)) (hy : ¬ y = 0) (h : px_G p l e R s m args below meth c cells slots Qm g k D cA ar fv ro A (pc + 1) (ls) (.long (x - x / y * y) :: r) (M)) : px_G p l e R s m args below meth c cells slots Qm g k D cA ar fv ro A (pc) (ls) (.long y :: .long x :: r) (M) := fun H locs jls hP hD hS hR hl hw => lv_lrem C.1 C.2.1 hd hy (h H locs jls hP hD hS hR hl hw)
theorem px_x_lneg {x : Int64} (C : px_Cx p R s m args c cells slots g k D cA ar fv ro A Lx) (hd : decode (px_by k) pc = .ok (.lneg, 1)) (h : px_G p l e R s m args below meth c cells slots Qm g k D cA ar fv ro A (pc + 1) (ls) (.long (-x) :: r) (M)) : px_G p l e R s m args below meth c cells slots Qm g k D cA ar fv ro A (pc) (ls) (.long x :: r) (M) := fun H locs jls hP hD hS hR hl hw => lv_lneg C.1 C.2.1 hd (h H locs jls hP hD hS hR hl hw)
theorem px_x_lshl {x : Int64} {y : Int32} (C : px_Cx p R s m args c cells slots g k D cA ar fv ro A Lx) (hd : decode (px_by k) pc = .ok (.lshl, 1)) (h : px_G p l e R s m args below meth c cells slots Qm g k D cA ar fv ro A (pc + 1) (ls) (.long (x <<< (y.toInt64 &&& 63)) :: r) (M)) : px_G p l e R s m args below meth c cells slots Qm g k D cA ar fv ro A (pc) (ls) (.int y :: .long x :: r) (M) := fun H locs jls hP hD hS hR hl hw => lv_lshl C.1 C.2.1 hd rfl (h H locs jls hP hD hS hR hl hw)
theorem px_x_lshr {x : Int64} {y : Int32} (C : px_Cx p R s m args c cells slots g k D cA ar fv ro A Lx) (hd : decode (px_by k) pc = .ok (.lshr, 1)) (h : px_G p l e R s m args below meth c cells slots Qm g k D cA ar fv ro A (pc + 1) (ls) (.long (x >>> (y.toInt64 &&& 63)) :: r) (M)) : px_G p l e R s m args below meth c cells slots Qm g k D cA ar fv ro A (pc) (ls) (.int y :: .long x :: r) (M) := fun H locs jls hP hD hS hR hl hw => lv_lshr C.1 C.2.1 hd rfl (h H locs jls hP hD hS hR hl hw)
theorem px_x_i2l {x : Int32} (C : px_Cx p R s m args c cells slots g k D cA ar fv ro A Lx) (hd : decode (px_by k) pc = .ok (.i2l, 1)) (h : px_G p l e R s m args below meth c cells slots Qm g k D cA ar fv ro A (pc + 1) (ls) (.long x.toInt64 :: r) (M)) : px_G p l e R s m args below meth c cells slots Qm g k D cA ar fv ro A (pc) (ls) (.int x :: r) (M) := fun H locs jls hP hD hS hR hl hw => lv_i2l C.1 C.2.1 hd rfl (h H locs jls hP hD hS hR hl hw)
theorem px_x_l2i {x : Int64} (C : px_Cx p R s m args c cells slots g k D cA ar fv ro A Lx) (hd : decode (px_by k) pc = .ok (.l2i, 1)) (h : px_G p l e R s m args below meth c cells slots Qm g k D cA ar fv ro A (pc + 1) (ls) (.int x.toInt32 :: r) (M)) : px_G p l e R s m args below meth c cells slots Qm g k D cA ar fv ro A (pc) (ls) (.long x :: r) (M) := fun H locs jls hP hD hS hR hl hw => lv_l2i C.1 C.2.1 hd rfl (h H locs jls hP hD hS hR hl hw)
theorem px_x_i2b {x : Int32} (C : px_Cx p R s m args c cells slots g k D cA ar fv ro A Lx) (hd : decode (px_by k) pc = .ok (.i2b, 1)) (h : px_G p l e R s m args below meth c cells slots Qm g k D cA ar fv ro A (pc + 1) (ls) (.int x.toInt8.toInt32 :: r) (M)) : px_G p l e R s m args below meth c cells slots Qm g k D cA ar fv ro A (pc) (ls) (.int x :: r) (M) := fun H locs jls hP hD hS hR hl hw => lv_i2b C.1 C.2.1 hd rfl (h H locs jls hP hD hS hR hl hw)
theorem px_x_i2s {x : Int32} (C : px_Cx p R s m args c cells slots g k D cA ar fv ro A Lx) (hd : decode (px_by k) pc = .ok (.i2s, 1)) (h : px_G p l e R s m args below meth c cells slots Qm g k D cA ar fv ro A (pc + 1) (ls) (.int x.toInt16.toInt32 :: r) (M)) : px_G p l e R s m args below meth c cells slots Qm g k D cA ar fv ro A (pc) (ls) (.int x :: r) (M) := fun H locs jls hP hD hS hR hl hw => lv_i2s C.1 C.2.1 hd rfl (h H locs jls hP hD hS hR hl hw)
theorem px_x_i2c {x : Int32} (C : px_Cx p R s m args c cells slots g k D cA ar fv ro A Lx) (hd : decode (px_by k) pc = .ok (.i2c, 1)) (h : px_G p l e R s m args below meth c cells slots Qm g k D cA ar fv ro A (pc + 1) (ls) (.int (x.toUInt32 % 65536).toInt32 :: r) (M)) : px_G p l e R s m args below meth c cells slots Qm g k D cA ar fv ro A (pc) (ls) (.int x :: r) (M) := fun H locs jls hP hD hS hR hl hw => lv_i2c C.1 C.2.1 hd rfl (h H locs jls hP hD hS hR hl hw)
theorem px_x_lcmp {x y : Int64} (C : px_Cx p R s m args c cells slots g k D cA ar fv ro A Lx) (hd : decode (px_by k) pc = .ok (.lcmp, 1)) (h : px_G p l e R s m args below meth c cells slots Qm g k D cA ar fv ro A (pc + 1) (ls) (.int (lg_cmp x y) :: r) (M)) : px_G p l e R s m args below meth c cells slots Qm g k D cA ar fv ro A (pc) (ls) (.long y :: .long x :: r) (M) := fun H locs jls hP hD hS hR hl hw => W.lcmp C.1 C.2.1 hd (h H locs jls hP hD hS hR hl hw)
theorem px_x_iconst {n : Int} (C : px_Cx p R s m args c cells slots g k D cA ar fv ro A Lx) (hd : decode (px_by k) pc = .ok (.iconst n, 1)) (h : px_G p l e R s m args below meth c cells slots Qm g k D cA ar fv ro A (pc + 1) (ls) (.int (Int32.ofInt n) :: r) (M)) : px_G p l e R s m args below meth c cells slots Qm g k D cA ar fv ro A (pc) (ls) (r) (M) := fun H locs jls hP hD hS hR hl hw => lv_iconst C.1 C.2.1 hd rfl (h H locs jls hP hD hS hR hl hw)
theorem px_x_bipush {n : Int} (C : px_Cx p R s m args c cells slots g k D cA ar fv ro A Lx) (hd : decode (px_by k) pc = .ok (.bipush n, 2)) (h : px_G p l e R s m args below meth c cells slots Qm g k D cA ar fv ro A (pc + 2) (ls) (.int ((Int8.ofInt n).toInt32) :: r) (M)) : px_G p l e R s m args below meth c cells slots Qm g k D cA ar fv ro A (pc) (ls) (r) (M) := fun H locs jls hP hD hS hR hl hw => lv_bipush C.1 C.2.1 hd rfl (h H locs jls hP hD hS hR hl hw)
theorem px_x_sipush {n : Int} (C : px_Cx p R s m args c cells slots g k D cA ar fv ro A Lx) (hd : decode (px_by k) pc = .ok (.sipush n, 3)) (h : px_G p l e R s m args below meth c cells slots Qm g k D cA ar fv ro A (pc + 3) (ls) (.int ((Int16.ofInt n).toInt32) :: r) (M)) : px_G p l e R s m args below meth c cells slots Qm g k D cA ar fv ro A (pc) (ls) (r) (M) := fun H locs jls hP hD hS hR hl hw => lv_sipush C.1 C.2.1 hd rfl (h H locs jls hP hD hS hR hl hw)
theorem px_x_lconst {n : Fin 2} (C : px_Cx p R s m args c cells slots g k D cA ar fv ro A Lx) (hd : decode (px_by k) pc = .ok (.lconst n, 1)) (h : px_G p l e R s m args below meth c cells slots Qm g k D cA ar fv ro A (pc + 1) (ls) (.long (Int64.ofNat (n : Nat)) :: r) (M)) : px_G p l e R s m args below meth c cells slots Qm g k D cA ar fv ro A (pc) (ls) (r) (M) := fun H locs jls hP hD hS hR hl hw => lv_lconst C.1 C.2.1 hd rfl (h H locs jls hP hD hS hR hl hw)
theorem px_x_iload_n {j : Fin 4} {x : Int32} (C : px_Cx p R s m args c cells slots g k D cA ar fv ro A Lx) (hd : decode (px_by k) pc = .ok (.iload_n j, 1)) (hj : px_ld ls j = some (.int x)) (h : px_G p l e R s m args below meth c cells slots Qm g k D cA ar fv ro A (pc + 1) (ls) (.int x :: r) (M)) : px_G p l e R s m args below meth c cells slots Qm g k D cA ar fv ro A (pc) (ls) (r) (M) := fun H locs jls hP hD hS hR hl hw => lv_iload_n C.1 C.2.1 hd rfl (px_lv_at hl hj) (h H locs jls hP hD hS hR hl hw)
theorem px_x_iload {j : Nat} {x : Int32} (C : px_Cx p R s m args c cells slots g k D cA ar fv ro A Lx) (hd : decode (px_by k) pc = .ok (.iload j, 2)) (hj : px_ld ls j = some (.int x)) (h : px_G p l e R s m args below meth c cells slots Qm g k D cA ar fv ro A (pc + 2) (ls) (.int x :: r) (M)) : px_G p l e R s m args below meth c cells slots Qm g k D cA ar fv ro A (pc) (ls) (r) (M) := fun H locs jls hP hD hS hR hl hw => lv_iload C.1 C.2.1 hd (px_lv_at hl hj) (h H locs jls hP hD hS hR hl hw)
theorem px_x_lload_n {j : Fin 4} {x : Int64} (C : px_Cx p R s m args c cells slots g k D cA ar fv ro A Lx) (hd : decode (px_by k) pc = .ok (.lload_n j, 1)) (hj : px_ld ls j = some (.long x)) (h : px_G p l e R s m args below meth c cells slots Qm g k D cA ar fv ro A (pc + 1) (ls) (.long x :: r) (M)) : px_G p l e R s m args below meth c cells slots Qm g k D cA ar fv ro A (pc) (ls) (r) (M) := fun H locs jls hP hD hS hR hl hw => lv_lload_n C.1 C.2.1 hd rfl (px_lv_at hl hj) (h H locs jls hP hD hS hR hl hw)
theorem px_x_lload {j : Nat} {x : Int64} (C : px_Cx p R s m args c cells slots g k D cA ar fv ro A Lx) (hd : decode (px_by k) pc = .ok (.lload j, 2)) (hj : px_ld ls j = some (.long x)) (h : px_G p l e R s m args below meth c cells slots Qm g k D cA ar fv ro A (pc + 2) (ls) (.long x :: r) (M)) : px_G p l e R s m args below meth c cells slots Qm g k D cA ar fv ro A (pc) (ls) (r) (M) := fun H locs jls hP hD hS hR hl hw => lv_lload C.1 C.2.1 hd (px_lv_at hl hj) (h H locs jls hP hD hS hR hl hw)
theorem px_x_aload_n {j : Fin 4} {a : Nat} (C : px_Cx p R s m args c cells slots g k D cA ar fv ro A Lx) (hd : decode (px_by k) pc = .ok (.aload_n j, 1)) (hj : px_ld ls j = some (.ref a)) (h : px_G p l e R s m args below meth c cells slots Qm g k D cA ar fv ro A (pc + 1) (ls) (.ref a :: r) (M)) : px_G p l e R s m args below meth c cells slots Qm g k D cA ar fv ro A (pc) (ls) (r) (M) := by
  intro H locs jls hP hD hS hR hl hw
  have h1 := h H locs jls hP hD hS hR hl hw
  have h2 := px_lv_at hl hj
  change W p l e R s m args below meth c H locs cells slots Qm (F0 m (pc + 1) jls (px_cv fv ar (.ref a) :: r.map (px_cv fv ar))) at h1
  by_cases ha : a = 1003
  · subst ha
    change jls[(j : Nat)]? = some (.val fv) at h2
    change W p l e R s m args below meth c H locs cells slots Qm (F0 m (pc + 1) jls (fv :: r.map (px_cv fv ar))) at h1
    rcases C.2.2.2.2.2.2.2.2.2 with rfl | ⟨t, rfl⟩
    · exact lv_aload_nN C.1 C.2.1 hd rfl h2 h1
    · exact lv_aload_n C.1 C.2.1 hd rfl h2 h1
  · rw [px_cv_r ha] at h1 h2
    exact lv_aload_n C.1 C.2.1 hd rfl h2 h1
theorem px_x_aload {j : Nat} {a : Nat} (C : px_Cx p R s m args c cells slots g k D cA ar fv ro A Lx) (hd : decode (px_by k) pc = .ok (.aload j, 2)) (hj : px_ld ls j = some (.ref a)) (h : px_G p l e R s m args below meth c cells slots Qm g k D cA ar fv ro A (pc + 2) (ls) (.ref a :: r) (M)) : px_G p l e R s m args below meth c cells slots Qm g k D cA ar fv ro A (pc) (ls) (r) (M) := by
  intro H locs jls hP hD hS hR hl hw
  have h1 := h H locs jls hP hD hS hR hl hw
  have h2 := px_lv_at hl hj
  change W p l e R s m args below meth c H locs cells slots Qm (F0 m (pc + 2) jls (px_cv fv ar (.ref a) :: r.map (px_cv fv ar))) at h1
  by_cases ha : a = 1003
  · subst ha
    change jls[(j : Nat)]? = some (.val fv) at h2
    change W p l e R s m args below meth c H locs cells slots Qm (F0 m (pc + 2) jls (fv :: r.map (px_cv fv ar))) at h1
    rcases C.2.2.2.2.2.2.2.2.2 with rfl | ⟨t, rfl⟩
    · exact lv_aloadN C.1 C.2.1 hd h2 h1
    · exact lv_aload C.1 C.2.1 hd h2 h1
  · rw [px_cv_r ha] at h1 h2
    exact lv_aload C.1 C.2.1 hd h2 h1
theorem px_x_istore_n {j : Fin 4} {x : Int32} (C : px_Cx p R s m args c cells slots g k D cA ar fv ro A Lx) (hd : decode (px_by k) pc = .ok (.istore_n j, 1)) (hj : (j : Nat) < px_ml k) (h : px_G p l e R s m args below meth c cells slots Qm g k D cA ar fv ro A (pc + 1) (px_s1 k ls j (.int x)) (r) (M)) : px_G p l e R s m args below meth c cells slots Qm g k D cA ar fv ro A (pc) (ls) (.int x :: r) (M) := fun H locs jls hP hD hS hR hl hw => lv_istore_n C.1 C.2.1 hd rfl hl hj rfl (fun jls hl2 => h H locs jls hP hD hS hR (px_lv_mono hl2 (px_s1_sub (px_fcat C.2.2.2.2.2.2.2.2.2) hw)) (px_s1_wf hw rfl))
theorem px_x_istore {j : Nat} {x : Int32} (C : px_Cx p R s m args c cells slots g k D cA ar fv ro A Lx) (hd : decode (px_by k) pc = .ok (.istore j, 2)) (hj : (j : Nat) < px_ml k) (h : px_G p l e R s m args below meth c cells slots Qm g k D cA ar fv ro A (pc + 2) (px_s1 k ls j (.int x)) (r) (M)) : px_G p l e R s m args below meth c cells slots Qm g k D cA ar fv ro A (pc) (ls) (.int x :: r) (M) := fun H locs jls hP hD hS hR hl hw => lv_istore C.1 C.2.1 hd hl hj rfl (fun jls hl2 => h H locs jls hP hD hS hR (px_lv_mono hl2 (px_s1_sub (px_fcat C.2.2.2.2.2.2.2.2.2) hw)) (px_s1_wf hw rfl))
theorem px_x_lstore_n {j : Fin 4} {x : Int64} (C : px_Cx p R s m args c cells slots g k D cA ar fv ro A Lx) (hd : decode (px_by k) pc = .ok (.lstore_n j, 1)) (hj : (j : Nat) + 1 < px_ml k) (hj2 : (px_ls k).contains (j : Nat) = true) (h : px_G p l e R s m args below meth c cells slots Qm g k D cA ar fv ro A (pc + 1) (px_s2 k ls j (.long x)) (r) (M)) : px_G p l e R s m args below meth c cells slots Qm g k D cA ar fv ro A (pc) (ls) (.long x :: r) (M) := fun H locs jls hP hD hS hR hl hw => lv_lstore_n C.1 C.2.1 hd rfl hl hj rfl (fun jls hl2 => h H locs jls hP hD hS hR (px_lv_mono hl2 (px_s2_sub (px_fcat C.2.2.2.2.2.2.2.2.2) hw)) (px_s2_wf hw hj2))
theorem px_x_lstore {j : Nat} {x : Int64} (C : px_Cx p R s m args c cells slots g k D cA ar fv ro A Lx) (hd : decode (px_by k) pc = .ok (.lstore j, 2)) (hj : (j : Nat) + 1 < px_ml k) (hj2 : (px_ls k).contains (j : Nat) = true) (h : px_G p l e R s m args below meth c cells slots Qm g k D cA ar fv ro A (pc + 2) (px_s2 k ls j (.long x)) (r) (M)) : px_G p l e R s m args below meth c cells slots Qm g k D cA ar fv ro A (pc) (ls) (.long x :: r) (M) := fun H locs jls hP hD hS hR hl hw => lv_lstore C.1 C.2.1 hd hl hj rfl (fun jls hl2 => h H locs jls hP hD hS hR (px_lv_mono hl2 (px_s2_sub (px_fcat C.2.2.2.2.2.2.2.2.2) hw)) (px_s2_wf hw hj2))
theorem px_x_astore_n {j : Fin 4} {a : Nat} (C : px_Cx p R s m args c cells slots g k D cA ar fv ro A Lx) (hd : decode (px_by k) pc = .ok (.astore_n j, 1)) (hj : (j : Nat) < px_ml k) (h : px_G p l e R s m args below meth c cells slots Qm g k D cA ar fv ro A (pc + 1) (px_s1 k ls j (.ref a)) (r) (M)) : px_G p l e R s m args below meth c cells slots Qm g k D cA ar fv ro A (pc) (ls) (.ref a :: r) (M) := by
  intro H locs jls hP hD hS hR hl hw
  have hc := px_fcat C.2.2.2.2.2.2.2.2.2
  have hk : ∀ (v : Value), px_cv fv ar (.ref a) = v → ∀ jls2 : Array Slot, lv_has jls2 (px_ml k) (((j : Nat), v) :: (px_lvs fv ar ls).filter (fun q => !(q.1 == (j : Nat)) && !(q.1 + 1 == (j : Nat) && q.2.category == 2))) → W p l e R s m args below meth c H locs cells slots Qm (F0 m (pc + 1) jls2 (r.map (px_cv fv ar))) := by
    intro v hv jls2 hl2
    subst hv
    exact h H locs jls2 hP hD hS hR (px_lv_mono hl2 (px_s1_sub hc hw)) (px_s1_wf hw rfl)
  show W p l e R s m args below meth c H locs cells slots Qm (F0 m pc jls (px_cv fv ar (.ref a) :: r.map (px_cv fv ar)))
  by_cases ha : a = 1003
  · subst ha
    rcases C.2.2.2.2.2.2.2.2.2 with rfl | ⟨t, rfl⟩
    · exact lv_astore_nN C.1 C.2.1 hd rfl hl hj rfl (hk _ rfl)
    · exact lv_astore_n C.1 C.2.1 hd rfl hl hj rfl (hk _ rfl)
  · rw [px_cv_r ha]
    exact lv_astore_n C.1 C.2.1 hd rfl hl hj rfl (hk _ (px_cv_r ha))
theorem px_x_astore {j : Nat} {a : Nat} (C : px_Cx p R s m args c cells slots g k D cA ar fv ro A Lx) (hd : decode (px_by k) pc = .ok (.astore j, 2)) (hj : (j : Nat) < px_ml k) (h : px_G p l e R s m args below meth c cells slots Qm g k D cA ar fv ro A (pc + 2) (px_s1 k ls j (.ref a)) (r) (M)) : px_G p l e R s m args below meth c cells slots Qm g k D cA ar fv ro A (pc) (ls) (.ref a :: r) (M) := by
  intro H locs jls hP hD hS hR hl hw
  have hc := px_fcat C.2.2.2.2.2.2.2.2.2
  have hk : ∀ (v : Value), px_cv fv ar (.ref a) = v → ∀ jls2 : Array Slot, lv_has jls2 (px_ml k) (((j : Nat), v) :: (px_lvs fv ar ls).filter (fun q => !(q.1 == (j : Nat)) && !(q.1 + 1 == (j : Nat) && q.2.category == 2))) → W p l e R s m args below meth c H locs cells slots Qm (F0 m (pc + 2) jls2 (r.map (px_cv fv ar))) := by
    intro v hv jls2 hl2
    subst hv
    exact h H locs jls2 hP hD hS hR (px_lv_mono hl2 (px_s1_sub hc hw)) (px_s1_wf hw rfl)
  show W p l e R s m args below meth c H locs cells slots Qm (F0 m pc jls (px_cv fv ar (.ref a) :: r.map (px_cv fv ar)))
  by_cases ha : a = 1003
  · subst ha
    rcases C.2.2.2.2.2.2.2.2.2 with rfl | ⟨t, rfl⟩
    · exact lv_astoreN C.1 C.2.1 hd hl hj rfl (hk _ rfl)
    · exact lv_astore C.1 C.2.1 hd hl hj rfl (hk _ rfl)
  · rw [px_cv_r ha]
    exact lv_astore C.1 C.2.1 hd hl hj rfl (hk _ (px_cv_r ha))
theorem px_x_iinc {j : Nat} {n : Int} {x : Int32} (C : px_Cx p R s m args c cells slots g k D cA ar fv ro A Lx) (hd : decode (px_by k) pc = .ok (.iinc j n, 3)) (hj : j < px_ml k) (hx : px_ld ls j = some (.int x)) (h : px_G p l e R s m args below meth c cells slots Qm g k D cA ar fv ro A (pc + 3) (px_s1 k ls j (.int (x + Int32.ofInt n))) (r) (M)) : px_G p l e R s m args below meth c cells slots Qm g k D cA ar fv ro A (pc) (ls) (r) (M) := by
  intro H locs jls hP hD hS hR hl hw
  obtain ⟨q, hq⟩ := List.getElem?_of_mem (px_lvs_in (fv := fv) (ar := ar) (q := (j, .int x)) |>.mpr ⟨_, hx, rfl⟩)
  exact lv_iinc C.1 C.2.1 hd hl hq rfl hj rfl (fun jls hl2 => h H locs jls hP hD hS hR (px_lv_mono hl2 (px_s1_sub (px_fcat C.2.2.2.2.2.2.2.2.2) hw)) (px_s1_wf hw rfl))
theorem px_cv_c {fv : Value} {ar : Nat → Nat} {v : Value} (hf : fv = .null ∨ ∃ t, fv = .ref t) (h : v.category = 1) : (px_cv fv ar v).category = 1 := by
  rw [px_cv_cat (px_fcat hf)]
  exact h
theorem px_x_dup {v : Value} (C : px_Cx p R s m args c cells slots g k D cA ar fv ro A Lx) (hd : decode (px_by k) pc = .ok (.dup, 1)) (hv : v.category = 1) (h : px_G p l e R s m args below meth c cells slots Qm g k D cA ar fv ro A (pc + 1) (ls) (v :: v :: r) (M)) : px_G p l e R s m args below meth c cells slots Qm g k D cA ar fv ro A (pc) (ls) (v :: r) (M) := fun H locs jls hP hD hS hR hl hw => lv_dup C.1 C.2.1 hd (px_cv_c C.2.2.2.2.2.2.2.2.2 hv) (h H locs jls hP hD hS hR hl hw)
theorem px_x_pop {v : Value} (C : px_Cx p R s m args c cells slots g k D cA ar fv ro A Lx) (hd : decode (px_by k) pc = .ok (.pop, 1)) (hv : v.category = 1) (h : px_G p l e R s m args below meth c cells slots Qm g k D cA ar fv ro A (pc + 1) (ls) (r) (M)) : px_G p l e R s m args below meth c cells slots Qm g k D cA ar fv ro A (pc) (ls) (v :: r) (M) := fun H locs jls hP hD hS hR hl hw => lv_pop C.1 C.2.1 hd (px_cv_c C.2.2.2.2.2.2.2.2.2 hv) (h H locs jls hP hD hS hR hl hw)
theorem px_x_dup2l {x : Int64} (C : px_Cx p R s m args c cells slots g k D cA ar fv ro A Lx) (hd : decode (px_by k) pc = .ok (.dup2, 1)) (h : px_G p l e R s m args below meth c cells slots Qm g k D cA ar fv ro A (pc + 1) (ls) (.long x :: .long x :: r) (M)) : px_G p l e R s m args below meth c cells slots Qm g k D cA ar fv ro A (pc) (ls) (.long x :: r) (M) := fun H locs jls hP hD hS hR hl hw => lv_dup2_2 C.1 C.2.1 hd rfl (h H locs jls hP hD hS hR hl hw)
theorem px_x_dup2 {v w : Value} (C : px_Cx p R s m args c cells slots g k D cA ar fv ro A Lx) (hd : decode (px_by k) pc = .ok (.dup2, 1)) (hv : v.category = 1) (hw2 : w.category = 1) (h : px_G p l e R s m args below meth c cells slots Qm g k D cA ar fv ro A (pc + 1) (ls) (v :: w :: v :: w :: r) (M)) : px_G p l e R s m args below meth c cells slots Qm g k D cA ar fv ro A (pc) (ls) (v :: w :: r) (M) := fun H locs jls hP hD hS hR hl hw => lv_dup2_11 C.1 C.2.1 hd (px_cv_c C.2.2.2.2.2.2.2.2.2 hv) (px_cv_c C.2.2.2.2.2.2.2.2.2 hw2) (h H locs jls hP hD hS hR hl hw)
theorem px_x_ldc {i pl : Nat} {v : Int32} (C : px_Cx p R s m args c cells slots g k D cA ar fv ro A Lx) (hd : decode (px_by k) pc = .ok (.ldc i, 2)) (hf : px_kck (px_ow k) i = some (v, pl)) (h : px_G p l e R s m args below meth c cells slots Qm g k D cA ar fv ro A (pc + 2) (ls) (.int v :: r) (M)) : px_G p l e R s m args below meth c cells slots Qm g k D cA ar fv ro A (pc) (ls) (r) (M) := by
  have hk := List.all_eq_true.mp (px_qi_all (px_ow k)) _ (px_lk_in hf)
  exact fun H locs jls hP hD hS hR hl hw => lv_ldc C.1 C.2.1 C.2.2.2.1 (C.2.2.2.2.1 _ (px_w_in hk)) hd (h H locs jls hP hD hS hR hl hw)
theorem px_x_ldcw {i pl : Nat} {v : Int32} (C : px_Cx p R s m args c cells slots g k D cA ar fv ro A Lx) (hd : decode (px_by k) pc = .ok (.ldc_w i, 3)) (hf : px_kck (px_ow k) i = some (v, pl)) (h : px_G p l e R s m args below meth c cells slots Qm g k D cA ar fv ro A (pc + 3) (ls) (.int v :: r) (M)) : px_G p l e R s m args below meth c cells slots Qm g k D cA ar fv ro A (pc) (ls) (r) (M) := by
  have hk := List.all_eq_true.mp (px_qi_all (px_ow k)) _ (px_lk_in hf)
  exact fun H locs jls hP hD hS hR hl hw => lv_ldcw C.1 C.2.1 C.2.2.2.1 (C.2.2.2.2.1 _ (px_w_in hk)) hd (h H locs jls hP hD hS hR hl hw)
theorem px_x_ldc2 {i pl : Nat} {v : Int64} (C : px_Cx p R s m args c cells slots g k D cA ar fv ro A Lx) (hd : decode (px_by k) pc = .ok (.ldc2_w i, 3)) (hf : px_kjk (px_ow k) i = some (v, pl)) (h : px_G p l e R s m args below meth c cells slots Qm g k D cA ar fv ro A (pc + 3) (ls) (.long v :: r) (M)) : px_G p l e R s m args below meth c cells slots Qm g k D cA ar fv ro A (pc) (ls) (r) (M) := by
  have hk := List.all_eq_true.mp (px_ql_all (px_ow k)) _ (px_lk_in hf)
  exact fun H locs jls hP hD hS hR hl hw => lv_ldc2 C.1 C.2.1 C.2.2.2.1 (C.2.2.2.2.1 _ (px_w_in hk)) hd (h H locs jls hP hD hS hR hl hw)
theorem px_x_ldcs {i t pl : Nat} (C : px_Cx p R s m args c cells slots g k D cA ar fv ro A Lx) (hd : decode (px_by k) pc = .ok (.ldc i, 2)) (hf : px_ksk (px_ow k) i = some (t, pl)) (hg : g = 0) (h : px_G p l e R s m args below meth c cells slots Qm g k D cA ar fv ro A (pc + 2) (ls) (.ref (1100 + t) :: r) (M)) : px_G p l e R s m args below meth c cells slots Qm g k D cA ar fv ro A (pc) (ls) (r) (M) := by
  intro H locs jls hP hD hS hR hl hw
  have h1 := h H locs jls hP hD hS hR hl hw
  change W p l e R s m args below meth c H locs cells slots Qm (F0 m (pc + 2) jls (px_cv fv ar (.ref (1100 + t)) :: r.map (px_cv fv ar))) at h1
  rw [px_cv_r (by omega)] at h1
  exact va_ldcS C.1 C.2.1 C.2.2.2.1 ((C.2.2.2.2.2.2.2.2.1 hg).2.2.2.2.1 _ _ _ _ hf) hd h1
theorem px_x_icmp {cd : ClassFile.Cond} {x y : Int32} {off : Int} (C : px_Cx p R s m args c cells slots g k D cA ar fv ro A Lx) (hd : decode (px_by k) pc = .ok (.if_icmp cd off, 3)) (ho : 0 ≤ (pc : Int) + off) (h : px_br cd x y (px_G p l e R s m args below meth c cells slots Qm g k D cA ar fv ro A (px_jt pc off) (ls) (r) (M)) (px_G p l e R s m args below meth c cells slots Qm g k D cA ar fv ro A (pc + 3) (ls) (r) (M))) : px_G p l e R s m args below meth c cells slots Qm g k D cA ar fv ro A (pc) (ls) (.int y :: .int x :: r) (M) := by
  intro H locs jls hP hD hS hR hl hw
  have ht := px_jt_ok ho
  cases cd
  · exact lv_icmp_eq C.1 C.2.1 hd ht (fun q => h.1 q H locs jls hP hD hS hR hl hw) (fun q => h.2 q H locs jls hP hD hS hR hl hw)
  · exact lv_icmp_ne C.1 C.2.1 hd ht (fun q => h.1 q H locs jls hP hD hS hR hl hw) (fun q => h.2 q H locs jls hP hD hS hR hl hw)
  · exact lv_icmp_lt C.1 C.2.1 hd ht (fun q => h.1 q H locs jls hP hD hS hR hl hw) (fun q => h.2 q H locs jls hP hD hS hR hl hw)
  · exact lv_icmp_ge C.1 C.2.1 hd ht (fun q => h.1 q H locs jls hP hD hS hR hl hw) (fun q => h.2 q H locs jls hP hD hS hR hl hw)
  · exact lv_icmp_gt C.1 C.2.1 hd ht (fun q => h.1 q H locs jls hP hD hS hR hl hw) (fun q => h.2 q H locs jls hP hD hS hR hl hw)
  · exact lv_icmp_le C.1 C.2.1 hd ht (fun q => h.1 q H locs jls hP hD hS hR hl hw) (fun q => h.2 q H locs jls hP hD hS hR hl hw)
theorem px_x_if {cd : ClassFile.Cond} {x : Int32} {off : Int} (C : px_Cx p R s m args c cells slots g k D cA ar fv ro A Lx) (hd : decode (px_by k) pc = .ok (.ifCond cd off, 3)) (ho : 0 ≤ (pc : Int) + off) (h : px_br cd x 0 (px_G p l e R s m args below meth c cells slots Qm g k D cA ar fv ro A (px_jt pc off) (ls) (r) (M)) (px_G p l e R s m args below meth c cells slots Qm g k D cA ar fv ro A (pc + 3) (ls) (r) (M))) : px_G p l e R s m args below meth c cells slots Qm g k D cA ar fv ro A (pc) (ls) (.int x :: r) (M) := by
  intro H locs jls hP hD hS hR hl hw
  have ht := px_jt_ok ho
  cases cd
  · exact lv_if_eq C.1 C.2.1 hd ht (fun q => h.1 q H locs jls hP hD hS hR hl hw) (fun q => h.2 q H locs jls hP hD hS hR hl hw)
  · exact lv_if_ne C.1 C.2.1 hd ht (fun q => h.1 q H locs jls hP hD hS hR hl hw) (fun q => h.2 q H locs jls hP hD hS hR hl hw)
  · exact lv_if_lt C.1 C.2.1 hd ht (fun q => h.1 q H locs jls hP hD hS hR hl hw) (fun q => h.2 q H locs jls hP hD hS hR hl hw)
  · exact lv_if_ge C.1 C.2.1 hd ht (fun q => h.1 q H locs jls hP hD hS hR hl hw) (fun q => h.2 q H locs jls hP hD hS hR hl hw)
  · exact lv_if_gt C.1 C.2.1 hd ht (fun q => h.1 q H locs jls hP hD hS hR hl hw) (fun q => h.2 q H locs jls hP hD hS hR hl hw)
  · exact lv_if_le C.1 C.2.1 hd ht (fun q => h.1 q H locs jls hP hD hS hR hl hw) (fun q => h.2 q H locs jls hP hD hS hR hl hw)
theorem px_x_goto {off : Int} (C : px_Cx p R s m args c cells slots g k D cA ar fv ro A Lx) (hd : decode (px_by k) pc = .ok (.goto off, 3)) (ho : 0 ≤ (pc : Int) + off) (h : px_G p l e R s m args below meth c cells slots Qm g k D cA ar fv ro A (px_jt pc off) (ls) (r) (M)) : px_G p l e R s m args below meth c cells slots Qm g k D cA ar fv ro A (pc) (ls) (r) (M) := fun H locs jls hP hD hS hR hl hw => lv_goto C.1 C.2.1 hd (px_jt_ok ho) (h H locs jls hP hD hS hR hl hw)
theorem px_x_switch {d lo hi : Int} {offs : Array Int} {len : Nat} {x : Int32} (C : px_Cx p R s m args c cells slots g k D cA ar fv ro A Lx) (hd : decode (px_by k) pc = .ok (.tableswitch d lo hi offs, len)) (ho : 0 ≤ (pc : Int) + d) (ho2 : ∀ o ∈ offs.toList, 0 ≤ (pc : Int) + o) (hsz : hi - lo < offs.size) (h : px_G p l e R s m args below meth c cells slots Qm g k D cA ar fv ro A (px_sw pc d lo hi offs x) (ls) (r) (M)) : px_G p l e R s m args below meth c cells slots Qm g k D cA ar fv ro A (pc) (ls) (.int x :: r) (M) := by
  intro H locs jls hP hD hS hR hl hw
  have h1 := h H locs jls hP hD hS hR hl hw
  unfold px_sw at h1
  by_cases hx : x.toInt < lo ∨ hi < x.toInt
  · rw [if_pos hx] at h1
    exact lv_tableOut C.1 C.2.1 hd hx (px_jt_ok ho) h1
  · rw [if_neg hx] at h1
    have hn : (x.toInt - lo).toNat < offs.size := by omega
    have he : offs[(x.toInt - lo).toNat]? = some (offs.getD (x.toInt - lo).toNat 0) := by
      rw [Array.getD_eq_getD_getElem?, Array.getElem?_eq_getElem hn]
      rfl
    refine lv_tableIn C.1 C.2.1 hd (fun q => hx (Or.inl q)) (fun q => hx (Or.inr q)) he (px_jt_ok (ho2 _ ?_)) h1
    have := Array.mem_of_getElem? he
    exact Array.mem_toList_iff.mpr this
end PXS
end
section
theorem px_w_math : Cond.initialized "java/lang/Math" ∈ px_gw := px_w_in (i := 139) (by decide +kernel)
theorem px_w_ms_abs : Cond.static Lib.MathLoose.abs_long.x ∈ px_gw := px_w_in (i := 1153) (by decide +kernel)
theorem px_w_mc_abs : Cond.code Lib.MathLoose.abs_long.x Lib.MathLoose.abs_long.code 2 (some .long) ∈ px_gw := px_w_in (i := 1154) (by decide +kernel)
theorem px_w_ms_min : Cond.static Lib.Math.min.name ∈ px_gw := px_w_in (i := 524) (by decide +kernel)
theorem px_w_mc_min : Cond.code Lib.Math.min.name Lib.Math.min.code 2 (some .int) ∈ px_gw := px_w_in (i := 525) (by decide +kernel)
theorem px_w_ms_max : Cond.static Lib.Math.max.name ∈ px_gw := px_w_in (i := 699) (by decide +kernel)
theorem px_w_mc_max : Cond.code Lib.Math.max.name Lib.Math.max.code 2 (some .int) ∈ px_gw := px_w_in (i := 700) (by decide +kernel)
theorem px_w_native : Cond.native arraycopyName ∈ px_gw := px_w_in (i := 655) (by decide +kernel)
theorem px_w_static : Cond.static arraycopyName ∈ px_gw := px_w_in (i := 654) (by decide +kernel)
theorem px_w_system : Cond.initialized "java/lang/System" ∈ px_gw := px_w_in (i := 145) (by decide +kernel)
theorem px_mi_get {α β : Type} {l : List α} {f : Nat → α → β} {j : Nat} {x : α} (h : l[j]? = some x) : (l.mapIdx f)[j]? = some (f j x) := by
  rw [List.getElem?_mapIdx, h]
  rfl
theorem px_fc_at {ci j : Nat} (h : j < (px_fcl.getD ci []).length) : (px_fcl.getD ci [])[j]? = some (px_fc ci j) := by
  unfold px_fc
  rw [List.getD_eq_getElem?_getD (l := px_fcl.getD ci []), List.getElem?_eq_getElem h]
  rfl
theorem px_mi_set {ar : Nat → Nat} {M M' : px_Mem} {a j ci : Nat} {v : Value} (hj : j < (px_fcl.getD ci []).length) (hv : px_fw ar M' a j (px_fc ci j) = v) (h1 : ∀ t, t ≠ j → M'.1 a t = M.1 a t) (h2 : ∀ t, t ≠ j → M'.2 a t = M.2 a t) : (px_fcl.getD ci []).mapIdx (fun i c => px_fw ar M' a i c) = ((px_fcl.getD ci []).mapIdx (fun i c => px_fw ar M a i c)).set j v := by
  apply List.ext_getElem?
  intro t
  by_cases ht : t = j
  · subst ht
    rw [px_mi_get (px_fc_at hj), List.getElem?_set_self (by rw [List.length_mapIdx]; exact hj), hv]
  · rw [List.getElem?_set_ne (fun e => ht e.symm), List.getElem?_mapIdx, List.getElem?_mapIdx]
    cases (px_fcl.getD ci [])[t]? with
    | none => rfl
    | some x =>
      show some (px_fw ar M' a t x) = some (px_fw ar M a t x)
      unfold px_fw
      rw [h1 t ht, h2 t ht]
theorem px_ro_wI {ro : Nat → Nat → Int32} {M : px_Mem} {a i : Nat} {x : Int32} (h : px_ro ro M) (ha : a < 163) : px_ro ro (px_wI M a i x) := by
  intro b hb
  show va_up M.1 a _ b = _
  rw [va_up_ne _ _ (by omega)]
  exact h b hb
theorem px_ro_aI {ro : Nat → Nat → Int32} {M : px_Mem} {a : Nat} {f : Nat → Int32} (h : px_ro ro M) (ha : a < 163) : px_ro ro (px_aI M a f) := by
  intro b hb
  show va_up M.1 a _ b = _
  rw [va_up_ne _ _ (by omega)]
  exact h b hb
theorem px_upd_ne {f : Nat → Int32} {k j : Nat} {x : Int32} (h : j ≠ k) : upd f k x j = f j := if_neg h
theorem px_upd_self {f : Nat → Int32} {k : Nat} {x : Int32} : upd f k x k = x := if_pos rfl
theorem px_updL_ne {f : Nat → Int64} {k j : Nat} {x : Int64} (h : j ≠ k) : vp_updL f k x j = f j := if_neg h
theorem px_updL_self {f : Nat → Int64} {k : Nat} {x : Int64} : vp_updL f k x k = x := if_pos rfl
theorem px_cn_cls : ∀ ci, ci < 12 → ∀ q, px_cls[ci]? = some q → q.1 = px_cn ci := by
  intro ci h q hq
  have : ci = 0 ∨ ci = 1 ∨ ci = 2 ∨ ci = 3 ∨ ci = 4 ∨ ci = 5 ∨ ci = 6 ∨ ci = 7 ∨ ci = 8 ∨ ci = 9 ∨ ci = 10 ∨ ci = 11 := by omega
  rcases this with rfl | rfl | rfl | rfl | rfl | rfl | rfl | rfl | rfl | rfl | rfl | rfl <;> (cases hq; rfl)
section PXT
variable {p : Program} {l : Launch} {e : Env} {R : Room} {s : State} {m : MethodId} {args : Array Value} {below : List Frame} {meth : Method} {c : Code} {cells slots : Nat} {Qm : State → Prop} {g k : Nat} {D : va_G} {cA : Nat → ClassId} {ar : Nat → Nat} {fv : Value} {ro : Nat → Nat → Int32} {A : Nat → Prop} {Lx : Nat} {pc : Nat} {ls : px_Lo} {M : px_Mem} {r : List Value}
theorem px_x_getf {i ci j pl a : Nat} (C : px_Cx p R s m args c cells slots g k D cA ar fv ro A Lx) (hd : decode (px_by k) pc = .ok (.getfield i, 3)) (hf : px_flk (px_ow k) i = some (ci, j, pl)) (ha : px_sh g a = some (.inl ci)) (h : px_G p l e R s m args below meth c cells slots Qm g k D cA ar fv ro A (pc + 3) (ls) (px_fv M a j (px_fc ci j) :: r) (M)) : px_G p l e R s m args below meth c cells slots Qm g k D cA ar fv ro A (pc) (ls) (.ref a :: r) (M) := by
  intro H locs jls hP hD hS hR hl hw
  have h1 := h H locs jls hP hD hS hR hl hw
  obtain ⟨hx, hb, hml, hown, hts, hrm, hcs, hK, hST, hfv⟩ := C
  have hk := List.all_eq_true.mp (px_qf_all (px_ow k)) _ (px_lk_in hf)
  have h0 := px_sh_0 ha
  change W p l e R s m args below meth c H locs cells slots Qm (F0 m (pc + 3) jls (px_cv fv ar (px_fv M a j (px_fc ci j)) :: r.map (px_cv fv ar))) at h1
  show W p l e R s m args below meth c H locs cells slots Qm (F0 m pc jls (px_cv fv ar (.ref a) :: r.map (px_cv fv ar)))
  rw [px_cv_r (px_sh_ne ha)]
  rw [px_fv_cv] at h1
  unfold px_kf at hk
  by_cases hw2 : a < 1000
  · obtain ⟨q, hq, hwq⟩ := px_ws_get (ar := ar) (cA := cA) (M := M) (px_sh_L ha hw2)
    have hci : ci < 12 := px_sh0_c hw2 h0
    rw [if_neg (show ¬ ci = 12 by omega)] at hk
    cases hr : px_cls[ci]? with
    | none => simp only [hr] at hk; cases hk
    | some r' =>
      simp only [hr, Bool.and_eq_true, decide_eq_true_eq] at hk
      obtain ⟨⟨k1, k2⟩, k3⟩ := hk
      obtain ⟨C1, T, N⟩ := r'
      have hc4 := (px_cls_ok hr).2.2.2
      rw [px_e_o h0] at hwq
      refine va_get (ci := ci) (C := C1) (T := T) (N := N) hx hb hts (px_cls_ok hr).1 hown hK hP q hwq hr j k3 (hts _ (px_w_in k1)) (fun x hx9 => by rw [k2] at hx9; exact hx9) (px_mi_get (px_fc_at (by rw [hc4]; exact k3))) hd h1
  · obtain ⟨i', hi', rfl, rfl⟩ := px_ro_o hw2 h0
    have hs4 := (hST (px_sh_g ha hw2)).2.2.2.1 i' hi'
    rw [if_pos rfl] at hk
    match j, hk, h1 with
    | 0, hk, h1 =>
      have e1 : px_fw ar M (1100 + i') 0 (px_fc 12 0) = .ref (ar (1200 + i')) := by
        show Value.ref (ar (px_rf (1100 + i') 0)) = _
        unfold px_rf
        rw [if_neg hw2, show 1100 + i' + 100 = 1200 + i' by omega]
      rw [e1] at h1
      exact vk_getf hx hb hs4.2.2.1 hS hown (hts _ (px_w_in hk)) (fun _ h9 => h9) hd h1
    | 1, hk, h1 =>
      have e1 : px_fw ar M (1100 + i') 1 (px_fc 12 1) = .int (ro (1100 + i') 1) := by
        show Value.int (M.1 (1100 + i') 1) = _
        rw [hR _ (by omega)]
      rw [e1] at h1
      exact vk_getf hx hb hs4.2.1 hS hown (hts _ (px_w_in hk)) (fun _ h9 => h9) hd h1
theorem px_x_puti {i ci j pl a : Nat} {x : Int32} (C : px_Cx p R s m args c cells slots g k D cA ar fv ro A Lx) (hd : decode (px_by k) pc = .ok (.putfield i, 3)) (hf : px_flk (px_ow k) i = some (ci, j, pl)) (hfn : px_fin ci j = false) (hc : px_fc ci j = 0) (ha : px_sh g a = some (.inl ci)) (h : px_G p l e R s m args below meth c cells slots Qm g k D cA ar fv ro A (pc + 3) (ls) (r) (px_wI M a j x)) : px_G p l e R s m args below meth c cells slots Qm g k D cA ar fv ro A (pc) (ls) (.int x :: .ref a :: r) (M) := by
  intro H locs jls hP hD hS hR hl hw
  have hC := C
  obtain ⟨hx, hb, hml, hown, hts, hrm, hcs, hK, hST, hfv⟩ := hC
  have hk := List.all_eq_true.mp (px_qf_all (px_ow k)) _ (px_lk_in hf)
  have h0 := px_sh_0 ha
  show W p l e R s m args below meth c H locs cells slots Qm (F0 m pc jls (.int x :: px_cv fv ar (.ref a) :: r.map (px_cv fv ar)))
  rw [px_cv_r (px_sh_ne ha)]
  unfold px_kf at hk
  by_cases hw2 : a < 1000
  · have hL := px_sh_L ha hw2
    obtain ⟨q, hq, hwq⟩ := px_ws_get (ar := ar) (cA := cA) (M := M) hL
    have hci : ci < 12 := px_sh0_c hw2 h0
    rw [if_neg (show ¬ ci = 12 by omega)] at hk
    cases hr : px_cls[ci]? with
    | none => simp only [hr] at hk; cases hk
    | some r' =>
      simp only [hr, Bool.and_eq_true, decide_eq_true_eq] at hk
      obtain ⟨⟨k1, k2⟩, k3⟩ := hk
      obtain ⟨C1, T, N⟩ := r'
      obtain ⟨o1, o2, o3, o4⟩ := px_cls_ok hr
      have hjl : j < (px_fcl.getD ci []).length := by rw [o4]; exact k3
      have hty := o2 j k3
      unfold px_tyk at hty
      rw [hc] at hty
      have hpd : parseFieldDescriptor (T j).2.2.1 = some .int := of_decide_eq_true hty
      have hfin : (T j).2.2.2 = false := by
        unfold px_fin at hfn
        rw [hr] at hfn
        exact hfn
      rw [px_e_o h0] at hwq
      have hset : (px_ws g ar cA M).set q (ar a, .inr (ci, ((px_fcl.getD ci []).mapIdx (fun i c => px_fw ar M a i c)).set j (.int x))) = px_ws g ar cA (px_wI M a j x) := by
        refine px_ws_set hq ?_ (fun b hb => px_e_oth (by show va_up M.1 a _ b = _; rw [va_up_ne _ _ hb]) rfl)
        rw [px_e_o h0]
        rw [px_mi_set (M' := px_wI M a j x) hjl (v := .int x) ?_ (M := M) (fun t ht => by show va_up M.1 a _ a t = _; rw [va_up_self]; exact px_upd_ne ht) (fun t ht => rfl)]
        rw [hc]
        show Value.int _ = _
        simp [px_wI, va_up_self, px_upd_self, px_updL_self]
      refine va_put (ci := ci) (C := C1) (T := T) (N := N) (v := .int x) (ty := .int) hx hb hts o1 (fun k9 => (parseFieldDescriptor (T k9).2.2.1).getD .int) (fun k9 h9 => px_tyk_some (o2 k9 h9)) o3 hown hK hP hD hS q hwq hr j k3 (hts _ (px_w_in k1)) (fun x hx9 => by rw [k2] at hx9; exact hx9) hfin hpd rfl rfl (by rw [List.length_mapIdx]; exact hjl) hd (fun H1 locs1 hP1 hD1 hS1 => ?_)
      rw [hset] at hP1 hD1
      exact h H1 locs1 jls hP1 hD1 hS1 (px_ro_wI hR (px_L_lt hL)) hl hw
  · obtain ⟨i', hi', rfl, rfl⟩ := px_ro_o hw2 h0
    exfalso
    unfold px_fin at hfn
    have e1 : px_cls[12]? = none := rfl
    rw [e1] at hfn
    cases hfn
theorem px_x_putl {i ci j pl a : Nat} {x : Int64} (C : px_Cx p R s m args c cells slots g k D cA ar fv ro A Lx) (hd : decode (px_by k) pc = .ok (.putfield i, 3)) (hf : px_flk (px_ow k) i = some (ci, j, pl)) (hfn : px_fin ci j = false) (hc : px_fc ci j = 1) (ha : px_sh g a = some (.inl ci)) (h : px_G p l e R s m args below meth c cells slots Qm g k D cA ar fv ro A (pc + 3) (ls) (r) (px_wL M a j x)) : px_G p l e R s m args below meth c cells slots Qm g k D cA ar fv ro A (pc) (ls) (.long x :: .ref a :: r) (M) := by
  intro H locs jls hP hD hS hR hl hw
  have hC := C
  obtain ⟨hx, hb, hml, hown, hts, hrm, hcs, hK, hST, hfv⟩ := hC
  have hk := List.all_eq_true.mp (px_qf_all (px_ow k)) _ (px_lk_in hf)
  have h0 := px_sh_0 ha
  show W p l e R s m args below meth c H locs cells slots Qm (F0 m pc jls (.long x :: px_cv fv ar (.ref a) :: r.map (px_cv fv ar)))
  rw [px_cv_r (px_sh_ne ha)]
  unfold px_kf at hk
  by_cases hw2 : a < 1000
  · have hL := px_sh_L ha hw2
    obtain ⟨q, hq, hwq⟩ := px_ws_get (ar := ar) (cA := cA) (M := M) hL
    have hci : ci < 12 := px_sh0_c hw2 h0
    rw [if_neg (show ¬ ci = 12 by omega)] at hk
    cases hr : px_cls[ci]? with
    | none => simp only [hr] at hk; cases hk
    | some r' =>
      simp only [hr, Bool.and_eq_true, decide_eq_true_eq] at hk
      obtain ⟨⟨k1, k2⟩, k3⟩ := hk
      obtain ⟨C1, T, N⟩ := r'
      obtain ⟨o1, o2, o3, o4⟩ := px_cls_ok hr
      have hjl : j < (px_fcl.getD ci []).length := by rw [o4]; exact k3
      have hty := o2 j k3
      unfold px_tyk at hty
      rw [hc] at hty
      have hpd : parseFieldDescriptor (T j).2.2.1 = some .long := of_decide_eq_true hty
      have hfin : (T j).2.2.2 = false := by
        unfold px_fin at hfn
        rw [hr] at hfn
        exact hfn
      rw [px_e_o h0] at hwq
      have hset : (px_ws g ar cA M).set q (ar a, .inr (ci, ((px_fcl.getD ci []).mapIdx (fun i c => px_fw ar M a i c)).set j (.long x))) = px_ws g ar cA (px_wL M a j x) := by
        refine px_ws_set hq ?_ (fun b hb => px_e_oth rfl (by show va_up M.2 a _ b = _; rw [va_up_ne _ _ hb]))
        rw [px_e_o h0]
        rw [px_mi_set (M' := px_wL M a j x) hjl (v := .long x) ?_ (M := M) (fun t ht => rfl) (fun t ht => by show va_up M.2 a _ a t = _; rw [va_up_self]; exact px_updL_ne ht)]
        rw [hc]
        show Value.long _ = _
        simp [px_wL, va_up_self, px_upd_self, px_updL_self]
      refine va_put (ci := ci) (C := C1) (T := T) (N := N) (v := .long x) (ty := .long) hx hb hts o1 (fun k9 => (parseFieldDescriptor (T k9).2.2.1).getD .int) (fun k9 h9 => px_tyk_some (o2 k9 h9)) o3 hown hK hP hD hS q hwq hr j k3 (hts _ (px_w_in k1)) (fun x hx9 => by rw [k2] at hx9; exact hx9) hfin hpd rfl rfl (by rw [List.length_mapIdx]; exact hjl) hd (fun H1 locs1 hP1 hD1 hS1 => ?_)
      rw [hset] at hP1 hD1
      exact h H1 locs1 jls hP1 hD1 hS1 hR hl hw
  · obtain ⟨i', hi', rfl, rfl⟩ := px_ro_o hw2 h0
    exfalso
    unfold px_fin at hfn
    have e1 : px_cls[12]? = none := rfl
    rw [e1] at hfn
    cases hfn
theorem px_x_putz {i ci j pl a : Nat} {x : Int32} (C : px_Cx p R s m args c cells slots g k D cA ar fv ro A Lx) (hd : decode (px_by k) pc = .ok (.putfield i, 3)) (hf : px_flk (px_ow k) i = some (ci, j, pl)) (hfn : px_fin ci j = false) (hc : px_fc ci j = 2) (hz : x = 0 ∨ x = 1) (ha : px_sh g a = some (.inl ci)) (h : px_G p l e R s m args below meth c cells slots Qm g k D cA ar fv ro A (pc + 3) (ls) (r) (px_wI M a j x)) : px_G p l e R s m args below meth c cells slots Qm g k D cA ar fv ro A (pc) (ls) (.int x :: .ref a :: r) (M) := by
  intro H locs jls hP hD hS hR hl hw
  have hC := C
  obtain ⟨hx, hb, hml, hown, hts, hrm, hcs, hK, hST, hfv⟩ := hC
  have hk := List.all_eq_true.mp (px_qf_all (px_ow k)) _ (px_lk_in hf)
  have h0 := px_sh_0 ha
  show W p l e R s m args below meth c H locs cells slots Qm (F0 m pc jls (.int x :: px_cv fv ar (.ref a) :: r.map (px_cv fv ar)))
  rw [px_cv_r (px_sh_ne ha)]
  unfold px_kf at hk
  by_cases hw2 : a < 1000
  · have hL := px_sh_L ha hw2
    obtain ⟨q, hq, hwq⟩ := px_ws_get (ar := ar) (cA := cA) (M := M) hL
    have hci : ci < 12 := px_sh0_c hw2 h0
    rw [if_neg (show ¬ ci = 12 by omega)] at hk
    cases hr : px_cls[ci]? with
    | none => simp only [hr] at hk; cases hk
    | some r' =>
      simp only [hr, Bool.and_eq_true, decide_eq_true_eq] at hk
      obtain ⟨⟨k1, k2⟩, k3⟩ := hk
      obtain ⟨C1, T, N⟩ := r'
      obtain ⟨o1, o2, o3, o4⟩ := px_cls_ok hr
      have hjl : j < (px_fcl.getD ci []).length := by rw [o4]; exact k3
      have hty := o2 j k3
      unfold px_tyk at hty
      rw [hc] at hty
      have hpd : parseFieldDescriptor (T j).2.2.1 = some .boolean := of_decide_eq_true hty
      have hfin : (T j).2.2.2 = false := by
        unfold px_fin at hfn
        rw [hr] at hfn
        exact hfn
      rw [px_e_o h0] at hwq
      have hset : (px_ws g ar cA M).set q (ar a, .inr (ci, ((px_fcl.getD ci []).mapIdx (fun i c => px_fw ar M a i c)).set j (.int x))) = px_ws g ar cA (px_wI M a j x) := by
        refine px_ws_set hq ?_ (fun b hb => px_e_oth (by show va_up M.1 a _ b = _; rw [va_up_ne _ _ hb]) rfl)
        rw [px_e_o h0]
        rw [px_mi_set (M' := px_wI M a j x) hjl (v := .int x) ?_ (M := M) (fun t ht => by show va_up M.1 a _ a t = _; rw [va_up_self]; exact px_upd_ne ht) (fun t ht => rfl)]
        rw [hc]
        show Value.int _ = _
        simp [px_wI, va_up_self, px_upd_self, px_updL_self]
      refine va_put (ci := ci) (C := C1) (T := T) (N := N) (v := .int x) (ty := .boolean) hx hb hts o1 (fun k9 => (parseFieldDescriptor (T k9).2.2.1).getD .int) (fun k9 h9 => px_tyk_some (o2 k9 h9)) o3 hown hK hP hD hS q hwq hr j k3 (hts _ (px_w_in k1)) (fun x hx9 => by rw [k2] at hx9; exact hx9) hfin hpd (by rcases hz with rfl | rfl <;> rfl) (by rcases hz with rfl | rfl <;> rfl) (by rw [List.length_mapIdx]; exact hjl) hd (fun H1 locs1 hP1 hD1 hS1 => ?_)
      rw [hset] at hP1 hD1
      exact h H1 locs1 jls hP1 hD1 hS1 (px_ro_wI hR (px_L_lt hL)) hl hw
  · obtain ⟨i', hi', rfl, rfl⟩ := px_ro_o hw2 h0
    exfalso
    unfold px_fin at hfn
    have e1 : px_cls[12]? = none := rfl
    rw [e1] at hfn
    cases hfn
theorem px_x_gets {i t pl : Nat} {v : Value} (C : px_Cx p R s m args c cells slots g k D cA ar fv ro A Lx) (hd : decode (px_by k) pc = .ok (.getstatic i, 3)) (hf : px_gsk (px_ow k) i = some (t, pl)) (hg : g = 0) (hv : (t = 0 ∧ v = .ref 1001) ∨ (t = 1 ∧ v = .ref 1002) ∨ (t = 2 ∧ v = .int 1) ∨ (t = 3 ∧ v = .ref 1003)) (h : px_G p l e R s m args below meth c cells slots Qm g k D cA ar fv ro A (pc + 3) (ls) (v :: r) (M)) : px_G p l e R s m args below meth c cells slots Qm g k D cA ar fv ro A (pc) (ls) (r) (M) := by
  intro H locs jls hP hD hS hR hl hw
  have h1 := h H locs jls hP hD hS hR hl hw
  obtain ⟨hx, hb, hml, hown, hts, hrm, hcs, hK, hST, hfv⟩ := C
  have hk := List.all_eq_true.mp (px_qg_all (px_ow k)) _ (px_lk_in hf)
  obtain ⟨⟨a1, a2⟩, ⟨b1, b2⟩, ⟨c1, c2⟩, -⟩ := hST hg
  unfold px_kg at hk
  rcases hv with ⟨rfl, rfl⟩ | ⟨rfl, rfl⟩ | ⟨rfl, rfl⟩ | ⟨rfl, rfl⟩
  · exact va_gets hx hb a1 hS hown (hts _ (px_w_in hk)) (fun _ h9 => h9) hd h1
  · exact va_gets hx hb b1 hS hown (hts _ (px_w_in hk)) (fun _ h9 => h9) hd h1
  · exact va_gets hx hb c1 hS hown (hts _ (px_w_in hk)) (fun _ h9 => h9) hd h1
  · exact va_gets hx hb c2 hS hown (hts _ (px_w_in hk)) (fun _ h9 => h9) hd h1
theorem px_x_iald {a : Nat} {i : Int32} (C : px_Cx p R s m args c cells slots g k D cA ar fv ro A Lx) (hd : decode (px_by k) pc = .ok (.iaload, 1)) (hi : px_ia g M a i) (h : px_G p l e R s m args below meth c cells slots Qm g k D cA ar fv ro A (pc + 1) (ls) (.int (M.1 a i.toNatClampNeg) :: r) (M)) : px_G p l e R s m args below meth c cells slots Qm g k D cA ar fv ro A (pc) (ls) (.int i :: .ref a :: r) (M) := by
  intro H locs jls hP hD hS hR hl hw
  have h1 := h H locs jls hP hD hS hR hl hw
  obtain ⟨hx, hb, hml, hown, hts, hrm, hcs, hK, hST, hfv⟩ := C
  change W p l e R s m args below meth c H locs cells slots Qm (F0 m (pc + 1) jls (.int (M.1 a i.toNatClampNeg) :: r.map (px_cv fv ar))) at h1
  show W p l e R s m args below meth c H locs cells slots Qm (F0 m pc jls (.int i :: px_cv fv ar (.ref a) :: r.map (px_cv fv ar)))
  rcases hi with ⟨t, n, ht, ha, hin⟩ | ⟨ha, hin⟩
  · rw [px_cv_r (px_sh_ne ha)]
    have h0 := px_sh_0 ha
    by_cases hw2 : a < 1000
    · obtain ⟨q, hq, hwq⟩ := px_ws_get (ar := ar) (cA := cA) (M := M) (px_sh_L ha hw2)
      have h7 := px_sh0_t hw2 h0
      have ht0 : t = 0 := by omega
      subst ht0
      rw [px_e_a h0] at hwq
      exact va_iald hx hb hK hP q 0 hwq (px_ty_at ha hw2) hin hd h1
    · have hst := hST (px_sh_g ha hw2)
      rw [hR a (by omega)] at h1
      rcases px_ro_t hw2 h0 with ⟨e1, e2, e3⟩ | ⟨rfl, rfl, rfl⟩ | ⟨rfl, rfl, rfl⟩ | ⟨i', -, -, e2, -⟩
      · omega
      · exact va_ti hx hb hst.1.2 hS hin rfl hd h1
      · exact va_ti hx hb hst.2.1.2 hS hin rfl hd h1
      · omega
  · rw [px_cv_r (px_sh_ne ha)]
    have h0 := px_sh_0 ha
    have hw2 : ¬ a < 1000 := by
      intro hc
      have := px_sh0_t hc h0
      omega
    have hst := hST (px_sh_g ha hw2)
    rcases px_ro_t hw2 h0 with ⟨rfl, e2, e3⟩ | ⟨e1, e2, e3⟩ | ⟨e1, e2, e3⟩ | ⟨i', -, -, e2, -⟩
    · obtain ⟨x1, x2, x3, x4, x5⟩ := hst.2.2.2.2.2.2
      rw [hR 999 (by omega), x4, show (Int32.ofNat Lx).toNatClampNeg = Lx from nI_clamp (by omega)] at hin
      rw [hR 1000 (by omega)] at h1
      exact va_sld hx hb x1 x3 x2 hS hin hd h1
    · omega
    · omega
    · omega
theorem px_x_bald {a : Nat} {i : Int32} (C : px_Cx p R s m args c cells slots g k D cA ar fv ro A Lx) (hd : decode (px_by k) pc = .ok (.baload, 1)) (hi : px_ba g a i) (h : px_G p l e R s m args below meth c cells slots Qm g k D cA ar fv ro A (pc + 1) (ls) (.int (M.1 a i.toNatClampNeg) :: r) (M)) : px_G p l e R s m args below meth c cells slots Qm g k D cA ar fv ro A (pc) (ls) (.int i :: .ref a :: r) (M) := by
  intro H locs jls hP hD hS hR hl hw
  have h1 := h H locs jls hP hD hS hR hl hw
  obtain ⟨hx, hb, hml, hown, hts, hrm, hcs, hK, hST, hfv⟩ := C
  change W p l e R s m args below meth c H locs cells slots Qm (F0 m (pc + 1) jls (.int (M.1 a i.toNatClampNeg) :: r.map (px_cv fv ar))) at h1
  show W p l e R s m args below meth c H locs cells slots Qm (F0 m pc jls (.int i :: px_cv fv ar (.ref a) :: r.map (px_cv fv ar)))
  obtain ⟨t, n, ht, ha, hin⟩ := hi
  rw [px_cv_r (px_sh_ne ha)]
  have h0 := px_sh_0 ha
  by_cases hw2 : a < 1000
  · obtain ⟨q, hq, hwq⟩ := px_ws_get (ar := ar) (cA := cA) (M := M) (px_sh_L ha hw2)
    have h7 := px_sh0_t hw2 h0
    rw [px_e_a h0] at hwq
    rcases ht with rfl | rfl | rfl
    · exact va_bald hx hb hK hP q 2 hwq (px_ty_at ha hw2) hin hd h1
    · exact va_zald hx hb hK hP q 3 hwq (px_ty_at ha hw2) hin hd h1
    · omega
  · have hst := hST (px_sh_g ha hw2)
    rw [hR a (by omega)] at h1
    rcases px_ro_t hw2 h0 with ⟨e1, e2, e3⟩ | ⟨e1, e2, e3⟩ | ⟨e1, e2, e3⟩ | ⟨i', hi', rfl, rfl, rfl⟩
    · omega
    · omega
    · omega
    · exact va_tb hx hb (hst.2.2.2.1 i' hi').2.2.2 hS hin rfl hd h1
theorem px_wld {g a t n : Nat} (ha : px_sh g a = some (.inr (t, n))) (ht : t < 7) : a < 1000 := by
  by_cases hw2 : a < 1000
  · exact hw2
  · rcases px_ro_t hw2 (px_sh_0 ha) with ⟨e1, e2, e3⟩ | ⟨e1, e2, e3⟩ | ⟨e1, e2, e3⟩ | ⟨i', -, -, e2, -⟩ <;> omega
theorem px_x_lald {a : Nat} {i : Int32} (C : px_Cx p R s m args c cells slots g k D cA ar fv ro A Lx) (hd : decode (px_by k) pc = .ok (.laload, 1)) (hi : px_at g 1 a i) (h : px_G p l e R s m args below meth c cells slots Qm g k D cA ar fv ro A (pc + 1) (ls) (.long (M.2 a i.toNatClampNeg) :: r) (M)) : px_G p l e R s m args below meth c cells slots Qm g k D cA ar fv ro A (pc) (ls) (.int i :: .ref a :: r) (M) := by
  intro H locs jls hP hD hS hR hl hw
  have h1 := h H locs jls hP hD hS hR hl hw
  obtain ⟨hx, hb, hml, hown, hts, hrm, hcs, hK, hST, hfv⟩ := C
  show W p l e R s m args below meth c H locs cells slots Qm (F0 m pc jls (.int i :: px_cv fv ar (.ref a) :: r.map (px_cv fv ar)))
  obtain ⟨n, ha, hin⟩ := hi
  rw [px_cv_r (px_sh_ne ha)]
  have h0 := px_sh_0 ha
  have hw2 := px_wld ha (by omega)
  obtain ⟨q, hq, hwq⟩ := px_ws_get (ar := ar) (cA := cA) (M := M) (px_sh_L ha hw2)
  rw [px_e_a h0] at hwq
  exact va_lald hx hb hK hP q 1 hwq (px_ty_at ha hw2) hin hd h1
theorem px_x_aald {a : Nat} {i : Int32} (C : px_Cx p R s m args c cells slots g k D cA ar fv ro A Lx) (hd : decode (px_by k) pc = .ok (.aaload, 1)) (hi : px_ra g a i) (h : px_G p l e R s m args below meth c cells slots Qm g k D cA ar fv ro A (pc + 1) (ls) (.ref (px_rf a i.toNatClampNeg) :: r) (M)) : px_G p l e R s m args below meth c cells slots Qm g k D cA ar fv ro A (pc) (ls) (.int i :: .ref a :: r) (M) := by
  intro H locs jls hP hD hS hR hl hw
  have h1 := h H locs jls hP hD hS hR hl hw
  obtain ⟨hx, hb, hml, hown, hts, hrm, hcs, hK, hST, hfv⟩ := C
  change W p l e R s m args below meth c H locs cells slots Qm (F0 m (pc + 1) jls (px_cv fv ar (.ref (px_rf a i.toNatClampNeg)) :: r.map (px_cv fv ar))) at h1
  rw [px_cv_r (px_rf_ne _ _)] at h1
  show W p l e R s m args below meth c H locs cells slots Qm (F0 m pc jls (.int i :: px_cv fv ar (.ref a) :: r.map (px_cv fv ar)))
  obtain ⟨t, n, ht, ha, hin⟩ := hi
  rw [px_cv_r (px_sh_ne ha)]
  have h0 := px_sh_0 ha
  have hw2 := px_wld ha (by omega)
  have hlt : i.toNatClampNeg < n := Nat.not_le.mp fun q => hin (Or.inr q)
  obtain ⟨q, hq, hwq⟩ := px_ws_get (ar := ar) (cA := cA) (M := M) (px_sh_L ha hw2)
  rw [px_e_a h0] at hwq
  have key : ∀ (ty : FieldType), ty.isReference = true → (px_tys g cA)[t]? = some (cA t, ty) → px_ae ar M a t n = (n, .inr (.inr (.inr (.inr (fun j => some (ar (px_rf a j))))))) → W p l e R s m args below meth c H locs cells slots Qm (F0 m pc jls (.int i :: .ref (ar a) :: r.map (px_cv fv ar))) := by
    intro ty hty htt he
    rw [he] at hwq
    exact W.aald (v := va_rf (some (ar (px_rf a i.toNatClampNeg)))) (ty := ty) hx hb (hP q _ hwq) ((hK.2 t _ htt).1 n (fun j => va_rf (some (ar (px_rf a j))))) hty (fun q => by cases q) (by show ¬ (i < 0 ∨ (arrV _ _ _).slots.size ≤ _); rw [arrV_size]; exact hin) (by show (arrV _ _ _).slots[_]? = _; rw [arrV_read _ _ hlt]) rfl rfl hd h1
  have htt := px_ty_at (cA := cA) ha hw2
  rcases ht with rfl | rfl | rfl
  · exact key _ rfl htt rfl
  · exact key _ rfl htt rfl
  · exact key _ rfl htt rfl
theorem px_x_iast {a : Nat} {i : Int32} {x : Int32} (C : px_Cx p R s m args c cells slots g k D cA ar fv ro A Lx) (hd : decode (px_by k) pc = .ok (.iastore, 1)) (hi : px_at g 0 a i) (h : px_G p l e R s m args below meth c cells slots Qm g k D cA ar fv ro A (pc + 1) (ls) (r) (px_wI M a i.toNatClampNeg x)) : px_G p l e R s m args below meth c cells slots Qm g k D cA ar fv ro A (pc) (ls) (.int x :: .int i :: .ref a :: r) (M) := by
  intro H locs jls hP hD hS hR hl hw
  have hC := C
  obtain ⟨hx, hb, hml, hown, hts, hrm, hcs, hK, hST, hfv⟩ := hC
  show W p l e R s m args below meth c H locs cells slots Qm (F0 m pc jls (.int x :: .int i :: px_cv fv ar (.ref a) :: r.map (px_cv fv ar)))
  obtain ⟨n, ha, hin⟩ := hi
  rw [px_cv_r (px_sh_ne ha)]
  have h0 := px_sh_0 ha
  have hw2 := px_wld ha (by omega)
  have hL := px_sh_L ha hw2
  obtain ⟨q, hq, hwq⟩ := px_ws_get (ar := ar) (cA := cA) (M := M) hL
  rw [px_e_a h0] at hwq
  refine va_iast hx hb hK hP hD hS q 0 hwq (px_ty_at ha hw2) hin hd (fun H1 locs1 hP1 hD1 hS1 => ?_)
  have hset : (px_ws g ar cA M).set q (ar a, .inl (cA 0, n, .inl (upd (M.1 a) i.toNatClampNeg x))) = px_ws g ar cA (px_wI M a i.toNatClampNeg x) := by
    refine px_ws_set hq ?_ (fun b hb => px_e_oth (by show va_up M.1 a _ b = _; rw [va_up_ne _ _ hb]) rfl)
    rw [px_e_a h0]
    simp [px_ae, px_wI, va_up_self]
  rw [hset] at hP1 hD1
  exact h H1 locs1 jls hP1 hD1 hS1 (px_ro_wI hR (px_L_lt hL)) hl hw
theorem px_x_bast {a : Nat} {i : Int32} {x : Int32} (C : px_Cx p R s m args c cells slots g k D cA ar fv ro A Lx) (hd : decode (px_by k) pc = .ok (.bastore, 1)) (hi : px_at g 2 a i) (h : px_G p l e R s m args below meth c cells slots Qm g k D cA ar fv ro A (pc + 1) (ls) (r) (px_wI M a i.toNatClampNeg (vp_nar .byte x))) : px_G p l e R s m args below meth c cells slots Qm g k D cA ar fv ro A (pc) (ls) (.int x :: .int i :: .ref a :: r) (M) := by
  intro H locs jls hP hD hS hR hl hw
  have hC := C
  obtain ⟨hx, hb, hml, hown, hts, hrm, hcs, hK, hST, hfv⟩ := hC
  show W p l e R s m args below meth c H locs cells slots Qm (F0 m pc jls (.int x :: .int i :: px_cv fv ar (.ref a) :: r.map (px_cv fv ar)))
  obtain ⟨n, ha, hin⟩ := hi
  rw [px_cv_r (px_sh_ne ha)]
  have h0 := px_sh_0 ha
  have hw2 := px_wld ha (by omega)
  have hL := px_sh_L ha hw2
  obtain ⟨q, hq, hwq⟩ := px_ws_get (ar := ar) (cA := cA) (M := M) hL
  rw [px_e_a h0] at hwq
  refine va_bast hx hb hK hP hD hS q 2 hwq (px_ty_at ha hw2) hin hd (fun H1 locs1 hP1 hD1 hS1 => ?_)
  have hset : (px_ws g ar cA M).set q (ar a, .inl (cA 2, n, .inl (upd (M.1 a) i.toNatClampNeg (vp_nar .byte x)))) = px_ws g ar cA (px_wI M a i.toNatClampNeg (vp_nar .byte x)) := by
    refine px_ws_set hq ?_ (fun b hb => px_e_oth (by show va_up M.1 a _ b = _; rw [va_up_ne _ _ hb]) rfl)
    rw [px_e_a h0]
    simp [px_ae, px_wI, va_up_self]
  rw [hset] at hP1 hD1
  exact h H1 locs1 jls hP1 hD1 hS1 (px_ro_wI hR (px_L_lt hL)) hl hw
theorem px_x_zast {a : Nat} {i : Int32} {x : Int32} (C : px_Cx p R s m args c cells slots g k D cA ar fv ro A Lx) (hd : decode (px_by k) pc = .ok (.bastore, 1)) (hi : px_at g 3 a i) (h : px_G p l e R s m args below meth c cells slots Qm g k D cA ar fv ro A (pc + 1) (ls) (r) (px_wI M a i.toNatClampNeg (vp_nar .boolean x))) : px_G p l e R s m args below meth c cells slots Qm g k D cA ar fv ro A (pc) (ls) (.int x :: .int i :: .ref a :: r) (M) := by
  intro H locs jls hP hD hS hR hl hw
  have hC := C
  obtain ⟨hx, hb, hml, hown, hts, hrm, hcs, hK, hST, hfv⟩ := hC
  show W p l e R s m args below meth c H locs cells slots Qm (F0 m pc jls (.int x :: .int i :: px_cv fv ar (.ref a) :: r.map (px_cv fv ar)))
  obtain ⟨n, ha, hin⟩ := hi
  rw [px_cv_r (px_sh_ne ha)]
  have h0 := px_sh_0 ha
  have hw2 := px_wld ha (by omega)
  have hL := px_sh_L ha hw2
  obtain ⟨q, hq, hwq⟩ := px_ws_get (ar := ar) (cA := cA) (M := M) hL
  rw [px_e_a h0] at hwq
  refine va_zast hx hb hK hP hD hS q 3 hwq (px_ty_at ha hw2) hin hd (fun H1 locs1 hP1 hD1 hS1 => ?_)
  have hset : (px_ws g ar cA M).set q (ar a, .inl (cA 3, n, .inl (upd (M.1 a) i.toNatClampNeg (vp_nar .boolean x)))) = px_ws g ar cA (px_wI M a i.toNatClampNeg (vp_nar .boolean x)) := by
    refine px_ws_set hq ?_ (fun b hb => px_e_oth (by show va_up M.1 a _ b = _; rw [va_up_ne _ _ hb]) rfl)
    rw [px_e_a h0]
    simp [px_ae, px_wI, va_up_self]
  rw [hset] at hP1 hD1
  exact h H1 locs1 jls hP1 hD1 hS1 (px_ro_wI hR (px_L_lt hL)) hl hw
theorem px_x_last {a : Nat} {i : Int32} {x : Int64} (C : px_Cx p R s m args c cells slots g k D cA ar fv ro A Lx) (hd : decode (px_by k) pc = .ok (.lastore, 1)) (hi : px_at g 1 a i) (h : px_G p l e R s m args below meth c cells slots Qm g k D cA ar fv ro A (pc + 1) (ls) (r) (px_wL M a i.toNatClampNeg x)) : px_G p l e R s m args below meth c cells slots Qm g k D cA ar fv ro A (pc) (ls) (.long x :: .int i :: .ref a :: r) (M) := by
  intro H locs jls hP hD hS hR hl hw
  have hC := C
  obtain ⟨hx, hb, hml, hown, hts, hrm, hcs, hK, hST, hfv⟩ := hC
  show W p l e R s m args below meth c H locs cells slots Qm (F0 m pc jls (.long x :: .int i :: px_cv fv ar (.ref a) :: r.map (px_cv fv ar)))
  obtain ⟨n, ha, hin⟩ := hi
  rw [px_cv_r (px_sh_ne ha)]
  have h0 := px_sh_0 ha
  have hw2 := px_wld ha (by omega)
  have hL := px_sh_L ha hw2
  obtain ⟨q, hq, hwq⟩ := px_ws_get (ar := ar) (cA := cA) (M := M) hL
  rw [px_e_a h0] at hwq
  refine va_last hx hb hK hP hD hS q 1 hwq (px_ty_at ha hw2) hin hd (fun H1 locs1 hP1 hD1 hS1 => ?_)
  have hset : (px_ws g ar cA M).set q (ar a, .inl (cA 1, n, .inr (.inl (vp_updL (M.2 a) i.toNatClampNeg x)))) = px_ws g ar cA (px_wL M a i.toNatClampNeg x) := by
    refine px_ws_set hq ?_ (fun b hb => px_e_oth rfl (by show va_up M.2 a _ b = _; rw [va_up_ne _ _ hb]))
    rw [px_e_a h0]
    simp [px_ae, px_wL, va_up_self]
  rw [hset] at hP1 hD1
  exact h H1 locs1 jls hP1 hD1 hS1 hR hl hw
theorem px_x_alen {a t n : Nat} (C : px_Cx p R s m args c cells slots g k D cA ar fv ro A Lx) (hd : decode (px_by k) pc = .ok (.arraylength, 1)) (ha : px_sh g a = some (.inr (t, n))) (ht : t ≠ 12) (h : px_G p l e R s m args below meth c cells slots Qm g k D cA ar fv ro A (pc + 1) (ls) (.int (Int32.ofNat n) :: r) (M)) : px_G p l e R s m args below meth c cells slots Qm g k D cA ar fv ro A (pc) (ls) (.ref a :: r) (M) := by
  intro H locs jls hP hD hS hR hl hw
  have h1 := h H locs jls hP hD hS hR hl hw
  obtain ⟨hx, hb, hml, hown, hts, hrm, hcs, hK, hST, hfv⟩ := C
  show W p l e R s m args below meth c H locs cells slots Qm (F0 m pc jls (px_cv fv ar (.ref a) :: r.map (px_cv fv ar)))
  rw [px_cv_r (px_sh_ne ha)]
  have h0 := px_sh_0 ha
  by_cases hw2 : a < 1000
  · obtain ⟨q, hq, hwq⟩ := px_ws_get (ar := ar) (cA := cA) (M := M) (px_sh_L ha hw2)
    rw [px_e_a h0] at hwq
    exact va_alen hx hb hK hP q t hwq (px_ty_at ha hw2) rfl hd h1
  · have hst := hST (px_sh_g ha hw2)
    rcases px_ro_t hw2 h0 with ⟨e1, e2, e3⟩ | ⟨rfl, rfl, rfl⟩ | ⟨rfl, rfl, rfl⟩ | ⟨i', hi', rfl, rfl, rfl⟩
    · omega
    · exact va_tlen hx hb hst.1.2 hS rfl hd h1
    · exact va_tlen hx hb hst.2.1.2 hS rfl hd h1
    · exact va_tlen hx hb (hst.2.2.2.1 i' hi').2.2.2 hS rfl hd h1
theorem px_x_slen {a : Nat} (C : px_Cx p R s m args c cells slots g k D cA ar fv ro A Lx) (hd : decode (px_by k) pc = .ok (.arraylength, 1)) (ha : px_sh g a = some (.inr (12, 0))) (h : px_G p l e R s m args below meth c cells slots Qm g k D cA ar fv ro A (pc + 1) (ls) (.int (M.1 999 0) :: r) (M)) : px_G p l e R s m args below meth c cells slots Qm g k D cA ar fv ro A (pc) (ls) (.ref a :: r) (M) := by
  intro H locs jls hP hD hS hR hl hw
  have h1 := h H locs jls hP hD hS hR hl hw
  obtain ⟨hx, hb, hml, hown, hts, hrm, hcs, hK, hST, hfv⟩ := C
  change W p l e R s m args below meth c H locs cells slots Qm (F0 m (pc + 1) jls (.int (M.1 999 0) :: r.map (px_cv fv ar))) at h1
  show W p l e R s m args below meth c H locs cells slots Qm (F0 m pc jls (px_cv fv ar (.ref a) :: r.map (px_cv fv ar)))
  rw [px_cv_r (px_sh_ne ha)]
  have h0 := px_sh_0 ha
  have hw2 : ¬ a < 1000 := by
    intro hc
    have := px_sh0_t hc h0
    omega
  have hst := hST (px_sh_g ha hw2)
  rcases px_ro_t hw2 h0 with ⟨rfl, e2, e3⟩ | ⟨e1, e2, e3⟩ | ⟨e1, e2, e3⟩ | ⟨i', -, -, e2, -⟩
  · obtain ⟨x1, x2, x3, x4, x5⟩ := hst.2.2.2.2.2.2
    rw [hR 999 (by omega), x4] at h1
    exact va_slen hx hb x1 x3 x2 hS hd h1
  · omega
  · omega
  · omega
theorem px_x_copyi {i pl a b y0 : Nat} {sp dp n : Int32} (C : px_Cx p R s m args c cells slots g k D cA ar fv ro A Lx) (hd : decode (px_by k) pc = .ok (.invokestatic i, 3)) (hf : px_clk (px_ow k) i = some (y0, 3, pl)) (hr8 : (r.map fun v => v.category).sum ≤ 8) (hf1 : 1 ≤ px_nf k) (hl26 : 26 ≤ px_nl k) (hcp : px_cp g 0 a b sp dp n) (h : px_G p l e R s m args below meth c cells slots Qm g k D cA ar fv ro A (pc + 3) (ls) (r) (px_aI M a (va_cpy (M.1 b) (M.1 a) sp.toNatClampNeg dp.toNatClampNeg n.toNatClampNeg))) : px_G p l e R s m args below meth c cells slots Qm g k D cA ar fv ro A (pc) (ls) (.int n :: .int dp :: .ref a :: .int sp :: .ref b :: r) (M) := by
  intro H locs jls hP hD hS hR hl hw
  have hC := C
  obtain ⟨hx, hb, hml, hown, hts, hrm, hcs, hK, hST, hfv⟩ := hC
  have hk := List.all_eq_true.mp (px_qm_all (px_ow k)) _ (px_lk_in hf)
  have hlk : (Cond.methodLink (px_cn (px_ow k)) i arraycopyName).before args s = true := hts _ (px_w_in hk)
  obtain ⟨n0, n1, hb0, ha0, g1, g2, g3, g4, g5⟩ := hcp
  show W p l e R s m args below meth c H locs cells slots Qm (F0 m pc jls (.int n :: .int dp :: px_cv fv ar (.ref a) :: .int sp :: px_cv fv ar (.ref b) :: r.map (px_cv fv ar)))
  rw [px_cv_r (px_sh_ne ha0), px_cv_r (px_sh_ne hb0)]
  have h0 := px_sh_0 ha0
  have hw2 := px_wld ha0 (by omega)
  have hL := px_sh_L ha0 hw2
  obtain ⟨q, hq, hwq⟩ := px_ws_get (ar := ar) (cA := cA) (M := M) hL
  rw [px_e_a h0] at hwq
  have hw3 := px_wld hb0 (by omega)
  obtain ⟨q0, hq0, hwq0⟩ := px_ws_get (ar := ar) (cA := cA) (M := M) (px_sh_L hb0 hw3)
  rw [px_e_a (px_sh_0 hb0)] at hwq0
  have hsum : ((r.map (px_cv fv ar)).map fun v => v.category).sum ≤ 8 := by
    rw [List.map_map]
    rw [show ((fun v : Value => v.category) ∘ px_cv fv ar) = fun v => v.category from funext fun v => px_cv_cat (px_fcat hfv)]
    exact hr8
  refine va_copyi hx hb (by rw [hml]; exact hl.1.symm) hown hlk (hts _ px_w_native) (hts _ px_w_static) (hts _ px_w_system) hK hP hD hS q0 q 0 0 hwq0 hwq (px_ty_at hb0 hw3) (px_ty_at ha0 hw2) rfl g1 g2 g3 g4 g5 (fun _ _ => rfl) (Nat.le_trans hf1 hrm.1) ?_ hd (fun H1 locs1 hP1 hD1 hS1 => ?_)
  · have e1 : nativeFrameWords "java/lang/System" "arraycopy" 5 = 7 := by decide
    rw [e1]
    have := hrm.2
    omega
  · have hset : (px_ws g ar cA M).set q (ar a, .inl (cA 0, n1, .inl (va_cpy (M.1 b) (M.1 a) sp.toNatClampNeg dp.toNatClampNeg n.toNatClampNeg))) = px_ws g ar cA (px_aI M a (va_cpy (M.1 b) (M.1 a) sp.toNatClampNeg dp.toNatClampNeg n.toNatClampNeg)) := by
      refine px_ws_set hq ?_ (fun b hb => px_e_oth (by show va_up M.1 a _ b = _; rw [va_up_ne _ _ hb]) rfl)
      rw [px_e_a h0]
      simp [px_ae, px_aI, va_up_self]
    rw [hset] at hP1 hD1
    exact h H1 locs1 jls hP1 hD1 hS1 (px_ro_aI hR (px_L_lt hL)) hl hw
theorem px_x_copyl {i pl a b y0 : Nat} {sp dp n : Int32} (C : px_Cx p R s m args c cells slots g k D cA ar fv ro A Lx) (hd : decode (px_by k) pc = .ok (.invokestatic i, 3)) (hf : px_clk (px_ow k) i = some (y0, 3, pl)) (hr8 : (r.map fun v => v.category).sum ≤ 8) (hf1 : 1 ≤ px_nf k) (hl26 : 26 ≤ px_nl k) (hcp : px_cp g 1 a b sp dp n) (h : px_G p l e R s m args below meth c cells slots Qm g k D cA ar fv ro A (pc + 3) (ls) (r) (px_aL M a (va_cpy (M.2 b) (M.2 a) sp.toNatClampNeg dp.toNatClampNeg n.toNatClampNeg))) : px_G p l e R s m args below meth c cells slots Qm g k D cA ar fv ro A (pc) (ls) (.int n :: .int dp :: .ref a :: .int sp :: .ref b :: r) (M) := by
  intro H locs jls hP hD hS hR hl hw
  have hC := C
  obtain ⟨hx, hb, hml, hown, hts, hrm, hcs, hK, hST, hfv⟩ := hC
  have hk := List.all_eq_true.mp (px_qm_all (px_ow k)) _ (px_lk_in hf)
  have hlk : (Cond.methodLink (px_cn (px_ow k)) i arraycopyName).before args s = true := hts _ (px_w_in hk)
  obtain ⟨n0, n1, hb0, ha0, g1, g2, g3, g4, g5⟩ := hcp
  show W p l e R s m args below meth c H locs cells slots Qm (F0 m pc jls (.int n :: .int dp :: px_cv fv ar (.ref a) :: .int sp :: px_cv fv ar (.ref b) :: r.map (px_cv fv ar)))
  rw [px_cv_r (px_sh_ne ha0), px_cv_r (px_sh_ne hb0)]
  have h0 := px_sh_0 ha0
  have hw2 := px_wld ha0 (by omega)
  have hL := px_sh_L ha0 hw2
  obtain ⟨q, hq, hwq⟩ := px_ws_get (ar := ar) (cA := cA) (M := M) hL
  rw [px_e_a h0] at hwq
  have hw3 := px_wld hb0 (by omega)
  obtain ⟨q0, hq0, hwq0⟩ := px_ws_get (ar := ar) (cA := cA) (M := M) (px_sh_L hb0 hw3)
  rw [px_e_a (px_sh_0 hb0)] at hwq0
  have hsum : ((r.map (px_cv fv ar)).map fun v => v.category).sum ≤ 8 := by
    rw [List.map_map]
    rw [show ((fun v : Value => v.category) ∘ px_cv fv ar) = fun v => v.category from funext fun v => px_cv_cat (px_fcat hfv)]
    exact hr8
  refine va_copyl hx hb (by rw [hml]; exact hl.1.symm) hown hlk (hts _ px_w_native) (hts _ px_w_static) (hts _ px_w_system) hK hP hD hS q0 q 1 1 hwq0 hwq (px_ty_at hb0 hw3) (px_ty_at ha0 hw2) rfl g1 g2 g3 g4 g5 (fun _ _ => rfl) (Nat.le_trans hf1 hrm.1) ?_ hd (fun H1 locs1 hP1 hD1 hS1 => ?_)
  · have e1 : nativeFrameWords "java/lang/System" "arraycopy" 5 = 7 := by decide
    rw [e1]
    have := hrm.2
    omega
  · have hset : (px_ws g ar cA M).set q (ar a, .inl (cA 1, n1, .inr (.inl (va_cpy (M.2 b) (M.2 a) sp.toNatClampNeg dp.toNatClampNeg n.toNatClampNeg)))) = px_ws g ar cA (px_aL M a (va_cpy (M.2 b) (M.2 a) sp.toNatClampNeg dp.toNatClampNeg n.toNatClampNeg)) := by
      refine px_ws_set hq ?_ (fun b hb => px_e_oth rfl (by show va_up M.2 a _ b = _; rw [va_up_ne _ _ hb]))
      rw [px_e_a h0]
      simp [px_ae, px_aL, va_up_self]
    rw [hset] at hP1 hD1
    exact h H1 locs1 jls hP1 hD1 hS1 hR hl hw
theorem px_x_mmax {i pl y0 : Nat} {x y : Int32} (C : px_Cx p R s m args c cells slots g k D cA ar fv ro A Lx) (hd : decode (px_by k) pc = .ok (.invokestatic i, 3)) (hf : px_clk (px_ow k) i = some (y0, 4, pl)) (hr8 : (r.map fun v => v.category).sum ≤ 8) (hf1 : 1 ≤ px_nf k) (hl21 : 21 ≤ px_nl k) (h : px_G p l e R s m args below meth c cells slots Qm g k D cA ar fv ro A (pc + 3) (ls) (.int (if x < y then y else x) :: r) (M)) : px_G p l e R s m args below meth c cells slots Qm g k D cA ar fv ro A (pc) (ls) (.int y :: .int x :: r) (M) := by
  intro H locs jls hP hD hS hR hl hw
  have h1 := h H locs jls hP hD hS hR hl hw
  obtain ⟨hx, hb, hml, hown, hts, hrm, hcs, hK, hST, hfv⟩ := C
  have hk := List.all_eq_true.mp (px_qm_all (px_ow k)) _ (px_lk_in hf)
  refine va_mmax hx hb (by rw [hml]; exact hl.1.symm) hown (hts _ (px_w_in hk)) (hts _ px_w_ms_max) (hts _ px_w_math) (hts _ px_w_mc_max) (Nat.le_trans hf1 hrm.1) ?_ hcs.1 hcs.2 hd h1
  have h2 := hrm.2
  rw [List.map_map, show ((fun v : Value => v.category) ∘ px_cv fv ar) = fun v => v.category from funext fun v => px_cv_cat (px_fcat hfv)]
  omega
theorem px_x_mmin {i pl y0 : Nat} {x y : Int32} (C : px_Cx p R s m args c cells slots g k D cA ar fv ro A Lx) (hd : decode (px_by k) pc = .ok (.invokestatic i, 3)) (hf : px_clk (px_ow k) i = some (y0, 5, pl)) (hr8 : (r.map fun v => v.category).sum ≤ 8) (hf1 : 1 ≤ px_nf k) (hl21 : 21 ≤ px_nl k) (h : px_G p l e R s m args below meth c cells slots Qm g k D cA ar fv ro A (pc + 3) (ls) (.int (if y < x then y else x) :: r) (M)) : px_G p l e R s m args below meth c cells slots Qm g k D cA ar fv ro A (pc) (ls) (.int y :: .int x :: r) (M) := by
  intro H locs jls hP hD hS hR hl hw
  have h1 := h H locs jls hP hD hS hR hl hw
  obtain ⟨hx, hb, hml, hown, hts, hrm, hcs, hK, hST, hfv⟩ := C
  have hk := List.all_eq_true.mp (px_qm_all (px_ow k)) _ (px_lk_in hf)
  refine va_mmin hx hb (by rw [hml]; exact hl.1.symm) hown (hts _ (px_w_in hk)) (hts _ px_w_ms_min) (hts _ px_w_math) (hts _ px_w_mc_min) (Nat.le_trans hf1 hrm.1) ?_ hcs.1 hcs.2 hd h1
  have h2 := hrm.2
  rw [List.map_map, show ((fun v : Value => v.category) ∘ px_cv fv ar) = fun v => v.category from funext fun v => px_cv_cat (px_fcat hfv)]
  omega
theorem px_x_mabs {i pl y0 : Nat} {x : Int64} (C : px_Cx p R s m args c cells slots g k D cA ar fv ro A Lx) (hd : decode (px_by k) pc = .ok (.invokestatic i, 3)) (hf : px_clk (px_ow k) i = some (y0, 6, pl)) (hr8 : (r.map fun v => v.category).sum ≤ 8) (hf1 : 1 ≤ px_nf k) (hl21 : 21 ≤ px_nl k) (h : px_G p l e R s m args below meth c cells slots Qm g k D cA ar fv ro A (pc + 3) (ls) (.long (if 0 < x then x else -x) :: r) (M)) : px_G p l e R s m args below meth c cells slots Qm g k D cA ar fv ro A (pc) (ls) (.long x :: r) (M) := by
  intro H locs jls hP hD hS hR hl hw
  have h1 := h H locs jls hP hD hS hR hl hw
  obtain ⟨hx, hb, hml, hown, hts, hrm, hcs, hK, hST, hfv⟩ := C
  have hk := List.all_eq_true.mp (px_qm_all (px_ow k)) _ (px_lk_in hf)
  refine va_mabs_long hx hb (by rw [hml]; exact hl.1.symm) hown (hts _ (px_w_in hk)) (hts _ px_w_ms_abs) (hts _ px_w_math) (hts _ px_w_mc_abs) (Nat.le_trans hf1 hrm.1) ?_ hcs.1 hcs.2 hd h1
  have h2 := hrm.2
  rw [List.map_map, show ((fun v : Value => v.category) ∘ px_cv fv ar) = fun v => v.category from funext fun v => px_cv_cat (px_fcat hfv)]
  omega
end PXT
end
section
def px_end (k pc : Nat) (r : Option Value) : Prop :=
  (∃ v, r = some (.int v) ∧ decode (px_by k) pc = .ok (.ireturn, 1) ∧ px_rk (px_rt k) v) ∨ (∃ v, r = some (.long v) ∧ decode (px_by k) pc = .ok (.lreturn, 1) ∧ px_rt k = 3) ∨ (∃ a, r = some (.ref a) ∧ decode (px_by k) pc = .ok (.areturn, 1) ∧ (px_rt k = 4 ∨ px_rt k = 7) ∧ a ≠ 1003) ∨ (r = none ∧ decode (px_by k) pc = .ok (.return_, 1) ∧ px_rt k = 0)
def px_Rt (p : Program) (l : Launch) (e : Env) (R : Room) (s : State) (m : MethodId) (args : Array Value) (below : List Frame) (meth : Method) (c : Code) (cells slots : Nat) (Qm : State → Prop) (g k : Nat) (D : va_G) (cA : Nat → ClassId) (ar : Nat → Nat) (fv : Value) (ro : Nat → Nat → Int32) (A : Nat → Prop) (Q : px_Po) : Prop :=
  ∀ (r : Option Value) (M : px_Mem) (pc : Nat) (jls : Array Slot) (H : Heap) (locs : List Loc), Q r M → va_P D px_cls (px_ws g ar cA M) H → va_D A (px_ws g ar cA M) → va_S A s.heap H locs → px_ro ro M → px_end k pc r → W p l e R s m args below meth c H locs cells slots Qm (F0 m pc jls (r.toList.map (px_cv fv ar)))
theorem px_blind {g : Nat} {D : va_G} {cA : Nat → ClassId} {ar : Nat → Nat} {fv : Value} {ro : Nat → Nat → Int32} {A : Nat → Prop} {Lx : Nat} {M : px_Mem} {av : List Value} : FrameBlind (va_Pc av (px_Iv g D cA ar fv ro A Lx M)) := fun a U g' mk q => by
  obtain ⟨q0, qP, qK, qD, qR, qS⟩ := q
  exact ⟨q0, qP, va_K.moved (u := U) (U := U.calling g' mk a) (Vm.Alike.refl U.vm) qK, qD, qR, px_ST_same (u := U) (U := U.calling g' mk a) rfl qS⟩
theorem px_sum_cv {fv : Value} {ar : Nat → Nat} (hfv : fv = .null ∨ ∃ t, fv = .ref t) {r : List Value} : ((r.map (px_cv fv ar)).map fun v => v.category).sum = (r.map fun v => v.category).sum := by
  rw [List.map_map]
  rw [show ((fun v : Value => v.category) ∘ px_cv fv ar) = fun v => v.category from funext fun v => px_cv_cat (px_fcat hfv)]
def px_Wm (y : Nat) : Prop := Cond.code (px_yn y) (px_by y) (px_ml y) (px_rty (px_rt y)) ∈ px_gw ∧ Cond.initialized (px_yn y).cls ∈ px_gw ∧ (px_yn y).cls = px_cn (px_ow y) ∧ plainName (px_yn y).cls = true ∧ (px_yn y).cls ≠ "java/lang/invoke/MethodHandle" ∧ (px_yn y).cls ≠ "java/lang/invoke/VarHandle"
theorem px_Wm_of {y : Nat} (hy : y < px_LAW) : px_Wm y := by
  have h := px_wm_all y hy
  unfold px_wm at h
  simp only [Bool.and_eq_true, decide_eq_true_eq] at h
  obtain ⟨⟨⟨⟨⟨h1, h2⟩, h3⟩, h4⟩, h5⟩, h6⟩ := h
  exact ⟨px_w_in h1, px_w_in h2, h3, h4, h5, h6⟩
theorem px_wsy_gw {y : Nat} (hy : y < px_LAW) : ∀ w ∈ px_wsy y, w ∈ px_gw := by
  intro w hw
  rcases List.mem_cons.mp hw with rfl | h
  · exact (px_Wm_of hy).1
  · exact h
def px_cokp (k y : Nat) (st : List Value) : Prop := px_na y ≤ st.length ∧ ((st.drop (px_na y)).map fun v => v.category).sum ≤ 8 ∧ px_nf y + 1 ≤ px_nf k ∧ 19 + px_ml y + px_nl y ≤ px_nl k ∧ (px_en (st.take (px_na y)).reverse).length ≤ px_ml y ∧ px_wf y 0 (px_en (st.take (px_na y)).reverse) = true
theorem px_cok_p {k y : Nat} {st : List Value} (h : px_cok k y st = true) : px_cokp k y st := by
  unfold px_cok at h
  simp only [Bool.and_eq_true, decide_eq_true_eq] at h
  obtain ⟨⟨⟨⟨⟨h1, h2⟩, h3⟩, h4⟩, h5⟩, h6⟩ := h
  exact ⟨h1, h2, h3, h4, h5, h6⟩
theorem px_np_p {y n : Nat} (h : px_np y n = true) : ∀ sig, parseMethodDescriptor (px_yn y).desc = some sig → n = sig.parameters.length := by
  intro sig hs
  have h2 := of_decide_eq_true h
  rw [hs] at h2
  exact (Option.some.inj h2).symm
section PXU
variable {p : Program} {l : Launch} {e : Env} {R : Room} {s : State} {m : MethodId} {args : Array Value} {below : List Frame} {meth : Method} {c : Code} {cells slots : Nat} {Qm : State → Prop} {g k : Nat} {D : va_G} {cA : Nat → ClassId} {ar : Nat → Nat} {fv : Value} {ro : Nat → Nat → Int32} {A : Nat → Prop} {Lx : Nat} {pc : Nat} {ls : px_Lo} {M : px_Mem} {r : List Value}
theorem px_callW {rest st0 : List Value} {H : Heap} {locs : List Loc} {jls : Array Slot} {Q' : px_Po} {a : Array Value} (hr : va_Run p l e R s m args below meth c H locs cells slots 0 0 (F0 m pc jls st0) rest (px_Qc g D cA ar fv ro A Lx Q' a) A) (hS : va_S A s.heap H locs) (kk : ∀ (r : Option Value) (M' : px_Mem) (H1 : Heap) (locs1 : List Loc), Q' r M' → va_P D px_cls (px_ws g ar cA M') H1 → va_D A (px_ws g ar cA M') → va_S A s.heap H1 locs1 → px_ro ro M' → W p l e R s m args below meth c H1 locs1 cells slots Qm (F0 m (pc + 3) jls ((r.map (px_cv fv ar)).toList ++ rest))) : W p l e R s m args below meth c H locs cells slots Qm (F0 m pc jls st0) := by
  intro T hT X
  obtain ⟨v, st₀, t, T', L, h0, X', hL, e1, e2, ⟨⟨r, M', hv, hp, hb⟩, hz, hk⟩, st⟩ := hr T hT X
  cases hv
  rw [h0] at hz hk
  obtain ⟨t2, a1, b1⟩ := kk r M' T'.heap (locs ++ L) hp (by rw [e1]; exact hb.1) hb.2.2.1
    ⟨Nat.le_trans hS.1 (by rw [e1]; exact hz), fun q h1 h2 => by rw [e1, hk q (Nat.lt_of_lt_of_le h1 hS.1) h2]; exact hS.2.1 q h1 h2, fun q hq => by
      rcases List.mem_append.mp hq with h | h
      · exact hS.2.2 q h
      · exact hL q h⟩ hb.2.2.2.1 T' rfl X'
  exact ⟨t2, st t2 a1, b1⟩
theorem px_pre {y : Nat} {vs : List Value} {H : Heap} {locs : List Loc} (C : px_Cx p R s m args c cells slots g k D cA ar fv ro A Lx) (hP : va_P D px_cls (px_ws g ar cA M) H) (hD : va_D A (px_ws g ar cA M)) (hS : va_S A s.heap H locs) (hR : px_ro ro M) (U : State) (hU : U.heap = H) (hW : s.WarmedH U.vm) : va_Pc (vs.map (px_cv fv ar)) (px_Iv g D cA ar fv ro A Lx M) (vs.map (px_cv fv ar)).toArray U :=
  ⟨rfl, by rw [hU]; exact hP, va_K.moved hW.alike C.2.2.2.2.2.2.2.1, hD, hR, px_ST_warm hW (by rw [hU]; exact hS.1) (fun a h1 h2 => by rw [hU]; exact hS.2.1 a h1 h2) C.2.2.2.2.2.2.2.2.1⟩
theorem px_words {y : Nat} {st : List Value} (C : px_Cx p R s m args c cells slots g k D cA ar fv ro A Lx) (hy : y < px_LAW) (ho : px_cokp k y st) : ((px_rm y).cells = 0 ∧ (px_rm y).slots = 0 ∧ (px_rm y).frames + 1 ≤ R.frames ∧ 8 + (px_ml y + 11) + (px_rm y).locals ≤ R.locals ∧ (∀ w ∈ px_wsy y, ∀ (a' : Array Value) (U : State), s.WarmedH U.vm → w.before a' U = true) ∧ Cond.code (px_yn y) (px_by y) (px_ml y) (px_rty (px_rt y)) ∈ px_wsy y) ∧ (Cond.code (px_yn y) (px_by y) (px_ml y) (px_rty (px_rt y))).before args s = true ∧ (Cond.initialized (px_yn y).cls).before args s = true ∧ ((px_yn y).cls ≠ "java/lang/invoke/MethodHandle" ∧ (px_yn y).cls ≠ "java/lang/invoke/VarHandle") := by
  obtain ⟨hx, hb, hml, hown, hts, hrm, hcs, hK, hST, hfv⟩ := C
  obtain ⟨w1, w2, w3, w4, w5, w6⟩ := px_Wm_of hy
  obtain ⟨o1, o2, o3, o4, o5, o6⟩ := ho
  refine ⟨⟨rfl, rfl, Nat.le_trans o3 hrm.1, ?_, fun w hw a' U hW => word_at hW (px_gw_good (px_wsy_gw hy w hw)) (hts w (px_wsy_gw hy w hw)), List.mem_cons_self⟩, hts _ w1, hts _ w2, w5, w6⟩
  have h1 := hrm.2
  show 8 + (px_ml y + 11) + px_nl y ≤ R.locals
  omega
theorem px_x_callV {i y pl : Nat} {st : List Value} {Q' : px_Po} (C : px_Cx p R s m args c cells slots g k D cA ar fv ro A Lx) (hd : decode (px_by k) pc = .ok (.invokevirtual i, 3)) (hf : px_clk (px_ow k) i = some (y, 0, pl)) (hrv : px_recv g y st) (hok : px_cok k y st = true) (hM : px_Mt l g D cA ar fv ro A Lx y (st.take (px_na y)).reverse M Q') (h : ∀ (r : Option Value) (M' : px_Mem), Q' r M' → px_G p l e R s m args below meth c cells slots Qm g k D cA ar fv ro A (pc + 3) (ls) (r.toList ++ st.drop (px_na y)) (M')) : px_G p l e R s m args below meth c cells slots Qm g k D cA ar fv ro A (pc) (ls) (st) (M) := by
  intro H locs jls hP hD hS hR hl hw
  have hC := C
  obtain ⟨hx, hb, hml, hown, hts, hrm, hcs, hK, hST, hfv⟩ := hC
  have hk := List.all_eq_true.mp (px_qm_all (px_ow k)) _ (px_lk_in hf)
  have hk : (px_w pl (.methodLink (px_cn (px_ow k)) i (px_yn y)) && px_wi y && decide (y < px_LAW)) = true := hk
  unfold px_wi at hk
  simp only [Bool.and_eq_true, decide_eq_true_eq] at hk
  obtain ⟨⟨k1, ⟨⟨⟨w1, w2⟩, w3⟩, w4⟩⟩, hy⟩ := hk
  have ho := px_cok_p hok
  have hwd := px_words C hy ho
  obtain ⟨o1, o2, o3, o4, o5, o6⟩ := ho
  obtain ⟨v1, v2, v3, v4, v5, v6⟩ := px_Wm_of hy
  have hlen : (st.take (px_na y)).reverse.length = px_na y := by rw [List.length_reverse, List.length_take]; omega
  have hsplit : st = (st.take (px_na y)).reverse.reverse ++ st.drop (px_na y) := by rw [List.reverse_reverse, List.take_append_drop]
  unfold px_recv at hrv
  generalize hvs : (st.take (px_na y)).reverse = vs at hrv hM hlen hsplit
  match vs, hrv, hM, hlen, hsplit with
  | .ref a :: As, ha, hM, hlen, hsplit =>
    have hca : px_cv fv ar (.ref a) = .ref (ar a) := px_cv_r (px_sh_ne ha)
    have hst : st.map (px_cv fv ar) = (As.map (px_cv fv ar)).reverse ++ .ref (ar a) :: (st.drop (px_na y)).map (px_cv fv ar) := by
      conv => lhs; rw [hsplit]
      rw [List.reverse_cons, List.map_append, List.map_append, List.map_reverse, List.map_cons, hca]
      simp
    have hn : (As.map (px_cv fv ar)).length = px_na y - 1 := by
      rw [List.length_map]
      have : As.length + 1 = px_na y := hlen
      omega
    have hcell : ∃ cellB : Cell, H[ar a]? = some cellB ∧ cellB.vm.isStatics = false ∧ s.vm.findClass (px_yn y).cls = some cellB.cls := by
      rw [v3]
      have h0 := px_sh_0 ha
      by_cases hw2 : a < 1000
      · obtain ⟨q, hq, hwq⟩ := px_ws_get (ar := ar) (cA := cA) (M := M) (px_sh_L ha hw2)
        rw [px_e_o h0] at hwq
        have hci := px_sh0_c hw2 h0
        have hlt : px_ow y < px_cls.length := hci
        have hr := px_cn_cls _ hci _ (List.getElem?_eq_getElem hlt)
        rw [← hr]
        exact va_recv hK hP (List.getElem?_eq_getElem hlt) hwq
      · obtain ⟨i', hi', rfl, hci⟩ := px_ro_o hw2 h0
        rw [hci]
        obtain ⟨cell, c1, c2, c3, c4⟩ := ((hST (px_sh_g ha hw2)).2.2.2.1 i' hi').1
        exact ⟨cell, by rw [hS.2.1 _ (Array.getElem?_eq_some_iff.mp c1).1 c4]; exact c1, c2, c3⟩
    have hpc : ∀ U : State, U.heap = H → s.WarmedH U.vm → va_Pc ((.ref a :: As).map (px_cv fv ar)) (px_Iv g D cA ar fv ro A Lx M) (Value.ref (ar a) :: As.map (px_cv fv ar)).toArray U := by
      intro U hU hW
      have := px_pre (y := y) (vs := .ref a :: As) C hP hD hS hR U hU hW
      rw [List.map_cons, hca] at this ⊢
      exact this
    have hrun := va_runV (e := e) (below := below) (meth := meth) (locs := locs) (cells := cells) (slots := slots) (g := F0 m pc jls (st.map (px_cv fv ar))) (b := ar a) (As := As.map (px_cv fv ar)) (rest := (st.drop (px_na y)).map (px_cv fv ar)) (C := (px_yn y).cls) ⟨hx, hb, hml, hown, hts⟩ hM ⟨⟨hwd.1.1, hwd.1.2.1, hwd.1.2.2.1, hwd.1.2.2.2.1, hwd.1.2.2.2.2.1, hwd.1.2.2.2.2.2, hwd.2.1, hwd.2.2.1, hwd.2.2.2, px_np_p w3, hts _ (px_w_in k1)⟩, hts _ (px_w_in w1), hts _ (px_w_in w2)⟩ ⟨px_blind, hcell, hpc⟩ rfl hn hl.1 hst (lv_room (by rw [px_sum_cv hfv]; exact o2)) hd ⟨hcs.1, hcs.2⟩
    refine px_callW hrun hS (fun r M' H1 locs1 hq hP1 hD1 hS1 hR1 => ?_)
    have h1 := h r M' hq H1 locs1 jls hP1 hD1 hS1 hR1 hl hw
    rw [List.map_append] at h1
    cases r <;> exact h1
theorem px_x_callS {i y pl : Nat} {st : List Value} {Q' : px_Po} (C : px_Cx p R s m args c cells slots g k D cA ar fv ro A Lx) (hd : decode (px_by k) pc = .ok (.invokestatic i, 3)) (hf : px_clk (px_ow k) i = some (y, 1, pl)) (hok : px_cok k y st = true) (hM : px_Mt l g D cA ar fv ro A Lx y (st.take (px_na y)).reverse M Q') (h : ∀ (r : Option Value) (M' : px_Mem), Q' r M' → px_G p l e R s m args below meth c cells slots Qm g k D cA ar fv ro A (pc + 3) (ls) (r.toList ++ st.drop (px_na y)) (M')) : px_G p l e R s m args below meth c cells slots Qm g k D cA ar fv ro A (pc) (ls) (st) (M) := by
  intro H locs jls hP hD hS hR hl hw
  have hC := C
  obtain ⟨hx, hb, hml, hown, hts, hrm, hcs, hK, hST, hfv⟩ := hC
  have hk := List.all_eq_true.mp (px_qm_all (px_ow k)) _ (px_lk_in hf)
  have hk : (px_w pl (.methodLink (px_cn (px_ow k)) i (px_yn y)) && px_wz y && decide (y < px_LAW)) = true := hk
  unfold px_wz at hk
  simp only [Bool.and_eq_true, decide_eq_true_eq] at hk
  obtain ⟨⟨k1, ⟨w1, w3⟩⟩, hy⟩ := hk
  have ho := px_cok_p hok
  have hwd := px_words C hy ho
  obtain ⟨o1, o2, o3, o4, o5, o6⟩ := ho
  have hlen : (st.take (px_na y)).reverse.length = px_na y := by rw [List.length_reverse, List.length_take]; omega
  have hsplit : st = (st.take (px_na y)).reverse.reverse ++ st.drop (px_na y) := by rw [List.reverse_reverse, List.take_append_drop]
  generalize hvs : (st.take (px_na y)).reverse = vs at hM hlen hsplit
  have hst : st.map (px_cv fv ar) = (vs.map (px_cv fv ar)).reverse ++ (st.drop (px_na y)).map (px_cv fv ar) := by
    conv => lhs; rw [hsplit]
    rw [List.map_append, List.map_reverse]
  have hn : (vs.map (px_cv fv ar)).length = px_na y := by rw [List.length_map]; exact hlen
  have hrun := va_runS (e := e) (below := below) (meth := meth) (locs := locs) (cells := cells) (slots := slots) (g := F0 m pc jls (st.map (px_cv fv ar))) (As := vs.map (px_cv fv ar)) (rest := (st.drop (px_na y)).map (px_cv fv ar)) ⟨hx, hb, hml, hown, hts⟩ hM ⟨⟨hwd.1.1, hwd.1.2.1, hwd.1.2.2.1, hwd.1.2.2.2.1, hwd.1.2.2.2.2.1, hwd.1.2.2.2.2.2, hwd.2.1, hwd.2.2.1, hwd.2.2.2, px_np_p w3, hts _ (px_w_in k1)⟩, hts _ (px_w_in w1)⟩ ⟨px_blind, fun U hU hW => px_pre (y := y) C hP hD hS hR U hU hW⟩ rfl hn hl.1 hst (lv_room (by rw [px_sum_cv hfv]; exact o2)) hd ⟨hcs.1, hcs.2⟩
  refine px_callW hrun hS (fun r M' H1 locs1 hq hP1 hD1 hS1 hR1 => ?_)
  have h1 := h r M' hq H1 locs1 jls hP1 hD1 hS1 hR1 hl hw
  rw [List.map_append] at h1
  cases r <;> exact h1
theorem px_x_callN {i y pl : Nat} {st : List Value} {Q' : px_Po} (C : px_Cx p R s m args c cells slots g k D cA ar fv ro A Lx) (hd : decode (px_by k) pc = .ok (.invokestatic i, 3)) (hf : px_clk (px_ow k) i = some (y, 2, pl)) (hg : g = 0) (hok : px_cok k y st = true) (hM : px_Mt l g D cA ar fv ro A Lx y (st.take (px_na y)).reverse M Q') (h : ∀ (r : Option Value) (M' : px_Mem), Q' r M' → px_G p l e R s m args below meth c cells slots Qm g k D cA ar fv ro A (pc + 3) (ls) (r.toList ++ st.drop (px_na y)) (M')) : px_G p l e R s m args below meth c cells slots Qm g k D cA ar fv ro A (pc) (ls) (st) (M) := by
  intro H locs jls hP hD hS hR hl hw
  have hC := C
  obtain ⟨hx, hb, hml, hown, hts, hrm, hcs, hK, hST, hfv⟩ := hC
  have hk := List.all_eq_true.mp (px_qm_all (px_ow k)) _ (px_lk_in hf)
  have hk : (decide ((px_ow k, i, y) ∈ px_nest) && px_wz y && decide (y < px_LAW)) = true := hk
  unfold px_wz at hk
  simp only [Bool.and_eq_true, decide_eq_true_eq] at hk
  obtain ⟨⟨k1, ⟨w1, w3⟩⟩, hy⟩ := hk
  have ho := px_cok_p hok
  have hwd := px_words C hy ho
  obtain ⟨o1, o2, o3, o4, o5, o6⟩ := ho
  have hlen : (st.take (px_na y)).reverse.length = px_na y := by rw [List.length_reverse, List.length_take]; omega
  have hsplit : st = (st.take (px_na y)).reverse.reverse ++ st.drop (px_na y) := by rw [List.reverse_reverse, List.take_append_drop]
  generalize hvs : (st.take (px_na y)).reverse = vs at hM hlen hsplit
  have hst : st.map (px_cv fv ar) = (vs.map (px_cv fv ar)).reverse ++ (st.drop (px_na y)).map (px_cv fv ar) := by
    conv => lhs; rw [hsplit]
    rw [List.map_append, List.map_reverse]
  have hn : (vs.map (px_cv fv ar)).length = px_na y := by rw [List.length_map]; exact hlen
  have hrun := va_runSN (host := "FrozenTrees") (e := e) (below := below) (meth := meth) (locs := locs) (cells := cells) (slots := slots) (g := F0 m pc jls (st.map (px_cv fv ar))) (As := vs.map (px_cv fv ar)) (rest := (st.drop (px_na y)).map (px_cv fv ar)) ⟨hx, hb, hml, hown, hts⟩ hM ⟨⟨hwd.1, hwd.2.1, hwd.2.2.1, hwd.2.2.2, px_np_p w3, va_Nw.use rfl (show va_Nw (.methodLinkNest (px_cn (px_ow k)) i (px_yn y) "FrozenTrees") s from (hST hg).2.2.2.2.2.1 (px_ow k, i, y) k1)⟩, hts _ (px_w_in w1), trivial⟩ ⟨px_blind, fun U hU hW => px_pre (y := y) C hP hD hS hR U hU hW⟩ rfl hn hl.1 hst (lv_room (by rw [px_sum_cv hfv]; exact o2)) hd ⟨hcs.1, hcs.2⟩
  refine px_callW hrun hS (fun r M' H1 locs1 hq hP1 hD1 hS1 hR1 => ?_)
  have h1 := h r M' hq H1 locs1 jls hP1 hD1 hS1 hR1 hl hw
  rw [List.map_append] at h1
  cases r <;> exact h1
end PXU
end
section
theorem px_y_lt {c i y kd pl : Nat} (hf : px_clk c i = some (y, kd, pl)) (h3 : kd < 3 := by decide) : y < px_LAW := by
  have hk := List.all_eq_true.mp (px_qm_all c) _ (px_lk_in hf)
  unfold px_km at hk
  split at hk
  · simp only [Bool.and_eq_true, decide_eq_true_eq] at hk
    exact hk.2
  · simp only [Bool.and_eq_true, decide_eq_true_eq] at hk
    exact hk.2
  · simp only [Bool.and_eq_true, decide_eq_true_eq] at hk
    exact hk.2
  · rename_i e
    exact absurd h3 (by rw [show kd = 3 from e]; decide)
  · rename_i e
    exact absurd h3 (by rw [show kd = 4 from e]; decide)
  · rename_i e
    exact absurd h3 (by rw [show kd = 5 from e]; decide)
  · rename_i e
    exact absurd h3 (by rw [show kd = 6 from e]; decide)
  · cases hk
section PXV
variable {p : Program} {l : Launch} {e : Env} {R : Room} {s : State} {m : MethodId} {args : Array Value} {below : List Frame} {meth : Method} {c : Code} {cells slots : Nat} {Qm : State → Prop} {g k : Nat} {D : va_G} {cA : Nat → ClassId} {ar : Nat → Nat} {fv : Value} {ro : Nat → Nat → Int32} {A : Nat → Prop} {Lx : Nat} {pc : Nat} {ls : px_Lo} {M : px_Mem} {r : List Value}
theorem px_step (C : px_Cx p R s m args c cells slots g k D cA ar fv ro A Lx) (hk : k < px_NM) {len : Nat} {i : Instr} (hin : px_in k pc = some (i, len)) {Q : px_Po} {go : Nat → px_Lo → List Value → px_Mem → Prop} {cal : Nat → List Value → px_Mem → px_Po → Prop} (hgo : ∀ (pc' : Nat) (ls' : px_Lo) (st' : List Value) (M' : px_Mem), go pc' ls' st' M' → px_G p l e R s m args below meth c cells slots Qm g k D cA ar fv ro A (pc') (ls') (st') (M')) (hcal : ∀ (y : Nat) (st' : List Value) (M' : px_Mem) (Q' : px_Po), cal y (st'.take (px_na y)).reverse M' Q' → y < px_LAW → px_cokp k y st' → px_Mt l g D cA ar fv ro A Lx y (st'.take (px_na y)).reverse M' Q') (hrt : px_Rt p l e R s m args below meth c cells slots Qm g k D cA ar fv ro A Q) {st : List Value} (h : px_st g k pc ls M Q go cal len st i) : px_G p l e R s m args below meth c cells slots Qm g k D cA ar fv ro A (pc) (ls) (st) (M) := by
  obtain ⟨hd, hok⟩ := px_in_ok hk hin
  cases i
  case iadd =>
    have e1 : len = 1 := of_decide_eq_true hok
    subst e1
    simp only [px_st] at h
    split at h
    · exact px_x_iadd C hd (hgo _ _ _ _ h)
    · exact h.elim
  case isub =>
    have e1 : len = 1 := of_decide_eq_true hok
    subst e1
    simp only [px_st] at h
    split at h
    · exact px_x_isub C hd (hgo _ _ _ _ h)
    · exact h.elim
  case imul =>
    have e1 : len = 1 := of_decide_eq_true hok
    subst e1
    simp only [px_st] at h
    split at h
    · exact px_x_imul C hd (hgo _ _ _ _ h)
    · exact h.elim
  case iand =>
    have e1 : len = 1 := of_decide_eq_true hok
    subst e1
    simp only [px_st] at h
    split at h
    · exact px_x_iand C hd (hgo _ _ _ _ h)
    · exact h.elim
  case ior =>
    have e1 : len = 1 := of_decide_eq_true hok
    subst e1
    simp only [px_st] at h
    split at h
    · exact px_x_ior C hd (hgo _ _ _ _ h)
    · exact h.elim
  case ixor =>
    have e1 : len = 1 := of_decide_eq_true hok
    subst e1
    simp only [px_st] at h
    split at h
    · exact px_x_ixor C hd (hgo _ _ _ _ h)
    · exact h.elim
  case ishl =>
    have e1 : len = 1 := of_decide_eq_true hok
    subst e1
    simp only [px_st] at h
    split at h
    · exact px_x_ishl C hd (hgo _ _ _ _ h)
    · exact h.elim
  case ishr =>
    have e1 : len = 1 := of_decide_eq_true hok
    subst e1
    simp only [px_st] at h
    split at h
    · exact px_x_ishr C hd (hgo _ _ _ _ h)
    · exact h.elim
  case iushr =>
    have e1 : len = 1 := of_decide_eq_true hok
    subst e1
    simp only [px_st] at h
    split at h
    · exact px_x_iushr C hd (hgo _ _ _ _ h)
    · exact h.elim
  case ladd =>
    have e1 : len = 1 := of_decide_eq_true hok
    subst e1
    simp only [px_st] at h
    split at h
    · exact px_x_ladd C hd (hgo _ _ _ _ h)
    · exact h.elim
  case lsub =>
    have e1 : len = 1 := of_decide_eq_true hok
    subst e1
    simp only [px_st] at h
    split at h
    · exact px_x_lsub C hd (hgo _ _ _ _ h)
    · exact h.elim
  case lmul =>
    have e1 : len = 1 := of_decide_eq_true hok
    subst e1
    simp only [px_st] at h
    split at h
    · exact px_x_lmul C hd (hgo _ _ _ _ h)
    · exact h.elim
  case land =>
    have e1 : len = 1 := of_decide_eq_true hok
    subst e1
    simp only [px_st] at h
    split at h
    · exact px_x_land C hd (hgo _ _ _ _ h)
    · exact h.elim
  case lor =>
    have e1 : len = 1 := of_decide_eq_true hok
    subst e1
    simp only [px_st] at h
    split at h
    · exact px_x_lor C hd (hgo _ _ _ _ h)
    · exact h.elim
  case lneg =>
    have e1 : len = 1 := of_decide_eq_true hok
    subst e1
    simp only [px_st] at h
    split at h
    · exact px_x_lneg C hd (hgo _ _ _ _ h)
    · exact h.elim
  case lshl =>
    have e1 : len = 1 := of_decide_eq_true hok
    subst e1
    simp only [px_st] at h
    split at h
    · exact px_x_lshl C hd (hgo _ _ _ _ h)
    · exact h.elim
  case lshr =>
    have e1 : len = 1 := of_decide_eq_true hok
    subst e1
    simp only [px_st] at h
    split at h
    · exact px_x_lshr C hd (hgo _ _ _ _ h)
    · exact h.elim
  case i2l =>
    have e1 : len = 1 := of_decide_eq_true hok
    subst e1
    simp only [px_st] at h
    split at h
    · exact px_x_i2l C hd (hgo _ _ _ _ h)
    · exact h.elim
  case l2i =>
    have e1 : len = 1 := of_decide_eq_true hok
    subst e1
    simp only [px_st] at h
    split at h
    · exact px_x_l2i C hd (hgo _ _ _ _ h)
    · exact h.elim
  case i2b =>
    have e1 : len = 1 := of_decide_eq_true hok
    subst e1
    simp only [px_st] at h
    split at h
    · exact px_x_i2b C hd (hgo _ _ _ _ h)
    · exact h.elim
  case i2s =>
    have e1 : len = 1 := of_decide_eq_true hok
    subst e1
    simp only [px_st] at h
    split at h
    · exact px_x_i2s C hd (hgo _ _ _ _ h)
    · exact h.elim
  case i2c =>
    have e1 : len = 1 := of_decide_eq_true hok
    subst e1
    simp only [px_st] at h
    split at h
    · exact px_x_i2c C hd (hgo _ _ _ _ h)
    · exact h.elim
  case lcmp =>
    have e1 : len = 1 := of_decide_eq_true hok
    subst e1
    simp only [px_st] at h
    split at h
    · exact px_x_lcmp C hd (hgo _ _ _ _ h)
    · exact h.elim
  case idiv =>
    have e1 : len = 1 := of_decide_eq_true hok
    subst e1
    simp only [px_st] at h
    split at h
    · exact px_x_idiv C hd h.1 (hgo _ _ _ _ h.2)
    · exact h.elim
  case irem =>
    have e1 : len = 1 := of_decide_eq_true hok
    subst e1
    simp only [px_st] at h
    split at h
    · exact px_x_irem C hd h.1 (hgo _ _ _ _ h.2)
    · exact h.elim
  case ldiv =>
    have e1 : len = 1 := of_decide_eq_true hok
    subst e1
    simp only [px_st] at h
    split at h
    · exact px_x_ldiv C hd h.1 (hgo _ _ _ _ h.2)
    · exact h.elim
  case lrem =>
    have e1 : len = 1 := of_decide_eq_true hok
    subst e1
    simp only [px_st] at h
    split at h
    · exact px_x_lrem C hd h.1 (hgo _ _ _ _ h.2)
    · exact h.elim
  case iconst n =>
    have e1 : len = 1 := of_decide_eq_true hok
    subst e1
    simp only [px_st] at h
    exact px_x_iconst C hd (hgo _ _ _ _ h)
  case bipush n =>
    have e1 : len = 2 := of_decide_eq_true hok
    subst e1
    simp only [px_st] at h
    exact px_x_bipush C hd (hgo _ _ _ _ h)
  case sipush n =>
    have e1 : len = 3 := of_decide_eq_true hok
    subst e1
    simp only [px_st] at h
    exact px_x_sipush C hd (hgo _ _ _ _ h)
  case lconst n =>
    have e1 : len = 1 := of_decide_eq_true hok
    subst e1
    simp only [px_st] at h
    exact px_x_lconst C hd (hgo _ _ _ _ h)
  case iload_n j =>
    have e1 : len = 1 := of_decide_eq_true hok
    subst e1
    simp only [px_st] at h
    split at h
    · rename_i hj
      exact px_x_iload_n C hd hj (hgo _ _ _ _ h)
    · exact h.elim
  case iload j =>
    have e1 : len = 2 := of_decide_eq_true hok
    subst e1
    simp only [px_st] at h
    split at h
    · rename_i hj
      exact px_x_iload C hd hj (hgo _ _ _ _ h)
    · exact h.elim
  case lload_n j =>
    have e1 : len = 1 := of_decide_eq_true hok
    subst e1
    simp only [px_st] at h
    split at h
    · rename_i hj
      exact px_x_lload_n C hd hj (hgo _ _ _ _ h)
    · exact h.elim
  case lload j =>
    have e1 : len = 2 := of_decide_eq_true hok
    subst e1
    simp only [px_st] at h
    split at h
    · rename_i hj
      exact px_x_lload C hd hj (hgo _ _ _ _ h)
    · exact h.elim
  case aload_n j =>
    have e1 : len = 1 := of_decide_eq_true hok
    subst e1
    simp only [px_st] at h
    split at h
    · rename_i hj
      exact px_x_aload_n C hd hj (hgo _ _ _ _ h)
    · exact h.elim
  case aload j =>
    have e1 : len = 2 := of_decide_eq_true hok
    subst e1
    simp only [px_st] at h
    split at h
    · rename_i hj
      exact px_x_aload C hd hj (hgo _ _ _ _ h)
    · exact h.elim
  case istore_n j =>
    have hok2 := hok
    unfold px_oki at hok2
    simp only [Bool.and_eq_true, decide_eq_true_eq] at hok2
    obtain ⟨rfl, hj⟩ := hok2
    simp only [px_st] at h
    split at h
    · exact px_x_istore_n C hd hj (hgo _ _ _ _ h)
    · exact h.elim
  case istore j =>
    have hok2 := hok
    unfold px_oki at hok2
    simp only [Bool.and_eq_true, decide_eq_true_eq] at hok2
    obtain ⟨rfl, hj⟩ := hok2
    simp only [px_st] at h
    split at h
    · exact px_x_istore C hd hj (hgo _ _ _ _ h)
    · exact h.elim
  case astore_n j =>
    have hok2 := hok
    unfold px_oki at hok2
    simp only [Bool.and_eq_true, decide_eq_true_eq] at hok2
    obtain ⟨rfl, hj⟩ := hok2
    simp only [px_st] at h
    split at h
    · exact px_x_astore_n C hd hj (hgo _ _ _ _ h)
    · exact h.elim
  case astore j =>
    have hok2 := hok
    unfold px_oki at hok2
    simp only [Bool.and_eq_true, decide_eq_true_eq] at hok2
    obtain ⟨rfl, hj⟩ := hok2
    simp only [px_st] at h
    split at h
    · exact px_x_astore C hd hj (hgo _ _ _ _ h)
    · exact h.elim
  case lstore_n j =>
    have hok2 := hok
    unfold px_oki at hok2
    simp only [Bool.and_eq_true, decide_eq_true_eq] at hok2
    obtain ⟨⟨rfl, hj⟩, hj2⟩ := hok2
    simp only [px_st] at h
    split at h
    · exact px_x_lstore_n C hd hj hj2 (hgo _ _ _ _ h)
    · exact h.elim
  case lstore j =>
    have hok2 := hok
    unfold px_oki at hok2
    simp only [Bool.and_eq_true, decide_eq_true_eq] at hok2
    obtain ⟨⟨rfl, hj⟩, hj2⟩ := hok2
    simp only [px_st] at h
    split at h
    · exact px_x_lstore C hd hj hj2 (hgo _ _ _ _ h)
    · exact h.elim
  case iinc j n =>
    have hok2 := hok
    unfold px_oki at hok2
    simp only [Bool.and_eq_true, decide_eq_true_eq] at hok2
    obtain ⟨rfl, hj⟩ := hok2
    simp only [px_st] at h
    split at h
    · rename_i hx
      exact px_x_iinc C hd hj hx (hgo _ _ _ _ h)
    · exact h.elim
  case dup =>
    have e1 : len = 1 := of_decide_eq_true hok
    subst e1
    simp only [px_st] at h
    split at h
    · split at h
      · rename_i hv
        exact px_x_dup C hd hv (hgo _ _ _ _ h)
      · exact h.elim
    · exact h.elim
  case pop =>
    have e1 : len = 1 := of_decide_eq_true hok
    subst e1
    simp only [px_st] at h
    split at h
    · split at h
      · rename_i hv
        exact px_x_pop C hd hv (hgo _ _ _ _ h)
      · exact h.elim
    · exact h.elim
  case dup2 =>
    have e1 : len = 1 := of_decide_eq_true hok
    subst e1
    simp only [px_st] at h
    split at h
    · exact px_x_dup2l C hd (hgo _ _ _ _ h)
    · split at h
      · rename_i hv
        exact px_x_dup2 C hd hv.1 hv.2 (hgo _ _ _ _ h)
      · exact h.elim
    · exact h.elim
  case ldc i =>
    have e1 : len = 2 := of_decide_eq_true hok
    subst e1
    simp only [px_st] at h
    split at h
    · rename_i hf
      exact px_x_ldc C hd hf (hgo _ _ _ _ h)
    · split at h
      · rename_i hf
        exact px_x_ldcs C hd hf h.1 (hgo _ _ _ _ h.2)
      · exact h.elim
  case ldc_w i =>
    have e1 : len = 3 := of_decide_eq_true hok
    subst e1
    simp only [px_st] at h
    split at h
    · rename_i hf
      exact px_x_ldcw C hd hf (hgo _ _ _ _ h)
    · exact h.elim
  case ldc2_w i =>
    have e1 : len = 3 := of_decide_eq_true hok
    subst e1
    simp only [px_st] at h
    split at h
    · rename_i hf
      exact px_x_ldc2 C hd hf (hgo _ _ _ _ h)
    · exact h.elim
  case if_icmp cd off =>
    have hok2 := hok
    unfold px_oki at hok2
    simp only [Bool.and_eq_true, decide_eq_true_eq] at hok2
    obtain ⟨rfl, ho⟩ := hok2
    simp only [px_st] at h
    split at h
    · refine px_x_icmp C hd ho ?_
      cases cd <;> exact ⟨fun q => hgo _ _ _ _ (h.1 q), fun q => hgo _ _ _ _ (h.2 q)⟩
    · exact h.elim
  case ifCond cd off =>
    have hok2 := hok
    unfold px_oki at hok2
    simp only [Bool.and_eq_true, decide_eq_true_eq] at hok2
    obtain ⟨rfl, ho⟩ := hok2
    simp only [px_st] at h
    split at h
    · refine px_x_if C hd ho ?_
      cases cd <;> exact ⟨fun q => hgo _ _ _ _ (h.1 q), fun q => hgo _ _ _ _ (h.2 q)⟩
    · exact h.elim
  case goto off =>
    have hok2 := hok
    unfold px_oki at hok2
    simp only [Bool.and_eq_true, decide_eq_true_eq] at hok2
    obtain ⟨rfl, ho⟩ := hok2
    simp only [px_st] at h
    exact px_x_goto C hd ho (hgo _ _ _ _ h)
  case tableswitch d lo hi offs =>
    have hok2 := hok
    unfold px_oki at hok2
    simp only [Bool.and_eq_true, decide_eq_true_eq, List.all_eq_true] at hok2
    obtain ⟨⟨ho, ho2⟩, ho3⟩ := hok2
    simp only [px_st] at h
    split at h
    · exact px_x_switch C hd ho ho2 ho3 (hgo _ _ _ _ h)
    · exact h.elim
  case getfield i =>
    have e1 : len = 3 := of_decide_eq_true hok
    subst e1
    simp only [px_st] at h
    split at h
    · split at h
      · rename_i hf
        exact px_x_getf C hd hf h.1 (hgo _ _ _ _ h.2)
      · exact h.elim
    · exact h.elim
  case putfield i =>
    have hok2 := hok
    unfold px_oki at hok2
    simp only [Bool.and_eq_true, decide_eq_true_eq] at hok2
    obtain ⟨rfl, hfn⟩ := hok2
    simp only [px_st] at h
    split at h
    · rename_i hf
      rw [hf] at hfn
      simp only [Bool.not_eq_true'] at hfn
      split at h
      · rename_i hc
        split at h
        · exact px_x_puti C hd hf hfn hc h.1 (hgo _ _ _ _ h.2)
        · exact h.elim
      · rename_i hc
        split at h
        · exact px_x_putl C hd hf hfn hc h.1 (hgo _ _ _ _ h.2)
        · exact h.elim
      · rename_i hc
        split at h
        · exact px_x_putz C hd hf hfn hc h.2.1 h.1 (hgo _ _ _ _ h.2.2)
        · exact h.elim
      · exact h.elim
    · exact h.elim
  case getstatic i =>
    have e1 : len = 3 := of_decide_eq_true hok
    subst e1
    simp only [px_st] at h
    split at h
    · rename_i hf
      exact px_x_gets C hd hf h.1 (Or.inl ⟨rfl, rfl⟩) (hgo _ _ _ _ h.2)
    · rename_i hf
      exact px_x_gets C hd hf h.1 (Or.inr (Or.inl ⟨rfl, rfl⟩)) (hgo _ _ _ _ h.2)
    · rename_i hf
      exact px_x_gets C hd hf h.1 (Or.inr (Or.inr (Or.inl ⟨rfl, rfl⟩))) (hgo _ _ _ _ h.2)
    · rename_i hf
      exact px_x_gets C hd hf h.1 (Or.inr (Or.inr (Or.inr ⟨rfl, rfl⟩))) (hgo _ _ _ _ h.2)
    · exact h.elim
  case iaload =>
    have e1 : len = 1 := of_decide_eq_true hok
    subst e1
    simp only [px_st] at h
    split at h
    · exact px_x_iald C hd h.1 (hgo _ _ _ _ h.2)
    · exact h.elim
  case baload =>
    have e1 : len = 1 := of_decide_eq_true hok
    subst e1
    simp only [px_st] at h
    split at h
    · exact px_x_bald C hd h.1 (hgo _ _ _ _ h.2)
    · exact h.elim
  case laload =>
    have e1 : len = 1 := of_decide_eq_true hok
    subst e1
    simp only [px_st] at h
    split at h
    · exact px_x_lald C hd h.1 (hgo _ _ _ _ h.2)
    · exact h.elim
  case aaload =>
    have e1 : len = 1 := of_decide_eq_true hok
    subst e1
    simp only [px_st] at h
    split at h
    · exact px_x_aald C hd h.1 (hgo _ _ _ _ h.2)
    · exact h.elim
  case iastore =>
    have e1 : len = 1 := of_decide_eq_true hok
    subst e1
    simp only [px_st] at h
    split at h
    · exact px_x_iast C hd h.1 (hgo _ _ _ _ h.2)
    · exact h.elim
  case lastore =>
    have e1 : len = 1 := of_decide_eq_true hok
    subst e1
    simp only [px_st] at h
    split at h
    · exact px_x_last C hd h.1 (hgo _ _ _ _ h.2)
    · exact h.elim
  case bastore =>
    have e1 : len = 1 := of_decide_eq_true hok
    subst e1
    simp only [px_st] at h
    split at h
    · rcases h with h | h
      · exact px_x_bast C hd h.1 (hgo _ _ _ _ h.2)
      · exact px_x_zast C hd h.1 (hgo _ _ _ _ h.2)
    · exact h.elim
  case arraylength =>
    have e1 : len = 1 := of_decide_eq_true hok
    subst e1
    simp only [px_st] at h
    split at h
    · rcases h with ⟨t, n, h1, h2, h3⟩ | ⟨h1, h3⟩
      · exact px_x_alen C hd h1 h2 (hgo _ _ _ _ h3)
      · exact px_x_slen C hd h1 (hgo _ _ _ _ h3)
    · exact h.elim
  case invokevirtual i =>
    have e1 : len = 3 := of_decide_eq_true hok
    subst e1
    simp only [px_st] at h
    split at h
    · rename_i y pl hf
      obtain ⟨h1, ho, rr, M1, h4, h5⟩ := h
      have hy : y < px_LAW := px_y_lt hf
      refine px_x_callV C hd hf h1 ho (hcal y st M _ h4 hy (px_cok_p ho)) (fun r M2 hq => ?_)
      obtain ⟨rfl, rfl⟩ := hq
      exact hgo _ _ _ _ h5
    · exact h.elim
  case invokestatic i =>
    have e1 : len = 3 := of_decide_eq_true hok
    subst e1
    simp only [px_st] at h
    split at h
    · rename_i y pl hf
      obtain ⟨ho, rr, M1, h4, h5⟩ := h
      have hy : y < px_LAW := px_y_lt hf
      refine px_x_callS C hd hf ho (hcal y st M _ h4 hy (px_cok_p ho)) (fun r M2 hq => ?_)
      obtain ⟨rfl, rfl⟩ := hq
      exact hgo _ _ _ _ h5
    · rename_i y pl hf
      obtain ⟨hg, ho, rr, M1, h4, h5⟩ := h
      have hy : y < px_LAW := px_y_lt hf
      refine px_x_callN C hd hf hg ho (hcal y st M _ h4 hy (px_cok_p ho)) (fun r M2 hq => ?_)
      obtain ⟨rfl, rfl⟩ := hq
      exact hgo _ _ _ _ h5
    · rename_i y pl hf
      split at h
      · obtain ⟨h1, h2, h3, h4 | h4⟩ := h
        · exact px_x_copyi C hd hf h1 h2 h3 h4.1 (hgo _ _ _ _ h4.2)
        · exact px_x_copyl C hd hf h1 h2 h3 h4.1 (hgo _ _ _ _ h4.2)
      · exact h.elim
    · rename_i hf
      split at h
      · exact px_x_mmax C hd hf h.1 h.2.1 h.2.2.1 (hgo _ _ _ _ h.2.2.2)
      · exact h.elim
    · rename_i hf
      split at h
      · exact px_x_mmin C hd hf h.1 h.2.1 h.2.2.1 (hgo _ _ _ _ h.2.2.2)
      · exact h.elim
    · rename_i hf
      split at h
      · exact px_x_mabs C hd hf h.1 h.2.1 h.2.2.1 (hgo _ _ _ _ h.2.2.2)
      · exact h.elim
    · exact h.elim
  case ireturn =>
    have e1 : len = 1 := of_decide_eq_true hok
    subst e1
    simp only [px_st] at h
    split at h
    · intro H locs jls hP hD hS hR hl hw
      exact hrt _ M pc jls H locs h.2 hP hD hS hR (Or.inl ⟨_, rfl, hd, h.1⟩)
    · exact h.elim
  case lreturn =>
    have e1 : len = 1 := of_decide_eq_true hok
    subst e1
    simp only [px_st] at h
    split at h
    · intro H locs jls hP hD hS hR hl hw
      exact hrt _ M pc jls H locs h.2 hP hD hS hR (Or.inr (Or.inl ⟨_, rfl, hd, h.1⟩))
    · exact h.elim
  case areturn =>
    have e1 : len = 1 := of_decide_eq_true hok
    subst e1
    simp only [px_st] at h
    split at h
    · intro H locs jls hP hD hS hR hl hw
      exact hrt _ M pc jls H locs h.2.2 hP hD hS hR (Or.inr (Or.inr (Or.inl ⟨_, rfl, hd, h.1, h.2.1⟩)))
    · exact h.elim
  case return_ =>
    have e1 : len = 1 := of_decide_eq_true hok
    subst e1
    simp only [px_st] at h
    split at h
    · intro H locs jls hP hD hS hR hl hw
      exact hrt _ M pc jls H locs h.2 hP hD hS hR (Or.inr (Or.inr (Or.inr ⟨rfl, hd, h.1⟩)))
    · exact h.elim
  all_goals exact False.elim h
end PXV
end
section
theorem px_en_cons1 {v : Value} {vs : List Value} (h : v.category = 1) : px_en (v :: vs) = some v :: px_en vs := by
  cases v <;> first | rfl | (cases h)
theorem px_en_cons2 {v : Value} {vs : List Value} (h : v.category = 2) : px_en (v :: vs) = some v :: none :: px_en vs := by
  cases v <;> first | rfl | (cases h)
theorem px_ld_0 {x : Option Value} {l : px_Lo} : px_ld (x :: l) 0 = x := rfl
theorem px_ld_s {x : Option Value} {l : px_Lo} {p : Nat} : px_ld (x :: l) (p + 1) = px_ld l p := rfl
theorem px_en_ld {fv : Value} {ar : Nat → Nat} (hf : fv.category = 1) : ∀ (vs : List Value) (i p : Nat) (w : Value), px_ld (px_en vs) p = some w → (i + p, px_cv fv ar w) ∈ lv_args i (vs.map (px_cv fv ar))
  | [], i, p, w, h => by
    have : px_ld (px_en []) p = none := by cases p <;> rfl
    rw [this] at h
    cases h
  | v :: vs, i, p, w, h => by
    rw [List.map_cons]
    unfold lv_args
    rw [px_cv_cat hf]
    rcases lv_cat v with hc | hc
    · rw [px_en_cons1 hc] at h
      rw [if_neg (by omega)]
      cases p with
      | zero =>
        rw [px_ld_0] at h
        cases h
        exact List.mem_cons_self
      | succ p =>
        rw [px_ld_s] at h
        have := px_en_ld (ar := ar) hf vs (i + 1) p w h
        rw [show i + (p + 1) = i + 1 + p by omega]
        exact List.mem_cons_of_mem _ this
    · rw [px_en_cons2 hc] at h
      rw [if_pos hc]
      match p, h with
      | 0, h =>
        rw [px_ld_0] at h
        cases h
        exact List.mem_cons_self
      | 1, h => cases h
      | p + 2, h =>
        rw [px_ld_s, px_ld_s] at h
        have := px_en_ld (ar := ar) hf vs (i + 2) p w h
        rw [show i + (p + 2) = i + 2 + p by omega]
        exact List.mem_cons_of_mem _ this
theorem px_ent_ld {y p : Nat} {vs : List Value} {w : Value} (h : px_ld (px_ent y vs) p = some w) : px_ld (px_en vs) p = some w := by
  unfold px_ent px_ld at h
  unfold px_ld
  rw [List.getD_eq_getElem?_getD] at h ⊢
  by_cases hp : p < (px_en vs).length
  · rw [List.getElem?_append_left hp] at h
    exact h
  · rw [List.getElem?_append_right (by omega)] at h
    exfalso
    cases hq : (List.replicate (px_ml y - (px_en vs).length) (none : Option Value))[p - (px_en vs).length]? with
    | none => rw [hq] at h; cases h
    | some x =>
      rw [hq] at h
      have := List.eq_of_mem_replicate (List.mem_of_getElem? hq)
      rw [this] at h
      cases h
theorem px_wf_ld {k : Nat} : ∀ (ls : px_Lo) (i p : Nat) (w : Value), px_wf k i ls = true → px_ld ls p = some w → w.category = 2 → (px_ls k).contains (i + p) = true
  | [], i, p, w, _, h, _ => by
    have : px_ld [] p = none := by cases p <;> rfl
    rw [this] at h
    cases h
  | none :: l, i, p, w, hw, h, hc => by
    cases p with
    | zero => cases h
    | succ p =>
      have := px_wf_ld l (i + 1) p w hw h hc
      rw [show i + (p + 1) = i + 1 + p by omega]
      exact this
  | some v :: l, i, p, w, hw, h, hc => by
    have hw2 : ((v.category != 2 || (px_ls k).contains i) && px_wf k (i + 1) l) = true := hw
    rw [Bool.and_eq_true] at hw2
    cases p with
    | zero =>
      cases h
      have h1 := hw2.1
      rw [hc] at h1
      simpa using h1
    | succ p =>
      have := px_wf_ld l (i + 1) p w hw2.2 h hc
      rw [show i + (p + 1) = i + 1 + p by omega]
      exact this
theorem px_sl_len {fv : Value} {ar : Nat → Nat} (hf : fv.category = 1) : ∀ vs : List Value, (lg_sl (vs.map (px_cv fv ar))).length = (px_en vs).length
  | [] => rfl
  | v :: vs => by
    have ih := px_sl_len (ar := ar) hf vs
    unfold lg_sl at ih ⊢
    rw [List.map_cons, List.flatMap_cons, List.length_append, ih, px_cv_cat hf]
    rcases lv_cat v with hc | hc
    · rw [px_en_cons1 hc, if_neg (by omega)]
      show 1 + _ = _ + 1
      omega
    · rw [px_en_cons2 hc, if_pos hc]
      show 2 + _ = _ + 1 + 1
      omega
def px_Sn (l : Launch) (g : Nat) (D : va_G) (cA : Nat → ClassId) (ar : Nat → Nat) (fv : Value) (ro : Nat → Nat → Int32) (A : Nat → Prop) (Lx : Nat) (n : Nat) : Prop := ∀ (p : Program) (e : Env) (R : Room) (s : State) (m : MethodId) (args : Array Value) (below : List Frame) (meth : Method) (c : Code) (cells slots : Nat) (Qm : State → Prop) (k pc : Nat) (ls : px_Lo) (st : List Value) (M : px_Mem) (Q : px_Po), px_wp g n k pc ls st M Q → k < px_NM → px_Cx p R s m args c cells slots g k D cA ar fv ro A Lx → px_Rt p l e R s m args below meth c cells slots Qm g k D cA ar fv ro A Q → px_G p l e R s m args below meth c cells slots Qm g k D cA ar fv ro A pc ls st M
section PXW
variable {l : Launch} {g : Nat} {D : va_G} {cA : Nat → ClassId} {ar : Nat → Nat} {fv : Value} {ro : Nat → Nat → Int32} {A : Nat → Prop} {Lx : Nat}
theorem px_leave {p : Program} {e : Env} {R : Room} {s : State} {m : MethodId} {args : Array Value} {below : List Frame} {meth : Method} {c : Code} {y : Nat} {Q : px_Po} (hx : p.tables.exec = Jvm.exec) (hb : c.code = px_by y) (hr : meth.sig.returnType = px_rty (px_rt y)) (hlocks : meth.locks = false) (hK : va_K D px_cls (px_tys g cA) s) (hST : px_ST g ar fv ro A Lx s s.heap) : px_Rt p l e R s m args below meth c 0 0 (MQ below (px_Qc g D cA ar fv ro A Lx Q) args s 0 0 A) g y D cA ar fv ro A Q := by
  intro r M pc jls H locs hQ hP hD hS hR he
  have hq : ∀ t : State, t.heap = H → s.WarmedH t.vm → px_Qc g D cA ar fv ro A Lx Q args s (.returned (r.map (px_cv fv ar))) t := fun t ht hW => ⟨⟨r, M, rfl, hQ, by rw [ht]; exact hP, va_K.moved hW.alike hK, hD, hR, px_ST_warm hW (by rw [ht]; exact hS.1) (fun a h1 h2 => by rw [ht]; exact hS.2.1 a h1 h2) hST⟩, hS.F ht⟩
  rcases he with ⟨v, rfl, hd, hk⟩ | ⟨v, rfl, hd, hk⟩ | ⟨a, rfl, hd, hk, hne⟩ | ⟨rfl, hd, hk⟩
  · generalize px_rt y = rt at hr hk
    match rt, hr, hk with
    | 1, hr, _ => exact W.iret hx hb hr hq hS.2.2 hd
    | 2, hr, hk => exact W.zret hx hb hr (by rcases hk with rfl | rfl <;> rfl) hq hS.2.2 hd
    | 5, hr, hk => exact W.zret hx hb hr hk hq hS.2.2 hd
    | 6, hr, hk => exact W.zret hx hb hr hk hq hS.2.2 hd
  · rw [hk] at hr
    exact W.lret hx hb hr hq hS.2.2 hd
  · have hc : px_cv fv ar (.ref a) = .ref (ar a) := px_cv_r hne
    show W p l e R s m args below meth c H locs 0 0 _ (F0 m pc jls [px_cv fv ar (.ref a)])
    have hq2 : ∀ t : State, t.heap = H → s.WarmedH t.vm → px_Qc g D cA ar fv ro A Lx Q args s (.returned (some (px_cv fv ar (.ref a)))) t := hq
    rw [hc] at hq2 ⊢
    rcases hk with hk | hk
    · rw [hk] at hr
      exact W.aret hx hb hr (Or.inl ⟨_, rfl⟩) (Or.inr ⟨_, rfl⟩) hq2 hS.2.2 hd
    · rw [hk] at hr
      exact W.aret hx hb hr (Or.inl ⟨_, rfl⟩) (Or.inr ⟨_, rfl⟩) hq2 hS.2.2 hd
  · rw [hk] at hr
    exact W.vret hx hb hr hq hS.2.2 hd
theorem px_met {n y : Nat} {vs : List Value} {M : px_Mem} {Q : px_Po} (ih : px_Sn l g D cA ar fv ro A Lx n) (hfv : fv = .null ∨ ∃ t, fv = .ref t) (h : px_wp g n y 0 (px_ent y vs) [] M Q) (hy : y < px_LAW) (hlen : (px_en vs).length ≤ px_ml y) (hwf : px_wf y 0 (px_en vs) = true) : px_Mt l g D cA ar fv ro A Lx y vs M Q := by
  obtain ⟨w1, w2, w3, w4, w5, w6⟩ := px_Wm_of hy
  have hf := px_fcat hfv
  refine Met.ofW (cc := px_by y) (maxL := px_ml y) (ret := px_rty (px_rt y)) (ws' := px_gw) w4 rfl ?_
  intro p e s m args below meth c s₁ B hml hv
  obtain ⟨rfl, hP, hK, hD, hR, hST⟩ := hv
  have hts := atoms_spec (ws := px_wsy y) B.pre
  have hown : s.vm.findClass (px_yn y).cls = some m.cls := findClass_of_methodNamed B.named
  rw [w3] at hown
  have C : px_Cx p (headSpec (px_wsy y) (px_rm y)).room s m (vs.map (px_cv fv ar)).toArray c 0 0 g y D cA ar fv ro A Lx := ⟨B.exec, B.bytes, hml, hown, fun w hw => hts w (List.mem_cons_of_mem _ hw), ⟨Nat.le_refl _, Nat.le_refl _⟩, ⟨Nat.zero_le _, Nat.zero_le _⟩, hK, hST, hfv⟩
  have hl0 := lv_entry (vs.map (px_cv fv ar)) (n := px_ml y) (by rw [px_sl_len hf]; exact hlen)
  rw [lg_entry_eq]
  have hG := ih p e _ s m _ below meth c 0 0 _ y 0 _ _ M Q h (Nat.lt_of_lt_of_le hy (Nat.le_succ _)) C (px_leave B.exec B.bytes B.returns B.notSynchronized hK hST)
  refine hG s.heap [] _ hP hD va_S.rf hR (px_lv_mono hl0 (fun q hq => ?_)) (fun q w hq hc => ?_)
  · obtain ⟨w, h1, h2⟩ := px_lvs_in.mp hq
    have h3 := px_en_ld (ar := ar) hf vs 0 q.1 w (px_ent_ld h1)
    rw [Nat.zero_add, ← h2] at h3
    exact h3
  · have := px_wf_ld (px_en vs) 0 q w hwf (px_ent_ld hq) hc
    rw [Nat.zero_add] at this
    exact this
theorem px_sound (hfv : fv = .null ∨ ∃ t, fv = .ref t) (n : Nat) : px_Sn l g D cA ar fv ro A Lx n := by
  induction n with
  | zero =>
    intro p e R s m args below meth c cells slots Qm k pc ls st M Q h
    exact h.elim
  | succ n ih =>
    intro p e R s m args below meth c cells slots Qm k pc ls st M Q h hk C hrt
    unfold px_wp at h
    split at h
    · rename_i i len hin
      exact px_step C hk hin (fun pc' ls' st' M' h' => ih p e R s m args below meth c cells slots Qm k pc' ls' st' M' Q h' hk C hrt) (fun y st' M' Q' h' hy ho => px_met ih hfv h' hy ho.2.2.2.2.1 ho.2.2.2.2.2) hrt h
    · exact h.elim
end PXW
end
section
theorem px_br_mono {c : ClassFile.Cond} {x y : Int32} {A A' B B' : Prop} (ha : A → A') (hb : B → B') (h : px_br c x y A B) : px_br c x y A' B' := by
  cases c <;> exact ⟨fun q => ha (h.1 q), fun q => hb (h.2 q)⟩
theorem px_call_mono {k pc : Nat} {ls : px_Lo} {M : px_Mem} {go go' : Nat → px_Lo → List Value → px_Mem → Prop} {cal cal' : Nat → List Value → px_Mem → px_Po → Prop} {y : Nat} {st : List Value} (hgo : ∀ a b c d, go a b c d → go' a b c d) (hcal : ∀ y vs m P, cal y vs m P → cal' y vs m P) (h : px_call k pc ls M go cal y st) : px_call k pc ls M go' cal' y st := by
  obtain ⟨a, r, m, b, c⟩ := h
  exact ⟨a, r, m, hcal _ _ _ _ b, hgo _ _ _ _ c⟩
theorem px_st_mono {g k pc len : Nat} {ls : px_Lo} {M : px_Mem} {Q Q' : px_Po} {go go' : Nat → px_Lo → List Value → px_Mem → Prop} {cal cal' : Nat → List Value → px_Mem → px_Po → Prop} {st : List Value} {i : Instr} (hQ : ∀ r m, Q r m → Q' r m) (hgo : ∀ a b c d, go a b c d → go' a b c d) (hcal : ∀ y vs m P, cal y vs m P → cal' y vs m P) (h : px_st g k pc ls M Q go cal len st i) : px_st g k pc ls M Q' go' cal' len st i := by
  cases i
  all_goals (try simp only [px_st] at h ⊢)
  all_goals (repeat' (split at h))
  all_goals first
    | exact h.elim
    | exact hgo _ _ _ _ h
    | exact ⟨h.1, hgo _ _ _ _ h.2⟩
    | exact ⟨h.1, hQ _ _ h.2⟩
    | exact ⟨h.1, h.2.1, hgo _ _ _ _ h.2.2⟩
    | exact ⟨h.1, h.2.1, hQ _ _ h.2.2⟩
    | exact ⟨h.1, h.2.1, h.2.2.1, hgo _ _ _ _ h.2.2.2⟩
    | exact px_br_mono (hgo _ _ _ _) (hgo _ _ _ _) h
    | exact px_call_mono hgo hcal h
    | exact ⟨h.1, px_call_mono hgo hcal h.2⟩
    | (rcases h with ⟨h1, h2⟩ | ⟨h1, h2⟩
       · exact Or.inl ⟨h1, hgo _ _ _ _ h2⟩
       · exact Or.inr ⟨h1, hgo _ _ _ _ h2⟩)
    | (rcases h with ⟨t, n, h1, h2, h3⟩ | ⟨h1, h2⟩
       · exact Or.inl ⟨t, n, h1, h2, hgo _ _ _ _ h3⟩
       · exact Or.inr ⟨h1, hgo _ _ _ _ h2⟩)
    | (obtain ⟨h1, h2, h3, ⟨h4, h5⟩ | ⟨h4, h5⟩⟩ := h
       · exact ⟨h1, h2, h3, Or.inl ⟨h4, hgo _ _ _ _ h5⟩⟩
       · exact ⟨h1, h2, h3, Or.inr ⟨h4, hgo _ _ _ _ h5⟩⟩)
    | (rename_i hc; rw [if_pos hc]; exact hgo _ _ _ _ h)
    | (rename_i hc; rw [if_pos hc]; exact ⟨h.1, h.2.1, h.2.2.1, hgo _ _ _ _ h.2.2.2⟩)
    | (rename_i hc; rw [if_neg hc]; exact ⟨h.1, h.2.1, h.2.2.1, hgo _ _ _ _ h.2.2.2⟩)
theorem px_wp_mono {g : Nat} : ∀ (n n' : Nat), n ≤ n' → ∀ {k pc : Nat} {ls : px_Lo} {st : List Value} {M : px_Mem} {Q Q' : px_Po}, (∀ r m, Q r m → Q' r m) → px_wp g n k pc ls st M Q → px_wp g n' k pc ls st M Q'
  | 0, _, _, _, _, _, _, _, _, _, _, h => h.elim
  | n + 1, 0, hn, _, _, _, _, _, _, _, _, _ => absurd hn (Nat.not_succ_le_zero n)
  | n + 1, n' + 1, hn, k, pc, ls, st, M, Q, Q', hQ, h => by
    have hn2 : n ≤ n' := Nat.le_of_succ_le_succ hn
    unfold px_wp at h ⊢
    split at h
    · exact px_st_mono hQ (fun _ _ _ _ h => px_wp_mono n n' hn2 hQ h) (fun _ _ _ _ h => px_wp_mono n n' hn2 (fun _ _ h => h) h) h
    · exact h.elim
def px_is (r : Option Value) (m : px_Mem) : px_Po := fun r' m' => r' = r ∧ m' = m
theorem px_st_det {g k pc len : Nat} {ls : px_Lo} {M : px_Mem} {Q : px_Po} {go : Nat → px_Lo → List Value → px_Mem → Prop} {go' : Option Value → px_Mem → Nat → px_Lo → List Value → px_Mem → Prop} {cal : Nat → List Value → px_Mem → px_Po → Prop} {st : List Value} {i : Instr} (hgo : ∀ a b c d, go a b c d → ∃ r m, Q r m ∧ go' r m a b c d) (h : px_st g k pc ls M Q go cal len st i) : ∃ r m, Q r m ∧ px_st g k pc ls M (px_is r m) (go' r m) cal len st i := by
  cases i
  all_goals (try simp only [px_st] at h ⊢)
  all_goals (repeat' (split at h))
  all_goals first
    | exact h.elim
    | exact hgo _ _ _ _ h
    | (obtain ⟨r, m, h3, h4⟩ := hgo _ _ _ _ h.2; exact ⟨r, m, h3, h.1, h4⟩)
    | exact ⟨_, _, h.2, h.1, rfl, rfl⟩
    | (obtain ⟨r, m, h3, h4⟩ := hgo _ _ _ _ h.2.2; exact ⟨r, m, h3, h.1, h.2.1, h4⟩)
    | exact ⟨_, _, h.2.2, h.1, h.2.1, rfl, rfl⟩
    | (obtain ⟨r, m, h3, h4⟩ := hgo _ _ _ _ h.2.2.2; exact ⟨r, m, h3, h.1, h.2.1, h.2.2.1, h4⟩)
    | (obtain ⟨h1, r1, m1, h2, h3⟩ := h
       obtain ⟨r, m, h4, h5⟩ := hgo _ _ _ _ h3
       exact ⟨r, m, h4, h1, r1, m1, h2, h5⟩)
    | (obtain ⟨h0, h1, r1, m1, h2, h3⟩ := h
       obtain ⟨r, m, h4, h5⟩ := hgo _ _ _ _ h3
       exact ⟨r, m, h4, h0, h1, r1, m1, h2, h5⟩)
    | (rcases h with ⟨h1, h2⟩ | ⟨h1, h2⟩
       · obtain ⟨r, m, h3, h4⟩ := hgo _ _ _ _ h2
         exact ⟨r, m, h3, Or.inl ⟨h1, h4⟩⟩
       · obtain ⟨r, m, h3, h4⟩ := hgo _ _ _ _ h2
         exact ⟨r, m, h3, Or.inr ⟨h1, h4⟩⟩)
    | (rcases h with ⟨t, n, h0, h1, h2⟩ | ⟨h1, h2⟩
       · obtain ⟨r, m, h3, h4⟩ := hgo _ _ _ _ h2
         exact ⟨r, m, h3, Or.inl ⟨t, n, h0, h1, h4⟩⟩
       · obtain ⟨r, m, h3, h4⟩ := hgo _ _ _ _ h2
         exact ⟨r, m, h3, Or.inr ⟨h1, h4⟩⟩)
    | (obtain ⟨h1, h2, h3, ⟨h4, h5⟩ | ⟨h4, h5⟩⟩ := h
       · obtain ⟨r, m, h6, h7⟩ := hgo _ _ _ _ h5
         exact ⟨r, m, h6, h1, h2, h3, Or.inl ⟨h4, h7⟩⟩
       · obtain ⟨r, m, h6, h7⟩ := hgo _ _ _ _ h5
         exact ⟨r, m, h6, h1, h2, h3, Or.inr ⟨h4, h7⟩⟩)
    | (rename_i hc
       obtain ⟨r, m, h6, h7⟩ := hgo _ _ _ _ h
       exact ⟨r, m, h6, by rw [if_pos hc]; exact h7⟩)
    | (rename_i hc
       obtain ⟨r, m, h6, h7⟩ := hgo _ _ _ _ h.2.2.2
       exact ⟨r, m, h6, by rw [if_pos hc]; exact ⟨h.1, h.2.1, h.2.2.1, h7⟩⟩)
    | (rename_i hc
       obtain ⟨r, m, h6, h7⟩ := hgo _ _ _ _ h.2.2.2
       exact ⟨r, m, h6, by rw [if_neg hc]; exact ⟨h.1, h.2.1, h.2.2.1, h7⟩⟩)
    | skip
  · rename_i cd _ _ y x _
    cases cd
    · by_cases hc : x = y
      · obtain ⟨r, m, h3, h4⟩ := hgo _ _ _ _ (h.1 hc)
        exact ⟨r, m, h3, fun _ => h4, fun q => absurd hc q⟩
      · obtain ⟨r, m, h3, h4⟩ := hgo _ _ _ _ (h.2 hc)
        exact ⟨r, m, h3, fun q => absurd q hc, fun _ => h4⟩
    · by_cases hc : x = y
      · obtain ⟨r, m, h3, h4⟩ := hgo _ _ _ _ (h.2 hc)
        exact ⟨r, m, h3, fun q => absurd hc q, fun _ => h4⟩
      · obtain ⟨r, m, h3, h4⟩ := hgo _ _ _ _ (h.1 hc)
        exact ⟨r, m, h3, fun _ => h4, fun q => absurd q hc⟩
    · by_cases hc : x < y
      · obtain ⟨r, m, h3, h4⟩ := hgo _ _ _ _ (h.1 hc)
        exact ⟨r, m, h3, fun _ => h4, fun q => absurd hc q⟩
      · obtain ⟨r, m, h3, h4⟩ := hgo _ _ _ _ (h.2 hc)
        exact ⟨r, m, h3, fun q => absurd q hc, fun _ => h4⟩
    · by_cases hc : y ≤ x
      · obtain ⟨r, m, h3, h4⟩ := hgo _ _ _ _ (h.1 hc)
        exact ⟨r, m, h3, fun _ => h4, fun q => absurd hc q⟩
      · obtain ⟨r, m, h3, h4⟩ := hgo _ _ _ _ (h.2 hc)
        exact ⟨r, m, h3, fun q => absurd q hc, fun _ => h4⟩
    · by_cases hc : y < x
      · obtain ⟨r, m, h3, h4⟩ := hgo _ _ _ _ (h.1 hc)
        exact ⟨r, m, h3, fun _ => h4, fun q => absurd hc q⟩
      · obtain ⟨r, m, h3, h4⟩ := hgo _ _ _ _ (h.2 hc)
        exact ⟨r, m, h3, fun q => absurd q hc, fun _ => h4⟩
    · by_cases hc : x ≤ y
      · obtain ⟨r, m, h3, h4⟩ := hgo _ _ _ _ (h.1 hc)
        exact ⟨r, m, h3, fun _ => h4, fun q => absurd hc q⟩
      · obtain ⟨r, m, h3, h4⟩ := hgo _ _ _ _ (h.2 hc)
        exact ⟨r, m, h3, fun q => absurd q hc, fun _ => h4⟩
  · rename_i cd _ _ x _
    cases cd
    · by_cases hc : x = 0
      · obtain ⟨r, m, h3, h4⟩ := hgo _ _ _ _ (h.1 hc)
        exact ⟨r, m, h3, fun _ => h4, fun q => absurd hc q⟩
      · obtain ⟨r, m, h3, h4⟩ := hgo _ _ _ _ (h.2 hc)
        exact ⟨r, m, h3, fun q => absurd q hc, fun _ => h4⟩
    · by_cases hc : x = 0
      · obtain ⟨r, m, h3, h4⟩ := hgo _ _ _ _ (h.2 hc)
        exact ⟨r, m, h3, fun q => absurd hc q, fun _ => h4⟩
      · obtain ⟨r, m, h3, h4⟩ := hgo _ _ _ _ (h.1 hc)
        exact ⟨r, m, h3, fun _ => h4, fun q => absurd q hc⟩
    · by_cases hc : x < 0
      · obtain ⟨r, m, h3, h4⟩ := hgo _ _ _ _ (h.1 hc)
        exact ⟨r, m, h3, fun _ => h4, fun q => absurd hc q⟩
      · obtain ⟨r, m, h3, h4⟩ := hgo _ _ _ _ (h.2 hc)
        exact ⟨r, m, h3, fun q => absurd q hc, fun _ => h4⟩
    · by_cases hc : 0 ≤ x
      · obtain ⟨r, m, h3, h4⟩ := hgo _ _ _ _ (h.1 hc)
        exact ⟨r, m, h3, fun _ => h4, fun q => absurd hc q⟩
      · obtain ⟨r, m, h3, h4⟩ := hgo _ _ _ _ (h.2 hc)
        exact ⟨r, m, h3, fun q => absurd q hc, fun _ => h4⟩
    · by_cases hc : 0 < x
      · obtain ⟨r, m, h3, h4⟩ := hgo _ _ _ _ (h.1 hc)
        exact ⟨r, m, h3, fun _ => h4, fun q => absurd hc q⟩
      · obtain ⟨r, m, h3, h4⟩ := hgo _ _ _ _ (h.2 hc)
        exact ⟨r, m, h3, fun q => absurd q hc, fun _ => h4⟩
    · by_cases hc : x ≤ 0
      · obtain ⟨r, m, h3, h4⟩ := hgo _ _ _ _ (h.1 hc)
        exact ⟨r, m, h3, fun _ => h4, fun q => absurd hc q⟩
      · obtain ⟨r, m, h3, h4⟩ := hgo _ _ _ _ (h.2 hc)
        exact ⟨r, m, h3, fun q => absurd q hc, fun _ => h4⟩
theorem px_wp_det {g : Nat} : ∀ (n : Nat) {k pc : Nat} {ls : px_Lo} {st : List Value} {M : px_Mem} {Q : px_Po}, px_wp g n k pc ls st M Q → ∃ r m, Q r m ∧ px_wp g n k pc ls st M (px_is r m)
  | 0, _, _, _, _, _, _, h => h.elim
  | n + 1, k, pc, ls, st, M, Q, h => by
    unfold px_wp at h
    split at h
    · rename_i i len hin
      obtain ⟨r, m, h1, h2⟩ := px_st_det (go' := fun r m pc' ls' st' M' => px_wp g n k pc' ls' st' M' (px_is r m)) (fun _ _ _ _ h => px_wp_det n h) h
      refine ⟨r, m, h1, ?_⟩
      unfold px_wp
      rw [hin]
      exact h2
    · exact h.elim
def px_T (g k pc : Nat) (ls : px_Lo) (st : List Value) (M : px_Mem) (Q : px_Po) : Prop := ∃ n, px_wp g n k pc ls st M Q
theorem px_T_mono {g k pc : Nat} {ls : px_Lo} {st : List Value} {M : px_Mem} {Q Q' : px_Po} (h : px_T g k pc ls st M Q) (hQ : ∀ r m, Q r m → Q' r m) : px_T g k pc ls st M Q' := by
  obtain ⟨n, h⟩ := h
  exact ⟨n, px_wp_mono n n (Nat.le_refl n) hQ h⟩
theorem px_T_cl {g k pc y : Nat} {ls : px_Lo} {st : List Value} {M : px_Mem} {Q : px_Po} (hok : px_cok k y st = true) (h : px_T g y 0 (px_ent y (st.take (px_na y)).reverse) [] M (fun r M' => px_T g k (pc + 3) ls (r.toList ++ st.drop (px_na y)) M' Q)) : ∃ n, px_call k pc ls M (fun pc' ls' st' M' => px_wp g n k pc' ls' st' M' Q) (fun y vs M' Q' => px_wp g n y 0 (px_ent y vs) [] M' Q') y st := by
  obtain ⟨n1, h1⟩ := h
  obtain ⟨r, m, ⟨n2, h2⟩, h3⟩ := px_wp_det n1 h1
  exact ⟨n1 + n2, hok, r, m, px_wp_mono n1 _ (Nat.le_add_right _ _) (fun _ _ h => h) h3, px_wp_mono n2 _ (Nat.le_add_left _ _) (fun _ _ h => h) h2⟩
theorem px_T_sw {g k pc len t : Nat} {ls : px_Lo} {r : List Value} {M : px_Mem} {Q : px_Po} {d lo hi : Int} {offs : Array Int} {x : Int32} (hin : px_in k pc = some (.tableswitch d lo hi offs, len)) (ht : px_sw pc d lo hi offs x = t) (h : px_T g k t ls r M Q) : px_T g k pc ls (.int x :: r) M Q := by
  subst ht
  obtain ⟨n, h⟩ := h
  refine ⟨n + 1, ?_⟩
  unfold px_wp
  rw [hin]
  exact h
theorem px_sw_o {pc N : Nat} {d : Int} {offs : Array Int} {x : Int32} (hN : N < 2 ^ 31) (h : ∀ v : Nat, v < N → ¬ x = nI v) : px_sw pc d 0 ((N : Int) - 1) offs x = px_jt pc d := by
  unfold px_sw
  rw [if_pos]
  by_cases h1 : x.toInt < 0
  · exact Or.inl h1
  · right
    by_cases h2 : (N : Int) - 1 < x.toInt
    · exact h2
    · exfalso
      obtain ⟨j, hj, rfl⟩ := nI_of (x := x) (by rw [Int32.lt_iff_toInt_lt, Int32.toInt_zero]; exact h1)
      rw [nI_toInt hj] at h2
      exact h j (by omega) rfl
def px_isW (o : Nat) : Prop := o = 29 ∨ o = 47
def px_isS (o : Nat) : Prop := o = 4 ∨ o = 6 ∨ o = 9 ∨ o = 11 ∨ o = 13
def px_isR (o : Nat) : Prop := o = 16 ∨ o = 18 ∨ o = 20 ∨ o = 22
end
section
/-! plain facts on numbers and arrays, to paste: each family by itself; over the kit's rows on nI and upd -/
/-! ===== order of ints, in all its forms, and through longs ===== -/
theorem fa_lt (a b : Int32) : a < b ↔ a.toInt < b.toInt := Int32.lt_iff_toInt_lt
theorem fa_le (a b : Int32) : a ≤ b ↔ a.toInt ≤ b.toInt := Int32.le_iff_toInt_le
theorem fa_eq (a b : Int32) : a = b ↔ a.toInt = b.toInt := Int32.toInt_inj.symm
theorem fa_lt64 (a b : Int64) : a < b ↔ a.toInt < b.toInt := Int64.lt_iff_toInt_lt
theorem fa_le64 (a b : Int64) : a ≤ b ↔ a.toInt ≤ b.toInt := Int64.le_iff_toInt_le
theorem fa_eq64 (a b : Int64) : a = b ↔ a.toInt = b.toInt := Int64.toInt_inj.symm
/-- a comparison of two ints taken as longs -/
theorem fa_wide_lt (a b : Int32) : a.toInt64 < b.toInt64 ↔ a < b := by rw [fa_lt64, fa_lt, Int32.toInt_toInt64, Int32.toInt_toInt64]
theorem fa_wide_le (a b : Int32) : a.toInt64 ≤ b.toInt64 ↔ a ≤ b := by rw [fa_le64, fa_le, Int32.toInt_toInt64, Int32.toInt_toInt64]
theorem fa_wide_eq (a b : Int32) : a.toInt64 = b.toInt64 ↔ a = b := by rw [fa_eq64, fa_eq, Int32.toInt_toInt64, Int32.toInt_toInt64]
/-- one strict comparison gives all the others -/
theorem fa_of_lt {a b : Int32} (h : a < b) : a ≤ b ∧ ¬ b ≤ a ∧ ¬ b < a ∧ a ≠ b ∧ b ≠ a := by
  rw [fa_lt] at h
  refine ⟨?_, ?_, ?_, ?_, ?_⟩
  · rw [fa_le]; omega
  · rw [fa_le]; omega
  · rw [fa_lt]; omega
  · intro e; rw [fa_eq] at e; omega
  · intro e; rw [fa_eq] at e; omega
theorem fa_of_nlt {a b : Int32} (h : ¬ a < b) : b ≤ a := by
  rw [fa_lt] at h
  rw [fa_le]
  omega
theorem fa_of_nle {a b : Int32} (h : ¬ a ≤ b) : b < a := by
  rw [fa_le] at h
  rw [fa_lt]
  omega
theorem fa_le_ne {a b : Int32} (h : a ≤ b) (h2 : a ≠ b) : a < b := by
  rw [fa_le] at h
  rw [fa_lt]
  have h3 : a.toInt ≠ b.toInt := fun e => h2 ((fa_eq a b).mpr e)
  omega
theorem fa_three (a b : Int32) : a < b ∨ a = b ∨ b < a := by
  rw [fa_lt, fa_lt, fa_eq]
  omega
theorem fa_trans {a b c : Int32} (h : a < b) (h2 : b ≤ c) : a < c := by
  rw [fa_lt] at *
  rw [fa_le] at h2
  omega
/-! ===== small literals as numbers ===== -/
theorem fa_lit (n : Nat) : (OfNat.ofNat n : Int32) = nI n := rfl
theorem fa_litL (n : Nat) : (OfNat.ofNat n : Int64) = lN n := rfl
/-! ===== bits of a number: 'or', masks, one bit ===== -/
theorem fa_and (a b : Nat) : nI a &&& nI b = nI (a &&& b) := by
  apply Int32.toBitVec_inj.1
  show BitVec.ofNat 32 a &&& BitVec.ofNat 32 b = BitVec.ofNat 32 (a &&& b)
  apply BitVec.eq_of_getLsbD_eq
  intro i hi
  simp [hi]
theorem fa_or (a b : Nat) : nI a ||| nI b = nI (a ||| b) := by
  apply Int32.toBitVec_inj.1
  show BitVec.ofNat 32 a ||| BitVec.ofNat 32 b = BitVec.ofNat 32 (a ||| b)
  apply BitVec.eq_of_getLsbD_eq
  intro i hi
  simp [hi]
/-- a remainder by a power of two, as a mask -/
theorem fa_mask (n k : Nat) : nI n &&& nI (2 ^ k - 1) = nI (n % 2 ^ k) := by rw [fa_and, Nat.and_two_pow_sub_one_eq_mod]
/-- 'or' of a high part and a low one that don't meet is their sum -/
theorem fa_or_sum {a k : Nat} (b : Nat) (h : a < 2 ^ k) : nI (2 ^ k * b) ||| nI a = nI (2 ^ k * b + a) := by rw [fa_or, Nat.two_pow_add_eq_or_of_lt h]
/-- one bit, by 'and' with a power of two -/
theorem fa_bit {n j : Nat} (hj : j < 31) : nI n &&& nI (2 ^ j) = 0 ↔ n.testBit j = false := by
  have h2 : (2 : Nat) ^ j < 2 ^ 31 := Nat.pow_lt_pow_right (by decide) hj
  have hle : n &&& 2 ^ j ≤ 2 ^ j := Nat.and_le_right
  have e : n &&& 2 ^ j = 0 ↔ n.testBit j = false := by
    constructor
    · intro h
      have h1 : (n &&& 2 ^ j).testBit j = false := by rw [h]; simp
      rw [Nat.testBit_and] at h1
      first | simpa using h1 | simpa [Nat.testBit_two_pow_self] using h1 | simpa [Nat.testBit_two_pow] using h1
    · intro h
      apply Nat.eq_of_testBit_eq
      intro i
      rw [Nat.testBit_and]
      by_cases hi : j = i
      · subst hi; simp [h]
      · first | (simp [Nat.testBit_two_pow, hi]; done) | (simp [Nat.testBit_two_pow_of_ne hi]; done)
  rw [fa_and]
  constructor
  · intro h
    apply e.mp
    rcases Nat.eq_zero_or_pos (n &&& 2 ^ j) with z | z
    · exact z
    · exact absurd h (nI_ne0 z (Nat.lt_of_le_of_lt hle h2))
  · intro h
    rw [e.mpr h]; exact nI_0
/-- a remainder by a power of two of a number that isn't negative, as Java divides -/
theorem fa_rem {a k : Nat} (ha : a < 2 ^ 31) (hk : k < 31) : nI a - nI a / nI (2 ^ k) * nI (2 ^ k) = nI (a % 2 ^ k) := pk_rem ha (Nat.two_pow_pos k) (Nat.pow_lt_pow_right (by decide) hk)
/-! ===== cuts to a byte, a short ===== -/
theorem fa_byte_xor (x y : Int32) : (x ^^^ y).toInt8 = x.toInt8 ^^^ y.toInt8 := by
  apply Int8.toBitVec_inj.1
  apply BitVec.eq_of_getLsbD_eq
  intro i hi
  first | (simp [hi]; done) | (simp [hi, BitVec.getLsbD_setWidth, BitVec.getLsbD_signExtend]; done)
theorem fa_short_xor (x y : Int32) : (x ^^^ y).toInt16 = x.toInt16 ^^^ y.toInt16 := by
  apply Int16.toBitVec_inj.1
  apply BitVec.eq_of_getLsbD_eq
  intro i hi
  first | (simp [hi]; done) | (simp [hi, BitVec.getLsbD_setWidth, BitVec.getLsbD_signExtend]; done)
/-- the cut to a byte sees the low byte alone -/
theorem fa_byte_low (x : Int32) : (x &&& 255).toInt8 = x.toInt8 := by
  apply Int8.toBitVec_inj.1
  apply BitVec.eq_of_getLsbD_eq
  intro i hi
  have h2 : (255 : Int32).toBitVec.getLsbD i = true := by
    have : ∀ j : Fin 8, (255 : Int32).toBitVec.getLsbD j.val = true := by decide +kernel
    exact this ⟨i, hi⟩
  have h4 : (x &&& 255).toBitVec.getLsbD i = x.toBitVec.getLsbD i := by
    show (x.toBitVec &&& (255 : Int32).toBitVec).getLsbD i = _
    rw [BitVec.getLsbD_and, h2, Bool.and_true]
  have h3 : i < 32 := by omega
  first
    | (show (((x &&& 255).toBitVec).signExtend 8).getLsbD i = (x.toBitVec.signExtend 8).getLsbD i; rw [BitVec.getLsbD_signExtend, BitVec.getLsbD_signExtend, if_pos h3, if_pos h3, h4])
    | (show (((x &&& 255).toBitVec).setWidth 8).getLsbD i = (x.toBitVec.setWidth 8).getLsbD i; rw [BitVec.getLsbD_setWidth, BitVec.getLsbD_setWidth, h4])
    | (simp [hi, h3, h4]; done)
theorem fa_short_low (x : Int32) : (x &&& 65535).toInt16 = x.toInt16 := by
  apply Int16.toBitVec_inj.1
  apply BitVec.eq_of_getLsbD_eq
  intro i hi
  have h2 : (65535 : Int32).toBitVec.getLsbD i = true := by
    have : ∀ j : Fin 16, (65535 : Int32).toBitVec.getLsbD j.val = true := by decide +kernel
    exact this ⟨i, hi⟩
  have h4 : (x &&& 65535).toBitVec.getLsbD i = x.toBitVec.getLsbD i := by
    show (x.toBitVec &&& (65535 : Int32).toBitVec).getLsbD i = _
    rw [BitVec.getLsbD_and, h2, Bool.and_true]
  have h3 : i < 32 := by omega
  first
    | (show (((x &&& 65535).toBitVec).signExtend 16).getLsbD i = (x.toBitVec.signExtend 16).getLsbD i; rw [BitVec.getLsbD_signExtend, BitVec.getLsbD_signExtend, if_pos h3, if_pos h3, h4])
    | (show (((x &&& 65535).toBitVec).setWidth 16).getLsbD i = (x.toBitVec.setWidth 16).getLsbD i; rw [BitVec.getLsbD_setWidth, BitVec.getLsbD_setWidth, h4])
    | (simp [hi, h3, h4]; done)
/-- a small number is its own byte, its own short -/
theorem fa_byte_small {n : Nat} (h : n < 128) : (nI n).toInt8.toInt32 = nI n := by
  have : ∀ j : Fin 128, (nI j.val).toInt8.toInt32 = nI j.val := by decide +kernel
  exact this ⟨n, h⟩
/-! ===== absolute difference ===== -/
theorem fa_absdiff {a b : Nat} (ha : a < 2 ^ 31) (hb : b < 2 ^ 31) : (if nI a < nI b then nI b - nI a else nI a - nI b) = nI (if a < b then b - a else a - b) := by
  by_cases h : a < b
  · rw [if_pos (nI_lt h hb), if_pos h]
    exact pk_sub (Nat.le_of_lt h)
  · rw [if_neg (nI_nlt (Nat.le_of_not_lt h) ha), if_neg h]
    exact pk_sub (Nat.le_of_not_lt h)
/-! ===== an array behind i stores, a conditional store, a row copied ===== -/
/-- f where k < i, what stood there else -/
def fa_fill {α : Type} (f g : Nat → α) (i : Nat) : Nat → α := fun k => if k < i then f k else g k
theorem fa_fill_0 {α : Type} (f g : Nat → α) : fa_fill f g 0 = g := funext fun k => if_neg (Nat.not_lt_zero k)
theorem fa_fill_in {α : Type} {f g : Nat → α} {i k : Nat} (h : k < i) : fa_fill f g i k = f k := if_pos h
theorem fa_fill_out {α : Type} {f g : Nat → α} {i k : Nat} (h : i ≤ k) : fa_fill f g i k = g k := if_neg (Nat.not_lt.mpr h)
theorem fa_fill_succ (f g : Nat → Int32) (i : Nat) : upd (fa_fill f g i) i (f i) = fa_fill f g (i + 1) := by
  funext k
  by_cases e : k = i
  · subst e
    rw [pk_us]
    exact (if_pos (Nat.lt_succ_self k)).symm
  · rw [pk_un e]
    by_cases h : k < i
    · rw [fa_fill_in h, fa_fill_in (Nat.lt_succ_of_lt h)]
    · rw [fa_fill_out (Nat.le_of_not_lt h), fa_fill_out (by omega)]
/-- a store that changes nothing -/
theorem fa_upd_same {f : Nat → Int32} {i : Nat} {x : Int32} (h : f i = x) : upd f i x = f := by
  funext k
  by_cases e : k = i
  · subst e
    rw [pk_us, h]
  · rw [pk_un e]
/-- a store under a condition, told as one -/
theorem fa_upd_if (c : Prop) [Decidable c] (f : Nat → Int32) (i : Nat) (x : Int32) : (if c then upd f i x else f) = upd f i (if c then x else f i) := by
  by_cases h : c
  · rw [if_pos h, if_pos h]
  · rw [if_neg h, if_neg h, fa_upd_same rfl]
/-- two stores at one place, at two -/
theorem fa_upd_twice (f : Nat → Int32) (i : Nat) (x y : Int32) : upd (upd f i x) i y = upd f i y := by
  funext k
  by_cases e : k = i
  · subst e
    rw [pk_us, pk_us]
  · rw [pk_un e, pk_un e, pk_un e]
theorem fa_upd_swap (f : Nat → Int32) {i j : Nat} (h : i ≠ j) (x y : Int32) : upd (upd f i x) j y = upd (upd f j y) i x := by
  funext k
  by_cases e : k = i
  · subst e
    rw [pk_un h, pk_us, pk_us]
  · by_cases e2 : k = j
    · subst e2
      rw [pk_us, pk_un e, pk_us]
    · rw [pk_un e2, pk_un e, pk_un e, pk_un e2]
/-! ===== the first index with a property; a count ===== -/
/-- the first k < n with p k, n if there is none -/
def fa_first (p : Nat → Bool) : Nat → Nat
  | 0 => 0
  | n + 1 => if fa_first p n < n then fa_first p n else if p n then n else n + 1
theorem fa_first_le (p : Nat → Bool) : ∀ n, fa_first p n ≤ n
  | 0 => Nat.le_refl 0
  | n + 1 => by
    have ih := fa_first_le p n
    unfold fa_first
    split
    · omega
    · split
      · omega
      · omega
theorem fa_first_no (p : Nat → Bool) : ∀ n k, k < fa_first p n → p k = false
  | 0, k, h => absurd h (Nat.not_lt_zero k)
  | n + 1, k, h => by
    have ih := fa_first_no p n
    have hl := fa_first_le p n
    unfold fa_first at h
    split at h
    · exact ih k h
    · rename_i h1
      split at h
      · exact ih k (by omega)
      · rename_i h2
        by_cases e : k = n
        · subst e
          exact Bool.eq_false_iff.mpr h2
        · exact ih k (by omega)
theorem fa_first_yes (p : Nat → Bool) : ∀ n, fa_first p n < n → p (fa_first p n) = true
  | 0, h => absurd h (Nat.not_lt_zero _)
  | n + 1, h => by
    have ih := fa_first_yes p n
    have hl := fa_first_le p n
    unfold fa_first at h ⊢
    split at h
    · rename_i h1
      rw [if_pos h1]
      exact ih h1
    · rename_i h1
      rw [if_neg h1]
      split at h
      · rename_i h2
        rw [if_pos h2]
        exact h2
      · omega
/-- how many k < n have p k -/
def fa_cnt (p : Nat → Bool) : Nat → Nat
  | 0 => 0
  | n + 1 => fa_cnt p n + if p n then 1 else 0
theorem fa_cnt_le (p : Nat → Bool) : ∀ n, fa_cnt p n ≤ n
  | 0 => Nat.le_refl 0
  | n + 1 => by
    have ih := fa_cnt_le p n
    unfold fa_cnt
    split
    · omega
    · omega
theorem fa_cnt_yes {p : Nat → Bool} {n : Nat} (h : p n = true) : fa_cnt p (n + 1) = fa_cnt p n + 1 := by rw [fa_cnt, if_pos h]
theorem fa_cnt_no {p : Nat → Bool} {n : Nat} (h : p n = false) : fa_cnt p (n + 1) = fa_cnt p n := by rw [fa_cnt, if_neg (by rw [h]; decide)]; rfl
theorem fa_cnt_cong {p q : Nat → Bool} : ∀ {n : Nat}, (∀ k, k < n → p k = q k) → fa_cnt p n = fa_cnt q n
  | 0, _ => rfl
  | n + 1, h => by rw [fa_cnt, fa_cnt, fa_cnt_cong (fun k hk => h k (Nat.lt_succ_of_lt hk)), h n (Nat.lt_succ_self n)]
/-! ===== an answer carried into a post; a branch on a boolean answer ===== -/
theorem fa_post {α : Type} {P : α → Prop} {x y : α} (h : x = y) (hp : P y) : P x := h ▸ hp
theorem fa_post2 {α β : Type} {P : α → β → Prop} {x y : α} {u v : β} (h : x = y) (h2 : u = v) (hp : P y v) : P x u := h ▸ h2 ▸ hp
theorem fa_bool {r : Int32} {b : Bool} (h : r = if b then 1 else 0) : (r = 0 ↔ b = false) ∧ (¬ r = 0 ↔ b = true) := by
  subst h
  cases b
  · exact ⟨⟨fun _ => rfl, fun _ => rfl⟩, ⟨fun h => absurd rfl h, fun h => absurd h (by decide)⟩⟩
  · exact ⟨⟨fun h => absurd h (by decide), fun h => absurd h (by decide)⟩, ⟨fun _ => rfl, fun _ => by decide⟩⟩
/-- a boolean's narrowing changes nothing -/
theorem fa_bool_and {r : Int32} (h : r = 0 ∨ r = 1) : r &&& 1 = r := by
  rcases h with rfl | rfl
  · decide
  · decide
theorem fa_bool_prop {c : Prop} [Decidable c] {r : Int32} (h : r = if c then 1 else 0) : (r = 0 ↔ ¬ c) ∧ (¬ r = 0 ↔ c) := by
  subst h
  by_cases hc : c
  · rw [if_pos hc]
    exact ⟨⟨fun h => absurd h (by decide), fun h => absurd hc h⟩, ⟨fun _ => hc, fun _ => by decide⟩⟩
  · rw [if_neg hc]
    exact ⟨⟨fun _ => hc, fun _ => rfl⟩, ⟨fun h => absurd rfl h, fun h => absurd h hc⟩⟩
end
section
/-! plain facts to paste, each family by itself; over the kit's nI, lN and upd -/
/-! ===== drawers: more things than places ===== -/
theorem fb_holes : ∀ (m n : Nat) (f : Nat → Nat), (∀ i, i < n → f i < m) → (∀ i j, i < j → j < n → f i ≠ f j) → n ≤ m := by
  intro m
  induction m with
  | zero =>
    intro n f h1 _
    rcases Nat.eq_zero_or_pos n with h | h
    · omega
    · exact absurd (h1 0 h) (Nat.not_lt_zero _)
  | succ m ih =>
    intro n f h1 h2
    by_cases hx : ∃ i, i < n ∧ f i = m
    · obtain ⟨a, ha, hfa⟩ := hx
      have hg := ih (n - 1) (fun i => if i < a then f i else f (i + 1)) (by
        intro i hi
        by_cases q : i < a
        · simp only [if_pos q]
          have b1 := h1 i (by omega)
          have b2 := h2 i a q ha
          omega
        · simp only [if_neg q]
          have b1 := h1 (i + 1) (by omega)
          have b2 := h2 a (i + 1) (by omega) (by omega)
          omega) (by
        intro i j hij hj
        by_cases q : i < a
        · by_cases r : j < a
          · simp only [if_pos q, if_pos r]
            exact h2 i j hij (by omega)
          · simp only [if_pos q, if_neg r]
            exact h2 i (j + 1) (by omega) (by omega)
        · have r : ¬ j < a := by omega
          simp only [if_neg q, if_neg r]
          exact h2 (i + 1) (j + 1) (by omega) (by omega))
      omega
    · have hg := ih n f (fun i hi => by
        have b1 := h1 i hi
        have b2 : f i ≠ m := fun e => hx ⟨i, hi, e⟩
        omega) h2
      omega
/-- two of them in one place -/
theorem fb_twice {m n : Nat} {f : Nat → Nat} (h : ∀ i, i < n → f i < m) (hm : m < n) : ∃ i j, i < j ∧ j < n ∧ f i = f j := by
  refine Classical.byContradiction fun hx => ?_
  have := fb_holes m n f h (fun i j hij hj e => hx ⟨i, j, hij, hj, e⟩)
  omega
/-- as many as places, none twice: each place is taken -/
theorem fb_onto {n : Nat} {f : Nat → Nat} (h : ∀ i, i < n → f i < n) (h2 : ∀ i j, i < j → j < n → f i ≠ f j) {y : Nat} (hy : y < n) : ∃ i, i < n ∧ f i = y := by
  refine Classical.byContradiction fun hx => ?_
  have hne : ∀ i, i < n → f i ≠ y := fun i hi e => hx ⟨i, hi, e⟩
  have := fb_holes (n - 1) n (fun i => if f i < y then f i else f i - 1) (by
    intro i hi
    have b1 := h i hi
    have b2 := hne i hi
    by_cases q : f i < y
    · simp only [if_pos q]; omega
    · simp only [if_neg q]; omega) (by
    intro i j hij hj
    have b1 := hne i (by omega)
    have b2 := hne j hj
    have b3 := h2 i j hij hj
    by_cases q : f i < y
    · by_cases r : f j < y
      · simp only [if_pos q, if_pos r]; exact b3
      · simp only [if_pos q, if_neg r]; omega
    · by_cases r : f j < y
      · simp only [if_neg q, if_pos r]; omega
      · simp only [if_neg q, if_neg r]; omega)
  omega
/-! ===== how many places have a property ===== -/
def fb_ct (p : Nat → Bool) : Nat → Nat
  | 0 => 0
  | n + 1 => fb_ct p n + (if p n then 1 else 0)
theorem fb_ct_succ (p : Nat → Bool) (n : Nat) : fb_ct p (n + 1) = fb_ct p n + (if p n then 1 else 0) := rfl
theorem fb_ct_le (p : Nat → Bool) : ∀ n, fb_ct p n ≤ n
  | 0 => Nat.le_refl _
  | n + 1 => by
    have h := fb_ct_le p n
    rw [fb_ct_succ]
    split <;> omega
theorem fb_ct_step (p : Nat → Bool) (m : Nat) : ∀ n, fb_ct p m ≤ fb_ct p (m + n)
  | 0 => Nat.le_refl _
  | n + 1 => by
    have h := fb_ct_step p m n
    show fb_ct p m ≤ fb_ct p (m + n + 1)
    rw [fb_ct_succ]
    omega
theorem fb_ct_mono (p : Nat → Bool) {m n : Nat} (h : m ≤ n) : fb_ct p m ≤ fb_ct p n := by
  have := fb_ct_step p m (n - m)
  rwa [Nat.add_sub_cancel' h] at this
theorem fb_ct_cong {p q : Nat → Bool} : ∀ {n : Nat}, (∀ k, k < n → p k = q k) → fb_ct p n = fb_ct q n
  | 0, _ => rfl
  | n + 1, h => by
    rw [fb_ct_succ, fb_ct_succ, fb_ct_cong (fun k hk => h k (by omega)), h n (by omega)]
/-- one place changed -/
theorem fb_ct_out (p : Nat → Bool) (b : Bool) {i n : Nat} (h : n ≤ i) : fb_ct (fun k => if k = i then b else p k) n = fb_ct p n :=
  fb_ct_cong fun k hk => if_neg (by omega)
theorem fb_ct_upd (p : Nat → Bool) (b : Bool) {i : Nat} : ∀ {n : Nat}, i < n → fb_ct (fun k => if k = i then b else p k) n + (if p i then 1 else 0) = fb_ct p n + (if b then 1 else 0)
  | 0, h => absurd h (Nat.not_lt_zero i)
  | n + 1, h => by
    rw [fb_ct_succ, fb_ct_succ]
    rcases Nat.lt_or_ge i n with q | q
    · have := fb_ct_upd p b q
      have e : (if n = i then b else p n) = p n := if_neg (by omega)
      rw [e]
      omega
    · have e : i = n := by omega
      subst e
      rw [fb_ct_out p b (Nat.le_refl _)]
      simp only [if_true]
      omega
theorem fb_ct_sub {p q : Nat → Bool} : ∀ {n : Nat}, (∀ k, k < n → p k = true → q k = true) → fb_ct p n ≤ fb_ct q n
  | 0, _ => Nat.le_refl _
  | n + 1, h => by
    have h1 := fb_ct_sub (n := n) (p := p) (q := q) (fun k hk => h k (by omega))
    have h2 := h n (by omega)
    rw [fb_ct_succ, fb_ct_succ]
    cases hp : p n <;> cases hq : q n <;> simp_all <;> omega
theorem fb_ct_or {p q : Nat → Bool} : ∀ {n : Nat}, (∀ k, k < n → ¬ (p k = true ∧ q k = true)) → fb_ct (fun k => p k || q k) n = fb_ct p n + fb_ct q n
  | 0, _ => rfl
  | n + 1, h => by
    have h1 := fb_ct_or (n := n) (p := p) (q := q) (fun k hk => h k (by omega))
    have h2 := h n (by omega)
    rw [fb_ct_succ, fb_ct_succ, fb_ct_succ, h1]
    cases hp : p n <;> cases hq : q n <;> simp_all <;> omega
theorem fb_ct_not (p : Nat → Bool) : ∀ n, fb_ct p n + fb_ct (fun k => !p k) n = n
  | 0 => rfl
  | n + 1 => by
    have h := fb_ct_not p n
    rw [fb_ct_succ, fb_ct_succ]
    cases p n <;> simp <;> omega
theorem fb_ct_split (p : Nat → Bool) (m : Nat) : ∀ n, fb_ct p (m + n) = fb_ct p m + fb_ct (fun k => p (m + k)) n
  | 0 => rfl
  | n + 1 => by
    have h := fb_ct_split p m n
    show fb_ct p (m + n + 1) = _
    rw [fb_ct_succ, fb_ct_succ, h, Nat.add_assoc]
theorem fb_ct_zero {p : Nat → Bool} : ∀ {n : Nat}, fb_ct p n = 0 ↔ ∀ k, k < n → p k = false
  | 0 => ⟨fun _ k hk => absurd hk (Nat.not_lt_zero k), fun _ => rfl⟩
  | n + 1 => by
    have h := fb_ct_zero (p := p) (n := n)
    rw [fb_ct_succ]
    constructor
    · intro e k hk
      have e1 : fb_ct p n = 0 := by omega
      rcases Nat.lt_or_ge k n with q | q
      · exact h.mp e1 k q
      · have ek : k = n := by omega
        subst ek
        cases hp : p k
        · rfl
        · simp [hp] at e
    · intro a
      rw [h.mpr (fun k hk => a k (by omega)), a n (by omega)]
      rfl
theorem fb_ct_pos {p : Nat → Bool} {n : Nat} : 0 < fb_ct p n ↔ ∃ k, k < n ∧ p k = true := by
  constructor
  · intro h
    refine Classical.byContradiction fun hx => ?_
    have := fb_ct_zero.mpr (fun k hk => by
      cases hp : p k
      · rfl
      · exact absurd ⟨k, hk, hp⟩ hx : ∀ k, k < n → p k = false)
    omega
  · rintro ⟨k, hk, hp⟩
    rcases Nat.eq_zero_or_pos (fb_ct p n) with e | e
    · have := fb_ct_zero.mp e k hk
      rw [this] at hp
      cases hp
    · exact e
theorem fb_ct_all {p : Nat → Bool} {n : Nat} : fb_ct p n = n ↔ ∀ k, k < n → p k = true := by
  have h := fb_ct_not p n
  constructor
  · intro e k hk
    have z : fb_ct (fun k => !p k) n = 0 := by omega
    have := fb_ct_zero.mp z k hk
    cases hp : p k
    · simp [hp] at this
    · rfl
  · intro a
    have z : fb_ct (fun k => !p k) n = 0 := fb_ct_zero.mpr (fun k hk => by simp [a k hk])
    omega
/-- the k-th place with the property -/
theorem fb_ct_kth {p : Nat → Bool} {k : Nat} : ∀ {n : Nat}, k < fb_ct p n → ∃ i, i < n ∧ p i = true ∧ fb_ct p i = k
  | 0, h => absurd h (Nat.not_lt_zero k)
  | n + 1, h => by
    rcases Nat.lt_or_ge k (fb_ct p n) with q | q
    · obtain ⟨i, h1, h2⟩ := fb_ct_kth q
      exact ⟨i, by omega, h2⟩
    · rw [fb_ct_succ] at h
      cases hp : p n
      · simp [hp] at h; omega
      · simp [hp] at h
        exact ⟨n, by omega, hp, by omega⟩
theorem fb_ct_kth_one {p : Nat → Bool} {i j : Nat} (hi : p i = true) (hj : p j = true) (e : fb_ct p i = fb_ct p j) : i = j := by
  have key : ∀ a b : Nat, a < b → p a = true → fb_ct p a < fb_ct p b := by
    intro a b hab ha
    have h := fb_ct_mono p (show a + 1 ≤ b from hab)
    rw [fb_ct_succ, ha] at h
    simp at h
    omega
  rcases Nat.lt_trichotomy i j with q | q | q
  · have := key i j q hi; omega
  · exact q
  · have := key j i q hj; omega
/-! ===== sums over a range: one place changed, parts, bounds ===== -/
def fb_sm (f : Nat → Nat) : Nat → Nat
  | 0 => 0
  | n + 1 => fb_sm f n + f n
theorem fb_sm_succ (f : Nat → Nat) (n : Nat) : fb_sm f (n + 1) = fb_sm f n + f n := rfl
theorem fb_sm_cong {f g : Nat → Nat} : ∀ {n : Nat}, (∀ k, k < n → f k = g k) → fb_sm f n = fb_sm g n
  | 0, _ => rfl
  | n + 1, h => by rw [fb_sm_succ, fb_sm_succ, fb_sm_cong (fun k hk => h k (by omega)), h n (by omega)]
theorem fb_sm_out (f : Nat → Nat) (v : Nat) {i n : Nat} (h : n ≤ i) : fb_sm (fun k => if k = i then v else f k) n = fb_sm f n :=
  fb_sm_cong fun k hk => if_neg (by omega)
theorem fb_sm_upd (f : Nat → Nat) (v : Nat) {i : Nat} : ∀ {n : Nat}, i < n → fb_sm (fun k => if k = i then v else f k) n + f i = fb_sm f n + v
  | 0, h => absurd h (Nat.not_lt_zero i)
  | n + 1, h => by
    rw [fb_sm_succ, fb_sm_succ]
    rcases Nat.lt_or_ge i n with q | q
    · have := fb_sm_upd f v q
      have e : (if n = i then v else f n) = f n := if_neg (by omega)
      rw [e]
      omega
    · have e : i = n := by omega
      subst e
      rw [fb_sm_out f v (Nat.le_refl _)]
      simp only [if_true]
      omega
theorem fb_sm_add (f g : Nat → Nat) : ∀ n, fb_sm (fun k => f k + g k) n = fb_sm f n + fb_sm g n
  | 0 => rfl
  | n + 1 => by
    have h := fb_sm_add f g n
    rw [fb_sm_succ, fb_sm_succ, fb_sm_succ, h]
    omega
theorem fb_sm_le {f g : Nat → Nat} : ∀ {n : Nat}, (∀ k, k < n → f k ≤ g k) → fb_sm f n ≤ fb_sm g n
  | 0, _ => Nat.le_refl _
  | n + 1, h => by
    have h1 := fb_sm_le (n := n) (f := f) (g := g) (fun k hk => h k (by omega))
    have h2 := h n (by omega)
    rw [fb_sm_succ, fb_sm_succ]
    omega
theorem fb_sm_const (c : Nat) : ∀ n, fb_sm (fun _ => c) n = n * c
  | 0 => by rw [Nat.zero_mul]; rfl
  | n + 1 => by rw [fb_sm_succ, fb_sm_const c n, Nat.succ_mul]
theorem fb_sm_bound {f : Nat → Nat} {c n : Nat} (h : ∀ k, k < n → f k ≤ c) : fb_sm f n ≤ n * c := by
  rw [← fb_sm_const c n]
  exact fb_sm_le h
theorem fb_sm_mono (f : Nat → Nat) (m : Nat) : ∀ n, fb_sm f m ≤ fb_sm f (m + n)
  | 0 => Nat.le_refl _
  | n + 1 => by
    have h := fb_sm_mono f m n
    show fb_sm f m ≤ fb_sm f (m + n + 1)
    rw [fb_sm_succ]
    omega
theorem fb_sm_part (f : Nat → Nat) {i n : Nat} (h : i < n) : fb_sm f i + f i ≤ fb_sm f n := by
  have := fb_sm_mono f (i + 1) (n - (i + 1))
  rw [fb_sm_succ, show i + 1 + (n - (i + 1)) = n by omega] at this
  exact this
theorem fb_sm_split (f : Nat → Nat) (m : Nat) : ∀ n, fb_sm f (m + n) = fb_sm f m + fb_sm (fun k => f (m + k)) n
  | 0 => rfl
  | n + 1 => by
    have h := fb_sm_split f m n
    show fb_sm f (m + n + 1) = _
    rw [fb_sm_succ, fb_sm_succ, h, Nat.add_assoc]
theorem fb_sm_zero {f : Nat → Nat} {n : Nat} (h : fb_sm f n = 0) : ∀ k, k < n → f k = 0 := fun k hk => by
  have := fb_sm_part f hk
  omega
/-- the same over whole numbers -/
def fb_si (f : Nat → Int) : Nat → Int
  | 0 => 0
  | n + 1 => fb_si f n + f n
theorem fb_si_succ (f : Nat → Int) (n : Nat) : fb_si f (n + 1) = fb_si f n + f n := rfl
theorem fb_si_cong {f g : Nat → Int} : ∀ {n : Nat}, (∀ k, k < n → f k = g k) → fb_si f n = fb_si g n
  | 0, _ => rfl
  | n + 1, h => by rw [fb_si_succ, fb_si_succ, fb_si_cong (fun k hk => h k (by omega)), h n (by omega)]
theorem fb_si_out (f : Nat → Int) (v : Int) {i n : Nat} (h : n ≤ i) : fb_si (fun k => if k = i then v else f k) n = fb_si f n :=
  fb_si_cong fun k hk => if_neg (by omega)
theorem fb_si_upd (f : Nat → Int) (v : Int) {i : Nat} : ∀ {n : Nat}, i < n → fb_si (fun k => if k = i then v else f k) n = fb_si f n - f i + v
  | 0, h => absurd h (Nat.not_lt_zero i)
  | n + 1, h => by
    rw [fb_si_succ, fb_si_succ]
    rcases Nat.lt_or_ge i n with q | q
    · have := fb_si_upd f v q
      have e : (if n = i then v else f n) = f n := if_neg (by omega)
      rw [e]
      omega
    · have e : i = n := by omega
      subst e
      rw [fb_si_out f v (Nat.le_refl _)]
      simp only [if_true]
      omega
theorem fb_si_add (f g : Nat → Int) : ∀ n, fb_si (fun k => f k + g k) n = fb_si f n + fb_si g n
  | 0 => rfl
  | n + 1 => by
    have h := fb_si_add f g n
    rw [fb_si_succ, fb_si_succ, fb_si_succ, h]
    omega
theorem fb_si_sub (f g : Nat → Int) : ∀ n, fb_si (fun k => f k - g k) n = fb_si f n - fb_si g n
  | 0 => rfl
  | n + 1 => by
    have h := fb_si_sub f g n
    rw [fb_si_succ, fb_si_succ, fb_si_succ, h]
    omega
theorem fb_si_mul (c : Int) (f : Nat → Int) : ∀ n, fb_si (fun k => c * f k) n = c * fb_si f n
  | 0 => (Int.mul_zero c).symm
  | n + 1 => by
    have h := fb_si_mul c f n
    rw [fb_si_succ, fb_si_succ, h, Int.mul_add]
theorem fb_si_split (f : Nat → Int) (m : Nat) : ∀ n, fb_si f (m + n) = fb_si f m + fb_si (fun k => f (m + k)) n
  | 0 => (Int.add_zero _).symm
  | n + 1 => by
    have h := fb_si_split f m n
    show fb_si f (m + n + 1) = _
    rw [fb_si_succ, fb_si_succ, h, Int.add_assoc]
theorem fb_si_nat (f : Nat → Nat) : ∀ n, fb_si (fun k => (f k : Int)) n = (fb_sm f n : Int)
  | 0 => rfl
  | n + 1 => by
    have h := fb_si_nat f n
    rw [fb_si_succ, fb_sm_succ, h]
    omega
theorem fb_si_bound {f : Nat → Int} {c : Int} (hc : 0 ≤ c) : ∀ {n : Nat}, (∀ k, k < n → -c ≤ f k ∧ f k ≤ c) → -(n * c) ≤ fb_si f n ∧ fb_si f n ≤ n * c
  | 0, _ => by simp [fb_si]
  | n + 1, h => by
    have h1 := fb_si_bound (n := n) (f := f) hc (fun k hk => h k (by omega))
    have h2 := h n (by omega)
    have e : ((n + 1 : Nat) : Int) * c = n * c + c := by rw [Int.natCast_add, Int.add_mul]; simp
    rw [fb_si_succ, e]
    omega
/-! ===== bits of a long that isn't negative ===== -/
theorem fb_andL (a b : Nat) : lN a &&& lN b = lN (a &&& b) := by
  apply Int64.toBitVec_inj.1
  show BitVec.ofNat 64 a &&& BitVec.ofNat 64 b = BitVec.ofNat 64 (a &&& b)
  apply BitVec.eq_of_getLsbD_eq
  intro i hi
  simp [hi]
theorem fb_orL (a b : Nat) : lN a ||| lN b = lN (a ||| b) := by
  apply Int64.toBitVec_inj.1
  show BitVec.ofNat 64 a ||| BitVec.ofNat 64 b = BitVec.ofNat 64 (a ||| b)
  apply BitVec.eq_of_getLsbD_eq
  intro i hi
  simp [hi]
theorem fb_xorL (a b : Nat) : lN a ^^^ lN b = lN (a ^^^ b) := by
  apply Int64.toBitVec_inj.1
  show BitVec.ofNat 64 a ^^^ BitVec.ofNat 64 b = BitVec.ofNat 64 (a ^^^ b)
  apply BitVec.eq_of_getLsbD_eq
  intro i hi
  simp [hi]
theorem fb_xorI (a b : Nat) : nI a ^^^ nI b = nI (a ^^^ b) := by
  apply Int32.toBitVec_inj.1
  show BitVec.ofNat 32 a ^^^ BitVec.ofNat 32 b = BitVec.ofNat 32 (a ^^^ b)
  apply BitVec.eq_of_getLsbD_eq
  intro i hi
  simp [hi]
theorem fb_maskL (n k : Nat) : lN n &&& lN (2 ^ k - 1) = lN (n % 2 ^ k) := by rw [fb_andL, Nat.and_two_pow_sub_one_eq_mod]
theorem fb_or_sumL {a k : Nat} (b : Nat) (h : a < 2 ^ k) : lN (2 ^ k * b) ||| lN a = lN (2 ^ k * b + a) := by rw [fb_orL, Nat.two_pow_add_eq_or_of_lt h]
theorem fb_lN_inj {a b : Nat} (ha : a < 2 ^ 63) (hb : b < 2 ^ 63) : lN a = lN b ↔ a = b := by
  constructor
  · intro h
    have h1 : (BitVec.ofNat 64 a).toNat = (BitVec.ofNat 64 b).toNat := congrArg (fun x : Int64 => x.toBitVec.toNat) h
    rw [BitVec.toNat_ofNat, BitVec.toNat_ofNat, Nat.mod_eq_of_lt (by omega), Nat.mod_eq_of_lt (by omega)] at h1
    exact h1
  · rintro rfl; rfl
theorem fb_bit_nat (n j : Nat) : n &&& 2 ^ j = 0 ↔ n.testBit j = false := by
  constructor
  · intro h
    have h1 : (n &&& 2 ^ j).testBit j = false := by rw [h]; simp
    rw [Nat.testBit_and] at h1
    simpa using h1
  · intro h
    apply Nat.eq_of_testBit_eq
    intro i
    rw [Nat.testBit_and]
    by_cases hi : j = i
    · subst hi; simp [h]
    · first | (simp [Nat.testBit_two_pow, hi]; done) | (simp [Nat.testBit_two_pow_of_ne hi]; done)
/-- one bit of a long -/
theorem fb_bitL {n j : Nat} (hj : j < 63) : lN n &&& lN (2 ^ j) = 0 ↔ n.testBit j = false := by
  have h2 : (2 : Nat) ^ j < 2 ^ 63 := Nat.pow_lt_pow_right (by decide) hj
  have hle : n &&& 2 ^ j ≤ 2 ^ j := Nat.and_le_right
  rw [fb_andL, ← fb_bit_nat, show (0 : Int64) = lN 0 from rfl]
  exact fb_lN_inj (by omega) (by decide)
/-- a bit set, a bit taken off -/
theorem fb_bit_set (n j i : Nat) : (n ||| 2 ^ j).testBit i = (n.testBit i || decide (i = j)) := by
  rw [Nat.testBit_or]
  by_cases h : j = i
  · subst h; simp
  · have h2 : ¬ i = j := fun e => h e.symm
    first | (simp [Nat.testBit_two_pow, h, h2]; done) | (simp [Nat.testBit_two_pow_of_ne h, h2]; done)
theorem fb_bit_flip (n j i : Nat) : (n ^^^ 2 ^ j).testBit i = (n.testBit i ^^ decide (i = j)) := by
  rw [Nat.testBit_xor]
  by_cases h : j = i
  · subst h; simp
  · have h2 : ¬ i = j := fun e => h e.symm
    first | (simp [Nat.testBit_two_pow, h, h2]; done) | (simp [Nat.testBit_two_pow_of_ne h, h2]; done)
/-! ===== a stretch of an array written over by a function ===== -/
def fb_put {α : Type} (f g : Nat → α) (a n : Nat) : Nat → α := fun k => if a ≤ k ∧ k < a + n then g (k - a) else f k
theorem fb_put_0 {α : Type} (f g : Nat → α) (a : Nat) : fb_put f g a 0 = f := funext fun k => if_neg (by omega)
theorem fb_put_in {α : Type} {f g : Nat → α} {a n k : Nat} (h1 : a ≤ k) (h2 : k < a + n) : fb_put f g a n k = g (k - a) := if_pos ⟨h1, h2⟩
theorem fb_put_out {α : Type} {f g : Nat → α} {a n k : Nat} (h : k < a ∨ a + n ≤ k) : fb_put f g a n k = f k := if_neg (by omega)
theorem fb_put_succ (f g : Nat → Int32) (a n : Nat) : upd (fb_put f g a n) (a + n) (g n) = fb_put f g a (n + 1) := by
  funext k
  by_cases h : k = a + n
  · subst h
    simp [upd, fb_put]
  · by_cases h1 : a ≤ k ∧ k < a + n
    · have h2 : a ≤ k ∧ k < a + (n + 1) := by omega
      simp only [upd, fb_put, if_neg h, if_pos h1, if_pos h2]
    · have h2 : ¬ (a ≤ k ∧ k < a + (n + 1)) := by omega
      simp only [upd, fb_put, if_neg h, if_neg h1, if_neg h2]
/-- .. from the far end down -/
theorem fb_put_down (f g : Nat → Int32) {a n m : Nat} (h : m < n) : upd (fb_put f (fun k => g (k + (m + 1))) (a + (m + 1)) (n - (m + 1))) (a + m) (g m) = fb_put f (fun k => g (k + m)) (a + m) (n - m) := by
  funext k
  by_cases h0 : k = a + m
  · subst h0
    simp only [upd, if_true]
    rw [fb_put_in (by omega) (by omega)]
    exact congrArg g (by omega)
  · simp only [upd, if_neg h0]
    by_cases h1 : a + (m + 1) ≤ k ∧ k < a + (m + 1) + (n - (m + 1))
    · rw [fb_put_in h1.1 h1.2, fb_put_in (by omega) (by omega)]
      exact congrArg g (by omega)
    · rw [fb_put_out (by omega), fb_put_out (by omega)]
theorem fb_put_cong {α : Type} {f f2 g g2 : Nat → α} {a n : Nat} (hf : ∀ k, (k < a ∨ a + n ≤ k) → f k = f2 k) (hg : ∀ k, k < n → g k = g2 k) : fb_put f g a n = fb_put f2 g2 a n := by
  funext k
  by_cases h : a ≤ k ∧ k < a + n
  · rw [fb_put_in h.1 h.2, fb_put_in h.1 h.2, hg _ (by omega)]
  · rw [fb_put_out (by omega), fb_put_out (by omega), hf _ (by omega)]
/-! ===== the least, the first, the best so far; that there is one alone ===== -/
theorem fb_first {p : Nat → Prop} [DecidablePred p] : ∀ {n : Nat}, (∃ i, i < n ∧ p i) → ∃ i, i < n ∧ p i ∧ ∀ j, j < i → ¬ p j
  | 0, h => by obtain ⟨i, hi, -⟩ := h; exact absurd hi (Nat.not_lt_zero i)
  | n + 1, h => by
    by_cases q : ∃ i, i < n ∧ p i
    · obtain ⟨i, h1, h2⟩ := fb_first q
      exact ⟨i, by omega, h2⟩
    · obtain ⟨i, h1, h2⟩ := h
      have e : i = n := by
        rcases Nat.lt_or_ge i n with r | r
        · exact absurd ⟨i, r, h2⟩ q
        · omega
      subst e
      exact ⟨i, by omega, h2, fun j hj hp => q ⟨j, hj, hp⟩⟩
theorem fb_first_one {p : Nat → Prop} {i j : Nat} (hi : p i) (hi2 : ∀ k, k < i → ¬ p k) (hj : p j) (hj2 : ∀ k, k < j → ¬ p k) : i = j := by
  rcases Nat.lt_trichotomy i j with q | q | q
  · exact absurd hi (hj2 i q)
  · exact q
  · exact absurd hj (hi2 j q)
theorem fb_last {p : Nat → Prop} [DecidablePred p] : ∀ {n : Nat}, (∃ i, i < n ∧ p i) → ∃ i, i < n ∧ p i ∧ ∀ j, i < j → j < n → ¬ p j
  | 0, h => by obtain ⟨i, hi, -⟩ := h; exact absurd hi (Nat.not_lt_zero i)
  | n + 1, h => by
    by_cases q : p n
    · exact ⟨n, by omega, q, fun j h1 h2 => by omega⟩
    · obtain ⟨i, h1, h2⟩ := h
      have hi : i < n := by
        rcases Nat.lt_or_ge i n with r | r
        · exact r
        · have e : i = n := by omega
          subst e
          exact absurd h2 q
      obtain ⟨i2, a1, a2, a3⟩ := fb_last (n := n) ⟨i, hi, h2⟩
      refine ⟨i2, by omega, a2, fun j b1 b2 => ?_⟩
      rcases Nat.lt_or_ge j n with r | r
      · exact a3 j b1 r
      · have e : j = n := by omega
        subst e
        exact q
/-- the first greatest -/
theorem fb_best (f : Nat → Int) : ∀ {n : Nat}, 0 < n → ∃ i, i < n ∧ (∀ j, j < n → f j ≤ f i) ∧ ∀ j, j < i → f j < f i
  | 0, h => absurd h (Nat.lt_irrefl 0)
  | 1, _ => ⟨0, by omega, fun j hj => by have e : j = 0 := by omega
                                         subst e; exact Int.le_refl _, fun j hj => absurd hj (Nat.not_lt_zero j)⟩
  | n + 2, _ => by
    obtain ⟨i, h1, h2, h3⟩ := fb_best f (n := n + 1) (by omega)
    by_cases q : f i < f (n + 1)
    · refine ⟨n + 1, by omega, fun j hj => ?_, fun j hj => ?_⟩
      · rcases Nat.lt_or_ge j (n + 1) with r | r
        · have := h2 j r; omega
        · have e : j = n + 1 := by omega
          subst e; exact Int.le_refl _
      · have := h2 j hj; omega
    · refine ⟨i, by omega, fun j hj => ?_, h3⟩
      rcases Nat.lt_or_ge j (n + 1) with r | r
      · exact h2 j r
      · have e : j = n + 1 := by omega
        subst e; omega
theorem fb_best_one {f : Nat → Int} {n i j : Nat} (hi : i < n) (hi2 : ∀ k, k < n → f k ≤ f i) (hi3 : ∀ k, k < i → f k < f i) (hj : j < n) (hj2 : ∀ k, k < n → f k ≤ f j) (hj3 : ∀ k, k < j → f k < f j) : i = j := by
  rcases Nat.lt_trichotomy i j with q | q | q
  · have a := hj3 i q
    have b := hi2 j hj
    omega
  · exact q
  · have a := hi3 j q
    have b := hj2 i hi
    omega
/-- the first least -/
theorem fb_low (f : Nat → Int) {n : Nat} (h : 0 < n) : ∃ i, i < n ∧ (∀ j, j < n → f i ≤ f j) ∧ ∀ j, j < i → f i < f j := by
  obtain ⟨i, h1, h2, h3⟩ := fb_best (fun k => -f k) h
  exact ⟨i, h1, fun j hj => by have := h2 j hj; omega, fun j hj => by have := h3 j hj; omega⟩
/-! ===== signed ints as whole numbers, within bounds ===== -/
theorem fb_rng (x : Int32) : -2147483648 ≤ x.toInt ∧ x.toInt < 2147483648 := by
  have h1 := Int32.le_toInt x
  have h2 := Int32.toInt_lt x
  omega
theorem fb_bmod {z : Int} (h1 : -2147483648 ≤ z) (h2 : z < 2147483648) : z.bmod (2 ^ 32) = z := by
  rw [Int.bmod_eq_of_le (by omega) (by omega)]
theorem fb_addI {x y : Int32} (h1 : -2147483648 ≤ x.toInt + y.toInt) (h2 : x.toInt + y.toInt < 2147483648) : (x + y).toInt = x.toInt + y.toInt := by
  rw [Int32.toInt_add, fb_bmod h1 h2]
theorem fb_subI {x y : Int32} (h1 : -2147483648 ≤ x.toInt - y.toInt) (h2 : x.toInt - y.toInt < 2147483648) : (x - y).toInt = x.toInt - y.toInt := by
  rw [Int32.toInt_sub, fb_bmod h1 h2]
theorem fb_mulI {x y : Int32} (h1 : -2147483648 ≤ x.toInt * y.toInt) (h2 : x.toInt * y.toInt < 2147483648) : (x * y).toInt = x.toInt * y.toInt := by
  rw [Int32.toInt_mul, fb_bmod h1 h2]
theorem fb_negI {x : Int32} (h : x.toInt ≠ -2147483648) : (-x).toInt = -x.toInt := by
  have := fb_rng x
  rw [Int32.toInt_neg, fb_bmod (by omega) (by omega)]
theorem fb_ofI {z : Int} (h1 : -2147483648 ≤ z) (h2 : z < 2147483648) : (Int32.ofInt z).toInt = z := by
  rw [Int32.toInt_ofInt, fb_bmod h1 h2]
theorem fb_asI (x : Int32) : Int32.ofInt x.toInt = x := Int32.ofInt_toInt x
theorem fb_rngL (x : Int64) : -9223372036854775808 ≤ x.toInt ∧ x.toInt < 9223372036854775808 := by
  have h1 := Int64.le_toInt x
  have h2 := Int64.toInt_lt x
  omega
theorem fb_bmodL {z : Int} (h1 : -9223372036854775808 ≤ z) (h2 : z < 9223372036854775808) : z.bmod (2 ^ 64) = z := by
  rw [Int.bmod_eq_of_le (by omega) (by omega)]
theorem fb_addL {x y : Int64} (h1 : -9223372036854775808 ≤ x.toInt + y.toInt) (h2 : x.toInt + y.toInt < 9223372036854775808) : (x + y).toInt = x.toInt + y.toInt := by
  rw [Int64.toInt_add, fb_bmodL h1 h2]
theorem fb_subL {x y : Int64} (h1 : -9223372036854775808 ≤ x.toInt - y.toInt) (h2 : x.toInt - y.toInt < 9223372036854775808) : (x - y).toInt = x.toInt - y.toInt := by
  rw [Int64.toInt_sub, fb_bmodL h1 h2]
theorem fb_mulL {x y : Int64} (h1 : -9223372036854775808 ≤ x.toInt * y.toInt) (h2 : x.toInt * y.toInt < 9223372036854775808) : (x * y).toInt = x.toInt * y.toInt := by
  rw [Int64.toInt_mul, fb_bmodL h1 h2]
/-! ===== cuts of what is narrow already ===== -/
theorem fb_byte {x : Int32} (h1 : -128 ≤ x.toInt) (h2 : x.toInt < 128) : x.toInt8.toInt32 = x := by
  apply Int32.toInt_inj.1
  rw [Int8.toInt_toInt32, Int32.toInt_toInt8, Int.bmod_eq_of_le (by omega) (by omega)]
theorem fb_short {x : Int32} (h1 : -32768 ≤ x.toInt) (h2 : x.toInt < 32768) : x.toInt16.toInt32 = x := by
  apply Int32.toInt_inj.1
  rw [Int16.toInt_toInt32, Int32.toInt_toInt16, Int.bmod_eq_of_le (by omega) (by omega)]
theorem fb_byte_rng (x : Int32) : -128 ≤ x.toInt8.toInt32.toInt ∧ x.toInt8.toInt32.toInt < 128 := by
  rw [Int8.toInt_toInt32]
  have h1 := Int8.le_toInt x.toInt8
  have h2 := Int8.toInt_lt x.toInt8
  omega
theorem fb_short_rng (x : Int32) : -32768 ≤ x.toInt16.toInt32.toInt ∧ x.toInt16.toInt32.toInt < 32768 := by
  rw [Int16.toInt_toInt32]
  have h1 := Int16.le_toInt x.toInt16
  have h2 := Int16.toInt_lt x.toInt16
  omega
theorem fb_byte_twice (x : Int32) : x.toInt8.toInt32.toInt8.toInt32 = x.toInt8.toInt32 := fb_byte (fb_byte_rng x).1 (fb_byte_rng x).2
theorem fb_short_twice (x : Int32) : x.toInt16.toInt32.toInt16.toInt32 = x.toInt16.toInt32 := fb_short (fb_short_rng x).1 (fb_short_rng x).2
theorem fb_char {n : Nat} (h : n < 65536) : (nI n).toUInt32.toUInt16.toUInt32.toInt32 = nI n := by
  apply Int32.toBitVec_inj.1
  apply BitVec.eq_of_toNat_eq
  have e1 : (nI n).toBitVec.toNat = n := by
    show (BitVec.ofNat 32 n).toNat = n
    rw [BitVec.toNat_ofNat, Nat.mod_eq_of_lt (by omega)]
  have e2 : ((nI n).toUInt32.toUInt16.toUInt32).toNat = n := by
    rw [UInt16.toNat_toUInt32, UInt32.toNat_toUInt16]
    show (nI n).toBitVec.toNat % 2 ^ 16 = n
    rw [e1, Nat.mod_eq_of_lt (by omega)]
  rw [e1]
  exact e2
end
section
/-! rows on bits, shifts and unsigned numbers, to paste: each family out of a closed proof of our own, whole with what it rests on; each by itself clean at Lean in its own claim (generation 39, form 5). Take a family whole -/
/-! ===== Int32 by its bits: bt x i ===== -/
def bt (x : Int32) (i : Nat) : Bool := x.toBitVec.getLsbD i
theorem b_ext {x y : Int32} (h : ∀ i, i < 32 → bt x i = bt y i) : x = y := Int32.toBitVec_inj.mp (BitVec.eq_of_getLsbD_eq (fun i hi => h i hi))
theorem b_or (x y : Int32) (i : Nat) : bt (x ||| y) i = (bt x i || bt y i) := by unfold bt; rw [Int32.toBitVec_or, BitVec.getLsbD_or]
theorem b_and (x y : Int32) (i : Nat) : bt (x &&& y) i = (bt x i && bt y i) := by unfold bt; rw [Int32.toBitVec_and, BitVec.getLsbD_and]
theorem b_xor (x y : Int32) (i : Nat) : bt (x ^^^ y) i = (bt x i ^^ bt y i) := by unfold bt; rw [Int32.toBitVec_xor, BitVec.getLsbD_xor]
theorem b_big {x : Int32} {i : Nat} (h : 32 ≤ i) : bt x i = false := BitVec.getLsbD_of_ge _ _ h
theorem b_255 (i : Nat) : bt 255 i = decide (i < 8) := by
  rcases Nat.lt_or_ge i 32 with h | h
  · exact (by decide +kernel : ∀ i, i < 32 → bt 255 i = decide (i < 8)) i h
  · rw [b_big h, decide_eq_false (by omega)]
theorem b_65535 (i : Nat) : bt 65535 i = decide (i < 16) := by
  rcases Nat.lt_or_ge i 32 with h | h
  · exact (by decide +kernel : ∀ i, i < 32 → bt 65535 i = decide (i < 16)) i h
  · rw [b_big h, decide_eq_false (by omega)]
theorem b_m1 : ∀ i, i < 32 → bt (-1) i = true := by decide +kernel
theorem b_0 (i : Nat) : bt 0 i = false := BitVec.getLsbD_zero
theorem s_l : ∀ n, n < 32 → ((nI n &&& 31).toBitVec.smod 32).toNat = n := by decide +kernel
theorem s_u : ∀ n, n < 32 → (((nI n).toUInt32 &&& Int32.toUInt32 31).toBitVec % 32).toNat = n := by decide +kernel
theorem b_shl (n : Nat) (hn : n < 32) (x : Int32) {i : Nat} (hi : i < 32) : bt (x <<< (nI n &&& 31)) i = (decide (n ≤ i) && bt x (i - n)) := by
  unfold bt
  rw [Int32.toBitVec_shiftLeft]
  show (x.toBitVec <<< ((nI n &&& 31).toBitVec.smod 32).toNat).getLsbD i = _
  rw [s_l n hn, BitVec.getLsbD_shiftLeft]
  rcases Nat.lt_or_ge i n with h | h
  · simp [h, Nat.not_le.mpr h]
  · simp [hi, h, Nat.not_lt.mpr h]
theorem b_ushr (n : Nat) (hn : n < 32) (x : Int32) (i : Nat) : bt ((x.toUInt32 >>> ((nI n).toUInt32 &&& Int32.toUInt32 31)).toInt32) i = bt x (n + i) := by
  show (x.toUInt32 >>> ((nI n).toUInt32 &&& Int32.toUInt32 31)).toBitVec.getLsbD i = x.toUInt32.toBitVec.getLsbD (n + i)
  rw [UInt32.toBitVec_shiftRight]
  show (x.toUInt32.toBitVec >>> (((nI n).toUInt32 &&& Int32.toUInt32 31).toBitVec % 32).toNat).getLsbD i = _
  rw [s_u n hn, BitVec.getLsbD_ushiftRight]
theorem b_sshr (n : Nat) (hn : n < 32) (x : Int32) {i : Nat} (hi : i < 32) : bt (x >>> (nI n &&& 31)) i = if n + i < 32 then bt x (n + i) else bt x 31 := by
  unfold bt
  rw [Int32.toBitVec_shiftRight]
  show (x.toBitVec.sshiftRight ((nI n &&& 31).toBitVec.smod 32).toNat).getLsbD i = _
  rw [s_l n hn, BitVec.getLsbD_sshiftRight, BitVec.msb_eq_getLsbD_last]
  simp [hi]
theorem b_shl8 (x : Int32) {i : Nat} (hi : i < 32) : bt (x <<< ((8 : Int32) &&& 31)) i = (decide (8 ≤ i) && bt x (i - 8)) := b_shl 8 (by omega) x hi
theorem b_shl16 (x : Int32) {i : Nat} (hi : i < 32) : bt (x <<< ((16 : Int32) &&& 31)) i = (decide (16 ≤ i) && bt x (i - 16)) := b_shl 16 (by omega) x hi
theorem b_shl24 (x : Int32) {i : Nat} (hi : i < 32) : bt (x <<< ((24 : Int32) &&& 31)) i = (decide (24 ≤ i) && bt x (i - 24)) := b_shl 24 (by omega) x hi
theorem b_sshr8 (x : Int32) {i : Nat} (hi : i < 32) : bt (x >>> ((8 : Int32) &&& 31)) i = if 8 + i < 32 then bt x (8 + i) else bt x 31 := b_sshr 8 (by omega) x hi
/-! ===== nI under and, xor, >>>, one bit, 65535 ===== -/
theorem nx_and (a b : Nat) : nI a &&& nI b = nI (a &&& b) := by
  apply Int32.toBitVec_inj.1
  show BitVec.ofNat 32 a &&& BitVec.ofNat 32 b = BitVec.ofNat 32 (a &&& b)
  apply BitVec.eq_of_getLsbD_eq
  intro i hi
  simp [hi]
theorem nx_xor (a b : Nat) : nI a ^^^ nI b = nI (a ^^^ b) := by
  apply Int32.toBitVec_inj.1
  show BitVec.ofNat 32 a ^^^ BitVec.ofNat 32 b = BitVec.ofNat 32 (a ^^^ b)
  apply BitVec.eq_of_getLsbD_eq
  intro i hi
  simp [hi]
theorem nx_cnt : ∀ j : Fin 32, (UInt32.ofNat j.val &&& Int32.toUInt32 31).toNat % 32 = j.val := by decide +kernel
theorem nx_ush {k j : Nat} (hk : k < 65536) (hj : j < 32) : ((nI k).toUInt32 >>> ((nI j).toUInt32 &&& Int32.toUInt32 31)).toInt32 = nI (k >>> j) := by
  have hs : k >>> j ≤ k := by
    rw [Nat.shiftRight_eq_div_pow]
    exact Nat.div_le_self _ _
  have e2 : UInt32.ofNat k >>> (UInt32.ofNat j &&& Int32.toUInt32 31) = UInt32.ofNat (k >>> j) := by
    apply UInt32.toNat_inj.1
    have h1 : (UInt32.ofNat k).toNat = k := Nat.mod_eq_of_lt (by omega)
    have h2 : (UInt32.ofNat (k >>> j)).toNat = k >>> j := Nat.mod_eq_of_lt (by omega)
    rw [UInt32.toNat_shiftRight, nx_cnt ⟨j, hj⟩, h1, h2]
  show (UInt32.ofNat k >>> (UInt32.ofNat j &&& Int32.toUInt32 31)).toInt32 = _
  rw [e2]
  rfl
theorem nx_bit {k j : Nat} (hk : k < 65536) (hj : j < 16) : (((nI k).toUInt32 >>> ((nI j).toUInt32 &&& Int32.toUInt32 31)).toInt32 &&& 1) = 0 ↔ k.testBit j = false := by
  rw [nx_ush hk (by omega)]
  show nI (k >>> j) &&& nI 1 = 0 ↔ _
  rw [nx_and, Nat.and_one_is_mod, ← nI_0, nI_eq (by omega) (by omega), Nat.testBit_eq_decide_div_mod_eq, Nat.shiftRight_eq_div_pow, decide_eq_false_iff_not]
  generalize k / 2 ^ j = z
  omega
theorem nx_mod (k : Nat) : nI k &&& 65535 = nI (k % 65536) := by
  show nI k &&& nI 65535 = _
  rw [nx_and, show (65535 : Nat) = 2 ^ 16 - 1 from rfl, Nat.and_two_pow_sub_one_eq_mod]
theorem nx_m16 {k : Nat} (h : k < 65536) : nI k &&& 65535 = nI k := by rw [nx_mod, Nat.mod_eq_of_lt h]
theorem nx_mask (x : Int32) : ∃ k, k < 65536 ∧ x &&& 65535 = nI k := by
  have e : x = nI x.toBitVec.toNat := by
    apply Int32.toBitVec_inj.1
    show x.toBitVec = BitVec.ofNat 32 x.toBitVec.toNat
    simp
  refine ⟨x.toBitVec.toNat % 65536, Nat.mod_lt _ (by omega), ?_⟩
  rw [← nx_mod, ← e]
/-! ===== Int32 as a set of bits: test, set ===== -/
def nf_M (m : Int32) : Nat := 4294967296 - m.toBitVec.toNat
theorem nf_sh : ∀ l, l < 32 → ((1 : Int32) <<< (nI l &&& 31)).toBitVec = BitVec.twoPow 32 l := by decide +kernel
theorem nf_sl : ∀ l, l < 32 → (((nI l).toUInt32 &&& Int32.toUInt32 31).toBitVec % 32).toNat = l := by decide +kernel
theorem nf_tp : ∀ l, l < 32 → BitVec.twoPow 32 l ≠ 0#32 := by decide +kernel
theorem nf_bit (m : Int32) (l : Nat) (hl : l < 32) : ((m.toUInt32 >>> ((nI l).toUInt32 &&& Int32.toUInt32 31)).toInt32 &&& 1) = 0 ↔ (m &&& ((1 : Int32) <<< (nI l &&& 31))) = 0 := by
  have e : ((m.toUInt32 >>> ((nI l).toUInt32 &&& Int32.toUInt32 31)).toInt32).toBitVec = m.toBitVec >>> l := by
    show m.toBitVec >>> (((nI l).toUInt32 &&& Int32.toUInt32 31).toBitVec % 32) = m.toBitVec >>> l
    rw [BitVec.ushiftRight_eq', nf_sl l hl]
  rw [← Int32.toBitVec_inj, ← Int32.toBitVec_inj, Int32.toBitVec_and, Int32.toBitVec_and, nf_sh l hl, e, BitVec.and_twoPow]
  show (m.toBitVec >>> l &&& 1#32) = 0#32 ↔ _ = 0#32
  rw [BitVec.and_one_eq_setWidth_ofBool_getLsbD, BitVec.getLsbD_ushiftRight, Nat.add_zero]
  cases hb : m.toBitVec.getLsbD l
  · exact ⟨fun _ => by simp, fun _ => by decide⟩
  · exact ⟨fun z => absurd z (by decide), fun z => absurd ((if_pos rfl).symm.trans z) (nf_tp l hl)⟩
theorem nf_gr (m k : Int32) (h : m &&& k = 0) (hk : k ≠ 0) : nf_M (m ||| k) < nf_M m := by
  have hm := m.toBitVec.isLt
  have hm' := (m ||| k).toBitVec.isLt
  have h1 : m.toBitVec.toNat ≤ (m ||| k).toBitVec.toNat := by
    rw [Int32.toBitVec_or, BitVec.toNat_or]
    exact Nat.left_le_or
  have h2 : m.toBitVec.toNat ≠ (m ||| k).toBitVec.toNat := by
    intro e
    have e2 : m = m ||| k := Int32.toBitVec_inj.mp (BitVec.eq_of_toNat_eq e)
    apply hk
    apply Int32.toBitVec_inj.mp
    show k.toBitVec = 0#32
    apply BitVec.eq_of_getLsbD_eq
    intro i hi
    have a : m.toBitVec.getLsbD i = (m.toBitVec.getLsbD i || k.toBitVec.getLsbD i) := by rw [← BitVec.getLsbD_or, ← Int32.toBitVec_or, ← e2]
    have b : (m.toBitVec.getLsbD i && k.toBitVec.getLsbD i) = false := by
      rw [← BitVec.getLsbD_and, ← Int32.toBitVec_and, h]
      exact BitVec.getLsbD_zero
    rw [BitVec.getLsbD_zero]
    revert a b
    cases m.toBitVec.getLsbD i <;> cases k.toBitVec.getLsbD i <;> simp
  unfold nf_M
  omega
/-! ===== a byte read unsigned ===== -/
theorem bp_b (x : Int32) : x.toInt8.toInt32 &&& 255 = x &&& 255 := by
  apply Int32.toBitVec_inj.mp
  rw [Int32.toBitVec_and, Int32.toBitVec_and, Int8.toBitVec_toInt32, Int32.toBitVec_toInt8]
  apply BitVec.eq_of_getLsbD_eq
  intro i hi
  rw [BitVec.getLsbD_and, BitVec.getLsbD_and]
  have hm : ∀ i < 32, 8 ≤ i → (255 : Int32).toBitVec.getLsbD i = false := by decide
  rcases Nat.lt_or_ge i 8 with z | z
  · rw [BitVec.getLsbD_signExtend, BitVec.getLsbD_signExtend, if_pos z, if_pos hi]
    simp only [z, hi, decide_true, Bool.true_and]
  · rw [hm i hi z]; simp
/-! ===== the char cast and 65535 ===== -/
theorem em_w (v : Int32) : ∃ w : Nat, w < 65536 ∧ (v.toUInt32 % 65536).toInt32 = nI w ∧ v &&& 65535 = nI w := by
  have hr := lw_u16_r v
  have h0 : (0 : Int32).toInt = 0 := by decide
  obtain ⟨w, h1, h2⟩ := nI_of (x := lw_u16 v) (by rw [Int32.lt_iff_toInt_lt]; omega)
  have h3 : (v.toUInt32 % 65536).toInt32 = nI w := h2
  rw [h2, nI_toInt h1] at hr
  exact ⟨w, by omega, h3, by rw [← lg_i2c_mask, ← lg_i2c_nf, h3]⟩
/-! ===== Int64 as a set of bits: test, set, clear ===== -/
theorem ts_nf {x : Bool} (h : ¬ x = false) : x = true := by cases x <;> first | rfl | exact absurd rfl h
theorem ts_nt {x : Bool} (h : ¬ x = true) : x = false := by cases x <;> first | rfl | exact absurd rfl h
theorem ts_bit {w : Int64} {s : UInt64} {j : Nat} (hj : j < 64) (hs : s.toNat = j) : ((w.toUInt64 >>> s).toInt64 &&& 1) = 0 ↔ w.toBitVec.getLsbD j = false := by
  have e : (w.toUInt64 >>> s).toInt64.toBitVec = w.toBitVec >>> j := by
    apply BitVec.eq_of_toNat_eq
    show (w.toUInt64 >>> s).toNat = _
    rw [UInt64.toNat_shiftRight, hs, Nat.mod_eq_of_lt hj, BitVec.toNat_ushiftRight]
    rfl
  rw [← Int64.toBitVec_inj, Int64.toBitVec_and, e]
  show w.toBitVec >>> j &&& 1#64 = 0#64 ↔ _
  constructor
  · intro h
    have t := congrArg (fun x => x.getLsbD 0) h
    simpa using t
  · intro h
    apply BitVec.eq_of_getLsbD_eq
    intro i hi
    cases i with
    | zero => simp [h]
    | succ i => simp
theorem ts_or {w m : Int64} {j : Nat} (hj : j < 64) (hm : m.toBitVec = BitVec.twoPow 64 j) : (w ||| m) = w ↔ w.toBitVec.getLsbD j = true := by
  rw [← Int64.toBitVec_inj, Int64.toBitVec_or, hm]
  constructor
  · intro h
    have t := congrArg (fun x => x.getLsbD j) h
    simp only [BitVec.getLsbD_or, BitVec.getLsbD_twoPow] at t
    simpa [hj] using t.symm
  · intro h
    apply BitVec.eq_of_getLsbD_eq
    intro i hi
    rw [BitVec.getLsbD_or, BitVec.getLsbD_twoPow]
    by_cases e : j = i
    · subst e; rw [h, Bool.true_or]
    · simp [e]
theorem ts_and {w m : Int64} {j : Nat} (hj : j < 64) (hm : m.toBitVec = BitVec.twoPow 64 j) : (w &&& (m ^^^ (-1))) = w ↔ w.toBitVec.getLsbD j = false := by
  have ha : (-1 : Int64).toBitVec = BitVec.allOnes 64 := by decide
  rw [← Int64.toBitVec_inj, Int64.toBitVec_and, Int64.toBitVec_xor, hm, ha]
  constructor
  · intro h
    have t := congrArg (fun x => x.getLsbD j) h
    simp only [BitVec.getLsbD_and, BitVec.getLsbD_xor, BitVec.getLsbD_twoPow, BitVec.getLsbD_allOnes] at t
    simpa [hj] using t.symm
  · intro h
    apply BitVec.eq_of_getLsbD_eq
    intro i hi
    rw [BitVec.getLsbD_and, BitVec.getLsbD_xor, BitVec.getLsbD_twoPow, BitVec.getLsbD_allOnes]
    by_cases e : j = i
    · subst e; rw [h, Bool.false_and]
    · simp [e, hi]
/-! ===== lN n to 2^64: shifts, and, or, masks, one bit ===== -/
theorem wb_tb (n : Nat) : (lN n).toBitVec = BitVec.ofNat 64 n := rfl
theorem wb_inj {a b : Int64} (h : a.toBitVec = b.toBitVec) : a = b := Int64.toBitVec_inj.mp h
theorem wb_tn {n : Nat} (h : n < 2 ^ 64) : (lN n).toBitVec.toNat = n := by rw [wb_tb, BitVec.toNat_ofNat, Nat.mod_eq_of_lt h]
theorem wb_of (x : Int64) : ∃ n, n < 2 ^ 64 ∧ x = lN n := ⟨x.toBitVec.toNat, x.toBitVec.isLt, wb_inj (by rw [wb_tb]; simp)⟩
theorem wb_of32 (x : Int32) : ∃ n, n < 2 ^ 32 ∧ x = nI n := ⟨x.toBitVec.toNat, x.toBitVec.isLt, Int32.toBitVec_inj.mp (by show _ = BitVec.ofNat 32 _; simp)⟩
theorem wb_c : ∀ k, k < 64 → ((nI k).toInt64 &&& 63) = lN k := by decide +kernel
theorem wb_cu : ∀ k, k < 64 → ((nI k).toInt64.toUInt64 &&& Int64.toUInt64 63) = UInt64.ofNat k := by decide +kernel
theorem wb_sm : ∀ k, k < 64 → (BitVec.ofNat 64 k).smod 64 = BitVec.ofNat 64 k := by decide +kernel
theorem wb_pw {a b : Nat} (h : a ≤ b) : 2 ^ b = 2 ^ a * 2 ^ (b - a) := by rw [← Nat.pow_add]; congr 1; omega
theorem wb_lt2 {a b : Nat} (h : a < b) : 2 ^ a < 2 ^ b := Nat.pow_lt_pow_right (by decide) h
theorem wb_mod (n : Nat) : lN n = lN (n % 2 ^ 64) := wb_inj (by rw [wb_tb, wb_tb]; apply BitVec.eq_of_toNat_eq; rw [BitVec.toNat_ofNat, BitVec.toNat_ofNat, Nat.mod_mod])
theorem wb_shr {n k : Nat} (hn : n < 2 ^ 64) (hk : k < 64) : ((lN n).toUInt64 >>> ((nI k).toInt64.toUInt64 &&& Int64.toUInt64 63)).toInt64 = lN (n / 2 ^ k) := by
  rw [wb_cu k hk]
  apply wb_inj
  apply BitVec.eq_of_toNat_eq
  show ((lN n).toUInt64 >>> UInt64.ofNat k).toNat = (BitVec.ofNat 64 _).toNat
  have h1 : (UInt64.ofNat k).toNat = k := by
    show (BitVec.ofNat 64 k).toNat = k
    rw [BitVec.toNat_ofNat, Nat.mod_eq_of_lt (by omega)]
  have h2 : (lN n).toUInt64.toNat = n := wb_tn hn
  rw [UInt64.toNat_shiftRight, h1, h2, Nat.mod_eq_of_lt hk, Nat.shiftRight_eq_div_pow, BitVec.toNat_ofNat, Nat.mod_eq_of_lt (Nat.lt_of_le_of_lt (Nat.div_le_self _ _) hn)]
theorem wb_shl (n : Nat) {k : Nat} (hk : k < 64) : lN n <<< ((nI k).toInt64 &&& 63) = lN (n * 2 ^ k) := by
  rw [wb_c k hk]
  apply wb_inj
  rw [Int64.toBitVec_shiftLeft, wb_tb, wb_tb, wb_tb, wb_sm k hk]
  apply BitVec.eq_of_toNat_eq
  rw [BitVec.shiftLeft_eq', BitVec.toNat_shiftLeft, BitVec.toNat_ofNat, BitVec.toNat_ofNat, BitVec.toNat_ofNat, Nat.mod_eq_of_lt (show k < 2 ^ 64 by omega), Nat.shiftLeft_eq, Nat.mul_mod, Nat.mod_mod, ← Nat.mul_mod]
theorem wb_and {a b : Nat} (ha : a < 2 ^ 64) (hb : b < 2 ^ 64) : lN a &&& lN b = lN (a &&& b) := by
  apply wb_inj
  rw [Int64.toBitVec_and, wb_tb, wb_tb, wb_tb]
  apply BitVec.eq_of_toNat_eq
  rw [BitVec.toNat_and, BitVec.toNat_ofNat, BitVec.toNat_ofNat, BitVec.toNat_ofNat, Nat.mod_eq_of_lt ha, Nat.mod_eq_of_lt hb, Nat.mod_eq_of_lt (Nat.and_lt_two_pow _ hb)]
theorem wb_or {a b : Nat} (ha : a < 2 ^ 64) (hb : b < 2 ^ 64) : lN a ||| lN b = lN (a ||| b) := by
  apply wb_inj
  rw [Int64.toBitVec_or, wb_tb, wb_tb, wb_tb]
  apply BitVec.eq_of_toNat_eq
  rw [BitVec.toNat_or, BitVec.toNat_ofNat, BitVec.toNat_ofNat, BitVec.toNat_ofNat, Nat.mod_eq_of_lt ha, Nat.mod_eq_of_lt hb, Nat.mod_eq_of_lt (Nat.or_lt_two_pow ha hb)]
theorem wb_mask {n k : Nat} (hn : n < 2 ^ 64) (hk : k < 64) : lN n &&& lN (2 ^ k - 1) = lN (n % 2 ^ k) := by
  rw [wb_and hn (by have := wb_lt2 hk; omega), Nat.and_two_pow_sub_one_eq_mod]
theorem wb_a1 {n : Nat} (hn : n < 2 ^ 64) : lN n &&& 1 = lN (n % 2) := wb_mask (k := 1) hn (by decide)
theorem wb_bit {n k : Nat} (hn : n < 2 ^ 64) (hk : k < 64) : ((lN n).toUInt64 >>> ((nI k).toInt64.toUInt64 &&& Int64.toUInt64 63)).toInt64 &&& 1 = lN (n / 2 ^ k % 2) := by
  rw [wb_shr hn hk, wb_a1 (Nat.lt_of_le_of_lt (Nat.div_le_self _ _) hn)]
theorem wb_xor {q k : Nat} (hk : k < 63) (h : 2 ^ k ≤ q) (h2 : q < 2 ^ (k + 1)) : lN q ^^^ lN (2 ^ k) = lN (q - 2 ^ k) := by
  obtain ⟨r, rfl⟩ : ∃ r, q = 2 ^ k + r := ⟨q - 2 ^ k, by omega⟩
  have hr : r < 2 ^ k := by rw [Nat.pow_succ] at h2; omega
  have hx : (2 ^ k + r) ^^^ 2 ^ k = r := by
    apply Nat.eq_of_testBit_eq
    intro i
    rw [Nat.testBit_xor, Nat.testBit_two_pow]
    rcases Nat.lt_trichotomy i k with h | h | h
    · rw [Nat.testBit_two_pow_add_gt h]
      simp [show ¬ k = i by omega]
    · subst h
      rw [Nat.testBit_two_pow_add_eq]
      simp
    · have a1 : 2 ^ (k + 1) ≤ 2 ^ i := Nat.pow_le_pow_right (by decide) h
      rw [Nat.testBit_lt_two_pow (show 2 ^ k + r < 2 ^ i by omega), Nat.testBit_lt_two_pow (show r < 2 ^ i by omega)]
      simp [show ¬ k = i by omega]
  have b1 := wb_lt2 (show k + 1 < 64 by omega)
  have b2 := wb_lt2 (show k < 64 by omega)
  apply wb_inj
  rw [Int64.toBitVec_xor, wb_tb, wb_tb, wb_tb]
  apply BitVec.eq_of_toNat_eq
  rw [BitVec.toNat_xor, BitVec.toNat_ofNat, BitVec.toNat_ofNat, BitVec.toNat_ofNat, Nat.mod_eq_of_lt (by omega : 2 ^ k + r < 2 ^ 64), Nat.mod_eq_of_lt b2, hx, Nat.add_sub_cancel_left, Nat.mod_eq_of_lt (by omega)]
/-! ===== lN: masks, 'or' of parts that don't overlap is a sum ===== -/
theorem u_tn {n : Nat} (h : n < 2 ^ 64) : (UInt64.ofNat n).toNat = n := Nat.mod_eq_of_lt h
theorem g_and {a b c : Nat} (ha : a < 2 ^ 64) (hb : b < 2 ^ 64) (hc : a &&& b = c) : lN a &&& lN b = lN c := by
  subst hc
  have h : UInt64.ofNat a &&& UInt64.ofNat b = UInt64.ofNat (a &&& b) := UInt64.toNat_inj.mp (by rw [UInt64.toNat_and, u_tn ha, u_tn hb, u_tn (Nat.and_lt_two_pow a hb)])
  have h2 := congrArg UInt64.toInt64 h
  exact h2
theorem g_and1 {a : Nat} (ha : a < 2 ^ 64) : lN a &&& 1 = lN (a % 2) := g_and (b := 1) ha (by decide) (Nat.and_two_pow_sub_one_eq_mod a 1)
theorem g_mask {a s p : Nat} (hp : 2 ^ s = p) (hs : s < 64) (ha : a < 2 ^ 64) : lN a &&& lN (p - 1) = lN (a % p) := by
  subst hp
  have := Nat.pow_lt_pow_right (show 1 < 2 by decide) hs
  exact g_and ha (by omega) (Nat.and_two_pow_sub_one_eq_mod a s)
theorem g_or {k p a b : Nat} (hp : 2 ^ k = p) (ha : a < p) (h : b * p + a < 2 ^ 64) : lN (b * p) ||| lN a = lN (b * p + a) := by
  subst hp
  have h1 : b * 2 ^ k ||| a = b * 2 ^ k + a := by rw [← Nat.shiftLeft_eq, Nat.shiftLeft_add_eq_or_of_lt ha]
  have h3 : UInt64.ofNat (b * 2 ^ k) ||| UInt64.ofNat a = UInt64.ofNat (b * 2 ^ k + a) := UInt64.toNat_inj.mp (by rw [UInt64.toNat_or, u_tn (by omega), u_tn (by omega), u_tn h, h1])
  have h2 := congrArg UInt64.toInt64 h3
  exact h2
theorem g_or' {k p a b : Nat} (hp : 2 ^ k = p) (ha : a < p) (h : a + b * p < 2 ^ 64) : lN a ||| lN (b * p) = lN (a + b * p) := by
  rw [Int64.or_comm, g_or hp ha (by omega), Nat.add_comm]
theorem g_ushr {a k p : Nat} {y : UInt64} (hy : y = UInt64.ofNat k) (hk : k < 64) (hp : 2 ^ k = p) (ha : a < 2 ^ 64) : ((lN a).toUInt64 >>> y).toInt64 = lN (a / p) := by
  subst hy hp
  have h : UInt64.ofNat a >>> UInt64.ofNat k = UInt64.ofNat (a / 2 ^ k) := UInt64.toNat_inj.mp (by rw [UInt64.toNat_shiftRight, u_tn ha, u_tn (by omega), u_tn (Nat.lt_of_le_of_lt (Nat.div_le_self _ _) ha), Nat.mod_eq_of_lt hk, Nat.shiftRight_eq_div_pow])
  have h2 := congrArg UInt64.toInt64 h
  exact h2
theorem g_shl {a k p : Nat} {y : Int64} (hy : y.toBitVec.smod 64 = BitVec.ofNat 64 k) (hk : k < 64) (hp : 2 ^ k = p) (ha : a < 2 ^ 64) : lN a <<< y = lN (a * p) := by
  subst hp
  apply Int64.toBitVec_inj.mp
  rw [Int64.toBitVec_shiftLeft, hy]
  apply BitVec.eq_of_toNat_eq
  have hb : (lN a).toBitVec.toNat = a := Nat.mod_eq_of_lt ha
  have hk' : (BitVec.ofNat 64 k).toNat = k := Nat.mod_eq_of_lt (by omega)
  have h : ((lN a).toBitVec <<< BitVec.ofNat 64 k).toNat = (a * 2 ^ k) % 2 ^ 64 := by simp only [BitVec.shiftLeft_eq', BitVec.toNat_shiftLeft, hb, hk', Nat.shiftLeft_eq]
  exact h
/-! ===== lN to 2^62 under >> and >>> ===== -/
theorem pf_lI {a : Nat} (h : a < 2 ^ 63) : (lN a).toInt = (a : Int) := lg_ofNat_toInt h
theorem pf_shr {a d : Nat} {D : Int64} (hD : (D.toBitVec.smod 64).toNat = d) (h : a < 2 ^ 62) : lN a >>> D = lN (a / 2 ^ d) := by
  have hd : a / 2 ^ d ≤ a := Nat.div_le_self _ _
  apply Int64.toInt_inj.mp
  have e : (lN a >>> D).toInt = (lN a).toInt >>> d := by
    rw [← hD]
    exact BitVec.toInt_sshiftRight ..
  rw [e, Int.shiftRight_eq_div_pow, pf_lI (by omega), pf_lI (by omega)]
  rfl
theorem pf_ushr {a d : Nat} {D : UInt64} (hD : D.toNat % 64 = d) (h : a < 2 ^ 62) : ((lN a).toUInt64 >>> D).toInt64 = lN (a / 2 ^ d) := by
  have hd : a / 2 ^ d ≤ a := Nat.div_le_self _ _
  have e : (lN a).toUInt64 >>> D = UInt64.ofNat (a / 2 ^ d) := UInt64.toNat_inj.mp (by
    rw [UInt64.toNat_shiftRight, hD, Nat.shiftRight_eq_div_pow, UInt64.toNat_ofNat']
    show (UInt64.ofNat a).toNat / 2 ^ d = _
    rw [UInt64.toNat_ofNat', Nat.mod_eq_of_lt (by omega), Nat.mod_eq_of_lt (by omega)])
  rw [e]
  rfl
theorem pf_andw (x : Int64) : ∃ m, m < 2 ^ 32 ∧ x &&& 4294967295 = lN m := ⟨x.toBitVec.toNat % 2 ^ 32, Nat.mod_lt _ (by decide), Int64.toBitVec_inj.mp (BitVec.eq_of_toNat_eq (by
  show (x.toBitVec &&& 4294967295#64).toNat = (BitVec.ofNat 64 (x.toBitVec.toNat % 2 ^ 32)).toNat
  rw [BitVec.toNat_and, show (4294967295#64).toNat = 2 ^ 32 - 1 from by decide, Nat.and_two_pow_sub_one_eq_mod, BitVec.toNat_ofNat]
  omega))⟩
/-! ===== Int64 as an unsigned number: uN x ===== -/
def uN (x : Int64) : Nat := x.toUInt64.toNat
theorem uN_lt (x : Int64) : uN x < 18446744073709551616 := x.toUInt64.toNat_lt
theorem uN_inj {x y : Int64} (h : uN x = uN y) : x = y := congrArg UInt64.toInt64 (UInt64.toNat_inj.mp h)
theorem uN_add (x y : Int64) : uN (x + y) = (uN x + uN y) % 18446744073709551616 := by
  show (x.toUInt64 + y.toUInt64).toNat = _
  exact UInt64.toNat_add _ _
theorem uN_mul (x y : Int64) : uN (x * y) = (uN x * uN y) % 18446744073709551616 := by
  show (x.toUInt64 * y.toUInt64).toNat = _
  exact UInt64.toNat_mul _ _
theorem uN_shl (x : Int64) : uN (x <<< ((1 : Int32).toInt64 &&& 63)) = (2 * uN x) % 18446744073709551616 := by
  have h : (((1 : Int32).toInt64 &&& 63).toBitVec.smod 64).toNat = 1 := by decide
  show (x.toBitVec <<< (((1 : Int32).toInt64 &&& 63).toBitVec.smod 64).toNat).toNat = _
  rw [h, BitVec.toNat_shiftLeft, Nat.shiftLeft_eq, Nat.mul_comm]
  rfl
theorem uN_shr (x : Int64) (s : UInt64) : uN (x.toUInt64 >>> s).toInt64 = uN x / 2 ^ (s.toNat % 64) := by
  show (x.toUInt64 >>> s).toNat = _
  rw [UInt64.toNat_shiftRight, Nat.shiftRight_eq_div_pow]
  rfl
theorem uN_s32 (x : Int64) : uN (x.toUInt64 >>> ((32 : Int32).toInt64.toUInt64 &&& Int64.toUInt64 63)).toInt64 = uN x / 4294967296 := by
  have h : ((32 : Int32).toInt64.toUInt64 &&& Int64.toUInt64 63).toNat % 64 = 32 := by decide
  rw [uN_shr, h]
theorem uN_s63 (x : Int64) : uN (x.toUInt64 >>> ((63 : Int32).toInt64.toUInt64 &&& Int64.toUInt64 63)).toInt64 = uN x / 9223372036854775808 := by
  have h : ((63 : Int32).toInt64.toUInt64 &&& Int64.toUInt64 63).toNat % 64 = 63 := by decide
  rw [uN_shr, h]
theorem uN_lo (x : Int64) : uN (x &&& 4294967295) = uN x % 4294967296 := by
  show (x.toUInt64 &&& Int64.toUInt64 4294967295).toNat = _
  rw [UInt64.toNat_and]
  exact Nat.and_two_pow_sub_one_eq_mod _ 32
theorem uN_bit (x : Int64) : (x &&& 1) = 0 ↔ uN x % 2 = 0 := by
  have h : uN (x &&& 1) = uN x % 2 := by
    show (x.toUInt64 &&& Int64.toUInt64 1).toNat = _
    rw [UInt64.toNat_and]
    exact Nat.and_two_pow_sub_one_eq_mod _ 1
  rw [← h]
  exact ⟨fun z => by rw [z]; rfl, fun z => uN_inj (z.trans rfl)⟩
theorem uN_or {x y : Int64} (hy : uN y < 2) : uN ((x <<< ((1 : Int32).toInt64 &&& 63)) ||| y) = (2 * uN x) % 18446744073709551616 + uN y := by
  have h1 : uN ((x <<< ((1 : Int32).toInt64 &&& 63)) ||| y) = uN (x <<< ((1 : Int32).toInt64 &&& 63)) ||| uN y := UInt64.toNat_or _ _
  have h2 : (2 * uN x) % 18446744073709551616 = 2 ^ 1 * (uN x % 9223372036854775808) := by omega
  rw [h1, uN_shl, h2]
  exact (Nat.two_pow_add_eq_or_of_lt (i := 1) hy _).symm
theorem nat_xor {a : Nat} (h : a < 18446744073709551616) : a ^^^ 2 ^ 63 = (a + 9223372036854775808) % 18446744073709551616 := by
  have h1 : (a ^^^ 2 ^ 63) % 2 ^ 63 = a % 2 ^ 63 := by rw [Nat.xor_mod_two_pow, Nat.mod_self, Nat.xor_zero]
  have h2 : (a ^^^ 2 ^ 63) / 2 ^ 63 = (a / 2 ^ 63) ^^^ 1 := by rw [Nat.xor_div_two_pow, Nat.div_self (Nat.two_pow_pos 63)]
  have h3 : a / 2 ^ 63 = 0 ∨ a / 2 ^ 63 = 1 := by omega
  generalize a ^^^ 2 ^ 63 = t at h1 h2
  rcases h3 with h3 | h3
  · rw [h3] at h2
    have h2 : t / 2 ^ 63 = 1 := h2
    omega
  · rw [h3] at h2
    have h2 : t / 2 ^ 63 = 0 := h2
    omega
theorem uN_xor (x : Int64) : uN (x ^^^ (-9223372036854775808)) = (uN x + 9223372036854775808) % 18446744073709551616 := by
  rw [← nat_xor (uN_lt x)]
  exact UInt64.toNat_xor _ _
theorem uN_int (x : Int64) : x.toInt = if 2 * uN x < 18446744073709551616 then (uN x : Int) else (uN x : Int) - 18446744073709551616 := BitVec.toInt_eq_toNat_cond _
theorem uN_le (x y : Int64) : (x ^^^ (-9223372036854775808)) ≤ (y ^^^ (-9223372036854775808)) ↔ uN x ≤ uN y := by
  have hx := uN_lt x
  have hy := uN_lt y
  rw [Int64.le_iff_toInt_le, uN_int, uN_int, uN_xor, uN_xor]
  omega
theorem uN_sk (x : Int64) {k : Nat} (hk : k < 64) : uN (x.toUInt64 >>> ((nI k).toInt64.toUInt64 &&& Int64.toUInt64 63)).toInt64 = uN x / 2 ^ k := by
  have h : ((nI k).toInt64.toUInt64 &&& Int64.toUInt64 63).toNat % 64 = k := by
    rw [nI_l (by omega), UInt64.toNat_and]
    have e : (lN k).toUInt64.toNat = k % 2 ^ 64 := rfl
    have e2 : (Int64.toUInt64 63).toNat = 2 ^ 6 - 1 := by decide
    rw [e, e2, Nat.and_two_pow_sub_one_eq_mod]
    omega
  rw [uN_shr, h]
/-! ===== unsigned comparison by xor with the least ===== -/
theorem lN_bv (n : Nat) : (lN n).toBitVec = BitVec.ofNat 64 n := rfl
theorem lN_nat {n : Nat} (h : n < 2 ^ 64) : (lN n).toBitVec.toNat = n := by rw [lN_bv, BitVec.toNat_ofNat]; exact Nat.mod_eq_of_lt h
theorem lN_xor (a b : Nat) : lN a ^^^ lN b = lN (a ^^^ b) := by
  apply Int64.toBitVec_inj.mp; rw [Int64.toBitVec_xor, lN_bv, lN_bv, lN_bv]; apply BitVec.eq_of_getLsbD_eq; intro i hi; simp [BitVec.getLsbD_ofNat, Nat.testBit_xor, hi]
theorem lN_ti {m : Nat} (h : m < 2 ^ 64) : (lN m).toInt = if m < 2 ^ 63 then (m : Int) else (m : Int) - 2 ^ 64 := by
  have c := BitVec.toInt_eq_toNat_cond (lN m).toBitVec
  rw [lN_nat h] at c
  show (lN m).toBitVec.toInt = _
  rw [c]
  split <;> split <;> omega
theorem xor63 {x : Nat} (h : x < 2 ^ 63) : x ^^^ 2 ^ 63 = 2 ^ 63 + x := by
  apply Nat.eq_of_testBit_eq
  intro i
  rw [Nat.testBit_xor, Nat.testBit_two_pow]
  rcases Nat.lt_trichotomy i 63 with z | z | z
  · rw [Nat.testBit_two_pow_add_gt z, decide_eq_false (by omega)]; simp
  · subst z; rw [Nat.testBit_two_pow_add_eq]; simp
  · have hp : 2 ^ 64 ≤ 2 ^ i := Nat.pow_le_pow_right (by decide) z
    rw [Nat.testBit_lt_two_pow (show x < 2 ^ i by omega), Nat.testBit_lt_two_pow (show 2 ^ 63 + x < 2 ^ i by omega), decide_eq_false (by omega)]; rfl
theorem xorS {a : Nat} (h : a < 2 ^ 64) : (lN a ^^^ (-9223372036854775808)).toInt = (a : Int) - 2 ^ 63 := by
  rw [show (-9223372036854775808 : Int64) = lN (2 ^ 63) from by decide +kernel, lN_xor]
  rcases Nat.lt_or_ge a (2 ^ 63) with z | z
  · rw [xor63 z, lN_ti (by omega), if_neg (by omega)]; omega
  · obtain ⟨x, rfl⟩ : ∃ x, a = 2 ^ 63 + x := ⟨a - 2 ^ 63, by omega⟩
    rw [← xor63 (by omega), Nat.xor_assoc, Nat.xor_self, Nat.xor_zero, lN_ti (by omega), if_pos (by omega), xor63 (by omega)]; omega
theorem ultL {a b : Nat} (ha : a < 2 ^ 64) (hb : b < 2 ^ 64) : ((lN b ^^^ (-9223372036854775808)) ≤ (lN a ^^^ (-9223372036854775808))) ↔ b ≤ a := by
  rw [Int64.le_iff_toInt_le, xorS ha, xorS hb]; omega
/-! ===== Int64 masks of n low bits ===== -/
theorem cr_bits (W U M : BitVec 64) : ((W &&& U) &&& (U &&& (M ^^^ BitVec.allOnes 64))) = 0#64 ↔ (W &&& U) &&& M = W &&& U := by
  constructor
  · intro h
    apply BitVec.eq_of_getLsbD_eq
    intro i hi
    have e := congrArg (fun x => BitVec.getLsbD x i) h
    simp only [BitVec.getLsbD_and, BitVec.getLsbD_xor, BitVec.getLsbD_allOnes, BitVec.getLsbD_zero, hi, decide_true] at e ⊢
    revert e
    cases W.getLsbD i <;> cases U.getLsbD i <;> cases M.getLsbD i <;> decide
  · intro h
    apply BitVec.eq_of_getLsbD_eq
    intro i hi
    have e := congrArg (fun x => BitVec.getLsbD x i) h
    simp only [BitVec.getLsbD_and, BitVec.getLsbD_xor, BitVec.getLsbD_allOnes, BitVec.getLsbD_zero, hi, decide_true] at e ⊢
    revert e
    cases W.getLsbD i <;> cases U.getLsbD i <;> cases M.getLsbD i <;> decide
theorem cr_mask (w U m : Int64) (n : Nat) (hm : m.toBitVec.toNat = 2 ^ n - 1) : ((w &&& U) &&& (U &&& (m ^^^ (-1)))) = 0 ↔ (w &&& U).toBitVec.toNat < 2 ^ n := by
  have e0 : (-1 : Int64).toBitVec = BitVec.allOnes 64 := by decide
  have z0 : (0 : Int64).toBitVec = 0#64 := by decide
  rw [← Int64.toBitVec_inj, z0, Int64.toBitVec_and, Int64.toBitVec_and, Int64.toBitVec_and, Int64.toBitVec_xor, e0, cr_bits]
  generalize w.toBitVec &&& U.toBitVec = T
  rw [← BitVec.toNat_inj, BitVec.toNat_and, hm, Nat.and_two_pow_sub_one_eq_mod]
  constructor
  · intro h
    have t := Nat.mod_lt T.toNat (Nat.two_pow_pos n)
    rw [h] at t
    exact t
  · exact Nat.mod_eq_of_lt
theorem cr_shr (t : Int64) (x : UInt64) (n : Nat) (hx : x.toNat % 64 = n) : (t.toUInt64 >>> x).toInt64 = 0 ↔ t.toBitVec.toNat < 2 ^ n := by
  rw [← Int64.toBitVec_inj, ← BitVec.toNat_inj]
  show (t.toUInt64 >>> x).toNat = 0 ↔ t.toUInt64.toNat < 2 ^ n
  rw [UInt64.toNat_shiftRight, hx, Nat.shiftRight_eq_div_pow]
  constructor
  · intro h
    have d : t.toUInt64.toNat / 2 ^ n < 1 := by
      rw [h]
      decide
    have e := (Nat.div_lt_iff_lt_mul (Nat.two_pow_pos n)).mp d
    rw [Nat.one_mul] at e
    exact e
  · exact Nat.div_eq_of_lt
theorem cr_amt (s : Int64) : ∃ n, n < 64 ∧ s &&& 63 = lN n ∧ (s.toUInt64 &&& Int64.toUInt64 63).toNat % 64 = n := by
  have e : (s.toUInt64 &&& Int64.toUInt64 63).toNat = s.toUInt64.toNat % 2 ^ 6 := by
    rw [UInt64.toNat_and, show (Int64.toUInt64 63).toNat = 2 ^ 6 - 1 from by decide, Nat.and_two_pow_sub_one_eq_mod]
  refine ⟨s.toUInt64.toNat % 2 ^ 6, by omega, ?_, by omega⟩
  rw [← Int64.toBitVec_inj, ← BitVec.toNat_inj]
  show (s.toUInt64 &&& Int64.toUInt64 63).toNat = (BitVec.ofNat 64 (s.toUInt64.toNat % 2 ^ 6)).toNat
  rw [e, BitVec.toNat_ofNat]
  omega
end
section
theorem me_II {M : px_Mem} {a i : Nat} {x : Int32} : (px_wI M a i x).1 a i = x := by
  show va_up M.1 a _ a i = x
  rw [va_up_self]
  exact px_upd_self
theorem me_Ii {M : px_Mem} {a i j : Nat} {x : Int32} (h : j ≠ i) : (px_wI M a i x).1 a j = M.1 a j := by
  show va_up M.1 a _ a j = _
  rw [va_up_self]
  exact px_upd_ne h
theorem me_Io {M : px_Mem} {a b i : Nat} {x : Int32} (h : b ≠ a) : (px_wI M a i x).1 b = M.1 b := va_up_ne _ _ h
theorem me_Is {M : px_Mem} {a i : Nat} {x : Int32} : (px_wI M a i x).1 a = upd (M.1 a) i x := va_up_self _ _ _
theorem me_I2 {M : px_Mem} {a i : Nat} {x : Int32} : (px_wI M a i x).2 = M.2 := rfl
theorem me_Ls {M : px_Mem} {a i : Nat} {x : Int64} : (px_wL M a i x).2 a = vp_updL (M.2 a) i x := va_up_self _ _ _
theorem me_Lo {M : px_Mem} {a b i : Nat} {x : Int64} (h : b ≠ a) : (px_wL M a i x).2 b = M.2 b := va_up_ne _ _ h
theorem me_L1 {M : px_Mem} {a i : Nat} {x : Int64} : (px_wL M a i x).1 = M.1 := rfl
theorem me_LL {M : px_Mem} {a i : Nat} {x : Int64} : (px_wL M a i x).2 a i = x := by
  rw [me_Ls]
  exact px_updL_self
theorem me_Li {M : px_Mem} {a i j : Nat} {x : Int64} (h : j ≠ i) : (px_wL M a i x).2 a j = M.2 a j := by
  rw [me_Ls]
  exact px_updL_ne h
theorem me_As {M : px_Mem} {a : Nat} {f : Nat → Int32} : (px_aI M a f).1 a = f := va_up_self _ _ _
theorem me_Ao {M : px_Mem} {a b : Nat} {f : Nat → Int32} (h : b ≠ a) : (px_aI M a f).1 b = M.1 b := va_up_ne _ _ h
theorem me_A2 {M : px_Mem} {a : Nat} {f : Nat → Int32} : (px_aI M a f).2 = M.2 := rfl
theorem me_Bs {M : px_Mem} {a : Nat} {f : Nat → Int64} : (px_aL M a f).2 a = f := va_up_self _ _ _
theorem me_Bo {M : px_Mem} {a b : Nat} {f : Nat → Int64} (h : b ≠ a) : (px_aL M a f).2 b = M.2 b := va_up_ne _ _ h
theorem me_B1 {M : px_Mem} {a : Nat} {f : Nat → Int64} : (px_aL M a f).1 = M.1 := rfl
/-- all but the places of S are as they were -/
def me_fr (S : List Nat) (M M' : px_Mem) : Prop := ∀ a, a ∉ S → M'.1 a = M.1 a ∧ M'.2 a = M.2 a
theorem me_fr_rf {S : List Nat} {M : px_Mem} : me_fr S M M := fun _ _ => ⟨rfl, rfl⟩
theorem me_fr_tr {S : List Nat} {M M' M2 : px_Mem} (h : me_fr S M M') (h2 : me_fr S M' M2) : me_fr S M M2 := fun a ha => ⟨(h2 a ha).1.trans (h a ha).1, (h2 a ha).2.trans (h a ha).2⟩
theorem me_fr_mono {S S' : List Nat} {M M' : px_Mem} (h : me_fr S M M') (hs : ∀ a, a ∈ S → a ∈ S') : me_fr S' M M' := fun a ha => h a (fun q => ha (hs a q))
theorem me_fr_I {S : List Nat} {M M' : px_Mem} {a i : Nat} {x : Int32} (h : me_fr S M M') (ha : a ∈ S) : me_fr S M (px_wI M' a i x) := fun b hb => ⟨by rw [me_Io (fun e => hb (by rw [e]; exact ha))]; exact (h b hb).1, (h b hb).2⟩
theorem me_fr_L {S : List Nat} {M M' : px_Mem} {a i : Nat} {x : Int64} (h : me_fr S M M') (ha : a ∈ S) : me_fr S M (px_wL M' a i x) := fun b hb => ⟨(h b hb).1, by rw [me_Lo (fun e => hb (by rw [e]; exact ha))]; exact (h b hb).2⟩
theorem me_fr_A {S : List Nat} {M M' : px_Mem} {a : Nat} {f : Nat → Int32} (h : me_fr S M M') (ha : a ∈ S) : me_fr S M (px_aI M' a f) := fun b hb => ⟨by rw [me_Ao (fun e => hb (by rw [e]; exact ha))]; exact (h b hb).1, (h b hb).2⟩
theorem me_fr_B {S : List Nat} {M M' : px_Mem} {a : Nat} {f : Nat → Int64} (h : me_fr S M M') (ha : a ∈ S) : me_fr S M (px_aL M' a f) := fun b hb => ⟨(h b hb).1, by rw [me_Bo (fun e => hb (by rw [e]; exact ha))]; exact (h b hb).2⟩
theorem me_ext {M M' : px_Mem} (h1 : ∀ a, M.1 a = M'.1 a) (h2 : ∀ a, M.2 a = M'.2 a) : M = M' := Prod.ext (funext h1) (funext h2)
/-- filling a whole row -/
theorem me_vin {i n : Nat} (h : i < n) (hn : n < 2 ^ 31) : vp_in (nI i) n := vp_in_nI h hn
end
