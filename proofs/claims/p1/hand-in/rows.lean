section
-- ===== PART A: goes FIRST, ahead of the names: the tables' words, and 'selects' of the private methods out of them =====
/-- a private method of a class that the tables say can be made, by its rows of tables_1 -/
def lw_okq (q : MethodName × Nat) : Prop := (q.1.cls ≠ "java/lang/invoke/MethodHandle" ∧ q.1.cls ≠ "java/lang/invoke/VarHandle") ∧ Cond.instantiable q.1.cls q.2 ∈ tables_1 ∧ Cond.privateMethod q.1 ∈ tables_1 ∧ Cond.instanceMethod q.1 ∈ tables_1
theorem lw_p0 : lw_okq (⟨"FiberWorks", "putReady", "(II)V"⟩, 9) := ⟨⟨by decide +kernel, by decide +kernel⟩, List.mem_of_getElem? (i := 27) (by decide +kernel), List.mem_of_getElem? (i := 404) (by decide +kernel), List.mem_of_getElem? (i := 405) (by decide +kernel)⟩
theorem lw_p1 : lw_okq (⟨"FiberWorks", "programNode", "(I)I"⟩, 9) := ⟨⟨by decide +kernel, by decide +kernel⟩, List.mem_of_getElem? (i := 27) (by decide +kernel), List.mem_of_getElem? (i := 430) (by decide +kernel), List.mem_of_getElem? (i := 431) (by decide +kernel)⟩
theorem lw_p2 : lw_okq (⟨"FiberWorks$Words", "endOfWord", "(I)I"⟩, 11) := ⟨⟨by decide +kernel, by decide +kernel⟩, List.mem_of_getElem? (i := 55) (by decide +kernel), List.mem_of_getElem? (i := 468) (by decide +kernel), List.mem_of_getElem? (i := 469) (by decide +kernel)⟩
theorem lw_p3 : lw_okq (⟨"FiberWorks$Words", "addWord", "(II)V"⟩, 11) := ⟨⟨by decide +kernel, by decide +kernel⟩, List.mem_of_getElem? (i := 55) (by decide +kernel), List.mem_of_getElem? (i := 478) (by decide +kernel), List.mem_of_getElem? (i := 479) (by decide +kernel)⟩
theorem lw_p4 : lw_okq (⟨"FiberWorks$Words", "number", "(II)I"⟩, 11) := ⟨⟨by decide +kernel, by decide +kernel⟩, List.mem_of_getElem? (i := 55) (by decide +kernel), List.mem_of_getElem? (i := 486) (by decide +kernel), List.mem_of_getElem? (i := 487) (by decide +kernel)⟩
theorem lw_p5 : lw_okq (⟨"FiberWorks$Words", "spelled", "(II)LFiberWorks$Word;"⟩, 11) := ⟨⟨by decide +kernel, by decide +kernel⟩, List.mem_of_getElem? (i := 55) (by decide +kernel), List.mem_of_getElem? (i := 490) (by decide +kernel), List.mem_of_getElem? (i := 491) (by decide +kernel)⟩
theorem lw_p6 : lw_okq (⟨"FiberWorks$Words", "isSpelled", "(Ljava/lang/String;I)Z"⟩, 11) := ⟨⟨by decide +kernel, by decide +kernel⟩, List.mem_of_getElem? (i := 55) (by decide +kernel), List.mem_of_getElem? (i := 506) (by decide +kernel), List.mem_of_getElem? (i := 507) (by decide +kernel)⟩
theorem lw_p7 : lw_okq (⟨"FiberWorks$Words", "numberOfName", "(II)I"⟩, 11) := ⟨⟨by decide +kernel, by decide +kernel⟩, List.mem_of_getElem? (i := 55) (by decide +kernel), List.mem_of_getElem? (i := 552) (by decide +kernel), List.mem_of_getElem? (i := 553) (by decide +kernel)⟩
theorem lw_p8 : lw_okq (⟨"FiberWorks$Words", "isSame", "(III)Z"⟩, 11) := ⟨⟨by decide +kernel, by decide +kernel⟩, List.mem_of_getElem? (i := 55) (by decide +kernel), List.mem_of_getElem? (i := 556) (by decide +kernel), List.mem_of_getElem? (i := 557) (by decide +kernel)⟩
theorem lw_p9 : lw_okq (⟨"FiberWorks", "isProgram", "()Z"⟩, 9) := ⟨⟨by decide +kernel, by decide +kernel⟩, List.mem_of_getElem? (i := 27) (by decide +kernel), List.mem_of_getElem? (i := 560) (by decide +kernel), List.mem_of_getElem? (i := 561) (by decide +kernel)⟩
theorem lw_p10 : lw_okq (⟨"java/lang/Throwable", "fillInStackTrace", "(I)Ljava/lang/Throwable;"⟩, 6) := ⟨⟨by decide +kernel, by decide +kernel⟩, List.mem_of_getElem? (i := 620) (by decide +kernel), List.mem_of_getElem? (i := 618) (by decide +kernel), List.mem_of_getElem? (i := 619) (by decide +kernel)⟩
theorem lw_p11 : lw_okq (⟨"FiberWorks$Reader", "declaration", "()V"⟩, 8) := ⟨⟨by decide +kernel, by decide +kernel⟩, List.mem_of_getElem? (i := 227) (by decide +kernel), List.mem_of_getElem? (i := 648) (by decide +kernel), List.mem_of_getElem? (i := 649) (by decide +kernel)⟩
theorem lw_p12 : lw_okq (⟨"FiberWorks$Reader", "refuseWord", "()V"⟩, 8) := ⟨⟨by decide +kernel, by decide +kernel⟩, List.mem_of_getElem? (i := 227) (by decide +kernel), List.mem_of_getElem? (i := 655) (by decide +kernel), List.mem_of_getElem? (i := 656) (by decide +kernel)⟩
theorem lw_p13 : lw_okq (⟨"FiberWorks$Reader", "expect", "(LFiberWorks$Word;)V"⟩, 8) := ⟨⟨by decide +kernel, by decide +kernel⟩, List.mem_of_getElem? (i := 227) (by decide +kernel), List.mem_of_getElem? (i := 665) (by decide +kernel), List.mem_of_getElem? (i := 666) (by decide +kernel)⟩
theorem lw_p14 : lw_okq (⟨"FiberWorks$Reader", "writtenType", "(I)I"⟩, 8) := ⟨⟨by decide +kernel, by decide +kernel⟩, List.mem_of_getElem? (i := 227) (by decide +kernel), List.mem_of_getElem? (i := 669) (by decide +kernel), List.mem_of_getElem? (i := 670) (by decide +kernel)⟩
theorem lw_p15 : lw_okq (⟨"FiberWorks$Reader", "row", "()I"⟩, 8) := ⟨⟨by decide +kernel, by decide +kernel⟩, List.mem_of_getElem? (i := 227) (by decide +kernel), List.mem_of_getElem? (i := 686) (by decide +kernel), List.mem_of_getElem? (i := 687) (by decide +kernel)⟩
def lw_privs_1 : List (MethodName × Nat) := [(⟨"FiberWorks", "putReady", "(II)V"⟩, 9), (⟨"FiberWorks", "programNode", "(I)I"⟩, 9), (⟨"FiberWorks$Words", "endOfWord", "(I)I"⟩, 11), (⟨"FiberWorks$Words", "addWord", "(II)V"⟩, 11), (⟨"FiberWorks$Words", "number", "(II)I"⟩, 11), (⟨"FiberWorks$Words", "spelled", "(II)LFiberWorks$Word;"⟩, 11), (⟨"FiberWorks$Words", "isSpelled", "(Ljava/lang/String;I)Z"⟩, 11), (⟨"FiberWorks$Words", "numberOfName", "(II)I"⟩, 11), (⟨"FiberWorks$Words", "isSame", "(III)Z"⟩, 11), (⟨"FiberWorks", "isProgram", "()Z"⟩, 9), (⟨"java/lang/Throwable", "fillInStackTrace", "(I)Ljava/lang/Throwable;"⟩, 6), (⟨"FiberWorks$Reader", "declaration", "()V"⟩, 8), (⟨"FiberWorks$Reader", "refuseWord", "()V"⟩, 8), (⟨"FiberWorks$Reader", "expect", "(LFiberWorks$Word;)V"⟩, 8), (⟨"FiberWorks$Reader", "writtenType", "(I)I"⟩, 8), (⟨"FiberWorks$Reader", "row", "()I"⟩, 8)]
theorem lw_r1 : ∀ q ∈ lw_privs_1, lw_okq q := List.forall_mem_cons.mpr ⟨lw_p0, List.forall_mem_cons.mpr ⟨lw_p1, List.forall_mem_cons.mpr ⟨lw_p2, List.forall_mem_cons.mpr ⟨lw_p3, List.forall_mem_cons.mpr ⟨lw_p4, List.forall_mem_cons.mpr ⟨lw_p5, List.forall_mem_cons.mpr ⟨lw_p6, List.forall_mem_cons.mpr ⟨lw_p7, List.forall_mem_cons.mpr ⟨lw_p8, List.forall_mem_cons.mpr ⟨lw_p9, List.forall_mem_cons.mpr ⟨lw_p10, List.forall_mem_cons.mpr ⟨lw_p11, List.forall_mem_cons.mpr ⟨lw_p12, List.forall_mem_cons.mpr ⟨lw_p13, List.forall_mem_cons.mpr ⟨lw_p14, List.forall_mem_cons.mpr ⟨lw_p15, fun _ h => absurd h List.not_mem_nil⟩⟩⟩⟩⟩⟩⟩⟩⟩⟩⟩⟩⟩⟩⟩⟩
theorem lw_p16 : lw_okq (⟨"FiberWorks$Reader", "effect", "()I"⟩, 8) := ⟨⟨by decide +kernel, by decide +kernel⟩, List.mem_of_getElem? (i := 227) (by decide +kernel), List.mem_of_getElem? (i := 694) (by decide +kernel), List.mem_of_getElem? (i := 695) (by decide +kernel)⟩
theorem lw_p17 : lw_okq (⟨"FiberWorks$Reader", "expr", "(I)V"⟩, 8) := ⟨⟨by decide +kernel, by decide +kernel⟩, List.mem_of_getElem? (i := 227) (by decide +kernel), List.mem_of_getElem? (i := 728) (by decide +kernel), List.mem_of_getElem? (i := 729) (by decide +kernel)⟩
theorem lw_p18 : lw_okq (⟨"FiberWorks$Reader", "let", "(I)V"⟩, 8) := ⟨⟨by decide +kernel, by decide +kernel⟩, List.mem_of_getElem? (i := 227) (by decide +kernel), List.mem_of_getElem? (i := 740) (by decide +kernel), List.mem_of_getElem? (i := 741) (by decide +kernel)⟩
theorem lw_p19 : lw_okq (⟨"FiberWorks$Reader", "keyword", "()I"⟩, 8) := ⟨⟨by decide +kernel, by decide +kernel⟩, List.mem_of_getElem? (i := 227) (by decide +kernel), List.mem_of_getElem? (i := 744) (by decide +kernel), List.mem_of_getElem? (i := 745) (by decide +kernel)⟩
theorem lw_p20 : lw_okq (⟨"FiberWorks$Reader", "countNode", "()V"⟩, 8) := ⟨⟨by decide +kernel, by decide +kernel⟩, List.mem_of_getElem? (i := 227) (by decide +kernel), List.mem_of_getElem? (i := 748) (by decide +kernel), List.mem_of_getElem? (i := 749) (by decide +kernel)⟩
theorem lw_p21 : lw_okq (⟨"FiberWorks$Reader", "name", "()I"⟩, 8) := ⟨⟨by decide +kernel, by decide +kernel⟩, List.mem_of_getElem? (i := 227) (by decide +kernel), List.mem_of_getElem? (i := 752) (by decide +kernel), List.mem_of_getElem? (i := 753) (by decide +kernel)⟩
theorem lw_p22 : lw_okq (⟨"FiberWorks$Reader", "rec", "(I)V"⟩, 8) := ⟨⟨by decide +kernel, by decide +kernel⟩, List.mem_of_getElem? (i := 227) (by decide +kernel), List.mem_of_getElem? (i := 766) (by decide +kernel), List.mem_of_getElem? (i := 767) (by decide +kernel)⟩
theorem lw_p23 : lw_okq (⟨"FiberWorks$Reader", "choice", "(I)V"⟩, 8) := ⟨⟨by decide +kernel, by decide +kernel⟩, List.mem_of_getElem? (i := 227) (by decide +kernel), List.mem_of_getElem? (i := 770) (by decide +kernel), List.mem_of_getElem? (i := 771) (by decide +kernel)⟩
theorem lw_p24 : lw_okq (⟨"FiberWorks$Reader", "fn", "(I)V"⟩, 8) := ⟨⟨by decide +kernel, by decide +kernel⟩, List.mem_of_getElem? (i := 227) (by decide +kernel), List.mem_of_getElem? (i := 778) (by decide +kernel), List.mem_of_getElem? (i := 779) (by decide +kernel)⟩
theorem lw_p25 : lw_okq (⟨"FiberWorks$Reader", "handle", "(I)V"⟩, 8) := ⟨⟨by decide +kernel, by decide +kernel⟩, List.mem_of_getElem? (i := 227) (by decide +kernel), List.mem_of_getElem? (i := 782) (by decide +kernel), List.mem_of_getElem? (i := 783) (by decide +kernel)⟩
theorem lw_p26 : lw_okq (⟨"FiberWorks$Reader", "clause", "(II)I"⟩, 8) := ⟨⟨by decide +kernel, by decide +kernel⟩, List.mem_of_getElem? (i := 227) (by decide +kernel), List.mem_of_getElem? (i := 792) (by decide +kernel), List.mem_of_getElem? (i := 793) (by decide +kernel)⟩
theorem lw_p27 : lw_okq (⟨"FiberWorks$Reader", "operation", "(I)V"⟩, 8) := ⟨⟨by decide +kernel, by decide +kernel⟩, List.mem_of_getElem? (i := 227) (by decide +kernel), List.mem_of_getElem? (i := 798) (by decide +kernel), List.mem_of_getElem? (i := 799) (by decide +kernel)⟩
theorem lw_p28 : lw_okq (⟨"FiberWorks$Reader", "call", "(I)V"⟩, 8) := ⟨⟨by decide +kernel, by decide +kernel⟩, List.mem_of_getElem? (i := 227) (by decide +kernel), List.mem_of_getElem? (i := 802) (by decide +kernel), List.mem_of_getElem? (i := 803) (by decide +kernel)⟩
theorem lw_p29 : lw_okq (⟨"FiberWorks$Reader", "atom", "(I)V"⟩, 8) := ⟨⟨by decide +kernel, by decide +kernel⟩, List.mem_of_getElem? (i := 227) (by decide +kernel), List.mem_of_getElem? (i := 808) (by decide +kernel), List.mem_of_getElem? (i := 809) (by decide +kernel)⟩
theorem lw_p30 : lw_okq (⟨"FiberWorks$Reader", "value", "(III)V"⟩, 8) := ⟨⟨by decide +kernel, by decide +kernel⟩, List.mem_of_getElem? (i := 227) (by decide +kernel), List.mem_of_getElem? (i := 812) (by decide +kernel), List.mem_of_getElem? (i := 813) (by decide +kernel)⟩
theorem lw_p31 : lw_okq (⟨"FiberWorks$Reader", "isAtom", "()Z"⟩, 8) := ⟨⟨by decide +kernel, by decide +kernel⟩, List.mem_of_getElem? (i := 227) (by decide +kernel), List.mem_of_getElem? (i := 816) (by decide +kernel), List.mem_of_getElem? (i := 817) (by decide +kernel)⟩
def lw_privs_2 : List (MethodName × Nat) := [(⟨"FiberWorks$Reader", "effect", "()I"⟩, 8), (⟨"FiberWorks$Reader", "expr", "(I)V"⟩, 8), (⟨"FiberWorks$Reader", "let", "(I)V"⟩, 8), (⟨"FiberWorks$Reader", "keyword", "()I"⟩, 8), (⟨"FiberWorks$Reader", "countNode", "()V"⟩, 8), (⟨"FiberWorks$Reader", "name", "()I"⟩, 8), (⟨"FiberWorks$Reader", "rec", "(I)V"⟩, 8), (⟨"FiberWorks$Reader", "choice", "(I)V"⟩, 8), (⟨"FiberWorks$Reader", "fn", "(I)V"⟩, 8), (⟨"FiberWorks$Reader", "handle", "(I)V"⟩, 8), (⟨"FiberWorks$Reader", "clause", "(II)I"⟩, 8), (⟨"FiberWorks$Reader", "operation", "(I)V"⟩, 8), (⟨"FiberWorks$Reader", "call", "(I)V"⟩, 8), (⟨"FiberWorks$Reader", "atom", "(I)V"⟩, 8), (⟨"FiberWorks$Reader", "value", "(III)V"⟩, 8), (⟨"FiberWorks$Reader", "isAtom", "()Z"⟩, 8)]
theorem lw_r2 : ∀ q ∈ lw_privs_2, lw_okq q := List.forall_mem_cons.mpr ⟨lw_p16, List.forall_mem_cons.mpr ⟨lw_p17, List.forall_mem_cons.mpr ⟨lw_p18, List.forall_mem_cons.mpr ⟨lw_p19, List.forall_mem_cons.mpr ⟨lw_p20, List.forall_mem_cons.mpr ⟨lw_p21, List.forall_mem_cons.mpr ⟨lw_p22, List.forall_mem_cons.mpr ⟨lw_p23, List.forall_mem_cons.mpr ⟨lw_p24, List.forall_mem_cons.mpr ⟨lw_p25, List.forall_mem_cons.mpr ⟨lw_p26, List.forall_mem_cons.mpr ⟨lw_p27, List.forall_mem_cons.mpr ⟨lw_p28, List.forall_mem_cons.mpr ⟨lw_p29, List.forall_mem_cons.mpr ⟨lw_p30, List.forall_mem_cons.mpr ⟨lw_p31, fun _ h => absurd h List.not_mem_nil⟩⟩⟩⟩⟩⟩⟩⟩⟩⟩⟩⟩⟩⟩⟩⟩
theorem lw_p32 : lw_okq (⟨"FiberWorks$Reader", "mayOperate", "(I)Z"⟩, 8) := ⟨⟨by decide +kernel, by decide +kernel⟩, List.mem_of_getElem? (i := 227) (by decide +kernel), List.mem_of_getElem? (i := 820) (by decide +kernel), List.mem_of_getElem? (i := 821) (by decide +kernel)⟩
theorem lw_p33 : lw_okq (⟨"FiberWorks$Reader", "operator", "()I"⟩, 8) := ⟨⟨by decide +kernel, by decide +kernel⟩, List.mem_of_getElem? (i := 227) (by decide +kernel), List.mem_of_getElem? (i := 824) (by decide +kernel), List.mem_of_getElem? (i := 825) (by decide +kernel)⟩
theorem lw_p34 : lw_okq (⟨"FiberWorks$Reader", "settle", "(III)I"⟩, 8) := ⟨⟨by decide +kernel, by decide +kernel⟩, List.mem_of_getElem? (i := 227) (by decide +kernel), List.mem_of_getElem? (i := 831) (by decide +kernel), List.mem_of_getElem? (i := 832) (by decide +kernel)⟩
theorem lw_p35 : lw_okq (⟨"FiberWorks$Checker", "checkPart", "(I)V"⟩, 17) := ⟨⟨by decide +kernel, by decide +kernel⟩, List.mem_of_getElem? (i := 258) (by decide +kernel), List.mem_of_getElem? (i := 840) (by decide +kernel), List.mem_of_getElem? (i := 841) (by decide +kernel)⟩
theorem lw_p36 : lw_okq (⟨"FiberWorks$Checker", "hold", "(III)V"⟩, 17) := ⟨⟨by decide +kernel, by decide +kernel⟩, List.mem_of_getElem? (i := 258) (by decide +kernel), List.mem_of_getElem? (i := 844) (by decide +kernel), List.mem_of_getElem? (i := 845) (by decide +kernel)⟩
theorem lw_p37 : lw_okq (⟨"FiberWorks$Checker", "checkName", "(I)V"⟩, 17) := ⟨⟨by decide +kernel, by decide +kernel⟩, List.mem_of_getElem? (i := 258) (by decide +kernel), List.mem_of_getElem? (i := 848) (by decide +kernel), List.mem_of_getElem? (i := 849) (by decide +kernel)⟩
theorem lw_p38 : lw_okq (⟨"FiberWorks$Checker", "checkBind", "(I)V"⟩, 17) := ⟨⟨by decide +kernel, by decide +kernel⟩, List.mem_of_getElem? (i := 258) (by decide +kernel), List.mem_of_getElem? (i := 853) (by decide +kernel), List.mem_of_getElem? (i := 854) (by decide +kernel)⟩
theorem lw_p39 : lw_okq (⟨"FiberWorks$Checker", "bind", "(II)V"⟩, 17) := ⟨⟨by decide +kernel, by decide +kernel⟩, List.mem_of_getElem? (i := 258) (by decide +kernel), List.mem_of_getElem? (i := 857) (by decide +kernel), List.mem_of_getElem? (i := 858) (by decide +kernel)⟩
theorem lw_p40 : lw_okq (⟨"FiberWorks$Checker", "join", "(III)V"⟩, 17) := ⟨⟨by decide +kernel, by decide +kernel⟩, List.mem_of_getElem? (i := 258) (by decide +kernel), List.mem_of_getElem? (i := 862) (by decide +kernel), List.mem_of_getElem? (i := 863) (by decide +kernel)⟩
theorem lw_p41 : lw_okq (⟨"FiberWorks$Checker", "wantType", "(II)V"⟩, 17) := ⟨⟨by decide +kernel, by decide +kernel⟩, List.mem_of_getElem? (i := 258) (by decide +kernel), List.mem_of_getElem? (i := 866) (by decide +kernel), List.mem_of_getElem? (i := 867) (by decide +kernel)⟩
theorem lw_p42 : lw_okq (⟨"FiberWorks$Checker", "checkOperands", "(II)V"⟩, 17) := ⟨⟨by decide +kernel, by decide +kernel⟩, List.mem_of_getElem? (i := 258) (by decide +kernel), List.mem_of_getElem? (i := 870) (by decide +kernel), List.mem_of_getElem? (i := 871) (by decide +kernel)⟩
theorem lw_p43 : lw_okq (⟨"FiberWorks$Checker", "checkCall", "(I)V"⟩, 17) := ⟨⟨by decide +kernel, by decide +kernel⟩, List.mem_of_getElem? (i := 258) (by decide +kernel), List.mem_of_getElem? (i := 875) (by decide +kernel), List.mem_of_getElem? (i := 876) (by decide +kernel)⟩
theorem lw_p44 : lw_okq (⟨"FiberWorks$Checker", "wantFit", "(II)V"⟩, 17) := ⟨⟨by decide +kernel, by decide +kernel⟩, List.mem_of_getElem? (i := 258) (by decide +kernel), List.mem_of_getElem? (i := 883) (by decide +kernel), List.mem_of_getElem? (i := 884) (by decide +kernel)⟩
theorem lw_p45 : lw_okq (⟨"FiberWorks$Checker", "checkPerform", "(I)V"⟩, 17) := ⟨⟨by decide +kernel, by decide +kernel⟩, List.mem_of_getElem? (i := 258) (by decide +kernel), List.mem_of_getElem? (i := 898) (by decide +kernel), List.mem_of_getElem? (i := 899) (by decide +kernel)⟩
theorem lw_p46 : lw_okq (⟨"FiberWorks$Checker", "checkRegion", "(I)V"⟩, 17) := ⟨⟨by decide +kernel, by decide +kernel⟩, List.mem_of_getElem? (i := 258) (by decide +kernel), List.mem_of_getElem? (i := 902) (by decide +kernel), List.mem_of_getElem? (i := 903) (by decide +kernel)⟩
theorem lw_p47 : lw_okq (⟨"FiberWorks$Checker", "openRegion", "(I)V"⟩, 17) := ⟨⟨by decide +kernel, by decide +kernel⟩, List.mem_of_getElem? (i := 258) (by decide +kernel), List.mem_of_getElem? (i := 906) (by decide +kernel), List.mem_of_getElem? (i := 907) (by decide +kernel)⟩
def lw_privs_3 : List (MethodName × Nat) := [(⟨"FiberWorks$Reader", "mayOperate", "(I)Z"⟩, 8), (⟨"FiberWorks$Reader", "operator", "()I"⟩, 8), (⟨"FiberWorks$Reader", "settle", "(III)I"⟩, 8), (⟨"FiberWorks$Checker", "checkPart", "(I)V"⟩, 17), (⟨"FiberWorks$Checker", "hold", "(III)V"⟩, 17), (⟨"FiberWorks$Checker", "checkName", "(I)V"⟩, 17), (⟨"FiberWorks$Checker", "checkBind", "(I)V"⟩, 17), (⟨"FiberWorks$Checker", "bind", "(II)V"⟩, 17), (⟨"FiberWorks$Checker", "join", "(III)V"⟩, 17), (⟨"FiberWorks$Checker", "wantType", "(II)V"⟩, 17), (⟨"FiberWorks$Checker", "checkOperands", "(II)V"⟩, 17), (⟨"FiberWorks$Checker", "checkCall", "(I)V"⟩, 17), (⟨"FiberWorks$Checker", "wantFit", "(II)V"⟩, 17), (⟨"FiberWorks$Checker", "checkPerform", "(I)V"⟩, 17), (⟨"FiberWorks$Checker", "checkRegion", "(I)V"⟩, 17), (⟨"FiberWorks$Checker", "openRegion", "(I)V"⟩, 17)]
theorem lw_r3 : ∀ q ∈ lw_privs_3, lw_okq q := List.forall_mem_cons.mpr ⟨lw_p32, List.forall_mem_cons.mpr ⟨lw_p33, List.forall_mem_cons.mpr ⟨lw_p34, List.forall_mem_cons.mpr ⟨lw_p35, List.forall_mem_cons.mpr ⟨lw_p36, List.forall_mem_cons.mpr ⟨lw_p37, List.forall_mem_cons.mpr ⟨lw_p38, List.forall_mem_cons.mpr ⟨lw_p39, List.forall_mem_cons.mpr ⟨lw_p40, List.forall_mem_cons.mpr ⟨lw_p41, List.forall_mem_cons.mpr ⟨lw_p42, List.forall_mem_cons.mpr ⟨lw_p43, List.forall_mem_cons.mpr ⟨lw_p44, List.forall_mem_cons.mpr ⟨lw_p45, List.forall_mem_cons.mpr ⟨lw_p46, List.forall_mem_cons.mpr ⟨lw_p47, fun _ h => absurd h List.not_mem_nil⟩⟩⟩⟩⟩⟩⟩⟩⟩⟩⟩⟩⟩⟩⟩⟩
theorem lw_p48 : lw_okq (⟨"FiberWorks$Checker", "checkFnEnd", "(I)V"⟩, 17) := ⟨⟨by decide +kernel, by decide +kernel⟩, List.mem_of_getElem? (i := 258) (by decide +kernel), List.mem_of_getElem? (i := 910) (by decide +kernel), List.mem_of_getElem? (i := 911) (by decide +kernel)⟩
theorem lw_p49 : lw_okq (⟨"FiberWorks$Checker", "closeRegion", "()V"⟩, 17) := ⟨⟨by decide +kernel, by decide +kernel⟩, List.mem_of_getElem? (i := 258) (by decide +kernel), List.mem_of_getElem? (i := 915) (by decide +kernel), List.mem_of_getElem? (i := 916) (by decide +kernel)⟩
theorem lw_p50 : lw_okq (⟨"FiberWorks$Checker", "checkRecEnd", "(I)V"⟩, 17) := ⟨⟨by decide +kernel, by decide +kernel⟩, List.mem_of_getElem? (i := 258) (by decide +kernel), List.mem_of_getElem? (i := 919) (by decide +kernel), List.mem_of_getElem? (i := 920) (by decide +kernel)⟩
theorem lw_p51 : lw_okq (⟨"FiberWorks$Checker", "wantInRow", "(II)V"⟩, 17) := ⟨⟨by decide +kernel, by decide +kernel⟩, List.mem_of_getElem? (i := 258) (by decide +kernel), List.mem_of_getElem? (i := 923) (by decide +kernel), List.mem_of_getElem? (i := 924) (by decide +kernel)⟩
theorem lw_p52 : lw_okq (⟨"FiberWorks$Checker", "checkClause", "(I)V"⟩, 17) := ⟨⟨by decide +kernel, by decide +kernel⟩, List.mem_of_getElem? (i := 258) (by decide +kernel), List.mem_of_getElem? (i := 927) (by decide +kernel), List.mem_of_getElem? (i := 928) (by decide +kernel)⟩
theorem lw_p53 : lw_okq (⟨"FiberWorks$Checker", "checkClauseEnd", "()V"⟩, 17) := ⟨⟨by decide +kernel, by decide +kernel⟩, List.mem_of_getElem? (i := 258) (by decide +kernel), List.mem_of_getElem? (i := 931) (by decide +kernel), List.mem_of_getElem? (i := 932) (by decide +kernel)⟩
theorem lw_p54 : lw_okq (⟨"FiberWorks$Checker", "checkHandleEnd", "(I)V"⟩, 17) := ⟨⟨by decide +kernel, by decide +kernel⟩, List.mem_of_getElem? (i := 258) (by decide +kernel), List.mem_of_getElem? (i := 935) (by decide +kernel), List.mem_of_getElem? (i := 936) (by decide +kernel)⟩
theorem lw_p55 : lw_okq (⟨"FiberWorks$Machine", "newRecord", "(II)I"⟩, 13) := ⟨⟨by decide +kernel, by decide +kernel⟩, List.mem_of_getElem? (i := 316) (by decide +kernel), List.mem_of_getElem? (i := 984) (by decide +kernel), List.mem_of_getElem? (i := 985) (by decide +kernel)⟩
theorem lw_p56 : lw_okq (⟨"FiberWorks$Machine", "openFrame", "(IIII)V"⟩, 13) := ⟨⟨by decide +kernel, by decide +kernel⟩, List.mem_of_getElem? (i := 316) (by decide +kernel), List.mem_of_getElem? (i := 989) (by decide +kernel), List.mem_of_getElem? (i := 990) (by decide +kernel)⟩
theorem lw_p57 : lw_okq (⟨"FiberWorks$Machine", "takesFuel", "()Z"⟩, 13) := ⟨⟨by decide +kernel, by decide +kernel⟩, List.mem_of_getElem? (i := 316) (by decide +kernel), List.mem_of_getElem? (i := 1007) (by decide +kernel), List.mem_of_getElem? (i := 1008) (by decide +kernel)⟩
theorem lw_p58 : lw_okq (⟨"FiberWorks$Machine", "step", "()V"⟩, 13) := ⟨⟨by decide +kernel, by decide +kernel⟩, List.mem_of_getElem? (i := 316) (by decide +kernel), List.mem_of_getElem? (i := 1011) (by decide +kernel), List.mem_of_getElem? (i := 1012) (by decide +kernel)⟩
theorem lw_p59 : lw_okq (⟨"FiberWorks$Machine", "push", "(I)V"⟩, 13) := ⟨⟨by decide +kernel, by decide +kernel⟩, List.mem_of_getElem? (i := 316) (by decide +kernel), List.mem_of_getElem? (i := 1015) (by decide +kernel), List.mem_of_getElem? (i := 1016) (by decide +kernel)⟩
theorem lw_p60 : lw_okq (⟨"FiberWorks$Machine", "pop", "()I"⟩, 13) := ⟨⟨by decide +kernel, by decide +kernel⟩, List.mem_of_getElem? (i := 316) (by decide +kernel), List.mem_of_getElem? (i := 1019) (by decide +kernel), List.mem_of_getElem? (i := 1020) (by decide +kernel)⟩
theorem lw_p61 : lw_okq (⟨"FiberWorks$Machine", "operate", "(I)V"⟩, 13) := ⟨⟨by decide +kernel, by decide +kernel⟩, List.mem_of_getElem? (i := 316) (by decide +kernel), List.mem_of_getElem? (i := 1023) (by decide +kernel), List.mem_of_getElem? (i := 1024) (by decide +kernel)⟩
theorem lw_p62 : lw_okq (⟨"FiberWorks$Machine", "stepRegion", "()V"⟩, 13) := ⟨⟨by decide +kernel, by decide +kernel⟩, List.mem_of_getElem? (i := 316) (by decide +kernel), List.mem_of_getElem? (i := 1027) (by decide +kernel), List.mem_of_getElem? (i := 1028) (by decide +kernel)⟩
theorem lw_p63 : lw_okq (⟨"FiberWorks$Machine", "call", "()V"⟩, 13) := ⟨⟨by decide +kernel, by decide +kernel⟩, List.mem_of_getElem? (i := 316) (by decide +kernel), List.mem_of_getElem? (i := 1031) (by decide +kernel), List.mem_of_getElem? (i := 1032) (by decide +kernel)⟩
def lw_privs_4 : List (MethodName × Nat) := [(⟨"FiberWorks$Checker", "checkFnEnd", "(I)V"⟩, 17), (⟨"FiberWorks$Checker", "closeRegion", "()V"⟩, 17), (⟨"FiberWorks$Checker", "checkRecEnd", "(I)V"⟩, 17), (⟨"FiberWorks$Checker", "wantInRow", "(II)V"⟩, 17), (⟨"FiberWorks$Checker", "checkClause", "(I)V"⟩, 17), (⟨"FiberWorks$Checker", "checkClauseEnd", "()V"⟩, 17), (⟨"FiberWorks$Checker", "checkHandleEnd", "(I)V"⟩, 17), (⟨"FiberWorks$Machine", "newRecord", "(II)I"⟩, 13), (⟨"FiberWorks$Machine", "openFrame", "(IIII)V"⟩, 13), (⟨"FiberWorks$Machine", "takesFuel", "()Z"⟩, 13), (⟨"FiberWorks$Machine", "step", "()V"⟩, 13), (⟨"FiberWorks$Machine", "push", "(I)V"⟩, 13), (⟨"FiberWorks$Machine", "pop", "()I"⟩, 13), (⟨"FiberWorks$Machine", "operate", "(I)V"⟩, 13), (⟨"FiberWorks$Machine", "stepRegion", "()V"⟩, 13), (⟨"FiberWorks$Machine", "call", "()V"⟩, 13)]
theorem lw_r4 : ∀ q ∈ lw_privs_4, lw_okq q := List.forall_mem_cons.mpr ⟨lw_p48, List.forall_mem_cons.mpr ⟨lw_p49, List.forall_mem_cons.mpr ⟨lw_p50, List.forall_mem_cons.mpr ⟨lw_p51, List.forall_mem_cons.mpr ⟨lw_p52, List.forall_mem_cons.mpr ⟨lw_p53, List.forall_mem_cons.mpr ⟨lw_p54, List.forall_mem_cons.mpr ⟨lw_p55, List.forall_mem_cons.mpr ⟨lw_p56, List.forall_mem_cons.mpr ⟨lw_p57, List.forall_mem_cons.mpr ⟨lw_p58, List.forall_mem_cons.mpr ⟨lw_p59, List.forall_mem_cons.mpr ⟨lw_p60, List.forall_mem_cons.mpr ⟨lw_p61, List.forall_mem_cons.mpr ⟨lw_p62, List.forall_mem_cons.mpr ⟨lw_p63, fun _ h => absurd h List.not_mem_nil⟩⟩⟩⟩⟩⟩⟩⟩⟩⟩⟩⟩⟩⟩⟩⟩
theorem lw_p64 : lw_okq (⟨"FiberWorks$Machine", "goOn", "(I)V"⟩, 13) := ⟨⟨by decide +kernel, by decide +kernel⟩, List.mem_of_getElem? (i := 316) (by decide +kernel), List.mem_of_getElem? (i := 1035) (by decide +kernel), List.mem_of_getElem? (i := 1036) (by decide +kernel)⟩
theorem lw_p65 : lw_okq (⟨"FiberWorks$Machine", "layDown", "(I)V"⟩, 13) := ⟨⟨by decide +kernel, by decide +kernel⟩, List.mem_of_getElem? (i := 316) (by decide +kernel), List.mem_of_getElem? (i := 1039) (by decide +kernel), List.mem_of_getElem? (i := 1040) (by decide +kernel)⟩
theorem lw_p66 : lw_okq (⟨"FiberWorks$Machine", "perform", "(I)V"⟩, 13) := ⟨⟨by decide +kernel, by decide +kernel⟩, List.mem_of_getElem? (i := 316) (by decide +kernel), List.mem_of_getElem? (i := 1044) (by decide +kernel), List.mem_of_getElem? (i := 1045) (by decide +kernel)⟩
theorem lw_p67 : lw_okq (⟨"FiberWorks$Machine", "framesToHandler", "(I)I"⟩, 13) := ⟨⟨by decide +kernel, by decide +kernel⟩, List.mem_of_getElem? (i := 316) (by decide +kernel), List.mem_of_getElem? (i := 1048) (by decide +kernel), List.mem_of_getElem? (i := 1049) (by decide +kernel)⟩
theorem lw_p68 : lw_okq (⟨"FiberWorks$Machine", "clauseOf", "(II)I"⟩, 13) := ⟨⟨by decide +kernel, by decide +kernel⟩, List.mem_of_getElem? (i := 316) (by decide +kernel), List.mem_of_getElem? (i := 1052) (by decide +kernel), List.mem_of_getElem? (i := 1053) (by decide +kernel)⟩
theorem lw_p69 : lw_okq (⟨"FiberWorks$Machine", "frameBelow", "(I)I"⟩, 13) := ⟨⟨by decide +kernel, by decide +kernel⟩, List.mem_of_getElem? (i := 316) (by decide +kernel), List.mem_of_getElem? (i := 1056) (by decide +kernel), List.mem_of_getElem? (i := 1057) (by decide +kernel)⟩
theorem lw_p70 : lw_okq (⟨"FiberWorks$Machine", "takeUp", "(II)I"⟩, 13) := ⟨⟨by decide +kernel, by decide +kernel⟩, List.mem_of_getElem? (i := 316) (by decide +kernel), List.mem_of_getElem? (i := 1060) (by decide +kernel), List.mem_of_getElem? (i := 1061) (by decide +kernel)⟩
theorem lw_p71 : lw_okq (⟨"FiberWorks$Machine", "makeFunction", "()V"⟩, 13) := ⟨⟨by decide +kernel, by decide +kernel⟩, List.mem_of_getElem? (i := 316) (by decide +kernel), List.mem_of_getElem? (i := 1064) (by decide +kernel), List.mem_of_getElem? (i := 1065) (by decide +kernel)⟩
theorem lw_p72 : lw_okq (⟨"FiberWorks$Machine", "closeOver", "()I"⟩, 13) := ⟨⟨by decide +kernel, by decide +kernel⟩, List.mem_of_getElem? (i := 316) (by decide +kernel), List.mem_of_getElem? (i := 1068) (by decide +kernel), List.mem_of_getElem? (i := 1069) (by decide +kernel)⟩
theorem lw_p73 : lw_okq (⟨"FiberWorks$Machine", "handle", "()V"⟩, 13) := ⟨⟨by decide +kernel, by decide +kernel⟩, List.mem_of_getElem? (i := 316) (by decide +kernel), List.mem_of_getElem? (i := 1072) (by decide +kernel), List.mem_of_getElem? (i := 1073) (by decide +kernel)⟩
theorem lw_p74 : lw_okq (⟨"FiberWorks$Machine", "closeFrame", "()V"⟩, 13) := ⟨⟨by decide +kernel, by decide +kernel⟩, List.mem_of_getElem? (i := 316) (by decide +kernel), List.mem_of_getElem? (i := 1076) (by decide +kernel), List.mem_of_getElem? (i := 1077) (by decide +kernel)⟩
theorem lw_p75 : lw_okq (⟨"FiberWorks$Machine", "finish", "()V"⟩, 13) := ⟨⟨by decide +kernel, by decide +kernel⟩, List.mem_of_getElem? (i := 316) (by decide +kernel), List.mem_of_getElem? (i := 1080) (by decide +kernel), List.mem_of_getElem? (i := 1081) (by decide +kernel)⟩
theorem lw_p76 : lw_okq (⟨"FiberWorksModel", "clearRun", "()V"⟩, 123) := ⟨⟨by decide +kernel, by decide +kernel⟩, List.mem_of_getElem? (i := 1084) (by decide +kernel), List.mem_of_getElem? (i := 1482) (by decide +kernel), List.mem_of_getElem? (i := 1483) (by decide +kernel)⟩
theorem lw_p77 : lw_okq (⟨"FiberWorksModel", "readAll", "()V"⟩, 123) := ⟨⟨by decide +kernel, by decide +kernel⟩, List.mem_of_getElem? (i := 1084) (by decide +kernel), List.mem_of_getElem? (i := 1486) (by decide +kernel), List.mem_of_getElem? (i := 1487) (by decide +kernel)⟩
theorem lw_p78 : lw_okq (⟨"FiberWorksModel", "next", "()V"⟩, 123) := ⟨⟨by decide +kernel, by decide +kernel⟩, List.mem_of_getElem? (i := 1084) (by decide +kernel), List.mem_of_getElem? (i := 1490) (by decide +kernel), List.mem_of_getElem? (i := 1491) (by decide +kernel)⟩
theorem lw_p79 : lw_okq (⟨"FiberWorksModel", "byteAt", "(I)I"⟩, 123) := ⟨⟨by decide +kernel, by decide +kernel⟩, List.mem_of_getElem? (i := 1084) (by decide +kernel), List.mem_of_getElem? (i := 1494) (by decide +kernel), List.mem_of_getElem? (i := 1495) (by decide +kernel)⟩
def lw_privs_5 : List (MethodName × Nat) := [(⟨"FiberWorks$Machine", "goOn", "(I)V"⟩, 13), (⟨"FiberWorks$Machine", "layDown", "(I)V"⟩, 13), (⟨"FiberWorks$Machine", "perform", "(I)V"⟩, 13), (⟨"FiberWorks$Machine", "framesToHandler", "(I)I"⟩, 13), (⟨"FiberWorks$Machine", "clauseOf", "(II)I"⟩, 13), (⟨"FiberWorks$Machine", "frameBelow", "(I)I"⟩, 13), (⟨"FiberWorks$Machine", "takeUp", "(II)I"⟩, 13), (⟨"FiberWorks$Machine", "makeFunction", "()V"⟩, 13), (⟨"FiberWorks$Machine", "closeOver", "()I"⟩, 13), (⟨"FiberWorks$Machine", "handle", "()V"⟩, 13), (⟨"FiberWorks$Machine", "closeFrame", "()V"⟩, 13), (⟨"FiberWorks$Machine", "finish", "()V"⟩, 13), (⟨"FiberWorksModel", "clearRun", "()V"⟩, 123), (⟨"FiberWorksModel", "readAll", "()V"⟩, 123), (⟨"FiberWorksModel", "next", "()V"⟩, 123), (⟨"FiberWorksModel", "byteAt", "(I)I"⟩, 123)]
theorem lw_r5 : ∀ q ∈ lw_privs_5, lw_okq q := List.forall_mem_cons.mpr ⟨lw_p64, List.forall_mem_cons.mpr ⟨lw_p65, List.forall_mem_cons.mpr ⟨lw_p66, List.forall_mem_cons.mpr ⟨lw_p67, List.forall_mem_cons.mpr ⟨lw_p68, List.forall_mem_cons.mpr ⟨lw_p69, List.forall_mem_cons.mpr ⟨lw_p70, List.forall_mem_cons.mpr ⟨lw_p71, List.forall_mem_cons.mpr ⟨lw_p72, List.forall_mem_cons.mpr ⟨lw_p73, List.forall_mem_cons.mpr ⟨lw_p74, List.forall_mem_cons.mpr ⟨lw_p75, List.forall_mem_cons.mpr ⟨lw_p76, List.forall_mem_cons.mpr ⟨lw_p77, List.forall_mem_cons.mpr ⟨lw_p78, List.forall_mem_cons.mpr ⟨lw_p79, fun _ h => absurd h List.not_mem_nil⟩⟩⟩⟩⟩⟩⟩⟩⟩⟩⟩⟩⟩⟩⟩⟩
theorem lw_p80 : lw_okq (⟨"FiberWorksModel", "look", "()V"⟩, 123) := ⟨⟨by decide +kernel, by decide +kernel⟩, List.mem_of_getElem? (i := 1084) (by decide +kernel), List.mem_of_getElem? (i := 1498) (by decide +kernel), List.mem_of_getElem? (i := 1499) (by decide +kernel)⟩
theorem lw_p81 : lw_okq (⟨"FiberWorksModel", "keyword", "()I"⟩, 123) := ⟨⟨by decide +kernel, by decide +kernel⟩, List.mem_of_getElem? (i := 1084) (by decide +kernel), List.mem_of_getElem? (i := 1511) (by decide +kernel), List.mem_of_getElem? (i := 1512) (by decide +kernel)⟩
theorem lw_p82 : lw_okq (⟨"FiberWorksModel", "declare", "()V"⟩, 123) := ⟨⟨by decide +kernel, by decide +kernel⟩, List.mem_of_getElem? (i := 1084) (by decide +kernel), List.mem_of_getElem? (i := 1518) (by decide +kernel), List.mem_of_getElem? (i := 1519) (by decide +kernel)⟩
theorem lw_p83 : lw_okq (⟨"FiberWorksModel", "wrong", "(II)V"⟩, 123) := ⟨⟨by decide +kernel, by decide +kernel⟩, List.mem_of_getElem? (i := 1084) (by decide +kernel), List.mem_of_getElem? (i := 1522) (by decide +kernel), List.mem_of_getElem? (i := 1523) (by decide +kernel)⟩
theorem lw_p84 : lw_okq (⟨"FiberWorksModel", "bad", "()V"⟩, 123) := ⟨⟨by decide +kernel, by decide +kernel⟩, List.mem_of_getElem? (i := 1084) (by decide +kernel), List.mem_of_getElem? (i := 1526) (by decide +kernel), List.mem_of_getElem? (i := 1527) (by decide +kernel)⟩
theorem lw_p85 : lw_okq (⟨"FiberWorksModel", "effectHere", "()I"⟩, 123) := ⟨⟨by decide +kernel, by decide +kernel⟩, List.mem_of_getElem? (i := 1084) (by decide +kernel), List.mem_of_getElem? (i := 1530) (by decide +kernel), List.mem_of_getElem? (i := 1531) (by decide +kernel)⟩
theorem lw_p86 : lw_okq (⟨"FiberWorksModel", "sameText", "(IIII)Z"⟩, 123) := ⟨⟨by decide +kernel, by decide +kernel⟩, List.mem_of_getElem? (i := 1084) (by decide +kernel), List.mem_of_getElem? (i := 1534) (by decide +kernel), List.mem_of_getElem? (i := 1535) (by decide +kernel)⟩
theorem lw_p87 : lw_okq (⟨"FiberWorksModel", "need", "(I)V"⟩, 123) := ⟨⟨by decide +kernel, by decide +kernel⟩, List.mem_of_getElem? (i := 1084) (by decide +kernel), List.mem_of_getElem? (i := 1538) (by decide +kernel), List.mem_of_getElem? (i := 1539) (by decide +kernel)⟩
theorem lw_p88 : lw_okq (⟨"FiberWorksModel", "takeType", "()I"⟩, 123) := ⟨⟨by decide +kernel, by decide +kernel⟩, List.mem_of_getElem? (i := 1084) (by decide +kernel), List.mem_of_getElem? (i := 1542) (by decide +kernel), List.mem_of_getElem? (i := 1543) (by decide +kernel)⟩
theorem lw_p89 : lw_okq (⟨"FiberWorksModel", "takeRow", "()I"⟩, 123) := ⟨⟨by decide +kernel, by decide +kernel⟩, List.mem_of_getElem? (i := 1084) (by decide +kernel), List.mem_of_getElem? (i := 1546) (by decide +kernel), List.mem_of_getElem? (i := 1547) (by decide +kernel)⟩
theorem lw_p90 : lw_okq (⟨"FiberWorksModel", "takeEffect", "()I"⟩, 123) := ⟨⟨by decide +kernel, by decide +kernel⟩, List.mem_of_getElem? (i := 1084) (by decide +kernel), List.mem_of_getElem? (i := 1550) (by decide +kernel), List.mem_of_getElem? (i := 1551) (by decide +kernel)⟩
theorem lw_p91 : lw_okq (⟨"FiberWorksModel", "function", "(III)I"⟩, 123) := ⟨⟨by decide +kernel, by decide +kernel⟩, List.mem_of_getElem? (i := 1084) (by decide +kernel), List.mem_of_getElem? (i := 1554) (by decide +kernel), List.mem_of_getElem? (i := 1555) (by decide +kernel)⟩
theorem lw_p92 : lw_okq (⟨"FiberWorksModel", "ask", "(II)V"⟩, 123) := ⟨⟨by decide +kernel, by decide +kernel⟩, List.mem_of_getElem? (i := 1084) (by decide +kernel), List.mem_of_getElem? (i := 1558) (by decide +kernel), List.mem_of_getElem? (i := 1559) (by decide +kernel)⟩
theorem lw_p93 : lw_okq (⟨"FiberWorksModel", "begin", "()V"⟩, 123) := ⟨⟨by decide +kernel, by decide +kernel⟩, List.mem_of_getElem? (i := 1084) (by decide +kernel), List.mem_of_getElem? (i := 1562) (by decide +kernel), List.mem_of_getElem? (i := 1563) (by decide +kernel)⟩
theorem lw_p94 : lw_okq (⟨"FiberWorksModel", "beginLet", "(I)V"⟩, 123) := ⟨⟨by decide +kernel, by decide +kernel⟩, List.mem_of_getElem? (i := 1084) (by decide +kernel), List.mem_of_getElem? (i := 1566) (by decide +kernel), List.mem_of_getElem? (i := 1567) (by decide +kernel)⟩
theorem lw_p95 : lw_okq (⟨"FiberWorksModel", "beginForm", "(II)I"⟩, 123) := ⟨⟨by decide +kernel, by decide +kernel⟩, List.mem_of_getElem? (i := 1084) (by decide +kernel), List.mem_of_getElem? (i := 1570) (by decide +kernel), List.mem_of_getElem? (i := 1571) (by decide +kernel)⟩
def lw_privs_6 : List (MethodName × Nat) := [(⟨"FiberWorksModel", "look", "()V"⟩, 123), (⟨"FiberWorksModel", "keyword", "()I"⟩, 123), (⟨"FiberWorksModel", "declare", "()V"⟩, 123), (⟨"FiberWorksModel", "wrong", "(II)V"⟩, 123), (⟨"FiberWorksModel", "bad", "()V"⟩, 123), (⟨"FiberWorksModel", "effectHere", "()I"⟩, 123), (⟨"FiberWorksModel", "sameText", "(IIII)Z"⟩, 123), (⟨"FiberWorksModel", "need", "(I)V"⟩, 123), (⟨"FiberWorksModel", "takeType", "()I"⟩, 123), (⟨"FiberWorksModel", "takeRow", "()I"⟩, 123), (⟨"FiberWorksModel", "takeEffect", "()I"⟩, 123), (⟨"FiberWorksModel", "function", "(III)I"⟩, 123), (⟨"FiberWorksModel", "ask", "(II)V"⟩, 123), (⟨"FiberWorksModel", "begin", "()V"⟩, 123), (⟨"FiberWorksModel", "beginLet", "(I)V"⟩, 123), (⟨"FiberWorksModel", "beginForm", "(II)I"⟩, 123)]
theorem lw_r6 : ∀ q ∈ lw_privs_6, lw_okq q := List.forall_mem_cons.mpr ⟨lw_p80, List.forall_mem_cons.mpr ⟨lw_p81, List.forall_mem_cons.mpr ⟨lw_p82, List.forall_mem_cons.mpr ⟨lw_p83, List.forall_mem_cons.mpr ⟨lw_p84, List.forall_mem_cons.mpr ⟨lw_p85, List.forall_mem_cons.mpr ⟨lw_p86, List.forall_mem_cons.mpr ⟨lw_p87, List.forall_mem_cons.mpr ⟨lw_p88, List.forall_mem_cons.mpr ⟨lw_p89, List.forall_mem_cons.mpr ⟨lw_p90, List.forall_mem_cons.mpr ⟨lw_p91, List.forall_mem_cons.mpr ⟨lw_p92, List.forall_mem_cons.mpr ⟨lw_p93, List.forall_mem_cons.mpr ⟨lw_p94, List.forall_mem_cons.mpr ⟨lw_p95, fun _ h => absurd h List.not_mem_nil⟩⟩⟩⟩⟩⟩⟩⟩⟩⟩⟩⟩⟩⟩⟩⟩
theorem lw_p96 : lw_okq (⟨"FiberWorksModel", "node", "(I)I"⟩, 123) := ⟨⟨by decide +kernel, by decide +kernel⟩, List.mem_of_getElem? (i := 1084) (by decide +kernel), List.mem_of_getElem? (i := 1574) (by decide +kernel), List.mem_of_getElem? (i := 1575) (by decide +kernel)⟩
theorem lw_p97 : lw_okq (⟨"FiberWorksModel", "name", "(I)V"⟩, 123) := ⟨⟨by decide +kernel, by decide +kernel⟩, List.mem_of_getElem? (i := 1084) (by decide +kernel), List.mem_of_getElem? (i := 1578) (by decide +kernel), List.mem_of_getElem? (i := 1579) (by decide +kernel)⟩
theorem lw_p98 : lw_okq (⟨"FiberWorksModel", "beginRec", "(I)V"⟩, 123) := ⟨⟨by decide +kernel, by decide +kernel⟩, List.mem_of_getElem? (i := 1084) (by decide +kernel), List.mem_of_getElem? (i := 1582) (by decide +kernel), List.mem_of_getElem? (i := 1583) (by decide +kernel)⟩
theorem lw_p99 : lw_okq (⟨"FiberWorksModel", "otherName", "(I)V"⟩, 123) := ⟨⟨by decide +kernel, by decide +kernel⟩, List.mem_of_getElem? (i := 1084) (by decide +kernel), List.mem_of_getElem? (i := 1586) (by decide +kernel), List.mem_of_getElem? (i := 1587) (by decide +kernel)⟩
theorem lw_p100 : lw_okq (⟨"FiberWorksModel", "beginPlain", "(II)V"⟩, 123) := ⟨⟨by decide +kernel, by decide +kernel⟩, List.mem_of_getElem? (i := 1084) (by decide +kernel), List.mem_of_getElem? (i := 1590) (by decide +kernel), List.mem_of_getElem? (i := 1591) (by decide +kernel)⟩
theorem lw_p101 : lw_okq (⟨"FiberWorksModel", "beginFn", "(I)V"⟩, 123) := ⟨⟨by decide +kernel, by decide +kernel⟩, List.mem_of_getElem? (i := 1084) (by decide +kernel), List.mem_of_getElem? (i := 1594) (by decide +kernel), List.mem_of_getElem? (i := 1595) (by decide +kernel)⟩
theorem lw_p102 : lw_okq (⟨"FiberWorksModel", "want", "(I)V"⟩, 123) := ⟨⟨by decide +kernel, by decide +kernel⟩, List.mem_of_getElem? (i := 1084) (by decide +kernel), List.mem_of_getElem? (i := 1598) (by decide +kernel), List.mem_of_getElem? (i := 1599) (by decide +kernel)⟩
theorem lw_p103 : lw_okq (⟨"FiberWorksModel", "isAtom", "()Z"⟩, 123) := ⟨⟨by decide +kernel, by decide +kernel⟩, List.mem_of_getElem? (i := 1084) (by decide +kernel), List.mem_of_getElem? (i := 1602) (by decide +kernel), List.mem_of_getElem? (i := 1603) (by decide +kernel)⟩
theorem lw_p104 : lw_okq (⟨"FiberWorksModel", "atom", "(III)V"⟩, 123) := ⟨⟨by decide +kernel, by decide +kernel⟩, List.mem_of_getElem? (i := 1084) (by decide +kernel), List.mem_of_getElem? (i := 1606) (by decide +kernel), List.mem_of_getElem? (i := 1607) (by decide +kernel)⟩
theorem lw_p105 : lw_okq (⟨"FiberWorksModel", "nodeOf", "(IIIII)I"⟩, 123) := ⟨⟨by decide +kernel, by decide +kernel⟩, List.mem_of_getElem? (i := 1084) (by decide +kernel), List.mem_of_getElem? (i := 1610) (by decide +kernel), List.mem_of_getElem? (i := 1611) (by decide +kernel)⟩
theorem lw_p106 : lw_okq (⟨"FiberWorksModel", "after", "(I)V"⟩, 123) := ⟨⟨by decide +kernel, by decide +kernel⟩, List.mem_of_getElem? (i := 1084) (by decide +kernel), List.mem_of_getElem? (i := 1614) (by decide +kernel), List.mem_of_getElem? (i := 1615) (by decide +kernel)⟩
theorem lw_p107 : lw_okq (⟨"FiberWorksModel", "endCall", "(I)V"⟩, 123) := ⟨⟨by decide +kernel, by decide +kernel⟩, List.mem_of_getElem? (i := 1084) (by decide +kernel), List.mem_of_getElem? (i := 1618) (by decide +kernel), List.mem_of_getElem? (i := 1619) (by decide +kernel)⟩
theorem lw_p108 : lw_okq (⟨"FiberWorksModel", "sign", "()V"⟩, 123) := ⟨⟨by decide +kernel, by decide +kernel⟩, List.mem_of_getElem? (i := 1084) (by decide +kernel), List.mem_of_getElem? (i := 1622) (by decide +kernel), List.mem_of_getElem? (i := 1623) (by decide +kernel)⟩
theorem lw_p109 : lw_okq (⟨"FiberWorksModel", "endTerm", "(I)V"⟩, 123) := ⟨⟨by decide +kernel, by decide +kernel⟩, List.mem_of_getElem? (i := 1084) (by decide +kernel), List.mem_of_getElem? (i := 1626) (by decide +kernel), List.mem_of_getElem? (i := 1627) (by decide +kernel)⟩
theorem lw_p110 : lw_okq (⟨"FiberWorksModel", "endSum", "(I)V"⟩, 123) := ⟨⟨by decide +kernel, by decide +kernel⟩, List.mem_of_getElem? (i := 1084) (by decide +kernel), List.mem_of_getElem? (i := 1630) (by decide +kernel), List.mem_of_getElem? (i := 1631) (by decide +kernel)⟩
theorem lw_p111 : lw_okq (⟨"FiberWorksModel", "close", "()V"⟩, 123) := ⟨⟨by decide +kernel, by decide +kernel⟩, List.mem_of_getElem? (i := 1084) (by decide +kernel), List.mem_of_getElem? (i := 1634) (by decide +kernel), List.mem_of_getElem? (i := 1635) (by decide +kernel)⟩
def lw_privs_7 : List (MethodName × Nat) := [(⟨"FiberWorksModel", "node", "(I)I"⟩, 123), (⟨"FiberWorksModel", "name", "(I)V"⟩, 123), (⟨"FiberWorksModel", "beginRec", "(I)V"⟩, 123), (⟨"FiberWorksModel", "otherName", "(I)V"⟩, 123), (⟨"FiberWorksModel", "beginPlain", "(II)V"⟩, 123), (⟨"FiberWorksModel", "beginFn", "(I)V"⟩, 123), (⟨"FiberWorksModel", "want", "(I)V"⟩, 123), (⟨"FiberWorksModel", "isAtom", "()Z"⟩, 123), (⟨"FiberWorksModel", "atom", "(III)V"⟩, 123), (⟨"FiberWorksModel", "nodeOf", "(IIIII)I"⟩, 123), (⟨"FiberWorksModel", "after", "(I)V"⟩, 123), (⟨"FiberWorksModel", "endCall", "(I)V"⟩, 123), (⟨"FiberWorksModel", "sign", "()V"⟩, 123), (⟨"FiberWorksModel", "endTerm", "(I)V"⟩, 123), (⟨"FiberWorksModel", "endSum", "(I)V"⟩, 123), (⟨"FiberWorksModel", "close", "()V"⟩, 123)]
theorem lw_r7 : ∀ q ∈ lw_privs_7, lw_okq q := List.forall_mem_cons.mpr ⟨lw_p96, List.forall_mem_cons.mpr ⟨lw_p97, List.forall_mem_cons.mpr ⟨lw_p98, List.forall_mem_cons.mpr ⟨lw_p99, List.forall_mem_cons.mpr ⟨lw_p100, List.forall_mem_cons.mpr ⟨lw_p101, List.forall_mem_cons.mpr ⟨lw_p102, List.forall_mem_cons.mpr ⟨lw_p103, List.forall_mem_cons.mpr ⟨lw_p104, List.forall_mem_cons.mpr ⟨lw_p105, List.forall_mem_cons.mpr ⟨lw_p106, List.forall_mem_cons.mpr ⟨lw_p107, List.forall_mem_cons.mpr ⟨lw_p108, List.forall_mem_cons.mpr ⟨lw_p109, List.forall_mem_cons.mpr ⟨lw_p110, List.forall_mem_cons.mpr ⟨lw_p111, fun _ h => absurd h List.not_mem_nil⟩⟩⟩⟩⟩⟩⟩⟩⟩⟩⟩⟩⟩⟩⟩⟩
theorem lw_p112 : lw_okq (⟨"FiberWorksModel", "part", "(II)V"⟩, 123) := ⟨⟨by decide +kernel, by decide +kernel⟩, List.mem_of_getElem? (i := 1084) (by decide +kernel), List.mem_of_getElem? (i := 1638) (by decide +kernel), List.mem_of_getElem? (i := 1639) (by decide +kernel)⟩
theorem lw_p113 : lw_okq (⟨"FiberWorksModel", "whole", "(I)V"⟩, 123) := ⟨⟨by decide +kernel, by decide +kernel⟩, List.mem_of_getElem? (i := 1084) (by decide +kernel), List.mem_of_getElem? (i := 1642) (by decide +kernel), List.mem_of_getElem? (i := 1643) (by decide +kernel)⟩
theorem lw_p114 : lw_okq (⟨"FiberWorksModel", "toReturn", "(I)V"⟩, 123) := ⟨⟨by decide +kernel, by decide +kernel⟩, List.mem_of_getElem? (i := 1084) (by decide +kernel), List.mem_of_getElem? (i := 1646) (by decide +kernel), List.mem_of_getElem? (i := 1647) (by decide +kernel)⟩
theorem lw_p115 : lw_okq (⟨"FiberWorksModel", "toClause", "(I)V"⟩, 123) := ⟨⟨by decide +kernel, by decide +kernel⟩, List.mem_of_getElem? (i := 1084) (by decide +kernel), List.mem_of_getElem? (i := 1650) (by decide +kernel), List.mem_of_getElem? (i := 1651) (by decide +kernel)⟩
theorem lw_p116 : lw_okq (⟨"FiberWorksModel", "checkAll", "()V"⟩, 123) := ⟨⟨by decide +kernel, by decide +kernel⟩, List.mem_of_getElem? (i := 1084) (by decide +kernel), List.mem_of_getElem? (i := 1654) (by decide +kernel), List.mem_of_getElem? (i := 1655) (by decide +kernel)⟩
theorem lw_p117 : lw_okq (⟨"FiberWorksModel", "pile", "(II)V"⟩, 123) := ⟨⟨by decide +kernel, by decide +kernel⟩, List.mem_of_getElem? (i := 1084) (by decide +kernel), List.mem_of_getElem? (i := 1658) (by decide +kernel), List.mem_of_getElem? (i := 1659) (by decide +kernel)⟩
theorem lw_p118 : lw_okq (⟨"FiberWorksModel", "checkLet", "(III)V"⟩, 123) := ⟨⟨by decide +kernel, by decide +kernel⟩, List.mem_of_getElem? (i := 1084) (by decide +kernel), List.mem_of_getElem? (i := 1662) (by decide +kernel), List.mem_of_getElem? (i := 1663) (by decide +kernel)⟩
theorem lw_p119 : lw_okq (⟨"FiberWorksModel", "bind", "(IIII)I"⟩, 123) := ⟨⟨by decide +kernel, by decide +kernel⟩, List.mem_of_getElem? (i := 1084) (by decide +kernel), List.mem_of_getElem? (i := 1666) (by decide +kernel), List.mem_of_getElem? (i := 1667) (by decide +kernel)⟩
theorem lw_p120 : lw_okq (⟨"FiberWorksModel", "typed", "(III)V"⟩, 123) := ⟨⟨by decide +kernel, by decide +kernel⟩, List.mem_of_getElem? (i := 1084) (by decide +kernel), List.mem_of_getElem? (i := 1670) (by decide +kernel), List.mem_of_getElem? (i := 1671) (by decide +kernel)⟩
theorem lw_p121 : lw_okq (⟨"FiberWorksModel", "checkRec", "(III)V"⟩, 123) := ⟨⟨by decide +kernel, by decide +kernel⟩, List.mem_of_getElem? (i := 1084) (by decide +kernel), List.mem_of_getElem? (i := 1674) (by decide +kernel), List.mem_of_getElem? (i := 1675) (by decide +kernel)⟩
theorem lw_p122 : lw_okq (⟨"FiberWorksModel", "fits", "(II)Z"⟩, 123) := ⟨⟨by decide +kernel, by decide +kernel⟩, List.mem_of_getElem? (i := 1084) (by decide +kernel), List.mem_of_getElem? (i := 1678) (by decide +kernel), List.mem_of_getElem? (i := 1679) (by decide +kernel)⟩
theorem lw_p123 : lw_okq (⟨"FiberWorksModel", "must", "(ZII)V"⟩, 123) := ⟨⟨by decide +kernel, by decide +kernel⟩, List.mem_of_getElem? (i := 1084) (by decide +kernel), List.mem_of_getElem? (i := 1682) (by decide +kernel), List.mem_of_getElem? (i := 1683) (by decide +kernel)⟩
theorem lw_p124 : lw_okq (⟨"FiberWorksModel", "checkIf", "(III)V"⟩, 123) := ⟨⟨by decide +kernel, by decide +kernel⟩, List.mem_of_getElem? (i := 1084) (by decide +kernel), List.mem_of_getElem? (i := 1686) (by decide +kernel), List.mem_of_getElem? (i := 1687) (by decide +kernel)⟩
theorem lw_p125 : lw_okq (⟨"FiberWorksModel", "checkFn", "(III)V"⟩, 123) := ⟨⟨by decide +kernel, by decide +kernel⟩, List.mem_of_getElem? (i := 1084) (by decide +kernel), List.mem_of_getElem? (i := 1690) (by decide +kernel), List.mem_of_getElem? (i := 1691) (by decide +kernel)⟩
theorem lw_p126 : lw_okq (⟨"FiberWorksModel", "checkHandle", "(IIII)V"⟩, 123) := ⟨⟨by decide +kernel, by decide +kernel⟩, List.mem_of_getElem? (i := 1084) (by decide +kernel), List.mem_of_getElem? (i := 1694) (by decide +kernel), List.mem_of_getElem? (i := 1695) (by decide +kernel)⟩
theorem lw_p127 : lw_okq (⟨"FiberWorksModel", "nextClause", "(III)V"⟩, 123) := ⟨⟨by decide +kernel, by decide +kernel⟩, List.mem_of_getElem? (i := 1084) (by decide +kernel), List.mem_of_getElem? (i := 1698) (by decide +kernel), List.mem_of_getElem? (i := 1699) (by decide +kernel)⟩
def lw_privs_8 : List (MethodName × Nat) := [(⟨"FiberWorksModel", "part", "(II)V"⟩, 123), (⟨"FiberWorksModel", "whole", "(I)V"⟩, 123), (⟨"FiberWorksModel", "toReturn", "(I)V"⟩, 123), (⟨"FiberWorksModel", "toClause", "(I)V"⟩, 123), (⟨"FiberWorksModel", "checkAll", "()V"⟩, 123), (⟨"FiberWorksModel", "pile", "(II)V"⟩, 123), (⟨"FiberWorksModel", "checkLet", "(III)V"⟩, 123), (⟨"FiberWorksModel", "bind", "(IIII)I"⟩, 123), (⟨"FiberWorksModel", "typed", "(III)V"⟩, 123), (⟨"FiberWorksModel", "checkRec", "(III)V"⟩, 123), (⟨"FiberWorksModel", "fits", "(II)Z"⟩, 123), (⟨"FiberWorksModel", "must", "(ZII)V"⟩, 123), (⟨"FiberWorksModel", "checkIf", "(III)V"⟩, 123), (⟨"FiberWorksModel", "checkFn", "(III)V"⟩, 123), (⟨"FiberWorksModel", "checkHandle", "(IIII)V"⟩, 123), (⟨"FiberWorksModel", "nextClause", "(III)V"⟩, 123)]
theorem lw_r8 : ∀ q ∈ lw_privs_8, lw_okq q := List.forall_mem_cons.mpr ⟨lw_p112, List.forall_mem_cons.mpr ⟨lw_p113, List.forall_mem_cons.mpr ⟨lw_p114, List.forall_mem_cons.mpr ⟨lw_p115, List.forall_mem_cons.mpr ⟨lw_p116, List.forall_mem_cons.mpr ⟨lw_p117, List.forall_mem_cons.mpr ⟨lw_p118, List.forall_mem_cons.mpr ⟨lw_p119, List.forall_mem_cons.mpr ⟨lw_p120, List.forall_mem_cons.mpr ⟨lw_p121, List.forall_mem_cons.mpr ⟨lw_p122, List.forall_mem_cons.mpr ⟨lw_p123, List.forall_mem_cons.mpr ⟨lw_p124, List.forall_mem_cons.mpr ⟨lw_p125, List.forall_mem_cons.mpr ⟨lw_p126, List.forall_mem_cons.mpr ⟨lw_p127, fun _ h => absurd h List.not_mem_nil⟩⟩⟩⟩⟩⟩⟩⟩⟩⟩⟩⟩⟩⟩⟩⟩
theorem lw_p128 : lw_okq (⟨"FiberWorksModel", "checkCall", "(III)V"⟩, 123) := ⟨⟨by decide +kernel, by decide +kernel⟩, List.mem_of_getElem? (i := 1084) (by decide +kernel), List.mem_of_getElem? (i := 1702) (by decide +kernel), List.mem_of_getElem? (i := 1703) (by decide +kernel)⟩
theorem lw_p129 : lw_okq (⟨"FiberWorksModel", "checkPerform", "(III)V"⟩, 123) := ⟨⟨by decide +kernel, by decide +kernel⟩, List.mem_of_getElem? (i := 1084) (by decide +kernel), List.mem_of_getElem? (i := 1706) (by decide +kernel), List.mem_of_getElem? (i := 1707) (by decide +kernel)⟩
theorem lw_p130 : lw_okq (⟨"FiberWorksModel", "find", "(III)I"⟩, 123) := ⟨⟨by decide +kernel, by decide +kernel⟩, List.mem_of_getElem? (i := 1084) (by decide +kernel), List.mem_of_getElem? (i := 1710) (by decide +kernel), List.mem_of_getElem? (i := 1711) (by decide +kernel)⟩
theorem lw_p131 : lw_okq (⟨"FiberWorksModel", "checkTwo", "(III)V"⟩, 123) := ⟨⟨by decide +kernel, by decide +kernel⟩, List.mem_of_getElem? (i := 1084) (by decide +kernel), List.mem_of_getElem? (i := 1714) (by decide +kernel), List.mem_of_getElem? (i := 1715) (by decide +kernel)⟩
theorem lw_p132 : lw_okq (⟨"FiberWorksModel", "typeAt", "(I)I"⟩, 123) := ⟨⟨by decide +kernel, by decide +kernel⟩, List.mem_of_getElem? (i := 1084) (by decide +kernel), List.mem_of_getElem? (i := 1727) (by decide +kernel), List.mem_of_getElem? (i := 1728) (by decide +kernel)⟩
theorem lw_p133 : lw_okq (⟨"FiberWorksModel", "beginNode", "()V"⟩, 123) := ⟨⟨by decide +kernel, by decide +kernel⟩, List.mem_of_getElem? (i := 1084) (by decide +kernel), List.mem_of_getElem? (i := 1743) (by decide +kernel), List.mem_of_getElem? (i := 1744) (by decide +kernel)⟩
theorem lw_p134 : lw_okq (⟨"FiberWorksModel", "give", "(I)V"⟩, 123) := ⟨⟨by decide +kernel, by decide +kernel⟩, List.mem_of_getElem? (i := 1084) (by decide +kernel), List.mem_of_getElem? (i := 1747) (by decide +kernel), List.mem_of_getElem? (i := 1748) (by decide +kernel)⟩
theorem lw_p135 : lw_okq (⟨"FiberWorksModel", "put", "(IIII)V"⟩, 123) := ⟨⟨by decide +kernel, by decide +kernel⟩, List.mem_of_getElem? (i := 1084) (by decide +kernel), List.mem_of_getElem? (i := 1751) (by decide +kernel), List.mem_of_getElem? (i := 1752) (by decide +kernel)⟩
theorem lw_p136 : lw_okq (⟨"FiberWorksModel", "work", "(II)V"⟩, 123) := ⟨⟨by decide +kernel, by decide +kernel⟩, List.mem_of_getElem? (i := 1084) (by decide +kernel), List.mem_of_getElem? (i := 1755) (by decide +kernel), List.mem_of_getElem? (i := 1756) (by decide +kernel)⟩
theorem lw_p137 : lw_okq (⟨"FiberWorksModel", "newFunction", "(II)I"⟩, 123) := ⟨⟨by decide +kernel, by decide +kernel⟩, List.mem_of_getElem? (i := 1084) (by decide +kernel), List.mem_of_getElem? (i := 1759) (by decide +kernel), List.mem_of_getElem? (i := 1760) (by decide +kernel)⟩
theorem lw_p138 : lw_okq (⟨"FiberWorksModel", "beginRecursive", "(II)V"⟩, 123) := ⟨⟨by decide +kernel, by decide +kernel⟩, List.mem_of_getElem? (i := 1084) (by decide +kernel), List.mem_of_getElem? (i := 1763) (by decide +kernel), List.mem_of_getElem? (i := 1764) (by decide +kernel)⟩
theorem lw_p139 : lw_okq (⟨"FiberWorksModel", "named", "(IIII)I"⟩, 123) := ⟨⟨by decide +kernel, by decide +kernel⟩, List.mem_of_getElem? (i := 1084) (by decide +kernel), List.mem_of_getElem? (i := 1767) (by decide +kernel), List.mem_of_getElem? (i := 1768) (by decide +kernel)⟩
theorem lw_p140 : lw_okq (⟨"FiberWorksModel", "collect", "(II)V"⟩, 123) := ⟨⟨by decide +kernel, by decide +kernel⟩, List.mem_of_getElem? (i := 1084) (by decide +kernel), List.mem_of_getElem? (i := 1771) (by decide +kernel), List.mem_of_getElem? (i := 1772) (by decide +kernel)⟩
theorem lw_p141 : lw_okq (⟨"FiberWorksModel", "markFrom", "(I)V"⟩, 123) := ⟨⟨by decide +kernel, by decide +kernel⟩, List.mem_of_getElem? (i := 1084) (by decide +kernel), List.mem_of_getElem? (i := 1775) (by decide +kernel), List.mem_of_getElem? (i := 1776) (by decide +kernel)⟩
theorem lw_p142 : lw_okq (⟨"FiberWorksModel", "goBack", "(I)Z"⟩, 123) := ⟨⟨by decide +kernel, by decide +kernel⟩, List.mem_of_getElem? (i := 1084) (by decide +kernel), List.mem_of_getElem? (i := 1780) (by decide +kernel), List.mem_of_getElem? (i := 1781) (by decide +kernel)⟩
theorem lw_p143 : lw_okq (⟨"FiberWorksModel", "apply", "(II)V"⟩, 123) := ⟨⟨by decide +kernel, by decide +kernel⟩, List.mem_of_getElem? (i := 1084) (by decide +kernel), List.mem_of_getElem? (i := 1787) (by decide +kernel), List.mem_of_getElem? (i := 1788) (by decide +kernel)⟩
def lw_privs_9 : List (MethodName × Nat) := [(⟨"FiberWorksModel", "checkCall", "(III)V"⟩, 123), (⟨"FiberWorksModel", "checkPerform", "(III)V"⟩, 123), (⟨"FiberWorksModel", "find", "(III)I"⟩, 123), (⟨"FiberWorksModel", "checkTwo", "(III)V"⟩, 123), (⟨"FiberWorksModel", "typeAt", "(I)I"⟩, 123), (⟨"FiberWorksModel", "beginNode", "()V"⟩, 123), (⟨"FiberWorksModel", "give", "(I)V"⟩, 123), (⟨"FiberWorksModel", "put", "(IIII)V"⟩, 123), (⟨"FiberWorksModel", "work", "(II)V"⟩, 123), (⟨"FiberWorksModel", "newFunction", "(II)I"⟩, 123), (⟨"FiberWorksModel", "beginRecursive", "(II)V"⟩, 123), (⟨"FiberWorksModel", "named", "(IIII)I"⟩, 123), (⟨"FiberWorksModel", "collect", "(II)V"⟩, 123), (⟨"FiberWorksModel", "markFrom", "(I)V"⟩, 123), (⟨"FiberWorksModel", "goBack", "(I)Z"⟩, 123), (⟨"FiberWorksModel", "apply", "(II)V"⟩, 123)]
theorem lw_r9 : ∀ q ∈ lw_privs_9, lw_okq q := List.forall_mem_cons.mpr ⟨lw_p128, List.forall_mem_cons.mpr ⟨lw_p129, List.forall_mem_cons.mpr ⟨lw_p130, List.forall_mem_cons.mpr ⟨lw_p131, List.forall_mem_cons.mpr ⟨lw_p132, List.forall_mem_cons.mpr ⟨lw_p133, List.forall_mem_cons.mpr ⟨lw_p134, List.forall_mem_cons.mpr ⟨lw_p135, List.forall_mem_cons.mpr ⟨lw_p136, List.forall_mem_cons.mpr ⟨lw_p137, List.forall_mem_cons.mpr ⟨lw_p138, List.forall_mem_cons.mpr ⟨lw_p139, List.forall_mem_cons.mpr ⟨lw_p140, List.forall_mem_cons.mpr ⟨lw_p141, List.forall_mem_cons.mpr ⟨lw_p142, List.forall_mem_cons.mpr ⟨lw_p143, fun _ h => absurd h List.not_mem_nil⟩⟩⟩⟩⟩⟩⟩⟩⟩⟩⟩⟩⟩⟩⟩⟩
theorem lw_p144 : lw_okq (⟨"FiberWorksModel", "perform", "(II)V"⟩, 123) := ⟨⟨by decide +kernel, by decide +kernel⟩, List.mem_of_getElem? (i := 1084) (by decide +kernel), List.mem_of_getElem? (i := 1791) (by decide +kernel), List.mem_of_getElem? (i := 1792) (by decide +kernel)⟩
theorem lw_p145 : lw_okq (⟨"FiberWorksModel", "clauseFor", "(II)I"⟩, 123) := ⟨⟨by decide +kernel, by decide +kernel⟩, List.mem_of_getElem? (i := 1084) (by decide +kernel), List.mem_of_getElem? (i := 1795) (by decide +kernel), List.mem_of_getElem? (i := 1796) (by decide +kernel)⟩
def lw_privs_10 : List (MethodName × Nat) := [(⟨"FiberWorksModel", "perform", "(II)V"⟩, 123), (⟨"FiberWorksModel", "clauseFor", "(II)I"⟩, 123)]
theorem lw_r10 : ∀ q ∈ lw_privs_10, lw_okq q := List.forall_mem_cons.mpr ⟨lw_p144, List.forall_mem_cons.mpr ⟨lw_p145, fun _ h => absurd h List.not_mem_nil⟩⟩
def lw_privs : List (MethodName × Nat) := lw_privs_1 ++ (lw_privs_2 ++ (lw_privs_3 ++ (lw_privs_4 ++ (lw_privs_5 ++ (lw_privs_6 ++ (lw_privs_7 ++ (lw_privs_8 ++ (lw_privs_9 ++ (lw_privs_10)))))))))
def lw_tbl : List Cond := k2_sels lw_privs ++ tables_1
theorem lw_privs_ok : ∀ q ∈ lw_privs, lw_okq q := by
  show ∀ q ∈ lw_privs_1 ++ (lw_privs_2 ++ (lw_privs_3 ++ (lw_privs_4 ++ (lw_privs_5 ++ (lw_privs_6 ++ (lw_privs_7 ++ (lw_privs_8 ++ (lw_privs_9 ++ (lw_privs_10))))))))), lw_okq q
  exact List.forall_mem_append.mpr ⟨lw_r1, List.forall_mem_append.mpr ⟨lw_r2, List.forall_mem_append.mpr ⟨lw_r3, List.forall_mem_append.mpr ⟨lw_r4, List.forall_mem_append.mpr ⟨lw_r5, List.forall_mem_append.mpr ⟨lw_r6, List.forall_mem_append.mpr ⟨lw_r7, List.forall_mem_append.mpr ⟨lw_r8, List.forall_mem_append.mpr ⟨lw_r9, lw_r10⟩⟩⟩⟩⟩⟩⟩⟩⟩
/-- words of one list among another's, by their places -/
theorem z_gir {big : List Cond} (ws : List Cond) (ps : List Nat) (hp : ws = ps.filterMap (fun i => big[i]?)) (h : ws.all goodWord = true) : GoodIn big ws := by
  intro w hw
  have h1 := List.all_eq_true.mp h w hw
  rw [hp] at hw
  obtain ⟨i, -, hi⟩ := List.mem_filterMap.mp hw
  exact ⟨List.mem_of_getElem? hi, good_of_word h1⟩
theorem z_gia {big a b : List Cond} (ha : GoodIn big a) (hb : GoodIn big b) : GoodIn big (a ++ b) := fun w h => (List.mem_append.mp h).elim (ha w) (hb w)
end
section
/-! A plain machine for the bytecode of this claim: values whose references are small numbers, locals as a list, a heap as a list. This part: the instructions that touch the frame alone. -/
def z_tr (ad : Nat → Nat) (v : Value) : Value := match v with
  | .ref i => .ref (ad i)
  | v => v
theorem z_tr_cat (ad : Nat → Nat) (v : Value) : (z_tr ad v).category = v.category := by cases v <;> rfl
def z_trL (ad : Nat → Nat) (lv : List (Nat × Value)) : List (Nat × Value) := lv.map (fun q => (q.1, z_tr ad q.2))
def z_lk (lv : List (Nat × Value)) (k : Nat) : Option Value := match lv with
  | [] => none
  | q :: r => if q.1 = k then some q.2 else z_lk r k
theorem z_lk_mem {lv : List (Nat × Value)} {k : Nat} {v : Value} (h : z_lk lv k = some v) : (k, v) ∈ lv := by
  induction lv with
  | nil => simp [z_lk] at h
  | cons q r ih =>
    unfold z_lk at h
    by_cases hq : q.1 = k
    · rw [if_pos hq] at h
      cases h
      rw [← hq]
      exact List.mem_cons_self
    · rw [if_neg hq] at h
      exact List.mem_cons_of_mem _ (ih h)
theorem z_lk_at {ad : Nat → Nat} {ls : Array Slot} {nL : Nat} {lv : List (Nat × Value)} (hl : lv_has ls nL (z_trL ad lv)) {k : Nat} {v : Value} (h : z_lk lv k = some v) : ls[k]? = some (.val (z_tr ad v)) :=
  hl.2.2 (k, z_tr ad v) (List.mem_map.mpr ⟨(k, v), z_lk_mem h, rfl⟩)
def z_st1 (lv : List (Nat × Value)) (i : Nat) (v : Value) : List (Nat × Value) := (i, v) :: lv.filter (fun q => !(q.1 == i) && !(q.1 + 1 == i && q.2.category == 2))
def z_st2 (lv : List (Nat × Value)) (i : Nat) (v : Value) : List (Nat × Value) := (i, v) :: lv.filter (fun q => !(q.1 == i) && (!(q.1 == i + 1) && !(q.1 + 1 == i && q.2.category == 2)))
theorem z_st1_tr (ad : Nat → Nat) (lv : List (Nat × Value)) (i : Nat) (v : Value) : (i, z_tr ad v) :: (z_trL ad lv).filter (fun q => !(q.1 == i) && !(q.1 + 1 == i && q.2.category == 2)) = z_trL ad (z_st1 lv i v) := by
  simp [z_trL, z_st1, List.filter_map, Function.comp_def, z_tr_cat]
theorem z_st2_tr (ad : Nat → Nat) (lv : List (Nat × Value)) (i : Nat) (v : Value) : (i, z_tr ad v) :: (z_trL ad lv).filter (fun q => !(q.1 == i) && (!(q.1 == i + 1) && !(q.1 + 1 == i && q.2.category == 2))) = z_trL ad (z_st2 lv i v) := by
  simp [z_trL, z_st2, List.filter_map, Function.comp_def, z_tr_cat]
abbrev z_T : Type := Nat × List (Nat × Value) × List Value
/-- one value pushed -/
def z_p0 (n len pc : Nat) (lv : List (Nat × Value)) (st : List Value) (v : Value) : Option z_T := if len = n then some (pc + n, lv, v :: st) else none
theorem z_p0_i {n len pc : Nat} {lv lv' : List (Nat × Value)} {st st' : List Value} {v : Value} {pc' : Nat} (h : z_p0 n len pc lv st v = some (pc', lv', st')) : len = n ∧ pc' = pc + n ∧ lv' = lv ∧ st' = v :: st := by
  unfold z_p0 at h
  split at h
  · cases h
    exact ⟨by assumption, rfl, rfl, rfl⟩
  · cases h
def z_ldI (n k len pc : Nat) (lv : List (Nat × Value)) (st : List Value) : Option z_T := match z_lk lv k with
  | some (.int x) => z_p0 n len pc lv st (.int x)
  | _ => none
theorem z_ldI_i {n k len pc : Nat} {lv lv' : List (Nat × Value)} {st st' : List Value} {pc' : Nat} (h : z_ldI n k len pc lv st = some (pc', lv', st')) : ∃ x, z_lk lv k = some (.int x) ∧ len = n ∧ pc' = pc + n ∧ lv' = lv ∧ st' = .int x :: st := by
  unfold z_ldI at h
  split at h
  · obtain ⟨a, b, c, d⟩ := z_p0_i h
    exact ⟨_, by assumption, a, b, c, d⟩
  · cases h
def z_ldL (n k len pc : Nat) (lv : List (Nat × Value)) (st : List Value) : Option z_T := match z_lk lv k with
  | some (.long x) => z_p0 n len pc lv st (.long x)
  | _ => none
theorem z_ldL_i {n k len pc : Nat} {lv lv' : List (Nat × Value)} {st st' : List Value} {pc' : Nat} (h : z_ldL n k len pc lv st = some (pc', lv', st')) : ∃ x, z_lk lv k = some (.long x) ∧ len = n ∧ pc' = pc + n ∧ lv' = lv ∧ st' = .long x :: st := by
  unfold z_ldL at h
  split at h
  · obtain ⟨a, b, c, d⟩ := z_p0_i h
    exact ⟨_, by assumption, a, b, c, d⟩
  · cases h
def z_ldA (n k len pc : Nat) (lv : List (Nat × Value)) (st : List Value) : Option z_T := match z_lk lv k with
  | some (.ref x) => z_p0 n len pc lv st (.ref x)
  | some .null => z_p0 n len pc lv st .null
  | _ => none
theorem z_ldA_i {n k len pc : Nat} {lv lv' : List (Nat × Value)} {st st' : List Value} {pc' : Nat} (h : z_ldA n k len pc lv st = some (pc', lv', st')) : (∃ x, z_lk lv k = some (.ref x) ∧ len = n ∧ pc' = pc + n ∧ lv' = lv ∧ st' = .ref x :: st) ∨ (z_lk lv k = some .null ∧ len = n ∧ pc' = pc + n ∧ lv' = lv ∧ st' = .null :: st) := by
  unfold z_ldA at h
  split at h
  · obtain ⟨a, b, c, d⟩ := z_p0_i h
    exact Or.inl ⟨_, by assumption, a, b, c, d⟩
  · obtain ⟨a, b, c, d⟩ := z_p0_i h
    exact Or.inr ⟨by assumption, a, b, c, d⟩
  · cases h
def z_sI (nL n k len pc : Nat) (lv : List (Nat × Value)) (st : List Value) : Option z_T := match st with
  | .int x :: r => if len = n ∧ k < nL then some (pc + n, z_st1 lv k (.int x), r) else none
  | _ => none
theorem z_sI_i {nL n k len pc : Nat} {lv lv' : List (Nat × Value)} {st st' : List Value} {pc' : Nat} (h : z_sI nL n k len pc lv st = some (pc', lv', st')) : ∃ x r, st = .int x :: r ∧ len = n ∧ k < nL ∧ pc' = pc + n ∧ lv' = z_st1 lv k (.int x) ∧ st' = r := by
  unfold z_sI at h
  split at h
  · split at h
    · rename_i hc
      cases h
      exact ⟨_, _, rfl, hc.1, hc.2, rfl, rfl, rfl⟩
    · cases h
  · cases h
def z_sL (nL n k len pc : Nat) (lv : List (Nat × Value)) (st : List Value) : Option z_T := match st with
  | .long x :: r => if len = n ∧ k + 1 < nL then some (pc + n, z_st2 lv k (.long x), r) else none
  | _ => none
theorem z_sL_i {nL n k len pc : Nat} {lv lv' : List (Nat × Value)} {st st' : List Value} {pc' : Nat} (h : z_sL nL n k len pc lv st = some (pc', lv', st')) : ∃ x r, st = .long x :: r ∧ len = n ∧ k + 1 < nL ∧ pc' = pc + n ∧ lv' = z_st2 lv k (.long x) ∧ st' = r := by
  unfold z_sL at h
  split at h
  · split at h
    · rename_i hc
      cases h
      exact ⟨_, _, rfl, hc.1, hc.2, rfl, rfl, rfl⟩
    · cases h
  · cases h
def z_sA (nL n k len pc : Nat) (lv : List (Nat × Value)) (st : List Value) : Option z_T := match st with
  | .ref x :: r => if len = n ∧ k < nL then some (pc + n, z_st1 lv k (.ref x), r) else none
  | .null :: r => if len = n ∧ k < nL then some (pc + n, z_st1 lv k .null, r) else none
  | _ => none
theorem z_sA_i {nL n k len pc : Nat} {lv lv' : List (Nat × Value)} {st st' : List Value} {pc' : Nat} (h : z_sA nL n k len pc lv st = some (pc', lv', st')) : (∃ x r, st = .ref x :: r ∧ len = n ∧ k < nL ∧ pc' = pc + n ∧ lv' = z_st1 lv k (.ref x) ∧ st' = r) ∨ (∃ r, st = .null :: r ∧ len = n ∧ k < nL ∧ pc' = pc + n ∧ lv' = z_st1 lv k .null ∧ st' = r) := by
  unfold z_sA at h
  split at h
  · split at h
    · rename_i hc
      cases h
      exact Or.inl ⟨_, _, rfl, hc.1, hc.2, rfl, rfl, rfl⟩
    · cases h
  · split at h
    · rename_i hc
      cases h
      exact Or.inr ⟨_, rfl, hc.1, hc.2, rfl, rfl, rfl⟩
    · cases h
  · cases h
def z_inc (nL k : Nat) (n : Int) (len pc : Nat) (lv : List (Nat × Value)) (st : List Value) : Option z_T := match z_lk lv k with
  | some (.int x) => if len = 3 ∧ k < nL then some (pc + 3, z_st1 lv k (.int (x + Int32.ofInt n)), st) else none
  | _ => none
theorem z_inc_i {nL k : Nat} {n : Int} {len pc : Nat} {lv lv' : List (Nat × Value)} {st st' : List Value} {pc' : Nat} (h : z_inc nL k n len pc lv st = some (pc', lv', st')) : ∃ x, z_lk lv k = some (.int x) ∧ len = 3 ∧ k < nL ∧ pc' = pc + 3 ∧ lv' = z_st1 lv k (.int (x + Int32.ofInt n)) ∧ st' = st := by
  unfold z_inc at h
  split at h
  · split at h
    · rename_i hc
      cases h
      exact ⟨_, by assumption, hc.1, hc.2, rfl, rfl, rfl⟩
    · cases h
  · cases h

def z_b2 (f : Int32 → Int32 → Int32) (len pc : Nat) (lv : List (Nat × Value)) (st : List Value) : Option z_T := match st with
  | .int y :: .int x :: r => if len = 1 then some (pc + 1, lv, .int (f x y) :: r) else none
  | _ => none
theorem z_b2_i {f : Int32 → Int32 → Int32} {len pc : Nat} {lv lv' : List (Nat × Value)} {st st' : List Value} {pc' : Nat} (h : z_b2 f len pc lv st = some (pc', lv', st')) : ∃ x y r, st = .int y :: .int x :: r ∧ (len = 1) ∧ pc' = pc + 1 ∧ lv' = lv ∧ st' = .int (f x y) :: r := by
  unfold z_b2 at h
  split at h
  · split at h
    · cases h
      exact ⟨_, _, _, rfl, by assumption, rfl, rfl, rfl⟩
    · cases h
  · cases h

def z_b2d (f : Int32 → Int32 → Int32) (len pc : Nat) (lv : List (Nat × Value)) (st : List Value) : Option z_T := match st with
  | .int y :: .int x :: r => if len = 1 ∧ ¬ y = 0 then some (pc + 1, lv, .int (f x y) :: r) else none
  | _ => none
theorem z_b2d_i {f : Int32 → Int32 → Int32} {len pc : Nat} {lv lv' : List (Nat × Value)} {st st' : List Value} {pc' : Nat} (h : z_b2d f len pc lv st = some (pc', lv', st')) : ∃ x y r, st = .int y :: .int x :: r ∧ (len = 1 ∧ ¬ y = 0) ∧ pc' = pc + 1 ∧ lv' = lv ∧ st' = .int (f x y) :: r := by
  unfold z_b2d at h
  split at h
  · split at h
    · cases h
      exact ⟨_, _, _, rfl, by assumption, rfl, rfl, rfl⟩
    · cases h
  · cases h

def z_l2 (f : Int64 → Int64 → Int64) (len pc : Nat) (lv : List (Nat × Value)) (st : List Value) : Option z_T := match st with
  | .long y :: .long x :: r => if len = 1 then some (pc + 1, lv, .long (f x y) :: r) else none
  | _ => none
theorem z_l2_i {f : Int64 → Int64 → Int64} {len pc : Nat} {lv lv' : List (Nat × Value)} {st st' : List Value} {pc' : Nat} (h : z_l2 f len pc lv st = some (pc', lv', st')) : ∃ x y r, st = .long y :: .long x :: r ∧ (len = 1) ∧ pc' = pc + 1 ∧ lv' = lv ∧ st' = .long (f x y) :: r := by
  unfold z_l2 at h
  split at h
  · split at h
    · cases h
      exact ⟨_, _, _, rfl, by assumption, rfl, rfl, rfl⟩
    · cases h
  · cases h

def z_lc (f : Int64 → Int64 → Int32) (len pc : Nat) (lv : List (Nat × Value)) (st : List Value) : Option z_T := match st with
  | .long y :: .long x :: r => if len = 1 then some (pc + 1, lv, .int (f x y) :: r) else none
  | _ => none
theorem z_lc_i {f : Int64 → Int64 → Int32} {len pc : Nat} {lv lv' : List (Nat × Value)} {st st' : List Value} {pc' : Nat} (h : z_lc f len pc lv st = some (pc', lv', st')) : ∃ x y r, st = .long y :: .long x :: r ∧ (len = 1) ∧ pc' = pc + 1 ∧ lv' = lv ∧ st' = .int (f x y) :: r := by
  unfold z_lc at h
  split at h
  · split at h
    · cases h
      exact ⟨_, _, _, rfl, by assumption, rfl, rfl, rfl⟩
    · cases h
  · cases h

def z_uII (f : Int32 → Int32) (len pc : Nat) (lv : List (Nat × Value)) (st : List Value) : Option z_T := match st with
  | .int x :: r => if len = 1 then some (pc + 1, lv, .int (f x) :: r) else none
  | _ => none
theorem z_uII_i {f : Int32 → Int32} {len pc : Nat} {lv lv' : List (Nat × Value)} {st st' : List Value} {pc' : Nat} (h : z_uII f len pc lv st = some (pc', lv', st')) : ∃ x r, st = .int x :: r ∧ len = 1 ∧ pc' = pc + 1 ∧ lv' = lv ∧ st' = .int (f x) :: r := by
  unfold z_uII at h
  split at h
  · split at h
    · cases h
      exact ⟨_, _, rfl, by assumption, rfl, rfl, rfl⟩
    · cases h
  · cases h

def z_uIL (f : Int32 → Int64) (len pc : Nat) (lv : List (Nat × Value)) (st : List Value) : Option z_T := match st with
  | .int x :: r => if len = 1 then some (pc + 1, lv, .long (f x) :: r) else none
  | _ => none
theorem z_uIL_i {f : Int32 → Int64} {len pc : Nat} {lv lv' : List (Nat × Value)} {st st' : List Value} {pc' : Nat} (h : z_uIL f len pc lv st = some (pc', lv', st')) : ∃ x r, st = .int x :: r ∧ len = 1 ∧ pc' = pc + 1 ∧ lv' = lv ∧ st' = .long (f x) :: r := by
  unfold z_uIL at h
  split at h
  · split at h
    · cases h
      exact ⟨_, _, rfl, by assumption, rfl, rfl, rfl⟩
    · cases h
  · cases h

def z_uLI (f : Int64 → Int32) (len pc : Nat) (lv : List (Nat × Value)) (st : List Value) : Option z_T := match st with
  | .long x :: r => if len = 1 then some (pc + 1, lv, .int (f x) :: r) else none
  | _ => none
theorem z_uLI_i {f : Int64 → Int32} {len pc : Nat} {lv lv' : List (Nat × Value)} {st st' : List Value} {pc' : Nat} (h : z_uLI f len pc lv st = some (pc', lv', st')) : ∃ x r, st = .long x :: r ∧ len = 1 ∧ pc' = pc + 1 ∧ lv' = lv ∧ st' = .int (f x) :: r := by
  unfold z_uLI at h
  split at h
  · split at h
    · cases h
      exact ⟨_, _, rfl, by assumption, rfl, rfl, rfl⟩
    · cases h
  · cases h

def z_lsh (f : Int64 → Int32 → Int64) (len pc : Nat) (lv : List (Nat × Value)) (st : List Value) : Option z_T := match st with
  | .int y :: .long x :: r => if len = 1 then some (pc + 1, lv, .long (f x y) :: r) else none
  | _ => none
theorem z_lsh_i {f : Int64 → Int32 → Int64} {len pc : Nat} {lv lv' : List (Nat × Value)} {st st' : List Value} {pc' : Nat} (h : z_lsh f len pc lv st = some (pc', lv', st')) : ∃ x y r, st = .int y :: .long x :: r ∧ len = 1 ∧ pc' = pc + 1 ∧ lv' = lv ∧ st' = .long (f x y) :: r := by
  unfold z_lsh at h
  split at h
  · split at h
    · cases h
      exact ⟨_, _, _, rfl, by assumption, rfl, rfl, rfl⟩
    · cases h
  · cases h
/-- stack shuffles -/
def z_dup (len pc : Nat) (lv : List (Nat × Value)) (st : List Value) : Option z_T := match st with
  | a :: r => if len = 1 ∧ a.category = 1 then some (pc + 1, lv, a :: a :: r) else none
  | _ => none
theorem z_dup_i {len pc : Nat} {lv lv' : List (Nat × Value)} {st st' : List Value} {pc' : Nat} (h : z_dup len pc lv st = some (pc', lv', st')) : ∃ a r, st = a :: r ∧ (len = 1 ∧ a.category = 1) ∧ pc' = pc + 1 ∧ lv' = lv ∧ st' = a :: a :: r := by
  unfold z_dup at h
  split at h
  · split at h
    · cases h
      exact ⟨_, _, rfl, by assumption, rfl, rfl, rfl⟩
    · cases h
  · cases h
def z_pop (len pc : Nat) (lv : List (Nat × Value)) (st : List Value) : Option z_T := match st with
  | a :: r => if len = 1 ∧ a.category = 1 then some (pc + 1, lv, r) else none
  | _ => none
theorem z_pop_i {len pc : Nat} {lv lv' : List (Nat × Value)} {st st' : List Value} {pc' : Nat} (h : z_pop len pc lv st = some (pc', lv', st')) : ∃ a r, st = a :: r ∧ (len = 1 ∧ a.category = 1) ∧ pc' = pc + 1 ∧ lv' = lv ∧ st' = r := by
  unfold z_pop at h
  split at h
  · split at h
    · cases h
      exact ⟨_, _, rfl, by assumption, rfl, rfl, rfl⟩
    · cases h
  · cases h
def z_dx1 (len pc : Nat) (lv : List (Nat × Value)) (st : List Value) : Option z_T := match st with
  | a :: b :: r => if len = 1 ∧ a.category = 1 ∧ b.category = 1 then some (pc + 1, lv, a :: b :: a :: r) else none
  | _ => none
theorem z_dx1_i {len pc : Nat} {lv lv' : List (Nat × Value)} {st st' : List Value} {pc' : Nat} (h : z_dx1 len pc lv st = some (pc', lv', st')) : ∃ a b r, st = a :: b :: r ∧ (len = 1 ∧ a.category = 1 ∧ b.category = 1) ∧ pc' = pc + 1 ∧ lv' = lv ∧ st' = a :: b :: a :: r := by
  unfold z_dx1 at h
  split at h
  · split at h
    · cases h
      exact ⟨_, _, _, rfl, by assumption, rfl, rfl, rfl⟩
    · cases h
  · cases h
def z_dx2 (len pc : Nat) (lv : List (Nat × Value)) (st : List Value) : Option z_T := match st with
  | a :: b :: d :: r => if len = 1 ∧ a.category = 1 ∧ b.category = 1 ∧ d.category = 1 then some (pc + 1, lv, a :: b :: d :: a :: r) else none
  | _ => none
theorem z_dx2_i {len pc : Nat} {lv lv' : List (Nat × Value)} {st st' : List Value} {pc' : Nat} (h : z_dx2 len pc lv st = some (pc', lv', st')) : ∃ a b d r, st = a :: b :: d :: r ∧ (len = 1 ∧ a.category = 1 ∧ b.category = 1 ∧ d.category = 1) ∧ pc' = pc + 1 ∧ lv' = lv ∧ st' = a :: b :: d :: a :: r := by
  unfold z_dx2 at h
  split at h
  · split at h
    · cases h
      exact ⟨_, _, _, _, rfl, by assumption, rfl, rfl, rfl⟩
    · cases h
  · cases h
def z_d2 (len pc : Nat) (lv : List (Nat × Value)) (st : List Value) : Option z_T := match st with
  | a :: b :: r => if len = 1 ∧ a.category = 1 ∧ b.category = 1 then some (pc + 1, lv, a :: b :: a :: b :: r) else none
  | _ => none
theorem z_d2_i {len pc : Nat} {lv lv' : List (Nat × Value)} {st st' : List Value} {pc' : Nat} (h : z_d2 len pc lv st = some (pc', lv', st')) : ∃ a b r, st = a :: b :: r ∧ (len = 1 ∧ a.category = 1 ∧ b.category = 1) ∧ pc' = pc + 1 ∧ lv' = lv ∧ st' = a :: b :: a :: b :: r := by
  unfold z_d2 at h
  split at h
  · split at h
    · cases h
      exact ⟨_, _, _, rfl, by assumption, rfl, rfl, rfl⟩
    · cases h
  · cases h
/-- branches: the target stands in aux -/
def z_if (f : Int32 → Bool) (aux : List Nat) (len pc : Nat) (lv : List (Nat × Value)) (st : List Value) : Option z_T := match aux, st with
  | [t], .int x :: r => if len = 3 then some (if f x then t else pc + 3, lv, r) else none
  | _, _ => none
theorem z_if_i {f : Int32 → Bool} {aux : List Nat} {len pc : Nat} {lv lv' : List (Nat × Value)} {st st' : List Value} {pc' : Nat} (h : z_if f aux len pc lv st = some (pc', lv', st')) : ∃ t x r, aux = [t] ∧ st = .int x :: r ∧ len = 3 ∧ pc' = (if f x then t else pc + 3) ∧ lv' = lv ∧ st' = r := by
  unfold z_if at h
  split at h
  · split at h
    · cases h
      exact ⟨_, _, _, rfl, rfl, by assumption, rfl, rfl, rfl⟩
    · cases h
  · cases h
def z_ic (f : Int32 → Int32 → Bool) (aux : List Nat) (len pc : Nat) (lv : List (Nat × Value)) (st : List Value) : Option z_T := match aux, st with
  | [t], .int y :: .int x :: r => if len = 3 then some (if f x y then t else pc + 3, lv, r) else none
  | _, _ => none
theorem z_ic_i {f : Int32 → Int32 → Bool} {aux : List Nat} {len pc : Nat} {lv lv' : List (Nat × Value)} {st st' : List Value} {pc' : Nat} (h : z_ic f aux len pc lv st = some (pc', lv', st')) : ∃ t x y r, aux = [t] ∧ st = .int y :: .int x :: r ∧ len = 3 ∧ pc' = (if f x y then t else pc + 3) ∧ lv' = lv ∧ st' = r := by
  unfold z_ic at h
  split at h
  · split at h
    · cases h
      exact ⟨_, _, _, _, rfl, rfl, by assumption, rfl, rfl, rfl⟩
    · cases h
  · cases h
def z_rO (v : Value) : Option (Option Nat) := match v with
  | .ref i => some (some i)
  | .null => some none
  | _ => none
theorem z_rO_i {ad : Nat → Nat} {v : Value} {r : Option Nat} (h : z_rO v = some r) : z_tr ad v = va_rf (r.map ad) := by
  cases v <;> simp [z_rO] at h <;> subst h <;> rfl
/-- references that may be compared: the constants below nW, and what the program made -/
def z_cb (K nW : Nat) (r : Option Nat) : Bool := match r with
  | some i => decide (i < nW) || decide (K ≤ i)
  | none => true
def z_ac (K nW : Nat) (eq : Bool) (aux : List Nat) (len pc : Nat) (lv : List (Nat × Value)) (st : List Value) : Option z_T := match aux, st with
  | [t], vy :: vx :: r => match z_rO vy, z_rO vx with
    | some ry, some rx => if len = 3 ∧ z_cb K nW ry = true ∧ z_cb K nW rx = true then some (if (decide (rx = ry)) = eq then t else pc + 3, lv, r) else none
    | _, _ => none
  | _, _ => none
theorem z_ac_i {K nW : Nat} {eq : Bool} {aux : List Nat} {len pc : Nat} {lv lv' : List (Nat × Value)} {st st' : List Value} {pc' : Nat} (h : z_ac K nW eq aux len pc lv st = some (pc', lv', st')) : ∃ t vx vy rx ry r, aux = [t] ∧ st = vy :: vx :: r ∧ z_rO vy = some ry ∧ z_rO vx = some rx ∧ (len = 3 ∧ z_cb K nW ry = true ∧ z_cb K nW rx = true) ∧ pc' = (if (decide (rx = ry)) = eq then t else pc + 3) ∧ lv' = lv ∧ st' = r := by
  unfold z_ac at h
  split at h
  · split at h
    · split at h
      · cases h
        exact ⟨_, _, _, _, _, _, rfl, rfl, by assumption, by assumption, by assumption, rfl, rfl, rfl⟩
      · cases h
    · cases h
  · cases h
theorem z_cb_inj {K nW sz : Nat} {ad : Nat → Nat} (had : ∀ i, ad (K + i) = sz + i) (hlo : ∀ i, i < nW → ad i < sz) (hinj : ∀ i j, i < nW → j < nW → ad i = ad j → i = j) {rx ry : Option Nat} (hx : z_cb K nW rx = true) (hy : z_cb K nW ry = true) : rx.map ad = ry.map ad ↔ rx = ry := by
  constructor
  · intro h
    cases rx with
    | none => cases ry with
      | none => rfl
      | some j => cases h
    | some i => cases ry with
      | none => cases h
      | some j =>
        have e : ad i = ad j := Option.some.inj h
        simp only [z_cb, Bool.or_eq_true, decide_eq_true_eq] at hx hy
        rcases hx with hx | hx <;> rcases hy with hy | hy
        · rw [hinj i j hx hy e]
        · have h1 := hlo i hx
          have h2 := had (j - K)
          rw [show K + (j - K) = j by omega] at h2
          omega
        · have h1 := hlo j hy
          have h2 := had (i - K)
          rw [show K + (i - K) = i by omega] at h2
          omega
        · have h1 := had (i - K)
          have h2 := had (j - K)
          rw [show K + (i - K) = i by omega] at h1
          rw [show K + (j - K) = j by omega] at h2
          have : i = j := by omega
          rw [this]
  · intro h
    rw [h]
def z_tab (lo hi : Int) (aux : List Nat) (pc : Nat) (lv : List (Nat × Value)) (st : List Value) : Option z_T := match aux, st with
  | d :: ts, .int x :: r => if x.toInt < lo ∨ hi < x.toInt then some (d, lv, r) else match ts[(x.toInt - lo).toNat]? with
    | some t => some (t, lv, r)
    | none => none
  | _, _ => none
/-- what the program's text must say of targets -/
def z_okF (i : Instr) (aux : List Nat) (pc : Nat) : Bool := match i, aux with
  | .ifCond _ off, [t] => decide ((pc : Int) + off = (t : Int))
  | .if_icmp _ off, [t] => decide ((pc : Int) + off = (t : Int))
  | .if_acmp _ off, [t] => decide ((pc : Int) + off = (t : Int))
  | .ifnull off, [t] => decide ((pc : Int) + off = (t : Int))
  | .ifnonnull off, [t] => decide ((pc : Int) + off = (t : Int))
  | .goto off, [t] => decide ((pc : Int) + off = (t : Int))
  | .tableswitch d _ _ offs, t :: ts => decide ((pc : Int) + d = (t : Int)) && decide (offs.toList.map (fun o => (pc : Int) + o) = ts.map (fun (u : Nat) => (u : Int)))
  | _, _ => true
def z_goto (aux : List Nat) (len : Nat) (lv : List (Nat × Value)) (st : List Value) : Option z_T := match aux with
  | [t] => if len = 3 then some (t, lv, st) else none
  | _ => none
theorem z_goto_i {aux : List Nat} {len : Nat} {lv lv' : List (Nat × Value)} {st st' : List Value} {pc' : Nat} (h : z_goto aux len lv st = some (pc', lv', st')) : ∃ t, aux = [t] ∧ len = 3 ∧ pc' = t ∧ lv' = lv ∧ st' = st := by
  unfold z_goto at h
  split at h
  · split at h
    · cases h
      exact ⟨_, rfl, by assumption, rfl, rfl, rfl⟩
    · cases h
  · cases h
def z_nul (isn : Bool) (aux : List Nat) (len pc : Nat) (lv : List (Nat × Value)) (st : List Value) : Option z_T := match aux, st with
  | [t], .ref _ :: r => if len = 3 then some (if isn then pc + 3 else t, lv, r) else none
  | [t], .null :: r => if len = 3 then some (if isn then t else pc + 3, lv, r) else none
  | _, _ => none

def z_f0 (c : ClassFile.Cond) (x : Int32) : Bool := match c with
  | .eq => decide (x = 0)
  | .ne => decide (¬ x = 0)
  | .lt => decide (x < 0)
  | .ge => decide (0 ≤ x)
  | .gt => decide (0 < x)
  | .le => decide (x ≤ 0)
def z_f2 (c : ClassFile.Cond) (x y : Int32) : Bool := match c with
  | .eq => decide (x = y)
  | .ne => decide (¬ x = y)
  | .lt => decide (x < y)
  | .ge => decide (y ≤ x)
  | .gt => decide (y < x)
  | .le => decide (x ≤ y)

def z_fr (K nW nL : Nat) (i : Instr) (len : Nat) (aux : List Nat) (pc : Nat) (lv : List (Nat × Value)) (st : List Value) : Option z_T := match i with
  | .iconst n => z_p0 1 len pc lv st (.int (Int32.ofInt n))
  | .bipush n => z_p0 2 len pc lv st (.int (Int8.ofInt n).toInt32)
  | .sipush n => z_p0 3 len pc lv st (.int (Int16.ofInt n).toInt32)
  | .lconst n => z_p0 1 len pc lv st (.long (Int64.ofNat (n : Nat)))
  | .aconst_null => z_p0 1 len pc lv st .null
  | .iload_n k => z_ldI 1 (k : Nat) len pc lv st
  | .iload k => z_ldI 2 k len pc lv st
  | .lload_n k => z_ldL 1 (k : Nat) len pc lv st
  | .lload k => z_ldL 2 k len pc lv st
  | .aload_n k => z_ldA 1 (k : Nat) len pc lv st
  | .aload k => z_ldA 2 k len pc lv st
  | .istore_n k => z_sI nL 1 (k : Nat) len pc lv st
  | .istore k => z_sI nL 2 k len pc lv st
  | .lstore_n k => z_sL nL 1 (k : Nat) len pc lv st
  | .lstore k => z_sL nL 2 k len pc lv st
  | .astore_n k => z_sA nL 1 (k : Nat) len pc lv st
  | .astore k => z_sA nL 2 k len pc lv st
  | .iinc k n => z_inc nL k n len pc lv st
  | .iadd => z_b2 (fun x y => x + y) len pc lv st
  | .isub => z_b2 (fun x y => x - y) len pc lv st
  | .imul => z_b2 (fun x y => x * y) len pc lv st
  | .iand => z_b2 (fun x y => x &&& y) len pc lv st
  | .ior => z_b2 (fun x y => x ||| y) len pc lv st
  | .ixor => z_b2 (fun x y => x ^^^ y) len pc lv st
  | .ishl => z_b2 (fun x y => x <<< (y &&& 31)) len pc lv st
  | .ishr => z_b2 (fun x y => x >>> (y &&& 31)) len pc lv st
  | .iushr => z_b2 (fun x y => (x.toUInt32 >>> (y.toUInt32 &&& Int32.toUInt32 31)).toInt32) len pc lv st
  | .idiv => z_b2d (fun x y => x / y) len pc lv st
  | .irem => z_b2d (fun x y => x - x / y * y) len pc lv st
  | .ineg => z_uII (fun x => -x) len pc lv st
  | .ladd => z_l2 (fun x y => x + y) len pc lv st
  | .lsub => z_l2 (fun x y => x - y) len pc lv st
  | .land => z_l2 (fun x y => x &&& y) len pc lv st
  | .lor => z_l2 (fun x y => x ||| y) len pc lv st
  | .lcmp => z_lc lg_cmp len pc lv st
  | .lshl => z_lsh (fun x y => x <<< (y.toInt64 &&& 63)) len pc lv st
  | .lshr => z_lsh (fun x y => x >>> (y.toInt64 &&& 63)) len pc lv st
  | .i2l => z_uIL (fun x => x.toInt64) len pc lv st
  | .i2b => z_uII (fun x => x.toInt8.toInt32) len pc lv st
  | .l2i => z_uLI (fun x => x.toInt32) len pc lv st
  | .dup => z_dup len pc lv st
  | .pop => z_pop len pc lv st
  | .dup_x1 => z_dx1 len pc lv st
  | .dup_x2 => z_dx2 len pc lv st
  | .dup2 => z_d2 len pc lv st
  | .ifCond cd off => z_if (z_f0 cd) aux len pc lv st
  | .if_icmp cd off => z_ic (z_f2 cd) aux len pc lv st
  | .if_acmp cd off => z_ac K nW (match cd with | .eq => true | .ne => false) aux len pc lv st
  | .goto off => z_goto aux len lv st
  | .ifnull off => z_nul true aux len pc lv st
  | .ifnonnull off => z_nul false aux len pc lv st
  | .tableswitch d lo hi offs => z_tab lo hi aux pc lv st
  | _ => none
section ZFR
variable {p : Program} {l : Launch} {e : Env} {R : Room} {s : State} {m : MethodId} {args : Array Value} {below : List Frame} {meth : Method} {c : Code} {H : Heap} {locs : List Loc} {cells slots : Nat} {Q : State → Prop}
variable {cc : ByteArray} {ls : Array Slot} {ad : Nat → Nat}
set_option maxHeartbeats 4000000 in
set_option maxRecDepth 20000 in
theorem z_fr_ok {K nW sz nL : Nat} (had : ∀ i, ad (K + i) = sz + i) (hlo : ∀ i, i < nW → ad i < sz) (hinj : ∀ i j, i < nW → j < nW → ad i = ad j → i = j)
    (hx : p.tables.exec = Jvm.exec) (hb : c.code = cc) {i : Instr} {len : Nat} {aux : List Nat} {pc pc' : Nat} {lv lv' : List (Nat × Value)} {st st' : List Value} (hdg : decode cc pc = .ok (i, len)) (hok : z_okF i aux pc = true)
    (hl : lv_has ls nL (z_trL ad lv)) (h : z_fr K nW nL i len aux pc lv st = some (pc', lv', st'))
    (kk : ∀ ls' : Array Slot, lv_has ls' nL (z_trL ad lv') → W p l e R s m args below meth c H locs cells slots Q (F0 m pc' ls' (st'.map (z_tr ad)))) : W p l e R s m args below meth c H locs cells slots Q (F0 m pc ls (st.map (z_tr ad))) := by
  cases i with
  | iconst n =>
    simp only [z_fr] at h
    obtain ⟨rfl, rfl, rfl, rfl⟩ := z_p0_i h
    exact lv_iconst hx hb hdg rfl (kk ls hl)
  | bipush n =>
    simp only [z_fr] at h
    obtain ⟨rfl, rfl, rfl, rfl⟩ := z_p0_i h
    exact lv_bipush hx hb hdg rfl (kk ls hl)
  | sipush n =>
    simp only [z_fr] at h
    obtain ⟨rfl, rfl, rfl, rfl⟩ := z_p0_i h
    exact lv_sipush hx hb hdg rfl (kk ls hl)
  | lconst n =>
    simp only [z_fr] at h
    obtain ⟨rfl, rfl, rfl, rfl⟩ := z_p0_i h
    exact lv_lconst hx hb hdg rfl (kk ls hl)
  | aconst_null =>
    simp only [z_fr] at h
    obtain ⟨rfl, rfl, rfl, rfl⟩ := z_p0_i h
    exact lv_null hx hb hdg (kk ls hl)
  | iload_n k =>
    simp only [z_fr] at h
    obtain ⟨x, hk, rfl, rfl, rfl, rfl⟩ := z_ldI_i h
    exact lv_iload_n hx hb hdg rfl (z_lk_at hl hk) (kk ls hl)
  | iload k =>
    simp only [z_fr] at h
    obtain ⟨x, hk, rfl, rfl, rfl, rfl⟩ := z_ldI_i h
    exact lv_iload hx hb hdg (z_lk_at hl hk) (kk ls hl)
  | lload_n k =>
    simp only [z_fr] at h
    obtain ⟨x, hk, rfl, rfl, rfl, rfl⟩ := z_ldL_i h
    exact lv_lload_n hx hb hdg rfl (z_lk_at hl hk) (kk ls hl)
  | lload k =>
    simp only [z_fr] at h
    obtain ⟨x, hk, rfl, rfl, rfl, rfl⟩ := z_ldL_i h
    exact lv_lload hx hb hdg (z_lk_at hl hk) (kk ls hl)
  | aload_n k =>
    simp only [z_fr] at h
    rcases z_ldA_i h with ⟨x, hk, rfl, rfl, rfl, rfl⟩ | ⟨hk, rfl, rfl, rfl, rfl⟩
    · exact lv_aload_n hx hb hdg rfl (z_lk_at hl hk) (kk ls hl)
    · exact lv_aload_nN hx hb hdg rfl (z_lk_at hl hk) (kk ls hl)
  | aload k =>
    simp only [z_fr] at h
    rcases z_ldA_i h with ⟨x, hk, rfl, rfl, rfl, rfl⟩ | ⟨hk, rfl, rfl, rfl, rfl⟩
    · exact lv_aload hx hb hdg (z_lk_at hl hk) (kk ls hl)
    · exact lv_aloadN hx hb hdg (z_lk_at hl hk) (kk ls hl)
  | istore_n k =>
    simp only [z_fr] at h
    obtain ⟨x, r, rfl, rfl, hn, rfl, rfl, rfl⟩ := z_sI_i h
    exact lv_istore_n hx hb hdg rfl hl hn (z_st1_tr ad lv _ (.int x)) (fun ls' hl' => kk ls' hl')
  | istore k =>
    simp only [z_fr] at h
    obtain ⟨x, r, rfl, rfl, hn, rfl, rfl, rfl⟩ := z_sI_i h
    exact lv_istore hx hb hdg hl hn (z_st1_tr ad lv _ (.int x)) (fun ls' hl' => kk ls' hl')
  | lstore_n k =>
    simp only [z_fr] at h
    obtain ⟨x, r, rfl, rfl, hn, rfl, rfl, rfl⟩ := z_sL_i h
    exact lv_lstore_n hx hb hdg rfl hl hn (z_st2_tr ad lv _ (.long x)) (fun ls' hl' => kk ls' hl')
  | lstore k =>
    simp only [z_fr] at h
    obtain ⟨x, r, rfl, rfl, hn, rfl, rfl, rfl⟩ := z_sL_i h
    exact lv_lstore hx hb hdg hl hn (z_st2_tr ad lv _ (.long x)) (fun ls' hl' => kk ls' hl')
  | astore_n k =>
    simp only [z_fr] at h
    rcases z_sA_i h with ⟨x, r, rfl, rfl, hn, rfl, rfl, rfl⟩ | ⟨r, rfl, rfl, hn, rfl, rfl, rfl⟩
    · exact lv_astore_n hx hb hdg rfl hl hn (z_st1_tr ad lv _ (.ref x)) (fun ls' hl' => kk ls' hl')
    · exact lv_astore_nN hx hb hdg rfl hl hn (z_st1_tr ad lv _ .null) (fun ls' hl' => kk ls' hl')
  | astore k =>
    simp only [z_fr] at h
    rcases z_sA_i h with ⟨x, r, rfl, rfl, hn, rfl, rfl, rfl⟩ | ⟨r, rfl, rfl, hn, rfl, rfl, rfl⟩
    · exact lv_astore hx hb hdg hl hn (z_st1_tr ad lv _ (.ref x)) (fun ls' hl' => kk ls' hl')
    · exact lv_astoreN hx hb hdg hl hn (z_st1_tr ad lv _ .null) (fun ls' hl' => kk ls' hl')
  | iinc k n =>
    simp only [z_fr] at h
    obtain ⟨x, hk, rfl, hn, rfl, rfl, rfl⟩ := z_inc_i h
    obtain ⟨j, hj⟩ := List.getElem?_of_mem (List.mem_map.mpr ⟨(k, Value.int x), z_lk_mem hk, rfl⟩ : (k, z_tr ad (.int x)) ∈ z_trL ad lv)
    exact lv_iinc hx hb hdg hl hj rfl hn (z_st1_tr ad lv _ (.int (x + Int32.ofInt n))) (fun ls' hl' => kk ls' hl')
  | iadd =>
    simp only [z_fr] at h
    obtain ⟨x, y, r, rfl, rfl, rfl, rfl, rfl⟩ := z_b2_i h
    exact lv_iadd hx hb hdg (kk ls hl)
  | isub =>
    simp only [z_fr] at h
    obtain ⟨x, y, r, rfl, rfl, rfl, rfl, rfl⟩ := z_b2_i h
    exact lv_isub hx hb hdg (kk ls hl)
  | imul =>
    simp only [z_fr] at h
    obtain ⟨x, y, r, rfl, rfl, rfl, rfl, rfl⟩ := z_b2_i h
    exact lv_imul hx hb hdg (kk ls hl)
  | iand =>
    simp only [z_fr] at h
    obtain ⟨x, y, r, rfl, rfl, rfl, rfl, rfl⟩ := z_b2_i h
    exact lv_iand hx hb hdg (kk ls hl)
  | ior =>
    simp only [z_fr] at h
    obtain ⟨x, y, r, rfl, rfl, rfl, rfl, rfl⟩ := z_b2_i h
    exact lv_ior hx hb hdg (kk ls hl)
  | ixor =>
    simp only [z_fr] at h
    obtain ⟨x, y, r, rfl, rfl, rfl, rfl, rfl⟩ := z_b2_i h
    exact lv_ixor hx hb hdg (kk ls hl)
  | ishl =>
    simp only [z_fr] at h
    obtain ⟨x, y, r, rfl, rfl, rfl, rfl, rfl⟩ := z_b2_i h
    exact lv_ishl hx hb hdg (kk ls hl)
  | ishr =>
    simp only [z_fr] at h
    obtain ⟨x, y, r, rfl, rfl, rfl, rfl, rfl⟩ := z_b2_i h
    exact lv_ishr hx hb hdg (kk ls hl)
  | iushr =>
    simp only [z_fr] at h
    obtain ⟨x, y, r, rfl, rfl, rfl, rfl, rfl⟩ := z_b2_i h
    exact lv_iushr hx hb hdg rfl (kk ls hl)
  | idiv =>
    simp only [z_fr] at h
    obtain ⟨x, y, r, rfl, ⟨rfl, hne⟩, rfl, rfl, rfl⟩ := z_b2d_i h
    exact lv_idiv hx hb hdg hne (kk ls hl)
  | irem =>
    simp only [z_fr] at h
    obtain ⟨x, y, r, rfl, ⟨rfl, hne⟩, rfl, rfl, rfl⟩ := z_b2d_i h
    exact lv_irem hx hb hdg hne (kk ls hl)
  | ineg =>
    simp only [z_fr] at h
    obtain ⟨x, r, rfl, rfl, rfl, rfl, rfl⟩ := z_uII_i h
    exact lv_ineg hx hb hdg (kk ls hl)
  | ladd =>
    simp only [z_fr] at h
    obtain ⟨x, y, r, rfl, rfl, rfl, rfl, rfl⟩ := z_l2_i h
    exact lv_ladd hx hb hdg (kk ls hl)
  | lsub =>
    simp only [z_fr] at h
    obtain ⟨x, y, r, rfl, rfl, rfl, rfl, rfl⟩ := z_l2_i h
    exact lv_lsub hx hb hdg (kk ls hl)
  | land =>
    simp only [z_fr] at h
    obtain ⟨x, y, r, rfl, rfl, rfl, rfl, rfl⟩ := z_l2_i h
    exact lv_land hx hb hdg (kk ls hl)
  | lor =>
    simp only [z_fr] at h
    obtain ⟨x, y, r, rfl, rfl, rfl, rfl, rfl⟩ := z_l2_i h
    exact lv_lor hx hb hdg (kk ls hl)
  | lcmp =>
    simp only [z_fr] at h
    obtain ⟨x, y, r, rfl, rfl, rfl, rfl, rfl⟩ := z_lc_i h
    exact W.lcmp hx hb hdg (kk ls hl)
  | lshl =>
    simp only [z_fr] at h
    obtain ⟨x, y, r, rfl, rfl, rfl, rfl, rfl⟩ := z_lsh_i h
    exact lv_lshl hx hb hdg rfl (kk ls hl)
  | lshr =>
    simp only [z_fr] at h
    obtain ⟨x, y, r, rfl, rfl, rfl, rfl, rfl⟩ := z_lsh_i h
    exact lv_lshr hx hb hdg rfl (kk ls hl)
  | i2l =>
    simp only [z_fr] at h
    obtain ⟨x, r, rfl, rfl, rfl, rfl, rfl⟩ := z_uIL_i h
    exact lv_i2l hx hb hdg rfl (kk ls hl)
  | i2b =>
    simp only [z_fr] at h
    obtain ⟨x, r, rfl, rfl, rfl, rfl, rfl⟩ := z_uII_i h
    exact lv_i2b hx hb hdg rfl (kk ls hl)
  | l2i =>
    simp only [z_fr] at h
    obtain ⟨x, r, rfl, rfl, rfl, rfl, rfl⟩ := z_uLI_i h
    exact lv_l2i hx hb hdg rfl (kk ls hl)
  | dup =>
    simp only [z_fr] at h
    obtain ⟨a, r, rfl, ⟨rfl, ha⟩, rfl, rfl, rfl⟩ := z_dup_i h
    exact lv_dup hx hb hdg ((z_tr_cat ad a).trans ha) (kk ls hl)
  | pop =>
    simp only [z_fr] at h
    obtain ⟨a, r, rfl, ⟨rfl, ha⟩, rfl, rfl, rfl⟩ := z_pop_i h
    exact lv_pop hx hb hdg ((z_tr_cat ad a).trans ha) (kk ls hl)
  | dup_x1 =>
    simp only [z_fr] at h
    obtain ⟨a, b, r, rfl, ⟨rfl, ha, hb2⟩, rfl, rfl, rfl⟩ := z_dx1_i h
    exact lv_dup_x1 hx hb hdg ((z_tr_cat ad a).trans ha) ((z_tr_cat ad b).trans hb2) (kk ls hl)
  | dup_x2 =>
    simp only [z_fr] at h
    obtain ⟨a, b, d, r, rfl, ⟨rfl, ha, hb2, hd2⟩, rfl, rfl, rfl⟩ := z_dx2_i h
    exact lv_dup_x2 hx hb hdg ((z_tr_cat ad a).trans ha) ((z_tr_cat ad b).trans hb2) ((z_tr_cat ad d).trans hd2) (kk ls hl)
  | dup2 =>
    simp only [z_fr] at h
    obtain ⟨a, b, r, rfl, ⟨rfl, ha, hb2⟩, rfl, rfl, rfl⟩ := z_d2_i h
    exact lv_dup2_11 hx hb hdg ((z_tr_cat ad a).trans ha) ((z_tr_cat ad b).trans hb2) (kk ls hl)
  | ifCond cd off =>
    simp only [z_fr] at h
    obtain ⟨t, x, r, rfl, rfl, rfl, rfl, rfl, rfl⟩ := z_if_i h
    have ht : (pc : Int) + off = (t : Int) := by simpa [z_okF] using hok
    cases cd with
    | eq => exact lv_if_eq hx hb hdg ht (fun q => by have z := kk ls hl; rwa [if_pos (show z_f0 .eq x = true from decide_eq_true q)] at z) (fun q => by have z := kk ls hl; rwa [if_neg (show ¬ z_f0 .eq x = true from by rw [show z_f0 .eq x = decide (x = 0) from rfl]; exact fun z => q (of_decide_eq_true z))] at z)
    | ne => exact lv_if_ne hx hb hdg ht (fun q => by have z := kk ls hl; rwa [if_pos (show z_f0 .ne x = true from decide_eq_true q)] at z) (fun q => by have z := kk ls hl; rwa [if_neg (show ¬ z_f0 .ne x = true from by rw [show z_f0 .ne x = decide (¬ x = 0) from rfl]; exact fun z => (of_decide_eq_true z) q)] at z)
    | lt => exact lv_if_lt hx hb hdg ht (fun q => by have z := kk ls hl; rwa [if_pos (show z_f0 .lt x = true from decide_eq_true q)] at z) (fun q => by have z := kk ls hl; rwa [if_neg (show ¬ z_f0 .lt x = true from by rw [show z_f0 .lt x = decide (x < 0) from rfl]; exact fun z => q (of_decide_eq_true z))] at z)
    | ge => exact lv_if_ge hx hb hdg ht (fun q => by have z := kk ls hl; rwa [if_pos (show z_f0 .ge x = true from decide_eq_true q)] at z) (fun q => by have z := kk ls hl; rwa [if_neg (show ¬ z_f0 .ge x = true from by rw [show z_f0 .ge x = decide (0 ≤ x) from rfl]; exact fun z => q (of_decide_eq_true z))] at z)
    | gt => exact lv_if_gt hx hb hdg ht (fun q => by have z := kk ls hl; rwa [if_pos (show z_f0 .gt x = true from decide_eq_true q)] at z) (fun q => by have z := kk ls hl; rwa [if_neg (show ¬ z_f0 .gt x = true from by rw [show z_f0 .gt x = decide (0 < x) from rfl]; exact fun z => q (of_decide_eq_true z))] at z)
    | le => exact lv_if_le hx hb hdg ht (fun q => by have z := kk ls hl; rwa [if_pos (show z_f0 .le x = true from decide_eq_true q)] at z) (fun q => by have z := kk ls hl; rwa [if_neg (show ¬ z_f0 .le x = true from by rw [show z_f0 .le x = decide (x ≤ 0) from rfl]; exact fun z => q (of_decide_eq_true z))] at z)
  | if_icmp cd off =>
    simp only [z_fr] at h
    obtain ⟨t, x, y, r, rfl, rfl, rfl, rfl, rfl, rfl⟩ := z_ic_i h
    have ht : (pc : Int) + off = (t : Int) := by simpa [z_okF] using hok
    cases cd with
    | eq => exact lv_icmp_eq hx hb hdg ht (fun q => by have z := kk ls hl; rwa [if_pos (show z_f2 .eq x y = true from decide_eq_true q)] at z) (fun q => by have z := kk ls hl; rwa [if_neg (show ¬ z_f2 .eq x y = true from by rw [show z_f2 .eq x y = decide (x = y) from rfl]; exact fun z => q (of_decide_eq_true z))] at z)
    | ne => exact lv_icmp_ne hx hb hdg ht (fun q => by have z := kk ls hl; rwa [if_pos (show z_f2 .ne x y = true from decide_eq_true q)] at z) (fun q => by have z := kk ls hl; rwa [if_neg (show ¬ z_f2 .ne x y = true from by rw [show z_f2 .ne x y = decide (¬ x = y) from rfl]; exact fun z => (of_decide_eq_true z) q)] at z)
    | lt => exact lv_icmp_lt hx hb hdg ht (fun q => by have z := kk ls hl; rwa [if_pos (show z_f2 .lt x y = true from decide_eq_true q)] at z) (fun q => by have z := kk ls hl; rwa [if_neg (show ¬ z_f2 .lt x y = true from by rw [show z_f2 .lt x y = decide (x < y) from rfl]; exact fun z => q (of_decide_eq_true z))] at z)
    | ge => exact lv_icmp_ge hx hb hdg ht (fun q => by have z := kk ls hl; rwa [if_pos (show z_f2 .ge x y = true from decide_eq_true q)] at z) (fun q => by have z := kk ls hl; rwa [if_neg (show ¬ z_f2 .ge x y = true from by rw [show z_f2 .ge x y = decide (y ≤ x) from rfl]; exact fun z => q (of_decide_eq_true z))] at z)
    | gt => exact lv_icmp_gt hx hb hdg ht (fun q => by have z := kk ls hl; rwa [if_pos (show z_f2 .gt x y = true from decide_eq_true q)] at z) (fun q => by have z := kk ls hl; rwa [if_neg (show ¬ z_f2 .gt x y = true from by rw [show z_f2 .gt x y = decide (y < x) from rfl]; exact fun z => q (of_decide_eq_true z))] at z)
    | le => exact lv_icmp_le hx hb hdg ht (fun q => by have z := kk ls hl; rwa [if_pos (show z_f2 .le x y = true from decide_eq_true q)] at z) (fun q => by have z := kk ls hl; rwa [if_neg (show ¬ z_f2 .le x y = true from by rw [show z_f2 .le x y = decide (x ≤ y) from rfl]; exact fun z => q (of_decide_eq_true z))] at z)
  | if_acmp cd off =>
    simp only [z_fr] at h
    obtain ⟨t, vx, vy, rx, ry, r, rfl, rfl, hy, hxx, ⟨rfl, cy, cx⟩, rfl, rfl, rfl⟩ := z_ac_i h
    have ht : (pc : Int) + off = (t : Int) := by simpa [z_okF] using hok
    have hI := z_cb_inj had hlo hinj cx cy
    show W p l e R s m args below meth c H locs cells slots Q (F0 m pc ls (z_tr ad vy :: z_tr ad vx :: st'.map (z_tr ad)))
    rw [z_rO_i (ad := ad) hy, z_rO_i (ad := ad) hxx]
    cases cd with
    | eq => exact lv_acmp_eq hx hb hdg ht (fun q => by have z := kk ls hl; rwa [if_pos (by simp [hI.mp q])] at z) (fun q => by have z := kk ls hl; rwa [if_neg (by simp; exact fun e => q (hI.mpr e))] at z)
    | ne => exact lv_acmp_ne hx hb hdg ht (fun q => by have z := kk ls hl; rwa [if_pos (by simp; exact fun e => q (hI.mpr e))] at z) (fun q => by have z := kk ls hl; rwa [if_neg (by simp [hI.mp q])] at z)
  | goto off =>
    simp only [z_fr] at h
    obtain ⟨t, rfl, rfl, rfl, rfl, rfl⟩ := z_goto_i h
    have ht : (pc : Int) + off = (pc' : Int) := by simpa [z_okF] using hok
    exact lv_goto hx hb hdg ht (kk ls hl)
  | ifnull off =>
    simp only [z_fr] at h
    unfold z_nul at h
    split at h
    · rename_i t a r
      have ht : (pc : Int) + off = (t : Int) := by simpa [z_okF] using hok
      by_cases hc : len = 3
      · rw [if_pos hc] at h
        subst hc
        cases h
        exact lv_ifnull hx hb hdg (kk ls hl)
      · rw [if_neg hc] at h
        cases h
    · rename_i t r
      have ht : (pc : Int) + off = (t : Int) := by simpa [z_okF] using hok
      by_cases hc : len = 3
      · rw [if_pos hc] at h
        subst hc
        cases h
        exact lv_ifnullN hx hb hdg ht (kk ls hl)
      · rw [if_neg hc] at h
        cases h
    · cases h
  | ifnonnull off =>
    simp only [z_fr] at h
    unfold z_nul at h
    split at h
    · rename_i t a r
      have ht : (pc : Int) + off = (t : Int) := by simpa [z_okF] using hok
      by_cases hc : len = 3
      · rw [if_pos hc] at h
        subst hc
        cases h
        exact lv_ifnonnull hx hb hdg ht (kk ls hl)
      · rw [if_neg hc] at h
        cases h
    · rename_i t r
      have ht : (pc : Int) + off = (t : Int) := by simpa [z_okF] using hok
      by_cases hc : len = 3
      · rw [if_pos hc] at h
        subst hc
        cases h
        exact lv_ifnonnullN hx hb hdg (kk ls hl)
      · rw [if_neg hc] at h
        cases h
    · cases h
  | tableswitch d lo hi offs =>
    simp only [z_fr] at h
    unfold z_tab at h
    split at h
    · rename_i t ts x r
      simp only [z_okF, Bool.and_eq_true, decide_eq_true_eq] at hok
      by_cases hc : x.toInt < lo ∨ hi < x.toInt
      · rw [if_pos hc] at h
        cases h
        exact lv_tableOut hx hb hdg hc hok.1 (kk ls hl)
      · rw [if_neg hc] at h
        split at h
        · rename_i t2 h2
          cases h
          have h3 : (offs.toList.map (fun o => (pc : Int) + o))[(x.toInt - lo).toNat]? = some (pc' : Int) := by
            rw [hok.2, List.getElem?_map, h2]
            rfl
          rw [List.getElem?_map] at h3
          cases h4 : offs.toList[(x.toInt - lo).toNat]? with
          | none => rw [h4] at h3; cases h3
          | some o =>
            rw [h4] at h3
            exact lv_tableIn hx hb hdg (fun q => hc (Or.inl q)) (fun q => hc (Or.inr q)) (by rw [← Array.getElem?_toList]; exact h4) (Option.some.inj h3) (kk ls hl)
        · cases h
    · cases h
  | _ => simp [z_fr] at h
end ZFR
end
section
/-! The plain machine's heap: cells as a list; an array by the number of its type and its contents, an object by the number of its class and its fields. -/
/-- an array's contents: what was written, the latest first; the rest is 0 or null -/
abbrev z_C : Type := List (Nat × Int32) ⊕ List (Nat × Int64) ⊕ List (Nat × Option Nat)
/-- an array: the number of its type, its length, its contents; an object: the number of its class, its fields -/
abbrev z_E : Type := (Nat × Nat × z_C) ⊕ (Nat × List Value)
def z_fn {α : Type} (d : α) (l : List (Nat × α)) (j : Nat) : α := match l with
  | [] => d
  | q :: r => if j = q.1 then q.2 else z_fn d r j
theorem z_fn_nil {α : Type} (d : α) : z_fn d [] = fun _ => d := by
  funext j
  rfl
theorem z_fn_upd (l : List (Nat × Int32)) (k : Nat) (x : Int32) : z_fn 0 ((k, x) :: l) = upd (z_fn 0 l) k x := by
  funext j
  rfl
theorem z_fn_updL (l : List (Nat × Int64)) (k : Nat) (x : Int64) : z_fn 0 ((k, x) :: l) = vp_updL (z_fn 0 l) k x := by
  funext j
  rfl
/-- the cells that the program made, and how many slots they have in all -/
abbrev z_S : Type := List z_E × Nat
abbrev z_U : Type := Nat × List (Nat × Value) × List Value × z_S
def z_trA (ad : Nat → Nat) (a : Nat × z_C) : vp_A := (a.1, match a.2 with
  | .inl l => .inl (z_fn 0 l)
  | .inr (.inl l) => .inr (.inl (z_fn 0 l))
  | .inr (.inr l) => .inr (.inr (.inr (.inr (fun i => (z_fn none l i).map ad)))))
def z_trE (ad : Nat → Nat) (dA : Nat → ClassId) (e : z_E) : va_E := match e with
  | .inl a => .inl (dA a.1, z_trA ad a.2)
  | .inr o => .inr (o.1, o.2.map (z_tr ad))
def z_W (ad : Nat → Nat) (dA : Nat → ClassId) (K : Nat) (h : List z_E) : va_W := h.mapIdx (fun i e => (ad (K + i), z_trE ad dA e))
theorem z_W_get {ad : Nat → Nat} {dA : Nat → ClassId} {K : Nat} {h : List z_E} {i : Nat} {e : z_E} (he : h[i]? = some e) : (z_W ad dA K h)[i]? = some (ad (K + i), z_trE ad dA e) := by
  unfold z_W
  rw [List.getElem?_mapIdx, he]
  rfl
theorem z_W_inv {ad : Nat → Nat} {dA : Nat → ClassId} {K : Nat} {h : List z_E} {i : Nat} {q : Nat × va_E} (hq : (z_W ad dA K h)[i]? = some q) : ∃ e, h[i]? = some e ∧ q = (ad (K + i), z_trE ad dA e) := by
  unfold z_W at hq
  rw [List.getElem?_mapIdx] at hq
  cases he : h[i]? with
  | none => rw [he] at hq; cases hq
  | some e => rw [he] at hq; exact ⟨e, rfl, (Option.some.inj hq).symm⟩
theorem z_W_set {ad : Nat → Nat} {dA : Nat → ClassId} {K : Nat} {h : List z_E} {i : Nat} (e : z_E) : (z_W ad dA K h).set i (ad (K + i), z_trE ad dA e) = z_W ad dA K (h.set i e) := by
  apply List.ext_getElem?
  intro j
  unfold z_W
  rw [List.getElem?_mapIdx, List.getElem?_set, List.getElem?_set, List.getElem?_mapIdx, List.length_mapIdx]
  by_cases hij : i = j
  · subst hij
    by_cases hl : i < h.length
    · simp [hl]
    · simp [hl]
  · simp [hij]
theorem z_W_app {ad : Nat → Nat} {dA : Nat → ClassId} {K : Nat} {h : List z_E} (e : z_E) : z_W ad dA K (h ++ [e]) = z_W ad dA K h ++ [(ad (K + h.length), z_trE ad dA e)] := by
  unfold z_W
  rw [List.mapIdx_concat]
abbrev z_A (sz : Nat) : Nat → Prop := fun q => sz ≤ q
theorem z_D {ad : Nat → Nat} {dA : Nat → ClassId} {K sz : Nat} (had : ∀ i, ad (K + i) = sz + i) (h : List z_E) : va_D (z_A sz) (z_W ad dA K h) := by
  refine ⟨fun i j x y hx hy hxy => ?_, fun k q hq => ?_⟩
  · obtain ⟨e1, -, rfl⟩ := z_W_inv hx
    obtain ⟨e2, -, rfl⟩ := z_W_inv hy
    have h1 := had i
    have h2 := had j
    simp only at hxy
    omega
  · obtain ⟨e1, -, rfl⟩ := z_W_inv hq
    show sz ≤ ad (K + k)
    rw [had k]
    omega
def z_tys (dA : Nat → ClassId) (tyl : List FieldType) : List (ClassId × FieldType) := tyl.mapIdx (fun t ty => (dA t, ty))
theorem z_tys_get {dA : Nat → ClassId} {tyl : List FieldType} {t : Nat} {ty : FieldType} (h : tyl[t]? = some ty) : (z_tys dA tyl)[t]? = some (dA t, ty) := by
  unfold z_tys
  rw [List.getElem?_mapIdx, h]
  rfl
/-- the classes whose objects are made, with their fields, as the words have them -/
def z_Cl (cl : List vw_C) (fty : Nat → Nat → FieldType) (Ts : List Cond) : Prop := ∀ (ci : Nat) (C : String) (T : u_T) (N : Nat), cl[ci]? = some (C, T, N) → (∀ w ∈ u_ws C T N, w ∈ Ts) ∧ (∀ k, k < N → parseFieldDescriptor (T k).2.2.1 = some (fty ci k)) ∧ (∀ a, a < N → ∀ b, b < N → a ≠ b → (T a).2.1 ≠ (T b).2.1)
def z_fit (ty : FieldType) (v : Value) : Bool := decide (narrow ty v = v) && fits ty v
theorem z_fit_i {ad : Nat → Nat} {ty : FieldType} {v : Value} (h : z_fit ty v = true) : narrow ty (z_tr ad v) = z_tr ad v ∧ fits ty (z_tr ad v) = true := by
  simp only [z_fit, Bool.and_eq_true, decide_eq_true_eq] at h
  cases v with
  | ref i =>
    refine ⟨?_, ?_⟩
    · cases ty <;> rfl
    · cases ty <;> first | rfl | exact h.2
  | _ => exact h
def z_in (i : Int32) (n : Nat) : Bool := decide (¬ i < 0) && decide (i.toNatClampNeg < n)
theorem z_in_i {i : Int32} {n : Nat} (h : z_in i n = true) : vp_in i n := by
  simp only [z_in, Bool.and_eq_true, decide_eq_true_eq] at h
  exact fun q => q.elim h.1 (fun q => by omega)
theorem z_tr_def (ad : Nat → Nat) (ty : FieldType) : z_tr ad (defaultValue ty) = defaultValue ty := by cases ty <;> rfl
/-- fields as they are born -/
def z_born (fty : Nat → FieldType) (N : Nat) : List Value := (List.range N).map (fun k => defaultValue (fty k))
theorem z_born_V (ad : Nat → Nat) (fty : Nat → FieldType) (N : Nat) : ∀ j, j < N → defaultValue (fty j) = vp_V ((z_born fty N).map (z_tr ad)) j := by
  intro j hj
  simp [vp_V, z_born, List.getD, hj, z_tr_def]
def z_zero (ty : FieldType) (n : Nat) : Option (Nat × z_C) := match ty with
  | .int => some (n, .inl [])
  | .byte => some (n, .inl [])
  | .boolean => some (n, .inl [])
  | .long => some (n, .inr (.inl []))
  | _ => none
theorem z_zero_i {ty : FieldType} {n : Nat} {a : Nat × z_C} (h : z_zero ty n = some a) (ad : Nat → Nat) (cA : ClassId) : vp_cell cA (z_trA ad a) = arrV cA n (fun _ => defaultValue ty) := by
  cases ty <;> simp [z_zero] at h <;> subst h <;> rfl
/-! The instructions that touch the heap. -/
def z_gf (K ci k len pc : Nat) (lv : List (Nat × Value)) (st : List Value) (S : z_S) : Option z_U := match st with
  | .ref a :: r => match S.1[a - K]? with
    | some (.inr o) => match o.2[k]? with
      | some v => if len = 3 ∧ K ≤ a ∧ o.1 = ci then some (pc + 3, lv, v :: r, S) else none
      | none => none
    | _ => none
  | _ => none
theorem z_gf_i {K ci k len pc : Nat} {lv lv' : List (Nat × Value)} {st st' : List Value} {S S' : z_S} {pc' : Nat} (h : z_gf K ci k len pc lv st S = some (pc', lv', st', S')) : ∃ a r fs v, st = .ref a :: r ∧ S.1[a - K]? = some (.inr (ci, fs)) ∧ fs[k]? = some v ∧ len = 3 ∧ K ≤ a ∧ pc' = pc + 3 ∧ lv' = lv ∧ st' = v :: r ∧ S' = S := by
  unfold z_gf at h
  split at h
  · split at h
    · split at h
      · split at h
        · rename_i a r x o h1 x2 v h2 hc
          obtain ⟨c1, c2, c3⟩ := hc
          cases h
          refine ⟨_, _, o.2, _, rfl, ?_, h2, c1, c2, rfl, rfl, rfl, rfl⟩
          rw [h1, ← c3]
        · cases h
      · cases h
    · cases h
  · cases h
def z_pf (K ci k : Nat) (ty : FieldType) (len pc : Nat) (lv : List (Nat × Value)) (st : List Value) (S : z_S) : Option z_U := match st with
  | v :: .ref a :: r => match S.1[a - K]? with
    | some (.inr o) => if (len = 3 ∧ K ≤ a ∧ o.1 = ci) ∧ k < o.2.length ∧ z_fit ty v = true then some (pc + 3, lv, r, (S.1.set (a - K) (.inr (ci, o.2.set k v)), S.2)) else none
    | _ => none
  | _ => none
theorem z_pf_i {K ci k : Nat} {ty : FieldType} {len pc : Nat} {lv lv' : List (Nat × Value)} {st st' : List Value} {S S' : z_S} {pc' : Nat} (h : z_pf K ci k ty len pc lv st S = some (pc', lv', st', S')) : ∃ v a r fs, st = v :: .ref a :: r ∧ S.1[a - K]? = some (.inr (ci, fs)) ∧ k < fs.length ∧ z_fit ty v = true ∧ len = 3 ∧ K ≤ a ∧ pc' = pc + 3 ∧ lv' = lv ∧ st' = r ∧ S' = (S.1.set (a - K) (.inr (ci, fs.set k v)), S.2) := by
  unfold z_pf at h
  split at h
  · split at h
    · split at h
      · rename_i v a r x o h1 hc
        obtain ⟨⟨c1, c2, c3⟩, c4, c5⟩ := hc
        cases h
        exact ⟨_, _, _, o.2, rfl, by rw [h1, ← c3], c4, c5, c1, c2, rfl, rfl, rfl, rfl⟩
      · cases h
    · cases h
  · cases h
def z_nw (K cm sm ci N : Nat) (fty : Nat → FieldType) (len pc : Nat) (lv : List (Nat × Value)) (st : List Value) (S : z_S) : Option z_U :=
  if len = 3 ∧ S.1.length + 1 ≤ cm ∧ S.2 + N ≤ sm then some (pc + 3, lv, .ref (K + S.1.length) :: st, (S.1 ++ [.inr (ci, z_born fty N)], S.2 + N)) else none
def z_na (K cm sm t : Nat) (ty : FieldType) (len pc : Nat) (lv : List (Nat × Value)) (st : List Value) (S : z_S) : Option z_U := match st with
  | .int n :: r => match z_zero ty n.toNatClampNeg with
    | some a => if (len = 2 ∧ ¬ n < 0 ∧ n.toNatClampNeg * componentBytes ty ≤ 536870912) ∧ S.1.length + 1 ≤ cm ∧ S.2 + n.toNatClampNeg ≤ sm then some (pc + 2, lv, .ref (K + S.1.length) :: r, (S.1 ++ [.inl (t, a)], S.2 + n.toNatClampNeg)) else none
    | none => none
  | _ => none
def z_nq (K cm sm t : Nat) (len pc : Nat) (lv : List (Nat × Value)) (st : List Value) (S : z_S) : Option z_U := match st with
  | .int n :: r => if (len = 3 ∧ ¬ n < 0 ∧ n.toNatClampNeg * 4 ≤ 536870912) ∧ S.1.length + 1 ≤ cm ∧ S.2 + n.toNatClampNeg ≤ sm then some (pc + 3, lv, .ref (K + S.1.length) :: r, (S.1 ++ [.inl (t, n.toNatClampNeg, .inr (.inr []))], S.2 + n.toNatClampNeg)) else none
  | _ => none
/-- the array at a place -/
def z_ar (K : Nat) (S : z_S) (a : Nat) : Option (Nat × Nat × z_C) := if K ≤ a then (match S.1[a - K]? with
  | some (.inl x) => some x
  | _ => none) else none
theorem z_ar_i {K : Nat} {S : z_S} {a : Nat} {x : Nat × Nat × z_C} (h : z_ar K S a = some x) : K ≤ a ∧ S.1[a - K]? = some (.inl x) := by
  unfold z_ar at h
  split at h
  · split at h
    · cases h
      exact ⟨by assumption, by assumption⟩
    · cases h
  · cases h
def z_ial (K : Nat) (tyl : List FieldType) (ty : FieldType) (len pc : Nat) (lv : List (Nat × Value)) (st : List Value) (S : z_S) : Option z_U := match st with
  | .int i :: .ref a :: r => match z_ar K S a with
    | some (t, n, .inl f) => if len = 1 ∧ tyl[t]? = some ty ∧ z_in i n = true then some (pc + 1, lv, .int (z_fn 0 f i.toNatClampNeg) :: r, S) else none
    | _ => none
  | _ => none
theorem z_ial_i {K : Nat} {tyl : List FieldType} {ty : FieldType} {len pc : Nat} {lv lv' : List (Nat × Value)} {st st' : List Value} {S S' : z_S} {pc' : Nat} (h : z_ial K tyl ty len pc lv st S = some (pc', lv', st', S')) : ∃ i a r t n f, st = .int i :: .ref a :: r ∧ (K ≤ a ∧ S.1[a - K]? = some (.inl (t, n, .inl f))) ∧ (len = 1 ∧ tyl[t]? = some ty ∧ z_in i n = true) ∧ pc' = pc + 1 ∧ lv' = lv ∧ st' = .int (z_fn 0 f i.toNatClampNeg) :: r ∧ S' = S := by
  unfold z_ial at h
  split at h
  · split at h
    · split at h
      · cases h
        exact ⟨_, _, _, _, _, _, rfl, z_ar_i (by assumption), by assumption, rfl, rfl, rfl, rfl⟩
      · cases h
    · cases h
  · cases h
def z_lal (K : Nat) (tyl : List FieldType) (len pc : Nat) (lv : List (Nat × Value)) (st : List Value) (S : z_S) : Option z_U := match st with
  | .int i :: .ref a :: r => match z_ar K S a with
    | some (t, n, .inr (.inl f)) => if len = 1 ∧ tyl[t]? = some .long ∧ z_in i n = true then some (pc + 1, lv, .long (z_fn 0 f i.toNatClampNeg) :: r, S) else none
    | _ => none
  | _ => none
theorem z_lal_i {K : Nat} {tyl : List FieldType} {len pc : Nat} {lv lv' : List (Nat × Value)} {st st' : List Value} {S S' : z_S} {pc' : Nat} (h : z_lal K tyl len pc lv st S = some (pc', lv', st', S')) : ∃ i a r t n f, st = .int i :: .ref a :: r ∧ (K ≤ a ∧ S.1[a - K]? = some (.inl (t, n, .inr (.inl f)))) ∧ (len = 1 ∧ tyl[t]? = some .long ∧ z_in i n = true) ∧ pc' = pc + 1 ∧ lv' = lv ∧ st' = .long (z_fn 0 f i.toNatClampNeg) :: r ∧ S' = S := by
  unfold z_lal at h
  split at h
  · split at h
    · split at h
      · cases h
        exact ⟨_, _, _, _, _, _, rfl, z_ar_i (by assumption), by assumption, rfl, rfl, rfl, rfl⟩
      · cases h
    · cases h
  · cases h
def z_oV (r : Option Nat) : Value := match r with
  | some i => .ref i
  | none => .null
theorem z_oV_tr (ad : Nat → Nat) (r : Option Nat) : z_tr ad (z_oV r) = va_rf (r.map ad) := by cases r <;> rfl
def z_aal (K : Nat) (tyl : List FieldType) (len pc : Nat) (lv : List (Nat × Value)) (st : List Value) (S : z_S) : Option z_U := match st with
  | .int i :: .ref a :: r => match z_ar K S a with
    | some (t, n, .inr (.inr f)) => match tyl[t]? with
      | some (.object _) => if len = 1 ∧ z_in i n = true then some (pc + 1, lv, z_oV (z_fn none f i.toNatClampNeg) :: r, S) else none
      | _ => none
    | _ => none
  | _ => none
theorem z_aal_i {K : Nat} {tyl : List FieldType} {len pc : Nat} {lv lv' : List (Nat × Value)} {st st' : List Value} {S S' : z_S} {pc' : Nat} (h : z_aal K tyl len pc lv st S = some (pc', lv', st', S')) : ∃ i a r t n f C, st = .int i :: .ref a :: r ∧ (K ≤ a ∧ S.1[a - K]? = some (.inl (t, n, .inr (.inr f)))) ∧ tyl[t]? = some (.object C) ∧ (len = 1 ∧ z_in i n = true) ∧ pc' = pc + 1 ∧ lv' = lv ∧ st' = z_oV (z_fn none f i.toNatClampNeg) :: r ∧ S' = S := by
  unfold z_aal at h
  split at h
  · split at h
    · split at h
      · split at h
        · cases h
          exact ⟨_, _, _, _, _, _, _, rfl, z_ar_i (by assumption), by assumption, by assumption, rfl, rfl, rfl, rfl⟩
        · cases h
      · cases h
    · cases h
  · cases h
def z_nar (ty : FieldType) (x : Int32) : Int32 := match ty with
  | .int => x
  | ty => vp_nar ty x
/-- iastore, and with narrowing bastore -/
def z_ias (K : Nat) (tyl : List FieldType) (ty : FieldType) (len pc : Nat) (lv : List (Nat × Value)) (st : List Value) (S : z_S) : Option z_U := match st with
  | .int x :: .int i :: .ref a :: r => match z_ar K S a with
    | some (t, n, .inl f) => if len = 1 ∧ tyl[t]? = some ty ∧ z_in i n = true then some (pc + 1, lv, r, (S.1.set (a - K) (.inl (t, n, .inl ((i.toNatClampNeg, z_nar ty x) :: f))), S.2)) else none
    | _ => none
  | _ => none
theorem z_ias_i {K : Nat} {tyl : List FieldType} {ty : FieldType} {len pc : Nat} {lv lv' : List (Nat × Value)} {st st' : List Value} {S S' : z_S} {pc' : Nat} (h : z_ias K tyl ty len pc lv st S = some (pc', lv', st', S')) : ∃ x i a r t n f, st = .int x :: .int i :: .ref a :: r ∧ (K ≤ a ∧ S.1[a - K]? = some (.inl (t, n, .inl f))) ∧ (len = 1 ∧ tyl[t]? = some ty ∧ z_in i n = true) ∧ pc' = pc + 1 ∧ lv' = lv ∧ st' = r ∧ S' = (S.1.set (a - K) (.inl (t, n, .inl ((i.toNatClampNeg, z_nar ty x) :: f))), S.2) := by
  unfold z_ias at h
  split at h
  · split at h
    · split at h
      · cases h
        exact ⟨_, _, _, _, _, _, _, rfl, z_ar_i (by assumption), by assumption, rfl, rfl, rfl, rfl⟩
      · cases h
    · cases h
  · cases h
def z_las (K : Nat) (tyl : List FieldType) (len pc : Nat) (lv : List (Nat × Value)) (st : List Value) (S : z_S) : Option z_U := match st with
  | .long x :: .int i :: .ref a :: r => match z_ar K S a with
    | some (t, n, .inr (.inl f)) => if len = 1 ∧ tyl[t]? = some .long ∧ z_in i n = true then some (pc + 1, lv, r, (S.1.set (a - K) (.inl (t, n, .inr (.inl ((i.toNatClampNeg, x) :: f)))), S.2)) else none
    | _ => none
  | _ => none
theorem z_las_i {K : Nat} {tyl : List FieldType} {len pc : Nat} {lv lv' : List (Nat × Value)} {st st' : List Value} {S S' : z_S} {pc' : Nat} (h : z_las K tyl len pc lv st S = some (pc', lv', st', S')) : ∃ x i a r t n f, st = .long x :: .int i :: .ref a :: r ∧ (K ≤ a ∧ S.1[a - K]? = some (.inl (t, n, .inr (.inl f)))) ∧ (len = 1 ∧ tyl[t]? = some .long ∧ z_in i n = true) ∧ pc' = pc + 1 ∧ lv' = lv ∧ st' = r ∧ S' = (S.1.set (a - K) (.inl (t, n, .inr (.inl ((i.toNatClampNeg, x) :: f)))), S.2) := by
  unfold z_las at h
  split at h
  · split at h
    · split at h
      · cases h
        exact ⟨_, _, _, _, _, _, _, rfl, z_ar_i (by assumption), by assumption, rfl, rfl, rfl, rfl⟩
      · cases h
    · cases h
  · cases h
def z_aln (K : Nat) (tyl : List FieldType) (len pc : Nat) (lv : List (Nat × Value)) (st : List Value) (S : z_S) : Option z_U := match st with
  | .ref a :: r => match z_ar K S a with
    | some x => if len = 1 ∧ x.1 < tyl.length then some (pc + 1, lv, .int (Int32.ofNat x.2.1) :: r, S) else none
    | none => none
  | _ => none
theorem z_aln_i {K : Nat} {tyl : List FieldType} {len pc : Nat} {lv lv' : List (Nat × Value)} {st st' : List Value} {S S' : z_S} {pc' : Nat} (h : z_aln K tyl len pc lv st S = some (pc', lv', st', S')) : ∃ a r x, st = .ref a :: r ∧ (K ≤ a ∧ S.1[a - K]? = some (.inl x)) ∧ (len = 1 ∧ x.1 < tyl.length) ∧ pc' = pc + 1 ∧ lv' = lv ∧ st' = .int (Int32.ofNat x.2.1) :: r ∧ S' = S := by
  unfold z_aln at h
  split at h
  · split at h
    · split at h
      · cases h
        exact ⟨_, _, _, rfl, z_ar_i (by assumption), by assumption, rfl, rfl, rfl, rfl⟩
      · cases h
    · cases h
  · cases h
theorem z_nw_i {K cm sm ci N : Nat} {fty : Nat → FieldType} {len pc : Nat} {lv lv' : List (Nat × Value)} {st st' : List Value} {S S' : z_S} {pc' : Nat} (h : z_nw K cm sm ci N fty len pc lv st S = some (pc', lv', st', S')) : (len = 3 ∧ S.1.length + 1 ≤ cm ∧ S.2 + N ≤ sm) ∧ pc' = pc + 3 ∧ lv' = lv ∧ st' = .ref (K + S.1.length) :: st ∧ S' = (S.1 ++ [.inr (ci, z_born fty N)], S.2 + N) := by
  unfold z_nw at h
  split at h
  · cases h
    exact ⟨by assumption, rfl, rfl, rfl, rfl⟩
  · cases h
theorem z_na_i {K cm sm t : Nat} {ty : FieldType} {len pc : Nat} {lv lv' : List (Nat × Value)} {st st' : List Value} {S S' : z_S} {pc' : Nat} (h : z_na K cm sm t ty len pc lv st S = some (pc', lv', st', S')) : ∃ n r a, st = .int n :: r ∧ z_zero ty n.toNatClampNeg = some a ∧ ((len = 2 ∧ ¬ n < 0 ∧ n.toNatClampNeg * componentBytes ty ≤ 536870912) ∧ S.1.length + 1 ≤ cm ∧ S.2 + n.toNatClampNeg ≤ sm) ∧ pc' = pc + 2 ∧ lv' = lv ∧ st' = .ref (K + S.1.length) :: r ∧ S' = (S.1 ++ [.inl (t, a)], S.2 + n.toNatClampNeg) := by
  unfold z_na at h
  split at h
  · split at h
    · split at h
      · cases h
        exact ⟨_, _, _, rfl, by assumption, by assumption, rfl, rfl, rfl, rfl⟩
      · cases h
    · cases h
  · cases h
theorem z_nq_i {K cm sm t : Nat} {len pc : Nat} {lv lv' : List (Nat × Value)} {st st' : List Value} {S S' : z_S} {pc' : Nat} (h : z_nq K cm sm t len pc lv st S = some (pc', lv', st', S')) : ∃ n r, st = .int n :: r ∧ ((len = 3 ∧ ¬ n < 0 ∧ n.toNatClampNeg * 4 ≤ 536870912) ∧ S.1.length + 1 ≤ cm ∧ S.2 + n.toNatClampNeg ≤ sm) ∧ pc' = pc + 3 ∧ lv' = lv ∧ st' = .ref (K + S.1.length) :: r ∧ S' = (S.1 ++ [.inl (t, n.toNatClampNeg, .inr (.inr []))], S.2 + n.toNatClampNeg) := by
  unfold z_nq at h
  split at h
  · split at h
    · cases h
      exact ⟨_, _, rfl, by assumption, rfl, rfl, rfl, rfl⟩
    · cases h
  · cases h
section ZHP
variable {p : Program} {l : Launch} {e : Env} {R : Room} {s : State} {m : MethodId} {args : Array Value} {below : List Frame} {meth : Method} {c : Code} {H : Heap} {locs : List Loc} {cells slots : Nat} {Q : State → Prop}
variable {cc : ByteArray} {ls : Array Slot} {ad : Nat → Nat} {dA : Nat → ClassId} {D : va_G} {cl : List vw_C} {tyl : List FieldType} {fty : Nat → Nat → FieldType} {Ts : List Cond} {K sz : Nat} {pc : Nat}
theorem z_bk {K a : Nat} (h : K ≤ a) : K + (a - K) = a := by omega
/-- what stands in the heap where the machine stands: no more than was made -/
theorem z_pin {g : JFrame} {N : Nat} (hN : s.heap.size + cells ≤ N) (k : H.size ≤ N → W p l e R s m args below meth c H locs cells slots Q g) : W p l e R s m args below meth c H locs cells slots Q g := fun T hT X => k (by
  have h := X.heapSize
  rw [hT] at h
  omega) T hT X
theorem z_getf (hx : p.tables.exec = Jvm.exec) (hb : c.code = cc) {own : String} {index : Nat} (hts : ∀ w ∈ Ts, w.before args s = true) (hown : s.vm.findClass own = some m.cls) (hcl : z_Cl cl fty Ts) (hK : va_K D cl (z_tys dA tyl) s) {h : List z_E} (hP : va_P D cl (z_W ad dA K h) H)
    {ci k : Nat} {C : String} {T : u_T} {N : Nat} (hc : cl[ci]? = some (C, T, N)) (hk : k < N) (hlink : Cond.fieldLink own index (T k).1 (T k).2.1 (T k).2.2.1 ∈ Ts) {a : Nat} {fs : List Value} {v : Value} {r : List Value} (hKa : K ≤ a) (he : h[a - K]? = some (.inr (ci, fs))) (hv : fs[k]? = some v) (hdg : decode cc pc = .ok (.getfield index, 3))
    (kk : W p l e R s m args below meth c H locs cells slots Q (F0 m (pc + 3) ls ((v :: r).map (z_tr ad)))) : W p l e R s m args below meth c H locs cells slots Q (F0 m pc ls ((Value.ref a :: r).map (z_tr ad))) := by
  have h1 := z_W_get (ad := ad) (dA := dA) (K := K) he
  rw [z_bk hKa] at h1
  exact va_get hx hb hts (hcl ci C T N hc).1 hown hK hP (a - K) h1 hc k hk (hts _ hlink) (fun x q => q) (v := z_tr ad v) (by rw [List.getElem?_map, hv]; rfl) hdg kk
theorem z_putf (had : ∀ i, ad (K + i) = sz + i) (hx : p.tables.exec = Jvm.exec) (hb : c.code = cc) {own : String} {index : Nat} (hts : ∀ w ∈ Ts, w.before args s = true) (hown : s.vm.findClass own = some m.cls) (hcl : z_Cl cl fty Ts) (hK : va_K D cl (z_tys dA tyl) s) {h : List z_E} (hP : va_P D cl (z_W ad dA K h) H) (hS : va_S (z_A sz) s.heap H locs)
    {ci k : Nat} {C : String} {T : u_T} {N : Nat} (hc : cl[ci]? = some (C, T, N)) (hk : k < N) (hlink : Cond.fieldLink own index (T k).1 (T k).2.1 (T k).2.2.1 ∈ Ts) (hfin : (T k).2.2.2 = true → meth.name = "<init>" ∧ (T k).1 = own) {a : Nat} {fs : List Value} {v : Value} {r : List Value} (hKa : K ≤ a) (he : h[a - K]? = some (.inr (ci, fs))) (hl : k < fs.length) (hf : z_fit (fty ci k) v = true) (hdg : decode cc pc = .ok (.putfield index, 3))
    (kk : ∀ (H1 : Heap) (locs1 : List Loc), va_P D cl (z_W ad dA K (h.set (a - K) (.inr (ci, fs.set k v)))) H1 → va_S (z_A sz) s.heap H1 locs1 → W p l e R s m args below meth c H1 locs1 cells slots Q (F0 m (pc + 3) ls (r.map (z_tr ad)))) : W p l e R s m args below meth c H locs cells slots Q (F0 m pc ls ((v :: Value.ref a :: r).map (z_tr ad))) := by
  have h1 := z_W_get (ad := ad) (dA := dA) (K := K) he
  obtain ⟨hin, hty, hnm⟩ := hcl ci C T N hc
  obtain ⟨f1, f2⟩ := z_fit_i (ad := ad) hf
  have h2 := z_W_set (ad := ad) (dA := dA) (K := K) (h := h) (i := a - K) (.inr (ci, fs.set k v))
  have h3 : z_trE ad dA (.inr (ci, fs.set k v)) = .inr (ci, (fs.map (z_tr ad)).set k (z_tr ad v)) := by
    show Sum.inr (ci, (fs.set k v).map (z_tr ad)) = _
    rw [List.map_set]
  rw [z_bk hKa] at h1 h2
  rw [h3] at h2
  rw [← h2] at kk
  by_cases hq : (T k).2.2.2 = true
  · obtain ⟨hm, ho⟩ := hfin hq
    exact va_putF hx hb hts hin (fty ci) hty hnm hown hK hP (z_D had h) hS (a - K) h1 hc k hk (hts _ hlink) (fun x q => q) hq hm ho (hty k hk) f1 f2 (by rw [List.length_map]; exact hl) hdg (fun H1 locs1 hp _ hs => kk H1 locs1 hp hs)
  · exact va_put hx hb hts hin (fty ci) hty hnm hown hK hP (z_D had h) hS (a - K) h1 hc k hk (hts _ hlink) (fun x q => q) (by simpa using hq) (hty k hk) f1 f2 (by rw [List.length_map]; exact hl) hdg (fun H1 locs1 hp _ hs => kk H1 locs1 hp hs)
/-- the place of a cell just made -/
theorem z_place (had : ∀ i, ad (K + i) = sz + i) {h : List z_E} {q : Nat} {x : va_E} {H1 : Heap} (hP : va_P D cl (z_W ad dA K h ++ [(q, x)]) H1) (hD : va_D (z_A sz) (z_W ad dA K h ++ [(q, x)])) (hz : H1.size ≤ sz + h.length + 1) : q = ad (K + h.length) := by
  have hw : (z_W ad dA K h).length = h.length := by unfold z_W; rw [List.length_mapIdx]
  have hq : (z_W ad dA K h ++ [(q, x)])[h.length]? = some (q, x) := by
    rw [List.getElem?_append_right (by omega), hw, Nat.sub_self]
    rfl
  have h1 : q < H1.size := (hP _ _ hq).lt
  have h2 : sz ≤ q := hD.2 _ _ hq
  rw [had]
  rcases Nat.lt_or_ge q (sz + h.length) with h3 | h3
  · exfalso
    have hl : q - sz < h.length := by omega
    obtain ⟨y, hy⟩ : ∃ y, h[q - sz]? = some y := ⟨_, List.getElem?_eq_getElem hl⟩
    have h4 := z_W_get (ad := ad) (dA := dA) (K := K) hy
    have h5 : (z_W ad dA K h ++ [(q, x)])[q - sz]? = some (ad (K + (q - sz)), z_trE ad dA y) := by
      rw [List.getElem?_append_left (by omega)]
      exact h4
    have h6 := hD.1 _ _ _ _ h5 hq (by show ad (K + (q - sz)) = q; rw [had]; omega)
    omega
  · omega
theorem z_new (had : ∀ i, ad (K + i) = sz + i) (hx : p.tables.exec = Jvm.exec) (hb : c.code = cc) {own : String} {index : Nat} (hts : ∀ w ∈ Ts, w.before args s = true) (hown : s.vm.findClass own = some m.cls) (hcl : z_Cl cl fty Ts) (hK : va_K D cl (z_tys dA tyl) s) {h : List z_E} (hP : va_P D cl (z_W ad dA K h) H) (hS : va_S (z_A sz) s.heap H locs) (hA : sz ≤ s.heap.size)
    {ci : Nat} {C : String} {T : u_T} {N : Nat} (hc : cl[ci]? = some (C, T, N)) (hlink : Cond.classLink own index C ∈ Ts) (hins : Cond.instantiable C N ∈ Ts) (hini : Cond.initialized C ∈ Ts) (hcells : cells + 1 ≤ R.cells) (hslots : slots + N ≤ R.slots) (hn : s.heap.size + cells ≤ sz + h.length) (hdg : decode cc pc = .ok (.new index, 3)) {r : List Value}
    (kk : ∀ (H1 : Heap), va_P D cl (z_W ad dA K (h ++ [.inr (ci, z_born (fty ci) N)])) H1 → va_S (z_A sz) s.heap H1 locs → W p l e R s m args below meth c H1 locs (cells + 1) (slots + N) Q (F0 m (pc + 3) ls ((Value.ref (K + h.length) :: r).map (z_tr ad)))) : W p l e R s m args below meth c H locs cells slots Q (F0 m pc ls (r.map (z_tr ad))) := by
  obtain ⟨hin, hty, hnm⟩ := hcl ci C T N hc
  refine va_new hx hb hts hin (fty ci) hty hown (hts _ hlink) (hts _ hins) (hts _ hini) hK hP (z_D had h) hS (fun q hq => Nat.le_trans hA hq) hc (z_born_V ad (fty ci) N) hcells hslots hdg (fun q H1 hp hd hs => ?_)
  refine z_pin (N := sz + h.length + 1) (by omega) (fun hz => ?_)
  have hq := z_place had hp hd hz
  subst hq
  refine kk H1 ?_ hs
  rw [z_W_app]
  exact hp
theorem z_newa (had : ∀ i, ad (K + i) = sz + i) (hx : p.tables.exec = Jvm.exec) (hb : c.code = cc) (hts : ∀ w ∈ Ts, w.before args s = true) (hK : va_K D cl (z_tys dA tyl) s) {h : List z_E} (hP : va_P D cl (z_W ad dA K h) H) (hS : va_S (z_A sz) s.heap H locs) (hA : sz ≤ s.heap.size)
    {atype : ArrayType} {t : Nat} {ty : FieldType} (hty : newarray.typeOf atype = ty) (ht : tyl[t]? = some ty) (hw : Cond.arrayClass ty ∈ Ts) {n : Int32} {a : Nat × z_C} (ha : z_zero ty n.toNatClampNeg = some a) (hn0 : ¬ n < 0) (hbytes : n.toNatClampNeg * componentBytes ty ≤ 536870912) (hcells : cells + 1 ≤ R.cells) (hslots : slots + n.toNatClampNeg ≤ R.slots) (hn : s.heap.size + cells ≤ sz + h.length) (hdg : decode cc pc = .ok (.newarray atype, 2)) {r : List Value}
    (kk : ∀ (H1 : Heap), va_P D cl (z_W ad dA K (h ++ [.inl (t, a)])) H1 → va_S (z_A sz) s.heap H1 locs → W p l e R s m args below meth c H1 locs (cells + 1) (slots + n.toNatClampNeg) Q (F0 m (pc + 2) ls ((Value.ref (K + h.length) :: r).map (z_tr ad)))) : W p l e R s m args below meth c H locs cells slots Q (F0 m pc ls ((Value.int n :: r).map (z_tr ad))) := by
  refine va_newa hx hb (by rw [hty]; exact hts _ hw) hty hK hP (z_D had h) hS (fun q hq => Nat.le_trans hA hq) (a0 := z_trA ad a) (fun cA => z_zero_i ha ad cA) hn0 rfl hbytes hcells hslots hdg (fun q cA H1 hk hp hd hs => ?_)
  refine z_pin (N := sz + h.length + 1) (by omega) (fun hz => ?_)
  have hq := z_place had hp hd hz
  subst hq
  have hlen : (z_tys dA tyl).length = tyl.length := by unfold z_tys; rw [List.length_mapIdx]
  have h1 := (hk.2 tyl.length (cA, ty) (by rw [List.getElem?_append_right (by omega), hlen, Nat.sub_self]; rfl)).2
  have h2 := (hK.2 t (dA t, ty) (z_tys_get ht)).2
  have hcA : cA = dA t := by
    cases ty <;> simp [z_zero] at ha <;> exact Option.some.inj (h1.symm.trans h2)
  subst hcA
  refine kk H1 ?_ hs
  rw [z_W_app]
  exact hp
theorem z_newq (had : ∀ i, ad (K + i) = sz + i) (hx : p.tables.exec = Jvm.exec) (hb : c.code = cc) {own C : String} {index : Nat} (hts : ∀ w ∈ Ts, w.before args s = true) (hown : s.vm.findClass own = some m.cls) (hlink : Cond.classLink own index C ∈ Ts) (hover : va_AO C s) (hK : va_K D cl (z_tys dA tyl) s) {h : List z_E} (hP : va_P D cl (z_W ad dA K h) H) (hS : va_S (z_A sz) s.heap H locs) (hA : sz ≤ s.heap.size)
    {t : Nat} (ht : tyl[t]? = some (.object C)) {n : Int32} (hn0 : ¬ n < 0) (hbytes : n.toNatClampNeg * 4 ≤ 536870912) (hcells : cells + 1 ≤ R.cells) (hslots : slots + n.toNatClampNeg ≤ R.slots) (hn : s.heap.size + cells ≤ sz + h.length) (hdg : decode cc pc = .ok (.anewarray index, 3)) {r : List Value}
    (kk : ∀ (H1 : Heap), va_P D cl (z_W ad dA K (h ++ [.inl (t, n.toNatClampNeg, .inr (.inr []))])) H1 → va_S (z_A sz) s.heap H1 locs → W p l e R s m args below meth c H1 locs (cells + 1) (slots + n.toNatClampNeg) Q (F0 m (pc + 3) ls ((Value.ref (K + h.length) :: r).map (z_tr ad)))) : W p l e R s m args below meth c H locs cells slots Q (F0 m pc ls ((Value.int n :: r).map (z_tr ad))) := by
  refine va_newq hx hb hown (hts _ hlink) hover hK hP (z_D had h) hS (fun q hq => Nat.le_trans hA hq) hn0 rfl hbytes hcells hslots hdg (fun q cA H1 hk hp hd hs => ?_)
  refine z_pin (N := sz + h.length + 1) (by omega) (fun hz => ?_)
  have hq := z_place had hp hd hz
  subst hq
  have hlen : (z_tys dA tyl).length = tyl.length := by unfold z_tys; rw [List.length_mapIdx]
  obtain ⟨k1, c1, a1, a2, a3, a4⟩ := (hk.2 tyl.length (cA, .object C) (by rw [List.getElem?_append_right (by omega), hlen, Nat.sub_self]; rfl)).2
  obtain ⟨k2, c2, b1, b2, b3, b4⟩ := (hK.2 t (dA t, .object C) (z_tys_get ht)).2
  have hcA : cA = dA t := Option.some.inj (a4.symm.trans b4)
  subst hcA
  refine kk H1 ?_ hs
  rw [z_W_app]
  exact hp
theorem z_iald (hx : p.tables.exec = Jvm.exec) (hb : c.code = cc) (hK : va_K D cl (z_tys dA tyl) s) {h : List z_E} (hP : va_P D cl (z_W ad dA K h) H) {t a n : Nat} {f : List (Nat × Int32)} (hKa : K ≤ a) (he : h[a - K]? = some (.inl (t, n, .inl f))) (ht : tyl[t]? = some .int) {i : Int32} (hin : z_in i n = true) (hdg : decode cc pc = .ok (.iaload, 1)) {r : List Value}
    (kk : W p l e R s m args below meth c H locs cells slots Q (F0 m (pc + 1) ls ((Value.int (z_fn 0 f i.toNatClampNeg) :: r).map (z_tr ad)))) : W p l e R s m args below meth c H locs cells slots Q (F0 m pc ls ((Value.int i :: .ref a :: r).map (z_tr ad))) := by
  have h1 := z_W_get (ad := ad) (dA := dA) (K := K) he
  rw [z_bk hKa] at h1
  exact va_iald hx hb hK hP (a - K) t h1 (z_tys_get ht) (z_in_i hin) hdg kk
theorem z_bald (hx : p.tables.exec = Jvm.exec) (hb : c.code = cc) (hK : va_K D cl (z_tys dA tyl) s) {h : List z_E} (hP : va_P D cl (z_W ad dA K h) H) {t a n : Nat} {f : List (Nat × Int32)} (hKa : K ≤ a) (he : h[a - K]? = some (.inl (t, n, .inl f))) (ht : tyl[t]? = some .byte) {i : Int32} (hin : z_in i n = true) (hdg : decode cc pc = .ok (.baload, 1)) {r : List Value}
    (kk : W p l e R s m args below meth c H locs cells slots Q (F0 m (pc + 1) ls ((Value.int (z_fn 0 f i.toNatClampNeg) :: r).map (z_tr ad)))) : W p l e R s m args below meth c H locs cells slots Q (F0 m pc ls ((Value.int i :: .ref a :: r).map (z_tr ad))) := by
  have h1 := z_W_get (ad := ad) (dA := dA) (K := K) he
  rw [z_bk hKa] at h1
  exact va_bald hx hb hK hP (a - K) t h1 (z_tys_get ht) (z_in_i hin) hdg kk
theorem z_zald (hx : p.tables.exec = Jvm.exec) (hb : c.code = cc) (hK : va_K D cl (z_tys dA tyl) s) {h : List z_E} (hP : va_P D cl (z_W ad dA K h) H) {t a n : Nat} {f : List (Nat × Int32)} (hKa : K ≤ a) (he : h[a - K]? = some (.inl (t, n, .inl f))) (ht : tyl[t]? = some .boolean) {i : Int32} (hin : z_in i n = true) (hdg : decode cc pc = .ok (.baload, 1)) {r : List Value}
    (kk : W p l e R s m args below meth c H locs cells slots Q (F0 m (pc + 1) ls ((Value.int (z_fn 0 f i.toNatClampNeg) :: r).map (z_tr ad)))) : W p l e R s m args below meth c H locs cells slots Q (F0 m pc ls ((Value.int i :: .ref a :: r).map (z_tr ad))) := by
  have h1 := z_W_get (ad := ad) (dA := dA) (K := K) he
  rw [z_bk hKa] at h1
  exact va_zald hx hb hK hP (a - K) t h1 (z_tys_get ht) (z_in_i hin) hdg kk
theorem z_lald (hx : p.tables.exec = Jvm.exec) (hb : c.code = cc) (hK : va_K D cl (z_tys dA tyl) s) {h : List z_E} (hP : va_P D cl (z_W ad dA K h) H) {t a n : Nat} {f : List (Nat × Int64)} (hKa : K ≤ a) (he : h[a - K]? = some (.inl (t, n, .inr (.inl f)))) (ht : tyl[t]? = some .long) {i : Int32} (hin : z_in i n = true) (hdg : decode cc pc = .ok (.laload, 1)) {r : List Value}
    (kk : W p l e R s m args below meth c H locs cells slots Q (F0 m (pc + 1) ls ((Value.long (z_fn 0 f i.toNatClampNeg) :: r).map (z_tr ad)))) : W p l e R s m args below meth c H locs cells slots Q (F0 m pc ls ((Value.int i :: .ref a :: r).map (z_tr ad))) := by
  have h1 := z_W_get (ad := ad) (dA := dA) (K := K) he
  rw [z_bk hKa] at h1
  exact va_lald hx hb hK hP (a - K) t h1 (z_tys_get ht) (z_in_i hin) hdg kk
theorem z_aald (hx : p.tables.exec = Jvm.exec) (hb : c.code = cc) (hK : va_K D cl (z_tys dA tyl) s) {h : List z_E} (hP : va_P D cl (z_W ad dA K h) H) {t a n : Nat} {C : String} {f : List (Nat × Option Nat)} (hKa : K ≤ a) (he : h[a - K]? = some (.inl (t, n, .inr (.inr f)))) (ht : tyl[t]? = some (.object C)) {i : Int32} (hin : z_in i n = true) (hdg : decode cc pc = .ok (.aaload, 1)) {r : List Value}
    (kk : W p l e R s m args below meth c H locs cells slots Q (F0 m (pc + 1) ls ((z_oV (z_fn none f i.toNatClampNeg) :: r).map (z_tr ad)))) : W p l e R s m args below meth c H locs cells slots Q (F0 m pc ls ((Value.int i :: .ref a :: r).map (z_tr ad))) := by
  have h1 := z_W_get (ad := ad) (dA := dA) (K := K) he
  rw [z_bk hKa] at h1
  refine va_aldq hx hb hK hP (a - K) t h1 (z_tys_get ht) (z_in_i hin) hdg ?_
  have h2 := z_oV_tr ad (z_fn none f i.toNatClampNeg)
  rw [← h2]
  exact kk
theorem z_iast (had : ∀ i, ad (K + i) = sz + i) (hx : p.tables.exec = Jvm.exec) (hb : c.code = cc) (hK : va_K D cl (z_tys dA tyl) s) {h : List z_E} (hP : va_P D cl (z_W ad dA K h) H) (hS : va_S (z_A sz) s.heap H locs) {t a n : Nat} {f : List (Nat × Int32)} (hKa : K ≤ a) (he : h[a - K]? = some (.inl (t, n, .inl f))) (ht : tyl[t]? = some .int) {i x : Int32} (hin : z_in i n = true) (hdg : decode cc pc = .ok (.iastore, 1)) {r : List Value}
    (kk : ∀ (H1 : Heap) (locs1 : List Loc), va_P D cl (z_W ad dA K (h.set (a - K) (.inl (t, n, .inl ((i.toNatClampNeg, x) :: f))))) H1 → va_S (z_A sz) s.heap H1 locs1 → W p l e R s m args below meth c H1 locs1 cells slots Q (F0 m (pc + 1) ls (r.map (z_tr ad)))) : W p l e R s m args below meth c H locs cells slots Q (F0 m pc ls ((Value.int x :: .int i :: .ref a :: r).map (z_tr ad))) := by
  have h1 := z_W_get (ad := ad) (dA := dA) (K := K) he
  have h2 := z_W_set (ad := ad) (dA := dA) (K := K) (h := h) (i := a - K) (.inl (t, n, .inl ((i.toNatClampNeg, x) :: f)))
  rw [z_bk hKa] at h1 h2
  have h3 : z_trE ad dA (.inl (t, n, .inl ((i.toNatClampNeg, x) :: f))) = .inl (dA t, n, .inl (upd (z_fn 0 f) i.toNatClampNeg x)) := by
    show Sum.inl (dA t, n, Sum.inl (z_fn 0 _)) = _
    rw [z_fn_upd]
  rw [h3] at h2
  rw [← h2] at kk
  exact va_iast hx hb hK hP (z_D had h) hS (a - K) t h1 (z_tys_get ht) (z_in_i hin) hdg (fun H1 locs1 hp _ hs => kk H1 locs1 hp hs)
theorem z_bast (had : ∀ i, ad (K + i) = sz + i) (hx : p.tables.exec = Jvm.exec) (hb : c.code = cc) (hK : va_K D cl (z_tys dA tyl) s) {h : List z_E} (hP : va_P D cl (z_W ad dA K h) H) (hS : va_S (z_A sz) s.heap H locs) {t a n : Nat} {f : List (Nat × Int32)} (hKa : K ≤ a) (he : h[a - K]? = some (.inl (t, n, .inl f))) (ht : tyl[t]? = some .byte) {i x : Int32} (hin : z_in i n = true) (hdg : decode cc pc = .ok (.bastore, 1)) {r : List Value}
    (kk : ∀ (H1 : Heap) (locs1 : List Loc), va_P D cl (z_W ad dA K (h.set (a - K) (.inl (t, n, .inl ((i.toNatClampNeg, (vp_nar .byte x)) :: f))))) H1 → va_S (z_A sz) s.heap H1 locs1 → W p l e R s m args below meth c H1 locs1 cells slots Q (F0 m (pc + 1) ls (r.map (z_tr ad)))) : W p l e R s m args below meth c H locs cells slots Q (F0 m pc ls ((Value.int x :: .int i :: .ref a :: r).map (z_tr ad))) := by
  have h1 := z_W_get (ad := ad) (dA := dA) (K := K) he
  have h2 := z_W_set (ad := ad) (dA := dA) (K := K) (h := h) (i := a - K) (.inl (t, n, .inl ((i.toNatClampNeg, (vp_nar .byte x)) :: f)))
  rw [z_bk hKa] at h1 h2
  have h3 : z_trE ad dA (.inl (t, n, .inl ((i.toNatClampNeg, (vp_nar .byte x)) :: f))) = .inl (dA t, n, .inl (upd (z_fn 0 f) i.toNatClampNeg (vp_nar .byte x))) := by
    show Sum.inl (dA t, n, Sum.inl (z_fn 0 _)) = _
    rw [z_fn_upd]
  rw [h3] at h2
  rw [← h2] at kk
  exact va_bast hx hb hK hP (z_D had h) hS (a - K) t h1 (z_tys_get ht) (z_in_i hin) hdg (fun H1 locs1 hp _ hs => kk H1 locs1 hp hs)
theorem z_zast (had : ∀ i, ad (K + i) = sz + i) (hx : p.tables.exec = Jvm.exec) (hb : c.code = cc) (hK : va_K D cl (z_tys dA tyl) s) {h : List z_E} (hP : va_P D cl (z_W ad dA K h) H) (hS : va_S (z_A sz) s.heap H locs) {t a n : Nat} {f : List (Nat × Int32)} (hKa : K ≤ a) (he : h[a - K]? = some (.inl (t, n, .inl f))) (ht : tyl[t]? = some .boolean) {i x : Int32} (hin : z_in i n = true) (hdg : decode cc pc = .ok (.bastore, 1)) {r : List Value}
    (kk : ∀ (H1 : Heap) (locs1 : List Loc), va_P D cl (z_W ad dA K (h.set (a - K) (.inl (t, n, .inl ((i.toNatClampNeg, (vp_nar .boolean x)) :: f))))) H1 → va_S (z_A sz) s.heap H1 locs1 → W p l e R s m args below meth c H1 locs1 cells slots Q (F0 m (pc + 1) ls (r.map (z_tr ad)))) : W p l e R s m args below meth c H locs cells slots Q (F0 m pc ls ((Value.int x :: .int i :: .ref a :: r).map (z_tr ad))) := by
  have h1 := z_W_get (ad := ad) (dA := dA) (K := K) he
  have h2 := z_W_set (ad := ad) (dA := dA) (K := K) (h := h) (i := a - K) (.inl (t, n, .inl ((i.toNatClampNeg, (vp_nar .boolean x)) :: f)))
  rw [z_bk hKa] at h1 h2
  have h3 : z_trE ad dA (.inl (t, n, .inl ((i.toNatClampNeg, (vp_nar .boolean x)) :: f))) = .inl (dA t, n, .inl (upd (z_fn 0 f) i.toNatClampNeg (vp_nar .boolean x))) := by
    show Sum.inl (dA t, n, Sum.inl (z_fn 0 _)) = _
    rw [z_fn_upd]
  rw [h3] at h2
  rw [← h2] at kk
  exact va_zast hx hb hK hP (z_D had h) hS (a - K) t h1 (z_tys_get ht) (z_in_i hin) hdg (fun H1 locs1 hp _ hs => kk H1 locs1 hp hs)
theorem z_last (had : ∀ i, ad (K + i) = sz + i) (hx : p.tables.exec = Jvm.exec) (hb : c.code = cc) (hK : va_K D cl (z_tys dA tyl) s) {h : List z_E} (hP : va_P D cl (z_W ad dA K h) H) (hS : va_S (z_A sz) s.heap H locs) {t a n : Nat} {f : List (Nat × Int64)} (hKa : K ≤ a) (he : h[a - K]? = some (.inl (t, n, .inr (.inl f)))) (ht : tyl[t]? = some .long) {i : Int32} {x : Int64} (hin : z_in i n = true) (hdg : decode cc pc = .ok (.lastore, 1)) {r : List Value}
    (kk : ∀ (H1 : Heap) (locs1 : List Loc), va_P D cl (z_W ad dA K (h.set (a - K) (.inl (t, n, .inr (.inl ((i.toNatClampNeg, x) :: f)))))) H1 → va_S (z_A sz) s.heap H1 locs1 → W p l e R s m args below meth c H1 locs1 cells slots Q (F0 m (pc + 1) ls (r.map (z_tr ad)))) : W p l e R s m args below meth c H locs cells slots Q (F0 m pc ls ((Value.long x :: .int i :: .ref a :: r).map (z_tr ad))) := by
  have h1 := z_W_get (ad := ad) (dA := dA) (K := K) he
  have h2 := z_W_set (ad := ad) (dA := dA) (K := K) (h := h) (i := a - K) (.inl (t, n, .inr (.inl ((i.toNatClampNeg, x) :: f))))
  rw [z_bk hKa] at h1 h2
  have h3 : z_trE ad dA (.inl (t, n, .inr (.inl ((i.toNatClampNeg, x) :: f)))) = .inl (dA t, n, .inr (.inl (vp_updL (z_fn 0 f) i.toNatClampNeg x))) := by
    show Sum.inl (dA t, n, Sum.inr (Sum.inl (z_fn 0 _))) = _
    rw [z_fn_updL]
  rw [h3] at h2
  rw [← h2] at kk
  exact va_last hx hb hK hP (z_D had h) hS (a - K) t h1 (z_tys_get ht) (z_in_i hin) hdg (fun H1 locs1 hp _ hs => kk H1 locs1 hp hs)
theorem z_alen (hx : p.tables.exec = Jvm.exec) (hb : c.code = cc) (hK : va_K D cl (z_tys dA tyl) s) {h : List z_E} (hP : va_P D cl (z_W ad dA K h) H) {a : Nat} {x : Nat × Nat × z_C} (hKa : K ≤ a) (he : h[a - K]? = some (.inl x)) (ht : x.1 < tyl.length) (hdg : decode cc pc = .ok (.arraylength, 1)) {r : List Value}
    (kk : W p l e R s m args below meth c H locs cells slots Q (F0 m (pc + 1) ls ((Value.int (Int32.ofNat x.2.1) :: r).map (z_tr ad)))) : W p l e R s m args below meth c H locs cells slots Q (F0 m pc ls ((Value.ref a :: r).map (z_tr ad))) := by
  have h1 := z_W_get (ad := ad) (dA := dA) (K := K) he
  rw [z_bk hKa] at h1
  exact va_alen hx hb hK hP (a - K) x.1 h1 (z_tys_get (List.getElem?_eq_getElem ht)) rfl hdg kk
theorem z_asg (vm : Vm) (c : ClassId) : vm.assignable c c = true := by
  have h : ∀ n, vm.assignableAux (n + 1) c c = true := by
    intro n
    unfold Vm.assignableAux
    rw [beq_self_eq_true, Bool.true_or]
  exact h 255
/-- a constant is stored in an array of references -/
theorem z_aastF (had : ∀ i, ad (K + i) = sz + i) (hx : p.tables.exec = Jvm.exec) (hb : c.code = cc) (hK : va_K D cl (z_tys dA tyl) s) {h : List z_E} (hP : va_P D cl (z_W ad dA K h) H) (hS : va_S (z_A sz) s.heap H locs) {t a n v : Nat} {C : String} {f : List (Nat × Option Nat)} (hKa : K ≤ a) (he : h[a - K]? = some (.inl (t, n, .inr (.inr f)))) (ht : tyl[t]? = some (.object C)) (hv : va_O C (ad v) (z_A sz) s s.heap) (hat : ∃ (cC : ClassId) (kC : Class), s.vm.findClass C = some cC ∧ s.vm.classes[cC]? = some kC) {i : Int32} (hin : z_in i n = true) (hdg : decode cc pc = .ok (.aastore, 1)) {r : List Value}
    (kk : ∀ (H1 : Heap) (locs1 : List Loc), va_P D cl (z_W ad dA K (h.set (a - K) (.inl (t, n, .inr (.inr ((i.toNatClampNeg, some v) :: f)))))) H1 → va_S (z_A sz) s.heap H1 locs1 → W p l e R s m args below meth c H1 locs1 cells slots Q (F0 m (pc + 1) ls (r.map (z_tr ad)))) : W p l e R s m args below meth c H locs cells slots Q (F0 m pc ls ((Value.ref v :: .int i :: .ref a :: r).map (z_tr ad))) := by
  have h1 := z_W_get (ad := ad) (dA := dA) (K := K) he
  have h2 := z_W_set (ad := ad) (dA := dA) (K := K) (h := h) (i := a - K) (.inl (t, n, .inr (.inr ((i.toNatClampNeg, some v) :: f))))
  rw [z_bk hKa] at h1 h2
  have hi := z_in_i hin
  have hlt : i.toNatClampNeg < n := Nat.not_le.mp fun q => hi (Or.inr q)
  have h0 : ¬ i < 0 := fun q => hi (Or.inl q)
  obtain ⟨cellV, g1, g2, g3, g4⟩ := hv.kept hS.2.1
  obtain ⟨cC, kC, hfc, hkC⟩ := hat
  have hcell : cellV.cls = cC := Option.some.inj (g3.symm.trans hfc)
  obtain ⟨kA, comp, k1, k2, k3, -⟩ := (hK.2 t _ (z_tys_get ht)).2
  have hcomp : comp = cC := Option.some.inj (k3.symm.trans hfc)
  subst hcomp
  have hD := z_D (dA := dA) had h
  refine W.aast hx hb (hP (a - K) _ h1) (fun q h => by cases h) (fun h => by cases h) k1 k2 rfl hkC ⟨h0, by show _ < (arrV _ _ _).slots.size; rw [arrV_size]; exact hlt⟩ g1 (fun q h => by rw [h] at g2; cases g2) (by rw [hcell]; exact hkC) (by rw [hcell]; exact z_asg s.vm comp) rfl rfl hdg fun H1 e z oq => ?_
  refine kk H1 _ ?_ (hS.put z oq (hD.2 (a - K) _ h1))
  rw [← h2]
  refine hP.set hD h1 ?_ oq
  show H1[ad a]? = some (vp_cell _ _)
  rw [e]
  show some ((vp_cell (dA t) (n, .inr (.inr (.inr (.inr (fun j => (z_fn none f j).map ad)))))).setSlot i.toNatClampNeg (.ref (ad v))) = some (vp_cell (dA t) (n, .inr (.inr (.inr (.inr (fun j => (z_fn none ((i.toNatClampNeg, some v) :: f) j).map ad))))))
  rw [vp_cell_q, vp_cell_q, arrV_store]
  congr 2
  funext q
  by_cases hq : q = i.toNatClampNeg
  · subst hq
    simp [updV, z_fn, va_rf]
  · simp [updV, z_fn, hq]
end ZHP
end
section
/-! Contracts of methods that return or throw, and calls of them. -/
/-- behind a method, however it ended: warmer tables; written places L; at most k cells of n slots are new -/
def z_End (first t : State) (L : List Loc) (k n : Nat) : Prop := first.WarmedH t.vm ∧ first.sameButNew ({ t with vm := first.vm } : State) L k n
def z_Met (l : Launch) (y : MethodName) (ws : List Cond) (rm : Room) (Pc : Array Value → State → Prop) (Qc : Array Value → State → Outcome → State → Prop) (k n : Nat) (free : Addr → Prop) : Prop :=
  MetFree l y (headSpec ws rm) Pc (fun _ _ _ _ _ => True) (fun a st o t => Qc a st o t ∧ ∃ L, z_End st t L k n ∧ ∀ q ∈ L, free q.base)
def z_MQ (below : List Frame) (Qc : Array Value → State → Outcome → State → Prop) (a : Array Value) (s : State) (k n : Nat) (free : Addr → Prop) : State → Prop := fun t =>
  ∃ o, t.status = .running ∧ Ended t below o ∧ Qc a s o t ∧ ∃ L, z_End s t L k n ∧ ∀ q ∈ L, free q.base
/-- a method's code word: with or without a table of handlers -/
def z_cw (y : MethodName) (cc : ByteArray) (maxL : Nat) (ret : Option FieldType) (hh : List (Nat × Nat × Nat × Nat)) : Cond := match hh with
  | [] => .code y cc maxL ret
  | hh => .codeWith y cc maxL ret hh
theorem z_cw_spec {y : MethodName} {cc : ByteArray} {maxL : Nat} {ret : Option FieldType} {hh : List (Nat × Nat × Nat × Nat)} {args : Array Value} {s : State} (h : (z_cw y cc maxL ret hh).before args s = true) :
    ∃ m meth c, s.methodNamed? y = some m ∧ s.vm.method? m = some meth ∧ meth.code = some c ∧ c.code = cc ∧ c.maxLocals = maxL ∧ c.exceptionTable.toList = tableOf hh ∧ meth.sig.returnType = ret ∧ meth.locks = false ∧ parseMethodDescriptor y.desc = some meth.sig := by
  cases hh with
  | nil =>
    obtain ⟨m, hn⟩ := Cond.code_named h
    obtain ⟨meth, c, h1, h2, h3, h4, h5, h6, h7, h8⟩ := Cond.code_spec hn h
    refine ⟨m, meth, c, hn, h1, h2, h3, h4, ?_, h5, h6, h8⟩
    have : c.exceptionTable = #[] := by simpa using h7
    rw [this]
    rfl
  | cons q r =>
    obtain ⟨m, meth, c, hn, h1, h2, h3, h4, h5, h6, h7, h8⟩ := Cond.codeWith_spec h
    exact ⟨m, meth, c, hn, h1, h2, h3, h4, by rw [← h5, table_eq], h6, h7, h8⟩
theorem z_ofW {l : Launch} {y : MethodName} {ws : List Cond} {rm : Room} {Pc : Array Value → State → Prop} {Qc : Array Value → State → Outcome → State → Prop} {k n : Nat} {free : Addr → Prop} {cc : ByteArray} {maxL : Nat} {ret : Option FieldType} {hh : List (Nat × Nat × Nat × Nat)}
    (hy : plainName y.cls = true) (hw : z_cw y cc maxL ret hh ∈ ws)
    (body : ∀ p e s m args below meth c s₁, BodyLoose p l y (headSpec ws rm) cc maxL ret e s m args below meth c s₁ → c.maxLocals = maxL → c.exceptionTable.toList = tableOf hh → Pc args s →
      W p l e rm s m args below meth c s.heap [] 0 0 (z_MQ below Qc args s k n free) (entryFrame m args maxL)) : z_Met l y ws rm Pc Qc k n free := by
  refine MetFree.of_bodyS (code := cc) (maxLocals := maxL) (ret := ret) hy ?_ ?_
  · intro args s m h hn
    obtain ⟨m', meth, c, hn', h1, h2, h3, h4, -, h6, h7, -⟩ := z_cw_spec (atoms_spec (ws := ws) h _ hw)
    cases hn.symm.trans hn'
    exact ⟨meth, c, h1, h2, h3, h4, h6, h7⟩
  · intro p e s m args below meth c s₁ B hml hP _
    obtain ⟨m', meth', c', hn', h1, h2, -, -, h5, -⟩ := z_cw_spec (atoms_spec (ws := ws) B.pre _ hw)
    cases B.named.symm.trans hn'
    cases B.method.symm.trans h1
    have X₀ : Stand p l e rm s m args below meth c s₁ [] 0 0 := Stand.of_body B
    cases X₀.code.symm.trans h2
    have hh0 : s₁.heap = s.heap := by rw [B.state]; rfl
    obtain ⟨t, a1, o, b1, b2, b3⟩ := body p e s m args below meth c s₁ B hml h5 hP s₁ hh0 X₀
    exact ⟨t, o, a1, b1, b2, b3⟩
section ZCALL
variable {p : Program} {l : Launch} {e : Env} {R : Room} {s : State} {m : MethodId} {args : Array Value} {below : List Frame} {meth : Method} {c : Code} {T : State} {H : Heap} {locs : List Loc} {cells slots : Nat} {Q : State → Prop}
/-- where the machine comes to behind a callee that ended with o -/
def z_Aft (e : Env) (p : Program) (below : List Frame) (u T' : State) (g : JFrame) (len : Nat) (o : Outcome) : Prop := match o with
  | .returned v => Steps p.tables e below u (T'.setTop { g with pc := g.pc + len, stack := v.toList ++ g.stack })
  | .threw x => Steps p.tables e below u ((T'.setTop g).pushFrame (.throwing x))
set_option maxHeartbeats 1000000 in
theorem z_callee (X : Stand p l e R s m args below meth c T locs cells slots) {y : MethodName} {ws : List Cond} {rm : Room} {Pc : Array Value → State → Prop} {Qc : Array Value → State → Outcome → State → Prop} {k n : Nat} {free : Addr → Prop} (hM : z_Met l y ws rm Pc Qc k n free) (hbl : FrameBlind Pc)
    {maxL : Nat} (hfr : rm.frames + 1 ≤ R.frames) (hlo : 8 + (maxL + 11) + rm.locals ≤ R.locals) (hce : cells + rm.cells ≤ R.cells) (hsl : slots + rm.slots ≤ R.slots)
    {g : JFrame} (hg : g.method = m) (hsize : g.locals.size = c.maxLocals) {ig : Instr} {len : Nat} (hdg : decode c.code g.pc = .ok (ig, len)) (hW : 2 * g.monitorRoom + (g.stack.map fun v => v.category).sum ≤ 8)
    {mk : MethodId} (hn : T.methodNamed? y = some mk) {methY : Method} {cY : Code} (hmY : T.vm.method? mk = some methY) (hcY : methY.code = some cY) (hlY : cY.maxLocals = maxL) {a : Array Value} (hws : ∀ w ∈ ws, w.before a T = true) (hini : (Cond.initialized y.cls).before a T = true) (hPc : Pc a T) :
    ∃ (o : Outcome) (t T' : State) (L : List Loc), Stand p l e R s m args below meth c T' (locs ++ L) (cells + k) (slots + n) ∧ (∀ q ∈ L, free q.base) ∧ T'.heap = t.heap ∧ T'.vm = t.vm ∧ Qc a (T.calling g mk a) o t ∧ z_Aft e p below (doInvoke e (T.setTop g) [] mk a).1 T' g len o := by
  obtain ⟨kY, hkY, -⟩ := className_of_methodNamed hn
  have hinitY : kY.init = .initialized := Cond.initialized_spec (findClass_of_methodNamed hn) hkY hini
  have hat : At T g.method c below := by rw [hg]; exact X.here
  have happ : (headSpec ws rm).appliesLoose y e.platform (T.calling g mk a) = true :=
    Spec.appliesLoose_calling (g := g) hat hdg hn hkY hinitY
      (X.room_calling (g := g) (R' := (headSpec ws rm).room) hsize hmY hcY hfr (by rw [hlY]; show _ + _ + rm.locals ≤ _; omega) hce hsl) (atoms_intro hws)
  obtain ⟨mid, hmid⟩ := hat.above
  have hfrs : (T.setTop g).frames = (.java g :: mid) ++ below := by rw [State.frames_setTop' g hat.top, hmid]; rfl
  obtain ⟨o, s₂, hsteps, -, hend, hq0⟩ := Steps.callFree hM p X.admits X.cas X.clock (acts := []) hfrs happ (hbl _ _ _ _ hPc) trivial
  have hq1 : Qc a (T.calling g mk a) o s₂ ∧ ∃ L, z_End (T.calling g mk a) s₂ L k n ∧ ∀ q ∈ L, free q.base := hq0
  obtain ⟨hq, L, hfe, hL⟩ := hq1
  rw [State.frames_setTop' g hat.top] at hend
  obtain ⟨hW₂, e2, q2, q3, q4, q5, q6⟩ := id hfe
  have hW' : T.WarmedH s₂.vm := hW₂
  have e3 : s₂ = ({ (T.calling g mk a).setFrames s₂.frames with heap := s₂.heap, slotsUsed := s₂.slotsUsed } : State).setVm s₂.vm := by
    have h0 : s₂ = ({ s₂ with vm := (T.calling g mk a).vm } : State).setVm s₂.vm := rfl
    rw [e2] at h0
    exact h0
  obtain ⟨g₀, hg0⟩ := Option.isSome_iff_exists.mp hat.top
  obtain ⟨r, hr⟩ := State.topJava?_eq_some.mp hg0
  generalize hTe : (({ T with heap := s₂.heap, slotsUsed := s₂.slotsUsed } : State).setVm s₂.vm) = T'
  have hr' : T'.frames = .java g₀ :: r := by rw [← hTe]; exact hr
  have hsame : T.sameButNew ({ T with heap := s₂.heap, slotsUsed := s₂.slotsUsed } : State) L k n := by
    refine ⟨?_, q2, q3, q4, q5, q6⟩
    obtain ⟨t, ht, -⟩ := State.frames_cons hr
    show ({ T with heap := s₂.heap, slotsUsed := s₂.slotsUsed } : State) = { T.setFrames T.frames with heap := s₂.heap, slotsUsed := s₂.slotsUsed }
    rw [State.setFrames_self ht]
  have X' : Stand p l e R s m args below meth c T' (locs ++ L) (cells + k) (slots + n) := by
    rw [← hTe]
    subst hg
    exact ⟨X.admits, X.cas, X.clock, X.frames, X.room, X.hears, X.method, X.code, (X.here.setHeapUsed s₂.heap s₂.slotsUsed).setVm hW'.alike, X.tail, State.WarmedH.trans X.warmed hW', X.limits, X.bytes, X.same.trans (hsame.setVm s.vm)⟩
  have e4 : s₂ = T'.setFrames s₂.frames := by
    refine e3.trans ?_
    rw [State.calling_eq hat.top, State.setFrames_setFrames, ← hTe]
    rfl
  refine ⟨o, s₂, T', L, X', hL, by rw [← hTe]; rfl, by rw [← hTe]; rfl, hq, ?_⟩
  cases o with
  | returned v =>
    obtain ⟨c₂, i₂, len₂, hc₂, hd₂, hf₂⟩ := hend
    have hcc : c₂ = c := by
      have h1 : s₂.code? g.method = T.code? g.method := by
        rw [State.code?_eq, State.code?_eq, hW'.alike.method?]
      exact Option.some.inj (hc₂.symm.trans (h1.trans hat.code))
    subst hcc
    have hlen : len₂ = len := by rw [hdg] at hd₂; cases hd₂; rfl
    subst hlen
    have hs₂ : s₂ = T'.setTop { g with pc := g.pc + len₂, stack := v.toList ++ g.stack } := by
      refine e4.trans ?_
      rw [hf₂, State.setTop_of_frames _ hr', hr]
      rfl
    show Steps p.tables e below _ (T'.setTop _)
    rw [← hs₂]
    exact hsteps
  | threw x =>
    have hf₂ : s₂.frames = .throwing x :: .java g :: T.frames.tail := hend
    have hs₂ : s₂ = (T'.setTop g).pushFrame (.throwing x) := by
      refine e4.trans ?_
      rw [hf₂, State.pushFrame, State.frames_setTop _ hr', State.setTop_of_frames _ hr', State.setFrames_setFrames, hr]
      rfl
    show Steps p.tables e below _ ((T'.setTop g).pushFrame _)
    rw [← hs₂]
    exact hsteps
/-- the three invocations up to the callee's entry -/
def z_Go (p : Program) (l : Launch) (e : Env) (R : Room) (s : State) (m : MethodId) (args : Array Value) (below : List Frame) (meth : Method) (c : Code) (H : Heap) (locs : List Loc) (cells slots : Nat) (y : MethodName) (g : JFrame) (rest : List Value) (a : Array Value) : Prop :=
  ∀ T : State, T.heap = H → Stand p l e R s m args below meth c T locs cells slots → ∃ (mk : MethodId) (vm₁ : Vm), s.methodNamed? y = some mk ∧ Stand p l e R s m args below meth c (T.setVm vm₁) locs cells slots ∧
    ∀ tg, Steps p.tables e below (doInvoke e ((T.setVm vm₁).setTop { g with stack := rest }) [] mk a).1 tg → Steps p.tables e below (T.setTop g) tg
/-- what the callee's words must say -/
def z_Sig (s : State) (y : MethodName) : Prop := ∃ (mk : MethodId) (methM : Method), s.methodNamed? y = some mk ∧ s.vm.method? mk = some methM ∧ parseMethodDescriptor y.desc = some methM.sig
theorem z_goV (hexec : p.tables.exec = Jvm.exec) {own C : String} {index : Nat} {y : MethodName} (hown : s.vm.findClass own = some m.cls) (hlink : (Cond.methodLink own index y).before args s = true) (hinst : (Cond.instanceMethod y).before args s = true) (hsel : (Cond.selects C y y).before args s = true) (hsig : z_Sig s y) (hy : y.cls ≠ "java/lang/invoke/MethodHandle" ∧ y.cls ≠ "java/lang/invoke/VarHandle")
    {b : Addr} {cellB : Cell} (hcell : H[b]? = some cellB) (hobj : cellB.vm.isStatics = false) (hcls : s.vm.findClass C = some cellB.cls) {g : JFrame} (hg : g.method = m) {argsL rest : List Value} (hlen : ∀ sig, parseMethodDescriptor y.desc = some sig → argsL.length = sig.parameters.length) (hstack : g.stack = argsL.reverse ++ .ref b :: rest) (hdg : decode c.code g.pc = .ok (.invokevirtual index, 3)) :
    z_Go p l e R s m args below meth c H locs cells slots y g rest (Value.ref b :: argsL).toArray := by
  intro T hT X
  obtain ⟨mk, methM, hnamed, hmethM, hstM, habM⟩ := Cond.instanceMethod_spec hinst
  obtain ⟨mk', methM', hnamed', hmethM', hsigM⟩ := hsig
  cases hnamed.symm.trans hnamed'
  cases hmethM.symm.trans hmethM'
  obtain ⟨c2, r2, m2, q1, q2, q3, q4, kP, hkP, hkPi⟩ := Cond.selects_spec hsel
  cases hcls.symm.trans q1
  cases (State.methodFound?_of_named hnamed hy).symm.trans q2
  cases hnamed.symm.trans q3
  have hselP : selectMethod e.platform s.vm cellB.cls mk = .method mk := by rw [Launch.admits_selectMethod X.admits]; exact q4
  obtain ⟨vm₁, X₁, hstep₁⟩ := X.invokevirtual hexec hown hlink hnamed hmethM hstM hkP hkPi hy (a := b) (cell := cellB) (by rw [hT]; exact hcell)
    (fun z h => by rw [h] at hobj; cases hobj) hselP hmethM habM hkP hkPi (g := g) hg (argsL := argsL) (rest := rest) (hlen _ hsigM) hstack hdg
  exact ⟨mk, vm₁, hnamed, X₁, fun tg h => hstep₁ _ fun acts => by rw [doInvoke_state]; exact h⟩
theorem z_goS (hexec : p.tables.exec = Jvm.exec) {own : String} {index : Nat} {y : MethodName} (hown : s.vm.findClass own = some m.cls) (hlink : (Cond.methodLink own index y).before args s = true) (hstat : (Cond.static y).before args s = true) (hinit : (Cond.initialized y.cls).before args s = true) (hsig : z_Sig s y) (hy : y.cls ≠ "java/lang/invoke/MethodHandle" ∧ y.cls ≠ "java/lang/invoke/VarHandle")
    {g : JFrame} (hg : g.method = m) {argsL rest : List Value} (hlen : ∀ sig, parseMethodDescriptor y.desc = some sig → argsL.length = sig.parameters.length) (hstack : g.stack = argsL.reverse ++ rest) (hdg : decode c.code g.pc = .ok (.invokestatic index, 3)) :
    z_Go p l e R s m args below meth c H locs cells slots y g rest argsL.toArray := by
  intro T hT X
  obtain ⟨mk, methM, hnamed, hmethM, hsigM⟩ := hsig
  have hstatic : methM.isStatic = true := Cond.static_spec hnamed hmethM hstat
  obtain ⟨kP, hkP, -⟩ := className_of_methodNamed hnamed
  have hinitP : kP.init = .initialized := Cond.initialized_spec (findClass_of_methodNamed hnamed) hkP hinit
  obtain ⟨vm₁, X₁, hstep₁⟩ := X.invokestatic hexec hown hlink hnamed hmethM hstatic hkP hinitP hy (g := g) hg (argsL := argsL) (rest := rest) (hlen _ hsigM) hstack hdg
  exact ⟨mk, vm₁, hnamed, X₁, fun tg h => hstep₁ _ fun acts => by rw [doInvoke_state]; exact h⟩
theorem z_goI (hexec : p.tables.exec = Jvm.exec) {own : String} {index : Nat} {y : MethodName} {bytes : ByteArray} {maxL : Nat} (hown : s.vm.findClass own = some m.cls) (hy1 : y.name = "<init>") (hlink : (Cond.methodLink own index y).before args s = true) (hinst : (Cond.instanceMethod y).before args s = true) (hcode : (Cond.code y bytes maxL none).before args s = true) (hy : y.cls ≠ "java/lang/invoke/MethodHandle" ∧ y.cls ≠ "java/lang/invoke/VarHandle")
    {b : Addr} {g : JFrame} (hg : g.method = m) {argsL rest : List Value} (hlen : ∀ sig, parseMethodDescriptor y.desc = some sig → argsL.length = sig.parameters.length) (hstack : g.stack = argsL.reverse ++ .ref b :: rest) (hdg : decode c.code g.pc = .ok (.invokespecial index, 3)) :
    z_Go p l e R s m args below meth c H locs cells slots y g rest (Value.ref b :: argsL).toArray := by
  intro T hT X
  subst hg
  have hpl : e.platform.magicAccessors = ({} : Platform).magicAccessors := by rw [X.admits.platform]
  obtain ⟨mk, methM, cM, kP, vm₁, hnamed, hmethM, hcodeM, -, hlocalsM, -, hkP, -, hW₁, hstep₁⟩ := Steps.initColdArgs (e := e) X.here hexec X.warmed hpl hown hy1 hy hlink hinst hcode (f := g) rfl hlen hstack hdg
  exact ⟨mk, vm₁, hnamed, X.noted hW₁, fun tg h => hstep₁ _ fun acts => by rw [doInvoke_state]; exact h⟩
/-- A CALL: the callee has returned, or thrown -/
theorem z_call {y : MethodName} {ws : List Cond} {rm : Room} {Pc : Array Value → State → Prop} {Qc : Array Value → State → Outcome → State → Prop} {k n : Nat} {free : Addr → Prop} {pc : Nat} {ls : Array Slot} {st0 rest : List Value} {a : Array Value}
    (hgo : z_Go p l e R s m args below meth c H locs cells slots y (F0 m pc ls st0) rest a) (hM : z_Met l y ws rm Pc Qc k n free) (hbl : FrameBlind Pc) {cc : ByteArray} {maxL : Nat} {ret : Option FieldType} {hh : List (Nat × Nat × Nat × Nat)} (hw : z_cw y cc maxL ret hh ∈ ws)
    (hfr : rm.frames + 1 ≤ R.frames) (hlo : 8 + (maxL + 11) + rm.locals ≤ R.locals) (hce : cells + rm.cells ≤ R.cells) (hsl : slots + rm.slots ≤ R.slots) (hls : ls.size = c.maxLocals) {ig : Instr} (hdg : decode c.code pc = .ok (ig, 3)) (hW : (rest.map fun v => v.category).sum ≤ 8)
    (hws : ∀ w ∈ ws, ∀ (a' : Array Value) (U : State), s.WarmedH U.vm → w.before a' U = true) (hini : ∀ (a' : Array Value) (U : State), s.WarmedH U.vm → (Cond.initialized y.cls).before a' U = true) (hPc : ∀ U : State, U.heap = H → s.WarmedH U.vm → Pc a U)
    (kk : ∀ (o : Outcome) (st t T' : State) (L : List Loc), st.heap = H → T'.heap = t.heap → T'.vm = t.vm → s.vm.Alike t.vm → Qc a st o t → (∀ q ∈ L, free q.base) → Stand p l e R s m args below meth c T' (locs ++ L) (cells + k) (slots + n) → ∃ t2, (∀ u, z_Aft e p below u T' (F0 m pc ls rest) 3 o → Steps p.tables e below u t2) ∧ Q t2) :
    W p l e R s m args below meth c H locs cells slots Q (F0 m pc ls st0) := by
  intro T hT X
  obtain ⟨mk, vm₁, hn, X₁, st⟩ := hgo T hT X
  have hn₁ : (T.setVm vm₁).methodNamed? y = some mk := X₁.named hn
  obtain ⟨mk', methY, cY, hn', h1, h2, -, h4, -⟩ := z_cw_spec (hws _ hw a (T.setVm vm₁) X₁.warmed)
  cases hn₁.symm.trans hn'
  obtain ⟨o, t, T', L, X', hL, e1, e2, hq, haft⟩ := z_callee X₁ hM hbl hfr hlo hce hsl (g := F0 m pc ls rest) rfl hls hdg (by show 2 * 0 + (rest.map fun v => v.category).sum ≤ 8; omega) hn₁ h1 h2 h4 (a := a) (fun w h => hws w h _ _ X₁.warmed) (hini _ _ X₁.warmed) (hPc _ hT X₁.warmed)
  obtain ⟨t2, k1, k2⟩ := kk o _ t T' L (show ((T.setVm vm₁).calling _ _ _).heap = H from hT) e1 e2 (by rw [← e2]; exact X'.warmed.alike) hq hL X'
  exact ⟨t2, st t2 (k1 _ haft), k2⟩
end ZCALL
end
section
/-! A method that throws, and one that catches. -/
section ZTHR
variable {p : Program} {l : Launch} {e : Env} {R : Room} {s : State} {m : MethodId} {args : Array Value} {below : List Frame} {meth : Method} {c : Code} {T : State} {H : Heap} {locs : List Loc} {cells slots : Nat} {Q : State → Prop}
/-- out of the method -/
theorem z_leave (X : Stand p l e R s m args below meth c T locs cells slots) (hlocks : meth.locks = false) {x : Nat} {pc : Nat} {ls : Array Slot} {st : List Value} (hout : ∀ q ∈ c.exceptionTable.toList, covers q pc = false) {Qc : Array Value → State → Outcome → State → Prop} {free : Addr → Prop}
    (hq : ∀ t : State, t.heap = T.heap → s.WarmedH t.vm → Qc args s (.threw x) t) (hf : ∀ q ∈ locs, free q.base) : ∃ t2, Steps p.tables e below ((T.setTop (F0 m pc ls st)).pushFrame (.throwing x)) t2 ∧ z_MQ below Qc args s cells slots free t2 := by
  obtain ⟨h1, h2, h3, h4, h5⟩ := X.leaveThrown x (g := F0 m pc ls st) rfl rfl rfl hout hlocks
  exact ⟨_, h1, .threw x, h2, h3, hq _ rfl h4, locs, ⟨h4, h5⟩, hf⟩
/-- the search comes to a row whose class has its entry open or filled -/
theorem z_find {Qh : Handler → Pre} {E : CtlPost} {d : Bool} {acts : List Action} {u : State} {f : JFrame} {a : Addr} {x : ExceptionTableEntry} {cT : ClassId} {cell : Cell} (hx : covers x f.pc = true) (h0 : x.catchType ≠ 0) (hl : u.vm.ClassLinks e.platform f.method.cls x.catchType cT) (hcell : u.heap[a]? = some cell) (hobj : ∀ k, cell.vm ≠ .statics k)
    (hk : ∃ k, u.vm.classes[cell.cls]? = some k) (hc : ∃ k, u.vm.classes[cT]? = some k) (b : Bool) (hfit : u.vm.assignable cell.cls cT = b) (t : List ExceptionTableEntry) :
    wp (findHandler.go f a (x :: t)) Qh E e d acts u ↔ if b = true then Qh (.found x.handlerPc) d acts (u.setVm (u.vm.noted f.method.cls x.catchType (.cls cT))) else wp (findHandler.go f a t) Qh E e d acts (u.setVm (u.vm.noted f.method.cls x.catchType (.cls cT))) := by
  obtain ⟨ha, ht⟩ := (resolveClass_links e.toSetting hl).op (op := VmOp.resolveClass f.method.cls x.catchType) rfl
  have hal : u.vm.Alike (u.vm.noted f.method.cls x.catchType (.cls cT)) := (Vm.Alike.refl u.vm).noted _ _ _
  obtain ⟨k1, hk1⟩ := hk
  obtain ⟨k2, hk2⟩ := hc
  obtain ⟨k3, hk3, -⟩ := hal.2.2 _ _ hk1
  obtain ⟨k4, hk4, -⟩ := hal.2.2 _ _ hk2
  have hf2 : (u.vm.noted f.method.cls x.catchType (.cls cT)).assignable cell.cls cT = b := by rw [hal.assignable]; exact hfit
  simp only [covers] at hx
  cases b <;> simp [findHandler.go, hx, h0, ha, ht, hcell, hobj, hk3, hk4, hf2, VmOp.dirties, VmOp.acts]
/-- into a handler of the method's own: the rows ahead of it don't hold the pc -/
theorem z_caught (X : Stand p l e R s m args below meth c T locs cells slots) {x : Nat} {pc : Nat} {ls : Array Slot} {st : List Value} {own name : String} (hown : s.vm.findClass own = some m.cls) {pre rest : List ExceptionTableEntry} {q : ExceptionTableEntry} (hsplit : c.exceptionTable.toList = pre ++ q :: rest) (hskip : ∀ y ∈ pre, covers y pc = false) (hx : covers q pc = true) (h0 : q.catchType ≠ 0)
    (hlink : (Cond.classLink own q.catchType name).before args s = true) {cT : ClassId} {cell : Cell} (hcT : s.vm.findClass name = some cT) (hcell : T.heap[x]? = some cell) (hobj : cell.vm.isStatics = false) (hfit : s.vm.assignable cell.cls cT = true) :
    ∃ vm', Stand p l e R s m args below meth c (T.setVm vm') locs cells slots ∧ ∀ tg, Steps p.tables e below ((T.setVm vm').setTop (F0 m q.handlerPc ls [.ref x])) tg → Steps p.tables e below ((T.setTop (F0 m pc ls st)).pushFrame (.throwing x)) tg := by
  have hpl : e.platform.magicAccessors = ({} : Platform).magicAccessors := by rw [X.admits.platform]
  obtain ⟨c', hc', hcl⟩ := Cond.classLink_spec hown hlink e.platform hpl
  cases hcT.symm.trans hc'
  obtain ⟨dk, _, _, kt, hd, _, _, _, _, hkt, _, hopen⟩ := id hcl.here
  have hW' : s.WarmedH (T.vm.noted m.cls q.catchType (.cls cT)) := X.warmed.noted hd hopen (State.rightAt_cls hcl)
  have hal := X.warmed.alike
  obtain ⟨kt', hkt', -⟩ := hal.2.2 _ _ hkt
  have hfit' : T.vm.assignable cell.cls cT = true := by rw [hal.assignable]; exact hfit
  refine ⟨_, X.noted hW', fun tg hrest => ?_⟩
  obtain ⟨hgo, hw⟩ := At.throwing (g := F0 m pc ls st) X.here x
  refine Steps.head hgo hw ?_
  generalize hu : (T.setTop (F0 m pc ls st)).pushFrame (.throwing x) = u at *
  have huv : u.vm = T.vm := by rw [← hu]; exact Stand.throwing_vm T _ x
  have huh : u.heap = T.heap := by rw [← hu]; exact Stand.throwing_heap T _ x
  have hfind : ∀ (Qh : Handler → Pre) (E : CtlPost) (d : Bool) (acts : List Action), wp (findHandler (F0 m pc ls st) x) Qh E e d acts u ↔ Qh (.found q.handlerPc) d acts (u.setVm (T.vm.noted m.cls q.catchType (.cls cT))) := by
    intro Qh E d acts
    rw [W.findHandler_eq (meth := meth) (code := c) (by rw [huv]; exact X.method') X.code, hsplit]
    clear hsplit
    induction pre with
    | nil =>
      rw [List.nil_append, z_find (e := e) (u := u) (f := F0 m pc ls st) hx h0 (by rw [huv]; exact X.warmed.classLinks hcl) (by rw [huh]; exact hcell) (VmData.ne_statics_of hobj) (by rw [huv]; exact Vm.classAt_of_assignable hfit' ⟨kt', hkt'⟩) (by rw [huv]; exact ⟨kt', hkt'⟩) true (by rw [huv]; exact hfit') rest, if_pos rfl, huv]
    | cons y ys ih =>
      rw [List.cons_append, W.findHandler_go_skip (hskip y List.mem_cons_self)]
      exact ih (fun z hz => hskip z (List.mem_cons_of_mem _ hz))
  have hstep : (stepThrowing e u x (.java (F0 m pc ls st) :: below)).1 = (u.setVm (T.vm.noted m.cls q.catchType (.cls cT))).setFrames (.java (F0 m q.handlerPc ls [.ref x]) :: below) := by
    simp only [stepThrowing, searchFrame, vmDo]
    generalize hr : Sem.go _ e false [] u = res
    obtain ⟨as, rfl, -⟩ := Sem.eq_ok_of hr (a := Handler.found q.handlerPc) (s' := u.setVm (T.vm.noted m.cls q.catchType (.cls cT))) (acts' := []) (by simp [hfind _ _ _ _])
    rfl
  have hfrs : u.frames = .throwing x :: .java (F0 m pc ls st) :: below := by
    rw [← hu, frames_entered X.here.top, X.tail]
  obtain ⟨g₀, hfr⟩ := X.frames_eq
  rw [stepThread_throwing hfrs, hstep, ← hu]
  have hfr' : (T.setVm (T.vm.noted m.cls q.catchType (.cls cT))).frames = .java g₀ :: below := hfr
  rw [State.setTop_of_frames _ hfr'] at hrest
  have e1 : (((T.setTop (F0 m pc ls st)).pushFrame (.throwing x)).setVm (T.vm.noted m.cls q.catchType (.cls cT))).setFrames (.java (F0 m q.handlerPc ls [.ref x]) :: below) = (T.setVm (T.vm.noted m.cls q.catchType (.cls cT))).setFrames (.java (F0 m q.handlerPc ls [.ref x]) :: below) := by
    have e2 : ((T.setTop (F0 m pc ls st)).pushFrame (.throwing x)).setVm (T.vm.noted m.cls q.catchType (.cls cT)) = (T.setVm (T.vm.noted m.cls q.catchType (.cls cT))).setFrames (.throwing x :: .java (F0 m pc ls st) :: below) := by
      rw [State.pushFrame, State.frames_setTop _ hfr, State.setTop_of_frames _ hfr, State.setFrames_setFrames]
      rfl
    rw [e2, State.setFrames_setFrames]
  rw [e1]
  exact hrest
end ZTHR
end
section
/-! A walk begun anew where the machine stands: all that was made so far counts as old. -/
section ZREB
variable {p : Program} {l : Launch} {e : Env} {R : Room} {s : State} {m : MethodId} {args : Array Value} {below : List Frame} {meth : Method} {c : Code} {T : State} {locs : List Loc} {cells slots : Nat}
theorem z_rebase (X : Stand p l e R s m args below meth c T locs cells slots) (hc : cells ≤ R.cells) (hs : slots ≤ R.slots) : Stand p l e { R with cells := R.cells - cells, slots := R.slots - slots } (T.setFrames (.invoking m args :: below)) m args below meth c T [] 0 0 := by
  obtain ⟨g₀, hfr⟩ := X.frames_eq
  have hcur : T.cur < T.threads.size := State.cur_lt_of_frames hfr
  have hf : (T.setFrames (.invoking m args :: below)).frames = .invoking m args :: below := State.frames_setFrames _ hcur
  have hm : (T.setFrames (.invoking m args :: below)).vm.method? m = some meth := X.method'
  have hloc : (T.setFrames (.invoking m args :: below)).localsInUse = s.localsInUse := by
    rw [State.localsInUse_invoking hf hm X.code, State.localsInUse_invoking X.frames X.method X.code]
  have hlim : e.platform.stackLimits (T.setFrames (.invoking m args :: below)).me = e.platform.stackLimits s.me := by rw [State.stackLimits_setFrames, X.limits]
  have hby : (T.setFrames (.invoking m args :: below)).me.stackBytes = s.me.stackBytes := by rw [State.stackBytes_setFrames, X.bytes]
  have h1 := X.heapSize
  have h2 := X.used
  have hsize : (T.setFrames (.invoking m args :: below)).heap.size = T.heap.size := rfl
  have hus : (T.setFrames (.invoking m args :: below)).slotsUsed = T.slotsUsed := rfl
  refine ⟨X.admits, X.cas, X.clock, hf, ?_, ?_, hm, X.code, X.here, X.tail, State.WarmedH.refl (T.setFrames (.invoking m args :: below)), by rw [State.stackLimits_setFrames], by rw [State.stackBytes_setFrames], ?_⟩
  · have hr := X.room
    have hbk : (T.setFrames (.invoking m args :: below)).slotsTrue = true := X.book
    simp only [State.hasRoom, Bool.and_eq_true, decide_eq_true_eq] at hr ⊢
    obtain ⟨⟨⟨⟨r1, r2, r3, r4, r5, r6⟩, r7⟩, r8⟩, -⟩ := hr
    rw [X.frames] at r2 r3
    rw [hf, hloc, hlim, hby, hsize, hus]
    exact ⟨⟨⟨⟨r1, r2, r3, r4, r5, r6⟩, by omega⟩, by omega⟩, hbk⟩
  · have hh := X.hears
    rcases below with _ | ⟨y, r⟩
    · simp only [State.hears] at hh ⊢
      rw [X.method] at hh
      rw [hm]
      exact hh
    · cases y
      case java g =>
        simp only [State.hears] at hh ⊢
        rw [State.code?_eq] at hh ⊢
        rw [show (T.setFrames (.invoking m args :: .java g :: r)).vm.method? g.method = s.vm.method? g.method from X.warmed.alike.method? g.method]
        exact hh
      case native g => rfl
      case proc g => rfl
      all_goals
        simp only [State.hears] at hh ⊢
        rw [X.method] at hh
        rw [hm]
        exact hh
  · obtain ⟨t, ht, -⟩ := State.frames_cons hfr
    obtain ⟨t2, ht2, -⟩ := State.frames_cons hf
    have h3 := (State.sameButNew.refl (T.setFrames (.invoking m args :: below)) ht2).setFrames T.frames (State.cur_lt_of_frames hf)
    have h4 : (T.setFrames (.invoking m args :: below)).setFrames T.frames = T := by rw [State.setFrames_setFrames, State.setFrames_self ht]
    rw [h4] at h3
    exact h3
end ZREB
end
section
/-! One instruction of the plain machine, and that the machine follows it. -/
/-- what a frozen int array holds -/
def z_ialF (K : Nat) (fi : Nat → Option (Nat × (Nat → Int32))) (len pc : Nat) (lv : List (Nat × Value)) (st : List Value) (S : z_S) : Option z_U := match st with
  | .int i :: .ref a :: r => match fi a with
    | some q => if len = 1 ∧ a < K ∧ z_in i q.1 = true then some (pc + 1, lv, .int (q.2 i.toNatClampNeg) :: r, S) else none
    | none => none
  | _ => none
def z_alnF (K : Nat) (fi : Nat → Option (Nat × (Nat → Int32))) (len pc : Nat) (lv : List (Nat × Value)) (st : List Value) (S : z_S) : Option z_U := match st with
  | .ref a :: r => match fi a with
    | some q => if len = 1 ∧ a < K then some (pc + 1, lv, .int (Int32.ofNat q.1) :: r, S) else none
    | none => none
  | _ => none
def z_aas (K nW : Nat) (tyl : List FieldType) (tW : Nat) (len pc : Nat) (lv : List (Nat × Value)) (st : List Value) (S : z_S) : Option z_U := match st with
  | .ref v :: .int i :: .ref a :: r => match z_ar K S a with
    | some (t, n, .inr (.inr f)) => if (len = 1 ∧ t = tW ∧ v < nW) ∧ z_in i n = true then some (pc + 1, lv, r, (S.1.set (a - K) (.inl (t, n, .inr (.inr ((i.toNatClampNeg, some v) :: f)))), S.2)) else none
    | _ => none
  | _ => none
def z_or {α : Type} (a b : Option α) : Option α := match a with
  | some x => some x
  | none => b
theorem z_or_i {α : Type} {a b : Option α} {x : α} (h : z_or a b = some x) : a = some x ∨ b = some x := by
  cases a with
  | none => exact Or.inr h
  | some y => exact Or.inl h
/-- the numbers of a program: K places below are frozen, of them the first nW constants; at most cm cells of sm slots; the types of arrays; the classes' sizes and field types; the frozen int arrays; the statics; the type of the constants' arrays -/
abbrev z_G : Type := (Nat × Nat × Nat × Nat) × (List FieldType × Nat) × ((Nat → Nat) × (Nat → Nat → FieldType)) × (Nat → Option (Nat × (Nat → Int32))) × (Nat → Option Value)
def z_step (G : z_G) (nL : Nat) (i : Instr) (len : Nat) (aux : List Nat) (pc : Nat) (lv : List (Nat × Value)) (st : List Value) (S : z_S) : Option z_U := match i with
  | .getfield _ => match aux with
    | [ci, k, _] => z_gf G.1.1 ci k len pc lv st S
    | _ => none
  | .putfield _ => match aux with
    | [ci, k, _] => z_pf G.1.1 ci k (G.2.2.1.2 ci k) len pc lv st S
    | _ => none
  | .new _ => match aux with
    | [ci, _] => z_nw G.1.1 G.1.2.2.1 G.1.2.2.2 ci (G.2.2.1.1 ci) (G.2.2.1.2 ci) len pc lv st S
    | _ => none
  | .newarray _ => match aux with
    | [t] => match G.2.1.1[t]? with
      | some ty => z_na G.1.1 G.1.2.2.1 G.1.2.2.2 t ty len pc lv st S
      | none => none
    | _ => none
  | .anewarray _ => match aux with
    | [t, _] => z_nq G.1.1 G.1.2.2.1 G.1.2.2.2 t len pc lv st S
    | _ => none
  | .iaload => z_or (z_ial G.1.1 G.2.1.1 .int len pc lv st S) (z_ialF G.1.1 G.2.2.2.1 len pc lv st S)
  | .baload => z_or (z_ial G.1.1 G.2.1.1 .byte len pc lv st S) (z_ial G.1.1 G.2.1.1 .boolean len pc lv st S)
  | .laload => z_lal G.1.1 G.2.1.1 len pc lv st S
  | .aaload => z_aal G.1.1 G.2.1.1 len pc lv st S
  | .iastore => z_ias G.1.1 G.2.1.1 .int len pc lv st S
  | .bastore => z_or (z_ias G.1.1 G.2.1.1 .byte len pc lv st S) (z_ias G.1.1 G.2.1.1 .boolean len pc lv st S)
  | .lastore => z_las G.1.1 G.2.1.1 len pc lv st S
  | .aastore => z_aas G.1.1 G.1.2.1 G.2.1.1 G.2.1.2 len pc lv st S
  | .arraylength => z_or (z_aln G.1.1 G.2.1.1 len pc lv st S) (z_alnF G.1.1 G.2.2.2.1 len pc lv st S)
  | .getstatic _ => match aux with
    | [j, _] => match G.2.2.2.2 j with
      | some v => (z_p0 3 len pc lv st v).map (fun q => (q.1, q.2.1, q.2.2, S))
      | none => none
    | _ => none
  | .ldc _ => match aux with
    | [n, _] => (z_p0 2 len pc lv st (.int (Int32.ofNat n))).map (fun q => (q.1, q.2.1, q.2.2, S))
    | _ => none
  | .ldc_w _ => match aux with
    | [n, _] => (z_p0 3 len pc lv st (.int (Int32.ofNat n))).map (fun q => (q.1, q.2.1, q.2.2, S))
    | _ => none
  | .ldc2_w _ => match aux with
    | [n, _] => (z_p0 3 len pc lv st (.long (Int64.ofNat n))).map (fun q => (q.1, q.2.1, q.2.2, S))
    | _ => none
  | i => (z_fr G.1.1 G.1.2.1 nL i len aux pc lv st).map (fun q => (q.1, q.2.1, q.2.2, S))
theorem z_map_i {o : Option z_T} {S S' : z_S} {pc' : Nat} {lv' : List (Nat × Value)} {st' : List Value} (h : o.map (fun q => (q.1, q.2.1, q.2.2, S)) = some (pc', lv', st', S')) : o = some (pc', lv', st') ∧ S' = S := by
  cases o with
  | none => cases h
  | some q =>
    obtain ⟨a, b, c⟩ := q
    cases h
    exact ⟨rfl, rfl⟩
/-- what the program's text must say of links -/
def z_okH (own : String) (ini : Bool) (cl : List vw_C) (tyl : List FieldType) (stl : List (String × String × String × Value)) (Ts : List Cond) (i : Instr) (aux : List Nat) : Prop := match i, aux with
  | .getfield idx, [ci, k, _] => ∃ (C : String) (T : u_T) (N : Nat), cl[ci]? = some (C, T, N) ∧ k < N ∧ Cond.fieldLink own idx (T k).1 (T k).2.1 (T k).2.2.1 ∈ Ts
  | .putfield idx, [ci, k, _] => ∃ (C : String) (T : u_T) (N : Nat), cl[ci]? = some (C, T, N) ∧ k < N ∧ Cond.fieldLink own idx (T k).1 (T k).2.1 (T k).2.2.1 ∈ Ts ∧ ((T k).2.2.2 = true → ini = true ∧ (T k).1 = own)
  | .new idx, [ci, _] => ∃ (C : String) (T : u_T) (N : Nat), cl[ci]? = some (C, T, N) ∧ Cond.classLink own idx C ∈ Ts ∧ Cond.instantiable C N ∈ Ts ∧ Cond.initialized C ∈ Ts
  | .newarray at_, [t] => tyl[t]? = some (newarray.typeOf at_) ∧ Cond.arrayClass (newarray.typeOf at_) ∈ Ts
  | .anewarray idx, [t, _] => ∃ C : String, tyl[t]? = some (.object C) ∧ Cond.classLink own idx C ∈ Ts
  | .getstatic idx, [j, _] => ∃ (C n d : String) (v : Value), stl[j]? = some (C, n, d, v) ∧ Cond.fieldLink own idx C n d ∈ Ts
  | .ldc idx, [n, _] => Jvm.Cond.constant own idx (Int32.ofNat n) ∈ Ts
  | .ldc_w idx, [n, _] => Jvm.Cond.constant own idx (Int32.ofNat n) ∈ Ts
  | .ldc2_w idx, [n, _] => Jvm.Cond.constantLong own idx (Int64.ofNat n) ∈ Ts
  | _, _ => True
/-- the world of a program at a state: classes and arrays as the tables have them; the statics that are read; the frozen arrays; the constants -/
def z_Wd (G : z_G) (sz : Nat) (D : va_G) (cl : List vw_C) (dA : Nat → ClassId) (ad : Nat → Nat) (stl : List (String × String × String × Value)) (cW : String) (s : State) : Prop :=
  va_K D cl (z_tys dA G.2.1.1) s ∧ (∀ (j : Nat) (C n d : String) (v : Value), stl[j]? = some (C, n, d, v) → va_Z C n d (z_tr ad v) (z_A sz) s s.heap) ∧ (∀ (t : Nat) (C : String), G.2.1.1[t]? = some (.object C) → va_AO C s) ∧ sz ≤ s.heap.size ∧
  (∀ (a : Nat) (q : Nat × (Nat → Int32)), G.2.2.2.1 a = some q → va_T .int (ad a) q.1 (fun j => .int (q.2 j)) (z_A sz) s s.heap) ∧ (∀ v, v < G.1.2.1 → va_O cW (ad v) (z_A sz) s s.heap) ∧ ∃ (cC : ClassId) (kC : Class), s.vm.findClass cW = some cC ∧ s.vm.classes[cC]? = some kC
section ZST
variable {p : Program} {l : Launch} {e : Env} {R : Room} {s : State} {m : MethodId} {args : Array Value} {below : List Frame} {meth : Method} {c : Code} {H : Heap} {locs : List Loc} {cells slots : Nat} {Q : State → Prop}
variable {cc : ByteArray} {ls : Array Slot} {ad : Nat → Nat} {dA : Nat → ClassId} {D : va_G} {cl : List vw_C} {Ts : List Cond} {sz : Nat} {stl : List (String × String × String × Value)} {cW : String}
set_option maxHeartbeats 4000000 in
set_option maxRecDepth 20000 in
theorem z_step_ok {G : z_G} {nL : Nat} {own : String} (had : ∀ i, ad (G.1.1 + i) = sz + i) (hlo : ∀ i, i < G.1.2.1 → ad i < sz) (hinj : ∀ i j, i < G.1.2.1 → j < G.1.2.1 → ad i = ad j → i = j)
    (hcl : z_Cl cl G.2.2.1.2 Ts) (hcN : ∀ ci C T N, cl[ci]? = some (C, T, N) → G.2.2.1.1 ci = N) (hst : ∀ j v, G.2.2.2.2 j = some v → ∃ C n d, stl[j]? = some (C, n, d, v)) (htW : G.2.1.1[G.2.1.2]? = some (.object cW))
    (hx : p.tables.exec = Jvm.exec) (hb : c.code = cc) (hts : ∀ w ∈ Ts, w.before args s = true) (hown : s.vm.findClass own = some m.cls) {ini : Bool} (hini : ini = true → meth.name = "<init>") (hwd : z_Wd G sz D cl dA ad stl cW s)
    {i : Instr} {len : Nat} {aux : List Nat} {pc pc' : Nat} {lv lv' : List (Nat × Value)} {st st' : List Value} {S S' : z_S} (hdg : decode cc pc = .ok (i, len)) (hokF : z_okF i aux pc = true) (hokH : z_okH own ini cl G.2.1.1 stl Ts i aux)
    (hl : lv_has ls nL (z_trL ad lv)) (hP : va_P D cl (z_W ad dA G.1.1 S.1) H) (hS : va_S (z_A sz) s.heap H locs) {n0 s0 : Nat} (hn0 : s.heap.size = sz + n0) (hce : cells + n0 = S.1.length) (hsl : slots + s0 = S.2) (hRc : G.1.2.2.1 ≤ R.cells + n0) (hRs : G.1.2.2.2 ≤ R.slots + s0)
    (h : z_step G nL i len aux pc lv st S = some (pc', lv', st', S'))
    (kk : ∀ (ls' : Array Slot) (H' : Heap) (locs' : List Loc) (cells' slots' : Nat), lv_has ls' nL (z_trL ad lv') → va_P D cl (z_W ad dA G.1.1 S'.1) H' → va_S (z_A sz) s.heap H' locs' → cells' + n0 = S'.1.length → slots' + s0 = S'.2 → W p l e R s m args below meth c H' locs' cells' slots' Q (F0 m pc' ls' (st'.map (z_tr ad)))) : W p l e R s m args below meth c H locs cells slots Q (F0 m pc ls (st.map (z_tr ad))) := by
  obtain ⟨hK, hZ, hAO, hA, hX, hO, hat⟩ := id hwd
  have fr : ∀ {o : Option z_T}, o = z_fr G.1.1 G.1.2.1 nL i len aux pc lv st → o.map (fun q => (q.1, q.2.1, q.2.2, S)) = some (pc', lv', st', S') → W p l e R s m args below meth c H locs cells slots Q (F0 m pc ls (st.map (z_tr ad))) := by
    intro o ho h2
    obtain ⟨h3, rfl⟩ := z_map_i h2
    rw [ho] at h3
    exact z_fr_ok had hlo hinj hx hb hdg hokF hl h3 (fun ls' hl' => kk ls' H locs cells slots hl' hP hS hce hsl)
  cases i with
  | getfield idx =>
    simp only [z_step] at h
    split at h
    · rename_i ci k pl
      obtain ⟨a, r, fs, v, rfl, h1, h2, rfl, h4, rfl, rfl, rfl, rfl⟩ := z_gf_i h
      obtain ⟨C, T, N, g1, g2, g3⟩ := hokH
      exact z_getf hx hb hts hown hcl hK hP g1 g2 g3 h4 h1 h2 hdg (kk ls H locs cells slots hl hP hS hce hsl)
    · cases h
  | putfield idx =>
    simp only [z_step] at h
    split at h
    · rename_i ci k pl
      obtain ⟨v, a, r, fs, rfl, h1, h2, h3, rfl, h4, rfl, rfl, rfl, rfl⟩ := z_pf_i h
      obtain ⟨C, T, N, g1, g2, g3, g4⟩ := hokH
      exact z_putf had hx hb hts hown hcl hK hP hS g1 g2 g3 (fun q => ⟨hini (g4 q).1, (g4 q).2⟩) h4 h1 h2 h3 hdg (fun H1 locs1 hp hs => kk ls H1 locs1 cells slots hl hp hs (by rw [List.length_set]; exact hce) hsl)
    · cases h
  | new idx =>
    simp only [z_step] at h
    split at h
    · rename_i ci pl
      obtain ⟨⟨rfl, h2, h3⟩, rfl, rfl, rfl, rfl⟩ := z_nw_i h
      obtain ⟨C, T, N, g1, g2, g3, g4⟩ := hokH
      have hN := hcN ci C T N g1
      rw [hN] at h3 kk
      exact z_new had hx hb hts hown hcl hK hP hS hA g1 g2 g3 g4 (by omega) (by omega) (by omega) hdg (fun H1 hp hs => kk ls H1 locs (cells + 1) (slots + N) hl hp hs (by simp; omega) (by simp; omega))
    · cases h
  | newarray at_ =>
    simp only [z_step] at h
    split at h
    · rename_i t
      split at h
      · rename_i ty hty
        obtain ⟨n, r, a, rfl, h1, ⟨⟨rfl, h2, h3⟩, h4, h5⟩, rfl, rfl, rfl, rfl⟩ := z_na_i h
        obtain ⟨g1, g2⟩ := hokH
        have e1 : newarray.typeOf at_ = ty := Option.some.inj (g1.symm.trans hty)
        rw [e1] at g2
        exact z_newa had hx hb hts hK hP hS hA e1 hty g2 h1 h2 h3 (by omega) (by omega) (by omega) hdg (fun H1 hp hs => kk ls H1 locs (cells + 1) (slots + n.toNatClampNeg) hl hp hs (by simp; omega) (by simp; omega))
      · cases h
    · cases h
  | anewarray idx =>
    simp only [z_step] at h
    split at h
    · rename_i t pl
      obtain ⟨n, r, rfl, ⟨⟨rfl, h2, h3⟩, h4, h5⟩, rfl, rfl, rfl, rfl⟩ := z_nq_i h
      obtain ⟨C, g1, g2⟩ := hokH
      exact z_newq had hx hb hts hown g2 (hAO _ _ g1) hK hP hS hA g1 h2 h3 (by omega) (by omega) (by omega) hdg (fun H1 hp hs => kk ls H1 locs (cells + 1) (slots + n.toNatClampNeg) hl hp hs (by simp; omega) (by simp; omega))
    · cases h
  | iaload =>
    simp only [z_step] at h
    rcases z_or_i h with h | h
    · obtain ⟨i, a, r, t, n, f, rfl, ⟨h1, h2⟩, ⟨rfl, h3, h4⟩, rfl, rfl, rfl, rfl⟩ := z_ial_i h
      exact z_iald hx hb hK hP h1 h2 h3 h4 hdg (kk ls H locs cells slots hl hP hS hce hsl)
    · unfold z_ialF at h
      split at h
      · split at h
        · split at h
          · rename_i i a r x q hq hc
            obtain ⟨rfl, hc2, hc3⟩ := hc
            cases h
            exact va_ti hx hb (hX _ _ hq) hS (z_in_i hc3) rfl hdg (kk ls H locs cells slots hl hP hS hce hsl)
          · cases h
        · cases h
      · cases h
  | baload =>
    simp only [z_step] at h
    rcases z_or_i h with h | h
    · obtain ⟨i, a, r, t, n, f, rfl, ⟨h1, h2⟩, ⟨rfl, h3, h4⟩, rfl, rfl, rfl, rfl⟩ := z_ial_i h
      exact z_bald hx hb hK hP h1 h2 h3 h4 hdg (kk ls H locs cells slots hl hP hS hce hsl)
    · obtain ⟨i, a, r, t, n, f, rfl, ⟨h1, h2⟩, ⟨rfl, h3, h4⟩, rfl, rfl, rfl, rfl⟩ := z_ial_i h
      exact z_zald hx hb hK hP h1 h2 h3 h4 hdg (kk ls H locs cells slots hl hP hS hce hsl)
  | laload =>
    simp only [z_step] at h
    obtain ⟨i, a, r, t, n, f, rfl, ⟨h1, h2⟩, ⟨rfl, h3, h4⟩, rfl, rfl, rfl, rfl⟩ := z_lal_i h
    exact z_lald hx hb hK hP h1 h2 h3 h4 hdg (kk ls H locs cells slots hl hP hS hce hsl)
  | aaload =>
    simp only [z_step] at h
    obtain ⟨i, a, r, t, n, f, C, rfl, ⟨h1, h2⟩, h3, ⟨rfl, h4⟩, rfl, rfl, rfl, rfl⟩ := z_aal_i h
    exact z_aald hx hb hK hP h1 h2 h3 h4 hdg (kk ls H locs cells slots hl hP hS hce hsl)
  | iastore =>
    simp only [z_step] at h
    obtain ⟨x, i, a, r, t, n, f, rfl, ⟨h1, h2⟩, ⟨rfl, h3, h4⟩, rfl, rfl, rfl, rfl⟩ := z_ias_i h
    exact z_iast had hx hb hK hP hS h1 h2 h3 h4 hdg (fun H1 locs1 hp hs => kk ls H1 locs1 cells slots hl hp hs (by rw [List.length_set]; exact hce) hsl)
  | bastore =>
    simp only [z_step] at h
    rcases z_or_i h with h | h
    · obtain ⟨x, i, a, r, t, n, f, rfl, ⟨h1, h2⟩, ⟨rfl, h3, h4⟩, rfl, rfl, rfl, rfl⟩ := z_ias_i h
      exact z_bast had hx hb hK hP hS h1 h2 h3 h4 hdg (fun H1 locs1 hp hs => kk ls H1 locs1 cells slots hl hp hs (by rw [List.length_set]; exact hce) hsl)
    · obtain ⟨x, i, a, r, t, n, f, rfl, ⟨h1, h2⟩, ⟨rfl, h3, h4⟩, rfl, rfl, rfl, rfl⟩ := z_ias_i h
      exact z_zast had hx hb hK hP hS h1 h2 h3 h4 hdg (fun H1 locs1 hp hs => kk ls H1 locs1 cells slots hl hp hs (by rw [List.length_set]; exact hce) hsl)
  | lastore =>
    simp only [z_step] at h
    obtain ⟨x, i, a, r, t, n, f, rfl, ⟨h1, h2⟩, ⟨rfl, h3, h4⟩, rfl, rfl, rfl, rfl⟩ := z_las_i h
    exact z_last had hx hb hK hP hS h1 h2 h3 h4 hdg (fun H1 locs1 hp hs => kk ls H1 locs1 cells slots hl hp hs (by rw [List.length_set]; exact hce) hsl)
  | aastore =>
    simp only [z_step] at h
    unfold z_aas at h
    split at h
    · split at h
      · split at h
        · rename_i v i a r x t n f hq hc
          obtain ⟨⟨rfl, rfl, hc2⟩, hc3⟩ := hc
          cases h
          obtain ⟨h1, h2⟩ := z_ar_i hq
          exact z_aastF had hx hb hK hP hS h1 h2 htW (hO v hc2) hat hc3 hdg (fun H1 locs1 hp hs => kk ls H1 locs1 cells slots hl hp hs (by rw [List.length_set]; exact hce) hsl)
        · cases h
      · cases h
    · cases h
  | arraylength =>
    simp only [z_step] at h
    rcases z_or_i h with h | h
    · obtain ⟨a, r, x, rfl, ⟨h1, h2⟩, ⟨rfl, h3⟩, rfl, rfl, rfl, rfl⟩ := z_aln_i h
      exact z_alen hx hb hK hP h1 h2 h3 hdg (kk ls H locs cells slots hl hP hS hce hsl)
    · unfold z_alnF at h
      split at h
      · split at h
        · split at h
          · rename_i a r x q hq hc
            obtain ⟨rfl, hc2⟩ := hc
            cases h
            exact va_tlen hx hb (hX _ _ hq) hS rfl hdg (kk ls H locs cells slots hl hP hS hce hsl)
          · cases h
        · cases h
      · cases h
  | getstatic idx =>
    simp only [z_step] at h
    split at h
    · rename_i j pl
      split at h
      · rename_i v hv
        obtain ⟨h3, rfl⟩ := z_map_i h
        obtain ⟨rfl, rfl, rfl, rfl⟩ := z_p0_i h3
        obtain ⟨C, n, d, v', g1, g2⟩ := hokH
        obtain ⟨C2, n2, d2, g3⟩ := hst j v hv
        cases g1.symm.trans g3
        exact va_gets hx hb (hZ j C n d v g1) hS hown (hts _ g2) (fun x q => q) hdg (kk ls H locs cells slots hl hP hS hce hsl)
      · cases h
    · cases h
  | ldc idx =>
    simp only [z_step] at h
    split at h
    · rename_i n pl
      obtain ⟨h3, rfl⟩ := z_map_i h
      obtain ⟨rfl, rfl, rfl, rfl⟩ := z_p0_i h3
      exact lv_ldc hx hb hown (hts _ hokH) hdg (kk ls H locs cells slots hl hP hS hce hsl)
    · cases h
  | ldc_w idx =>
    simp only [z_step] at h
    split at h
    · rename_i n pl
      obtain ⟨h3, rfl⟩ := z_map_i h
      obtain ⟨rfl, rfl, rfl, rfl⟩ := z_p0_i h3
      exact lv_ldcw hx hb hown (hts _ hokH) hdg (kk ls H locs cells slots hl hP hS hce hsl)
    · cases h
  | ldc2_w idx =>
    simp only [z_step] at h
    split at h
    · rename_i n pl
      obtain ⟨h3, rfl⟩ := z_map_i h
      obtain ⟨rfl, rfl, rfl, rfl⟩ := z_p0_i h3
      exact lv_ldc2 hx hb hown (hts _ hokH) hdg (kk ls H locs cells slots hl hP hS hce hsl)
    · cases h
  | _ => exact fr rfl h
end ZST
end
section
/-! Whole methods of the plain machine: it runs, calls, returns, throws; and that the machine follows it. -/
/-- how a method ends: with an answer, or with the place of what it threw -/
abbrev z_O : Type := Option Value ⊕ Nat
def z_oc (ad : Nat → Nat) (o : z_O) : Outcome := match o with
  | .inl v => .returned (v.map (z_tr ad))
  | .inr a => .threw (ad a)
def z_tk (n : Nat) (st : List Value) : Option (List Value × List Value) := if n ≤ st.length then some ((st.take n).reverse, st.drop n) else none
theorem z_tk_i {n : Nat} {st as r : List Value} (h : z_tk n st = some (as, r)) : st = as.reverse ++ r ∧ as.length = n := by
  unfold z_tk at h
  split at h
  · cases h
    refine ⟨by rw [List.reverse_reverse, List.take_append_drop], ?_⟩
    rw [List.length_reverse, List.length_take]
    omega
  · cases h
/-- which handler takes an exception of class ci at pc: none that can be told, none, or one -/
def z_fh (pc ci : Nat) (hs : List (Nat × Nat × Nat × Nat)) (xs : List Nat) : Option (Option Nat) := match hs, xs with
  | [], _ => some none
  | q :: r, x :: ys => if q.1 ≤ pc ∧ pc < q.2.1 then (if x = ci then some (some q.2.2.1) else none) else z_fh pc ci r ys
  | _ :: _, [] => none
/-- a program: its instructions; of each method the locals, the answer's type, the handlers, the classes that they take, the receiver's class -/
abbrev z_Q : Type := (Nat → Nat → Option (Instr × Nat × List Nat)) × (Nat → Nat) × (Nat → Option FieldType) × (Nat → List (Nat × Nat × Nat × Nat)) × (Nat → List Nat) × (Nat → Nat)
def z_cls (K : Nat) (S : z_S) (a : Nat) : Option Nat := if K ≤ a then (match S.1[a - K]? with
  | some (.inr o) => some o.1
  | _ => none) else none
def z_wt (st : List Value) : Nat := (st.map fun v => v.category).sum
def z_ret (rt : Option FieldType) (i : Instr) (len : Nat) (st : List Value) : Option (Option Value) := match i with
  | .return_ => match rt, st with
    | none, [] => if len = 1 then some none else none
    | _, _ => none
  | .ireturn => match rt, st with
    | some ty, [.int v] => if len = 1 ∧ narrow ty (.int v) = .int v then some (some (.int v)) else none
    | _, _ => none
  | .areturn => match rt, st with
    | some (.object _), [.ref a] => if len = 1 then some (some (.ref a)) else none
    | some (.array _), [.ref a] => if len = 1 then some (some (.ref a)) else none
    | some (.object _), [.null] => if len = 1 then some (some .null) else none
    | some (.array _), [.null] => if len = 1 then some (some .null) else none
    | _, _ => none
  | _ => none
/-- where an invocation goes: the method, its arguments with the receiver, what stays on the stack -/
def z_inv (G : z_G) (P : z_Q) (i : Instr) (aux : List Nat) (st : List Value) (S : z_S) : Option (Nat × List Value × List Value) := match i, aux with
  | .invokestatic _, [0, mj, na, _] => match z_tk na st with
    | some (as, r) => some (mj, as, r)
    | none => none
  | .invokespecial _, [0, mj, na, _] => match z_tk na st with
    | some (as, .ref b :: r) => some (mj, .ref b :: as, r)
    | _ => none
  | .invokevirtual _, [0, mj, na, _] => match z_tk na st with
    | some (as, .ref b :: r) => if z_cls G.1.1 S b = some (P.2.2.2.2.2 mj) then some (mj, .ref b :: as, r) else none
    | _ => none
  | _, _ => none
/-- what has no code of its own here -/
abbrev z_B : Type := Instr → Nat → List Nat → List (Nat × Value) → List Value → z_S → Option (List Value × z_S)
def z_ev (G : z_G) (P : z_Q) (B : z_B) (n : Nat) (f w mi pc : Nat) (lv : List (Nat × Value)) (st : List Value) (S : z_S) : Option (z_O × z_S) := match n with
  | 0 => none
  | n + 1 => match P.1 mi pc with
    | none => none
    | some (i, len, aux) => match z_ret (P.2.2.1 mi) i len st with
      | some v => some (.inl v, S)
      | none => match z_inv G P i aux st S with
        | some (mj, as, r) =>
          if (len = 3 ∧ 1 ≤ f ∧ 19 + P.2.1 mj ≤ w) ∧ (z_wt r ≤ 8 ∧ z_wt as ≤ P.2.1 mj) ∧ S.1.length ≤ G.1.2.2.1 ∧ S.2 ≤ G.1.2.2.2 then
            match z_ev G P B n (f - 1) (w - (19 + P.2.1 mj)) mj 0 (lv_args 0 as) [] S with
            | some (.inl v, S') => if S.1.length ≤ S'.1.length ∧ S.2 ≤ S'.2 then z_ev G P B n f w mi (pc + 3) lv (v.toList ++ r) S' else none
            | some (.inr a, S') => if S.1.length ≤ S'.1.length ∧ S.2 ≤ S'.2 then (match z_cls G.1.1 S' a with
              | some ci => match z_fh pc ci (P.2.2.2.1 mi) (P.2.2.2.2.1 mi) with
                | some none => some (.inr a, S')
                | some (some hp) => z_ev G P B n f w mi hp lv [.ref a] S'
                | none => none
              | none => none) else none
            | none => none
          else none
        | none => match i, aux with
          | .invokespecial _, [1, _] => match st with
            | .ref _ :: r => if len = 3 ∧ 1 ≤ f ∧ 20 ≤ w ∧ z_wt r ≤ 8 then z_ev G P B n f w mi (pc + 3) lv r S else none
            | _ => none
          | .new _, [9, ci, q] => if len = 3 ∧ 6 ≤ f ∧ 150 ≤ w ∧ z_wt st ≤ 8 ∧ S.1.length + 1 ≤ G.1.2.2.1 ∧ S.2 + 6 ≤ G.1.2.2.2 ∧ z_fh pc ci (P.2.2.2.1 mi) (P.2.2.2.2.1 mi) = some none then some (.inr (G.1.1 + S.1.length), (S.1 ++ [.inr (ci, [])], S.2 + 6)) else none
          | _, _ => match B i len aux lv st S with
            | some (st', S') => if len = 3 ∧ S'.1.length = S.1.length ∧ S'.2 = S.2 ∧ 1 ≤ f ∧ 60 ≤ w then z_ev G P B n f w mi (pc + 3) lv st' S' else none
            | none => match z_step G (P.2.1 mi) i len aux pc lv st S with
              | some (pc', lv', st', S') => z_ev G P B n f w mi pc' lv' st' S'
              | none => none
theorem z_args_tr (ad : Nat → Nat) : ∀ (vs : List Value) (k : Nat), lv_args k (vs.map (z_tr ad)) = z_trL ad (lv_args k vs) := by
  intro vs
  induction vs with
  | nil => intro k; rfl
  | cons v r ih =>
    intro k
    simp only [List.map_cons, lv_args, z_trL, z_tr_cat, List.map_cons]
    rw [ih]
    rfl
theorem z_sl_len (ad : Nat → Nat) (vs : List Value) : (lg_sl (vs.map (z_tr ad))).length = z_wt vs := by
  induction vs with
  | nil => rfl
  | cons v r ih =>
    have h1 : lg_sl ((v :: r).map (z_tr ad)) = (if (z_tr ad v).category = 2 then [Slot.val (z_tr ad v), .second] else [Slot.val (z_tr ad v)]) ++ lg_sl (r.map (z_tr ad)) := rfl
    have h2 : z_wt (v :: r) = v.category + z_wt r := rfl
    rw [h1, h2, List.length_append, ih, z_tr_cat]
    rcases lv_cat v with h | h <;> simp [h]
theorem z_wt_tr (ad : Nat → Nat) (vs : List Value) : ((vs.map (z_tr ad)).map fun v => v.category).sum = z_wt vs := by
  unfold z_wt
  rw [List.map_map]
  congr 1
  apply List.map_congr_left
  intro v _
  exact z_tr_cat ad v
end
section
/-! THE PLAIN MACHINE IS SOUND: what it computes, the machine does. -/
def z_Qc (sz : Nat) (D : va_G) (cl : List vw_C) (ad : Nat → Nat) (dA : Nat → ClassId) (K : Nat) (o : z_O) (h : List z_E) : Array Value → State → Outcome → State → Prop := fun _ st oc t => oc = z_oc ad o ∧ va_P D cl (z_W ad dA K h) t.heap ∧ va_F (z_A sz) st t
def z_Pc (sz : Nat) (D : va_G) (cl : List vw_C) (ad : Nat → Nat) (dA : Nat → ClassId) (K : Nat) (Wd : State → Prop) (as : List Value) (h : List z_E) : Array Value → State → Prop := fun a U => a = (as.map (z_tr ad)).toArray ∧ Wd U ∧ va_P D cl (z_W ad dA K h) U.heap ∧ U.heap.size = sz + h.length
/-- a method's own facts where it runs -/
def z_Cx (my : Nat → MethodName) (mb : Nat → ByteArray) (P : z_Q) (Ts : List Cond) (mi : Nat) (p : Program) (e : Env) (s : State) (m : MethodId) (args : Array Value) (meth : Method) (c : Code) : Prop :=
  p.tables.exec = Jvm.exec ∧ c.code = mb mi ∧ c.maxLocals = P.2.1 mi ∧ s.vm.findClass (my mi).cls = some m.cls ∧ (∀ w ∈ Ts, w.before args s = true) ∧ meth.sig.returnType = P.2.2.1 mi ∧ meth.locks = false ∧ meth.name = (my mi).name ∧ c.exceptionTable.toList = tableOf (P.2.2.2.1 mi) ∧ e.platform.stackTraces = false
/-- how a walk stands -/
def z_At (G : z_G) (P : z_Q) (sz : Nat) (D : va_G) (cl : List vw_C) (ad : Nat → Nat) (dA : Nat → ClassId) (R : Room) (s : State) (H : Heap) (locs : List Loc) (cells slots n0 s0 f w mi : Nat) (ls : Array Slot) (lv : List (Nat × Value)) (S : z_S) : Prop :=
  lv_has ls (P.2.1 mi) (z_trL ad lv) ∧ va_P D cl (z_W ad dA G.1.1 S.1) H ∧ va_S (z_A sz) s.heap H locs ∧ s.heap.size = sz + n0 ∧ cells + n0 = S.1.length ∧ slots + s0 = S.2 ∧ G.1.2.2.1 ≤ R.cells + n0 ∧ G.1.2.2.2 ≤ R.slots + s0 ∧ f ≤ R.frames ∧ w ≤ R.locals
theorem W.monoQ {p : Program} {l : Launch} {e : Env} {R : Room} {s : State} {m : MethodId} {args : Array Value} {below : List Frame} {meth : Method} {c : Code} {H : Heap} {locs : List Loc} {cells slots : Nat} {Q Q' : State → Prop} {g : JFrame} (h : ∀ t, Q t → Q' t) (k : W p l e R s m args below meth c H locs cells slots Q g) : W p l e R s m args below meth c H locs cells slots Q' g := by
  intro T hT X
  obtain ⟨t, a, b⟩ := k T hT X
  exact ⟨t, a, h t b⟩
theorem z_MQ.ofMQ {below : List Frame} {Qc : Array Value → State → Outcome → State → Prop} {a : Array Value} {s : State} {k n : Nat} {free : Addr → Prop} (t : State) (h : MQ below Qc a s k n free t) : z_MQ below Qc a s k n free t := by
  obtain ⟨o, h1, h2, h3, L, ⟨-, h4, h5⟩, h6⟩ := h
  exact ⟨o, h1, h2, h3, L, ⟨h4, h5⟩, h6⟩
section ZSO
variable {p : Program} {l : Launch} {e : Env} {R : Room} {s : State} {m : MethodId} {args : Array Value} {below : List Frame} {meth : Method} {c : Code} {H : Heap} {locs : List Loc} {cells slots : Nat}
variable {ad : Nat → Nat} {dA : Nat → ClassId} {D : va_G} {cl : List vw_C} {Ts : List Cond} {sz : Nat}
theorem z_size {K : Nat} (had : ∀ i, ad (K + i) = sz + i) {h : List z_E} (hP : va_P D cl (z_W ad dA K h) H) (hS : va_S (z_A sz) s.heap H locs) {n0 : Nat} (hn0 : s.heap.size = sz + n0) (hle : n0 ≤ h.length) : sz + h.length ≤ H.size := by
  rcases Nat.lt_or_ge n0 h.length with h1 | h1
  · have hl : h.length - 1 < h.length := by omega
    have h2 := z_W_get (ad := ad) (dA := dA) (K := K) (List.getElem?_eq_getElem hl)
    have h3 := (hP _ _ h2).lt
    simp only [had] at h3
    omega
  · have := hS.1
    omega
/-- a method returns -/
theorem z_ret_ok {G : z_G} {P : z_Q} {my : Nat → MethodName} {mb : Nat → ByteArray} {f w mi pc : Nat} {lv : List (Nat × Value)} {st : List Value} {S : z_S} {n0 s0 : Nat} {ls : Array Slot} {i : Instr} {len : Nat} {v : Option Value}
    (hcx : z_Cx my mb P Ts mi p e s m args meth c) (hat : z_At G P sz D cl ad dA R s H locs cells slots n0 s0 f w mi ls lv S) (hdg : decode (mb mi) pc = .ok (i, len)) (h : z_ret (P.2.2.1 mi) i len st = some v) :
    W p l e R s m args below meth c H locs cells slots (z_MQ below (z_Qc sz D cl ad dA G.1.1 (.inl v) S.1) args s (S.1.length - n0) (S.2 - s0) (z_A sz)) (F0 m pc ls (st.map (z_tr ad))) := by
  obtain ⟨hx, hb, hml, hown, hts, hr, hlk, hnm, htb, htr⟩ := hcx
  obtain ⟨hl, hP, hS, hn0, hce, hsl, hRc, hRs, hf, hw⟩ := hat
  have e1 : S.1.length - n0 = cells := by omega
  have e2 : S.2 - s0 = slots := by omega
  rw [e1, e2]
  have hq : ∀ (o : Option Value), o = v.map (z_tr ad) → ∀ t : State, t.heap = H → s.WarmedH t.vm → z_Qc sz D cl ad dA G.1.1 (.inl v) S.1 args s (.returned o) t := by
    intro o ho t ht _
    refine ⟨by rw [ho]; rfl, by rw [ht]; exact hP, hS.F ht⟩
  have hfr : ∀ q ∈ locs, z_A sz q.base := hS.2.2
  unfold z_ret at h
  split at h
  · split at h
    · rename_i hrt
      split at h
      · rename_i hlen
        subst hlen
        cases h
        exact W.monoQ z_MQ.ofMQ (W.vret hx hb (by rw [hr]; exact hrt) (hq none rfl) hfr hdg hlk)
      · cases h
    · cases h
  · split at h
    · rename_i ty x hrt
      split at h
      · rename_i hc
        obtain ⟨rfl, hn⟩ := hc
        cases h
        exact W.monoQ z_MQ.ofMQ (W.zret hx hb (by rw [hr]; exact hrt) hn (hq (some (.int x)) rfl) hfr hdg hlk)
      · cases h
    · cases h
  · split at h
    · rename_i C a hrt
      split at h
      · rename_i hlen
        subst hlen
        cases h
        exact W.monoQ z_MQ.ofMQ (W.aret hx hb (by rw [hr]; exact hrt) (Or.inl ⟨C, rfl⟩) (Or.inr ⟨ad a, rfl⟩) (hq (some (.ref (ad a))) rfl) hfr hdg hlk)
      · cases h
    · rename_i C a hrt
      split at h
      · rename_i hlen
        subst hlen
        cases h
        exact W.monoQ z_MQ.ofMQ (W.aret hx hb (by rw [hr]; exact hrt) (Or.inr ⟨C, rfl⟩) (Or.inr ⟨ad a, rfl⟩) (hq (some (.ref (ad a))) rfl) hfr hdg hlk)
      · cases h
    · rename_i C hrt
      split at h
      · rename_i hlen
        subst hlen
        cases h
        exact W.monoQ z_MQ.ofMQ (W.aret hx hb (by rw [hr]; exact hrt) (Or.inl ⟨C, rfl⟩) (Or.inl rfl) (hq (some .null) rfl) hfr hdg hlk)
      · cases h
    · rename_i C hrt
      split at h
      · rename_i hlen
        subst hlen
        cases h
        exact W.monoQ z_MQ.ofMQ (W.aret hx hb (by rw [hr]; exact hrt) (Or.inr ⟨C, rfl⟩) (Or.inl rfl) (hq (some .null) rfl) hfr hdg hlk)
      · cases h
    · cases h
  · cases h
end ZSO
end
section
/-! The walk by the plain machine's own course. -/
/-- what the program's text must say of calls -/
def z_okC (my : Nat → MethodName) (P : z_Q) (cl : List vw_C) (Ts : List Cond) (own : String) (i : Instr) (aux : List Nat) : Prop := match i, aux with
  | .invokestatic idx, [0, mj, na, _] => Cond.methodLink own idx (my mj) ∈ Ts ∧ Cond.static (my mj) ∈ Ts ∧ (parseMethodDescriptor (my mj).desc).map (fun d => d.parameters.length) = some na
  | .invokespecial idx, [0, mj, na, _] => Cond.methodLink own idx (my mj) ∈ Ts ∧ Cond.instanceMethod (my mj) ∈ Ts ∧ (my mj).name = "<init>" ∧ P.2.2.2.1 mj = [] ∧ P.2.2.1 mj = none ∧ (parseMethodDescriptor (my mj).desc).map (fun d => d.parameters.length) = some na
  | .invokevirtual idx, [0, mj, na, _] => Cond.methodLink own idx (my mj) ∈ Ts ∧ Cond.instanceMethod (my mj) ∈ Ts ∧ (∃ (C : String) (T : u_T) (N : Nat), cl[P.2.2.2.2.2 mj]? = some (C, T, N) ∧ Cond.selects C (my mj) (my mj) ∈ Ts) ∧ (parseMethodDescriptor (my mj).desc).map (fun d => d.parameters.length) = some na
  | .invokespecial idx, [1, _] => Cond.methodLink own idx Lib.objectInit ∈ Ts ∧ Cond.instanceMethod Lib.objectInit ∈ Ts ∧ Cond.code Lib.objectInit ⟨#[0xb1]⟩ 1 none ∈ Ts
  | _, _ => True
/-- which methods an invocation names -/
def z_callee_of (i : Instr) (aux : List Nat) : Option Nat := match i, aux with
  | .invokestatic _, [0, mj, _, _] => some mj
  | .invokespecial _, [0, mj, _, _] => some mj
  | .invokevirtual _, [0, mj, _, _] => some mj
  | _, _ => none
/-- of a method: what its handlers take -/
def z_okX (my : Nat → MethodName) (P : z_Q) (cl : List vw_C) (Ts : List Cond) (mi : Nat) : Prop :=
  ∀ (k : Nat) (q : Nat × Nat × Nat × Nat) (x : Nat), (P.2.2.2.1 mi)[k]? = some q → (P.2.2.2.2.1 mi)[k]? = some x → q.2.2.2 ≠ 0 ∧ ∃ (C : String) (T : u_T) (N : Nat), cl[x]? = some (C, T, N) ∧ Cond.classLink (my mi).cls q.2.2.2 C ∈ Ts
/-- of a method: its code, its class, its handlers -/
def z_okM (my : Nat → MethodName) (mb : Nat → ByteArray) (P : z_Q) (cl : List vw_C) (Ts : List Cond) (mi : Nat) : Prop :=
  z_cw (my mi) (mb mi) (P.2.1 mi) (P.2.2.1 mi) (P.2.2.2.1 mi) ∈ Ts ∧ plainName (my mi).cls = true ∧ ((my mi).cls ≠ "java/lang/invoke/MethodHandle" ∧ (my mi).cls ≠ "java/lang/invoke/VarHandle") ∧ Cond.initialized (my mi).cls ∈ Ts ∧ z_okX my P cl Ts mi
/-- the program's text as a whole -/
def z_okP (my : Nat → MethodName) (mb : Nat → ByteArray) (P : z_Q) (cl : List vw_C) (tyl : List FieldType) (stl : List (String × String × String × Value)) (Ts : List Cond) : Prop :=
  ∀ (mi pc : Nat) (i : Instr) (len : Nat) (aux : List Nat), P.1 mi pc = some (i, len, aux) → decode (mb mi) pc = .ok (i, len) ∧ z_okF i aux pc = true ∧ z_okH (my mi).cls (decide ((my mi).name = "<init>")) cl tyl stl Ts i aux ∧ z_okC my P cl Ts (my mi).cls i aux ∧ ∀ mj, z_callee_of i aux = some mj → z_okM my mb P cl Ts mj
theorem z_ncov {q : ExceptionTableEntry} {pc : Nat} (h : ¬ (q.startPc ≤ pc ∧ pc < q.endPc)) : covers q pc = false := by
  cases hc : covers q pc with
  | false => rfl
  | true =>
    simp only [covers, Bool.and_eq_true, decide_eq_true_eq] at hc
    exact absurd hc h
theorem z_fh_none {pc ci : Nat} : ∀ {hs : List (Nat × Nat × Nat × Nat)} {xs : List Nat}, z_fh pc ci hs xs = some none → ∀ q ∈ tableOf hs, covers q pc = false := by
  intro hs
  induction hs with
  | nil => intro xs _ q hq; cases hq
  | cons a r ih =>
    intro xs h q hq
    cases xs with
    | nil => simp [z_fh] at h
    | cons x ys =>
      unfold z_fh at h
      split at h
      · split at h <;> cases h
      · rename_i hc
        rcases List.mem_cons.mp hq with rfl | hq
        · exact z_ncov hc
        · exact ih h q hq
theorem z_fh_some {pc ci hp : Nat} : ∀ {hs : List (Nat × Nat × Nat × Nat)} {xs : List Nat}, z_fh pc ci hs xs = some (some hp) → ∃ (k : Nat) (q : Nat × Nat × Nat × Nat), hs[k]? = some q ∧ xs[k]? = some ci ∧ q.2.2.1 = hp ∧ (q.1 ≤ pc ∧ pc < q.2.1) ∧ ∀ y ∈ tableOf (hs.take k), covers y pc = false := by
  intro hs
  induction hs with
  | nil => intro xs h; simp [z_fh] at h
  | cons a r ih =>
    intro xs h
    cases xs with
    | nil => simp [z_fh] at h
    | cons x ys =>
      unfold z_fh at h
      split at h
      · rename_i hc
        split at h
        · rename_i hx
          cases h
          exact ⟨0, a, rfl, by rw [← hx]; rfl, rfl, hc, fun y hy => by cases hy⟩
        · cases h
      · rename_i hc
        obtain ⟨k, q, h1, h2, h3, h4, h5⟩ := ih h
        refine ⟨k + 1, q, h1, h2, h3, h4, fun y hy => ?_⟩
        rcases List.mem_cons.mp hy with rfl | hy
        · exact z_ncov hc
        · exact h5 y hy
section ZMAIN
variable {l : Launch} {ad : Nat → Nat} {dA : Nat → ClassId} {D : va_G} {cl : List vw_C} {Ts : List Cond} {sz : Nat} {G : z_G} {P : z_Q} {B : z_B} {my : Nat → MethodName} {mb : Nat → ByteArray} {stl : List (String × String × String × Value)} {cW : String} {Wd : State → Prop}
variable {p : Program} {e : Env} {R : Room} {s : State} {m : MethodId} {args : Array Value} {below : List Frame} {meth : Method} {c : Code} {H : Heap} {locs : List Loc} {cells slots : Nat}
theorem z_inv_go (had : ∀ i, ad (G.1.1 + i) = sz + i) (hK : va_K D cl (z_tys dA G.2.1.1) s) {mi pc n0 s0 f w : Nat} {ls : Array Slot} {lv : List (Nat × Value)} {st : List Value} {S : z_S} {i : Instr} {aux : List Nat} {mj : Nat} {as r : List Value}
    (hcx : z_Cx my mb P Ts mi p e s m args meth c) (hat : z_At G P sz D cl ad dA R s H locs cells slots n0 s0 f w mi ls lv S) (hdg : decode (mb mi) pc = .ok (i, 3)) (hC : z_okC my P cl Ts (my mi).cls i aux) (hM : ∀ mj, z_callee_of i aux = some mj → z_okM my mb P cl Ts mj) (h : z_inv G P i aux st S = some (mj, as, r)) :
    z_okM my mb P cl Ts mj ∧ z_Go p l e R s m args below meth c H locs cells slots (my mj) (F0 m pc ls (st.map (z_tr ad))) (r.map (z_tr ad)) (as.map (z_tr ad)).toArray := by
  obtain ⟨hx, hb, hml, hown, hts, hr, hlk, hnm, htb, htr⟩ := hcx
  obtain ⟨hl, hP, hS, hn0, hce, hsl, hRc, hRs, hf, hw⟩ := hat
  have har : ∀ {y : MethodName} {na : Nat} {as : List Value}, (parseMethodDescriptor y.desc).map (fun d => d.parameters.length) = some na → as.length = na → ∀ sig, parseMethodDescriptor y.desc = some sig → (as.map (z_tr ad)).length = sig.parameters.length := by
    intro y na as h1 h2 sig h3
    rw [h3] at h1
    rw [List.length_map, h2]
    exact (Option.some.inj h1).symm
  have hsg : ∀ {mj : Nat}, z_okM my mb P cl Ts mj → z_Sig s (my mj) := by
    intro mj h1
    obtain ⟨a1, a2, a3, a4, a5, a6, a7, a8, a9, a10, a11, a12⟩ := z_cw_spec (hts _ h1.1)
    exact ⟨a1, a2, a4, a5, a12⟩
  unfold z_inv at h
  split at h
  · rename_i idx mj' na pl
    split at h
    · rename_i as' r' ht
      cases h
      obtain ⟨rfl, h2⟩ := z_tk_i ht
      have hm := hM mj rfl
      obtain ⟨c1, c2, c3⟩ := hC
      refine ⟨hm, ?_⟩
      have hb' : decode c.code pc = .ok (.invokestatic idx, 3) := by rw [hb]; exact hdg
      exact z_goS hx hown (hts _ c1) (hts _ c2) (hts _ hm.2.2.2.1) (hsg hm) hm.2.2.1 rfl (har c3 h2) (by show List.map _ _ = _; rw [List.map_append, List.map_reverse]) hb'
    · cases h
  · rename_i idx mj' na pl
    split at h
    · rename_i as' b r' ht
      cases h
      obtain ⟨rfl, h2⟩ := z_tk_i ht
      have hm := hM mj rfl
      obtain ⟨c1, c2, c3, c4, c5, c6⟩ := hC
      refine ⟨hm, ?_⟩
      have hcd := hts _ hm.1
      rw [c4, c5] at hcd
      have hb' : decode c.code pc = .ok (.invokespecial idx, 3) := by rw [hb]; exact hdg
      exact z_goI hx hown c3 (hts _ c1) (hts _ c2) hcd hm.2.2.1 (b := ad b) rfl (har c6 h2) (by show List.map _ _ = _; rw [List.map_append, List.map_reverse]; rfl) hb'
    · cases h
  · rename_i idx mj' na pl
    split at h
    · rename_i as' b r' ht
      split at h
      · rename_i hcl'
        cases h
        obtain ⟨rfl, h2⟩ := z_tk_i ht
        have hm := hM mj rfl
        obtain ⟨c1, c2, ⟨C, T, N, c3, c4⟩, c5⟩ := hC
        refine ⟨hm, ?_⟩
        unfold z_cls at hcl'
        split at hcl'
        · rename_i hKb
          split at hcl'
          · rename_i o ho
            have hoc : o.1 = P.2.2.2.2.2 mj := Option.some.inj hcl'
            have h3 := z_W_get (ad := ad) (dA := dA) (K := G.1.1) ho
            rw [z_bk hKb] at h3
            obtain ⟨cell, q1, q2, q3⟩ := va_recv (ci := P.2.2.2.2.2 mj) hK hP c3 (by rw [h3, ← hoc]; rfl)
            have hb' : decode c.code pc = .ok (.invokevirtual idx, 3) := by rw [hb]; exact hdg
            exact z_goV hx hown (hts _ c1) (hts _ c2) (hts _ c4) (hsg hm) hm.2.2.1 (b := ad b) q1 q2 q3 rfl (har c5 h2) (by show List.map _ _ = _; rw [List.map_append, List.map_reverse]; rfl) hb'
          · cases hcl'
        · cases hcl'
      · cases h
    · cases h
  · cases h
end ZMAIN
end
section
/-! The soundness of the plain machine, by induction on its fuel. -/
section ZWALK
variable {l : Launch} {ad : Nat → Nat} {dA : Nat → ClassId} {D : va_G} {cl : List vw_C} {Ts : List Cond} {sz : Nat} {G : z_G} {P : z_Q} {B : z_B} {my : Nat → MethodName} {mb : Nat → ByteArray} {stl : List (String × String × String × Value)} {cW : String} {Wd : State → Prop}
/-- all that is asked of the world and of the program -/
def z_Hyp (l : Launch) (ad : Nat → Nat) (dA : Nat → ClassId) (D : va_G) (cl : List vw_C) (Ts : List Cond) (sz : Nat) (G : z_G) (P : z_Q) (B : z_B) (my : Nat → MethodName) (mb : Nat → ByteArray) (stl : List (String × String × String × Value)) (cW : String) (Wd : State → Prop) : Prop :=
  (∀ i, ad (G.1.1 + i) = sz + i) ∧ (∀ i, i < G.1.2.1 → ad i < sz) ∧ (∀ i j, i < G.1.2.1 → j < G.1.2.1 → ad i = ad j → i = j) ∧
  z_Cl cl G.2.2.1.2 Ts ∧ (∀ ci C T N, cl[ci]? = some (C, T, N) → G.2.2.1.1 ci = N) ∧ (∀ j v, G.2.2.2.2 j = some v → ∃ C n d, stl[j]? = some (C, n, d, v)) ∧ G.2.1.1[G.2.1.2]? = some (.object cW) ∧
  (∀ w ∈ Ts, (w.onTables && w.keeps) = true ∨ ∃ ty, w = .arrayClass ty) ∧ z_okP my mb P cl G.2.1.1 stl Ts ∧ (∀ e, l.admits e → e.platform.stackTraces = false) ∧
  (∀ U, Wd U → z_Wd G sz D cl dA ad stl cW U) ∧ (∀ U V : State, Wd U → U.WarmedH V.vm → U.heap.size ≤ V.heap.size → (∀ q, q < U.heap.size → ¬ sz ≤ q → V.heap[q]? = U.heap[q]?) → Wd V) ∧
  (∀ {p : Program} {e : Env} {R : Room} {s : State} {m : MethodId} {args : Array Value} {below : List Frame} {meth : Method} {c : Code} {H : Heap} {locs : List Loc} {cells slots n0 s0 f w mi pc : Nat} {ls : Array Slot} {lv : List (Nat × Value)} {st : List Value} {S : z_S} {idx len ci q : Nat},
    z_Cx my mb P Ts mi p e s m args meth c → Wd s → z_At G P sz D cl ad dA R s H locs cells slots n0 s0 f w mi ls lv S → P.1 mi pc = some (.new idx, len, [9, ci, q]) → (len = 3 ∧ 6 ≤ f ∧ 150 ≤ w ∧ z_wt st ≤ 8 ∧ S.1.length + 1 ≤ G.1.2.2.1 ∧ S.2 + 6 ≤ G.1.2.2.2 ∧ z_fh pc ci (P.2.2.2.1 mi) (P.2.2.2.2.1 mi) = some none) →
    W p l e R s m args below meth c H locs cells slots (z_MQ below (z_Qc sz D cl ad dA G.1.1 (.inr (G.1.1 + S.1.length)) (S.1 ++ [.inr (ci, [])])) args s ((S.1 ++ [(.inr (ci, []) : z_E)]).length - n0) (S.2 + 6 - s0) (z_A sz)) (F0 m pc ls (st.map (z_tr ad)))) ∧
  (∀ {p : Program} {e : Env} {R : Room} {s : State} {m : MethodId} {args : Array Value} {below : List Frame} {meth : Method} {c : Code} {H : Heap} {locs : List Loc} {cells slots n0 s0 f w mi pc : Nat} {ls : Array Slot} {lv : List (Nat × Value)} {st st' : List Value} {S S' : z_S} {i : Instr} {len : Nat} {aux : List Nat} {Q : State → Prop},
    z_Cx my mb P Ts mi p e s m args meth c → Wd s → z_At G P sz D cl ad dA R s H locs cells slots n0 s0 f w mi ls lv S → P.1 mi pc = some (i, len, aux) → B i len aux lv st S = some (st', S') → (len = 3 ∧ S'.1.length = S.1.length ∧ S'.2 = S.2 ∧ 1 ≤ f ∧ 60 ≤ w) →
    (∀ (H' : Heap) (locs' : List Loc), va_P D cl (z_W ad dA G.1.1 S'.1) H' → va_S (z_A sz) s.heap H' locs' → W p l e R s m args below meth c H' locs' cells slots Q (F0 m (pc + 3) ls (st'.map (z_tr ad)))) →
    W p l e R s m args below meth c H locs cells slots Q (F0 m pc ls (st.map (z_tr ad))))
/-- the walk from anywhere -/
def z_Wk (l : Launch) (ad : Nat → Nat) (dA : Nat → ClassId) (D : va_G) (cl : List vw_C) (Ts : List Cond) (sz : Nat) (G : z_G) (P : z_Q) (B : z_B) (my : Nat → MethodName) (mb : Nat → ByteArray) (Wd : State → Prop) (n : Nat) : Prop :=
  ∀ {f w mi pc : Nat} {lv : List (Nat × Value)} {st : List Value} {S : z_S} {o : z_O} {S' : z_S}, z_ev G P B n f w mi pc lv st S = some (o, S') → z_okX my P cl Ts mi →
  ∀ {p : Program} {e : Env} {R : Room} {s : State} {m : MethodId} {args : Array Value} {below : List Frame} {meth : Method} {c : Code} {H : Heap} {locs : List Loc} {cells slots n0 s0 : Nat} {ls : Array Slot},
    z_Cx my mb P Ts mi p e s m args meth c → Wd s → z_At G P sz D cl ad dA R s H locs cells slots n0 s0 f w mi ls lv S →
    W p l e R s m args below meth c H locs cells slots (z_MQ below (z_Qc sz D cl ad dA G.1.1 o S'.1) args s (S'.1.length - n0) (S'.2 - s0) (z_A sz)) (F0 m pc ls (st.map (z_tr ad)))
theorem z_met_of (hy : z_Hyp l ad dA D cl Ts sz G P B my mb stl cW Wd) {n : Nat} (hk : z_Wk l ad dA D cl Ts sz G P B my mb Wd n) {f w mi : Nat} {as : List Value} {S : z_S} {o : z_O} {S' : z_S} (h : z_ev G P B n f w mi 0 (lv_args 0 as) [] S = some (o, S')) (hm : z_okM my mb P cl Ts mi) (has : z_wt as ≤ P.2.1 mi) :
    z_Met l (my mi) Ts { frames := f, cells := G.1.2.2.1 - S.1.length, slots := G.1.2.2.2 - S.2, locals := w } (z_Pc sz D cl ad dA G.1.1 Wd as S.1) (z_Qc sz D cl ad dA G.1.1 o S'.1) (S'.1.length - S.1.length) (S'.2 - S.2) (z_A sz) := by
  obtain ⟨had, hlo, hinj, hcl, hcN, hst, htW, hgd, hpg, htr, hwd, hmv, hth, hbi⟩ := hy
  refine z_ofW hm.2.1 hm.1 ?_
  intro p e s m args below meth c s₁ Bd hml htb hPc
  obtain ⟨rfl, hW, hP, hsz⟩ := hPc
  have hl := lv_entry (as.map (z_tr ad)) (n := P.2.1 mi) (by rw [z_sl_len]; exact has)
  rw [lg_entry_eq]
  generalize (lg_sl (as.map (z_tr ad)) ++ List.replicate (P.2.1 mi - (lg_sl (as.map (z_tr ad))).length) Slot.unset).toArray = ls at hl ⊢
  rw [z_args_tr] at hl
  exact hk h hm.2.2.2.2 ⟨Bd.exec, Bd.bytes, hml, findClass_of_methodNamed Bd.named, atoms_spec (ws := Ts) Bd.pre, Bd.returns, Bd.notSynchronized, (name_of_methodNamed Bd.named Bd.method).1, htb, htr e Bd.admits⟩ hW
    ⟨hl, hP, va_S.rf, hsz, by simp, by simp, by show _ ≤ (G.1.2.2.1 - S.1.length) + S.1.length; omega, by show _ ≤ (G.1.2.2.2 - S.2) + S.2; omega, Nat.le_refl _, Nat.le_refl _⟩
set_option maxHeartbeats 4000000 in
theorem z_walk (hy : z_Hyp l ad dA D cl Ts sz G P B my mb stl cW Wd) : ∀ n, z_Wk l ad dA D cl Ts sz G P B my mb Wd n := by
  intro n
  induction n with
  | zero =>
    intro f w mi pc lv st S o S' h
    simp [z_ev] at h
  | succ n ih =>
    intro f w mi pc lv st S o S' h hmi p e R s m args below meth c H locs cells slots n0 s0 ls hcx hWd hat
    obtain ⟨had, hlo, hinj, hcl, hcN, hst, htW, hgd, hpg, htr, hwd, hmv, hth, hbi⟩ := id hy
    obtain ⟨hx, hb, hml, hown, hts, hr, hlk, hnm, htb, htrc⟩ := id hcx
    obtain ⟨hl, hP, hS, hn0, hce, hsl, hRc, hRs, hf, hw⟩ := id hat
    unfold z_ev at h
    split at h
    · cases h
    · rename_i i len aux hcd
      obtain ⟨hdg, hoF, hoH, hoC, hoM⟩ := hpg mi pc i len aux hcd
      split at h
      · rename_i v hret
        cases h
        exact z_ret_ok hcx hat hdg hret
      · split at h
        · rename_i mj as r hinv
          split at h
          · rename_i hc
            obtain ⟨⟨rfl, hc1, hc2⟩, ⟨hc3, hc4⟩, hc5, hc6⟩ := hc
            obtain ⟨hmj, hgo⟩ := z_inv_go (l := l) (below := below) had (hwd s hWd).1 hcx hat hdg hoC hoM hinv
            have hws : ∀ w ∈ Ts, ∀ (a' : Array Value) (U : State), s.WarmedH U.vm → w.before a' U = true := fun w hw a' U hW => word_at hW (hgd w hw) (hts w hw)
            have hPcU : H.size ≤ sz + S.1.length → ∀ U : State, U.heap = H → s.WarmedH U.vm → z_Pc sz D cl ad dA G.1.1 Wd as S.1 (as.map (z_tr ad)).toArray U := by
              intro hle U hU hW
              have hge := z_size had hP hS hn0 (by omega)
              refine ⟨rfl, hmv s U hWd hW (by rw [hU]; exact hS.1) (fun q h1 h2 => by rw [hU]; exact hS.2.1 q h1 h2), by rw [hU]; exact hP, by rw [hU]; omega⟩
            have hbl : FrameBlind (z_Pc sz D cl ad dA G.1.1 Wd as S.1) := by
              intro a U g mk hq
              obtain ⟨q1, q2, q3, q4⟩ := hq
              exact ⟨q1, hmv U (U.calling g mk a) q2 (State.WarmedH.refl U) (Nat.le_refl _) (fun _ _ _ => rfl), q3, q4⟩
            have hdc : decode c.code pc = .ok (i, 3) := by rw [hb]; exact hdg
            refine z_pin (N := sz + S.1.length) (by omega) (fun hle => ?_)
            split at h
            · rename_i v S1 hev
              split at h
              · rename_i hg
                have hM := z_met_of hy ih hev hmj hc4
                refine z_call hgo hM hbl hmj.1 (by show f - 1 + 1 ≤ R.frames; omega) (by show 8 + (P.2.1 mj + 11) + (w - (19 + P.2.1 mj)) ≤ R.locals; omega) (by show cells + (G.1.2.2.1 - S.1.length) ≤ R.cells; omega) (by show slots + (G.1.2.2.2 - S.2) ≤ R.slots; omega) (hl.1.trans hml.symm) hdc (by rw [z_wt_tr]; exact hc3) hws (fun a' U hW => hws _ hmj.2.2.2.1 a' U hW) (hPcU hle) ?_
                intro o' st' t T' L hst' e1 e2 hal hq hL X'
                obtain ⟨rfl, q2, q3, q4⟩ := hq
                rw [hst'] at q3 q4
                have hS' : va_S (z_A sz) s.heap T'.heap (locs ++ L) := by
                  refine ⟨Nat.le_trans hS.1 (by rw [e1]; exact q3), fun q h1 h2 => ?_, fun q hq => ?_⟩
                  · rw [e1, q4 q (Nat.lt_of_lt_of_le h1 hS.1) h2]
                    exact hS.2.1 q h1 h2
                  · rcases List.mem_append.mp hq with h3 | h3
                    · exact hS.2.2 q h3
                    · exact hL q h3
                obtain ⟨t2, a1, b1⟩ := ih h hmi hcx hWd (ls := ls) (n0 := n0) (s0 := s0) (cells := cells + (S1.1.length - S.1.length)) (slots := slots + (S1.2 - S.2)) (H := T'.heap) (locs := locs ++ L) (below := below) ⟨hl, by rw [e1]; exact q2, hS', hn0, by omega, by omega, hRc, hRs, hf, hw⟩ T' rfl X'
                refine ⟨t2, fun u hu => ?_, b1⟩
                refine Steps.trans hu ?_
                have e3 : ({ F0 m pc ls (r.map (z_tr ad)) with pc := pc + 3, stack := (v.map (z_tr ad)).toList ++ r.map (z_tr ad) } : JFrame) = F0 m (pc + 3) ls ((v.toList ++ r).map (z_tr ad)) := by
                  cases v <;> rfl
                show Steps p.tables e below (T'.setTop { F0 m pc ls (r.map (z_tr ad)) with pc := pc + 3, stack := (v.map (z_tr ad)).toList ++ r.map (z_tr ad) }) t2
                rw [e3]
                exact a1
              · cases h
            · rename_i a S1 hev
              split at h
              · rename_i hg
                have hM := z_met_of hy ih hev hmj hc4
                refine z_call hgo hM hbl hmj.1 (by show f - 1 + 1 ≤ R.frames; omega) (by show 8 + (P.2.1 mj + 11) + (w - (19 + P.2.1 mj)) ≤ R.locals; omega) (by show cells + (G.1.2.2.1 - S.1.length) ≤ R.cells; omega) (by show slots + (G.1.2.2.2 - S.2) ≤ R.slots; omega) (hl.1.trans hml.symm) hdc (by rw [z_wt_tr]; exact hc3) hws (fun a' U hW => hws _ hmj.2.2.2.1 a' U hW) (hPcU hle) ?_
                intro o' st' t T' L hst' e1 e2 hal hq hL X'
                obtain ⟨rfl, q2, q3, q4⟩ := hq
                rw [hst'] at q3 q4
                have hS' : va_S (z_A sz) s.heap T'.heap (locs ++ L) := by
                  refine ⟨Nat.le_trans hS.1 (by rw [e1]; exact q3), fun q h1 h2 => ?_, fun q hq => ?_⟩
                  · rw [e1, q4 q (Nat.lt_of_lt_of_le h1 hS.1) h2]
                    exact hS.2.1 q h1 h2
                  · rcases List.mem_append.mp hq with h3 | h3
                    · exact hS.2.2 q h3
                    · exact hL q h3
                split at h
                · rename_i ci hcls
                  split at h
                  · rename_i hfh
                    cases h
                    obtain ⟨t2, a1, b1⟩ := z_leave (Qc := z_Qc sz D cl ad dA G.1.1 (.inr a) S'.1) (free := z_A sz) (st := r.map (z_tr ad)) (ls := ls) (pc := pc) (x := ad a) X' hlk (fun q hq => z_fh_none hfh q (by rw [← htb]; exact hq)) (fun t3 h3 _ => ⟨rfl, by rw [h3, e1]; exact q2, by rw [h3]; exact hS'.1, fun q h4 h5 => by rw [h3]; exact hS'.2.1 q h4 h5⟩) hS'.2.2
                    have e4 : cells + (S'.1.length - S.1.length) = S'.1.length - n0 := by omega
                    have e5 : slots + (S'.2 - S.2) = S'.2 - s0 := by omega
                    rw [e4, e5] at b1
                    exact ⟨t2, fun u hu => Steps.trans hu a1, b1⟩
                  · rename_i hp hfh
                    obtain ⟨k, q, k1, k2, k3, k4, k5⟩ := z_fh_some hfh
                    obtain ⟨g1, C, Tt, N, g2, g3⟩ := hmi k q ci k1 k2
                    unfold z_cls at hcls
                    split at hcls
                    · rename_i hKa
                      split at hcls
                      · rename_i ob hob
                        have hoc : ob.1 = ci := Option.some.inj hcls
                        have h3 := z_W_get (ad := ad) (dA := dA) (K := G.1.1) hob
                        rw [z_bk hKa] at h3
                        have hP' : va_P D cl (z_W ad dA G.1.1 S1.1) T'.heap := by rw [e1]; exact q2
                        obtain ⟨cell, r1, r2, r3⟩ := va_recv (ci := ci) (s := s) (hwd s hWd).1 hP' g2 (by rw [h3, ← hoc]; rfl)
                        have hsp : c.exceptionTable.toList = tableOf ((P.2.2.2.1 mi).take k) ++ ⟨q.1, q.2.1, q.2.2.1, q.2.2.2⟩ :: tableOf ((P.2.2.2.1 mi).drop (k + 1)) := by
                          rw [htb]
                          have hkl := (List.getElem?_eq_some_iff.mp k1).1
                          have h5 : P.2.2.2.1 mi = (P.2.2.2.1 mi).take k ++ q :: (P.2.2.2.1 mi).drop (k + 1) := by
                            rw [← (List.getElem?_eq_some_iff.mp k1).2, List.getElem_cons_drop, List.take_append_drop]
                          conv => lhs; rw [h5]
                          simp [tableOf]
                        obtain ⟨vm', Xv, stv⟩ := z_caught (ls := ls) (st := r.map (z_tr ad)) (pc := pc) (x := ad a) X' hown hsp k5 (by simp [covers, k4.1, k4.2]) g1 (hts _ g3) r3 r1 r2 (va_assign ⟨r3, ((hwd s hWd).1.1 ci _ g2).2.2 |> fun z => by
                          obtain ⟨kc, z1, z2⟩ := z
                          exact ⟨kc, by rw [← Option.some.inj (r3.symm.trans ((hwd s hWd).1.1 ci _ g2).2.1)] at z1; exact z1, z2⟩⟩)
                        obtain ⟨t2, a1, b1⟩ := ih h hmi hcx hWd (ls := ls) (n0 := n0) (s0 := s0) (cells := cells + (S1.1.length - S.1.length)) (slots := slots + (S1.2 - S.2)) (H := T'.heap) (locs := locs ++ L) (below := below) ⟨hl, hP', hS', hn0, by omega, by omega, hRc, hRs, hf, hw⟩ (T'.setVm vm') rfl Xv
                        refine ⟨t2, fun u hu => Steps.trans hu (stv t2 ?_), b1⟩
                        show Steps p.tables e below ((T'.setVm vm').setTop (F0 m q.2.2.1 ls [.ref (ad a)])) t2
                        rw [k3]
                        exact a1
                      · cases hcls
                    · cases hcls
                  · cases h
                · cases h
              · cases h
            · cases h
          · cases h
        · split at h
          · rename_i idx q
            split at h
            · rename_i b r
              split at h
              · rename_i hc
                obtain ⟨rfl, hc1, hc2, hc3⟩ := hc
                obtain ⟨g1, g2, g3⟩ := hoC
                have hwt := z_wt_tr ad r
                exact W.objInit hx hb hown (hts _ g1) (hts _ g2) (hts _ g3) rfl (hl.1.trans hml.symm) rfl hdg (by omega) (by show 2 * 0 + _ + 12 ≤ R.locals; omega) (ih h hmi hcx hWd hat)
              · cases h
            · cases h
          · rename_i idx ci q
            split at h
            · rename_i hc
              cases h
              exact hth hcx hWd hat hcd hc
            · cases h
          · split at h
            · rename_i st' S1 hB
              split at h
              · rename_i hc
                have hc' := hc
                obtain ⟨rfl, d1, d2, d3, d4⟩ := hc'
                exact hbi hcx hWd hat hcd hB hc (fun H' locs' hp hs => ih h hmi hcx hWd ⟨hl, hp, hs, hn0, by omega, by omega, hRc, hRs, hf, hw⟩)
              · cases h
            · split at h
              · rename_i pc' lv' st' S1 hstep
                exact z_step_ok had hlo hinj hcl hcN hst htW hx hb hts hown (fun q => by rw [hnm]; exact of_decide_eq_true q) (hwd s hWd) hdg hoF hoH hl hP hS hn0 hce hsl hRc hRs hstep (fun ls' H' locs' cells' slots' h1 h2 h3 h4 h5 => ih h hmi hcx hWd ⟨h1, h2, h3, hn0, h4, h5, hRc, hRs, hf, hw⟩)
              · cases h
end ZWALK
end
section
/-! 'throw new X()' and 'throw new X(text)', out of the method. -/
theorem z_kept {s t : State} {k n : Nat} (h : s.sameButNew t [] k n) : ∀ q : Nat, q < s.heap.size → t.heap[q]? = s.heap[q]? := by
  intro q hq
  obtain ⟨c', h1, h2, h3, h4⟩ := h.2.2.2.2.2 q s.heap[q] (Array.getElem?_eq_getElem hq)
  have h5 : c'.slots = s.heap[q].slots := Array.ext_getElem? fun i => h4 i (by simp)
  rw [h1, Array.getElem?_eq_getElem hq, h2, h5]
theorem z_same {T t : State} {F : List Frame} {L : List Loc} {k n : Nat} (h : (T.setFrames F).sameButNew t L k n) : T.sameButNew t L k n := by
  obtain ⟨e, r⟩ := h
  rw [State.setFrames_setFrames] at e
  exact ⟨e, r⟩
section ZTHN
variable {p : Program} {l : Launch} {e : Env} {R : Room} {s : State} {m : MethodId} {args : Array Value} {below : List Frame} {meth : Method} {c : Code} {H : Heap} {locs : List Loc} {cells slots : Nat}
variable {ad : Nat → Nat} {dA : Nat → ClassId} {D : va_G} {cl : List vw_C} {sz : Nat} {cc : ByteArray} {ls : Array Slot} {pc : Nat} {st : List Value} {tys : List (ClassId × FieldType)}
/-- what a walk of the throw must come to, begun anew where the machine stands -/
def z_TQ (s' : State) (below : List Frame) (a : Nat) (cls : String) : State → Prop := fun t => t.status = .running ∧ Ended t below (.threw a) ∧ s'.WarmedH t.vm ∧ s'.sameButNew ({ t with vm := s'.vm } : State) [] 1 6 ∧ ∃ ce : Cell, t.heap[a]? = some ce ∧ s'.vm.findClass cls = some ce.cls ∧ ce.vm = .none
theorem z_thrown {K : Nat} (had : ∀ i, ad (K + i) = sz + i) {h : List z_E} (hP : va_P D cl (z_W ad dA K h) H) (hS : va_S (z_A sz) s.heap H locs) {n0 s0 : Nat} (hn0 : s.heap.size = sz + n0) (hce : cells + n0 = h.length) (hK : va_K D cl tys s) {ci : Nat} {cls : String} {T0 : u_T} (hc : cl[ci]? = some (cls, T0, 0)) (hrc : cells + 1 ≤ R.cells) (hrs : slots + 6 ≤ R.slots)
    (hk : ∀ s' : State, s'.heap = H → s.WarmedH s'.vm → W p l e { R with cells := R.cells - cells, slots := R.slots - slots } s' m args below meth c H [] 0 0 (z_TQ s' below H.size cls) (F0 m pc ls st)) :
    W p l e R s m args below meth c H locs cells slots (z_MQ below (z_Qc sz D cl ad dA K (.inr (K + h.length)) (h ++ [.inr (ci, [])])) args s (cells + 1) (slots + 6) (z_A sz)) (F0 m pc ls st) := by
  refine z_pin (N := sz + h.length) (by omega) (fun hle => ?_)
  have hge := z_size had hP hS hn0 (by omega)
  intro T hT X
  have X' := z_rebase X (by omega) (by omega)
  obtain ⟨t, h1, h2, h3, h4, h5, ce, h6, h7, h8⟩ := hk (T.setFrames (.invoking m args :: below)) hT X.warmed T hT X'
  have hsize : H.size = ad (K + h.length) := by rw [had]; omega
  have h9 : T.sameButNew ({ t with vm := T.vm } : State) [] 1 6 := z_same h5
  have hkp : ∀ q : Nat, q < H.size → t.heap[q]? = H[q]? := by
    intro q hq
    have := z_kept h9 q (by rw [hT]; exact hq)
    rw [← hT]
    exact this
  have hW : s.WarmedH t.vm := State.WarmedH.trans X.warmed h4
  have hcls : D.1 ci = ce.cls := by
    have q1 : s.vm.findClass cls = some (D.1 ci) := (hK.1 ci _ hc).2.1
    have q2 : (T.setFrames (.invoking m args :: below)).vm.findClass cls = s.vm.findClass cls := X.warmed.alike.findClass cls _
    rw [q2, q1] at h7
    exact Option.some.inj h7
  refine ⟨t, h1, .threw H.size, h2, h3, ⟨?_, ?_, ?_⟩, locs, ⟨hW, ?_⟩, hS.2.2⟩
  · rw [hsize]
    rfl
  · rw [z_W_app]
    refine va_P.app (hP.kept fun k q hq => hkp q.1 ((hP k q hq).lt)) (fun k q hq => ?_)
    have hz : k < 1 := (List.getElem?_eq_some_iff.mp hq).1
    rw [show k = 0 by omega] at hq
    cases hq
    refine ⟨_, hc, ce, ?_, hcls.symm, h8, fun j hj => absurd hj (Nat.not_lt_zero _)⟩
    show t.heap[ad (K + h.length)]? = some ce
    rw [← hsize]
    exact h6
  · refine ⟨?_, fun q hq hA => ?_⟩
    · have q1 := hS.1
      have q2 : H.size < t.heap.size := (Array.getElem?_eq_some_iff.mp h6).1
      omega
    · have q1 := hS.1
      rw [hkp q (by omega)]
      exact hS.2.1 q hq hA
  · have q1 := X.same.trans (h9.setVm s.vm)
    rw [List.append_nil] at q1
    exact q1
/-- new, dup, the constructor, athrow -/
theorem z_throw0 (hx : p.tables.exec = Jvm.exec) (hb : c.code = cc) (htr : e.platform.stackTraces = false) (hlk : meth.locks = false) (hls : ls.size = c.maxLocals) {own cls : String} {idx ic : Nat} {names : List String} (hfit : Bundle.fit cls = true) (hnm : ∀ n ∈ names, Bundle.fit n = true)
    (hown : s.vm.findClass own = some m.cls) (hlink : (Cond.classLink own idx cls).before args s = true) (hins : (Cond.instantiable cls 6).before args s = true) (hini : (Cond.initialized cls).before args s = true) (hat : ∀ a ∈ Bundle.ownAtoms0 own ic cls names, a.before args s = true)
    (hd0 : decode cc pc = .ok (.new idx, 3)) (hd3 : decode cc (pc + 3) = .ok (.dup, 1)) (hd4 : decode cc (pc + 4) = .ok (.invokespecial ic, 3)) (hd7 : decode cc (pc + 7) = .ok (.athrow, 1)) (hout : ∀ x ∈ c.exceptionTable.toList, covers x (pc + 7) = false)
    (hfr : names.length + 3 < R.frames) (hlo : (st.map fun v => v.category).sum + 1 + (13 * (names.length + 1) + 41) ≤ R.locals) (hrc : 1 ≤ R.cells) (hrs : 6 ≤ R.slots) (hH : s.heap = H) :
    W p l e R s m args below meth c H [] 0 0 (z_TQ s below H.size cls) (F0 m pc ls st) := by
  refine W.newc hx hb hown hlink hins hini rfl hd0 (by omega) (by omega) (fun cC kC q1 q2 q3 q4 => ?_)
  refine lv_dup (ls := ls) (rest := st) (va := .ref H.size) hx hb hd3 rfl ?_
  intro T hT X
  obtain ⟨U, a1, a2, a3, a4, a5, ce, a6, a7⟩ := X.ctorThrow0 hx htr hown hfit hnm hat (fun x hx => by cases hx) q1 q2 (a := H.size) (by rw [hT]; simp) (by rw [hH]; exact Nat.le_refl _) (g := F0 m (pc + 4) ls (.ref H.size :: .ref H.size :: st)) rfl hls rfl rfl (rest := st) rfl (by rw [hb]; exact hd4) (by rw [hb]; exact hd7) hout hfr (by
    show 2 * 0 + ((Value.ref H.size :: st).map fun v => v.category).sum + _ ≤ _
    have : ((Value.ref H.size :: st).map fun v => v.category).sum = 1 + (st.map fun v => v.category).sum := rfl
    omega) hlk
  exact ⟨U, a1, a2, a3, a4, a5, ce, a6, a7.cls, a7.vm⟩
/-- new, dup, ldc, the constructor, athrow -/
theorem z_throwS (hx : p.tables.exec = Jvm.exec) (hb : c.code = cc) (htr : e.platform.stackTraces = false) (hlk : meth.locks = false) (hls : ls.size = c.maxLocals) {own cls tx : String} {idx ic ix q : Nat} {names : List String} (hfit : Bundle.fit cls = true) (hnm : ∀ n ∈ names, Bundle.fit n = true)
    (hown : s.vm.findClass own = some m.cls) (hlink : (Cond.classLink own idx cls).before args s = true) (hins : (Cond.instantiable cls 6).before args s = true) (hini : (Cond.initialized cls).before args s = true) (hat : ∀ a ∈ Bundle.ownAtoms own ic cls names, a.before args s = true) (hZ : vk_R own ix tx q s)
    (hd0 : decode cc pc = .ok (.new idx, 3)) (hd3 : decode cc (pc + 3) = .ok (.dup, 1)) (hd4 : decode cc (pc + 4) = .ok (.ldc ix, 2)) (hd6 : decode cc (pc + 6) = .ok (.invokespecial ic, 3)) (hd9 : decode cc (pc + 9) = .ok (.athrow, 1)) (hout : ∀ x ∈ c.exceptionTable.toList, covers x (pc + 9) = false)
    (hfr : names.length + 3 < R.frames) (hlo : (st.map fun v => v.category).sum + 1 + (13 * (names.length + 1) + 42) ≤ R.locals) (hrc : 1 ≤ R.cells) (hrs : 6 ≤ R.slots) (hH : s.heap = H) :
    W p l e R s m args below meth c H [] 0 0 (z_TQ s below H.size cls) (F0 m pc ls st) := by
  refine W.newc hx hb hown hlink hins hini rfl hd0 (by omega) (by omega) (fun cC kC q1 q2 q3 q4 => ?_)
  refine lv_dup (ls := ls) (rest := st) (va := .ref H.size) hx hb hd3 rfl ?_
  refine va_ldcS hx hb hown hZ hd4 ?_
  intro T hT X
  obtain ⟨U, a1, a2, a3, a4, a5, ce, a6, a7⟩ := X.ctorThrowS hx htr hown hfit hnm hat (fun x hx => by cases hx) q1 q2 (a := H.size) (by rw [hT]; simp) (by rw [hH]; exact Nat.le_refl _) (msg := .ref q) rfl (g := F0 m (pc + 6) ls (.ref q :: .ref H.size :: .ref H.size :: st)) rfl hls rfl rfl (rest := st) rfl (by rw [hb]; exact hd6) (by rw [hb]; exact hd9) hout hfr (by
    show 2 * 0 + ((Value.ref H.size :: st).map fun v => v.category).sum + _ ≤ _
    have : ((Value.ref H.size :: st).map fun v => v.category).sum = 1 + (st.map fun v => v.category).sum := rfl
    omega) hlk
  exact ⟨U, a1, a2, a3, a4, a5, ce, a6, a7.cls, a7.vm⟩
end ZTHN
end
section
/-! What has no code in the plain machine's tables: the ordinal of a constant, and System.arraycopy of ints or bytes. -/
def z_cpl (f g : List (Nat × Int32)) (sp dp n : Nat) : List (Nat × Int32) := match n with
  | 0 => g
  | n + 1 => (dp + n, z_fn 0 f (sp + n)) :: z_cpl f g sp dp n
theorem z_cpl_fn (f g : List (Nat × Int32)) (sp dp : Nat) : ∀ n, z_fn 0 (z_cpl f g sp dp n) = va_cpy (z_fn 0 f) (z_fn 0 g) sp dp n := by
  intro n
  induction n with
  | zero =>
    funext j
    have : ¬ (dp ≤ j ∧ j < dp + 0) := by omega
    show z_fn 0 g j = _
    unfold va_cpy
    rw [if_neg this]
  | succ n ih =>
    funext j
    show (if j = dp + n then z_fn 0 f (sp + n) else z_fn 0 (z_cpl f g sp dp n) j) = _
    rw [ih]
    by_cases h : j = dp + n
    · subst h
      have h1 : dp ≤ dp + n ∧ dp + n < dp + (n + 1) := by omega
      rw [if_pos rfl]
      unfold va_cpy
      rw [if_pos h1]
      congr 1
      omega
    · rw [if_neg h]
      unfold va_cpy
      by_cases h1 : dp ≤ j ∧ j < dp + n
      · rw [if_pos h1, if_pos (by omega)]
      · rw [if_neg h1, if_neg (by omega)]
def z_acp (G : z_G) (st : List Value) (S : z_S) : Option (List Value × z_S) := match st with
  | .int n :: .int dp :: .ref a :: .int sp :: .ref b :: r => match z_ar G.1.1 S a, z_ar G.1.1 S b with
    | some (t1, n1, .inl g), some (t0, n0, .inl f) => match G.2.1.1[t0]? with
      | some ty => if (G.2.1.1[t1]? = some ty ∧ refKind ty = false ∧ z_wt r ≤ 8) ∧ (¬ sp < 0 ∧ ¬ dp < 0 ∧ ¬ n < 0) ∧ (sp.toNatClampNeg + n.toNatClampNeg ≤ n0 ∧ dp.toNatClampNeg + n.toNatClampNeg ≤ n1) ∧ (List.range n.toNatClampNeg).all (fun i => fits ty (.int (z_fn 0 f (sp.toNatClampNeg + i)))) = true then some (r, (S.1.set (a - G.1.1) (.inl (t1, n1, .inl (z_cpl f g sp.toNatClampNeg dp.toNatClampNeg n.toNatClampNeg))), S.2)) else none
      | none => none
    | _, _ => none
  | _ => none
def z_ord (G : z_G) (st : List Value) (S : z_S) : Option (List Value × z_S) := match st with
  | .ref v :: r => if v < G.1.2.1 ∧ z_wt r ≤ 8 then some (.int (nI v) :: r, S) else none
  | _ => none
def z_bi (G : z_G) : z_B := fun i len aux lv st S => match i, aux with
  | .invokevirtual _, [2, _] => z_ord G st S
  | .invokestatic _, [3, _] => z_acp G st S
  | _, _ => none
section ZBI
variable {p : Program} {l : Launch} {e : Env} {R : Room} {s : State} {m : MethodId} {args : Array Value} {below : List Frame} {meth : Method} {c : Code} {H : Heap} {locs : List Loc} {cells slots : Nat} {Q : State → Prop}
variable {cc : ByteArray} {ls : Array Slot} {ad : Nat → Nat} {dA : Nat → ClassId} {D : va_G} {cl : List vw_C} {sz : Nat} {pc : Nat}
theorem z_acp_ok {G : z_G} (had : ∀ i, ad (G.1.1 + i) = sz + i) (hx : p.tables.exec = Jvm.exec) (hb : c.code = cc) (hml : c.maxLocals = ls.size) {own : String} {index : Nat} (hown : s.vm.findClass own = some m.cls) (hlink : (Cond.methodLink own index arraycopyName).before args s = true) (hnat : (Cond.native arraycopyName).before args s = true) (hstat : (Cond.static arraycopyName).before args s = true) (hini : (Cond.initialized "java/lang/System").before args s = true)
    (hK : va_K D cl (z_tys dA G.2.1.1) s) {S S' : z_S} {st st' : List Value} (hP : va_P D cl (z_W ad dA G.1.1 S.1) H) (hS : va_S (z_A sz) s.heap H locs) (hfr : 1 ≤ R.frames) (hlo : 60 ≤ R.locals) (hdg : decode cc pc = .ok (.invokestatic index, 3)) (h : z_acp G st S = some (st', S'))
    (kk : ∀ (H' : Heap) (locs' : List Loc), va_P D cl (z_W ad dA G.1.1 S'.1) H' → va_S (z_A sz) s.heap H' locs' → W p l e R s m args below meth c H' locs' cells slots Q (F0 m (pc + 3) ls (st'.map (z_tr ad)))) : W p l e R s m args below meth c H locs cells slots Q (F0 m pc ls (st.map (z_tr ad))) := by
  unfold z_acp at h
  split at h
  · rename_i n dp a sp b r
    split at h
    · rename_i t1 n1 g t0 n0 f ha hb2
      split at h
      · rename_i ty hty
        split at h
        · rename_i hc
          obtain ⟨⟨c1, c2, c3⟩, ⟨c4, c5, c6⟩, ⟨c7, c8⟩, c9⟩ := hc
          cases h
          obtain ⟨k1, k2⟩ := z_ar_i ha
          obtain ⟨k3, k4⟩ := z_ar_i hb2
          have h1 := z_W_get (ad := ad) (dA := dA) (K := G.1.1) k2
          have h2 := z_W_get (ad := ad) (dA := dA) (K := G.1.1) k4
          have h3 := z_W_set (ad := ad) (dA := dA) (K := G.1.1) (h := S.1) (i := a - G.1.1) (.inl (t1, n1, .inl (z_cpl f g sp.toNatClampNeg dp.toNatClampNeg n.toNatClampNeg)))
          rw [z_bk k1] at h1 h3
          rw [z_bk k3] at h2
          have h4 : z_trE ad dA (.inl (t1, n1, .inl (z_cpl f g sp.toNatClampNeg dp.toNatClampNeg n.toNatClampNeg))) = .inl (dA t1, n1, .inl (va_cpy (z_fn 0 f) (z_fn 0 g) sp.toNatClampNeg dp.toNatClampNeg n.toNatClampNeg)) := by
            show Sum.inl (dA t1, n1, Sum.inl (z_fn 0 _)) = _
            rw [z_cpl_fn]
          rw [h4] at h3
          have kk' : ∀ (H' : Heap) (locs' : List Loc), va_P D cl ((z_W ad dA G.1.1 S.1).set (a - G.1.1) (ad a, .inl (dA t1, n1, .inl (va_cpy (z_fn 0 f) (z_fn 0 g) sp.toNatClampNeg dp.toNatClampNeg n.toNatClampNeg)))) H' → va_S (z_A sz) s.heap H' locs' → W p l e R s m args below meth c H' locs' cells slots Q (F0 m (pc + 3) ls (st'.map (z_tr ad))) := by
            rw [h3]
            exact kk
          have hw := z_wt_tr ad st'
          exact va_copyi hx hb hml hown hlink hnat hstat hini hK hP (z_D had S.1) hS (b - G.1.1) (a - G.1.1) t0 t1 h2 h1 (z_tys_get hty) (z_tys_get c1) c2 c4 c5 c6 c7 c8 (fun i hi => List.all_eq_true.mp c9 i (List.mem_range.mpr hi)) hfr (by
            have : nativeFrameWords "java/lang/System" "arraycopy" 5 + 11 ≤ 52 := by decide +kernel
            omega) hdg (fun H1 locs1 hp _ hs => kk' H1 locs1 hp hs)
        · cases h
      · cases h
    · cases h
  · cases h
def z_yo : MethodName := ⟨"java/lang/Enum", "ordinal", "()I"⟩
/-- Enum.ordinal: what the field holds -/
theorem z_ord_met (l : Launch) {co : ByteArray} (d0 : decode co 0 = .ok (.aload_n 0, 1)) (d1 : decode co 1 = .ok (.getfield 7, 3)) (d4 : decode co 4 = .ok (.ireturn, 1)) (A : Nat → Prop) (b : Nat) (k : Int32) :
    Met l z_yo [.code z_yo co 1 (some .int), .fieldLink "java/lang/Enum" 7 "java/lang/Enum" "ordinal" "I"] { frames := 0, cells := 0, slots := 0, locals := 0 } (va_Pc [.ref b] (fun U => va_OF "java/lang/Enum" "ordinal" "I" (.int k) b A U U.heap)) (fun _ st o t => o = .returned (some (.int k)) ∧ t.heap = st.heap) 0 0 (fun _ => False) := by
  refine Met.ofW (cc := co) (maxL := 1) (ret := some .int) (by decide) rfl ?_
  intro p e s m args below meth c s₁ B hml hv
  obtain ⟨rfl, hO⟩ := hv
  have hx := B.exec
  have hb := B.bytes
  have hr := B.returns
  have hts := atoms_spec (ws := [.code z_yo co 1 (some .int), .fieldLink "java/lang/Enum" 7 "java/lang/Enum" "ordinal" "I"]) B.pre
  have hown : s.vm.findClass "java/lang/Enum" = some m.cls := findClass_of_methodNamed B.named
  have hlocks := B.notSynchronized
  have hl := lv_entry ([.ref b]) (n := 1) (Nat.le_of_ble_eq_true rfl)
  rw [lg_entry_eq]
  generalize (lg_sl ([.ref b]) ++ List.replicate (1 - (lg_sl ([.ref b])).length) Slot.unset).toArray = ls at hl ⊢
  have hl : lv_has ls 1 [(0, .ref b)] := hl
  refine lv_aload_n hx hb d0 rfl (lv_at hl 0 rfl) ?_
  refine vk_getf hx hb hO va_S.rf hown (hts _ (by simp)) (fun x q => q) d1 ?_
  exact W.iret hx hb hr (fun t ht _ => ⟨rfl, ht⟩) (fun q hq => by cases hq) d4 hlocks
theorem z_ord_ok {G : z_G} {cW : String} (hx : p.tables.exec = Jvm.exec) (hb : c.code = cc) (hml : c.maxLocals = ls.size) {own : String} {index : Nat} {co : ByteArray} (d0 : decode co 0 = .ok (.aload_n 0, 1)) (d1 : decode co 1 = .ok (.getfield 7, 3)) (d4 : decode co 4 = .ok (.ireturn, 1)) {Ts : List Cond} (hts : ∀ w ∈ Ts, w.before args s = true) (hown : s.vm.findClass own = some m.cls)
    (hG : GoodIn Ts (va_wsU own index cW "java/lang/Enum" ⟨cW, "ordinal", "()I"⟩ z_yo [.code z_yo co 1 (some .int), .fieldLink "java/lang/Enum" 7 "java/lang/Enum" "ordinal" "I"]))
    (hO : ∀ v, v < G.1.2.1 → va_O cW (ad v) (z_A sz) s s.heap ∧ va_OF "java/lang/Enum" "ordinal" "I" (.int (nI v)) (ad v) (z_A sz) s s.heap) {S S' : z_S} {st st' : List Value} (hP : va_P D cl (z_W ad dA G.1.1 S.1) H) (hS : va_S (z_A sz) s.heap H locs) (hfr : 1 ≤ R.frames) (hlo : 60 ≤ R.locals) (hcl : cells ≤ R.cells) (hsl : slots ≤ R.slots) (hdg : decode cc pc = .ok (.invokevirtual index, 3)) (h : z_ord G st S = some (st', S'))
    (kk : ∀ (H' : Heap) (locs' : List Loc), va_P D cl (z_W ad dA G.1.1 S'.1) H' → va_S (z_A sz) s.heap H' locs' → W p l e R s m args below meth c H' locs' cells slots Q (F0 m (pc + 3) ls (st'.map (z_tr ad)))) : W p l e R s m args below meth c H locs cells slots Q (F0 m pc ls (st.map (z_tr ad))) := by
  unfold z_ord at h
  split at h
  · rename_i v r
    split at h
    · rename_i hc
      obtain ⟨c1, c2⟩ := hc
      cases h
      obtain ⟨o1, o2⟩ := hO v c1
      have hw := z_wt_tr ad r
      have hrecv : ∃ cell : Cell, H[ad v]? = some cell ∧ cell.vm.isStatics = false ∧ s.vm.findClass cW = some cell.cls := by
        obtain ⟨cell, q1, q2, q3, -⟩ := o1.kept hS.2.1
        exact ⟨cell, q1, q2, q3⟩
      have hrun := va_runU (p := p) (l := l) (e := e) (R := R) (below := below) (meth := meth) (H := H) (locs := locs) (cells := cells) (slots := slots) (As := []) (rest := r.map (z_tr ad)) (b := ad v) (C := cW) (g := F0 m pc ls ((Value.ref v :: r).map (z_tr ad))) (nL := ls.size) ⟨hx, hb, hml, hown, hts⟩ (z_ord_met l d0 d1 d4 (z_A sz) (ad v) (nI v)) (va_cwU 0 hts hG rfl rfl rfl rfl ⟨by decide, by decide, (by decide +kernel : (parseMethodDescriptor "()I").map (fun d => d.parameters.length) = some 0)⟩ ⟨by show 0 + 1 ≤ R.frames; omega, by show 8 + (1 + 11) + 0 ≤ R.locals; omega⟩)
        ⟨fun a U g mk q => by obtain ⟨q0, q1⟩ := q; exact ⟨q0, va_OF.moved (u := U) (U := U.calling g mk a) (Vm.Alike.refl U.vm) q1⟩, hrecv, fun U hU hW => ⟨rfl, va_OF.moved hW.alike (by rw [hU]; exact o2.kept hS.2.1)⟩⟩ rfl rfl rfl rfl (by show 2 * 0 + _ ≤ 8; omega) hdg ⟨by omega, by omega⟩
      intro T hT X
      obtain ⟨v2, st₀, t, T', L, q0, X', hL, e1, e2, ⟨hv, hh⟩, stp⟩ := hrun T hT X
      cases hv
      have hT' : T'.heap = H := by rw [e1, hh, q0]
      obtain ⟨t2, a1, b1⟩ := kk H locs hP hS T' hT' (Stand.forget X' (fun q h => (hL q h).elim))
      exact ⟨t2, stp t2 a1, b1⟩
    · cases h
  · cases h
end ZBI
end
section
/-! The program's text as lists of rows, and a program that checks them. -/
abbrev z_R : Type := Nat × Instr × Nat × List Nat
def z_look (rs : List z_R) (pc : Nat) : Option (Instr × Nat × List Nat) := match rs with
  | [] => none
  | q :: r => if q.1 = pc then some q.2 else z_look r pc
theorem z_look_mem {rs : List z_R} {pc : Nat} {x : Instr × Nat × List Nat} (h : z_look rs pc = some x) : (pc, x) ∈ rs := by
  induction rs with
  | nil => simp [z_look] at h
  | cons q r ih =>
    unfold z_look at h
    by_cases hq : q.1 = pc
    · rw [if_pos hq] at h
      cases h
      rw [← hq]
      exact List.mem_cons_self
    · rw [if_neg hq] at h
      exact List.mem_cons_of_mem _ (ih h)
def z_chkH (own : String) (ini : Bool) (cl : List vw_C) (tyl : List FieldType) (stl : List (String × String × String × Value)) (Ts : List Cond) (i : Instr) (aux : List Nat) : Bool := match i, aux with
  | .getfield idx, [ci, k, pl] => match cl[ci]? with
    | some q => decide (k < q.2.2) && decide (Ts[pl]? = some (Cond.fieldLink own idx (q.2.1 k).1 (q.2.1 k).2.1 (q.2.1 k).2.2.1))
    | none => false
  | .putfield idx, [ci, k, pl] => match cl[ci]? with
    | some q => decide (k < q.2.2) && (decide (Ts[pl]? = some (Cond.fieldLink own idx (q.2.1 k).1 (q.2.1 k).2.1 (q.2.1 k).2.2.1)) && (!(q.2.1 k).2.2.2 || (ini && decide ((q.2.1 k).1 = own))))
    | none => false
  | .new idx, [ci, pl] => match cl[ci]? with
    | some q => decide (Ts[pl]? = some (Cond.classLink own idx q.1)) && (decide (Cond.instantiable q.1 q.2.2 ∈ Ts) && decide (Cond.initialized q.1 ∈ Ts))
    | none => false
  | .newarray at_, [t] => decide (tyl[t]? = some (newarray.typeOf at_)) && decide (Cond.arrayClass (newarray.typeOf at_) ∈ Ts)
  | .anewarray idx, [t, pl] => match tyl[t]? with
    | some (.object C) => decide (Ts[pl]? = some (Cond.classLink own idx C))
    | _ => false
  | .getstatic idx, [j, pl] => match stl[j]? with
    | some q => decide (Ts[pl]? = some (Cond.fieldLink own idx q.1 q.2.1 q.2.2.1))
    | none => false
  | .ldc idx, [n, pl] => decide (Ts[pl]? = some (Jvm.Cond.constant own idx (Int32.ofNat n)))
  | .ldc_w idx, [n, pl] => decide (Ts[pl]? = some (Jvm.Cond.constant own idx (Int32.ofNat n)))
  | .ldc2_w idx, [n, pl] => decide (Ts[pl]? = some (Jvm.Cond.constantLong own idx (Int64.ofNat n)))
  | _, _ => true
theorem z_chkH_ok {own : String} {ini : Bool} {cl : List vw_C} {tyl : List FieldType} {stl : List (String × String × String × Value)} {Ts : List Cond} {i : Instr} {aux : List Nat} (h : z_chkH own ini cl tyl stl Ts i aux = true) : z_okH own ini cl tyl stl Ts i aux := by
  unfold z_okH
  split
  · rename_i idx ci k pl
    simp only [z_chkH] at h
    split at h
    · rename_i q hq
      simp only [Bool.and_eq_true, decide_eq_true_eq] at h
      exact ⟨q.1, q.2.1, q.2.2, hq, h.1, List.mem_of_getElem? h.2⟩
    · cases h
  · rename_i idx ci k pl
    simp only [z_chkH] at h
    split at h
    · rename_i q hq
      simp only [Bool.and_eq_true, decide_eq_true_eq, Bool.or_eq_true, Bool.not_eq_true'] at h
      refine ⟨q.1, q.2.1, q.2.2, hq, h.1, List.mem_of_getElem? h.2.1, fun hf => ?_⟩
      rcases h.2.2 with h1 | h1
      · rw [h1] at hf; cases hf
      · exact h1
    · cases h
  · rename_i idx ci pl
    simp only [z_chkH] at h
    split at h
    · rename_i q hq
      simp only [Bool.and_eq_true, decide_eq_true_eq] at h
      exact ⟨q.1, q.2.1, q.2.2, hq, List.mem_of_getElem? h.1, h.2.1, h.2.2⟩
    · cases h
  · rename_i at_ t
    simp only [z_chkH, Bool.and_eq_true, decide_eq_true_eq] at h
    exact h
  · rename_i idx t pl
    simp only [z_chkH] at h
    split at h
    · rename_i C hC
      simp only [decide_eq_true_eq] at h
      exact ⟨C, hC, List.mem_of_getElem? h⟩
    · cases h
  · rename_i idx j pl
    simp only [z_chkH] at h
    split at h
    · rename_i q hq
      simp only [decide_eq_true_eq] at h
      exact ⟨q.1, q.2.1, q.2.2.1, q.2.2.2, hq, List.mem_of_getElem? h⟩
    · cases h
  · simp only [z_chkH, decide_eq_true_eq] at h
    exact List.mem_of_getElem? h
  · simp only [z_chkH, decide_eq_true_eq] at h
    exact List.mem_of_getElem? h
  · simp only [z_chkH, decide_eq_true_eq] at h
    exact List.mem_of_getElem? h
  · trivial
/-- of a method: arity and kind (0 static, 1 a constructor, 2 by the receiver's class) -/
abbrev z_K : Type := (Nat → Nat) × (Nat → Nat)
def z_chkC (my : Nat → MethodName) (A : z_K) (M : Nat) (Ts : List Cond) (own : String) (i : Instr) (aux : List Nat) : Bool := match i, aux with
  | .invokestatic idx, [0, mj, na, pl] => decide (Ts[pl]? = some (Cond.methodLink own idx (my mj))) && (decide (A.1 mj = na) && (decide (A.2 mj = 0) && decide (mj < M)))
  | .invokespecial idx, [0, mj, na, pl] => decide (Ts[pl]? = some (Cond.methodLink own idx (my mj))) && (decide (A.1 mj = na) && (decide (A.2 mj = 1) && decide (mj < M)))
  | .invokevirtual idx, [0, mj, na, pl] => decide (Ts[pl]? = some (Cond.methodLink own idx (my mj))) && (decide (A.1 mj = na) && (decide (A.2 mj = 2) && decide (mj < M)))
  | .invokespecial idx, [1, pl] => decide (Ts[pl]? = some (Cond.methodLink own idx Lib.objectInit))
  | _, _ => true
def z_chkM (my : Nat → MethodName) (mb : Nat → ByteArray) (P : z_Q) (A : z_K) (cl : List vw_C) (Ts : List Cond) (mi : Nat) : Bool :=
  (plainName (my mi).cls && (decide ((my mi).cls ≠ "java/lang/invoke/MethodHandle" ∧ (my mi).cls ≠ "java/lang/invoke/VarHandle") && (decide (Cond.initialized (my mi).cls ∈ Ts) && (decide ((parseMethodDescriptor (my mi).desc).map (fun d => d.parameters.length) = some (A.1 mi)) &&
  (match A.2 mi with
  | 0 => decide (Cond.static (my mi) ∈ Ts)
  | 1 => decide (Cond.instanceMethod (my mi) ∈ Ts) && (decide ((my mi).name = "<init>") && (decide (P.2.2.2.1 mi = []) && decide (P.2.2.1 mi = none)))
  | _ => decide (Cond.instanceMethod (my mi) ∈ Ts) && (match cl[P.2.2.2.2.2 mi]? with
    | some q => decide (Cond.selects q.1 (my mi) (my mi) ∈ Ts)
    | none => false))))))
def z_chkX (my : Nat → MethodName) (P : z_Q) (cl : List vw_C) (Ts : List Cond) (mi : Nat) : Bool := ((P.2.2.2.1 mi).zip (P.2.2.2.2.1 mi)).all (fun z => decide (z.1.2.2.2 ≠ 0) && (match cl[z.2]? with
  | some q => decide (Cond.classLink (my mi).cls z.1.2.2.2 q.1 ∈ Ts)
  | none => false))
theorem z_chkX_ok {my : Nat → MethodName} {P : z_Q} {cl : List vw_C} {Ts : List Cond} {mi : Nat} (h : z_chkX my P cl Ts mi = true) : z_okX my P cl Ts mi := by
  intro k q x hq hx
  have hm : (q, x) ∈ (P.2.2.2.1 mi).zip (P.2.2.2.2.1 mi) := List.mem_of_getElem? (i := k) (by rw [List.getElem?_zip_eq_some]; exact ⟨hq, hx⟩)
  have h1 := List.all_eq_true.mp h _ hm
  simp only [Bool.and_eq_true, decide_eq_true_eq] at h1
  refine ⟨h1.1, ?_⟩
  have h2 := h1.2
  split at h2
  · rename_i r hr
    simp only [decide_eq_true_eq] at h2
    exact ⟨r.1, r.2.1, r.2.2, hr, h2⟩
  · cases h2
def z_chkR (my : Nat → MethodName) (mb : Nat → ByteArray) (A : z_K) (M : Nat) (cl : List vw_C) (tyl : List FieldType) (stl : List (String × String × String × Value)) (Ts : List Cond) (mi : Nat) (r : z_R) : Bool :=
  decide (decode (mb mi) r.1 = .ok (r.2.1, r.2.2.1)) && (z_okF r.2.1 r.2.2.2 r.1 && (z_chkH (my mi).cls (decide ((my mi).name = "<init>")) cl tyl stl Ts r.2.1 r.2.2.2 && z_chkC my A M Ts (my mi).cls r.2.1 r.2.2.2))
theorem z_okP_of {my : Nat → MethodName} {mb : Nat → ByteArray} {P : z_Q} {A : z_K} {M : Nat} {cl : List vw_C} {tyl : List FieldType} {stl : List (String × String × String × Value)} {Ts : List Cond} {rows : Nat → List z_R} (hP : ∀ mi pc, P.1 mi pc = z_look (rows mi) pc)
    (hr : ∀ mi, (rows mi).all (z_chkR my mb A M cl tyl stl Ts mi) = true) (hcw : ∀ mi, 0 < mi → mi < M → z_cw (my mi) (mb mi) (P.2.1 mi) (P.2.2.1 mi) (P.2.2.2.1 mi) ∈ Ts) (hm : ∀ mi, 0 < mi → mi < M → z_chkM my mb P A cl Ts mi = true) (h0 : ∀ mi, mi < M → z_chkX my P cl Ts mi = true) (hz : ∀ (mi pc : Nat) (i : Instr) (len na pl : Nat), P.1 mi pc = some (i, len, [0, 0, na, pl]) → False)
    (hob : Cond.instanceMethod Lib.objectInit ∈ Ts ∧ Cond.code Lib.objectInit ⟨#[0xb1]⟩ 1 none ∈ Ts) : z_okP my mb P cl tyl stl Ts := by
  have hM : ∀ mj, 0 < mj → mj < M → z_okM my mb P cl Ts mj := by
    intro mj h1 h2
    have h3 := hm mj h1 h2
    simp only [z_chkM, Bool.and_eq_true, decide_eq_true_eq] at h3
    exact ⟨hcw mj h1 h2, h3.1, h3.2.1, h3.2.2.1, z_chkX_ok (h0 mj h2)⟩
  have hA : ∀ mj, 0 < mj → mj < M → (parseMethodDescriptor (my mj).desc).map (fun d => d.parameters.length) = some (A.1 mj) := by
    intro mj h1 h2
    have h3 := hm mj h1 h2
    simp only [z_chkM, Bool.and_eq_true, decide_eq_true_eq] at h3
    exact h3.2.2.2.1
  intro mi pc i len aux h
  have h1 := List.all_eq_true.mp (hr mi) _ (z_look_mem ((hP mi pc).symm.trans h))
  simp only [z_chkR, Bool.and_eq_true, decide_eq_true_eq] at h1
  obtain ⟨h2, h3, h4, h5⟩ := h1
  have hpos : ∀ {mj na pl : Nat}, aux = [0, mj, na, pl] → 0 < mj := by
    intro mj na pl he
    rcases Nat.eq_zero_or_pos mj with h6 | h6
    · subst h6
      subst he
      exact (hz mi pc i len na pl h).elim
    · exact h6
  refine ⟨h2, h3, z_chkH_ok h4, ?_, ?_⟩
  · unfold z_okC
    split
    · rename_i idx mj na pl
      simp only [z_chkC, Bool.and_eq_true, decide_eq_true_eq] at h5
      obtain ⟨a1, a2, a3, a4⟩ := h5
      have h7 := hm mj (hpos rfl) a4
      simp only [z_chkM, Bool.and_eq_true, a3, decide_eq_true_eq] at h7
      exact ⟨List.mem_of_getElem? a1, h7.2.2.2.2, by rw [← a2]; exact hA mj (hpos rfl) a4⟩
    · rename_i idx mj na pl
      simp only [z_chkC, Bool.and_eq_true, decide_eq_true_eq] at h5
      obtain ⟨a1, a2, a3, a4⟩ := h5
      have h7 := hm mj (hpos rfl) a4
      simp only [z_chkM, Bool.and_eq_true, a3, decide_eq_true_eq] at h7
      exact ⟨List.mem_of_getElem? a1, h7.2.2.2.2.1, h7.2.2.2.2.2.1, h7.2.2.2.2.2.2.1, h7.2.2.2.2.2.2.2, by rw [← a2]; exact hA mj (hpos rfl) a4⟩
    · rename_i idx mj na pl
      simp only [z_chkC, Bool.and_eq_true, decide_eq_true_eq] at h5
      obtain ⟨a1, a2, a3, a4⟩ := h5
      have h7 := hm mj (hpos rfl) a4
      simp only [z_chkM, Bool.and_eq_true, a3, decide_eq_true_eq] at h7
      refine ⟨List.mem_of_getElem? a1, h7.2.2.2.2.1, ?_, by rw [← a2]; exact hA mj (hpos rfl) a4⟩
      have h8 := h7.2.2.2.2.2
      split at h8
      · rename_i q hq
        simp only [decide_eq_true_eq] at h8
        exact ⟨q.1, q.2.1, q.2.2, hq, h8⟩
      · cases h8
    · simp only [z_chkC, decide_eq_true_eq] at h5
      exact ⟨List.mem_of_getElem? h5, hob.1, hob.2⟩
    · trivial
  · intro mj hc
    unfold z_callee_of at hc
    split at hc
    · cases hc
      simp only [z_chkC, Bool.and_eq_true, decide_eq_true_eq] at h5
      exact hM mj (hpos rfl) h5.2.2.2
    · cases hc
      simp only [z_chkC, Bool.and_eq_true, decide_eq_true_eq] at h5
      exact hM mj (hpos rfl) h5.2.2.2
    · cases hc
      simp only [z_chkC, Bool.and_eq_true, decide_eq_true_eq] at h5
      exact hM mj (hpos rfl) h5.2.2.2
    · cases hc
end
section
/-! How what is known of the start stays known: statics, constants, frozen arrays. -/
/-- a later state: warmer tables, and below sz nothing has changed -/
def z_Lt (sz : Nat) (U V : State) : Prop := U.WarmedH V.vm ∧ U.heap.size ≤ V.heap.size ∧ ∀ q, q < U.heap.size → ¬ z_A sz q → V.heap[q]? = U.heap[q]?
theorem z_Wd_mv {G : z_G} {sz : Nat} {D : va_G} {cl : List vw_C} {dA : Nat → ClassId} {ad : Nat → Nat} {stl : List (String × String × String × Value)} {cW : String} {U V : State} (h : z_Lt sz U V) (hw : z_Wd G sz D cl dA ad stl cW U) : z_Wd G sz D cl dA ad stl cW V := by
  obtain ⟨hW, hsz, hk⟩ := h
  obtain ⟨h1, h2, h3, h4, h5, h6, cC, kC, h7, h8⟩ := hw
  have hv := hW.alike
  obtain ⟨k', hk', -⟩ := hv.2.2 _ _ h8
  refine ⟨va_K.moved hv h1, fun j C n d v q => ((h2 j C n d v q).kept hk).moved hv, fun t C q => (h3 t C q).moved hv, Nat.le_trans h4 hsz, fun a q hq => ((h5 a q hq).kept hk).moved hv, fun v q => ((h6 v q).kept hk).moved hv, cC, k', by rw [hv.findClass]; exact h7, hk'⟩
/-- the two statics of Throwable -/
def z_Un (sz : Nat) (O f d : String) (U : State) : Prop := (Cond.laysStatic O f d).before #[] U = true ∧ va_Zq O f d (z_A sz) U U.heap
theorem z_Un_lays {sz : Nat} {O f d : String} {U : State} (h : z_Un sz O f d U) (args : Array Value) : (Cond.laysStatic O f d).before args U = true := h.1
theorem z_Un_isRef {sz : Nat} {O f d : String} {U : State} (h : z_Un sz O f d U) (args : Array Value) : (Cond.isRef (.static O f d)).before args U = true := by
  have key : ∀ v : Value, v.isRef = true → va_Z O f d v (z_A sz) U U.heap → (Cond.isRef (.static O f d)).before args U = true := by
    intro v hv hz
    obtain ⟨cf, kf, fi, fd, a, cell, h1, h2, h3, h4, h5, h6, h7, -⟩ := hz
    have he : (Term.static O f d).eval args U none [] U = some v := by
      simp [Term.eval, State.fieldNamed?, h1, h2, h4, h5, h6, h7]
    cases v <;> simp_all [Cond.before, Cond.holds, Cond.value, Value.isRef]
  rcases h.2 with hz | ⟨t, hz⟩
  · exact key _ rfl hz
  · exact key _ rfl hz
theorem z_Un_mv {sz : Nat} {O f d : String} {U V : State} (h : z_Lt sz U V) (hu : z_Un sz O f d U) : z_Un sz O f d V := by
  obtain ⟨hW, hsz, hk⟩ := h
  have hv := hW.alike
  have hz : va_Zq O f d (z_A sz) V V.heap := (hu.2.kept hk).moved hv
  refine ⟨?_, hz⟩
  have hl : (Cond.laysStatic O f d).before #[] (U.setVm V.vm) = true := Cond.before_shiftedFace (State.Shifted.of_warmed hW) _ rfl hu.1
  obtain ⟨c, k, i, fd, a, cell, a1, a2, a3, a4, a5, a6, a7, a8, a9⟩ := Cond.laysStatic_spec hl
  have b1 : V.vm.findClass O = some c := a1
  have b2 : V.fieldFound? O f d = some (c, k, i, fd) := a2
  have b5 : V.heap[a]? = some cell := by
    have hA : ¬ z_A sz a := by
      have : ∀ v : Value, va_Z O f d v (z_A sz) V V.heap → ¬ z_A sz a := by
        intro v hz
        obtain ⟨cf, kf, fi, fd2, a', cell', h1, h2, h3, h4, h5, h6, h7, h8⟩ := hz
        have e := b2.symm.trans h1
        simp only [Option.some.injEq, Prod.mk.injEq] at e
        obtain ⟨-, e2, -, -⟩ := e
        rw [← e2, a4] at h4
        rw [Option.some.inj h4]
        exact h8
      rcases hz with hz | ⟨t, hz⟩
      · exact this _ hz
      · exact this _ hz
    have a5' : U.heap[a]? = some cell := a5
    rw [hk a (Array.getElem?_eq_some_iff.mp a5').1 hA]
    exact a5'
  simp [Cond.before, Cond.holds, Cond.value, b1, b2, a4, b5, a3, a6, a7, a8, a9]
/-- words that need no heap -/
theorem z_onT {c : Cond} (hf : c.keepsFace = true) (ht : c.onTables = true) {U V : State} (hW : U.WarmedH V.vm) {args args' : Array Value} (h : c.before args U = true) : c.before args' V = true := by
  have h1 : c.before args (U.setVm V.vm) = true := Cond.before_shiftedFace (State.Shifted.of_warmed hW) _ hf h
  exact va_tabs ht (rfl : (U.setVm V.vm).vm = V.vm) h1
/-- all that a throw asks of the tables -/
def z_isT (c : Cond) : Bool := c.onTables || (match c with
  | .isRef (.static O f _) => decide (O = "java/lang/Throwable") && (decide (f = "UNASSIGNED_STACK") || decide (f = "SUPPRESSED_SENTINEL"))
  | .laysStatic O f _ => decide (O = "java/lang/Throwable") && (decide (f = "UNASSIGNED_STACK") || decide (f = "SUPPRESSED_SENTINEL"))
  | _ => false)
end
section
/-! PRINTED BY A PROGRAM OF MINE out of the Statement: the classes, the words, the methods of the plain machine. -/
def zF_0 : u_T := fun k => match k with
  | 0 => ("FiberWorks", "ready", "[B", true)
  | 1 => ("FiberWorks", "faults", "LFiberWorks$Faults;", true)
  | 2 => ("FiberWorks", "words", "LFiberWorks$Words;", true)
  | 3 => ("FiberWorks", "types", "LFiberWorks$Types;", true)
  | 4 => ("FiberWorks", "code", "LFiberWorks$Code;", true)
  | 5 => ("FiberWorks", "reader", "LFiberWorks$Reader;", true)
  | 6 => ("FiberWorks", "checker", "LFiberWorks$Checker;", true)
  | 7 => ("FiberWorks", "machine", "LFiberWorks$Machine;", true)
  | _ => ("FiberWorks", "hasProgram", "Z", false)
def zt_0 : Nat → FieldType := fun k => match k with
  | 0 => .array (.byte)
  | 1 => .object "FiberWorks$Faults"
  | 2 => .object "FiberWorks$Words"
  | 3 => .object "FiberWorks$Types"
  | 4 => .object "FiberWorks$Code"
  | 5 => .object "FiberWorks$Reader"
  | 6 => .object "FiberWorks$Checker"
  | 7 => .object "FiberWorks$Machine"
  | _ => .boolean
theorem zt_0_ok : ∀ k, k < 9 → parseFieldDescriptor (zF_0 k).2.2.1 = some (zt_0 k) := by decide +kernel
theorem zn_0 : ∀ a, a < 9 → ∀ b, b < 9 → a ≠ b → (zF_0 a).2.1 ≠ (zF_0 b).2.1 := by decide +kernel
def zF_1 : u_T := fun k => match k with
  | 0 => ("FiberWorks$Faults", "kind", "I", false)
  | _ => ("FiberWorks$Faults", "place", "I", false)
def zt_1 : Nat → FieldType := fun k => match k with
  | 0 => .int
  | _ => .int
theorem zt_1_ok : ∀ k, k < 2 → parseFieldDescriptor (zF_1 k).2.2.1 = some (zt_1 k) := by decide +kernel
theorem zn_1 : ∀ a, a < 2 → ∀ b, b < 2 → a ≠ b → (zF_1 a).2.1 ≠ (zF_1 b).2.1 := by decide +kernel
def zF_2 : u_T := fun k => match k with
  | 0 => ("FiberWorks$Words", "faults", "LFiberWorks$Faults;", true)
  | 1 => ("FiberWorks$Words", "text", "[B", true)
  | 2 => ("FiberWorks$Words", "length", "I", false)
  | 3 => ("FiberWorks$Words", "kinds", "[LFiberWorks$Word;", true)
  | 4 => ("FiberWorks$Words", "places", "[I", true)
  | 5 => ("FiberWorks$Words", "values", "[I", true)
  | 6 => ("FiberWorks$Words", "count", "I", false)
  | 7 => ("FiberWorks$Words", "current", "I", false)
  | 8 => ("FiberWorks$Words", "kind", "LFiberWorks$Word;", false)
  | 9 => ("FiberWorks$Words", "place", "I", false)
  | _ => ("FiberWorks$Words", "value", "I", false)
def zt_2 : Nat → FieldType := fun k => match k with
  | 0 => .object "FiberWorks$Faults"
  | 1 => .array (.byte)
  | 2 => .int
  | 3 => .array (.object "FiberWorks$Word")
  | 4 => .array (.int)
  | 5 => .array (.int)
  | 6 => .int
  | 7 => .int
  | 8 => .object "FiberWorks$Word"
  | 9 => .int
  | _ => .int
theorem zt_2_ok : ∀ k, k < 11 → parseFieldDescriptor (zF_2 k).2.2.1 = some (zt_2 k) := by decide +kernel
theorem zn_2 : ∀ a, a < 11 → ∀ b, b < 11 → a ≠ b → (zF_2 a).2.1 ≠ (zF_2 b).2.1 := by decide +kernel
def zF_3 : u_T := fun k => match k with
  | 0 => ("FiberWorks$Types", "argument", "[I", false)
  | 1 => ("FiberWorks$Types", "result", "[I", false)
  | 2 => ("FiberWorks$Types", "row", "[I", false)
  | 3 => ("FiberWorks$Types", "size", "[I", false)
  | _ => ("FiberWorks$Types", "count", "I", false)
def zt_3 : Nat → FieldType := fun k => match k with
  | 0 => .array (.int)
  | 1 => .array (.int)
  | 2 => .array (.int)
  | 3 => .array (.int)
  | _ => .int
theorem zt_3_ok : ∀ k, k < 5 → parseFieldDescriptor (zF_3 k).2.2.1 = some (zt_3 k) := by decide +kernel
theorem zn_3 : ∀ a, a < 5 → ∀ b, b < 5 → a ≠ b → (zF_3 a).2.1 ≠ (zF_3 b).2.1 := by decide +kernel
def zF_4 : u_T := fun k => match k with
  | 0 => ("FiberWorks$Code", "op", "[I", false)
  | 1 => ("FiberWorks$Code", "a", "[I", false)
  | 2 => ("FiberWorks$Code", "b", "[I", false)
  | 3 => ("FiberWorks$Code", "c", "[I", false)
  | 4 => ("FiberWorks$Code", "d", "[I", false)
  | 5 => ("FiberWorks$Code", "from", "[I", false)
  | 6 => ("FiberWorks$Code", "count", "I", false)
  | 7 => ("FiberWorks$Code", "nodes", "I", false)
  | 8 => ("FiberWorks$Code", "type", "I", false)
  | 9 => ("FiberWorks$Code", "effects", "I", false)
  | _ => ("FiberWorks$Code", "room", "I", false)
def zt_4 : Nat → FieldType := fun k => match k with
  | 0 => .array (.int)
  | 1 => .array (.int)
  | 2 => .array (.int)
  | 3 => .array (.int)
  | 4 => .array (.int)
  | 5 => .array (.int)
  | 6 => .int
  | 7 => .int
  | 8 => .int
  | 9 => .int
  | _ => .int
theorem zt_4_ok : ∀ k, k < 11 → parseFieldDescriptor (zF_4 k).2.2.1 = some (zt_4 k) := by decide +kernel
theorem zn_4 : ∀ a, a < 11 → ∀ b, b < 11 → a ≠ b → (zF_4 a).2.1 ≠ (zF_4 b).2.1 := by decide +kernel
def zF_5 : u_T := fun k => match k with
  | 0 => ("FiberWorks$Declarations", "name", "[I", true)
  | 1 => ("FiberWorks$Declarations", "argument", "[I", true)
  | 2 => ("FiberWorks$Declarations", "result", "[I", true)
  | _ => ("FiberWorks$Declarations", "count", "I", false)
def zt_5 : Nat → FieldType := fun k => match k with
  | 0 => .array (.int)
  | 1 => .array (.int)
  | 2 => .array (.int)
  | _ => .int
theorem zt_5_ok : ∀ k, k < 4 → parseFieldDescriptor (zF_5 k).2.2.1 = some (zt_5 k) := by decide +kernel
theorem zn_5 : ∀ a, a < 4 → ∀ b, b < 4 → a ≠ b → (zF_5 a).2.1 ≠ (zF_5 b).2.1 := by decide +kernel
def zF_6 : u_T := fun k => match k with
  | 0 => ("FiberWorks$Reader", "words", "LFiberWorks$Words;", true)
  | 1 => ("FiberWorks$Reader", "faults", "LFiberWorks$Faults;", true)
  | 2 => ("FiberWorks$Reader", "types", "LFiberWorks$Types;", true)
  | 3 => ("FiberWorks$Reader", "declared", "LFiberWorks$Declarations;", true)
  | 4 => ("FiberWorks$Reader", "code", "LFiberWorks$Code;", true)
  | 5 => ("FiberWorks$Reader", "waitingOp", "[I", true)
  | 6 => ("FiberWorks$Reader", "waitingFrom", "[I", true)
  | _ => ("FiberWorks$Reader", "waiting", "I", false)
def zt_6 : Nat → FieldType := fun k => match k with
  | 0 => .object "FiberWorks$Words"
  | 1 => .object "FiberWorks$Faults"
  | 2 => .object "FiberWorks$Types"
  | 3 => .object "FiberWorks$Declarations"
  | 4 => .object "FiberWorks$Code"
  | 5 => .array (.int)
  | 6 => .array (.int)
  | _ => .int
theorem zt_6_ok : ∀ k, k < 8 → parseFieldDescriptor (zF_6 k).2.2.1 = some (zt_6 k) := by decide +kernel
theorem zn_6 : ∀ a, a < 8 → ∀ b, b < 8 → a ≠ b → (zF_6 a).2.1 ≠ (zF_6 b).2.1 := by decide +kernel
def zF_7 : u_T := fun k => match k with
  | 0 => ("FiberWorks$Checker", "faults", "LFiberWorks$Faults;", true)
  | 1 => ("FiberWorks$Checker", "types", "LFiberWorks$Types;", true)
  | 2 => ("FiberWorks$Checker", "declared", "LFiberWorks$Declarations;", true)
  | 3 => ("FiberWorks$Checker", "code", "LFiberWorks$Code;", true)
  | 4 => ("FiberWorks$Checker", "heldType", "[I", true)
  | 5 => ("FiberWorks$Checker", "heldEffects", "[I", true)
  | 6 => ("FiberWorks$Checker", "heldFrom", "[I", true)
  | 7 => ("FiberWorks$Checker", "held", "I", false)
  | 8 => ("FiberWorks$Checker", "name", "[I", true)
  | 9 => ("FiberWorks$Checker", "nameType", "[I", true)
  | 10 => ("FiberWorks$Checker", "names", "I", false)
  | 11 => ("FiberWorks$Checker", "regionOpener", "[I", true)
  | 12 => ("FiberWorks$Checker", "regionFloor", "[I", true)
  | 13 => ("FiberWorks$Checker", "regionMost", "[I", true)
  | 14 => ("FiberWorks$Checker", "regionRow", "[I", true)
  | 15 => ("FiberWorks$Checker", "regionClauses", "[I", true)
  | _ => ("FiberWorks$Checker", "region", "I", false)
def zt_7 : Nat → FieldType := fun k => match k with
  | 0 => .object "FiberWorks$Faults"
  | 1 => .object "FiberWorks$Types"
  | 2 => .object "FiberWorks$Declarations"
  | 3 => .object "FiberWorks$Code"
  | 4 => .array (.int)
  | 5 => .array (.int)
  | 6 => .array (.int)
  | 7 => .int
  | 8 => .array (.int)
  | 9 => .array (.int)
  | 10 => .int
  | 11 => .array (.int)
  | 12 => .array (.int)
  | 13 => .array (.int)
  | 14 => .array (.int)
  | 15 => .array (.int)
  | _ => .int
theorem zt_7_ok : ∀ k, k < 17 → parseFieldDescriptor (zF_7 k).2.2.1 = some (zt_7 k) := by decide +kernel
theorem zn_7 : ∀ a, a < 17 → ∀ b, b < 17 → a ≠ b → (zF_7 a).2.1 ≠ (zF_7 b).2.1 := by decide +kernel
def zF_8 : u_T := fun k => match k with
  | 0 => ("FiberWorks$Machine", "code", "LFiberWorks$Code;", true)
  | 1 => ("FiberWorks$Machine", "stack", "[I", false)
  | 2 => ("FiberWorks$Machine", "top", "I", false)
  | 3 => ("FiberWorks$Machine", "base", "I", false)
  | 4 => ("FiberWorks$Machine", "records", "[I", false)
  | 5 => ("FiberWorks$Machine", "recorded", "I", false)
  | 6 => ("FiberWorks$Machine", "at", "I", false)
  | 7 => ("FiberWorks$Machine", "status", "I", false)
  | 8 => ("FiberWorks$Machine", "value", "I", false)
  | 9 => ("FiberWorks$Machine", "unhandled", "I", false)
  | 10 => ("FiberWorks$Machine", "fuel", "I", false)
  | 11 => ("FiberWorks$Machine", "things", "I", false)
  | _ => ("FiberWorks$Machine", "depth", "I", false)
def zt_8 : Nat → FieldType := fun k => match k with
  | 0 => .object "FiberWorks$Code"
  | 1 => .array (.int)
  | 2 => .int
  | 3 => .int
  | 4 => .array (.int)
  | 5 => .int
  | 6 => .int
  | 7 => .int
  | 8 => .int
  | 9 => .int
  | 10 => .int
  | 11 => .int
  | _ => .int
theorem zt_8_ok : ∀ k, k < 13 → parseFieldDescriptor (zF_8 k).2.2.1 = some (zt_8 k) := by decide +kernel
theorem zn_8 : ∀ a, a < 13 → ∀ b, b < 13 → a ≠ b → (zF_8 a).2.1 ≠ (zF_8 b).2.1 := by decide +kernel
def zF_9 : u_T := fun k => match k with
  | 0 => ("FiberWorksModel", "thrown", "I", false)
  | 1 => ("FiberWorksModel", "ready", "[I", true)
  | 2 => ("FiberWorksModel", "text", "[I", true)
  | 3 => ("FiberWorksModel", "source", "[I", true)
  | 4 => ("FiberWorksModel", "keys", "[I", true)
  | 5 => ("FiberWorksModel", "texted", "I", false)
  | 6 => ("FiberWorksModel", "size", "I", false)
  | 7 => ("FiberWorksModel", "word", "I", false)
  | 8 => ("FiberWorksModel", "at", "I", false)
  | 9 => ("FiberWorksModel", "wide", "I", false)
  | 10 => ("FiberWorksModel", "value", "I", false)
  | 11 => ("FiberWorksModel", "fault", "I", false)
  | 12 => ("FiberWorksModel", "place", "I", false)
  | 13 => ("FiberWorksModel", "types", "I", false)
  | 14 => ("FiberWorksModel", "takes", "[I", true)
  | 15 => ("FiberWorksModel", "gives", "[I", true)
  | 16 => ("FiberWorksModel", "rows", "[I", true)
  | 17 => ("FiberWorksModel", "pairs", "[I", true)
  | 18 => ("FiberWorksModel", "asked", "[J", true)
  | 19 => ("FiberWorksModel", "effects", "I", false)
  | 20 => ("FiberWorksModel", "effectAt", "[I", true)
  | 21 => ("FiberWorksModel", "effectWide", "[I", true)
  | 22 => ("FiberWorksModel", "effectTakes", "[I", true)
  | 23 => ("FiberWorksModel", "effectGives", "[I", true)
  | 24 => ("FiberWorksModel", "openTake", "[I", true)
  | 25 => ("FiberWorksModel", "openHas", "[Z", true)
  | 26 => ("FiberWorksModel", "nodes", "I", false)
  | 27 => ("FiberWorksModel", "clauses", "I", false)
  | 28 => ("FiberWorksModel", "root", "I", false)
  | 29 => ("FiberWorksModel", "kinds", "[I", true)
  | 30 => ("FiberWorksModel", "a", "[I", true)
  | 31 => ("FiberWorksModel", "b", "[I", true)
  | 32 => ("FiberWorksModel", "c", "[I", true)
  | 33 => ("FiberWorksModel", "aAt", "[I", true)
  | 34 => ("FiberWorksModel", "bAt", "[I", true)
  | 35 => ("FiberWorksModel", "cAt", "[I", true)
  | 36 => ("FiberWorksModel", "nameAt", "[I", true)
  | 37 => ("FiberWorksModel", "nameWide", "[I", true)
  | 38 => ("FiberWorksModel", "otherAt", "[I", true)
  | 39 => ("FiberWorksModel", "otherWide", "[I", true)
  | 40 => ("FiberWorksModel", "one", "[I", true)
  | 41 => ("FiberWorksModel", "two", "[I", true)
  | 42 => ("FiberWorksModel", "row", "[I", true)
  | 43 => ("FiberWorksModel", "clauseOf", "[I", true)
  | 44 => ("FiberWorksModel", "clauseAt", "[I", true)
  | 45 => ("FiberWorksModel", "firstAt", "[I", true)
  | 46 => ("FiberWorksModel", "firstWide", "[I", true)
  | 47 => ("FiberWorksModel", "secondAt", "[I", true)
  | 48 => ("FiberWorksModel", "secondWide", "[I", true)
  | 49 => ("FiberWorksModel", "clauseDoes", "[I", true)
  | 50 => ("FiberWorksModel", "clauseDoesAt", "[I", true)
  | 51 => ("FiberWorksModel", "clauseNext", "[I", true)
  | 52 => ("FiberWorksModel", "depth", "I", false)
  | 53 => ("FiberWorksModel", "mode", "I", false)
  | 54 => ("FiberWorksModel", "ended", "I", false)
  | 55 => ("FiberWorksModel", "endedAt", "I", false)
  | 56 => ("FiberWorksModel", "partOf", "[I", true)
  | 57 => ("FiberWorksModel", "which", "[I", true)
  | 58 => ("FiberWorksModel", "began", "[I", true)
  | 59 => ("FiberWorksModel", "bracket", "[I", true)
  | 60 => ("FiberWorksModel", "form", "[I", true)
  | 61 => ("FiberWorksModel", "compare", "[I", true)
  | 62 => ("FiberWorksModel", "compareLeft", "[I", true)
  | 63 => ("FiberWorksModel", "compareAt", "[I", true)
  | 64 => ("FiberWorksModel", "sum", "[I", true)
  | 65 => ("FiberWorksModel", "sumLeft", "[I", true)
  | 66 => ("FiberWorksModel", "sumAt", "[I", true)
  | 67 => ("FiberWorksModel", "term", "[I", true)
  | 68 => ("FiberWorksModel", "termAt", "[I", true)
  | 69 => ("FiberWorksModel", "call", "[I", true)
  | 70 => ("FiberWorksModel", "callAt", "[I", true)
  | 71 => ("FiberWorksModel", "performs", "[I", true)
  | 72 => ("FiberWorksModel", "closed", "[Z", true)
  | 73 => ("FiberWorksModel", "newPart", "I", false)
  | 74 => ("FiberWorksModel", "newWhich", "I", false)
  | 75 => ("FiberWorksModel", "newBracket", "I", false)
  | 76 => ("FiberWorksModel", "lastClause", "[I", true)
  | 77 => ("FiberWorksModel", "cells", "I", false)
  | 78 => ("FiberWorksModel", "cellName", "[I", true)
  | 79 => ("FiberWorksModel", "cellWide", "[I", true)
  | 80 => ("FiberWorksModel", "cellIs", "[I", true)
  | 81 => ("FiberWorksModel", "cellNext", "[I", true)
  | 82 => ("FiberWorksModel", "piled", "I", false)
  | 83 => ("FiberWorksModel", "pileNode", "[I", true)
  | 84 => ("FiberWorksModel", "pileStage", "[I", true)
  | 85 => ("FiberWorksModel", "pileNames", "[I", true)
  | 86 => ("FiberWorksModel", "pileClause", "[I", true)
  | 87 => ("FiberWorksModel", "is", "[I", true)
  | 88 => ("FiberWorksModel", "has", "[I", true)
  | 89 => ("FiberWorksModel", "answer", "[I", true)
  | 90 => ("FiberWorksModel", "handled", "[I", true)
  | 91 => ("FiberWorksModel", "isThere", "Z", false)
  | 92 => ("FiberWorksModel", "programType", "I", false)
  | 93 => ("FiberWorksModel", "programEffects", "I", false)
  | 94 => ("FiberWorksModel", "status", "I", false)
  | 95 => ("FiberWorksModel", "lengths", "[J", true)
  | 96 => ("FiberWorksModel", "high", "I", false)
  | 97 => ("FiberWorksModel", "away", "I", false)
  | 98 => ("FiberWorksModel", "fuel", "I", false)
  | 99 => ("FiberWorksModel", "things", "I", false)
  | 100 => ("FiberWorksModel", "deep", "I", false)
  | 101 => ("FiberWorksModel", "badEffect", "I", false)
  | 102 => ("FiberWorksModel", "current", "I", false)
  | 103 => ("FiberWorksModel", "currentNames", "I", false)
  | 104 => ("FiberWorksModel", "result", "I", false)
  | 105 => ("FiberWorksModel", "returns", "Z", false)
  | 106 => ("FiberWorksModel", "doWhat", "[I", true)
  | 107 => ("FiberWorksModel", "doNode", "[I", true)
  | 108 => ("FiberWorksModel", "doValue", "[I", true)
  | 109 => ("FiberWorksModel", "doNames", "[I", true)
  | 110 => ("FiberWorksModel", "awayWhat", "[I", true)
  | 111 => ("FiberWorksModel", "awayNode", "[I", true)
  | 112 => ("FiberWorksModel", "awayValue", "[I", true)
  | 113 => ("FiberWorksModel", "awayNames", "[I", true)
  | 114 => ("FiberWorksModel", "functions", "I", false)
  | 115 => ("FiberWorksModel", "functionNode", "[I", true)
  | 116 => ("FiberWorksModel", "functionNames", "[I", true)
  | 117 => ("FiberWorksModel", "pieceAt", "[I", true)
  | 118 => ("FiberWorksModel", "pieceMany", "[I", true)
  | 119 => ("FiberWorksModel", "pieceDeep", "[I", true)
  | 120 => ("FiberWorksModel", "used", "[Z", true)
  | 121 => ("FiberWorksModel", "marks", "[Z", true)
  | _ => ("FiberWorksModel", "free", "I", false)
def zt_9 : Nat → FieldType := fun k => match k with
  | 0 => .int
  | 1 => .array (.int)
  | 2 => .array (.int)
  | 3 => .array (.int)
  | 4 => .array (.int)
  | 5 => .int
  | 6 => .int
  | 7 => .int
  | 8 => .int
  | 9 => .int
  | 10 => .int
  | 11 => .int
  | 12 => .int
  | 13 => .int
  | 14 => .array (.int)
  | 15 => .array (.int)
  | 16 => .array (.int)
  | 17 => .array (.int)
  | 18 => .array (.long)
  | 19 => .int
  | 20 => .array (.int)
  | 21 => .array (.int)
  | 22 => .array (.int)
  | 23 => .array (.int)
  | 24 => .array (.int)
  | 25 => .array (.boolean)
  | 26 => .int
  | 27 => .int
  | 28 => .int
  | 29 => .array (.int)
  | 30 => .array (.int)
  | 31 => .array (.int)
  | 32 => .array (.int)
  | 33 => .array (.int)
  | 34 => .array (.int)
  | 35 => .array (.int)
  | 36 => .array (.int)
  | 37 => .array (.int)
  | 38 => .array (.int)
  | 39 => .array (.int)
  | 40 => .array (.int)
  | 41 => .array (.int)
  | 42 => .array (.int)
  | 43 => .array (.int)
  | 44 => .array (.int)
  | 45 => .array (.int)
  | 46 => .array (.int)
  | 47 => .array (.int)
  | 48 => .array (.int)
  | 49 => .array (.int)
  | 50 => .array (.int)
  | 51 => .array (.int)
  | 52 => .int
  | 53 => .int
  | 54 => .int
  | 55 => .int
  | 56 => .array (.int)
  | 57 => .array (.int)
  | 58 => .array (.int)
  | 59 => .array (.int)
  | 60 => .array (.int)
  | 61 => .array (.int)
  | 62 => .array (.int)
  | 63 => .array (.int)
  | 64 => .array (.int)
  | 65 => .array (.int)
  | 66 => .array (.int)
  | 67 => .array (.int)
  | 68 => .array (.int)
  | 69 => .array (.int)
  | 70 => .array (.int)
  | 71 => .array (.int)
  | 72 => .array (.boolean)
  | 73 => .int
  | 74 => .int
  | 75 => .int
  | 76 => .array (.int)
  | 77 => .int
  | 78 => .array (.int)
  | 79 => .array (.int)
  | 80 => .array (.int)
  | 81 => .array (.int)
  | 82 => .int
  | 83 => .array (.int)
  | 84 => .array (.int)
  | 85 => .array (.int)
  | 86 => .array (.int)
  | 87 => .array (.int)
  | 88 => .array (.int)
  | 89 => .array (.int)
  | 90 => .array (.int)
  | 91 => .boolean
  | 92 => .int
  | 93 => .int
  | 94 => .int
  | 95 => .array (.long)
  | 96 => .int
  | 97 => .int
  | 98 => .int
  | 99 => .int
  | 100 => .int
  | 101 => .int
  | 102 => .int
  | 103 => .int
  | 104 => .int
  | 105 => .boolean
  | 106 => .array (.int)
  | 107 => .array (.int)
  | 108 => .array (.int)
  | 109 => .array (.int)
  | 110 => .array (.int)
  | 111 => .array (.int)
  | 112 => .array (.int)
  | 113 => .array (.int)
  | 114 => .int
  | 115 => .array (.int)
  | 116 => .array (.int)
  | 117 => .array (.int)
  | 118 => .array (.int)
  | 119 => .array (.int)
  | 120 => .array (.boolean)
  | 121 => .array (.boolean)
  | _ => .int
theorem zt_9_ok : ∀ k, k < 123 → parseFieldDescriptor (zF_9 k).2.2.1 = some (zt_9 k) := by decide +kernel
theorem zn_9 : ∀ a, a < 123 → ∀ b, b < 123 → a ≠ b → (zF_9 a).2.1 ≠ (zF_9 b).2.1 := by decide +kernel
def zF_e : u_T := fun _ => ("", "", "", false)
def z_cl : List vw_C := [("FiberWorks", zF_0, 9), ("FiberWorks$Faults", zF_1, 2), ("FiberWorks$Words", zF_2, 11), ("FiberWorks$Types", zF_3, 5), ("FiberWorks$Code", zF_4, 11), ("FiberWorks$Declarations", zF_5, 4), ("FiberWorks$Reader", zF_6, 8), ("FiberWorks$Checker", zF_7, 17), ("FiberWorks$Machine", zF_8, 13), ("FiberWorksModel", zF_9, 123), ("java/lang/IllegalArgumentException", zF_e, 0), ("java/lang/IllegalStateException", zF_e, 0)]
def z_cN (ci : Nat) : Nat := match ci with
  | 0 => 9
  | 1 => 2
  | 2 => 11
  | 3 => 5
  | 4 => 11
  | 5 => 4
  | 6 => 8
  | 7 => 17
  | 8 => 13
  | 9 => 123
  | _ => 0
def z_fty (ci : Nat) : Nat → FieldType := match ci with
  | 0 => zt_0
  | 1 => zt_1
  | 2 => zt_2
  | 3 => zt_3
  | 4 => zt_4
  | 5 => zt_5
  | 6 => zt_6
  | 7 => zt_7
  | 8 => zt_8
  | 9 => zt_9
  | _ => fun _ => .int
def z_tyl : List FieldType := [.int, .byte, .boolean, .long, .object "FiberWorks$Word"]
def z_stl : List (String × String × String × Value) := [("FiberWorks$Word", "END_OF_TEXT", "LFiberWorks$Word;", .ref 0), ("FiberWorks$Word", "NO_WORD", "LFiberWorks$Word;", .ref 1), ("FiberWorks$Word", "NAME", "LFiberWorks$Word;", .ref 2), ("FiberWorks$Word", "EFFECT", "LFiberWorks$Word;", .ref 3), ("FiberWorks$Word", "NUMBER", "LFiberWorks$Word;", .ref 4), ("FiberWorks$Word", "OPEN", "LFiberWorks$Word;", .ref 5), ("FiberWorks$Word", "CLOSE", "LFiberWorks$Word;", .ref 6), ("FiberWorks$Word", "OPEN_ROW", "LFiberWorks$Word;", .ref 7), ("FiberWorks$Word", "CLOSE_ROW", "LFiberWorks$Word;", .ref 8), ("FiberWorks$Word", "COLON", "LFiberWorks$Word;", .ref 9), ("FiberWorks$Word", "SEMICOLON", "LFiberWorks$Word;", .ref 10), ("FiberWorks$Word", "COMMA", "LFiberWorks$Word;", .ref 11), ("FiberWorks$Word", "SAME", "LFiberWorks$Word;", .ref 12), ("FiberWorks$Word", "LESS", "LFiberWorks$Word;", .ref 13), ("FiberWorks$Word", "PLUS", "LFiberWorks$Word;", .ref 14), ("FiberWorks$Word", "MINUS", "LFiberWorks$Word;", .ref 15), ("FiberWorks$Word", "TIMES", "LFiberWorks$Word;", .ref 16), ("FiberWorks$Word", "PERFORM", "LFiberWorks$Word;", .ref 17), ("FiberWorks$Word", "BAR", "LFiberWorks$Word;", .ref 18), ("FiberWorks$Word", "ARROW", "LFiberWorks$Word;", .ref 19), ("FiberWorks$Word", "DECLARE", "LFiberWorks$Word;", .ref 20), ("FiberWorks$Word", "LET", "LFiberWorks$Word;", .ref 21), ("FiberWorks$Word", "REC", "LFiberWorks$Word;", .ref 22), ("FiberWorks$Word", "IN", "LFiberWorks$Word;", .ref 23), ("FiberWorks$Word", "IF", "LFiberWorks$Word;", .ref 24), ("FiberWorks$Word", "THEN", "LFiberWorks$Word;", .ref 25), ("FiberWorks$Word", "ELSE", "LFiberWorks$Word;", .ref 26), ("FiberWorks$Word", "FN", "LFiberWorks$Word;", .ref 27), ("FiberWorks$Word", "HANDLE", "LFiberWorks$Word;", .ref 28), ("FiberWorks$Word", "WITH", "LFiberWorks$Word;", .ref 29), ("FiberWorks$Word", "RETURN", "LFiberWorks$Word;", .ref 30), ("FiberWorks$Word", "END", "LFiberWorks$Word;", .ref 31), ("FiberWorks$Word", "TRUE", "LFiberWorks$Word;", .ref 32), ("FiberWorks$Word", "FALSE", "LFiberWorks$Word;", .ref 33), ("FiberWorks$Word", "INT", "LFiberWorks$Word;", .ref 34), ("FiberWorks$Word", "BOOL", "LFiberWorks$Word;", .ref 35), ("FiberWorks$Word", "UNIT", "LFiberWorks$Word;", .ref 36), ("FiberWorks$Words", "KINDS", "[LFiberWorks$Word;", .ref 37), ("FiberWorks$1", "$SwitchMap$FiberWorks$Word", "[I", .ref 38)]
def z_ws_0 : List Cond := [(Jvm.Cond.laysFinal "FiberWorks" "FiberWorks" "ready" "[B"), (Jvm.Cond.laysFinal "FiberWorks" "FiberWorks" "faults" "LFiberWorks$Faults;"), (Jvm.Cond.laysFinal "FiberWorks" "FiberWorks" "words" "LFiberWorks$Words;"), (Jvm.Cond.laysFinal "FiberWorks" "FiberWorks" "types" "LFiberWorks$Types;"), (Jvm.Cond.laysFinal "FiberWorks" "FiberWorks" "code" "LFiberWorks$Code;"), (Jvm.Cond.laysFinal "FiberWorks" "FiberWorks" "reader" "LFiberWorks$Reader;"), (Jvm.Cond.laysFinal "FiberWorks" "FiberWorks" "checker" "LFiberWorks$Checker;"), (Jvm.Cond.laysFinal "FiberWorks" "FiberWorks" "machine" "LFiberWorks$Machine;"), (Jvm.Cond.lays "FiberWorks" "FiberWorks" "hasProgram" "Z"), (Jvm.Cond.instantiable "FiberWorks" (9 : Nat)), (Jvm.Cond.initialized "FiberWorks"), (Jvm.Cond.lays "FiberWorks$Faults" "FiberWorks$Faults" "kind" "I"), (Jvm.Cond.lays "FiberWorks$Faults" "FiberWorks$Faults" "place" "I"), (Jvm.Cond.instantiable "FiberWorks$Faults" (2 : Nat)), (Jvm.Cond.initialized "FiberWorks$Faults"), (Jvm.Cond.laysFinal "FiberWorks$Words" "FiberWorks$Words" "faults" "LFiberWorks$Faults;"), (Jvm.Cond.laysFinal "FiberWorks$Words" "FiberWorks$Words" "text" "[B"), (Jvm.Cond.lays "FiberWorks$Words" "FiberWorks$Words" "length" "I"), (Jvm.Cond.laysFinal "FiberWorks$Words" "FiberWorks$Words" "kinds" "[LFiberWorks$Word;"), (Jvm.Cond.laysFinal "FiberWorks$Words" "FiberWorks$Words" "places" "[I"), (Jvm.Cond.laysFinal "FiberWorks$Words" "FiberWorks$Words" "values" "[I"), (Jvm.Cond.lays "FiberWorks$Words" "FiberWorks$Words" "count" "I"), (Jvm.Cond.lays "FiberWorks$Words" "FiberWorks$Words" "current" "I"), (Jvm.Cond.lays "FiberWorks$Words" "FiberWorks$Words" "kind" "LFiberWorks$Word;"), (Jvm.Cond.lays "FiberWorks$Words" "FiberWorks$Words" "place" "I"), (Jvm.Cond.lays "FiberWorks$Words" "FiberWorks$Words" "value" "I"), (Jvm.Cond.instantiable "FiberWorks$Words" (11 : Nat)), (Jvm.Cond.initialized "FiberWorks$Words"), (Jvm.Cond.lays "FiberWorks$Types" "FiberWorks$Types" "argument" "[I"), (Jvm.Cond.lays "FiberWorks$Types" "FiberWorks$Types" "result" "[I"), (Jvm.Cond.lays "FiberWorks$Types" "FiberWorks$Types" "row" "[I"), (Jvm.Cond.lays "FiberWorks$Types" "FiberWorks$Types" "size" "[I"), (Jvm.Cond.lays "FiberWorks$Types" "FiberWorks$Types" "count" "I"), (Jvm.Cond.instantiable "FiberWorks$Types" (5 : Nat)), (Jvm.Cond.initialized "FiberWorks$Types"), (Jvm.Cond.lays "FiberWorks$Code" "FiberWorks$Code" "op" "[I"), (Jvm.Cond.lays "FiberWorks$Code" "FiberWorks$Code" "a" "[I"), (Jvm.Cond.lays "FiberWorks$Code" "FiberWorks$Code" "b" "[I"), (Jvm.Cond.lays "FiberWorks$Code" "FiberWorks$Code" "c" "[I"), (Jvm.Cond.lays "FiberWorks$Code" "FiberWorks$Code" "d" "[I"), (Jvm.Cond.lays "FiberWorks$Code" "FiberWorks$Code" "from" "[I"), (Jvm.Cond.lays "FiberWorks$Code" "FiberWorks$Code" "count" "I"), (Jvm.Cond.lays "FiberWorks$Code" "FiberWorks$Code" "nodes" "I"), (Jvm.Cond.lays "FiberWorks$Code" "FiberWorks$Code" "type" "I"), (Jvm.Cond.lays "FiberWorks$Code" "FiberWorks$Code" "effects" "I"), (Jvm.Cond.lays "FiberWorks$Code" "FiberWorks$Code" "room" "I"), (Jvm.Cond.instantiable "FiberWorks$Code" (11 : Nat)), (Jvm.Cond.initialized "FiberWorks$Code"), (Jvm.Cond.laysFinal "FiberWorks$Declarations" "FiberWorks$Declarations" "name" "[I"), (Jvm.Cond.laysFinal "FiberWorks$Declarations" "FiberWorks$Declarations" "argument" "[I"), (Jvm.Cond.laysFinal "FiberWorks$Declarations" "FiberWorks$Declarations" "result" "[I"), (Jvm.Cond.lays "FiberWorks$Declarations" "FiberWorks$Declarations" "count" "I"), (Jvm.Cond.instantiable "FiberWorks$Declarations" (4 : Nat)), (Jvm.Cond.initialized "FiberWorks$Declarations"), (Jvm.Cond.laysFinal "FiberWorks$Reader" "FiberWorks$Reader" "words" "LFiberWorks$Words;"), (Jvm.Cond.laysFinal "FiberWorks$Reader" "FiberWorks$Reader" "faults" "LFiberWorks$Faults;"), (Jvm.Cond.laysFinal "FiberWorks$Reader" "FiberWorks$Reader" "types" "LFiberWorks$Types;"), (Jvm.Cond.laysFinal "FiberWorks$Reader" "FiberWorks$Reader" "declared" "LFiberWorks$Declarations;"), (Jvm.Cond.laysFinal "FiberWorks$Reader" "FiberWorks$Reader" "code" "LFiberWorks$Code;"), (Jvm.Cond.laysFinal "FiberWorks$Reader" "FiberWorks$Reader" "waitingOp" "[I")]
def z_ws_1 : List Cond := [(Jvm.Cond.laysFinal "FiberWorks$Reader" "FiberWorks$Reader" "waitingFrom" "[I"), (Jvm.Cond.lays "FiberWorks$Reader" "FiberWorks$Reader" "waiting" "I"), (Jvm.Cond.instantiable "FiberWorks$Reader" (8 : Nat)), (Jvm.Cond.initialized "FiberWorks$Reader"), (Jvm.Cond.laysFinal "FiberWorks$Checker" "FiberWorks$Checker" "faults" "LFiberWorks$Faults;"), (Jvm.Cond.laysFinal "FiberWorks$Checker" "FiberWorks$Checker" "types" "LFiberWorks$Types;"), (Jvm.Cond.laysFinal "FiberWorks$Checker" "FiberWorks$Checker" "declared" "LFiberWorks$Declarations;"), (Jvm.Cond.laysFinal "FiberWorks$Checker" "FiberWorks$Checker" "code" "LFiberWorks$Code;"), (Jvm.Cond.laysFinal "FiberWorks$Checker" "FiberWorks$Checker" "heldType" "[I"), (Jvm.Cond.laysFinal "FiberWorks$Checker" "FiberWorks$Checker" "heldEffects" "[I"), (Jvm.Cond.laysFinal "FiberWorks$Checker" "FiberWorks$Checker" "heldFrom" "[I"), (Jvm.Cond.lays "FiberWorks$Checker" "FiberWorks$Checker" "held" "I"), (Jvm.Cond.laysFinal "FiberWorks$Checker" "FiberWorks$Checker" "name" "[I"), (Jvm.Cond.laysFinal "FiberWorks$Checker" "FiberWorks$Checker" "nameType" "[I"), (Jvm.Cond.lays "FiberWorks$Checker" "FiberWorks$Checker" "names" "I"), (Jvm.Cond.laysFinal "FiberWorks$Checker" "FiberWorks$Checker" "regionOpener" "[I"), (Jvm.Cond.laysFinal "FiberWorks$Checker" "FiberWorks$Checker" "regionFloor" "[I"), (Jvm.Cond.laysFinal "FiberWorks$Checker" "FiberWorks$Checker" "regionMost" "[I"), (Jvm.Cond.laysFinal "FiberWorks$Checker" "FiberWorks$Checker" "regionRow" "[I"), (Jvm.Cond.laysFinal "FiberWorks$Checker" "FiberWorks$Checker" "regionClauses" "[I"), (Jvm.Cond.lays "FiberWorks$Checker" "FiberWorks$Checker" "region" "I"), (Jvm.Cond.instantiable "FiberWorks$Checker" (17 : Nat)), (Jvm.Cond.initialized "FiberWorks$Checker"), (Jvm.Cond.laysFinal "FiberWorks$Machine" "FiberWorks$Machine" "code" "LFiberWorks$Code;"), (Jvm.Cond.lays "FiberWorks$Machine" "FiberWorks$Machine" "stack" "[I"), (Jvm.Cond.lays "FiberWorks$Machine" "FiberWorks$Machine" "top" "I"), (Jvm.Cond.lays "FiberWorks$Machine" "FiberWorks$Machine" "base" "I"), (Jvm.Cond.lays "FiberWorks$Machine" "FiberWorks$Machine" "records" "[I"), (Jvm.Cond.lays "FiberWorks$Machine" "FiberWorks$Machine" "recorded" "I"), (Jvm.Cond.lays "FiberWorks$Machine" "FiberWorks$Machine" "at" "I"), (Jvm.Cond.lays "FiberWorks$Machine" "FiberWorks$Machine" "status" "I"), (Jvm.Cond.lays "FiberWorks$Machine" "FiberWorks$Machine" "value" "I"), (Jvm.Cond.lays "FiberWorks$Machine" "FiberWorks$Machine" "unhandled" "I"), (Jvm.Cond.lays "FiberWorks$Machine" "FiberWorks$Machine" "fuel" "I"), (Jvm.Cond.lays "FiberWorks$Machine" "FiberWorks$Machine" "things" "I"), (Jvm.Cond.lays "FiberWorks$Machine" "FiberWorks$Machine" "depth" "I"), (Jvm.Cond.instantiable "FiberWorks$Machine" (13 : Nat)), (Jvm.Cond.initialized "FiberWorks$Machine"), (Jvm.Cond.lays "FiberWorksModel" "FiberWorksModel" "thrown" "I"), (Jvm.Cond.laysFinal "FiberWorksModel" "FiberWorksModel" "ready" "[I"), (Jvm.Cond.laysFinal "FiberWorksModel" "FiberWorksModel" "text" "[I"), (Jvm.Cond.laysFinal "FiberWorksModel" "FiberWorksModel" "source" "[I"), (Jvm.Cond.laysFinal "FiberWorksModel" "FiberWorksModel" "keys" "[I"), (Jvm.Cond.lays "FiberWorksModel" "FiberWorksModel" "texted" "I"), (Jvm.Cond.lays "FiberWorksModel" "FiberWorksModel" "size" "I"), (Jvm.Cond.lays "FiberWorksModel" "FiberWorksModel" "word" "I"), (Jvm.Cond.lays "FiberWorksModel" "FiberWorksModel" "at" "I"), (Jvm.Cond.lays "FiberWorksModel" "FiberWorksModel" "wide" "I"), (Jvm.Cond.lays "FiberWorksModel" "FiberWorksModel" "value" "I"), (Jvm.Cond.lays "FiberWorksModel" "FiberWorksModel" "fault" "I"), (Jvm.Cond.lays "FiberWorksModel" "FiberWorksModel" "place" "I"), (Jvm.Cond.lays "FiberWorksModel" "FiberWorksModel" "types" "I"), (Jvm.Cond.laysFinal "FiberWorksModel" "FiberWorksModel" "takes" "[I"), (Jvm.Cond.laysFinal "FiberWorksModel" "FiberWorksModel" "gives" "[I"), (Jvm.Cond.laysFinal "FiberWorksModel" "FiberWorksModel" "rows" "[I"), (Jvm.Cond.laysFinal "FiberWorksModel" "FiberWorksModel" "pairs" "[I"), (Jvm.Cond.laysFinal "FiberWorksModel" "FiberWorksModel" "asked" "[J"), (Jvm.Cond.lays "FiberWorksModel" "FiberWorksModel" "effects" "I"), (Jvm.Cond.laysFinal "FiberWorksModel" "FiberWorksModel" "effectAt" "[I"), (Jvm.Cond.laysFinal "FiberWorksModel" "FiberWorksModel" "effectWide" "[I")]
def z_ws_2 : List Cond := [(Jvm.Cond.laysFinal "FiberWorksModel" "FiberWorksModel" "effectTakes" "[I"), (Jvm.Cond.laysFinal "FiberWorksModel" "FiberWorksModel" "effectGives" "[I"), (Jvm.Cond.laysFinal "FiberWorksModel" "FiberWorksModel" "openTake" "[I"), (Jvm.Cond.laysFinal "FiberWorksModel" "FiberWorksModel" "openHas" "[Z"), (Jvm.Cond.lays "FiberWorksModel" "FiberWorksModel" "nodes" "I"), (Jvm.Cond.lays "FiberWorksModel" "FiberWorksModel" "clauses" "I"), (Jvm.Cond.lays "FiberWorksModel" "FiberWorksModel" "root" "I"), (Jvm.Cond.laysFinal "FiberWorksModel" "FiberWorksModel" "kinds" "[I"), (Jvm.Cond.laysFinal "FiberWorksModel" "FiberWorksModel" "a" "[I"), (Jvm.Cond.laysFinal "FiberWorksModel" "FiberWorksModel" "b" "[I"), (Jvm.Cond.laysFinal "FiberWorksModel" "FiberWorksModel" "c" "[I"), (Jvm.Cond.laysFinal "FiberWorksModel" "FiberWorksModel" "aAt" "[I"), (Jvm.Cond.laysFinal "FiberWorksModel" "FiberWorksModel" "bAt" "[I"), (Jvm.Cond.laysFinal "FiberWorksModel" "FiberWorksModel" "cAt" "[I"), (Jvm.Cond.laysFinal "FiberWorksModel" "FiberWorksModel" "nameAt" "[I"), (Jvm.Cond.laysFinal "FiberWorksModel" "FiberWorksModel" "nameWide" "[I"), (Jvm.Cond.laysFinal "FiberWorksModel" "FiberWorksModel" "otherAt" "[I"), (Jvm.Cond.laysFinal "FiberWorksModel" "FiberWorksModel" "otherWide" "[I"), (Jvm.Cond.laysFinal "FiberWorksModel" "FiberWorksModel" "one" "[I"), (Jvm.Cond.laysFinal "FiberWorksModel" "FiberWorksModel" "two" "[I"), (Jvm.Cond.laysFinal "FiberWorksModel" "FiberWorksModel" "row" "[I"), (Jvm.Cond.laysFinal "FiberWorksModel" "FiberWorksModel" "clauseOf" "[I"), (Jvm.Cond.laysFinal "FiberWorksModel" "FiberWorksModel" "clauseAt" "[I"), (Jvm.Cond.laysFinal "FiberWorksModel" "FiberWorksModel" "firstAt" "[I"), (Jvm.Cond.laysFinal "FiberWorksModel" "FiberWorksModel" "firstWide" "[I"), (Jvm.Cond.laysFinal "FiberWorksModel" "FiberWorksModel" "secondAt" "[I"), (Jvm.Cond.laysFinal "FiberWorksModel" "FiberWorksModel" "secondWide" "[I"), (Jvm.Cond.laysFinal "FiberWorksModel" "FiberWorksModel" "clauseDoes" "[I"), (Jvm.Cond.laysFinal "FiberWorksModel" "FiberWorksModel" "clauseDoesAt" "[I"), (Jvm.Cond.laysFinal "FiberWorksModel" "FiberWorksModel" "clauseNext" "[I"), (Jvm.Cond.lays "FiberWorksModel" "FiberWorksModel" "depth" "I"), (Jvm.Cond.lays "FiberWorksModel" "FiberWorksModel" "mode" "I"), (Jvm.Cond.lays "FiberWorksModel" "FiberWorksModel" "ended" "I"), (Jvm.Cond.lays "FiberWorksModel" "FiberWorksModel" "endedAt" "I"), (Jvm.Cond.laysFinal "FiberWorksModel" "FiberWorksModel" "partOf" "[I"), (Jvm.Cond.laysFinal "FiberWorksModel" "FiberWorksModel" "which" "[I"), (Jvm.Cond.laysFinal "FiberWorksModel" "FiberWorksModel" "began" "[I"), (Jvm.Cond.laysFinal "FiberWorksModel" "FiberWorksModel" "bracket" "[I"), (Jvm.Cond.laysFinal "FiberWorksModel" "FiberWorksModel" "form" "[I"), (Jvm.Cond.laysFinal "FiberWorksModel" "FiberWorksModel" "compare" "[I"), (Jvm.Cond.laysFinal "FiberWorksModel" "FiberWorksModel" "compareLeft" "[I"), (Jvm.Cond.laysFinal "FiberWorksModel" "FiberWorksModel" "compareAt" "[I"), (Jvm.Cond.laysFinal "FiberWorksModel" "FiberWorksModel" "sum" "[I"), (Jvm.Cond.laysFinal "FiberWorksModel" "FiberWorksModel" "sumLeft" "[I"), (Jvm.Cond.laysFinal "FiberWorksModel" "FiberWorksModel" "sumAt" "[I"), (Jvm.Cond.laysFinal "FiberWorksModel" "FiberWorksModel" "term" "[I"), (Jvm.Cond.laysFinal "FiberWorksModel" "FiberWorksModel" "termAt" "[I"), (Jvm.Cond.laysFinal "FiberWorksModel" "FiberWorksModel" "call" "[I"), (Jvm.Cond.laysFinal "FiberWorksModel" "FiberWorksModel" "callAt" "[I"), (Jvm.Cond.laysFinal "FiberWorksModel" "FiberWorksModel" "performs" "[I"), (Jvm.Cond.laysFinal "FiberWorksModel" "FiberWorksModel" "closed" "[Z"), (Jvm.Cond.lays "FiberWorksModel" "FiberWorksModel" "newPart" "I"), (Jvm.Cond.lays "FiberWorksModel" "FiberWorksModel" "newWhich" "I"), (Jvm.Cond.lays "FiberWorksModel" "FiberWorksModel" "newBracket" "I"), (Jvm.Cond.laysFinal "FiberWorksModel" "FiberWorksModel" "lastClause" "[I"), (Jvm.Cond.lays "FiberWorksModel" "FiberWorksModel" "cells" "I"), (Jvm.Cond.laysFinal "FiberWorksModel" "FiberWorksModel" "cellName" "[I"), (Jvm.Cond.laysFinal "FiberWorksModel" "FiberWorksModel" "cellWide" "[I"), (Jvm.Cond.laysFinal "FiberWorksModel" "FiberWorksModel" "cellIs" "[I"), (Jvm.Cond.laysFinal "FiberWorksModel" "FiberWorksModel" "cellNext" "[I")]
def z_ws_3 : List Cond := [(Jvm.Cond.lays "FiberWorksModel" "FiberWorksModel" "piled" "I"), (Jvm.Cond.laysFinal "FiberWorksModel" "FiberWorksModel" "pileNode" "[I"), (Jvm.Cond.laysFinal "FiberWorksModel" "FiberWorksModel" "pileStage" "[I"), (Jvm.Cond.laysFinal "FiberWorksModel" "FiberWorksModel" "pileNames" "[I"), (Jvm.Cond.laysFinal "FiberWorksModel" "FiberWorksModel" "pileClause" "[I"), (Jvm.Cond.laysFinal "FiberWorksModel" "FiberWorksModel" "is" "[I"), (Jvm.Cond.laysFinal "FiberWorksModel" "FiberWorksModel" "has" "[I"), (Jvm.Cond.laysFinal "FiberWorksModel" "FiberWorksModel" "answer" "[I"), (Jvm.Cond.laysFinal "FiberWorksModel" "FiberWorksModel" "handled" "[I"), (Jvm.Cond.lays "FiberWorksModel" "FiberWorksModel" "isThere" "Z"), (Jvm.Cond.lays "FiberWorksModel" "FiberWorksModel" "programType" "I"), (Jvm.Cond.lays "FiberWorksModel" "FiberWorksModel" "programEffects" "I"), (Jvm.Cond.lays "FiberWorksModel" "FiberWorksModel" "status" "I"), (Jvm.Cond.laysFinal "FiberWorksModel" "FiberWorksModel" "lengths" "[J"), (Jvm.Cond.lays "FiberWorksModel" "FiberWorksModel" "high" "I"), (Jvm.Cond.lays "FiberWorksModel" "FiberWorksModel" "away" "I"), (Jvm.Cond.lays "FiberWorksModel" "FiberWorksModel" "fuel" "I"), (Jvm.Cond.lays "FiberWorksModel" "FiberWorksModel" "things" "I"), (Jvm.Cond.lays "FiberWorksModel" "FiberWorksModel" "deep" "I"), (Jvm.Cond.lays "FiberWorksModel" "FiberWorksModel" "badEffect" "I"), (Jvm.Cond.lays "FiberWorksModel" "FiberWorksModel" "current" "I"), (Jvm.Cond.lays "FiberWorksModel" "FiberWorksModel" "currentNames" "I"), (Jvm.Cond.lays "FiberWorksModel" "FiberWorksModel" "result" "I"), (Jvm.Cond.lays "FiberWorksModel" "FiberWorksModel" "returns" "Z"), (Jvm.Cond.laysFinal "FiberWorksModel" "FiberWorksModel" "doWhat" "[I"), (Jvm.Cond.laysFinal "FiberWorksModel" "FiberWorksModel" "doNode" "[I"), (Jvm.Cond.laysFinal "FiberWorksModel" "FiberWorksModel" "doValue" "[I"), (Jvm.Cond.laysFinal "FiberWorksModel" "FiberWorksModel" "doNames" "[I"), (Jvm.Cond.laysFinal "FiberWorksModel" "FiberWorksModel" "awayWhat" "[I"), (Jvm.Cond.laysFinal "FiberWorksModel" "FiberWorksModel" "awayNode" "[I"), (Jvm.Cond.laysFinal "FiberWorksModel" "FiberWorksModel" "awayValue" "[I"), (Jvm.Cond.laysFinal "FiberWorksModel" "FiberWorksModel" "awayNames" "[I"), (Jvm.Cond.lays "FiberWorksModel" "FiberWorksModel" "functions" "I"), (Jvm.Cond.laysFinal "FiberWorksModel" "FiberWorksModel" "functionNode" "[I"), (Jvm.Cond.laysFinal "FiberWorksModel" "FiberWorksModel" "functionNames" "[I"), (Jvm.Cond.laysFinal "FiberWorksModel" "FiberWorksModel" "pieceAt" "[I"), (Jvm.Cond.laysFinal "FiberWorksModel" "FiberWorksModel" "pieceMany" "[I"), (Jvm.Cond.laysFinal "FiberWorksModel" "FiberWorksModel" "pieceDeep" "[I"), (Jvm.Cond.laysFinal "FiberWorksModel" "FiberWorksModel" "used" "[Z"), (Jvm.Cond.laysFinal "FiberWorksModel" "FiberWorksModel" "marks" "[Z"), (Jvm.Cond.lays "FiberWorksModel" "FiberWorksModel" "free" "I"), (Jvm.Cond.instantiable "FiberWorksModel" (123 : Nat)), (Jvm.Cond.initialized "FiberWorksModel"), (Jvm.Cond.initialized "java/lang/IllegalArgumentException"), (Jvm.Cond.instantiable "java/lang/IllegalArgumentException" (6 : Nat)), (Jvm.Cond.initialized "java/lang/IllegalStateException"), (Jvm.Cond.instantiable "java/lang/IllegalStateException" (6 : Nat)), (Jvm.Cond.arrayClass Jvm.ClassFile.FieldType.int), (Jvm.Cond.arrayClass Jvm.ClassFile.FieldType.byte), (Jvm.Cond.arrayClass Jvm.ClassFile.FieldType.boolean), (Jvm.Cond.arrayClass Jvm.ClassFile.FieldType.long), (Jvm.Cond.instanceMethod ({ cls := "java/lang/Object", name := "<init>", desc := "()V" } : Jvm.MethodName)), (Jvm.Cond.sameMethod "FiberWorks$Word" "java/lang/Enum" "ordinal" "()I"), (Jvm.Cond.selects "FiberWorks$Word" ({ cls := "FiberWorks$Word", name := "ordinal", desc := "()I" } : Jvm.MethodName) ({ cls := "java/lang/Enum", name := "ordinal", desc := "()I" } : Jvm.MethodName)), (Jvm.Cond.instanceMethod ({ cls := "java/lang/Enum", name := "ordinal", desc := "()I" } : Jvm.MethodName)), (Jvm.Cond.initialized "java/lang/Enum"), (Jvm.Cond.fieldLink "java/lang/Enum" (7 : Nat) "java/lang/Enum" "ordinal" "I"), (Jvm.Cond.initialized "java/lang/System"), (Jvm.Cond.native ({ cls := "java/lang/System", name := "arraycopy", desc := "(Ljava/lang/Object;ILjava/lang/Object;II)V" } : Jvm.MethodName)), (Jvm.Cond.static ({ cls := "java/lang/System", name := "arraycopy", desc := "(Ljava/lang/Object;ILjava/lang/Object;II)V" } : Jvm.MethodName))]
def z_ws_4 : List Cond := [(Jvm.Cond.instanceMethod ({ cls := "FiberWorks", name := "<init>", desc := "()V" } : Jvm.MethodName)), (Jvm.Cond.instanceMethod ({ cls := "FiberWorks$Faults", name := "<init>", desc := "()V" } : Jvm.MethodName)), (Jvm.Cond.instanceMethod ({ cls := "FiberWorks$Faults", name := "clear", desc := "()V" } : Jvm.MethodName)), (Jvm.Cond.selects "FiberWorks$Faults" ({ cls := "FiberWorks$Faults", name := "clear", desc := "()V" } : Jvm.MethodName) ({ cls := "FiberWorks$Faults", name := "clear", desc := "()V" } : Jvm.MethodName)), (Jvm.Cond.instanceMethod ({ cls := "FiberWorks$Words", name := "<init>", desc := "(LFiberWorks$Faults;)V" } : Jvm.MethodName)), (Jvm.Cond.instanceMethod ({ cls := "FiberWorks$Types", name := "<init>", desc := "()V" } : Jvm.MethodName)), (Jvm.Cond.instanceMethod ({ cls := "FiberWorks$Types", name := "clear", desc := "()V" } : Jvm.MethodName)), (Jvm.Cond.selects "FiberWorks$Types" ({ cls := "FiberWorks$Types", name := "clear", desc := "()V" } : Jvm.MethodName) ({ cls := "FiberWorks$Types", name := "clear", desc := "()V" } : Jvm.MethodName)), (Jvm.Cond.instanceMethod ({ cls := "FiberWorks$Code", name := "<init>", desc := "()V" } : Jvm.MethodName)), (Jvm.Cond.instanceMethod ({ cls := "FiberWorks$Code", name := "clear", desc := "()V" } : Jvm.MethodName)), (Jvm.Cond.selects "FiberWorks$Code" ({ cls := "FiberWorks$Code", name := "clear", desc := "()V" } : Jvm.MethodName) ({ cls := "FiberWorks$Code", name := "clear", desc := "()V" } : Jvm.MethodName)), (Jvm.Cond.instanceMethod ({ cls := "FiberWorks$Declarations", name := "<init>", desc := "()V" } : Jvm.MethodName)), (Jvm.Cond.instanceMethod ({ cls := "FiberWorks$Reader", name := "<init>", desc := "(LFiberWorks$Words;LFiberWorks$Faults;LFiberWorks$Types;LFiberWorks$Declarations;LFiberWorks$Code;)V" } : Jvm.MethodName)), (Jvm.Cond.instanceMethod ({ cls := "FiberWorks$Checker", name := "<init>", desc := "(LFiberWorks$Faults;LFiberWorks$Types;LFiberWorks$Declarations;LFiberWorks$Code;)V" } : Jvm.MethodName)), (Jvm.Cond.instanceMethod ({ cls := "FiberWorks$Machine", name := "<init>", desc := "(LFiberWorks$Code;)V" } : Jvm.MethodName)), (Jvm.Cond.instanceMethod ({ cls := "FiberWorks$Machine", name := "clear", desc := "()V" } : Jvm.MethodName)), (Jvm.Cond.selects "FiberWorks$Machine" ({ cls := "FiberWorks$Machine", name := "clear", desc := "()V" } : Jvm.MethodName) ({ cls := "FiberWorks$Machine", name := "clear", desc := "()V" } : Jvm.MethodName)), (Jvm.Cond.instanceMethod ({ cls := "FiberWorks", name := "feed", desc := "(IIIII)V" } : Jvm.MethodName)), (Jvm.Cond.selects "FiberWorks" ({ cls := "FiberWorks", name := "feed", desc := "(IIIII)V" } : Jvm.MethodName) ({ cls := "FiberWorks", name := "feed", desc := "(IIIII)V" } : Jvm.MethodName)), (Jvm.Cond.instanceMethod ({ cls := "FiberWorks", name := "putReady", desc := "(II)V" } : Jvm.MethodName)), (Cond.selects "FiberWorks" ⟨"FiberWorks", "putReady", "(II)V"⟩ ⟨"FiberWorks", "putReady", "(II)V"⟩), (Jvm.Cond.instanceMethod ({ cls := "FiberWorks", name := "end", desc := "(I)I" } : Jvm.MethodName)), (Jvm.Cond.selects "FiberWorks" ({ cls := "FiberWorks", name := "end", desc := "(I)I" } : Jvm.MethodName) ({ cls := "FiberWorks", name := "end", desc := "(I)I" } : Jvm.MethodName)), (Jvm.Cond.instanceMethod ({ cls := "FiberWorks$Words", name := "append", desc := "([BI)V" } : Jvm.MethodName)), (Jvm.Cond.selects "FiberWorks$Words" ({ cls := "FiberWorks$Words", name := "append", desc := "([BI)V" } : Jvm.MethodName) ({ cls := "FiberWorks$Words", name := "append", desc := "([BI)V" } : Jvm.MethodName)), (Jvm.Cond.initialized "java/util/Arrays"), (Jvm.Cond.static ({ cls := "java/util/Arrays", name := "fill", desc := "([BB)V" } : Jvm.MethodName)), (Jvm.Cond.instanceMethod ({ cls := "FiberWorks", name := "fault", desc := "(I)I" } : Jvm.MethodName)), (Jvm.Cond.selects "FiberWorks" ({ cls := "FiberWorks", name := "fault", desc := "(I)I" } : Jvm.MethodName) ({ cls := "FiberWorks", name := "fault", desc := "(I)I" } : Jvm.MethodName)), (Jvm.Cond.instanceMethod ({ cls := "FiberWorks", name := "type", desc := "(I)I" } : Jvm.MethodName)), (Jvm.Cond.selects "FiberWorks" ({ cls := "FiberWorks", name := "type", desc := "(I)I" } : Jvm.MethodName) ({ cls := "FiberWorks", name := "type", desc := "(I)I" } : Jvm.MethodName)), (Jvm.Cond.instanceMethod ({ cls := "FiberWorks", name := "programNode", desc := "(I)I" } : Jvm.MethodName)), (Cond.selects "FiberWorks" ⟨"FiberWorks", "programNode", "(I)I"⟩ ⟨"FiberWorks", "programNode", "(I)I"⟩), (Jvm.Cond.instanceMethod ({ cls := "FiberWorks", name := "effects", desc := "(I)I" } : Jvm.MethodName)), (Jvm.Cond.selects "FiberWorks" ({ cls := "FiberWorks", name := "effects", desc := "(I)I" } : Jvm.MethodName) ({ cls := "FiberWorks", name := "effects", desc := "(I)I" } : Jvm.MethodName)), (Jvm.Cond.instanceMethod ({ cls := "FiberWorks", name := "state", desc := "(I)I" } : Jvm.MethodName)), (Jvm.Cond.selects "FiberWorks" ({ cls := "FiberWorks", name := "state", desc := "(I)I" } : Jvm.MethodName) ({ cls := "FiberWorks", name := "state", desc := "(I)I" } : Jvm.MethodName)), (Jvm.Cond.initialized "FiberWorksLaw"), (Jvm.Cond.static ({ cls := "FiberWorksLaw", name := "read", desc := "(LFiberWorks;[J)I" } : Jvm.MethodName)), (Jvm.Cond.instanceMethod ({ cls := "FiberWorks", name := "read", desc := "()I" } : Jvm.MethodName)), (Jvm.Cond.selects "FiberWorks" ({ cls := "FiberWorks", name := "read", desc := "()I" } : Jvm.MethodName) ({ cls := "FiberWorks", name := "read", desc := "()I" } : Jvm.MethodName)), (Jvm.Cond.instanceMethod ({ cls := "FiberWorks$Words", name := "split", desc := "()V" } : Jvm.MethodName)), (Jvm.Cond.selects "FiberWorks$Words" ({ cls := "FiberWorks$Words", name := "split", desc := "()V" } : Jvm.MethodName) ({ cls := "FiberWorks$Words", name := "split", desc := "()V" } : Jvm.MethodName)), (Jvm.Cond.instanceMethod ({ cls := "FiberWorks", name := "isProgram", desc := "()Z" } : Jvm.MethodName)), (Cond.selects "FiberWorks" ⟨"FiberWorks", "isProgram", "()Z"⟩ ⟨"FiberWorks", "isProgram", "()Z"⟩), (Jvm.Cond.instanceMethod ({ cls := "FiberWorks$Reader", name := "readProgram", desc := "()V" } : Jvm.MethodName)), (Jvm.Cond.selects "FiberWorks$Reader" ({ cls := "FiberWorks$Reader", name := "readProgram", desc := "()V" } : Jvm.MethodName) ({ cls := "FiberWorks$Reader", name := "readProgram", desc := "()V" } : Jvm.MethodName)), (Jvm.Cond.instanceMethod ({ cls := "FiberWorks$Words", name := "toFirst", desc := "()V" } : Jvm.MethodName)), (Jvm.Cond.selects "FiberWorks$Words" ({ cls := "FiberWorks$Words", name := "toFirst", desc := "()V" } : Jvm.MethodName) ({ cls := "FiberWorks$Words", name := "toFirst", desc := "()V" } : Jvm.MethodName)), (Jvm.Cond.instanceMethod ({ cls := "FiberWorks$Words", name := "toNext", desc := "()V" } : Jvm.MethodName)), (Jvm.Cond.selects "FiberWorks$Words" ({ cls := "FiberWorks$Words", name := "toNext", desc := "()V" } : Jvm.MethodName) ({ cls := "FiberWorks$Words", name := "toNext", desc := "()V" } : Jvm.MethodName)), (Jvm.Cond.instanceMethod ({ cls := "FiberWorks$Faults", name := "refuse", desc := "(II)V" } : Jvm.MethodName)), (Jvm.Cond.selects "FiberWorks$Faults" ({ cls := "FiberWorks$Faults", name := "refuse", desc := "(II)V" } : Jvm.MethodName) ({ cls := "FiberWorks$Faults", name := "refuse", desc := "(II)V" } : Jvm.MethodName)), (Jvm.Cond.instanceMethod ({ cls := "FiberWorks$Reader", name := "refuseWord", desc := "()V" } : Jvm.MethodName)), (Cond.selects "FiberWorks$Reader" ⟨"FiberWorks$Reader", "refuseWord", "()V"⟩ ⟨"FiberWorks$Reader", "refuseWord", "()V"⟩), (Jvm.Cond.instanceMethod ({ cls := "FiberWorks$Reader", name := "expr", desc := "(I)V" } : Jvm.MethodName)), (Cond.selects "FiberWorks$Reader" ⟨"FiberWorks$Reader", "expr", "(I)V"⟩ ⟨"FiberWorks$Reader", "expr", "(I)V"⟩), (Jvm.Cond.instanceMethod ({ cls := "FiberWorks$Reader", name := "operation", desc := "(I)V" } : Jvm.MethodName)), (Cond.selects "FiberWorks$Reader" ⟨"FiberWorks$Reader", "operation", "(I)V"⟩ ⟨"FiberWorks$Reader", "operation", "(I)V"⟩), (Jvm.Cond.instanceMethod ({ cls := "FiberWorks$Reader", name := "call", desc := "(I)V" } : Jvm.MethodName))]
def z_ws_5 : List Cond := [(Cond.selects "FiberWorks$Reader" ⟨"FiberWorks$Reader", "call", "(I)V"⟩ ⟨"FiberWorks$Reader", "call", "(I)V"⟩), (Jvm.Cond.instanceMethod ({ cls := "FiberWorks$Reader", name := "atom", desc := "(I)V" } : Jvm.MethodName)), (Cond.selects "FiberWorks$Reader" ⟨"FiberWorks$Reader", "atom", "(I)V"⟩ ⟨"FiberWorks$Reader", "atom", "(I)V"⟩), (Jvm.Cond.instanceMethod ({ cls := "FiberWorks$Words", name := "clear", desc := "()V" } : Jvm.MethodName)), (Jvm.Cond.selects "FiberWorks$Words" ({ cls := "FiberWorks$Words", name := "clear", desc := "()V" } : Jvm.MethodName) ({ cls := "FiberWorks$Words", name := "clear", desc := "()V" } : Jvm.MethodName)), (Jvm.Cond.static ({ cls := "FiberWorksLaw", name := "start", desc := "(LFiberWorks;)I" } : Jvm.MethodName)), (Jvm.Cond.instanceMethod ({ cls := "FiberWorks", name := "start", desc := "()V" } : Jvm.MethodName)), (Jvm.Cond.selects "FiberWorks" ({ cls := "FiberWorks", name := "start", desc := "()V" } : Jvm.MethodName) ({ cls := "FiberWorks", name := "start", desc := "()V" } : Jvm.MethodName)), (Jvm.Cond.static ({ cls := "FiberWorksLaw", name := "run", desc := "(LFiberWorks;I[J)I" } : Jvm.MethodName)), (Jvm.Cond.instanceMethod ({ cls := "FiberWorks", name := "run", desc := "(I)I" } : Jvm.MethodName)), (Jvm.Cond.selects "FiberWorks" ({ cls := "FiberWorks", name := "run", desc := "(I)I" } : Jvm.MethodName) ({ cls := "FiberWorks", name := "run", desc := "(I)I" } : Jvm.MethodName)), (Jvm.Cond.instanceMethod ({ cls := "FiberWorksModel", name := "<init>", desc := "()V" } : Jvm.MethodName)), (Jvm.Cond.instanceMethod ({ cls := "FiberWorksModel", name := "thrown", desc := "()I" } : Jvm.MethodName)), (Jvm.Cond.selects "FiberWorksModel" ({ cls := "FiberWorksModel", name := "thrown", desc := "()I" } : Jvm.MethodName) ({ cls := "FiberWorksModel", name := "thrown", desc := "()I" } : Jvm.MethodName)), (Jvm.Cond.instanceMethod ({ cls := "FiberWorksModel", name := "feed", desc := "(IIIII)V" } : Jvm.MethodName)), (Jvm.Cond.selects "FiberWorksModel" ({ cls := "FiberWorksModel", name := "feed", desc := "(IIIII)V" } : Jvm.MethodName) ({ cls := "FiberWorksModel", name := "feed", desc := "(IIIII)V" } : Jvm.MethodName)), (Jvm.Cond.instanceMethod ({ cls := "FiberWorksModel", name := "end", desc := "(I)I" } : Jvm.MethodName)), (Jvm.Cond.selects "FiberWorksModel" ({ cls := "FiberWorksModel", name := "end", desc := "(I)I" } : Jvm.MethodName) ({ cls := "FiberWorksModel", name := "end", desc := "(I)I" } : Jvm.MethodName)), (Jvm.Cond.instanceMethod ({ cls := "FiberWorksModel", name := "read", desc := "()I" } : Jvm.MethodName)), (Jvm.Cond.selects "FiberWorksModel" ({ cls := "FiberWorksModel", name := "read", desc := "()I" } : Jvm.MethodName) ({ cls := "FiberWorksModel", name := "read", desc := "()I" } : Jvm.MethodName)), (Jvm.Cond.instanceMethod ({ cls := "FiberWorksModel", name := "clearRun", desc := "()V" } : Jvm.MethodName)), (Cond.selects "FiberWorksModel" ⟨"FiberWorksModel", "clearRun", "()V"⟩ ⟨"FiberWorksModel", "clearRun", "()V"⟩), (Jvm.Cond.instanceMethod ({ cls := "FiberWorksModel", name := "readAll", desc := "()V" } : Jvm.MethodName)), (Cond.selects "FiberWorksModel" ⟨"FiberWorksModel", "readAll", "()V"⟩ ⟨"FiberWorksModel", "readAll", "()V"⟩), (Jvm.Cond.instanceMethod ({ cls := "FiberWorksModel", name := "next", desc := "()V" } : Jvm.MethodName)), (Cond.selects "FiberWorksModel" ⟨"FiberWorksModel", "next", "()V"⟩ ⟨"FiberWorksModel", "next", "()V"⟩), (Jvm.Cond.instanceMethod ({ cls := "FiberWorksModel", name := "byteAt", desc := "(I)I" } : Jvm.MethodName)), (Cond.selects "FiberWorksModel" ⟨"FiberWorksModel", "byteAt", "(I)I"⟩ ⟨"FiberWorksModel", "byteAt", "(I)I"⟩), (Jvm.Cond.instanceMethod ({ cls := "FiberWorksModel", name := "look", desc := "()V" } : Jvm.MethodName)), (Cond.selects "FiberWorksModel" ⟨"FiberWorksModel", "look", "()V"⟩ ⟨"FiberWorksModel", "look", "()V"⟩), (Jvm.Cond.instanceMethod ({ cls := "FiberWorksModel", name := "wrong", desc := "(II)V" } : Jvm.MethodName)), (Cond.selects "FiberWorksModel" ⟨"FiberWorksModel", "wrong", "(II)V"⟩ ⟨"FiberWorksModel", "wrong", "(II)V"⟩), (Jvm.Cond.instanceMethod ({ cls := "FiberWorksModel", name := "bad", desc := "()V" } : Jvm.MethodName)), (Cond.selects "FiberWorksModel" ⟨"FiberWorksModel", "bad", "()V"⟩ ⟨"FiberWorksModel", "bad", "()V"⟩), (Jvm.Cond.instanceMethod ({ cls := "FiberWorksModel", name := "ask", desc := "(II)V" } : Jvm.MethodName)), (Cond.selects "FiberWorksModel" ⟨"FiberWorksModel", "ask", "(II)V"⟩ ⟨"FiberWorksModel", "ask", "(II)V"⟩), (Jvm.Cond.instanceMethod ({ cls := "FiberWorksModel", name := "begin", desc := "()V" } : Jvm.MethodName)), (Cond.selects "FiberWorksModel" ⟨"FiberWorksModel", "begin", "()V"⟩ ⟨"FiberWorksModel", "begin", "()V"⟩), (Jvm.Cond.instanceMethod ({ cls := "FiberWorksModel", name := "want", desc := "(I)V" } : Jvm.MethodName)), (Cond.selects "FiberWorksModel" ⟨"FiberWorksModel", "want", "(I)V"⟩ ⟨"FiberWorksModel", "want", "(I)V"⟩), (Jvm.Cond.instanceMethod ({ cls := "FiberWorksModel", name := "fault", desc := "(I)I" } : Jvm.MethodName)), (Jvm.Cond.selects "FiberWorksModel" ({ cls := "FiberWorksModel", name := "fault", desc := "(I)I" } : Jvm.MethodName) ({ cls := "FiberWorksModel", name := "fault", desc := "(I)I" } : Jvm.MethodName)), (Jvm.Cond.instanceMethod ({ cls := "FiberWorksModel", name := "type", desc := "(I)I" } : Jvm.MethodName)), (Jvm.Cond.selects "FiberWorksModel" ({ cls := "FiberWorksModel", name := "type", desc := "(I)I" } : Jvm.MethodName) ({ cls := "FiberWorksModel", name := "type", desc := "(I)I" } : Jvm.MethodName)), (Jvm.Cond.instanceMethod ({ cls := "FiberWorksModel", name := "typeAt", desc := "(I)I" } : Jvm.MethodName)), (Cond.selects "FiberWorksModel" ⟨"FiberWorksModel", "typeAt", "(I)I"⟩ ⟨"FiberWorksModel", "typeAt", "(I)I"⟩), (Jvm.Cond.instanceMethod ({ cls := "FiberWorksModel", name := "effects", desc := "(I)I" } : Jvm.MethodName)), (Jvm.Cond.selects "FiberWorksModel" ({ cls := "FiberWorksModel", name := "effects", desc := "(I)I" } : Jvm.MethodName) ({ cls := "FiberWorksModel", name := "effects", desc := "(I)I" } : Jvm.MethodName)), (Jvm.Cond.instanceMethod ({ cls := "FiberWorksModel", name := "start", desc := "()V" } : Jvm.MethodName)), (Jvm.Cond.selects "FiberWorksModel" ({ cls := "FiberWorksModel", name := "start", desc := "()V" } : Jvm.MethodName) ({ cls := "FiberWorksModel", name := "start", desc := "()V" } : Jvm.MethodName)), (Jvm.Cond.instanceMethod ({ cls := "FiberWorksModel", name := "run", desc := "(I)I" } : Jvm.MethodName)), (Jvm.Cond.selects "FiberWorksModel" ({ cls := "FiberWorksModel", name := "run", desc := "(I)I" } : Jvm.MethodName) ({ cls := "FiberWorksModel", name := "run", desc := "(I)I" } : Jvm.MethodName)), (Jvm.Cond.instanceMethod ({ cls := "FiberWorksModel", name := "state", desc := "(I)I" } : Jvm.MethodName)), (Jvm.Cond.selects "FiberWorksModel" ({ cls := "FiberWorksModel", name := "state", desc := "(I)I" } : Jvm.MethodName) ({ cls := "FiberWorksModel", name := "state", desc := "(I)I" } : Jvm.MethodName)), (Jvm.Cond.classLink "FiberWorksLaw" (13 : Nat) "java/lang/IllegalArgumentException"), (Jvm.Cond.classLink "FiberWorks" (107 : Nat) "java/lang/IllegalArgumentException"), (Jvm.Cond.classLink "FiberWorksLaw" (18 : Nat) "java/lang/IllegalStateException"), (Jvm.Cond.classLink "FiberWorksLaw" (8 : Nat) "FiberWorks"), (Jvm.Cond.methodLink "FiberWorksLaw" (24 : Nat) ({ cls := "FiberWorks", name := "<init>", desc := "()V" } : Jvm.MethodName)), (Jvm.Cond.classLink "FiberWorksLaw" (25 : Nat) "FiberWorksModel")]
def z_ws_6 : List Cond := [(Jvm.Cond.methodLink "FiberWorksLaw" (27 : Nat) ({ cls := "FiberWorksModel", name := "<init>", desc := "()V" } : Jvm.MethodName)), (Jvm.Cond.methodLink "FiberWorksLaw" (28 : Nat) ({ cls := "FiberWorks", name := "feed", desc := "(IIIII)V" } : Jvm.MethodName)), (Jvm.Cond.methodLink "FiberWorksLaw" (32 : Nat) ({ cls := "FiberWorksModel", name := "feed", desc := "(IIIII)V" } : Jvm.MethodName)), (Jvm.Cond.methodLink "FiberWorksLaw" (33 : Nat) ({ cls := "FiberWorks", name := "end", desc := "(I)I" } : Jvm.MethodName)), (Jvm.Cond.methodLink "FiberWorksLaw" (36 : Nat) ({ cls := "FiberWorksModel", name := "end", desc := "(I)I" } : Jvm.MethodName)), (Jvm.Cond.methodLink "FiberWorksLaw" (37 : Nat) ({ cls := "FiberWorksLaw", name := "read", desc := "(LFiberWorks;[J)I" } : Jvm.MethodName)), (Jvm.Cond.methodLink "FiberWorksLaw" (42 : Nat) ({ cls := "FiberWorksModel", name := "read", desc := "()I" } : Jvm.MethodName)), (Jvm.Cond.methodLink "FiberWorksLaw" (43 : Nat) ({ cls := "FiberWorksModel", name := "thrown", desc := "()I" } : Jvm.MethodName)), (Jvm.Cond.methodLink "FiberWorksLaw" (46 : Nat) ({ cls := "FiberWorks", name := "fault", desc := "(I)I" } : Jvm.MethodName)), (Jvm.Cond.methodLink "FiberWorksLaw" (49 : Nat) ({ cls := "FiberWorksModel", name := "fault", desc := "(I)I" } : Jvm.MethodName)), (Jvm.Cond.methodLink "FiberWorksLaw" (50 : Nat) ({ cls := "FiberWorks", name := "type", desc := "(I)I" } : Jvm.MethodName)), (Jvm.Cond.methodLink "FiberWorksLaw" (53 : Nat) ({ cls := "FiberWorksModel", name := "type", desc := "(I)I" } : Jvm.MethodName)), (Jvm.Cond.methodLink "FiberWorksLaw" (54 : Nat) ({ cls := "FiberWorks", name := "effects", desc := "(I)I" } : Jvm.MethodName)), (Jvm.Cond.methodLink "FiberWorksLaw" (57 : Nat) ({ cls := "FiberWorksModel", name := "effects", desc := "(I)I" } : Jvm.MethodName)), (Jvm.Cond.methodLink "FiberWorksLaw" (58 : Nat) ({ cls := "FiberWorksLaw", name := "start", desc := "(LFiberWorks;)I" } : Jvm.MethodName)), (Jvm.Cond.methodLink "FiberWorksLaw" (61 : Nat) ({ cls := "FiberWorksModel", name := "start", desc := "()V" } : Jvm.MethodName)), (Jvm.Cond.methodLink "FiberWorksLaw" (62 : Nat) ({ cls := "FiberWorksLaw", name := "run", desc := "(LFiberWorks;I[J)I" } : Jvm.MethodName)), (Jvm.Cond.methodLink "FiberWorksLaw" (65 : Nat) ({ cls := "FiberWorksModel", name := "run", desc := "(I)I" } : Jvm.MethodName)), (Jvm.Cond.methodLink "FiberWorksLaw" (66 : Nat) ({ cls := "FiberWorks", name := "state", desc := "(I)I" } : Jvm.MethodName)), (Jvm.Cond.methodLink "FiberWorksLaw" (69 : Nat) ({ cls := "FiberWorksModel", name := "state", desc := "(I)I" } : Jvm.MethodName)), (Jvm.Cond.methodLink "FiberWorks" (1 : Nat) ({ cls := "java/lang/Object", name := "<init>", desc := "()V" } : Jvm.MethodName)), (Jvm.Cond.fieldLink "FiberWorks" (9 : Nat) "FiberWorks" "ready" "[B"), (Jvm.Cond.classLink "FiberWorks" (13 : Nat) "FiberWorks$Faults"), (Jvm.Cond.methodLink "FiberWorks" (15 : Nat) ({ cls := "FiberWorks$Faults", name := "<init>", desc := "()V" } : Jvm.MethodName)), (Jvm.Cond.fieldLink "FiberWorks" (16 : Nat) "FiberWorks" "faults" "LFiberWorks$Faults;"), (Jvm.Cond.classLink "FiberWorks" (20 : Nat) "FiberWorks$Words"), (Jvm.Cond.methodLink "FiberWorks" (22 : Nat) ({ cls := "FiberWorks$Words", name := "<init>", desc := "(LFiberWorks$Faults;)V" } : Jvm.MethodName)), (Jvm.Cond.fieldLink "FiberWorks" (25 : Nat) "FiberWorks" "words" "LFiberWorks$Words;"), (Jvm.Cond.classLink "FiberWorks" (29 : Nat) "FiberWorks$Types"), (Jvm.Cond.methodLink "FiberWorks" (31 : Nat) ({ cls := "FiberWorks$Types", name := "<init>", desc := "()V" } : Jvm.MethodName)), (Jvm.Cond.fieldLink "FiberWorks" (32 : Nat) "FiberWorks" "types" "LFiberWorks$Types;"), (Jvm.Cond.classLink "FiberWorks" (36 : Nat) "FiberWorks$Code"), (Jvm.Cond.methodLink "FiberWorks" (38 : Nat) ({ cls := "FiberWorks$Code", name := "<init>", desc := "()V" } : Jvm.MethodName)), (Jvm.Cond.fieldLink "FiberWorks" (39 : Nat) "FiberWorks" "code" "LFiberWorks$Code;"), (Jvm.Cond.classLink "FiberWorks" (43 : Nat) "FiberWorks$Declarations"), (Jvm.Cond.methodLink "FiberWorks" (45 : Nat) ({ cls := "FiberWorks$Declarations", name := "<init>", desc := "()V" } : Jvm.MethodName)), (Jvm.Cond.classLink "FiberWorks" (46 : Nat) "FiberWorks$Reader"), (Jvm.Cond.methodLink "FiberWorks" (48 : Nat) ({ cls := "FiberWorks$Reader", name := "<init>", desc := "(LFiberWorks$Words;LFiberWorks$Faults;LFiberWorks$Types;LFiberWorks$Declarations;LFiberWorks$Code;)V" } : Jvm.MethodName)), (Jvm.Cond.fieldLink "FiberWorks" (51 : Nat) "FiberWorks" "reader" "LFiberWorks$Reader;"), (Jvm.Cond.classLink "FiberWorks" (55 : Nat) "FiberWorks$Checker"), (Jvm.Cond.methodLink "FiberWorks" (57 : Nat) ({ cls := "FiberWorks$Checker", name := "<init>", desc := "(LFiberWorks$Faults;LFiberWorks$Types;LFiberWorks$Declarations;LFiberWorks$Code;)V" } : Jvm.MethodName)), (Jvm.Cond.fieldLink "FiberWorks" (60 : Nat) "FiberWorks" "checker" "LFiberWorks$Checker;"), (Jvm.Cond.classLink "FiberWorks" (64 : Nat) "FiberWorks$Machine"), (Jvm.Cond.methodLink "FiberWorks" (66 : Nat) ({ cls := "FiberWorks$Machine", name := "<init>", desc := "(LFiberWorks$Code;)V" } : Jvm.MethodName)), (Jvm.Cond.fieldLink "FiberWorks" (69 : Nat) "FiberWorks" "machine" "LFiberWorks$Machine;"), (Jvm.Cond.fieldLink "FiberWorks" (73 : Nat) "FiberWorks" "hasProgram" "Z"), (Jvm.Cond.methodLink "FiberWorks$Faults" (3 : Nat) ({ cls := "java/lang/Object", name := "<init>", desc := "()V" } : Jvm.MethodName)), (Jvm.Cond.methodLink "FiberWorks$Faults" (9 : Nat) ({ cls := "FiberWorks$Faults", name := "clear", desc := "()V" } : Jvm.MethodName)), (Jvm.Cond.fieldLink "FiberWorks$Faults" (14 : Nat) "FiberWorks$Faults" "kind" "I"), (Jvm.Cond.fieldLink "FiberWorks$Faults" (18 : Nat) "FiberWorks$Faults" "place" "I"), (Jvm.Cond.methodLink "FiberWorks$Words" (3 : Nat) ({ cls := "java/lang/Object", name := "<init>", desc := "()V" } : Jvm.MethodName)), (Jvm.Cond.fieldLink "FiberWorks$Words" (9 : Nat) "FiberWorks$Words" "faults" "LFiberWorks$Faults;"), (Jvm.Cond.fieldLink "FiberWorks$Words" (15 : Nat) "FiberWorks$Words" "text" "[B"), (Jvm.Cond.fieldLink "FiberWorks$Words" (19 : Nat) "FiberWorks$Words" "length" "I"), (Jvm.Cond.classLink "FiberWorks$Words" (23 : Nat) "FiberWorks$Word"), (Jvm.Cond.fieldLink "FiberWorks$Words" (25 : Nat) "FiberWorks$Words" "kinds" "[LFiberWorks$Word;"), (Jvm.Cond.fieldLink "FiberWorks$Words" (29 : Nat) "FiberWorks$Words" "places" "[I"), (Jvm.Cond.fieldLink "FiberWorks$Words" (33 : Nat) "FiberWorks$Words" "values" "[I"), (Jvm.Cond.fieldLink "FiberWorks$Words" (36 : Nat) "FiberWorks$Words" "count" "I"), (Jvm.Cond.fieldLink "FiberWorks$Words" (39 : Nat) "FiberWorks$Words" "current" "I")]
def z_ws_7 : List Cond := [(Jvm.Cond.fieldLink "FiberWorks$Words" (42 : Nat) "FiberWorks$Word" "END_OF_TEXT" "LFiberWorks$Word;"), (Jvm.Cond.fieldLink "FiberWorks$Words" (46 : Nat) "FiberWorks$Words" "kind" "LFiberWorks$Word;"), (Jvm.Cond.fieldLink "FiberWorks$Words" (49 : Nat) "FiberWorks$Words" "place" "I"), (Jvm.Cond.fieldLink "FiberWorks$Words" (52 : Nat) "FiberWorks$Words" "value" "I"), (Jvm.Cond.methodLink "FiberWorks$Types" (3 : Nat) ({ cls := "java/lang/Object", name := "<init>", desc := "()V" } : Jvm.MethodName)), (Jvm.Cond.fieldLink "FiberWorks$Types" (9 : Nat) "FiberWorks$Types" "argument" "[I"), (Jvm.Cond.fieldLink "FiberWorks$Types" (15 : Nat) "FiberWorks$Types" "result" "[I"), (Jvm.Cond.fieldLink "FiberWorks$Types" (18 : Nat) "FiberWorks$Types" "row" "[I"), (Jvm.Cond.fieldLink "FiberWorks$Types" (21 : Nat) "FiberWorks$Types" "size" "[I"), (Jvm.Cond.methodLink "FiberWorks$Types" (24 : Nat) ({ cls := "FiberWorks$Types", name := "clear", desc := "()V" } : Jvm.MethodName)), (Jvm.Cond.fieldLink "FiberWorks$Types" (27 : Nat) "FiberWorks$Types" "count" "I"), (Jvm.Cond.methodLink "FiberWorks$Code" (1 : Nat) ({ cls := "java/lang/Object", name := "<init>", desc := "()V" } : Jvm.MethodName)), (Jvm.Cond.fieldLink "FiberWorks$Code" (7 : Nat) "FiberWorks$Code" "op" "[I"), (Jvm.Cond.fieldLink "FiberWorks$Code" (13 : Nat) "FiberWorks$Code" "a" "[I"), (Jvm.Cond.fieldLink "FiberWorks$Code" (16 : Nat) "FiberWorks$Code" "b" "[I"), (Jvm.Cond.fieldLink "FiberWorks$Code" (19 : Nat) "FiberWorks$Code" "c" "[I"), (Jvm.Cond.fieldLink "FiberWorks$Code" (22 : Nat) "FiberWorks$Code" "d" "[I"), (Jvm.Cond.fieldLink "FiberWorks$Code" (25 : Nat) "FiberWorks$Code" "from" "[I"), (Jvm.Cond.methodLink "FiberWorks$Code" (28 : Nat) ({ cls := "FiberWorks$Code", name := "clear", desc := "()V" } : Jvm.MethodName)), (Jvm.Cond.fieldLink "FiberWorks$Code" (31 : Nat) "FiberWorks$Code" "count" "I"), (Jvm.Cond.fieldLink "FiberWorks$Code" (35 : Nat) "FiberWorks$Code" "nodes" "I"), (Jvm.Cond.fieldLink "FiberWorks$Code" (40 : Nat) "FiberWorks$Code" "type" "I"), (Jvm.Cond.fieldLink "FiberWorks$Code" (43 : Nat) "FiberWorks$Code" "effects" "I"), (Jvm.Cond.fieldLink "FiberWorks$Code" (46 : Nat) "FiberWorks$Code" "room" "I"), (Jvm.Cond.methodLink "FiberWorks$Declarations" (3 : Nat) ({ cls := "java/lang/Object", name := "<init>", desc := "()V" } : Jvm.MethodName)), (Jvm.Cond.fieldLink "FiberWorks$Declarations" (11 : Nat) "FiberWorks$Declarations" "name" "[I"), (Jvm.Cond.fieldLink "FiberWorks$Declarations" (15 : Nat) "FiberWorks$Declarations" "argument" "[I"), (Jvm.Cond.fieldLink "FiberWorks$Declarations" (18 : Nat) "FiberWorks$Declarations" "result" "[I"), (Jvm.Cond.fieldLink "FiberWorks$Declarations" (21 : Nat) "FiberWorks$Declarations" "count" "I"), (Jvm.Cond.methodLink "FiberWorks$Reader" (3 : Nat) ({ cls := "java/lang/Object", name := "<init>", desc := "()V" } : Jvm.MethodName)), (Jvm.Cond.fieldLink "FiberWorks$Reader" (9 : Nat) "FiberWorks$Reader" "words" "LFiberWorks$Words;"), (Jvm.Cond.fieldLink "FiberWorks$Reader" (15 : Nat) "FiberWorks$Reader" "faults" "LFiberWorks$Faults;"), (Jvm.Cond.fieldLink "FiberWorks$Reader" (19 : Nat) "FiberWorks$Reader" "types" "LFiberWorks$Types;"), (Jvm.Cond.fieldLink "FiberWorks$Reader" (23 : Nat) "FiberWorks$Reader" "declared" "LFiberWorks$Declarations;"), (Jvm.Cond.fieldLink "FiberWorks$Reader" (27 : Nat) "FiberWorks$Reader" "code" "LFiberWorks$Code;"), (Jvm.Cond.fieldLink "FiberWorks$Reader" (31 : Nat) "FiberWorks$Reader" "waitingOp" "[I"), (Jvm.Cond.fieldLink "FiberWorks$Reader" (35 : Nat) "FiberWorks$Reader" "waitingFrom" "[I"), (Jvm.Cond.fieldLink "FiberWorks$Reader" (38 : Nat) "FiberWorks$Reader" "waiting" "I"), (Jvm.Cond.methodLink "FiberWorks$Checker" (1 : Nat) ({ cls := "java/lang/Object", name := "<init>", desc := "()V" } : Jvm.MethodName)), (Jvm.Cond.fieldLink "FiberWorks$Checker" (7 : Nat) "FiberWorks$Checker" "faults" "LFiberWorks$Faults;"), (Jvm.Cond.fieldLink "FiberWorks$Checker" (13 : Nat) "FiberWorks$Checker" "types" "LFiberWorks$Types;"), (Jvm.Cond.fieldLink "FiberWorks$Checker" (17 : Nat) "FiberWorks$Checker" "declared" "LFiberWorks$Declarations;"), (Jvm.Cond.fieldLink "FiberWorks$Checker" (21 : Nat) "FiberWorks$Checker" "code" "LFiberWorks$Code;"), (Jvm.Cond.fieldLink "FiberWorks$Checker" (25 : Nat) "FiberWorks$Checker" "heldType" "[I"), (Jvm.Cond.fieldLink "FiberWorks$Checker" (29 : Nat) "FiberWorks$Checker" "heldEffects" "[I"), (Jvm.Cond.fieldLink "FiberWorks$Checker" (32 : Nat) "FiberWorks$Checker" "heldFrom" "[I"), (Jvm.Cond.fieldLink "FiberWorks$Checker" (35 : Nat) "FiberWorks$Checker" "name" "[I"), (Jvm.Cond.fieldLink "FiberWorks$Checker" (38 : Nat) "FiberWorks$Checker" "nameType" "[I"), (Jvm.Cond.fieldLink "FiberWorks$Checker" (41 : Nat) "FiberWorks$Checker" "regionOpener" "[I"), (Jvm.Cond.fieldLink "FiberWorks$Checker" (44 : Nat) "FiberWorks$Checker" "regionFloor" "[I"), (Jvm.Cond.fieldLink "FiberWorks$Checker" (47 : Nat) "FiberWorks$Checker" "regionMost" "[I"), (Jvm.Cond.fieldLink "FiberWorks$Checker" (50 : Nat) "FiberWorks$Checker" "regionRow" "[I"), (Jvm.Cond.fieldLink "FiberWorks$Checker" (53 : Nat) "FiberWorks$Checker" "regionClauses" "[I"), (Jvm.Cond.methodLink "FiberWorks$Machine" (3 : Nat) ({ cls := "java/lang/Object", name := "<init>", desc := "()V" } : Jvm.MethodName)), (Jvm.Cond.fieldLink "FiberWorks$Machine" (9 : Nat) "FiberWorks$Machine" "code" "LFiberWorks$Code;"), (Jvm.Cond.fieldLink "FiberWorks$Machine" (15 : Nat) "FiberWorks$Machine" "stack" "[I"), (Jvm.Cond.fieldLink "FiberWorks$Machine" (19 : Nat) "FiberWorks$Machine" "records" "[I"), (Jvm.Cond.methodLink "FiberWorks$Machine" (22 : Nat) ({ cls := "FiberWorks$Machine", name := "clear", desc := "()V" } : Jvm.MethodName)), (Jvm.Cond.fieldLink "FiberWorks$Machine" (25 : Nat) "FiberWorks$Machine" "status" "I"), (Jvm.Cond.fieldLink "FiberWorks$Machine" (29 : Nat) "FiberWorks$Machine" "value" "I")]
def z_ws_8 : List Cond := [(Jvm.Cond.fieldLink "FiberWorks$Machine" (32 : Nat) "FiberWorks$Machine" "unhandled" "I"), (Jvm.Cond.fieldLink "FiberWorks$Machine" (35 : Nat) "FiberWorks$Machine" "fuel" "I"), (Jvm.Cond.fieldLink "FiberWorks$Machine" (38 : Nat) "FiberWorks$Machine" "things" "I"), (Jvm.Cond.fieldLink "FiberWorks$Machine" (41 : Nat) "FiberWorks$Machine" "depth" "I"), (Jvm.Cond.methodLink "FiberWorks" (77 : Nat) ({ cls := "FiberWorks", name := "putReady", desc := "(II)V" } : Jvm.MethodName)), (Jvm.Cond.fieldLink "FiberWorks" (81 : Nat) "FiberWorks$Words" "length" "I"), (Jvm.Cond.methodLink "FiberWorks" (85 : Nat) ({ cls := "FiberWorks$Words", name := "append", desc := "([BI)V" } : Jvm.MethodName)), (Jvm.Cond.methodLink "FiberWorks" (89 : Nat) ({ cls := "java/util/Arrays", name := "fill", desc := "([BB)V" } : Jvm.MethodName)), (Jvm.Cond.methodLink "FiberWorks$Words" (55 : Nat) ({ cls := "java/lang/System", name := "arraycopy", desc := "(Ljava/lang/Object;ILjava/lang/Object;II)V" } : Jvm.MethodName)), (Jvm.Cond.fieldLink "FiberWorks" (117 : Nat) "FiberWorks$Faults" "kind" "I"), (Jvm.Cond.fieldLink "FiberWorks" (120 : Nat) "FiberWorks$Faults" "place" "I"), (Jvm.Cond.methodLink "FiberWorks" (123 : Nat) ({ cls := "FiberWorks", name := "programNode", desc := "(I)I" } : Jvm.MethodName)), (Jvm.Cond.fieldLink "FiberWorks" (176 : Nat) "FiberWorks$Code" "type" "I"), (Jvm.Cond.fieldLink "FiberWorks" (131 : Nat) "FiberWorks$Code" "effects" "I"), (Jvm.Cond.fieldLink "FiberWorks" (145 : Nat) "FiberWorks$Machine" "status" "I"), (Jvm.Cond.fieldLink "FiberWorks" (155 : Nat) "FiberWorks$Machine" "value" "I"), (Jvm.Cond.fieldLink "FiberWorks" (158 : Nat) "FiberWorks$Machine" "fuel" "I"), (Jvm.Cond.fieldLink "FiberWorks" (161 : Nat) "FiberWorks$Machine" "things" "I"), (Jvm.Cond.fieldLink "FiberWorks" (164 : Nat) "FiberWorks$Machine" "depth" "I"), (Jvm.Cond.fieldLink "FiberWorks" (167 : Nat) "FiberWorks$Machine" "unhandled" "I"), (Jvm.Cond.methodLink "FiberWorksLaw" (7 : Nat) ({ cls := "FiberWorks", name := "read", desc := "()I" } : Jvm.MethodName)), (Jvm.Cond.methodLink "FiberWorks" (95 : Nat) ({ cls := "FiberWorks$Machine", name := "clear", desc := "()V" } : Jvm.MethodName)), (Jvm.Cond.methodLink "FiberWorks" (98 : Nat) ({ cls := "FiberWorks$Faults", name := "clear", desc := "()V" } : Jvm.MethodName)), (Jvm.Cond.methodLink "FiberWorks" (99 : Nat) ({ cls := "FiberWorks$Words", name := "split", desc := "()V" } : Jvm.MethodName)), (Jvm.Cond.methodLink "FiberWorks" (102 : Nat) ({ cls := "FiberWorks", name := "isProgram", desc := "()Z" } : Jvm.MethodName)), (Jvm.Cond.methodLink "FiberWorks" (106 : Nat) ({ cls := "FiberWorks$Words", name := "clear", desc := "()V" } : Jvm.MethodName)), (Jvm.Cond.fieldLink "FiberWorks" (114 : Nat) "FiberWorks$Code" "nodes" "I"), (Jvm.Cond.fieldLink "FiberWorks$Words" (64 : Nat) "FiberWorks$Word" "NO_WORD" "LFiberWorks$Word;"), (Jvm.Cond.methodLink "FiberWorks" (170 : Nat) ({ cls := "FiberWorks$Reader", name := "readProgram", desc := "()V" } : Jvm.MethodName)), (Jvm.Cond.methodLink "FiberWorks$Reader" (42 : Nat) ({ cls := "FiberWorks$Code", name := "clear", desc := "()V" } : Jvm.MethodName)), (Jvm.Cond.methodLink "FiberWorks$Reader" (47 : Nat) ({ cls := "FiberWorks$Types", name := "clear", desc := "()V" } : Jvm.MethodName)), (Jvm.Cond.fieldLink "FiberWorks$Reader" (50 : Nat) "FiberWorks$Declarations" "count" "I"), (Jvm.Cond.methodLink "FiberWorks$Reader" (55 : Nat) ({ cls := "FiberWorks$Words", name := "toFirst", desc := "()V" } : Jvm.MethodName)), (Jvm.Cond.fieldLink "FiberWorks$Reader" (60 : Nat) "FiberWorks$Words" "kind" "LFiberWorks$Word;"), (Jvm.Cond.fieldLink "FiberWorks$Reader" (64 : Nat) "FiberWorks$Word" "DECLARE" "LFiberWorks$Word;"), (Jvm.Cond.fieldLink "FiberWorks$Reader" (72 : Nat) "FiberWorks$Words" "place" "I"), (Jvm.Cond.methodLink "FiberWorks$Reader" (75 : Nat) ({ cls := "FiberWorks$Reader", name := "expr", desc := "(I)V" } : Jvm.MethodName)), (Jvm.Cond.fieldLink "FiberWorks$Reader" (79 : Nat) "FiberWorks$Word" "END_OF_TEXT" "LFiberWorks$Word;"), (Jvm.Cond.methodLink "FiberWorks$Reader" (82 : Nat) ({ cls := "FiberWorks$Reader", name := "refuseWord", desc := "()V" } : Jvm.MethodName)), (Jvm.Cond.methodLink "FiberWorks$Words" (61 : Nat) ({ cls := "FiberWorks$Words", name := "toNext", desc := "()V" } : Jvm.MethodName)), (Jvm.Cond.methodLink "FiberWorks$Words" (69 : Nat) ({ cls := "FiberWorks$Faults", name := "refuse", desc := "(II)V" } : Jvm.MethodName)), (Jvm.Cond.classLink "FiberWorks$Faults" (21 : Nat) "java/lang/IllegalArgumentException"), (Jvm.Cond.methodLink "FiberWorks$Reader" (93 : Nat) ({ cls := "FiberWorks$Faults", name := "refuse", desc := "(II)V" } : Jvm.MethodName)), (Jvm.Cond.fieldLink "FiberWorks$Reader" (174 : Nat) "FiberWorks$1" "$SwitchMap$FiberWorks$Word" "[I"), (Jvm.Cond.methodLink "FiberWorks$Reader" (179 : Nat) ({ cls := "FiberWorks$Word", name := "ordinal", desc := "()I" } : Jvm.MethodName)), (Jvm.Cond.methodLink "FiberWorks$Reader" (197 : Nat) ({ cls := "FiberWorks$Reader", name := "operation", desc := "(I)V" } : Jvm.MethodName)), (Jvm.Cond.methodLink "FiberWorks$Reader" (246 : Nat) ({ cls := "FiberWorks$Reader", name := "call", desc := "(I)V" } : Jvm.MethodName)), (Jvm.Cond.methodLink "FiberWorks$Reader" (97 : Nat) ({ cls := "FiberWorks$Words", name := "toNext", desc := "()V" } : Jvm.MethodName)), (Jvm.Cond.fieldLink "FiberWorks$Reader" (100 : Nat) "FiberWorks$Word" "EFFECT" "LFiberWorks$Word;"), (Jvm.Cond.fieldLink "FiberWorks$Reader" (265 : Nat) "FiberWorks$Word" "PERFORM" "LFiberWorks$Word;"), (Jvm.Cond.methodLink "FiberWorks$Reader" (268 : Nat) ({ cls := "FiberWorks$Reader", name := "atom", desc := "(I)V" } : Jvm.MethodName)), (Jvm.Cond.fieldLink "FiberWorks$Reader" (103 : Nat) "FiberWorks$Words" "value" "I"), (Jvm.Cond.fieldLink "FiberWorks$Reader" (155 : Nat) "FiberWorks$Word" "CLOSE" "LFiberWorks$Word;"), (Jvm.Cond.fieldLink "FiberWorks$Reader" (278 : Nat) "FiberWorks$Code" "from" "[I"), (Jvm.Cond.fieldLink "FiberWorks$Reader" (217 : Nat) "FiberWorks$Code" "count" "I"), (Jvm.Cond.methodLink "FiberWorksLaw" (15 : Nat) ({ cls := "FiberWorks", name := "start", desc := "()V" } : Jvm.MethodName)), (Jvm.Cond.classLink "FiberWorks" (137 : Nat) "java/lang/IllegalStateException"), (Jvm.Cond.methodLink "FiberWorksLaw" (20 : Nat) ({ cls := "FiberWorks", name := "run", desc := "(I)I" } : Jvm.MethodName)), (Jvm.Cond.methodLink "FiberWorksModel" (1 : Nat) ({ cls := "java/lang/Object", name := "<init>", desc := "()V" } : Jvm.MethodName)), (Jvm.Cond.fieldLink "FiberWorksModel" (7 : Nat) "FiberWorksModel" "ready" "[I")]
def z_ws_9 : List Cond := [(Jvm.Cond.fieldLink "FiberWorksModel" (13 : Nat) "FiberWorksModel" "text" "[I"), (Jvm.Cond.fieldLink "FiberWorksModel" (16 : Nat) "FiberWorksModel" "source" "[I"), (Jvm.Cond.fieldLink "FiberWorksModel" (19 : Nat) "FiberWorksModel" "keys" "[I"), (Jvm.Cond.fieldLink "FiberWorksModel" (22 : Nat) "FiberWorksModel" "place" "I"), (Jvm.Cond.fieldLink "FiberWorksModel" (26 : Nat) "FiberWorksModel" "takes" "[I"), (Jvm.Cond.fieldLink "FiberWorksModel" (29 : Nat) "FiberWorksModel" "gives" "[I"), (Jvm.Cond.fieldLink "FiberWorksModel" (32 : Nat) "FiberWorksModel" "rows" "[I"), (Jvm.Cond.fieldLink "FiberWorksModel" (35 : Nat) "FiberWorksModel" "pairs" "[I"), (Jvm.Cond.constant "FiberWorksModel" (38 : Nat) (35200 : Int32)), (Jvm.Cond.fieldLink "FiberWorksModel" (39 : Nat) "FiberWorksModel" "asked" "[J"), (Jvm.Cond.fieldLink "FiberWorksModel" (43 : Nat) "FiberWorksModel" "effectAt" "[I"), (Jvm.Cond.fieldLink "FiberWorksModel" (46 : Nat) "FiberWorksModel" "effectWide" "[I"), (Jvm.Cond.fieldLink "FiberWorksModel" (49 : Nat) "FiberWorksModel" "effectTakes" "[I"), (Jvm.Cond.fieldLink "FiberWorksModel" (52 : Nat) "FiberWorksModel" "effectGives" "[I"), (Jvm.Cond.fieldLink "FiberWorksModel" (55 : Nat) "FiberWorksModel" "openTake" "[I"), (Jvm.Cond.fieldLink "FiberWorksModel" (58 : Nat) "FiberWorksModel" "openHas" "[Z"), (Jvm.Cond.fieldLink "FiberWorksModel" (62 : Nat) "FiberWorksModel" "kinds" "[I"), (Jvm.Cond.fieldLink "FiberWorksModel" (65 : Nat) "FiberWorksModel" "a" "[I"), (Jvm.Cond.fieldLink "FiberWorksModel" (68 : Nat) "FiberWorksModel" "b" "[I"), (Jvm.Cond.fieldLink "FiberWorksModel" (71 : Nat) "FiberWorksModel" "c" "[I"), (Jvm.Cond.fieldLink "FiberWorksModel" (74 : Nat) "FiberWorksModel" "aAt" "[I"), (Jvm.Cond.fieldLink "FiberWorksModel" (77 : Nat) "FiberWorksModel" "bAt" "[I"), (Jvm.Cond.fieldLink "FiberWorksModel" (80 : Nat) "FiberWorksModel" "cAt" "[I"), (Jvm.Cond.fieldLink "FiberWorksModel" (83 : Nat) "FiberWorksModel" "nameAt" "[I"), (Jvm.Cond.fieldLink "FiberWorksModel" (86 : Nat) "FiberWorksModel" "nameWide" "[I"), (Jvm.Cond.fieldLink "FiberWorksModel" (89 : Nat) "FiberWorksModel" "otherAt" "[I"), (Jvm.Cond.fieldLink "FiberWorksModel" (92 : Nat) "FiberWorksModel" "otherWide" "[I"), (Jvm.Cond.fieldLink "FiberWorksModel" (95 : Nat) "FiberWorksModel" "one" "[I"), (Jvm.Cond.fieldLink "FiberWorksModel" (98 : Nat) "FiberWorksModel" "two" "[I"), (Jvm.Cond.fieldLink "FiberWorksModel" (101 : Nat) "FiberWorksModel" "row" "[I"), (Jvm.Cond.fieldLink "FiberWorksModel" (104 : Nat) "FiberWorksModel" "clauseOf" "[I"), (Jvm.Cond.fieldLink "FiberWorksModel" (107 : Nat) "FiberWorksModel" "clauseAt" "[I"), (Jvm.Cond.fieldLink "FiberWorksModel" (110 : Nat) "FiberWorksModel" "firstAt" "[I"), (Jvm.Cond.fieldLink "FiberWorksModel" (113 : Nat) "FiberWorksModel" "firstWide" "[I"), (Jvm.Cond.fieldLink "FiberWorksModel" (116 : Nat) "FiberWorksModel" "secondAt" "[I"), (Jvm.Cond.fieldLink "FiberWorksModel" (119 : Nat) "FiberWorksModel" "secondWide" "[I"), (Jvm.Cond.fieldLink "FiberWorksModel" (122 : Nat) "FiberWorksModel" "clauseDoes" "[I"), (Jvm.Cond.fieldLink "FiberWorksModel" (125 : Nat) "FiberWorksModel" "clauseDoesAt" "[I"), (Jvm.Cond.fieldLink "FiberWorksModel" (128 : Nat) "FiberWorksModel" "clauseNext" "[I"), (Jvm.Cond.fieldLink "FiberWorksModel" (131 : Nat) "FiberWorksModel" "partOf" "[I"), (Jvm.Cond.fieldLink "FiberWorksModel" (134 : Nat) "FiberWorksModel" "which" "[I"), (Jvm.Cond.fieldLink "FiberWorksModel" (137 : Nat) "FiberWorksModel" "began" "[I"), (Jvm.Cond.fieldLink "FiberWorksModel" (140 : Nat) "FiberWorksModel" "bracket" "[I"), (Jvm.Cond.fieldLink "FiberWorksModel" (143 : Nat) "FiberWorksModel" "form" "[I"), (Jvm.Cond.fieldLink "FiberWorksModel" (146 : Nat) "FiberWorksModel" "compare" "[I"), (Jvm.Cond.fieldLink "FiberWorksModel" (149 : Nat) "FiberWorksModel" "compareLeft" "[I"), (Jvm.Cond.fieldLink "FiberWorksModel" (152 : Nat) "FiberWorksModel" "compareAt" "[I"), (Jvm.Cond.fieldLink "FiberWorksModel" (155 : Nat) "FiberWorksModel" "sum" "[I"), (Jvm.Cond.fieldLink "FiberWorksModel" (158 : Nat) "FiberWorksModel" "sumLeft" "[I"), (Jvm.Cond.fieldLink "FiberWorksModel" (161 : Nat) "FiberWorksModel" "sumAt" "[I"), (Jvm.Cond.fieldLink "FiberWorksModel" (164 : Nat) "FiberWorksModel" "term" "[I"), (Jvm.Cond.fieldLink "FiberWorksModel" (167 : Nat) "FiberWorksModel" "termAt" "[I"), (Jvm.Cond.fieldLink "FiberWorksModel" (170 : Nat) "FiberWorksModel" "call" "[I"), (Jvm.Cond.fieldLink "FiberWorksModel" (173 : Nat) "FiberWorksModel" "callAt" "[I"), (Jvm.Cond.fieldLink "FiberWorksModel" (176 : Nat) "FiberWorksModel" "performs" "[I"), (Jvm.Cond.fieldLink "FiberWorksModel" (179 : Nat) "FiberWorksModel" "closed" "[Z"), (Jvm.Cond.fieldLink "FiberWorksModel" (182 : Nat) "FiberWorksModel" "lastClause" "[I"), (Jvm.Cond.constant "FiberWorksModel" (185 : Nat) (200000 : Int32)), (Jvm.Cond.fieldLink "FiberWorksModel" (186 : Nat) "FiberWorksModel" "cellName" "[I"), (Jvm.Cond.fieldLink "FiberWorksModel" (189 : Nat) "FiberWorksModel" "cellWide" "[I")]
def z_ws_10 : List Cond := [(Jvm.Cond.fieldLink "FiberWorksModel" (192 : Nat) "FiberWorksModel" "cellIs" "[I"), (Jvm.Cond.fieldLink "FiberWorksModel" (195 : Nat) "FiberWorksModel" "cellNext" "[I"), (Jvm.Cond.fieldLink "FiberWorksModel" (198 : Nat) "FiberWorksModel" "pileNode" "[I"), (Jvm.Cond.fieldLink "FiberWorksModel" (201 : Nat) "FiberWorksModel" "pileStage" "[I"), (Jvm.Cond.fieldLink "FiberWorksModel" (204 : Nat) "FiberWorksModel" "pileNames" "[I"), (Jvm.Cond.fieldLink "FiberWorksModel" (207 : Nat) "FiberWorksModel" "pileClause" "[I"), (Jvm.Cond.fieldLink "FiberWorksModel" (210 : Nat) "FiberWorksModel" "is" "[I"), (Jvm.Cond.fieldLink "FiberWorksModel" (213 : Nat) "FiberWorksModel" "has" "[I"), (Jvm.Cond.fieldLink "FiberWorksModel" (216 : Nat) "FiberWorksModel" "answer" "[I"), (Jvm.Cond.fieldLink "FiberWorksModel" (219 : Nat) "FiberWorksModel" "handled" "[I"), (Jvm.Cond.fieldLink "FiberWorksModel" (222 : Nat) "FiberWorksModel" "lengths" "[J"), (Jvm.Cond.constant "FiberWorksModel" (225 : Nat) (140000 : Int32)), (Jvm.Cond.fieldLink "FiberWorksModel" (226 : Nat) "FiberWorksModel" "doWhat" "[I"), (Jvm.Cond.fieldLink "FiberWorksModel" (229 : Nat) "FiberWorksModel" "doNode" "[I"), (Jvm.Cond.fieldLink "FiberWorksModel" (232 : Nat) "FiberWorksModel" "doValue" "[I"), (Jvm.Cond.fieldLink "FiberWorksModel" (235 : Nat) "FiberWorksModel" "doNames" "[I"), (Jvm.Cond.constant "FiberWorksModel" (238 : Nat) (340000 : Int32)), (Jvm.Cond.fieldLink "FiberWorksModel" (239 : Nat) "FiberWorksModel" "awayWhat" "[I"), (Jvm.Cond.fieldLink "FiberWorksModel" (242 : Nat) "FiberWorksModel" "awayNode" "[I"), (Jvm.Cond.fieldLink "FiberWorksModel" (245 : Nat) "FiberWorksModel" "awayValue" "[I"), (Jvm.Cond.fieldLink "FiberWorksModel" (248 : Nat) "FiberWorksModel" "awayNames" "[I"), (Jvm.Cond.fieldLink "FiberWorksModel" (251 : Nat) "FiberWorksModel" "functionNode" "[I"), (Jvm.Cond.fieldLink "FiberWorksModel" (254 : Nat) "FiberWorksModel" "functionNames" "[I"), (Jvm.Cond.fieldLink "FiberWorksModel" (257 : Nat) "FiberWorksModel" "pieceAt" "[I"), (Jvm.Cond.fieldLink "FiberWorksModel" (260 : Nat) "FiberWorksModel" "pieceMany" "[I"), (Jvm.Cond.fieldLink "FiberWorksModel" (263 : Nat) "FiberWorksModel" "pieceDeep" "[I"), (Jvm.Cond.fieldLink "FiberWorksModel" (266 : Nat) "FiberWorksModel" "used" "[Z"), (Jvm.Cond.fieldLink "FiberWorksModel" (269 : Nat) "FiberWorksModel" "marks" "[Z"), (Jvm.Cond.fieldLink "FiberWorksModel" (272 : Nat) "FiberWorksModel" "free" "I"), (Jvm.Cond.fieldLink "FiberWorksModel" (275 : Nat) "FiberWorksModel" "thrown" "I"), (Jvm.Cond.fieldLink "FiberWorksModel" (278 : Nat) "FiberWorksModel" "texted" "I"), (Jvm.Cond.fieldLink "FiberWorksModel" (284 : Nat) "FiberWorksModel" "size" "I"), (Jvm.Cond.fieldLink "FiberWorksModel" (527 : Nat) "FiberWorksModel" "isThere" "Z"), (Jvm.Cond.fieldLink "FiberWorksModel" (531 : Nat) "FiberWorksModel" "status" "I"), (Jvm.Cond.methodLink "FiberWorksModel" (534 : Nat) ({ cls := "FiberWorksModel", name := "clearRun", desc := "()V" } : Jvm.MethodName)), (Jvm.Cond.methodLink "FiberWorksModel" (537 : Nat) ({ cls := "FiberWorksModel", name := "readAll", desc := "()V" } : Jvm.MethodName)), (Jvm.Cond.fieldLink "FiberWorksModel" (281 : Nat) "FiberWorksModel" "fault" "I"), (Jvm.Cond.fieldLink "FiberWorksModel" (442 : Nat) "FiberWorksModel" "root" "I"), (Jvm.Cond.fieldLink "FiberWorksModel" (543 : Nat) "FiberWorksModel" "programType" "I"), (Jvm.Cond.fieldLink "FiberWorksModel" (546 : Nat) "FiberWorksModel" "programEffects" "I"), (Jvm.Cond.fieldLink "FiberWorksModel" (333 : Nat) "FiberWorksModel" "types" "I"), (Jvm.Cond.constantLong "FiberWorksModel" (549 : Nat) (4000000000 : Int64)), (Jvm.Cond.fieldLink "FiberWorksModel" (360 : Nat) "FiberWorksModel" "nodes" "I"), (Jvm.Cond.fieldLink "FiberWorksModel" (554 : Nat) "FiberWorksModel" "high" "I"), (Jvm.Cond.fieldLink "FiberWorksModel" (557 : Nat) "FiberWorksModel" "away" "I"), (Jvm.Cond.fieldLink "FiberWorksModel" (560 : Nat) "FiberWorksModel" "fuel" "I"), (Jvm.Cond.fieldLink "FiberWorksModel" (563 : Nat) "FiberWorksModel" "things" "I"), (Jvm.Cond.fieldLink "FiberWorksModel" (566 : Nat) "FiberWorksModel" "deep" "I"), (Jvm.Cond.fieldLink "FiberWorksModel" (569 : Nat) "FiberWorksModel" "badEffect" "I"), (Jvm.Cond.fieldLink "FiberWorksModel" (572 : Nat) "FiberWorksModel" "functions" "I"), (Jvm.Cond.fieldLink "FiberWorksModel" (575 : Nat) "FiberWorksModel" "result" "I"), (Jvm.Cond.fieldLink "FiberWorksModel" (578 : Nat) "FiberWorksModel" "returns" "Z"), (Jvm.Cond.fieldLink "FiberWorksModel" (290 : Nat) "FiberWorksModel" "at" "I"), (Jvm.Cond.fieldLink "FiberWorksModel" (287 : Nat) "FiberWorksModel" "wide" "I"), (Jvm.Cond.fieldLink "FiberWorksModel" (454 : Nat) "FiberWorksModel" "clauses" "I"), (Jvm.Cond.fieldLink "FiberWorksModel" (336 : Nat) "FiberWorksModel" "effects" "I"), (Jvm.Cond.fieldLink "FiberWorksModel" (378 : Nat) "FiberWorksModel" "depth" "I"), (Jvm.Cond.methodLink "FiberWorksModel" (327 : Nat) ({ cls := "FiberWorksModel", name := "next", desc := "()V" } : Jvm.MethodName)), (Jvm.Cond.fieldLink "FiberWorksModel" (297 : Nat) "FiberWorksModel" "word" "I"), (Jvm.Cond.methodLink "FiberWorksModel" (397 : Nat) ({ cls := "FiberWorksModel", name := "ask", desc := "(II)V" } : Jvm.MethodName))]
def z_ws_11 : List Cond := [(Jvm.Cond.fieldLink "FiberWorksModel" (375 : Nat) "FiberWorksModel" "mode" "I"), (Jvm.Cond.methodLink "FiberWorksModel" (460 : Nat) ({ cls := "FiberWorksModel", name := "begin", desc := "()V" } : Jvm.MethodName)), (Jvm.Cond.methodLink "FiberWorksModel" (463 : Nat) ({ cls := "FiberWorksModel", name := "want", desc := "(I)V" } : Jvm.MethodName)), (Jvm.Cond.methodLink "FiberWorksModel" (293 : Nat) ({ cls := "FiberWorksModel", name := "byteAt", desc := "(I)I" } : Jvm.MethodName)), (Jvm.Cond.methodLink "FiberWorksModel" (320 : Nat) ({ cls := "FiberWorksModel", name := "look", desc := "()V" } : Jvm.MethodName)), (Jvm.Cond.fieldLink "FiberWorksModel" (314 : Nat) "FiberWorksModel" "value" "I"), (Jvm.Cond.methodLink "FiberWorksModel" (323 : Nat) ({ cls := "FiberWorksModel", name := "wrong", desc := "(II)V" } : Jvm.MethodName)), (Jvm.Cond.fieldLink "FiberWorksModel" (366 : Nat) "FiberWorksModel" "newPart" "I"), (Jvm.Cond.fieldLink "FiberWorksModel" (369 : Nat) "FiberWorksModel" "newWhich" "I"), (Jvm.Cond.fieldLink "FiberWorksModel" (372 : Nat) "FiberWorksModel" "newBracket" "I"), (Jvm.Cond.methodLink "FiberWorksModel" (330 : Nat) ({ cls := "FiberWorksModel", name := "bad", desc := "()V" } : Jvm.MethodName)), (Jvm.Cond.methodLink "FiberWorksModel" (551 : Nat) ({ cls := "FiberWorksModel", name := "typeAt", desc := "(I)I" } : Jvm.MethodName)), (Jvm.Cond.fieldLink "FiberWorksModel" (472 : Nat) "FiberWorksModel" "cells" "I"), (Jvm.Cond.fieldLink "FiberWorksModel" (581 : Nat) "FiberWorksModel" "current" "I"), (Jvm.Cond.fieldLink "FiberWorksModel" (584 : Nat) "FiberWorksModel" "currentNames" "I")]
def z_wn : List Cond := z_ws_0 ++ (z_ws_1 ++ (z_ws_2 ++ (z_ws_3 ++ (z_ws_4 ++ (z_ws_5 ++ (z_ws_6 ++ (z_ws_7 ++ (z_ws_8 ++ (z_ws_9 ++ (z_ws_10 ++ (z_ws_11)))))))))))
theorem z_wg_0 : GoodIn lw_tbl z_ws_0 := z_gir _ [526, 528, 530, 532, 534, 536, 538, 540, 542, 173, 147, 194, 196, 181, 148, 225, 227, 229, 231, 233, 235, 237, 239, 241, 243, 245, 201, 149, 264, 266, 268, 270, 272, 250, 152, 324, 326, 328, 330, 332, 334, 336, 338, 340, 342, 344, 276, 153, 363, 365, 367, 369, 348, 154, 386, 388, 390, 392, 394, 396] (by decide +kernel) (by decide +kernel)
theorem z_wg_1 : GoodIn lw_tbl z_ws_1 := z_gir _ [398, 400, 373, 155, 426, 428, 430, 432, 434, 436, 438, 440, 442, 444, 446, 448, 450, 452, 454, 456, 458, 404, 156, 490, 492, 494, 496, 498, 500, 502, 504, 506, 508, 510, 512, 514, 462, 157, 1362, 1364, 1366, 1368, 1370, 1372, 1374, 1376, 1378, 1380, 1382, 1384, 1386, 1388, 1390, 1392, 1394, 1396, 1398, 1400, 1402, 1404] (by decide +kernel) (by decide +kernel)
theorem z_wg_2 : GoodIn lw_tbl z_ws_2 := z_gir _ [1406, 1408, 1410, 1412, 1414, 1416, 1418, 1420, 1422, 1424, 1426, 1428, 1430, 1432, 1434, 1436, 1438, 1440, 1442, 1444, 1446, 1448, 1450, 1452, 1454, 1456, 1458, 1460, 1462, 1464, 1466, 1468, 1470, 1472, 1474, 1476, 1478, 1480, 1482, 1484, 1486, 1488, 1490, 1492, 1494, 1496, 1498, 1500, 1502, 1504, 1506, 1508, 1510, 1512, 1514, 1516, 1518, 1520, 1522, 1524] (by decide +kernel) (by decide +kernel)
theorem z_wg_3 : GoodIn lw_tbl z_ws_3 := z_gir _ [1526, 1528, 1530, 1532, 1534, 1536, 1538, 1540, 1542, 1544, 1546, 1548, 1550, 1552, 1554, 1556, 1558, 1560, 1562, 1564, 1566, 1568, 1570, 1572, 1574, 1576, 1578, 1580, 1582, 1584, 1586, 1588, 1590, 1592, 1594, 1596, 1598, 1600, 1602, 1604, 1606, 1230, 158, 168, 729, 171, 1110, 248, 199, 1610, 1609, 178, 880, 882, 883, 150, 1955, 159, 563, 562] (by decide +kernel) (by decide +kernel)
theorem z_wg_4 : GoodIn lw_tbl z_ws_4 := z_gir _ [175, 183, 187, 188, 203, 252, 256, 257, 278, 282, 283, 350, 375, 406, 464, 468, 469, 546, 547, 551, 0, 554, 555, 558, 559, 160, 565, 568, 569, 572, 573, 577, 1, 588, 589, 596, 597, 146, 600, 604, 605, 610, 611, 707, 9, 711, 712, 717, 718, 721, 722, 725, 726, 802, 12, 875, 17, 945, 27, 949] (by decide +kernel) (by decide +kernel)
theorem z_wg_5 : GoodIn lw_tbl z_ws_5 := z_gir _ [28, 955, 29, 1085, 1086, 1102, 1106, 1107, 1139, 1142, 1143, 1232, 1612, 1613, 1616, 1617, 1620, 1621, 1624, 1625, 1629, 76, 1633, 77, 1637, 78, 1641, 79, 1645, 80, 1669, 83, 1673, 84, 1705, 92, 1709, 93, 1745, 102, 1865, 1866, 1869, 1870, 1874, 132, 1877, 1878, 1881, 1882, 1885, 1886, 1948, 1949, 602, 709, 1104, 172, 174, 1229] (by decide +kernel) (by decide +kernel)
theorem z_wg_6 : GoodIn lw_tbl z_ws_6 := z_gir _ [1231, 545, 1615, 553, 1619, 599, 1623, 1611, 567, 1864, 571, 1868, 587, 1876, 1101, 1880, 1138, 1884, 595, 1947, 177, 517, 180, 182, 518, 200, 202, 519, 249, 251, 520, 275, 277, 521, 347, 349, 372, 374, 522, 403, 405, 523, 461, 463, 524, 525, 185, 186, 190, 192, 205, 210, 211, 212, 206, 214, 215, 216, 217, 218] (by decide +kernel) (by decide +kernel)
theorem z_wg_7 : GoodIn lw_tbl z_ws_7 := z_gir _ [208, 219, 221, 223, 254, 259, 260, 261, 262, 255, 263, 280, 285, 288, 292, 296, 300, 304, 281, 307, 311, 314, 318, 321, 352, 353, 355, 358, 361, 377, 378, 379, 380, 381, 382, 383, 384, 385, 408, 409, 410, 411, 412, 413, 414, 415, 417, 418, 420, 421, 422, 423, 424, 466, 471, 472, 475, 467, 478, 480] (by decide +kernel) (by decide +kernel)
theorem z_wg_8 : GoodIn lw_tbl z_ws_8 := z_gir _ [482, 484, 486, 488, 549, 213, 557, 564, 561, 191, 193, 575, 316, 320, 479, 481, 485, 487, 489, 483, 603, 607, 608, 609, 705, 1084, 312, 629, 710, 714, 715, 362, 716, 220, 791, 222, 873, 980, 800, 720, 724, 728, 797, 877, 879, 943, 947, 798, 799, 951, 953, 224, 845, 306, 310, 1105, 1109, 1141, 1234, 1240] (by decide +kernel) (by decide +kernel)
theorem z_wg_9 : GoodIn lw_tbl z_ws_9 := z_gir _ [1241, 1242, 1243, 1251, 1253, 1254, 1255, 1256, 1235, 1257, 1259, 1260, 1261, 1262, 1263, 1264, 1268, 1269, 1270, 1271, 1272, 1273, 1274, 1275, 1276, 1277, 1278, 1279, 1280, 1281, 1282, 1283, 1284, 1285, 1286, 1287, 1288, 1289, 1290, 1295, 1296, 1297, 1298, 1299, 1300, 1301, 1302, 1303, 1304, 1305, 1306, 1307, 1308, 1309, 1310, 1311, 1315, 1236, 1317, 1318] (by decide +kernel) (by decide +kernel)
theorem z_wg_10 : GoodIn lw_tbl z_ws_10 := z_gir _ [1319, 1320, 1322, 1323, 1324, 1325, 1326, 1327, 1328, 1329, 1334, 1237, 1345, 1346, 1347, 1348, 1238, 1349, 1350, 1351, 1352, 1354, 1355, 1356, 1357, 1358, 1359, 1360, 1361, 1239, 1244, 1245, 1330, 1333, 1627, 1631, 1250, 1267, 1331, 1332, 1252, 1863, 1265, 1335, 1336, 1337, 1338, 1339, 1340, 1353, 1343, 1344, 1247, 1248, 1266, 1258, 1291, 1635, 1246, 1703] (by decide +kernel) (by decide +kernel)
theorem z_wg_11 : GoodIn lw_tbl z_ws_11 := z_gir _ [1292, 1707, 1743, 1639, 1643, 1249, 1667, 1312, 1313, 1314, 1671, 1872, 1316, 1341, 1342] (by decide +kernel) (by decide +kernel)
theorem z_wg : GoodIn lw_tbl z_wn := z_gia z_wg_0 (z_gia z_wg_1 (z_gia z_wg_2 (z_gia z_wg_3 (z_gia z_wg_4 (z_gia z_wg_5 (z_gia z_wg_6 (z_gia z_wg_7 (z_gia z_wg_8 (z_gia z_wg_9 (z_gia z_wg_10 (z_wg_11)))))))))))
end
section
/-! PRINTED BY A PROGRAM OF MINE out of the Statement: the instructions. -/
/-- 0: FiberWorksLaw.law ([I)Z -/
def zr_0_0 : List z_R := [(0, .new 8, 3, [0, 357]), (3, .dup, 1, []), (4, .invokespecial 24, 3, [0, 1, 0, 358]), (7, .astore_n 1, 1, []), (8, .new 25, 3, [9, 359]), (11, .dup, 1, []), (12, .invokespecial 27, 3, [0, 42, 0, 360]), (15, .astore_n 2, 1, []), (16, .iconst 1, 1, []), (17, .newarray .long, 2, [3]), (19, .astore_n 3, 1, []), (20, .iconst 0, 1, []), (21, .istore 4, 2, []), (23, .iload 4, 2, []), (25, .aload_n 0, 1, []), (26, .arraylength, 1, []), (27, .bipush 6, 2, []), (29, .isub, 1, []), (30, .if_icmp .gt 388, 3, [418]), (33, .aload_n 0, 1, []), (34, .iload 4, 2, []), (36, .iaload, 1, []), (37, .bipush 15, 2, []), (39, .iand, 1, []), (40, .tableswitch 372 0 8 #[52, 123, 148, 192, 217, 242, 267, 291, 347], 52, [412, 92, 163, 188, 232, 257, 282, 307, 331, 387]), (92, .aload_n 1, 1, []), (93, .aload_n 0, 1, []), (94, .iload 4, 2, []), (96, .iconst 1, 1, []), (97, .iadd, 1, []), (98, .iaload, 1, []), (99, .aload_n 0, 1, []), (100, .iload 4, 2, []), (102, .iconst 2, 1, []), (103, .iadd, 1, []), (104, .iaload, 1, []), (105, .aload_n 0, 1, []), (106, .iload 4, 2, []), (108, .iconst 3, 1, []), (109, .iadd, 1, []), (110, .iaload, 1, []), (111, .aload_n 0, 1, []), (112, .iload 4, 2, []), (114, .iconst 4, 1, []), (115, .iadd, 1, []), (116, .iaload, 1, []), (117, .aload_n 0, 1, []), (118, .iload 4, 2, []), (120, .iconst 5, 1, []), (121, .iadd, 1, []), (122, .iaload, 1, []), (123, .invokevirtual 28, 3, [0, 14, 5, 361]), (126, .aload_n 2, 1, []), (127, .aload_n 0, 1, []), (128, .iload 4, 2, []), (130, .iconst 1, 1, []), (131, .iadd, 1, []), (132, .iaload, 1, []), (133, .aload_n 0, 1, []), (134, .iload 4, 2, [])]
def zr_0_1 : List z_R := [(136, .iconst 2, 1, []), (137, .iadd, 1, []), (138, .iaload, 1, []), (139, .aload_n 0, 1, []), (140, .iload 4, 2, []), (142, .iconst 3, 1, []), (143, .iadd, 1, []), (144, .iaload, 1, []), (145, .aload_n 0, 1, []), (146, .iload 4, 2, []), (148, .iconst 4, 1, []), (149, .iadd, 1, []), (150, .iaload, 1, []), (151, .aload_n 0, 1, []), (152, .iload 4, 2, []), (154, .iconst 5, 1, []), (155, .iadd, 1, []), (156, .iaload, 1, []), (157, .invokevirtual 32, 3, [0, 44, 5, 362]), (160, .goto 252, 3, [412]), (163, .aload_n 1, 1, []), (164, .aload_n 0, 1, []), (165, .iload 4, 2, []), (167, .iconst 1, 1, []), (168, .iadd, 1, []), (169, .iaload, 1, []), (170, .invokevirtual 33, 3, [0, 16, 1, 363]), (173, .aload_n 2, 1, []), (174, .aload_n 0, 1, []), (175, .iload 4, 2, []), (177, .iconst 1, 1, []), (178, .iadd, 1, []), (179, .iaload, 1, []), (180, .invokevirtual 36, 3, [0, 45, 1, 364]), (183, .if_icmp .eq 229, 3, [412]), (186, .iconst 0, 1, []), (187, .ireturn, 1, []), (188, .aload_n 1, 1, []), (189, .aload_n 3, 1, []), (190, .invokestatic 37, 3, [0, 24, 2, 365]), (193, .istore 5, 2, []), (195, .aload_n 2, 1, []), (196, .invokevirtual 42, 3, [0, 46, 0, 366]), (199, .istore 6, 2, []), (201, .aload_n 2, 1, []), (202, .invokevirtual 43, 3, [0, 43, 0, 367]), (205, .iload 5, 2, []), (207, .if_icmp .eq 5, 3, [212]), (210, .iconst 0, 1, []), (211, .ireturn, 1, []), (212, .iload 5, 2, []), (214, .ifCond .ne 15, 3, [229]), (217, .aload_n 3, 1, []), (218, .iconst 0, 1, []), (219, .laload, 1, []), (220, .iload 6, 2, []), (222, .i2l, 1, []), (223, .lcmp, 1, []), (224, .ifCond .eq 5, 3, [229]), (227, .iconst 0, 1, [])]
def zr_0_2 : List z_R := [(228, .ireturn, 1, []), (229, .goto 183, 3, [412]), (232, .aload_n 1, 1, []), (233, .aload_n 0, 1, []), (234, .iload 4, 2, []), (236, .iconst 1, 1, []), (237, .iadd, 1, []), (238, .iaload, 1, []), (239, .invokevirtual 46, 3, [0, 19, 1, 368]), (242, .aload_n 2, 1, []), (243, .aload_n 0, 1, []), (244, .iload 4, 2, []), (246, .iconst 1, 1, []), (247, .iadd, 1, []), (248, .iaload, 1, []), (249, .invokevirtual 49, 3, [0, 57, 1, 369]), (252, .if_icmp .eq 160, 3, [412]), (255, .iconst 0, 1, []), (256, .ireturn, 1, []), (257, .aload_n 1, 1, []), (258, .aload_n 0, 1, []), (259, .iload 4, 2, []), (261, .iconst 1, 1, []), (262, .iadd, 1, []), (263, .iaload, 1, []), (264, .invokevirtual 50, 3, [0, 20, 1, 370]), (267, .aload_n 2, 1, []), (268, .aload_n 0, 1, []), (269, .iload 4, 2, []), (271, .iconst 1, 1, []), (272, .iadd, 1, []), (273, .iaload, 1, []), (274, .invokevirtual 53, 3, [0, 58, 1, 371]), (277, .if_icmp .eq 135, 3, [412]), (280, .iconst 0, 1, []), (281, .ireturn, 1, []), (282, .aload_n 1, 1, []), (283, .aload_n 0, 1, []), (284, .iload 4, 2, []), (286, .iconst 1, 1, []), (287, .iadd, 1, []), (288, .iaload, 1, []), (289, .invokevirtual 54, 3, [0, 22, 1, 372]), (292, .aload_n 2, 1, []), (293, .aload_n 0, 1, []), (294, .iload 4, 2, []), (296, .iconst 1, 1, []), (297, .iadd, 1, []), (298, .iaload, 1, []), (299, .invokevirtual 57, 3, [0, 60, 1, 373]), (302, .if_icmp .eq 110, 3, [412]), (305, .iconst 0, 1, []), (306, .ireturn, 1, []), (307, .aload_n 1, 1, []), (308, .invokestatic 58, 3, [0, 38, 1, 374]), (311, .istore 5, 2, []), (313, .aload_n 2, 1, []), (314, .invokevirtual 61, 3, [0, 61, 0, 375]), (317, .aload_n 2, 1, []), (318, .invokevirtual 43, 3, [0, 43, 0, 367])]
def zr_0_3 : List z_R := [(321, .iload 5, 2, []), (323, .if_icmp .eq 5, 3, [328]), (326, .iconst 0, 1, []), (327, .ireturn, 1, []), (328, .goto 84, 3, [412]), (331, .aload_n 1, 1, []), (332, .aload_n 0, 1, []), (333, .iload 4, 2, []), (335, .iconst 1, 1, []), (336, .iadd, 1, []), (337, .iaload, 1, []), (338, .aload_n 3, 1, []), (339, .invokestatic 62, 3, [0, 40, 3, 376]), (342, .istore 5, 2, []), (344, .aload_n 2, 1, []), (345, .aload_n 0, 1, []), (346, .iload 4, 2, []), (348, .iconst 1, 1, []), (349, .iadd, 1, []), (350, .iaload, 1, []), (351, .invokevirtual 65, 3, [0, 62, 1, 377]), (354, .istore 6, 2, []), (356, .aload_n 2, 1, []), (357, .invokevirtual 43, 3, [0, 43, 0, 367]), (360, .iload 5, 2, []), (362, .if_icmp .eq 5, 3, [367]), (365, .iconst 0, 1, []), (366, .ireturn, 1, []), (367, .iload 5, 2, []), (369, .ifCond .ne 15, 3, [384]), (372, .aload_n 3, 1, []), (373, .iconst 0, 1, []), (374, .laload, 1, []), (375, .iload 6, 2, []), (377, .i2l, 1, []), (378, .lcmp, 1, []), (379, .ifCond .eq 5, 3, [384]), (382, .iconst 0, 1, []), (383, .ireturn, 1, []), (384, .goto 28, 3, [412]), (387, .aload_n 1, 1, []), (388, .aload_n 0, 1, []), (389, .iload 4, 2, []), (391, .iconst 1, 1, []), (392, .iadd, 1, []), (393, .iaload, 1, []), (394, .invokevirtual 66, 3, [0, 23, 1, 378]), (397, .aload_n 2, 1, []), (398, .aload_n 0, 1, []), (399, .iload 4, 2, []), (401, .iconst 1, 1, []), (402, .iadd, 1, []), (403, .iaload, 1, []), (404, .invokevirtual 69, 3, [0, 63, 1, 379]), (407, .if_icmp .eq 5, 3, [412]), (410, .iconst 0, 1, []), (411, .ireturn, 1, []), (412, .iinc 4 6, 3, []), (415, .goto (-392), 3, [23]), (418, .iconst 1, 1, [])]
def zr_0_4 : List z_R := [(419, .ireturn, 1, [])]
def zr_0 : List z_R := zr_0_0 ++ (zr_0_1 ++ (zr_0_2 ++ (zr_0_3 ++ (zr_0_4))))
/-- 1: FiberWorks.<init> ()V -/
def zr_1_0 : List z_R := [(0, .aload_n 0, 1, []), (1, .invokespecial 1, 3, [1, 380]), (4, .aload_n 0, 1, []), (5, .bipush 20, 2, []), (7, .newarray .byte, 2, [1]), (9, .putfield 9, 3, [0, 0, 381]), (12, .aload_n 0, 1, []), (13, .new 13, 3, [1, 382]), (16, .dup, 1, []), (17, .invokespecial 15, 3, [0, 2, 0, 383]), (20, .putfield 16, 3, [0, 1, 384]), (23, .aload_n 0, 1, []), (24, .new 20, 3, [2, 385]), (27, .dup, 1, []), (28, .aload_n 0, 1, []), (29, .getfield 16, 3, [0, 1, 384]), (32, .invokespecial 22, 3, [0, 4, 1, 386]), (35, .putfield 25, 3, [0, 2, 387]), (38, .aload_n 0, 1, []), (39, .new 29, 3, [3, 388]), (42, .dup, 1, []), (43, .invokespecial 31, 3, [0, 5, 0, 389]), (46, .putfield 32, 3, [0, 3, 390]), (49, .aload_n 0, 1, []), (50, .new 36, 3, [4, 391]), (53, .dup, 1, []), (54, .invokespecial 38, 3, [0, 7, 0, 392]), (57, .putfield 39, 3, [0, 4, 393]), (60, .new 43, 3, [5, 394]), (63, .dup, 1, []), (64, .invokespecial 45, 3, [0, 9, 0, 395]), (67, .astore_n 1, 1, []), (68, .aload_n 0, 1, []), (69, .new 46, 3, [6, 396]), (72, .dup, 1, []), (73, .aload_n 0, 1, []), (74, .getfield 25, 3, [0, 2, 387]), (77, .aload_n 0, 1, []), (78, .getfield 16, 3, [0, 1, 384]), (81, .aload_n 0, 1, []), (82, .getfield 32, 3, [0, 3, 390]), (85, .aload_n 1, 1, []), (86, .aload_n 0, 1, []), (87, .getfield 39, 3, [0, 4, 393]), (90, .invokespecial 48, 3, [0, 10, 5, 397]), (93, .putfield 51, 3, [0, 5, 398]), (96, .aload_n 0, 1, []), (97, .new 55, 3, [7, 399]), (100, .dup, 1, []), (101, .aload_n 0, 1, []), (102, .getfield 16, 3, [0, 1, 384]), (105, .aload_n 0, 1, []), (106, .getfield 32, 3, [0, 3, 390]), (109, .aload_n 1, 1, []), (110, .aload_n 0, 1, []), (111, .getfield 39, 3, [0, 4, 393]), (114, .invokespecial 57, 3, [0, 11, 4, 400]), (117, .putfield 60, 3, [0, 6, 401]), (120, .aload_n 0, 1, []), (121, .new 64, 3, [8, 402])]
def zr_1_1 : List z_R := [(124, .dup, 1, []), (125, .aload_n 0, 1, []), (126, .getfield 39, 3, [0, 4, 393]), (129, .invokespecial 66, 3, [0, 12, 1, 403]), (132, .putfield 69, 3, [0, 7, 404]), (135, .aload_n 0, 1, []), (136, .iconst 0, 1, []), (137, .putfield 73, 3, [0, 8, 405]), (140, .return_, 1, [])]
def zr_1 : List z_R := zr_1_0 ++ (zr_1_1)
/-- 2: FiberWorks$Faults.<init> ()V -/
def zr_2 : List z_R := [(0, .aload_n 0, 1, []), (1, .invokespecial 3, 3, [1, 406]), (4, .aload_n 0, 1, []), (5, .invokevirtual 9, 3, [0, 3, 0, 407]), (8, .return_, 1, [])]
/-- 3: FiberWorks$Faults.clear ()V -/
def zr_3 : List z_R := [(0, .aload_n 0, 1, []), (1, .iconst 0, 1, []), (2, .putfield 14, 3, [1, 0, 408]), (5, .aload_n 0, 1, []), (6, .iconst (-1), 1, []), (7, .putfield 18, 3, [1, 1, 409]), (10, .return_, 1, [])]
/-- 4: FiberWorks$Words.<init> (LFiberWorks$Faults;)V -/
def zr_4 : List z_R := [(0, .aload_n 0, 1, []), (1, .invokespecial 3, 3, [1, 410]), (4, .aload_n 0, 1, []), (5, .aload_n 1, 1, []), (6, .putfield 9, 3, [2, 0, 411]), (9, .aload_n 0, 1, []), (10, .sipush 1500, 3, []), (13, .newarray .byte, 2, [1]), (15, .putfield 15, 3, [2, 1, 412]), (18, .aload_n 0, 1, []), (19, .iconst 0, 1, []), (20, .putfield 19, 3, [2, 2, 413]), (23, .aload_n 0, 1, []), (24, .sipush 1501, 3, []), (27, .anewarray 23, 3, [4, 414]), (30, .putfield 25, 3, [2, 3, 415]), (33, .aload_n 0, 1, []), (34, .sipush 1501, 3, []), (37, .newarray .int, 2, [0]), (39, .putfield 29, 3, [2, 4, 416]), (42, .aload_n 0, 1, []), (43, .sipush 1501, 3, []), (46, .newarray .int, 2, [0]), (48, .putfield 33, 3, [2, 5, 417]), (51, .aload_n 0, 1, []), (52, .iconst 0, 1, []), (53, .putfield 36, 3, [2, 6, 418]), (56, .aload_n 0, 1, []), (57, .iconst 0, 1, []), (58, .putfield 39, 3, [2, 7, 419]), (61, .aload_n 0, 1, []), (62, .getstatic 42, 3, [0, 420]), (65, .putfield 46, 3, [2, 8, 421]), (68, .aload_n 0, 1, []), (69, .iconst 0, 1, []), (70, .putfield 49, 3, [2, 9, 422]), (73, .aload_n 0, 1, []), (74, .iconst 0, 1, []), (75, .putfield 52, 3, [2, 10, 423]), (78, .return_, 1, [])]
/-- 5: FiberWorks$Types.<init> ()V -/
def zr_5 : List z_R := [(0, .aload_n 0, 1, []), (1, .invokespecial 3, 3, [1, 424]), (4, .aload_n 0, 1, []), (5, .bipush 64, 2, []), (7, .newarray .int, 2, [0]), (9, .putfield 9, 3, [3, 0, 425]), (12, .aload_n 0, 1, []), (13, .bipush 64, 2, []), (15, .newarray .int, 2, [0]), (17, .putfield 15, 3, [3, 1, 426]), (20, .aload_n 0, 1, []), (21, .bipush 64, 2, []), (23, .newarray .int, 2, [0]), (25, .putfield 18, 3, [3, 2, 427]), (28, .aload_n 0, 1, []), (29, .bipush 64, 2, []), (31, .newarray .int, 2, [0]), (33, .putfield 21, 3, [3, 3, 428]), (36, .aload_n 0, 1, []), (37, .invokevirtual 24, 3, [0, 6, 0, 429]), (40, .return_, 1, [])]
/-- 6: FiberWorks$Types.clear ()V -/
def zr_6 : List z_R := [(0, .aload_n 0, 1, []), (1, .iconst 3, 1, []), (2, .putfield 27, 3, [3, 4, 430]), (5, .aload_n 0, 1, []), (6, .getfield 21, 3, [3, 3, 428]), (9, .iconst 0, 1, []), (10, .iconst 1, 1, []), (11, .iastore, 1, []), (12, .aload_n 0, 1, []), (13, .getfield 21, 3, [3, 3, 428]), (16, .iconst 1, 1, []), (17, .iconst 1, 1, []), (18, .iastore, 1, []), (19, .aload_n 0, 1, []), (20, .getfield 21, 3, [3, 3, 428]), (23, .iconst 2, 1, []), (24, .iconst 1, 1, []), (25, .iastore, 1, []), (26, .return_, 1, [])]
/-- 7: FiberWorks$Code.<init> ()V -/
def zr_7 : List z_R := [(0, .aload_n 0, 1, []), (1, .invokespecial 1, 3, [1, 431]), (4, .aload_n 0, 1, []), (5, .sipush 128, 3, []), (8, .newarray .int, 2, [0]), (10, .putfield 7, 3, [4, 0, 432]), (13, .aload_n 0, 1, []), (14, .sipush 128, 3, []), (17, .newarray .int, 2, [0]), (19, .putfield 13, 3, [4, 1, 433]), (22, .aload_n 0, 1, []), (23, .sipush 128, 3, []), (26, .newarray .int, 2, [0]), (28, .putfield 16, 3, [4, 2, 434]), (31, .aload_n 0, 1, []), (32, .sipush 128, 3, []), (35, .newarray .int, 2, [0]), (37, .putfield 19, 3, [4, 3, 435]), (40, .aload_n 0, 1, []), (41, .sipush 128, 3, []), (44, .newarray .int, 2, [0]), (46, .putfield 22, 3, [4, 4, 436]), (49, .aload_n 0, 1, []), (50, .sipush 128, 3, []), (53, .newarray .int, 2, [0]), (55, .putfield 25, 3, [4, 5, 437]), (58, .aload_n 0, 1, []), (59, .invokevirtual 28, 3, [0, 8, 0, 438]), (62, .return_, 1, [])]
/-- 8: FiberWorks$Code.clear ()V -/
def zr_8 : List z_R := [(0, .aload_n 0, 1, []), (1, .iconst 0, 1, []), (2, .putfield 31, 3, [4, 6, 439]), (5, .aload_n 0, 1, []), (6, .iconst 0, 1, []), (7, .putfield 35, 3, [4, 7, 440]), (10, .aload_n 0, 1, []), (11, .iconst 2, 1, []), (12, .putfield 40, 3, [4, 8, 441]), (15, .aload_n 0, 1, []), (16, .iconst 0, 1, []), (17, .putfield 43, 3, [4, 9, 442]), (20, .aload_n 0, 1, []), (21, .iconst 0, 1, []), (22, .putfield 46, 3, [4, 10, 443]), (25, .return_, 1, [])]
/-- 9: FiberWorks$Declarations.<init> ()V -/
def zr_9 : List z_R := [(0, .aload_n 0, 1, []), (1, .invokespecial 3, 3, [1, 444]), (4, .aload_n 0, 1, []), (5, .bipush 8, 2, []), (7, .newarray .int, 2, [0]), (9, .putfield 11, 3, [5, 0, 445]), (12, .aload_n 0, 1, []), (13, .bipush 8, 2, []), (15, .newarray .int, 2, [0]), (17, .putfield 15, 3, [5, 1, 446]), (20, .aload_n 0, 1, []), (21, .bipush 8, 2, []), (23, .newarray .int, 2, [0]), (25, .putfield 18, 3, [5, 2, 447]), (28, .aload_n 0, 1, []), (29, .iconst 0, 1, []), (30, .putfield 21, 3, [5, 3, 448]), (33, .return_, 1, [])]
/-- 10: FiberWorks$Reader.<init> (LFiberWorks$Words;LFiberWorks$Faults;LFiberWorks$Types;LFiberWorks$Declarations;LFiberWorks$Code;)V -/
def zr_10 : List z_R := [(0, .aload_n 0, 1, []), (1, .invokespecial 3, 3, [1, 449]), (4, .aload_n 0, 1, []), (5, .aload_n 1, 1, []), (6, .putfield 9, 3, [6, 0, 450]), (9, .aload_n 0, 1, []), (10, .aload_n 2, 1, []), (11, .putfield 15, 3, [6, 1, 451]), (14, .aload_n 0, 1, []), (15, .aload_n 3, 1, []), (16, .putfield 19, 3, [6, 2, 452]), (19, .aload_n 0, 1, []), (20, .aload 4, 2, []), (22, .putfield 23, 3, [6, 3, 453]), (25, .aload_n 0, 1, []), (26, .aload 5, 2, []), (28, .putfield 27, 3, [6, 4, 454]), (31, .aload_n 0, 1, []), (32, .sipush 150, 3, []), (35, .newarray .int, 2, [0]), (37, .putfield 31, 3, [6, 5, 455]), (40, .aload_n 0, 1, []), (41, .sipush 150, 3, []), (44, .newarray .int, 2, [0]), (46, .putfield 35, 3, [6, 6, 456]), (49, .aload_n 0, 1, []), (50, .iconst 0, 1, []), (51, .putfield 38, 3, [6, 7, 457]), (54, .return_, 1, [])]
/-- 11: FiberWorks$Checker.<init> (LFiberWorks$Faults;LFiberWorks$Types;LFiberWorks$Declarations;LFiberWorks$Code;)V -/
def zr_11 : List z_R := [(0, .aload_n 0, 1, []), (1, .invokespecial 1, 3, [1, 458]), (4, .aload_n 0, 1, []), (5, .aload_n 1, 1, []), (6, .putfield 7, 3, [7, 0, 459]), (9, .aload_n 0, 1, []), (10, .aload_n 2, 1, []), (11, .putfield 13, 3, [7, 1, 460]), (14, .aload_n 0, 1, []), (15, .aload_n 3, 1, []), (16, .putfield 17, 3, [7, 2, 461]), (19, .aload_n 0, 1, []), (20, .aload 4, 2, []), (22, .putfield 21, 3, [7, 3, 462]), (25, .aload_n 0, 1, []), (26, .sipush 256, 3, []), (29, .newarray .int, 2, [0]), (31, .putfield 25, 3, [7, 4, 463]), (34, .aload_n 0, 1, []), (35, .sipush 256, 3, []), (38, .newarray .int, 2, [0]), (40, .putfield 29, 3, [7, 5, 464]), (43, .aload_n 0, 1, []), (44, .sipush 256, 3, []), (47, .newarray .int, 2, [0]), (49, .putfield 32, 3, [7, 6, 465]), (52, .aload_n 0, 1, []), (53, .sipush 128, 3, []), (56, .newarray .int, 2, [0]), (58, .putfield 35, 3, [7, 8, 466]), (61, .aload_n 0, 1, []), (62, .sipush 128, 3, []), (65, .newarray .int, 2, [0]), (67, .putfield 38, 3, [7, 9, 467]), (70, .aload_n 0, 1, []), (71, .bipush 64, 2, []), (73, .newarray .int, 2, [0]), (75, .putfield 41, 3, [7, 11, 468]), (78, .aload_n 0, 1, []), (79, .bipush 64, 2, []), (81, .newarray .int, 2, [0]), (83, .putfield 44, 3, [7, 12, 469]), (86, .aload_n 0, 1, []), (87, .bipush 64, 2, []), (89, .newarray .int, 2, [0]), (91, .putfield 47, 3, [7, 13, 470]), (94, .aload_n 0, 1, []), (95, .bipush 64, 2, []), (97, .newarray .int, 2, [0]), (99, .putfield 50, 3, [7, 14, 471]), (102, .aload_n 0, 1, []), (103, .bipush 64, 2, []), (105, .newarray .int, 2, [0]), (107, .putfield 53, 3, [7, 15, 472]), (110, .return_, 1, [])]
/-- 12: FiberWorks$Machine.<init> (LFiberWorks$Code;)V -/
def zr_12 : List z_R := [(0, .aload_n 0, 1, []), (1, .invokespecial 3, 3, [1, 473]), (4, .aload_n 0, 1, []), (5, .aload_n 1, 1, []), (6, .putfield 9, 3, [8, 0, 474]), (9, .aload_n 0, 1, []), (10, .sipush 256, 3, []), (13, .newarray .int, 2, [0]), (15, .putfield 15, 3, [8, 1, 475]), (18, .aload_n 0, 1, []), (19, .sipush 256, 3, []), (22, .newarray .int, 2, [0]), (24, .putfield 19, 3, [8, 4, 476]), (27, .aload_n 0, 1, []), (28, .invokevirtual 22, 3, [0, 13, 0, 477]), (31, .return_, 1, [])]
/-- 13: FiberWorks$Machine.clear ()V -/
def zr_13 : List z_R := [(0, .aload_n 0, 1, []), (1, .iconst 0, 1, []), (2, .putfield 25, 3, [8, 7, 478]), (5, .aload_n 0, 1, []), (6, .iconst 0, 1, []), (7, .putfield 29, 3, [8, 8, 479]), (10, .aload_n 0, 1, []), (11, .iconst (-1), 1, []), (12, .putfield 32, 3, [8, 9, 480]), (15, .aload_n 0, 1, []), (16, .iconst 0, 1, []), (17, .putfield 35, 3, [8, 10, 481]), (20, .aload_n 0, 1, []), (21, .iconst 0, 1, []), (22, .putfield 38, 3, [8, 11, 482]), (25, .aload_n 0, 1, []), (26, .iconst 0, 1, []), (27, .putfield 41, 3, [8, 12, 483]), (30, .return_, 1, [])]
/-- 14: FiberWorks.feed (IIIII)V -/
def zr_14 : List z_R := [(0, .aload_n 0, 1, []), (1, .iconst 0, 1, []), (2, .iload_n 1, 1, []), (3, .invokevirtual 77, 3, [0, 15, 2, 484]), (6, .aload_n 0, 1, []), (7, .iconst 4, 1, []), (8, .iload_n 2, 1, []), (9, .invokevirtual 77, 3, [0, 15, 2, 484]), (12, .aload_n 0, 1, []), (13, .bipush 8, 2, []), (15, .iload_n 3, 1, []), (16, .invokevirtual 77, 3, [0, 15, 2, 484]), (19, .aload_n 0, 1, []), (20, .bipush 12, 2, []), (22, .iload 4, 2, []), (24, .invokevirtual 77, 3, [0, 15, 2, 484]), (27, .aload_n 0, 1, []), (28, .bipush 16, 2, []), (30, .iload 5, 2, []), (32, .invokevirtual 77, 3, [0, 15, 2, 484]), (35, .return_, 1, [])]
/-- 15: FiberWorks.putReady (II)V -/
def zr_15 : List z_R := [(0, .iconst 0, 1, []), (1, .istore_n 3, 1, []), (2, .iload_n 3, 1, []), (3, .iconst 4, 1, []), (4, .if_icmp .ge 27, 3, [31]), (7, .aload_n 0, 1, []), (8, .getfield 9, 3, [0, 0, 381]), (11, .iload_n 1, 1, []), (12, .iload_n 3, 1, []), (13, .iadd, 1, []), (14, .iload_n 2, 1, []), (15, .bipush 24, 2, []), (17, .bipush 8, 2, []), (19, .iload_n 3, 1, []), (20, .imul, 1, []), (21, .isub, 1, []), (22, .iushr, 1, []), (23, .i2b, 1, []), (24, .bastore, 1, []), (25, .iinc 3 1, 3, []), (28, .goto (-26), 3, [2]), (31, .return_, 1, [])]
/-- 16: FiberWorks.end (I)I -/
def zr_16 : List z_R := [(0, .iload_n 1, 1, []), (1, .ifCond .lt 24, 3, [25]), (4, .iload_n 1, 1, []), (5, .bipush 20, 2, []), (7, .if_icmp .gt 18, 3, [25]), (10, .aload_n 0, 1, []), (11, .getfield 25, 3, [0, 2, 387]), (14, .getfield 81, 3, [2, 2, 485]), (17, .iload_n 1, 1, []), (18, .iadd, 1, []), (19, .sipush 1500, 3, []), (22, .if_icmp .le 5, 3, [27]), (25, .iconst (-1), 1, []), (26, .ireturn, 1, []), (27, .aload_n 0, 1, []), (28, .getfield 25, 3, [0, 2, 387]), (31, .aload_n 0, 1, []), (32, .getfield 9, 3, [0, 0, 381]), (35, .iload_n 1, 1, []), (36, .invokevirtual 85, 3, [0, 17, 2, 486]), (39, .aload_n 0, 1, []), (40, .getfield 9, 3, [0, 0, 381]), (43, .iconst 0, 1, []), (44, .invokestatic 89, 3, [0, 18, 2, 487]), (47, .aload_n 0, 1, []), (48, .getfield 25, 3, [0, 2, 387]), (51, .getfield 81, 3, [2, 2, 485]), (54, .ireturn, 1, [])]
/-- 17: FiberWorks$Words.append ([BI)V -/
def zr_17 : List z_R := [(0, .aload_n 1, 1, []), (1, .iconst 0, 1, []), (2, .aload_n 0, 1, []), (3, .getfield 15, 3, [2, 1, 412]), (6, .aload_n 0, 1, []), (7, .getfield 19, 3, [2, 2, 413]), (10, .iload_n 2, 1, []), (11, .invokestatic 55, 3, [3, 488]), (14, .aload_n 0, 1, []), (15, .dup, 1, []), (16, .getfield 19, 3, [2, 2, 413]), (19, .iload_n 2, 1, []), (20, .iadd, 1, []), (21, .putfield 19, 3, [2, 2, 413]), (24, .return_, 1, [])]
/-- 18: java/util/Arrays.fill ([BB)V -/
def zr_18 : List z_R := [(0, .iconst 0, 1, []), (1, .istore_n 2, 1, []), (2, .aload_n 0, 1, []), (3, .arraylength, 1, []), (4, .istore_n 3, 1, []), (5, .iload_n 2, 1, []), (6, .iload_n 3, 1, []), (7, .if_icmp .ge 13, 3, [20]), (10, .aload_n 0, 1, []), (11, .iload_n 2, 1, []), (12, .iload_n 1, 1, []), (13, .bastore, 1, []), (14, .iinc 2 1, 3, []), (17, .goto (-12), 3, [5]), (20, .return_, 1, [])]
/-- 19: FiberWorks.fault (I)I -/
def zr_19 : List z_R := [(0, .iload_n 1, 1, []), (1, .ifCond .ne 11, 3, [12]), (4, .aload_n 0, 1, []), (5, .getfield 16, 3, [0, 1, 384]), (8, .getfield 117, 3, [1, 0, 489]), (11, .ireturn, 1, []), (12, .iload_n 1, 1, []), (13, .iconst 1, 1, []), (14, .if_icmp .ne 13, 3, [27]), (17, .aload_n 0, 1, []), (18, .getfield 16, 3, [0, 1, 384]), (21, .getfield 120, 3, [1, 1, 490]), (24, .goto 4, 3, [28]), (27, .iconst (-1), 1, []), (28, .ireturn, 1, [])]
/-- 20: FiberWorks.type (I)I -/
def zr_20 : List z_R := [(0, .aload_n 0, 1, []), (1, .iload_n 1, 1, []), (2, .invokevirtual 123, 3, [0, 21, 1, 491]), (5, .istore_n 2, 1, []), (6, .iload_n 2, 1, []), (7, .iconst (-1), 1, []), (8, .if_icmp .ne 5, 3, [13]), (11, .iconst (-1), 1, []), (12, .ireturn, 1, []), (13, .aload_n 0, 1, []), (14, .getfield 32, 3, [0, 3, 390]), (17, .iload_n 2, 1, []), (18, .invokevirtual 127, 3, []), (21, .ifCond .eq 7, 3, [28]), (24, .iconst 3, 1, []), (25, .goto 4, 3, [29]), (28, .iload_n 2, 1, []), (29, .ireturn, 1, [])]
/-- 21: FiberWorks.programNode (I)I -/
def zr_21 : List z_R := [(0, .aload_n 0, 1, []), (1, .getfield 73, 3, [0, 8, 405]), (4, .ifCond .eq 21, 3, [25]), (7, .aload_n 0, 1, []), (8, .getfield 32, 3, [0, 3, 390]), (11, .aload_n 0, 1, []), (12, .getfield 39, 3, [0, 4, 393]), (15, .getfield 176, 3, [4, 8, 492]), (18, .iload_n 1, 1, []), (19, .invokevirtual 179, 3, []), (22, .goto 4, 3, [26]), (25, .iconst (-1), 1, []), (26, .ireturn, 1, [])]
/-- 22: FiberWorks.effects (I)I -/
def zr_22 : List z_R := [(0, .iload_n 1, 1, []), (1, .iconst (-1), 1, []), (2, .if_icmp .ne 22, 3, [24]), (5, .aload_n 0, 1, []), (6, .getfield 73, 3, [0, 8, 405]), (9, .ifCond .eq 13, 3, [22]), (12, .aload_n 0, 1, []), (13, .getfield 39, 3, [0, 4, 393]), (16, .getfield 131, 3, [4, 9, 493]), (19, .goto 4, 3, [23]), (22, .iconst (-1), 1, []), (23, .ireturn, 1, []), (24, .aload_n 0, 1, []), (25, .iload_n 1, 1, []), (26, .invokevirtual 123, 3, [0, 21, 1, 491]), (29, .istore_n 2, 1, []), (30, .iload_n 2, 1, []), (31, .iconst (-1), 1, []), (32, .if_icmp .eq 25, 3, [57]), (35, .aload_n 0, 1, []), (36, .getfield 32, 3, [0, 3, 390]), (39, .iload_n 2, 1, []), (40, .invokevirtual 127, 3, []), (43, .ifCond .eq 14, 3, [57]), (46, .aload_n 0, 1, []), (47, .getfield 32, 3, [0, 3, 390]), (50, .iload_n 2, 1, []), (51, .invokevirtual 134, 3, []), (54, .goto 4, 3, [58]), (57, .iconst (-1), 1, []), (58, .ireturn, 1, [])]
/-- 23: FiberWorks.state (I)I -/
def zr_23 : List z_R := [(0, .iload_n 1, 1, []), (1, .tableswitch 87 0 5 #[39, 47, 55, 63, 71, 79], 39, [88, 40, 48, 56, 64, 72, 80]), (40, .aload_n 0, 1, []), (41, .getfield 69, 3, [0, 7, 404]), (44, .getfield 145, 3, [8, 7, 494]), (47, .ireturn, 1, []), (48, .aload_n 0, 1, []), (49, .getfield 69, 3, [0, 7, 404]), (52, .getfield 155, 3, [8, 8, 495]), (55, .ireturn, 1, []), (56, .aload_n 0, 1, []), (57, .getfield 69, 3, [0, 7, 404]), (60, .getfield 158, 3, [8, 10, 496]), (63, .ireturn, 1, []), (64, .aload_n 0, 1, []), (65, .getfield 69, 3, [0, 7, 404]), (68, .getfield 161, 3, [8, 11, 497]), (71, .ireturn, 1, []), (72, .aload_n 0, 1, []), (73, .getfield 69, 3, [0, 7, 404]), (76, .getfield 164, 3, [8, 12, 498]), (79, .ireturn, 1, []), (80, .aload_n 0, 1, []), (81, .getfield 69, 3, [0, 7, 404]), (84, .getfield 167, 3, [8, 9, 499]), (87, .ireturn, 1, []), (88, .iconst (-1), 1, []), (89, .ireturn, 1, [])]
/-- 24: FiberWorksLaw.read (LFiberWorks;[J)I -/
def zr_24 : List z_R := [(0, .aload_n 1, 1, []), (1, .iconst 0, 1, []), (2, .aload_n 0, 1, []), (3, .invokevirtual 7, 3, [0, 25, 0, 500]), (6, .i2l, 1, []), (7, .lastore, 1, []), (8, .goto 6, 3, [14]), (11, .astore_n 2, 1, []), (12, .iconst 1, 1, []), (13, .ireturn, 1, []), (14, .iconst 0, 1, []), (15, .ireturn, 1, [])]
/-- 25: FiberWorks.read ()I -/
def zr_25 : List z_R := [(0, .aload_n 0, 1, []), (1, .getfield 69, 3, [0, 7, 404]), (4, .invokevirtual 95, 3, [0, 13, 0, 501]), (7, .aload_n 0, 1, []), (8, .getfield 16, 3, [0, 1, 384]), (11, .invokevirtual 98, 3, [0, 3, 0, 502]), (14, .aload_n 0, 1, []), (15, .getfield 25, 3, [0, 2, 387]), (18, .invokevirtual 99, 3, [0, 26, 0, 503]), (21, .aload_n 0, 1, []), (22, .aload_n 0, 1, []), (23, .invokevirtual 102, 3, [0, 27, 0, 504]), (26, .putfield 73, 3, [0, 8, 405]), (29, .aload_n 0, 1, []), (30, .getfield 25, 3, [0, 2, 387]), (33, .invokevirtual 106, 3, [0, 37, 0, 505]), (36, .aload_n 0, 1, []), (37, .getfield 73, 3, [0, 8, 405]), (40, .ifCond .ne 13, 3, [53]), (43, .new 107, 3, [9, 10, 1]), (46, .dup, 1, []), (47, .ldc 109, 2, []), (49, .invokespecial 111, 3, []), (52, .athrow, 1, []), (53, .aload_n 0, 1, []), (54, .getfield 39, 3, [0, 4, 393]), (57, .getfield 114, 3, [4, 7, 506]), (60, .ireturn, 1, [])]
/-- 26: FiberWorks$Words.split ()V -/
def zr_26_0 : List z_R := [(0, .aload_n 0, 1, []), (1, .iconst 0, 1, []), (2, .putfield 36, 3, [2, 6, 418]), (5, .iconst 0, 1, []), (6, .istore_n 1, 1, []), (7, .iconst 1, 1, []), (8, .istore_n 2, 1, []), (9, .iload_n 1, 1, []), (10, .aload_n 0, 1, []), (11, .getfield 19, 3, [2, 2, 413]), (14, .if_icmp .ge 75, 3, [89]), (17, .iload_n 2, 1, []), (18, .ifCond .eq 71, 3, [89]), (21, .aload_n 0, 1, []), (22, .getfield 15, 3, [2, 1, 412]), (25, .iload_n 1, 1, []), (26, .baload, 1, []), (27, .bipush 32, 2, []), (29, .if_icmp .eq 14, 3, [43]), (32, .aload_n 0, 1, []), (33, .getfield 15, 3, [2, 1, 412]), (36, .iload_n 1, 1, []), (37, .baload, 1, []), (38, .bipush 10, 2, []), (40, .if_icmp .ne 9, 3, [49]), (43, .iinc 1 1, 3, []), (46, .goto (-37), 3, [9]), (49, .aload_n 0, 1, []), (50, .iload_n 1, 1, []), (51, .invokevirtual 73, 3, []), (54, .istore_n 3, 1, []), (55, .aload_n 0, 1, []), (56, .iload_n 1, 1, []), (57, .iload_n 3, 1, []), (58, .invokevirtual 77, 3, []), (61, .aload_n 0, 1, []), (62, .getfield 25, 3, [2, 3, 415]), (65, .aload_n 0, 1, []), (66, .getfield 36, 3, [2, 6, 418]), (69, .iconst 1, 1, []), (70, .isub, 1, []), (71, .aaload, 1, []), (72, .getstatic 64, 3, [1, 507]), (75, .if_acmp .eq 7, 3, [82]), (78, .iconst 1, 1, []), (79, .goto 4, 3, [83]), (82, .iconst 0, 1, []), (83, .istore_n 2, 1, []), (84, .iload_n 3, 1, []), (85, .istore_n 1, 1, []), (86, .goto (-77), 3, [9]), (89, .aload_n 0, 1, []), (90, .getfield 25, 3, [2, 3, 415]), (93, .aload_n 0, 1, []), (94, .getfield 36, 3, [2, 6, 418]), (97, .getstatic 42, 3, [0, 420]), (100, .aastore, 1, []), (101, .aload_n 0, 1, []), (102, .getfield 29, 3, [2, 4, 416]), (105, .aload_n 0, 1, [])]
def zr_26_1 : List z_R := [(106, .getfield 36, 3, [2, 6, 418]), (109, .aload_n 0, 1, []), (110, .getfield 19, 3, [2, 2, 413]), (113, .iastore, 1, []), (114, .aload_n 0, 1, []), (115, .getfield 33, 3, [2, 5, 417]), (118, .aload_n 0, 1, []), (119, .getfield 36, 3, [2, 6, 418]), (122, .iconst 0, 1, []), (123, .iastore, 1, []), (124, .aload_n 0, 1, []), (125, .dup, 1, []), (126, .getfield 36, 3, [2, 6, 418]), (129, .iconst 1, 1, []), (130, .iadd, 1, []), (131, .putfield 36, 3, [2, 6, 418]), (134, .return_, 1, [])]
def zr_26 : List z_R := zr_26_0 ++ (zr_26_1)
/-- 27: FiberWorks.isProgram ()Z -/
def zr_27 : List z_R := [(0, .aload_n 0, 1, []), (1, .getfield 51, 3, [0, 5, 398]), (4, .invokevirtual 170, 3, [0, 28, 0, 508]), (7, .aload_n 0, 1, []), (8, .getfield 60, 3, [0, 6, 401]), (11, .invokevirtual 173, 3, []), (14, .goto 6, 3, [20]), (17, .astore_n 1, 1, []), (18, .iconst 0, 1, []), (19, .ireturn, 1, []), (20, .iconst 1, 1, []), (21, .ireturn, 1, [])]
/-- 28: FiberWorks$Reader.readProgram ()V -/
def zr_28 : List z_R := [(0, .aload_n 0, 1, []), (1, .getfield 27, 3, [6, 4, 454]), (4, .invokevirtual 42, 3, [0, 8, 0, 509]), (7, .aload_n 0, 1, []), (8, .getfield 19, 3, [6, 2, 452]), (11, .invokevirtual 47, 3, [0, 6, 0, 510]), (14, .aload_n 0, 1, []), (15, .getfield 23, 3, [6, 3, 453]), (18, .iconst 0, 1, []), (19, .putfield 50, 3, [5, 3, 511]), (22, .aload_n 0, 1, []), (23, .iconst 0, 1, []), (24, .putfield 38, 3, [6, 7, 457]), (27, .aload_n 0, 1, []), (28, .getfield 9, 3, [6, 0, 450]), (31, .invokevirtual 55, 3, [0, 29, 0, 512]), (34, .iconst 0, 1, []), (35, .istore_n 1, 1, []), (36, .iload_n 1, 1, []), (37, .bipush 8, 2, []), (39, .if_icmp .gt 26, 3, [65]), (42, .aload_n 0, 1, []), (43, .getfield 9, 3, [6, 0, 450]), (46, .getfield 60, 3, [2, 8, 513]), (49, .getstatic 64, 3, [20, 514]), (52, .if_acmp .ne 13, 3, [65]), (55, .aload_n 0, 1, []), (56, .invokevirtual 69, 3, []), (59, .iinc 1 1, 3, []), (62, .goto (-26), 3, [36]), (65, .aload_n 0, 1, []), (66, .getfield 9, 3, [6, 0, 450]), (69, .getfield 72, 3, [2, 9, 515]), (72, .istore_n 1, 1, []), (73, .aload_n 0, 1, []), (74, .iconst 0, 1, []), (75, .invokevirtual 75, 3, [0, 33, 1, 516]), (78, .aload_n 0, 1, []), (79, .getfield 9, 3, [6, 0, 450]), (82, .getfield 60, 3, [2, 8, 513]), (85, .getstatic 79, 3, [0, 517]), (88, .if_acmp .eq 7, 3, [95]), (91, .aload_n 0, 1, []), (92, .invokevirtual 82, 3, [0, 32, 0, 518]), (95, .aload_n 0, 1, []), (96, .getfield 27, 3, [6, 4, 454]), (99, .bipush 27, 2, []), (101, .iconst 0, 1, []), (102, .iconst 0, 1, []), (103, .iload_n 1, 1, []), (104, .invokevirtual 87, 3, []), (107, .pop, 1, []), (108, .return_, 1, [])]
/-- 29: FiberWorks$Words.toFirst ()V -/
def zr_29 : List z_R := [(0, .aload_n 0, 1, []), (1, .iconst (-1), 1, []), (2, .putfield 39, 3, [2, 7, 419]), (5, .aload_n 0, 1, []), (6, .invokevirtual 61, 3, [0, 30, 0, 519]), (9, .return_, 1, [])]
/-- 30: FiberWorks$Words.toNext ()V -/
def zr_30 : List z_R := [(0, .aload_n 0, 1, []), (1, .getfield 39, 3, [2, 7, 419]), (4, .aload_n 0, 1, []), (5, .getfield 36, 3, [2, 6, 418]), (8, .iconst 1, 1, []), (9, .isub, 1, []), (10, .if_icmp .ge 13, 3, [23]), (13, .aload_n 0, 1, []), (14, .dup, 1, []), (15, .getfield 39, 3, [2, 7, 419]), (18, .iconst 1, 1, []), (19, .iadd, 1, []), (20, .putfield 39, 3, [2, 7, 419]), (23, .aload_n 0, 1, []), (24, .aload_n 0, 1, []), (25, .getfield 25, 3, [2, 3, 415]), (28, .aload_n 0, 1, []), (29, .getfield 39, 3, [2, 7, 419]), (32, .aaload, 1, []), (33, .putfield 46, 3, [2, 8, 421]), (36, .aload_n 0, 1, []), (37, .aload_n 0, 1, []), (38, .getfield 29, 3, [2, 4, 416]), (41, .aload_n 0, 1, []), (42, .getfield 39, 3, [2, 7, 419]), (45, .iaload, 1, []), (46, .putfield 49, 3, [2, 9, 422]), (49, .aload_n 0, 1, []), (50, .aload_n 0, 1, []), (51, .getfield 33, 3, [2, 5, 417]), (54, .aload_n 0, 1, []), (55, .getfield 39, 3, [2, 7, 419]), (58, .iaload, 1, []), (59, .putfield 52, 3, [2, 10, 423]), (62, .aload_n 0, 1, []), (63, .getfield 46, 3, [2, 8, 421]), (66, .getstatic 64, 3, [1, 507]), (69, .if_acmp .ne 15, 3, [84]), (72, .aload_n 0, 1, []), (73, .getfield 9, 3, [2, 0, 411]), (76, .iconst 2, 1, []), (77, .aload_n 0, 1, []), (78, .getfield 49, 3, [2, 9, 422]), (81, .invokevirtual 69, 3, [0, 31, 2, 520]), (84, .return_, 1, [])]
/-- 31: FiberWorks$Faults.refuse (II)V -/
def zr_31 : List z_R := [(0, .aload_n 0, 1, []), (1, .iload_n 1, 1, []), (2, .putfield 14, 3, [1, 0, 408]), (5, .aload_n 0, 1, []), (6, .iload_n 2, 1, []), (7, .putfield 18, 3, [1, 1, 409]), (10, .new 21, 3, [9, 10, 0]), (13, .dup, 1, []), (14, .invokespecial 23, 3, []), (17, .athrow, 1, [])]
/-- 32: FiberWorks$Reader.refuseWord ()V -/
def zr_32 : List z_R := [(0, .aload_n 0, 1, []), (1, .getfield 15, 3, [6, 1, 451]), (4, .iconst 1, 1, []), (5, .aload_n 0, 1, []), (6, .getfield 9, 3, [6, 0, 450]), (9, .getfield 72, 3, [2, 9, 515]), (12, .invokevirtual 93, 3, [0, 31, 2, 522]), (15, .return_, 1, [])]
/-- 33: FiberWorks$Reader.expr (I)V -/
def zr_33 : List z_R := [(0, .iload_n 1, 1, []), (1, .bipush 50, 2, []), (3, .if_icmp .lt 18, 3, [21]), (6, .aload_n 0, 1, []), (7, .getfield 15, 3, [6, 1, 451]), (10, .iconst 4, 1, []), (11, .aload_n 0, 1, []), (12, .getfield 9, 3, [6, 0, 450]), (15, .getfield 72, 3, [2, 9, 515]), (18, .invokevirtual 93, 3, [0, 31, 2, 522]), (21, .getstatic 174, 3, [38, 523]), (24, .aload_n 0, 1, []), (25, .getfield 9, 3, [6, 0, 450]), (28, .getfield 60, 3, [2, 8, 513]), (31, .invokevirtual 179, 3, [2, 524]), (34, .iaload, 1, []), (35, .tableswitch 73 1 5 #[33, 41, 49, 57, 65], 33, [108, 68, 76, 84, 92, 100]), (68, .aload_n 0, 1, []), (69, .iload_n 1, 1, []), (70, .invokevirtual 182, 3, []), (73, .goto 40, 3, [113]), (76, .aload_n 0, 1, []), (77, .iload_n 1, 1, []), (78, .invokevirtual 185, 3, []), (81, .goto 32, 3, [113]), (84, .aload_n 0, 1, []), (85, .iload_n 1, 1, []), (86, .invokevirtual 188, 3, []), (89, .goto 24, 3, [113]), (92, .aload_n 0, 1, []), (93, .iload_n 1, 1, []), (94, .invokevirtual 191, 3, []), (97, .goto 16, 3, [113]), (100, .aload_n 0, 1, []), (101, .iload_n 1, 1, []), (102, .invokevirtual 194, 3, []), (105, .goto 8, 3, [113]), (108, .aload_n 0, 1, []), (109, .iload_n 1, 1, []), (110, .invokevirtual 197, 3, [0, 34, 1, 525]), (113, .return_, 1, [])]
/-- 34: FiberWorks$Reader.operation (I)V -/
def zr_34_0 : List z_R := [(0, .aload_n 0, 1, []), (1, .getfield 38, 3, [6, 7, 457]), (4, .istore_n 2, 1, []), (5, .aload_n 0, 1, []), (6, .getfield 9, 3, [6, 0, 450]), (9, .getfield 72, 3, [2, 9, 515]), (12, .istore_n 3, 1, []), (13, .aload_n 0, 1, []), (14, .iload_n 1, 1, []), (15, .invokevirtual 246, 3, [0, 35, 1, 526]), (18, .iconst 0, 1, []), (19, .istore 4, 2, []), (21, .iload 4, 2, []), (23, .sipush 1500, 3, []), (26, .if_icmp .ge 86, 3, [112]), (29, .aload_n 0, 1, []), (30, .iload_n 2, 1, []), (31, .invokevirtual 249, 3, []), (34, .ifCond .eq 78, 3, [112]), (37, .aload_n 0, 1, []), (38, .invokevirtual 253, 3, []), (41, .istore 5, 2, []), (43, .aload_n 0, 1, []), (44, .iload_n 2, 1, []), (45, .iload 5, 2, []), (47, .invokestatic 256, 3, []), (50, .iload_n 3, 1, []), (51, .invokevirtual 259, 3, []), (54, .istore_n 3, 1, []), (55, .aload_n 0, 1, []), (56, .getfield 31, 3, [6, 5, 455]), (59, .aload_n 0, 1, []), (60, .getfield 38, 3, [6, 7, 457]), (63, .iload 5, 2, []), (65, .iastore, 1, []), (66, .aload_n 0, 1, []), (67, .getfield 35, 3, [6, 6, 456]), (70, .aload_n 0, 1, []), (71, .getfield 38, 3, [6, 7, 457]), (74, .iload_n 3, 1, []), (75, .iastore, 1, []), (76, .aload_n 0, 1, []), (77, .dup, 1, []), (78, .getfield 38, 3, [6, 7, 457]), (81, .iconst 1, 1, []), (82, .iadd, 1, []), (83, .putfield 38, 3, [6, 7, 457]), (86, .aload_n 0, 1, []), (87, .getfield 9, 3, [6, 0, 450]), (90, .invokevirtual 97, 3, [0, 30, 0, 527]), (93, .aload_n 0, 1, []), (94, .getfield 9, 3, [6, 0, 450]), (97, .getfield 72, 3, [2, 9, 515]), (100, .istore_n 3, 1, []), (101, .aload_n 0, 1, []), (102, .iload_n 1, 1, []), (103, .invokevirtual 246, 3, [0, 35, 1, 526]), (106, .iinc 4 1, 3, []), (109, .goto (-88), 3, [21]), (112, .aload_n 0, 1, [])]
def zr_34_1 : List z_R := [(113, .iload_n 2, 1, []), (114, .iconst 0, 1, []), (115, .iload_n 3, 1, []), (116, .invokevirtual 259, 3, []), (119, .pop, 1, []), (120, .return_, 1, [])]
def zr_34 : List z_R := zr_34_0 ++ (zr_34_1)
/-- 35: FiberWorks$Reader.call (I)V -/
def zr_35_0 : List z_R := [(0, .aload_n 0, 1, []), (1, .getfield 9, 3, [6, 0, 450]), (4, .getfield 72, 3, [2, 9, 515]), (7, .istore_n 2, 1, []), (8, .aload_n 0, 1, []), (9, .getfield 9, 3, [6, 0, 450]), (12, .getfield 60, 3, [2, 8, 513]), (15, .getstatic 100, 3, [3, 528]), (18, .if_acmp .ne 45, 3, [63]), (21, .aload_n 0, 1, []), (22, .invokevirtual 168, 3, []), (25, .istore_n 3, 1, []), (26, .aload_n 0, 1, []), (27, .getfield 9, 3, [6, 0, 450]), (30, .invokevirtual 97, 3, [0, 30, 0, 527]), (33, .aload_n 0, 1, []), (34, .getstatic 265, 3, [17, 529]), (37, .invokevirtual 116, 3, []), (40, .aload_n 0, 1, []), (41, .invokevirtual 262, 3, []), (44, .aload_n 0, 1, []), (45, .iload_n 1, 1, []), (46, .invokevirtual 268, 3, [0, 36, 1, 530]), (49, .aload_n 0, 1, []), (50, .getfield 27, 3, [6, 4, 454]), (53, .bipush 16, 2, []), (55, .iload_n 3, 1, []), (56, .iconst 0, 1, []), (57, .iload_n 2, 1, []), (58, .invokevirtual 87, 3, []), (61, .pop, 1, []), (62, .return_, 1, []), (63, .aload_n 0, 1, []), (64, .iload_n 1, 1, []), (65, .invokevirtual 268, 3, [0, 36, 1, 530]), (68, .iconst 0, 1, []), (69, .istore_n 3, 1, []), (70, .iload_n 3, 1, []), (71, .sipush 1500, 3, []), (74, .if_icmp .ge 51, 3, [125]), (77, .aload_n 0, 1, []), (78, .invokevirtual 271, 3, []), (81, .ifCond .eq 44, 3, [125]), (84, .aload_n 0, 1, []), (85, .getfield 27, 3, [6, 4, 454]), (88, .bipush 14, 2, []), (90, .iconst 0, 1, []), (91, .iconst 0, 1, []), (92, .iload_n 2, 1, []), (93, .invokevirtual 87, 3, []), (96, .pop, 1, []), (97, .aload_n 0, 1, []), (98, .iload_n 1, 1, []), (99, .invokevirtual 268, 3, [0, 36, 1, 530]), (102, .aload_n 0, 1, []), (103, .getfield 27, 3, [6, 4, 454]), (106, .bipush 15, 2, []), (108, .iconst 0, 1, []), (109, .iconst 0, 1, []), (110, .iload_n 2, 1, [])]
def zr_35_1 : List z_R := [(111, .invokevirtual 87, 3, []), (114, .pop, 1, []), (115, .aload_n 0, 1, []), (116, .invokevirtual 262, 3, []), (119, .iinc 3 1, 3, []), (122, .goto (-52), 3, [70]), (125, .return_, 1, [])]
def zr_35 : List z_R := zr_35_0 ++ (zr_35_1)
/-- 36: FiberWorks$Reader.atom (I)V -/
def zr_36_0 : List z_R := [(0, .getstatic 174, 3, [38, 523]), (3, .aload_n 0, 1, []), (4, .getfield 9, 3, [6, 0, 450]), (7, .getfield 60, 3, [2, 8, 513]), (10, .invokevirtual 179, 3, [2, 524]), (13, .iaload, 1, []), (14, .tableswitch 205 11 15 #[34, 56, 72, 88, 132], 34, [219, 48, 70, 86, 102, 146]), (48, .aload_n 0, 1, []), (49, .aload_n 0, 1, []), (50, .getfield 9, 3, [6, 0, 450]), (53, .getfield 103, 3, [2, 10, 531]), (56, .iconst 0, 1, []), (57, .aload_n 0, 1, []), (58, .getfield 9, 3, [6, 0, 450]), (61, .getfield 72, 3, [2, 9, 515]), (64, .invokevirtual 275, 3, []), (67, .goto 156, 3, [223]), (70, .aload_n 0, 1, []), (71, .iconst 1, 1, []), (72, .iconst 1, 1, []), (73, .aload_n 0, 1, []), (74, .getfield 9, 3, [6, 0, 450]), (77, .getfield 72, 3, [2, 9, 515]), (80, .invokevirtual 275, 3, []), (83, .goto 140, 3, [223]), (86, .aload_n 0, 1, []), (87, .iconst 0, 1, []), (88, .iconst 1, 1, []), (89, .aload_n 0, 1, []), (90, .getfield 9, 3, [6, 0, 450]), (93, .getfield 72, 3, [2, 9, 515]), (96, .invokevirtual 275, 3, []), (99, .goto 124, 3, [223]), (102, .aload_n 0, 1, []), (103, .getfield 27, 3, [6, 4, 454]), (106, .iconst 1, 1, []), (107, .aload_n 0, 1, []), (108, .getfield 9, 3, [6, 0, 450]), (111, .getfield 103, 3, [2, 10, 531]), (114, .aload_n 0, 1, []), (115, .getfield 9, 3, [6, 0, 450]), (118, .getfield 72, 3, [2, 9, 515]), (121, .aload_n 0, 1, []), (122, .getfield 9, 3, [6, 0, 450]), (125, .getfield 72, 3, [2, 9, 515]), (128, .invokevirtual 87, 3, []), (131, .pop, 1, []), (132, .aload_n 0, 1, []), (133, .getfield 9, 3, [6, 0, 450]), (136, .invokevirtual 97, 3, [0, 30, 0, 527]), (139, .aload_n 0, 1, []), (140, .invokevirtual 262, 3, []), (143, .goto 80, 3, [223]), (146, .aload_n 0, 1, []), (147, .getfield 9, 3, [6, 0, 450]), (150, .getfield 72, 3, [2, 9, 515]), (153, .istore_n 2, 1, []), (154, .aload_n 0, 1, []), (155, .getfield 9, 3, [6, 0, 450]), (158, .invokevirtual 97, 3, [0, 30, 0, 527])]
def zr_36_1 : List z_R := [(161, .aload_n 0, 1, []), (162, .getfield 9, 3, [6, 0, 450]), (165, .getfield 60, 3, [2, 8, 513]), (168, .getstatic 155, 3, [6, 532]), (171, .if_acmp .ne 13, 3, [184]), (174, .aload_n 0, 1, []), (175, .iconst 0, 1, []), (176, .iconst 2, 1, []), (177, .iload_n 2, 1, []), (178, .invokevirtual 275, 3, []), (181, .goto 42, 3, [223]), (184, .aload_n 0, 1, []), (185, .iload_n 1, 1, []), (186, .iconst 1, 1, []), (187, .iadd, 1, []), (188, .invokevirtual 75, 3, [0, 33, 1, 516]), (191, .aload_n 0, 1, []), (192, .getstatic 155, 3, [6, 532]), (195, .invokevirtual 116, 3, []), (198, .aload_n 0, 1, []), (199, .getfield 27, 3, [6, 4, 454]), (202, .getfield 278, 3, [4, 5, 533]), (205, .aload_n 0, 1, []), (206, .getfield 27, 3, [6, 4, 454]), (209, .getfield 217, 3, [4, 6, 534]), (212, .iconst 1, 1, []), (213, .isub, 1, []), (214, .iload_n 2, 1, []), (215, .iastore, 1, []), (216, .goto 7, 3, [223]), (219, .aload_n 0, 1, []), (220, .invokevirtual 82, 3, [0, 32, 0, 518]), (223, .return_, 1, [])]
def zr_36 : List z_R := zr_36_0 ++ (zr_36_1)
/-- 37: FiberWorks$Words.clear ()V -/
def zr_37 : List z_R := [(0, .aload_n 0, 1, []), (1, .iconst 0, 1, []), (2, .putfield 19, 3, [2, 2, 413]), (5, .return_, 1, [])]
/-- 38: FiberWorksLaw.start (LFiberWorks;)I -/
def zr_38 : List z_R := [(0, .aload_n 0, 1, []), (1, .invokevirtual 15, 3, [0, 39, 0, 535]), (4, .goto 6, 3, [10]), (7, .astore_n 1, 1, []), (8, .iconst 1, 1, []), (9, .ireturn, 1, []), (10, .iconst 0, 1, []), (11, .ireturn, 1, [])]
/-- 39: FiberWorks.start ()V -/
def zr_39 : List z_R := [(0, .aload_n 0, 1, []), (1, .getfield 73, 3, [0, 8, 405]), (4, .ifCond .ne 13, 3, [17]), (7, .new 137, 3, [9, 11, 1]), (10, .dup, 1, []), (11, .ldc 139, 2, []), (13, .invokespecial 141, 3, []), (16, .athrow, 1, []), (17, .aload_n 0, 1, []), (18, .getfield 69, 3, [0, 7, 404]), (21, .invokevirtual 142, 3, []), (24, .return_, 1, [])]
/-- 40: FiberWorksLaw.run (LFiberWorks;I[J)I -/
def zr_40 : List z_R := [(0, .aload_n 2, 1, []), (1, .iconst 0, 1, []), (2, .aload_n 0, 1, []), (3, .iload_n 1, 1, []), (4, .invokevirtual 20, 3, [0, 41, 1, 537]), (7, .i2l, 1, []), (8, .lastore, 1, []), (9, .goto 9, 3, [18]), (12, .astore_n 3, 1, []), (13, .iconst 1, 1, []), (14, .ireturn, 1, []), (15, .astore_n 3, 1, []), (16, .iconst 2, 1, []), (17, .ireturn, 1, []), (18, .iconst 0, 1, []), (19, .ireturn, 1, [])]
/-- 41: FiberWorks.run (I)I -/
def zr_41 : List z_R := [(0, .aload_n 0, 1, []), (1, .getfield 69, 3, [0, 7, 404]), (4, .getfield 145, 3, [8, 7, 494]), (7, .ifCond .ne 13, 3, [20]), (10, .new 137, 3, [9, 11, 1]), (13, .dup, 1, []), (14, .ldc 148, 2, []), (16, .invokespecial 141, 3, []), (19, .athrow, 1, []), (20, .iload_n 1, 1, []), (21, .ifCond .lt 10, 3, [31]), (24, .iload_n 1, 1, []), (25, .sipush 2000, 3, []), (28, .if_icmp .le 13, 3, [41]), (31, .new 107, 3, [9, 10, 1]), (34, .dup, 1, []), (35, .ldc 150, 2, []), (37, .invokespecial 111, 3, []), (40, .athrow, 1, []), (41, .aload_n 0, 1, []), (42, .getfield 69, 3, [0, 7, 404]), (45, .iload_n 1, 1, []), (46, .invokevirtual 152, 3, []), (49, .ireturn, 1, [])]
/-- 42: FiberWorksModel.<init> ()V -/
def zr_42_0 : List z_R := [(0, .aload_n 0, 1, []), (1, .invokespecial 1, 3, [1, 538]), (4, .aload_n 0, 1, []), (5, .bipush 20, 2, []), (7, .newarray .int, 2, [0]), (9, .putfield 7, 3, [9, 1, 539]), (12, .aload_n 0, 1, []), (13, .sipush 1500, 3, []), (16, .newarray .int, 2, [0]), (18, .putfield 13, 3, [9, 2, 540]), (21, .aload_n 0, 1, []), (22, .sipush 1500, 3, []), (25, .newarray .int, 2, [0]), (27, .putfield 16, 3, [9, 3, 541]), (30, .aload_n 0, 1, []), (31, .bipush 82, 2, []), (33, .newarray .int, 2, [0]), (35, .dup, 1, []), (36, .iconst 0, 1, []), (37, .bipush 101, 2, []), (39, .iastore, 1, []), (40, .dup, 1, []), (41, .iconst 1, 1, []), (42, .bipush 102, 2, []), (44, .iastore, 1, []), (45, .dup, 1, []), (46, .iconst 2, 1, []), (47, .bipush 102, 2, []), (49, .iastore, 1, []), (50, .dup, 1, []), (51, .iconst 3, 1, []), (52, .bipush 101, 2, []), (54, .iastore, 1, []), (55, .dup, 1, []), (56, .iconst 4, 1, []), (57, .bipush 99, 2, []), (59, .iastore, 1, []), (60, .dup, 1, []), (61, .iconst 5, 1, []), (62, .bipush 116, 2, []), (64, .iastore, 1, []), (65, .dup, 1, []), (66, .bipush 6, 2, []), (68, .iconst 0, 1, []), (69, .iastore, 1, []), (70, .dup, 1, []), (71, .bipush 7, 2, []), (73, .bipush 108, 2, []), (75, .iastore, 1, []), (76, .dup, 1, []), (77, .bipush 8, 2, []), (79, .bipush 101, 2, []), (81, .iastore, 1, []), (82, .dup, 1, []), (83, .bipush 9, 2, []), (85, .bipush 116, 2, []), (87, .iastore, 1, []), (88, .dup, 1, []), (89, .bipush 10, 2, []), (91, .iconst 0, 1, [])]
def zr_42_1 : List z_R := [(92, .iastore, 1, []), (93, .dup, 1, []), (94, .bipush 11, 2, []), (96, .bipush 114, 2, []), (98, .iastore, 1, []), (99, .dup, 1, []), (100, .bipush 12, 2, []), (102, .bipush 101, 2, []), (104, .iastore, 1, []), (105, .dup, 1, []), (106, .bipush 13, 2, []), (108, .bipush 99, 2, []), (110, .iastore, 1, []), (111, .dup, 1, []), (112, .bipush 14, 2, []), (114, .iconst 0, 1, []), (115, .iastore, 1, []), (116, .dup, 1, []), (117, .bipush 15, 2, []), (119, .bipush 105, 2, []), (121, .iastore, 1, []), (122, .dup, 1, []), (123, .bipush 16, 2, []), (125, .bipush 110, 2, []), (127, .iastore, 1, []), (128, .dup, 1, []), (129, .bipush 17, 2, []), (131, .iconst 0, 1, []), (132, .iastore, 1, []), (133, .dup, 1, []), (134, .bipush 18, 2, []), (136, .bipush 105, 2, []), (138, .iastore, 1, []), (139, .dup, 1, []), (140, .bipush 19, 2, []), (142, .bipush 102, 2, []), (144, .iastore, 1, []), (145, .dup, 1, []), (146, .bipush 20, 2, []), (148, .iconst 0, 1, []), (149, .iastore, 1, []), (150, .dup, 1, []), (151, .bipush 21, 2, []), (153, .bipush 116, 2, []), (155, .iastore, 1, []), (156, .dup, 1, []), (157, .bipush 22, 2, []), (159, .bipush 104, 2, []), (161, .iastore, 1, []), (162, .dup, 1, []), (163, .bipush 23, 2, []), (165, .bipush 101, 2, []), (167, .iastore, 1, []), (168, .dup, 1, []), (169, .bipush 24, 2, []), (171, .bipush 110, 2, []), (173, .iastore, 1, []), (174, .dup, 1, []), (175, .bipush 25, 2, []), (177, .iconst 0, 1, [])]
def zr_42_2 : List z_R := [(178, .iastore, 1, []), (179, .dup, 1, []), (180, .bipush 26, 2, []), (182, .bipush 101, 2, []), (184, .iastore, 1, []), (185, .dup, 1, []), (186, .bipush 27, 2, []), (188, .bipush 108, 2, []), (190, .iastore, 1, []), (191, .dup, 1, []), (192, .bipush 28, 2, []), (194, .bipush 115, 2, []), (196, .iastore, 1, []), (197, .dup, 1, []), (198, .bipush 29, 2, []), (200, .bipush 101, 2, []), (202, .iastore, 1, []), (203, .dup, 1, []), (204, .bipush 30, 2, []), (206, .iconst 0, 1, []), (207, .iastore, 1, []), (208, .dup, 1, []), (209, .bipush 31, 2, []), (211, .bipush 102, 2, []), (213, .iastore, 1, []), (214, .dup, 1, []), (215, .bipush 32, 2, []), (217, .bipush 110, 2, []), (219, .iastore, 1, []), (220, .dup, 1, []), (221, .bipush 33, 2, []), (223, .iconst 0, 1, []), (224, .iastore, 1, []), (225, .dup, 1, []), (226, .bipush 34, 2, []), (228, .bipush 104, 2, []), (230, .iastore, 1, []), (231, .dup, 1, []), (232, .bipush 35, 2, []), (234, .bipush 97, 2, []), (236, .iastore, 1, []), (237, .dup, 1, []), (238, .bipush 36, 2, []), (240, .bipush 110, 2, []), (242, .iastore, 1, []), (243, .dup, 1, []), (244, .bipush 37, 2, []), (246, .bipush 100, 2, []), (248, .iastore, 1, []), (249, .dup, 1, []), (250, .bipush 38, 2, []), (252, .bipush 108, 2, []), (254, .iastore, 1, []), (255, .dup, 1, []), (256, .bipush 39, 2, []), (258, .bipush 101, 2, []), (260, .iastore, 1, []), (261, .dup, 1, []), (262, .bipush 40, 2, []), (264, .iconst 0, 1, [])]
def zr_42_3 : List z_R := [(265, .iastore, 1, []), (266, .dup, 1, []), (267, .bipush 41, 2, []), (269, .bipush 119, 2, []), (271, .iastore, 1, []), (272, .dup, 1, []), (273, .bipush 42, 2, []), (275, .bipush 105, 2, []), (277, .iastore, 1, []), (278, .dup, 1, []), (279, .bipush 43, 2, []), (281, .bipush 116, 2, []), (283, .iastore, 1, []), (284, .dup, 1, []), (285, .bipush 44, 2, []), (287, .bipush 104, 2, []), (289, .iastore, 1, []), (290, .dup, 1, []), (291, .bipush 45, 2, []), (293, .iconst 0, 1, []), (294, .iastore, 1, []), (295, .dup, 1, []), (296, .bipush 46, 2, []), (298, .bipush 114, 2, []), (300, .iastore, 1, []), (301, .dup, 1, []), (302, .bipush 47, 2, []), (304, .bipush 101, 2, []), (306, .iastore, 1, []), (307, .dup, 1, []), (308, .bipush 48, 2, []), (310, .bipush 116, 2, []), (312, .iastore, 1, []), (313, .dup, 1, []), (314, .bipush 49, 2, []), (316, .bipush 117, 2, []), (318, .iastore, 1, []), (319, .dup, 1, []), (320, .bipush 50, 2, []), (322, .bipush 114, 2, []), (324, .iastore, 1, []), (325, .dup, 1, []), (326, .bipush 51, 2, []), (328, .bipush 110, 2, []), (330, .iastore, 1, []), (331, .dup, 1, []), (332, .bipush 52, 2, []), (334, .iconst 0, 1, []), (335, .iastore, 1, []), (336, .dup, 1, []), (337, .bipush 53, 2, []), (339, .bipush 101, 2, []), (341, .iastore, 1, []), (342, .dup, 1, []), (343, .bipush 54, 2, []), (345, .bipush 110, 2, []), (347, .iastore, 1, []), (348, .dup, 1, []), (349, .bipush 55, 2, []), (351, .bipush 100, 2, [])]
def zr_42_4 : List z_R := [(353, .iastore, 1, []), (354, .dup, 1, []), (355, .bipush 56, 2, []), (357, .iconst 0, 1, []), (358, .iastore, 1, []), (359, .dup, 1, []), (360, .bipush 57, 2, []), (362, .bipush 116, 2, []), (364, .iastore, 1, []), (365, .dup, 1, []), (366, .bipush 58, 2, []), (368, .bipush 114, 2, []), (370, .iastore, 1, []), (371, .dup, 1, []), (372, .bipush 59, 2, []), (374, .bipush 117, 2, []), (376, .iastore, 1, []), (377, .dup, 1, []), (378, .bipush 60, 2, []), (380, .bipush 101, 2, []), (382, .iastore, 1, []), (383, .dup, 1, []), (384, .bipush 61, 2, []), (386, .iconst 0, 1, []), (387, .iastore, 1, []), (388, .dup, 1, []), (389, .bipush 62, 2, []), (391, .bipush 102, 2, []), (393, .iastore, 1, []), (394, .dup, 1, []), (395, .bipush 63, 2, []), (397, .bipush 97, 2, []), (399, .iastore, 1, []), (400, .dup, 1, []), (401, .bipush 64, 2, []), (403, .bipush 108, 2, []), (405, .iastore, 1, []), (406, .dup, 1, []), (407, .bipush 65, 2, []), (409, .bipush 115, 2, []), (411, .iastore, 1, []), (412, .dup, 1, []), (413, .bipush 66, 2, []), (415, .bipush 101, 2, []), (417, .iastore, 1, []), (418, .dup, 1, []), (419, .bipush 67, 2, []), (421, .iconst 0, 1, []), (422, .iastore, 1, []), (423, .dup, 1, []), (424, .bipush 68, 2, []), (426, .bipush 105, 2, []), (428, .iastore, 1, []), (429, .dup, 1, []), (430, .bipush 69, 2, []), (432, .bipush 110, 2, []), (434, .iastore, 1, []), (435, .dup, 1, []), (436, .bipush 70, 2, []), (438, .bipush 116, 2, [])]
def zr_42_5 : List z_R := [(440, .iastore, 1, []), (441, .dup, 1, []), (442, .bipush 71, 2, []), (444, .iconst 0, 1, []), (445, .iastore, 1, []), (446, .dup, 1, []), (447, .bipush 72, 2, []), (449, .bipush 98, 2, []), (451, .iastore, 1, []), (452, .dup, 1, []), (453, .bipush 73, 2, []), (455, .bipush 111, 2, []), (457, .iastore, 1, []), (458, .dup, 1, []), (459, .bipush 74, 2, []), (461, .bipush 111, 2, []), (463, .iastore, 1, []), (464, .dup, 1, []), (465, .bipush 75, 2, []), (467, .bipush 108, 2, []), (469, .iastore, 1, []), (470, .dup, 1, []), (471, .bipush 76, 2, []), (473, .iconst 0, 1, []), (474, .iastore, 1, []), (475, .dup, 1, []), (476, .bipush 77, 2, []), (478, .bipush 117, 2, []), (480, .iastore, 1, []), (481, .dup, 1, []), (482, .bipush 78, 2, []), (484, .bipush 110, 2, []), (486, .iastore, 1, []), (487, .dup, 1, []), (488, .bipush 79, 2, []), (490, .bipush 105, 2, []), (492, .iastore, 1, []), (493, .dup, 1, []), (494, .bipush 80, 2, []), (496, .bipush 116, 2, []), (498, .iastore, 1, []), (499, .dup, 1, []), (500, .bipush 81, 2, []), (502, .iconst 0, 1, []), (503, .iastore, 1, []), (504, .putfield 19, 3, [9, 4, 542]), (507, .aload_n 0, 1, []), (508, .iconst (-1), 1, []), (509, .putfield 22, 3, [9, 12, 543]), (512, .aload_n 0, 1, []), (513, .sipush 1500, 3, []), (516, .newarray .int, 2, [0]), (518, .putfield 26, 3, [9, 14, 544]), (521, .aload_n 0, 1, []), (522, .sipush 1500, 3, []), (525, .newarray .int, 2, [0]), (527, .putfield 29, 3, [9, 15, 545]), (530, .aload_n 0, 1, []), (531, .sipush 1500, 3, []), (534, .newarray .int, 2, [0])]
def zr_42_6 : List z_R := [(536, .putfield 32, 3, [9, 16, 546]), (539, .aload_n 0, 1, []), (540, .sipush 8000, 3, []), (543, .newarray .int, 2, [0]), (545, .putfield 35, 3, [9, 17, 547]), (548, .aload_n 0, 1, []), (549, .ldc 38, 2, [35200, 548]), (551, .newarray .long, 2, [3]), (553, .putfield 39, 3, [9, 18, 549]), (556, .aload_n 0, 1, []), (557, .bipush 8, 2, []), (559, .newarray .int, 2, [0]), (561, .putfield 43, 3, [9, 20, 550]), (564, .aload_n 0, 1, []), (565, .bipush 8, 2, []), (567, .newarray .int, 2, [0]), (569, .putfield 46, 3, [9, 21, 551]), (572, .aload_n 0, 1, []), (573, .bipush 8, 2, []), (575, .newarray .int, 2, [0]), (577, .putfield 49, 3, [9, 22, 552]), (580, .aload_n 0, 1, []), (581, .bipush 8, 2, []), (583, .newarray .int, 2, [0]), (585, .putfield 52, 3, [9, 23, 553]), (588, .aload_n 0, 1, []), (589, .bipush 51, 2, []), (591, .newarray .int, 2, [0]), (593, .putfield 55, 3, [9, 24, 554]), (596, .aload_n 0, 1, []), (597, .bipush 51, 2, []), (599, .newarray .boolean, 2, [2]), (601, .putfield 58, 3, [9, 25, 555]), (604, .aload_n 0, 1, []), (605, .sipush 600, 3, []), (608, .newarray .int, 2, [0]), (610, .putfield 62, 3, [9, 29, 556]), (613, .aload_n 0, 1, []), (614, .sipush 600, 3, []), (617, .newarray .int, 2, [0]), (619, .putfield 65, 3, [9, 30, 557]), (622, .aload_n 0, 1, []), (623, .sipush 600, 3, []), (626, .newarray .int, 2, [0]), (628, .putfield 68, 3, [9, 31, 558]), (631, .aload_n 0, 1, []), (632, .sipush 600, 3, []), (635, .newarray .int, 2, [0]), (637, .putfield 71, 3, [9, 32, 559]), (640, .aload_n 0, 1, []), (641, .sipush 600, 3, []), (644, .newarray .int, 2, [0]), (646, .putfield 74, 3, [9, 33, 560]), (649, .aload_n 0, 1, []), (650, .sipush 600, 3, []), (653, .newarray .int, 2, [0]), (655, .putfield 77, 3, [9, 34, 561]), (658, .aload_n 0, 1, []), (659, .sipush 600, 3, []), (662, .newarray .int, 2, [0])]
def zr_42_7 : List z_R := [(664, .putfield 80, 3, [9, 35, 562]), (667, .aload_n 0, 1, []), (668, .sipush 600, 3, []), (671, .newarray .int, 2, [0]), (673, .putfield 83, 3, [9, 36, 563]), (676, .aload_n 0, 1, []), (677, .sipush 600, 3, []), (680, .newarray .int, 2, [0]), (682, .putfield 86, 3, [9, 37, 564]), (685, .aload_n 0, 1, []), (686, .sipush 600, 3, []), (689, .newarray .int, 2, [0]), (691, .putfield 89, 3, [9, 38, 565]), (694, .aload_n 0, 1, []), (695, .sipush 600, 3, []), (698, .newarray .int, 2, [0]), (700, .putfield 92, 3, [9, 39, 566]), (703, .aload_n 0, 1, []), (704, .sipush 600, 3, []), (707, .newarray .int, 2, [0]), (709, .putfield 95, 3, [9, 40, 567]), (712, .aload_n 0, 1, []), (713, .sipush 600, 3, []), (716, .newarray .int, 2, [0]), (718, .putfield 98, 3, [9, 41, 568]), (721, .aload_n 0, 1, []), (722, .sipush 600, 3, []), (725, .newarray .int, 2, [0]), (727, .putfield 101, 3, [9, 42, 569]), (730, .aload_n 0, 1, []), (731, .sipush 300, 3, []), (734, .newarray .int, 2, [0]), (736, .putfield 104, 3, [9, 43, 570]), (739, .aload_n 0, 1, []), (740, .sipush 300, 3, []), (743, .newarray .int, 2, [0]), (745, .putfield 107, 3, [9, 44, 571]), (748, .aload_n 0, 1, []), (749, .sipush 300, 3, []), (752, .newarray .int, 2, [0]), (754, .putfield 110, 3, [9, 45, 572]), (757, .aload_n 0, 1, []), (758, .sipush 300, 3, []), (761, .newarray .int, 2, [0]), (763, .putfield 113, 3, [9, 46, 573]), (766, .aload_n 0, 1, []), (767, .sipush 300, 3, []), (770, .newarray .int, 2, [0]), (772, .putfield 116, 3, [9, 47, 574]), (775, .aload_n 0, 1, []), (776, .sipush 300, 3, []), (779, .newarray .int, 2, [0]), (781, .putfield 119, 3, [9, 48, 575]), (784, .aload_n 0, 1, []), (785, .sipush 300, 3, []), (788, .newarray .int, 2, [0]), (790, .putfield 122, 3, [9, 49, 576]), (793, .aload_n 0, 1, []), (794, .sipush 300, 3, []), (797, .newarray .int, 2, [0])]
def zr_42_8 : List z_R := [(799, .putfield 125, 3, [9, 50, 577]), (802, .aload_n 0, 1, []), (803, .sipush 300, 3, []), (806, .newarray .int, 2, [0]), (808, .putfield 128, 3, [9, 51, 578]), (811, .aload_n 0, 1, []), (812, .bipush 50, 2, []), (814, .newarray .int, 2, [0]), (816, .putfield 131, 3, [9, 56, 579]), (819, .aload_n 0, 1, []), (820, .bipush 50, 2, []), (822, .newarray .int, 2, [0]), (824, .putfield 134, 3, [9, 57, 580]), (827, .aload_n 0, 1, []), (828, .bipush 50, 2, []), (830, .newarray .int, 2, [0]), (832, .putfield 137, 3, [9, 58, 581]), (835, .aload_n 0, 1, []), (836, .bipush 50, 2, []), (838, .newarray .int, 2, [0]), (840, .putfield 140, 3, [9, 59, 582]), (843, .aload_n 0, 1, []), (844, .bipush 50, 2, []), (846, .newarray .int, 2, [0]), (848, .putfield 143, 3, [9, 60, 583]), (851, .aload_n 0, 1, []), (852, .bipush 50, 2, []), (854, .newarray .int, 2, [0]), (856, .putfield 146, 3, [9, 61, 584]), (859, .aload_n 0, 1, []), (860, .bipush 50, 2, []), (862, .newarray .int, 2, [0]), (864, .putfield 149, 3, [9, 62, 585]), (867, .aload_n 0, 1, []), (868, .bipush 50, 2, []), (870, .newarray .int, 2, [0]), (872, .putfield 152, 3, [9, 63, 586]), (875, .aload_n 0, 1, []), (876, .bipush 50, 2, []), (878, .newarray .int, 2, [0]), (880, .putfield 155, 3, [9, 64, 587]), (883, .aload_n 0, 1, []), (884, .bipush 50, 2, []), (886, .newarray .int, 2, [0]), (888, .putfield 158, 3, [9, 65, 588]), (891, .aload_n 0, 1, []), (892, .bipush 50, 2, []), (894, .newarray .int, 2, [0]), (896, .putfield 161, 3, [9, 66, 589]), (899, .aload_n 0, 1, []), (900, .bipush 50, 2, []), (902, .newarray .int, 2, [0]), (904, .putfield 164, 3, [9, 67, 590]), (907, .aload_n 0, 1, []), (908, .bipush 50, 2, []), (910, .newarray .int, 2, [0]), (912, .putfield 167, 3, [9, 68, 591]), (915, .aload_n 0, 1, []), (916, .bipush 50, 2, []), (918, .newarray .int, 2, [0])]
def zr_42_9 : List z_R := [(920, .putfield 170, 3, [9, 69, 592]), (923, .aload_n 0, 1, []), (924, .bipush 50, 2, []), (926, .newarray .int, 2, [0]), (928, .putfield 173, 3, [9, 70, 593]), (931, .aload_n 0, 1, []), (932, .bipush 50, 2, []), (934, .newarray .int, 2, [0]), (936, .putfield 176, 3, [9, 71, 594]), (939, .aload_n 0, 1, []), (940, .bipush 50, 2, []), (942, .newarray .boolean, 2, [2]), (944, .putfield 179, 3, [9, 72, 595]), (947, .aload_n 0, 1, []), (948, .sipush 600, 3, []), (951, .newarray .int, 2, [0]), (953, .putfield 182, 3, [9, 76, 596]), (956, .aload_n 0, 1, []), (957, .ldc 185, 2, [200000, 597]), (959, .newarray .int, 2, [0]), (961, .putfield 186, 3, [9, 78, 598]), (964, .aload_n 0, 1, []), (965, .ldc 185, 2, [200000, 597]), (967, .newarray .int, 2, [0]), (969, .putfield 189, 3, [9, 79, 599]), (972, .aload_n 0, 1, []), (973, .ldc 185, 2, [200000, 597]), (975, .newarray .int, 2, [0]), (977, .putfield 192, 3, [9, 80, 600]), (980, .aload_n 0, 1, []), (981, .ldc 185, 2, [200000, 597]), (983, .newarray .int, 2, [0]), (985, .putfield 195, 3, [9, 81, 601]), (988, .aload_n 0, 1, []), (989, .sipush 700, 3, []), (992, .newarray .int, 2, [0]), (994, .putfield 198, 3, [9, 83, 602]), (997, .aload_n 0, 1, []), (998, .sipush 700, 3, []), (1001, .newarray .int, 2, [0]), (1003, .putfield 201, 3, [9, 84, 603]), (1006, .aload_n 0, 1, []), (1007, .sipush 700, 3, []), (1010, .newarray .int, 2, [0]), (1012, .putfield 204, 3, [9, 85, 604]), (1015, .aload_n 0, 1, []), (1016, .sipush 700, 3, []), (1019, .newarray .int, 2, [0]), (1021, .putfield 207, 3, [9, 86, 605]), (1024, .aload_n 0, 1, []), (1025, .sipush 600, 3, []), (1028, .newarray .int, 2, [0]), (1030, .putfield 210, 3, [9, 87, 606]), (1033, .aload_n 0, 1, []), (1034, .sipush 600, 3, []), (1037, .newarray .int, 2, [0]), (1039, .putfield 213, 3, [9, 88, 607]), (1042, .aload_n 0, 1, []), (1043, .sipush 600, 3, []), (1046, .newarray .int, 2, [0])]
def zr_42_10 : List z_R := [(1048, .putfield 216, 3, [9, 89, 608]), (1051, .aload_n 0, 1, []), (1052, .sipush 600, 3, []), (1055, .newarray .int, 2, [0]), (1057, .putfield 219, 3, [9, 90, 609]), (1060, .aload_n 0, 1, []), (1061, .sipush 1500, 3, []), (1064, .newarray .long, 2, [3]), (1066, .putfield 222, 3, [9, 95, 610]), (1069, .aload_n 0, 1, []), (1070, .ldc 225, 2, [140000, 611]), (1072, .newarray .int, 2, [0]), (1074, .putfield 226, 3, [9, 106, 612]), (1077, .aload_n 0, 1, []), (1078, .ldc 225, 2, [140000, 611]), (1080, .newarray .int, 2, [0]), (1082, .putfield 229, 3, [9, 107, 613]), (1085, .aload_n 0, 1, []), (1086, .ldc 225, 2, [140000, 611]), (1088, .newarray .int, 2, [0]), (1090, .putfield 232, 3, [9, 108, 614]), (1093, .aload_n 0, 1, []), (1094, .ldc 225, 2, [140000, 611]), (1096, .newarray .int, 2, [0]), (1098, .putfield 235, 3, [9, 109, 615]), (1101, .aload_n 0, 1, []), (1102, .ldc 238, 2, [340000, 616]), (1104, .newarray .int, 2, [0]), (1106, .putfield 239, 3, [9, 110, 617]), (1109, .aload_n 0, 1, []), (1110, .ldc 238, 2, [340000, 616]), (1112, .newarray .int, 2, [0]), (1114, .putfield 242, 3, [9, 111, 618]), (1117, .aload_n 0, 1, []), (1118, .ldc 238, 2, [340000, 616]), (1120, .newarray .int, 2, [0]), (1122, .putfield 245, 3, [9, 112, 619]), (1125, .aload_n 0, 1, []), (1126, .ldc 238, 2, [340000, 616]), (1128, .newarray .int, 2, [0]), (1130, .putfield 248, 3, [9, 113, 620]), (1133, .aload_n 0, 1, []), (1134, .sipush 1001, 3, []), (1137, .newarray .int, 2, [0]), (1139, .putfield 251, 3, [9, 115, 621]), (1142, .aload_n 0, 1, []), (1143, .sipush 1001, 3, []), (1146, .newarray .int, 2, [0]), (1148, .putfield 254, 3, [9, 116, 622]), (1151, .aload_n 0, 1, []), (1152, .sipush 1001, 3, []), (1155, .newarray .int, 2, [0]), (1157, .putfield 257, 3, [9, 117, 623]), (1160, .aload_n 0, 1, []), (1161, .sipush 1001, 3, []), (1164, .newarray .int, 2, [0]), (1166, .putfield 260, 3, [9, 118, 624]), (1169, .aload_n 0, 1, []), (1170, .sipush 1001, 3, []), (1173, .newarray .int, 2, [0])]
def zr_42_11 : List z_R := [(1175, .putfield 263, 3, [9, 119, 625]), (1178, .aload_n 0, 1, []), (1179, .sipush 1001, 3, []), (1182, .newarray .boolean, 2, [2]), (1184, .putfield 266, 3, [9, 120, 626]), (1187, .aload_n 0, 1, []), (1188, .ldc 185, 2, [200000, 597]), (1190, .newarray .boolean, 2, [2]), (1192, .putfield 269, 3, [9, 121, 627]), (1195, .aload_n 0, 1, []), (1196, .iconst (-1), 1, []), (1197, .putfield 272, 3, [9, 122, 628]), (1200, .return_, 1, [])]
def zr_42 : List z_R := zr_42_0 ++ (zr_42_1 ++ (zr_42_2 ++ (zr_42_3 ++ (zr_42_4 ++ (zr_42_5 ++ (zr_42_6 ++ (zr_42_7 ++ (zr_42_8 ++ (zr_42_9 ++ (zr_42_10 ++ (zr_42_11)))))))))))
/-- 43: FiberWorksModel.thrown ()I -/
def zr_43 : List z_R := [(0, .aload_n 0, 1, []), (1, .getfield 275, 3, [9, 0, 629]), (4, .ireturn, 1, [])]
/-- 44: FiberWorksModel.feed (IIIII)V -/
def zr_44_0 : List z_R := [(0, .aload_n 0, 1, []), (1, .iconst 0, 1, []), (2, .putfield 275, 3, [9, 0, 629]), (5, .iconst 0, 1, []), (6, .istore 6, 2, []), (8, .iload 6, 2, []), (10, .iconst 4, 1, []), (11, .if_icmp .ge 107, 3, [118]), (14, .bipush 24, 2, []), (16, .bipush 8, 2, []), (18, .iload 6, 2, []), (20, .imul, 1, []), (21, .isub, 1, []), (22, .istore 7, 2, []), (24, .aload_n 0, 1, []), (25, .getfield 7, 3, [9, 1, 539]), (28, .iload 6, 2, []), (30, .iload_n 1, 1, []), (31, .iload 7, 2, []), (33, .ishr, 1, []), (34, .sipush 255, 3, []), (37, .iand, 1, []), (38, .iastore, 1, []), (39, .aload_n 0, 1, []), (40, .getfield 7, 3, [9, 1, 539]), (43, .iconst 4, 1, []), (44, .iload 6, 2, []), (46, .iadd, 1, []), (47, .iload_n 2, 1, []), (48, .iload 7, 2, []), (50, .ishr, 1, []), (51, .sipush 255, 3, []), (54, .iand, 1, []), (55, .iastore, 1, []), (56, .aload_n 0, 1, []), (57, .getfield 7, 3, [9, 1, 539]), (60, .bipush 8, 2, []), (62, .iload 6, 2, []), (64, .iadd, 1, []), (65, .iload_n 3, 1, []), (66, .iload 7, 2, []), (68, .ishr, 1, []), (69, .sipush 255, 3, []), (72, .iand, 1, []), (73, .iastore, 1, []), (74, .aload_n 0, 1, []), (75, .getfield 7, 3, [9, 1, 539]), (78, .bipush 12, 2, []), (80, .iload 6, 2, []), (82, .iadd, 1, []), (83, .iload 4, 2, []), (85, .iload 7, 2, []), (87, .ishr, 1, []), (88, .sipush 255, 3, []), (91, .iand, 1, []), (92, .iastore, 1, []), (93, .aload_n 0, 1, []), (94, .getfield 7, 3, [9, 1, 539]), (97, .bipush 16, 2, []), (99, .iload 6, 2, [])]
def zr_44_1 : List z_R := [(101, .iadd, 1, []), (102, .iload 5, 2, []), (104, .iload 7, 2, []), (106, .ishr, 1, []), (107, .sipush 255, 3, []), (110, .iand, 1, []), (111, .iastore, 1, []), (112, .iinc 6 1, 3, []), (115, .goto (-107), 3, [8]), (118, .return_, 1, [])]
def zr_44 : List z_R := zr_44_0 ++ (zr_44_1)
/-- 45: FiberWorksModel.end (I)I -/
def zr_45 : List z_R := [(0, .aload_n 0, 1, []), (1, .iconst 0, 1, []), (2, .putfield 275, 3, [9, 0, 629]), (5, .iload_n 1, 1, []), (6, .ifCond .lt 21, 3, [27]), (9, .iload_n 1, 1, []), (10, .bipush 20, 2, []), (12, .if_icmp .gt 15, 3, [27]), (15, .aload_n 0, 1, []), (16, .getfield 278, 3, [9, 5, 630]), (19, .iload_n 1, 1, []), (20, .iadd, 1, []), (21, .sipush 1500, 3, []), (24, .if_icmp .le 5, 3, [29]), (27, .iconst (-1), 1, []), (28, .ireturn, 1, []), (29, .iconst 0, 1, []), (30, .istore_n 2, 1, []), (31, .iload_n 2, 1, []), (32, .iload_n 1, 1, []), (33, .if_icmp .ge 26, 3, [59]), (36, .aload_n 0, 1, []), (37, .getfield 13, 3, [9, 2, 540]), (40, .aload_n 0, 1, []), (41, .getfield 278, 3, [9, 5, 630]), (44, .iload_n 2, 1, []), (45, .iadd, 1, []), (46, .aload_n 0, 1, []), (47, .getfield 7, 3, [9, 1, 539]), (50, .iload_n 2, 1, []), (51, .iaload, 1, []), (52, .iastore, 1, []), (53, .iinc 2 1, 3, []), (56, .goto (-25), 3, [31]), (59, .aload_n 0, 1, []), (60, .dup, 1, []), (61, .getfield 278, 3, [9, 5, 630]), (64, .iload_n 1, 1, []), (65, .iadd, 1, []), (66, .putfield 278, 3, [9, 5, 630]), (69, .iconst 0, 1, []), (70, .istore_n 2, 1, []), (71, .iload_n 2, 1, []), (72, .bipush 20, 2, []), (74, .if_icmp .ge 16, 3, [90]), (77, .aload_n 0, 1, []), (78, .getfield 7, 3, [9, 1, 539]), (81, .iload_n 2, 1, []), (82, .iconst 0, 1, []), (83, .iastore, 1, []), (84, .iinc 2 1, 3, []), (87, .goto (-16), 3, [71]), (90, .aload_n 0, 1, []), (91, .getfield 278, 3, [9, 5, 630]), (94, .ireturn, 1, [])]
/-- 46: FiberWorksModel.read ()I -/
def zr_46_0 : List z_R := [(0, .aload_n 0, 1, []), (1, .aload_n 0, 1, []), (2, .getfield 278, 3, [9, 5, 630]), (5, .putfield 284, 3, [9, 6, 631]), (8, .aload_n 0, 1, []), (9, .iconst 0, 1, []), (10, .putfield 278, 3, [9, 5, 630]), (13, .iconst 0, 1, []), (14, .istore_n 1, 1, []), (15, .iload_n 1, 1, []), (16, .aload_n 0, 1, []), (17, .getfield 284, 3, [9, 6, 631]), (20, .if_icmp .ge 21, 3, [41]), (23, .aload_n 0, 1, []), (24, .getfield 16, 3, [9, 3, 541]), (27, .iload_n 1, 1, []), (28, .aload_n 0, 1, []), (29, .getfield 13, 3, [9, 2, 540]), (32, .iload_n 1, 1, []), (33, .iaload, 1, []), (34, .iastore, 1, []), (35, .iinc 1 1, 3, []), (38, .goto (-23), 3, [15]), (41, .aload_n 0, 1, []), (42, .iconst 0, 1, []), (43, .putfield 527, 3, [9, 91, 632]), (46, .aload_n 0, 1, []), (47, .iconst 0, 1, []), (48, .putfield 531, 3, [9, 94, 633]), (51, .aload_n 0, 1, []), (52, .invokevirtual 534, 3, [0, 47, 0, 634]), (55, .aload_n 0, 1, []), (56, .invokevirtual 537, 3, [0, 48, 0, 635]), (59, .aload_n 0, 1, []), (60, .getfield 281, 3, [9, 11, 636]), (63, .ifCond .ne 7, 3, [70]), (66, .aload_n 0, 1, []), (67, .invokevirtual 540, 3, []), (70, .aload_n 0, 1, []), (71, .aload_n 0, 1, []), (72, .getfield 281, 3, [9, 11, 636]), (75, .ifCond .le 7, 3, [82]), (78, .iconst 1, 1, []), (79, .goto 4, 3, [83]), (82, .iconst 0, 1, []), (83, .putfield 275, 3, [9, 0, 629]), (86, .aload_n 0, 1, []), (87, .getfield 281, 3, [9, 11, 636]), (90, .ifCond .le 5, 3, [95]), (93, .iconst 0, 1, []), (94, .ireturn, 1, []), (95, .aload_n 0, 1, []), (96, .iconst 1, 1, []), (97, .putfield 527, 3, [9, 91, 632]), (100, .aload_n 0, 1, []), (101, .aload_n 0, 1, []), (102, .getfield 210, 3, [9, 87, 606]), (105, .aload_n 0, 1, []), (106, .getfield 442, 3, [9, 28, 637]), (109, .iaload, 1, [])]
def zr_46_1 : List z_R := [(110, .putfield 543, 3, [9, 92, 638]), (113, .aload_n 0, 1, []), (114, .aload_n 0, 1, []), (115, .getfield 213, 3, [9, 88, 607]), (118, .aload_n 0, 1, []), (119, .getfield 442, 3, [9, 28, 637]), (122, .iaload, 1, []), (123, .putfield 546, 3, [9, 93, 639]), (126, .iconst 0, 1, []), (127, .istore_n 1, 1, []), (128, .iload_n 1, 1, []), (129, .aload_n 0, 1, []), (130, .getfield 333, 3, [9, 13, 640]), (133, .if_icmp .ge 65, 3, [198]), (136, .iload_n 1, 1, []), (137, .iconst 3, 1, []), (138, .if_icmp .ge 7, 3, [145]), (141, .lconst 1, 1, []), (142, .goto 28, 3, [170]), (145, .lconst 1, 1, []), (146, .aload_n 0, 1, []), (147, .getfield 222, 3, [9, 95, 610]), (150, .aload_n 0, 1, []), (151, .getfield 26, 3, [9, 14, 544]), (154, .iload_n 1, 1, []), (155, .iaload, 1, []), (156, .laload, 1, []), (157, .ladd, 1, []), (158, .aload_n 0, 1, []), (159, .getfield 222, 3, [9, 95, 610]), (162, .aload_n 0, 1, []), (163, .getfield 29, 3, [9, 15, 545]), (166, .iload_n 1, 1, []), (167, .iaload, 1, []), (168, .laload, 1, []), (169, .ladd, 1, []), (170, .lstore_n 2, 1, []), (171, .aload_n 0, 1, []), (172, .getfield 222, 3, [9, 95, 610]), (175, .iload_n 1, 1, []), (176, .lload_n 2, 1, []), (177, .ldc2_w 549, 3, [4000000000, 641]), (180, .lcmp, 1, []), (181, .ifCond .le 9, 3, [190]), (184, .ldc2_w 549, 3, [4000000000, 641]), (187, .goto 4, 3, [191]), (190, .lload_n 2, 1, []), (191, .lastore, 1, []), (192, .iinc 1 1, 3, []), (195, .goto (-67), 3, [128]), (198, .aload_n 0, 1, []), (199, .getfield 360, 3, [9, 26, 642]), (202, .ireturn, 1, [])]
def zr_46 : List z_R := zr_46_0 ++ (zr_46_1)
/-- 47: FiberWorksModel.clearRun ()V -/
def zr_47 : List z_R := [(0, .aload_n 0, 1, []), (1, .iconst 0, 1, []), (2, .putfield 554, 3, [9, 96, 643]), (5, .aload_n 0, 1, []), (6, .iconst 0, 1, []), (7, .putfield 557, 3, [9, 97, 644]), (10, .aload_n 0, 1, []), (11, .iconst 0, 1, []), (12, .putfield 560, 3, [9, 98, 645]), (15, .aload_n 0, 1, []), (16, .iconst 0, 1, []), (17, .putfield 563, 3, [9, 99, 646]), (20, .aload_n 0, 1, []), (21, .iconst 0, 1, []), (22, .putfield 566, 3, [9, 100, 647]), (25, .aload_n 0, 1, []), (26, .iconst (-1), 1, []), (27, .putfield 569, 3, [9, 101, 648]), (30, .aload_n 0, 1, []), (31, .iconst 0, 1, []), (32, .putfield 572, 3, [9, 114, 649]), (35, .aload_n 0, 1, []), (36, .iconst 0, 1, []), (37, .putfield 575, 3, [9, 104, 650]), (40, .aload_n 0, 1, []), (41, .iconst 0, 1, []), (42, .putfield 578, 3, [9, 105, 651]), (45, .return_, 1, [])]
/-- 48: FiberWorksModel.readAll ()V -/
def zr_48_0 : List z_R := [(0, .aload_n 0, 1, []), (1, .iconst 0, 1, []), (2, .putfield 290, 3, [9, 8, 652]), (5, .aload_n 0, 1, []), (6, .iconst 0, 1, []), (7, .putfield 287, 3, [9, 9, 653]), (10, .aload_n 0, 1, []), (11, .iconst 0, 1, []), (12, .putfield 281, 3, [9, 11, 636]), (15, .aload_n 0, 1, []), (16, .iconst (-1), 1, []), (17, .putfield 22, 3, [9, 12, 543]), (20, .aload_n 0, 1, []), (21, .iconst 0, 1, []), (22, .putfield 360, 3, [9, 26, 642]), (25, .aload_n 0, 1, []), (26, .iconst 0, 1, []), (27, .putfield 454, 3, [9, 27, 654]), (30, .aload_n 0, 1, []), (31, .iconst 0, 1, []), (32, .putfield 336, 3, [9, 19, 655]), (35, .aload_n 0, 1, []), (36, .iconst 3, 1, []), (37, .putfield 333, 3, [9, 13, 640]), (40, .aload_n 0, 1, []), (41, .iconst 0, 1, []), (42, .putfield 378, 3, [9, 52, 656]), (45, .aload_n 0, 1, []), (46, .invokevirtual 327, 3, [0, 49, 0, 657]), (49, .aload_n 0, 1, []), (50, .getfield 281, 3, [9, 11, 636]), (53, .ifCond .ne 20, 3, [73]), (56, .aload_n 0, 1, []), (57, .getfield 297, 3, [9, 7, 658]), (60, .sipush 300, 3, []), (63, .if_icmp .ne 10, 3, [73]), (66, .aload_n 0, 1, []), (67, .invokevirtual 457, 3, []), (70, .goto (-21), 3, [49]), (73, .aload_n 0, 1, []), (74, .iconst (-1), 1, []), (75, .iconst 0, 1, []), (76, .invokevirtual 397, 3, [0, 54, 2, 659]), (79, .aload_n 0, 1, []), (80, .getfield 281, 3, [9, 11, 636]), (83, .ifCond .ne 81, 3, [164]), (86, .aload_n 0, 1, []), (87, .getfield 375, 3, [9, 53, 660]), (90, .iconst 4, 1, []), (91, .if_icmp .eq 73, 3, [164]), (94, .aload_n 0, 1, []), (95, .getfield 375, 3, [9, 53, 660]), (98, .tableswitch 59 0 2 #[26, 33, 46], 26, [157, 124, 131, 144]), (124, .aload_n 0, 1, []), (125, .invokevirtual 460, 3, [0, 55, 0, 661]), (128, .goto (-49), 3, [79]), (131, .aload_n 0, 1, []), (132, .aload_n 0, 1, []), (133, .getfield 378, 3, [9, 52, 656]), (136, .iconst 1, 1, [])]
def zr_48_1 : List z_R := [(137, .isub, 1, []), (138, .invokevirtual 463, 3, [0, 56, 1, 662]), (141, .goto (-62), 3, [79]), (144, .aload_n 0, 1, []), (145, .aload_n 0, 1, []), (146, .getfield 378, 3, [9, 52, 656]), (149, .iconst 1, 1, []), (150, .isub, 1, []), (151, .invokevirtual 466, 3, []), (154, .goto (-75), 3, [79]), (157, .aload_n 0, 1, []), (158, .invokevirtual 469, 3, []), (161, .goto (-82), 3, [79]), (164, .return_, 1, [])]
def zr_48 : List z_R := zr_48_0 ++ (zr_48_1)
/-- 49: FiberWorksModel.next ()V -/
def zr_49 : List z_R := [(0, .aload_n 0, 1, []), (1, .dup, 1, []), (2, .getfield 290, 3, [9, 8, 652]), (5, .aload_n 0, 1, []), (6, .getfield 287, 3, [9, 9, 653]), (9, .iadd, 1, []), (10, .putfield 290, 3, [9, 8, 652]), (13, .aload_n 0, 1, []), (14, .aload_n 0, 1, []), (15, .getfield 290, 3, [9, 8, 652]), (18, .invokevirtual 293, 3, [0, 50, 1, 663]), (21, .bipush 32, 2, []), (23, .if_icmp .eq 16, 3, [39]), (26, .aload_n 0, 1, []), (27, .aload_n 0, 1, []), (28, .getfield 290, 3, [9, 8, 652]), (31, .invokevirtual 293, 3, [0, 50, 1, 663]), (34, .bipush 10, 2, []), (36, .if_icmp .ne 16, 3, [52]), (39, .aload_n 0, 1, []), (40, .dup, 1, []), (41, .getfield 290, 3, [9, 8, 652]), (44, .iconst 1, 1, []), (45, .iadd, 1, []), (46, .putfield 290, 3, [9, 8, 652]), (49, .goto (-36), 3, [13]), (52, .aload_n 0, 1, []), (53, .invokevirtual 320, 3, [0, 51, 0, 664]), (56, .return_, 1, [])]
/-- 50: FiberWorksModel.byteAt (I)I -/
def zr_50 : List z_R := [(0, .iload_n 1, 1, []), (1, .aload_n 0, 1, []), (2, .getfield 284, 3, [9, 6, 631]), (5, .if_icmp .ge 12, 3, [17]), (8, .aload_n 0, 1, []), (9, .getfield 16, 3, [9, 3, 541]), (12, .iload_n 1, 1, []), (13, .iaload, 1, []), (14, .goto 4, 3, [18]), (17, .iconst (-1), 1, []), (18, .ireturn, 1, [])]
/-- 51: FiberWorksModel.look ()V -/
def zr_51_0 : List z_R := [(0, .aload_n 0, 1, []), (1, .aload_n 0, 1, []), (2, .getfield 290, 3, [9, 8, 652]), (5, .invokevirtual 293, 3, [0, 50, 1, 663]), (8, .istore_n 1, 1, []), (9, .aload_n 0, 1, []), (10, .iconst 1, 1, []), (11, .putfield 287, 3, [9, 9, 653]), (14, .iload_n 1, 1, []), (15, .iconst (-1), 1, []), (16, .if_icmp .ne 11, 3, [27]), (19, .aload_n 0, 1, []), (20, .iconst 0, 1, []), (21, .putfield 297, 3, [9, 7, 658]), (24, .goto 297, 3, [321]), (27, .iload_n 1, 1, []), (28, .invokestatic 300, 3, []), (31, .ifCond .ne 10, 3, [41]), (34, .iload_n 1, 1, []), (35, .invokestatic 304, 3, []), (38, .ifCond .eq 118, 3, [156]), (41, .aload_n 0, 1, []), (42, .aload_n 0, 1, []), (43, .getfield 290, 3, [9, 8, 652]), (46, .aload_n 0, 1, []), (47, .getfield 287, 3, [9, 9, 653]), (50, .iadd, 1, []), (51, .invokevirtual 293, 3, [0, 50, 1, 663]), (54, .invokestatic 300, 3, []), (57, .ifCond .ne 41, 3, [98]), (60, .aload_n 0, 1, []), (61, .aload_n 0, 1, []), (62, .getfield 290, 3, [9, 8, 652]), (65, .aload_n 0, 1, []), (66, .getfield 287, 3, [9, 9, 653]), (69, .iadd, 1, []), (70, .invokevirtual 293, 3, [0, 50, 1, 663]), (73, .invokestatic 304, 3, []), (76, .ifCond .ne 22, 3, [98]), (79, .aload_n 0, 1, []), (80, .aload_n 0, 1, []), (81, .getfield 290, 3, [9, 8, 652]), (84, .aload_n 0, 1, []), (85, .getfield 287, 3, [9, 9, 653]), (88, .iadd, 1, []), (89, .invokevirtual 293, 3, [0, 50, 1, 663]), (92, .invokestatic 307, 3, []), (95, .ifCond .eq 16, 3, [111]), (98, .aload_n 0, 1, []), (99, .dup, 1, []), (100, .getfield 287, 3, [9, 9, 653]), (103, .iconst 1, 1, []), (104, .iadd, 1, []), (105, .putfield 287, 3, [9, 9, 653]), (108, .goto (-67), 3, [41]), (111, .aload_n 0, 1, []), (112, .invokevirtual 310, 3, []), (115, .istore_n 2, 1, []), (116, .aload_n 0, 1, []), (117, .aload_n 0, 1, [])]
def zr_51_1 : List z_R := [(118, .getfield 287, 3, [9, 9, 653]), (121, .bipush 12, 2, []), (123, .if_icmp .le 7, 3, [130]), (126, .iconst 5, 1, []), (127, .goto 23, 3, [150]), (130, .iload_n 2, 1, []), (131, .ifCond .le 7, 3, [138]), (134, .iload_n 2, 1, []), (135, .goto 15, 3, [150]), (138, .iload_n 1, 1, []), (139, .invokestatic 300, 3, []), (142, .ifCond .eq 7, 3, [149]), (145, .iconst 1, 1, []), (146, .goto 4, 3, [150]), (149, .iconst 2, 1, []), (150, .putfield 297, 3, [9, 7, 658]), (153, .goto 168, 3, [321]), (156, .iload_n 1, 1, []), (157, .invokestatic 307, 3, []), (160, .ifCond .eq 111, 3, [271]), (163, .aload_n 0, 1, []), (164, .iconst 0, 1, []), (165, .putfield 314, 3, [9, 10, 665]), (168, .aload_n 0, 1, []), (169, .iconst 0, 1, []), (170, .putfield 287, 3, [9, 9, 653]), (173, .aload_n 0, 1, []), (174, .aload_n 0, 1, []), (175, .getfield 290, 3, [9, 8, 652]), (178, .aload_n 0, 1, []), (179, .getfield 287, 3, [9, 9, 653]), (182, .iadd, 1, []), (183, .invokevirtual 293, 3, [0, 50, 1, 663]), (186, .invokestatic 307, 3, []), (189, .ifCond .eq 61, 3, [250]), (192, .aload_n 0, 1, []), (193, .aload_n 0, 1, []), (194, .getfield 287, 3, [9, 9, 653]), (197, .bipush 9, 2, []), (199, .if_icmp .ge 31, 3, [230]), (202, .bipush 10, 2, []), (204, .aload_n 0, 1, []), (205, .getfield 314, 3, [9, 10, 665]), (208, .imul, 1, []), (209, .aload_n 0, 1, []), (210, .getfield 16, 3, [9, 3, 541]), (213, .aload_n 0, 1, []), (214, .getfield 290, 3, [9, 8, 652]), (217, .aload_n 0, 1, []), (218, .getfield 287, 3, [9, 9, 653]), (221, .iadd, 1, []), (222, .iaload, 1, []), (223, .iadd, 1, []), (224, .bipush 48, 2, []), (226, .isub, 1, []), (227, .goto 7, 3, [234]), (230, .aload_n 0, 1, []), (231, .getfield 314, 3, [9, 10, 665]), (234, .putfield 314, 3, [9, 10, 665]), (237, .aload_n 0, 1, [])]
def zr_51_2 : List z_R := [(238, .dup, 1, []), (239, .getfield 287, 3, [9, 9, 653]), (242, .iconst 1, 1, []), (243, .iadd, 1, []), (244, .putfield 287, 3, [9, 9, 653]), (247, .goto (-74), 3, [173]), (250, .aload_n 0, 1, []), (251, .aload_n 0, 1, []), (252, .getfield 287, 3, [9, 9, 653]), (255, .bipush 9, 2, []), (257, .if_icmp .le 7, 3, [264]), (260, .iconst 5, 1, []), (261, .goto 4, 3, [265]), (264, .iconst 3, 1, []), (265, .putfield 297, 3, [9, 7, 658]), (268, .goto 53, 3, [321]), (271, .iload_n 1, 1, []), (272, .bipush 45, 2, []), (274, .if_icmp .ne 31, 3, [305]), (277, .aload_n 0, 1, []), (278, .aload_n 0, 1, []), (279, .getfield 290, 3, [9, 8, 652]), (282, .iconst 1, 1, []), (283, .iadd, 1, []), (284, .invokevirtual 293, 3, [0, 50, 1, 663]), (287, .bipush 62, 2, []), (289, .if_icmp .ne 16, 3, [305]), (292, .aload_n 0, 1, []), (293, .iconst 4, 1, []), (294, .putfield 297, 3, [9, 7, 658]), (297, .aload_n 0, 1, []), (298, .iconst 2, 1, []), (299, .putfield 287, 3, [9, 9, 653]), (302, .goto 19, 3, [321]), (305, .aload_n 0, 1, []), (306, .iload_n 1, 1, []), (307, .invokestatic 317, 3, []), (310, .ifCond .eq 7, 3, [317]), (313, .iload_n 1, 1, []), (314, .goto 4, 3, [318]), (317, .iconst 5, 1, []), (318, .putfield 297, 3, [9, 7, 658]), (321, .return_, 1, [])]
def zr_51 : List z_R := zr_51_0 ++ (zr_51_1 ++ (zr_51_2))
/-- 52: FiberWorksModel.wrong (II)V -/
def zr_52 : List z_R := [(0, .aload_n 0, 1, []), (1, .getfield 281, 3, [9, 11, 636]), (4, .ifCond .le 4, 3, [8]), (7, .return_, 1, []), (8, .aload_n 0, 1, []), (9, .iload_n 1, 1, []), (10, .putfield 281, 3, [9, 11, 636]), (13, .aload_n 0, 1, []), (14, .iload_n 2, 1, []), (15, .putfield 22, 3, [9, 12, 543]), (18, .return_, 1, [])]
/-- 53: FiberWorksModel.bad ()V -/
def zr_53 : List z_R := [(0, .aload_n 0, 1, []), (1, .aload_n 0, 1, []), (2, .getfield 297, 3, [9, 7, 658]), (5, .iconst 5, 1, []), (6, .if_icmp .ne 7, 3, [13]), (9, .iconst 2, 1, []), (10, .goto 4, 3, [14]), (13, .iconst 1, 1, []), (14, .aload_n 0, 1, []), (15, .getfield 290, 3, [9, 8, 652]), (18, .invokevirtual 323, 3, [0, 52, 2, 666]), (21, .return_, 1, [])]
/-- 54: FiberWorksModel.ask (II)V -/
def zr_54 : List z_R := [(0, .aload_n 0, 1, []), (1, .iload_n 1, 1, []), (2, .putfield 366, 3, [9, 73, 667]), (5, .aload_n 0, 1, []), (6, .iload_n 2, 1, []), (7, .putfield 369, 3, [9, 74, 668]), (10, .aload_n 0, 1, []), (11, .iconst (-1), 1, []), (12, .putfield 372, 3, [9, 75, 669]), (15, .aload_n 0, 1, []), (16, .iconst 0, 1, []), (17, .putfield 375, 3, [9, 53, 660]), (20, .return_, 1, [])]
/-- 55: FiberWorksModel.begin ()V -/
def zr_55_0 : List z_R := [(0, .aload_n 0, 1, []), (1, .getfield 297, 3, [9, 7, 658]), (4, .iconst 5, 1, []), (5, .if_icmp .ne 10, 3, [15]), (8, .aload_n 0, 1, []), (9, .invokevirtual 330, 3, [0, 53, 0, 670]), (12, .goto 21, 3, [33]), (15, .aload_n 0, 1, []), (16, .getfield 378, 3, [9, 52, 656]), (19, .bipush 50, 2, []), (21, .if_icmp .ne 12, 3, [33]), (24, .aload_n 0, 1, []), (25, .iconst 4, 1, []), (26, .aload_n 0, 1, []), (27, .getfield 290, 3, [9, 8, 652]), (30, .invokevirtual 323, 3, [0, 52, 2, 666]), (33, .aload_n 0, 1, []), (34, .getfield 281, 3, [9, 11, 636]), (37, .ifCond .le 4, 3, [41]), (40, .return_, 1, []), (41, .aload_n 0, 1, []), (42, .getfield 378, 3, [9, 52, 656]), (45, .istore_n 1, 1, []), (46, .aload_n 0, 1, []), (47, .getfield 131, 3, [9, 56, 579]), (50, .iload_n 1, 1, []), (51, .aload_n 0, 1, []), (52, .getfield 366, 3, [9, 73, 667]), (55, .iastore, 1, []), (56, .aload_n 0, 1, []), (57, .getfield 134, 3, [9, 57, 580]), (60, .iload_n 1, 1, []), (61, .aload_n 0, 1, []), (62, .getfield 369, 3, [9, 74, 668]), (65, .iastore, 1, []), (66, .aload_n 0, 1, []), (67, .getfield 140, 3, [9, 59, 582]), (70, .iload_n 1, 1, []), (71, .aload_n 0, 1, []), (72, .getfield 372, 3, [9, 75, 669]), (75, .iastore, 1, []), (76, .aload_n 0, 1, []), (77, .getfield 137, 3, [9, 58, 581]), (80, .iload_n 1, 1, []), (81, .aload_n 0, 1, []), (82, .getfield 290, 3, [9, 8, 652]), (85, .iastore, 1, []), (86, .aload_n 0, 1, []), (87, .getfield 143, 3, [9, 60, 583]), (90, .iload_n 1, 1, []), (91, .iconst (-1), 1, []), (92, .iastore, 1, []), (93, .aload_n 0, 1, []), (94, .getfield 146, 3, [9, 61, 584]), (97, .iload_n 1, 1, []), (98, .iconst (-1), 1, []), (99, .iastore, 1, []), (100, .aload_n 0, 1, []), (101, .getfield 155, 3, [9, 64, 587]), (104, .iload_n 1, 1, [])]
def zr_55_1 : List z_R := [(105, .iconst (-1), 1, []), (106, .iastore, 1, []), (107, .aload_n 0, 1, []), (108, .getfield 164, 3, [9, 67, 590]), (111, .iload_n 1, 1, []), (112, .iconst (-1), 1, []), (113, .iastore, 1, []), (114, .aload_n 0, 1, []), (115, .getfield 170, 3, [9, 69, 592]), (118, .iload_n 1, 1, []), (119, .iconst (-1), 1, []), (120, .iastore, 1, []), (121, .aload_n 0, 1, []), (122, .getfield 176, 3, [9, 71, 594]), (125, .iload_n 1, 1, []), (126, .iconst (-1), 1, []), (127, .iastore, 1, []), (128, .aload_n 0, 1, []), (129, .getfield 179, 3, [9, 72, 595]), (132, .iload_n 1, 1, []), (133, .iconst 0, 1, []), (134, .bastore, 1, []), (135, .aload_n 0, 1, []), (136, .dup, 1, []), (137, .getfield 378, 3, [9, 52, 656]), (140, .iconst 1, 1, []), (141, .iadd, 1, []), (142, .putfield 378, 3, [9, 52, 656]), (145, .aload_n 0, 1, []), (146, .iconst 1, 1, []), (147, .putfield 375, 3, [9, 53, 660]), (150, .aload_n 0, 1, []), (151, .getfield 297, 3, [9, 7, 658]), (154, .sipush 301, 3, []), (157, .if_icmp .ne 11, 3, [168]), (160, .aload_n 0, 1, []), (161, .iload_n 1, 1, []), (162, .invokevirtual 381, 3, []), (165, .goto 74, 3, [239]), (168, .aload_n 0, 1, []), (169, .getfield 297, 3, [9, 7, 658]), (172, .sipush 302, 3, []), (175, .if_icmp .ne 11, 3, [186]), (178, .aload_n 0, 1, []), (179, .iload_n 1, 1, []), (180, .invokevirtual 384, 3, []), (183, .goto 56, 3, [239]), (186, .aload_n 0, 1, []), (187, .getfield 297, 3, [9, 7, 658]), (190, .sipush 304, 3, []), (193, .if_icmp .ne 12, 3, [205]), (196, .aload_n 0, 1, []), (197, .iload_n 1, 1, []), (198, .iconst 2, 1, []), (199, .invokevirtual 387, 3, []), (202, .goto 37, 3, [239]), (205, .aload_n 0, 1, []), (206, .getfield 297, 3, [9, 7, 658]), (209, .sipush 307, 3, []), (212, .if_icmp .ne 11, 3, [223])]
def zr_55_2 : List z_R := [(215, .aload_n 0, 1, []), (216, .iload_n 1, 1, []), (217, .invokevirtual 390, 3, []), (220, .goto 19, 3, [239]), (223, .aload_n 0, 1, []), (224, .getfield 297, 3, [9, 7, 658]), (227, .sipush 308, 3, []), (230, .if_icmp .ne 9, 3, [239]), (233, .aload_n 0, 1, []), (234, .iload_n 1, 1, []), (235, .iconst 4, 1, []), (236, .invokevirtual 387, 3, []), (239, .return_, 1, [])]
def zr_55 : List z_R := zr_55_0 ++ (zr_55_1 ++ (zr_55_2))
/-- 56: FiberWorksModel.want (I)V -/
def zr_56_0 : List z_R := [(0, .aload_n 0, 1, []), (1, .getfield 290, 3, [9, 8, 652]), (4, .istore_n 2, 1, []), (5, .aload_n 0, 1, []), (6, .getfield 297, 3, [9, 7, 658]), (9, .iconst 2, 1, []), (10, .if_icmp .ne 95, 3, [105]), (13, .aload_n 0, 1, []), (14, .getfield 170, 3, [9, 69, 592]), (17, .iload_n 1, 1, []), (18, .iaload, 1, []), (19, .ifCond .ge 86, 3, [105]), (22, .aload_n 0, 1, []), (23, .invokevirtual 346, 3, []), (26, .istore_n 3, 1, []), (27, .aload_n 0, 1, []), (28, .bipush 33, 2, []), (30, .invokevirtual 349, 3, []), (33, .aload_n 0, 1, []), (34, .getfield 281, 3, [9, 11, 636]), (37, .ifCond .le 4, 3, [41]), (40, .return_, 1, []), (41, .aload_n 0, 1, []), (42, .bipush 11, 2, []), (44, .invokevirtual 363, 3, []), (47, .istore 4, 2, []), (49, .aload_n 0, 1, []), (50, .getfield 281, 3, [9, 11, 636]), (53, .ifCond .le 4, 3, [57]), (56, .return_, 1, []), (57, .aload_n 0, 1, []), (58, .getfield 95, 3, [9, 40, 567]), (61, .iload 4, 2, []), (63, .iload_n 3, 1, []), (64, .iastore, 1, []), (65, .aload_n 0, 1, []), (66, .getfield 176, 3, [9, 71, 594]), (69, .iload_n 1, 1, []), (70, .iload 4, 2, []), (72, .iastore, 1, []), (73, .aload_n 0, 1, []), (74, .getfield 170, 3, [9, 69, 592]), (77, .iload_n 1, 1, []), (78, .iload 4, 2, []), (80, .iastore, 1, []), (81, .aload_n 0, 1, []), (82, .getfield 173, 3, [9, 70, 593]), (85, .iload_n 1, 1, []), (86, .iload_n 2, 1, []), (87, .iastore, 1, []), (88, .aload_n 0, 1, []), (89, .invokevirtual 409, 3, []), (92, .ifCond .ne 8, 3, [100]), (95, .aload_n 0, 1, []), (96, .invokevirtual 330, 3, [0, 53, 0, 670]), (99, .return_, 1, []), (100, .aload_n 0, 1, []), (101, .getfield 290, 3, [9, 8, 652]), (104, .istore_n 2, 1, []), (105, .aload_n 0, 1, [])]
def zr_56_1 : List z_R := [(106, .getfield 297, 3, [9, 7, 658]), (109, .iconst 3, 1, []), (110, .if_icmp .ne 39, 3, [149]), (113, .aload_n 0, 1, []), (114, .getfield 314, 3, [9, 10, 665]), (117, .istore_n 3, 1, []), (118, .aload_n 0, 1, []), (119, .invokevirtual 327, 3, [0, 49, 0, 657]), (122, .aload_n 0, 1, []), (123, .bipush 12, 2, []), (125, .invokevirtual 363, 3, []), (128, .istore 4, 2, []), (130, .aload_n 0, 1, []), (131, .getfield 95, 3, [9, 40, 567]), (134, .iload 4, 2, []), (136, .iload_n 3, 1, []), (137, .iastore, 1, []), (138, .aload_n 0, 1, []), (139, .iload_n 1, 1, []), (140, .iload 4, 2, []), (142, .iload_n 2, 1, []), (143, .invokevirtual 413, 3, []), (146, .goto 181, 3, [327]), (149, .aload_n 0, 1, []), (150, .getfield 297, 3, [9, 7, 658]), (153, .sipush 312, 3, []), (156, .if_icmp .eq 13, 3, [169]), (159, .aload_n 0, 1, []), (160, .getfield 297, 3, [9, 7, 658]), (163, .sipush 313, 3, []), (166, .if_icmp .ne 50, 3, [216]), (169, .aload_n 0, 1, []), (170, .getfield 297, 3, [9, 7, 658]), (173, .sipush 312, 3, []), (176, .if_icmp .ne 7, 3, [183]), (179, .iconst 1, 1, []), (180, .goto 4, 3, [184]), (183, .iconst 0, 1, []), (184, .istore_n 3, 1, []), (185, .aload_n 0, 1, []), (186, .invokevirtual 327, 3, [0, 49, 0, 657]), (189, .aload_n 0, 1, []), (190, .bipush 13, 2, []), (192, .invokevirtual 363, 3, []), (195, .istore 4, 2, []), (197, .aload_n 0, 1, []), (198, .getfield 95, 3, [9, 40, 567]), (201, .iload 4, 2, []), (203, .iload_n 3, 1, []), (204, .iastore, 1, []), (205, .aload_n 0, 1, []), (206, .iload_n 1, 1, []), (207, .iload 4, 2, []), (209, .iload_n 2, 1, []), (210, .invokevirtual 413, 3, []), (213, .goto 114, 3, [327]), (216, .aload_n 0, 1, []), (217, .getfield 297, 3, [9, 7, 658]), (220, .iconst 1, 1, []), (221, .if_icmp .ne 47, 3, [268])]
def zr_56_2 : List z_R := [(224, .aload_n 0, 1, []), (225, .getfield 287, 3, [9, 9, 653]), (228, .istore_n 3, 1, []), (229, .aload_n 0, 1, []), (230, .invokevirtual 327, 3, [0, 49, 0, 657]), (233, .aload_n 0, 1, []), (234, .bipush 15, 2, []), (236, .invokevirtual 363, 3, []), (239, .istore 4, 2, []), (241, .aload_n 0, 1, []), (242, .getfield 83, 3, [9, 36, 563]), (245, .iload 4, 2, []), (247, .iload_n 2, 1, []), (248, .iastore, 1, []), (249, .aload_n 0, 1, []), (250, .getfield 86, 3, [9, 37, 564]), (253, .iload 4, 2, []), (255, .iload_n 3, 1, []), (256, .iastore, 1, []), (257, .aload_n 0, 1, []), (258, .iload_n 1, 1, []), (259, .iload 4, 2, []), (261, .iload_n 2, 1, []), (262, .invokevirtual 413, 3, []), (265, .goto 62, 3, [327]), (268, .aload_n 0, 1, []), (269, .getfield 297, 3, [9, 7, 658]), (272, .bipush 40, 2, []), (274, .if_icmp .ne 49, 3, [323]), (277, .aload_n 0, 1, []), (278, .invokevirtual 327, 3, [0, 49, 0, 657]), (281, .aload_n 0, 1, []), (282, .getfield 297, 3, [9, 7, 658]), (285, .bipush 41, 2, []), (287, .if_icmp .ne 22, 3, [309]), (290, .aload_n 0, 1, []), (291, .invokevirtual 327, 3, [0, 49, 0, 657]), (294, .aload_n 0, 1, []), (295, .iload_n 1, 1, []), (296, .aload_n 0, 1, []), (297, .bipush 14, 2, []), (299, .invokevirtual 363, 3, []), (302, .iload_n 2, 1, []), (303, .invokevirtual 413, 3, []), (306, .goto 21, 3, [327]), (309, .aload_n 0, 1, []), (310, .iconst (-1), 1, []), (311, .iconst 0, 1, []), (312, .invokevirtual 397, 3, [0, 54, 2, 659]), (315, .aload_n 0, 1, []), (316, .iload_n 2, 1, []), (317, .putfield 372, 3, [9, 75, 669]), (320, .goto 7, 3, [327]), (323, .aload_n 0, 1, []), (324, .invokevirtual 330, 3, [0, 53, 0, 670]), (327, .return_, 1, [])]
def zr_56 : List z_R := zr_56_0 ++ (zr_56_1 ++ (zr_56_2))
/-- 57: FiberWorksModel.fault (I)I -/
def zr_57 : List z_R := [(0, .aload_n 0, 1, []), (1, .iconst 0, 1, []), (2, .putfield 275, 3, [9, 0, 629]), (5, .iload_n 1, 1, []), (6, .ifCond .ne 10, 3, [16]), (9, .aload_n 0, 1, []), (10, .getfield 281, 3, [9, 11, 636]), (13, .goto 16, 3, [29]), (16, .iload_n 1, 1, []), (17, .iconst 1, 1, []), (18, .if_icmp .ne 10, 3, [28]), (21, .aload_n 0, 1, []), (22, .getfield 22, 3, [9, 12, 543]), (25, .goto 4, 3, [29]), (28, .iconst (-1), 1, []), (29, .ireturn, 1, [])]
/-- 58: FiberWorksModel.type (I)I -/
def zr_58 : List z_R := [(0, .aload_n 0, 1, []), (1, .iconst 0, 1, []), (2, .putfield 275, 3, [9, 0, 629]), (5, .aload_n 0, 1, []), (6, .iload_n 1, 1, []), (7, .invokevirtual 551, 3, [0, 59, 1, 671]), (10, .istore_n 2, 1, []), (11, .iload_n 2, 1, []), (12, .iconst 3, 1, []), (13, .if_icmp .ge 7, 3, [20]), (16, .iload_n 2, 1, []), (17, .goto 4, 3, [21]), (20, .iconst 3, 1, []), (21, .ireturn, 1, [])]
/-- 59: FiberWorksModel.typeAt (I)I -/
def zr_59_0 : List z_R := [(0, .aload_n 0, 1, []), (1, .getfield 527, 3, [9, 91, 632]), (4, .ifCond .eq 22, 3, [26]), (7, .iload_n 1, 1, []), (8, .ifCond .lt 18, 3, [26]), (11, .iload_n 1, 1, []), (12, .i2l, 1, []), (13, .aload_n 0, 1, []), (14, .getfield 222, 3, [9, 95, 610]), (17, .aload_n 0, 1, []), (18, .getfield 543, 3, [9, 92, 638]), (21, .laload, 1, []), (22, .lcmp, 1, []), (23, .ifCond .lt 5, 3, [28]), (26, .iconst (-1), 1, []), (27, .ireturn, 1, []), (28, .aload_n 0, 1, []), (29, .getfield 543, 3, [9, 92, 638]), (32, .istore_n 2, 1, []), (33, .iload_n 1, 1, []), (34, .i2l, 1, []), (35, .lstore_n 3, 1, []), (36, .lload_n 3, 1, []), (37, .lconst 0, 1, []), (38, .lcmp, 1, []), (39, .ifCond .le 57, 3, [96]), (42, .lload_n 3, 1, []), (43, .lconst 1, 1, []), (44, .lsub, 1, []), (45, .lstore_n 3, 1, []), (46, .lload_n 3, 1, []), (47, .aload_n 0, 1, []), (48, .getfield 222, 3, [9, 95, 610]), (51, .aload_n 0, 1, []), (52, .getfield 26, 3, [9, 14, 544]), (55, .iload_n 2, 1, []), (56, .iaload, 1, []), (57, .laload, 1, []), (58, .lcmp, 1, []), (59, .ifCond .ge 13, 3, [72]), (62, .aload_n 0, 1, []), (63, .getfield 26, 3, [9, 14, 544]), (66, .iload_n 2, 1, []), (67, .iaload, 1, []), (68, .istore_n 2, 1, []), (69, .goto (-33), 3, [36]), (72, .lload_n 3, 1, []), (73, .aload_n 0, 1, []), (74, .getfield 222, 3, [9, 95, 610]), (77, .aload_n 0, 1, []), (78, .getfield 26, 3, [9, 14, 544]), (81, .iload_n 2, 1, []), (82, .iaload, 1, []), (83, .laload, 1, []), (84, .lsub, 1, []), (85, .lstore_n 3, 1, []), (86, .aload_n 0, 1, []), (87, .getfield 29, 3, [9, 15, 545]), (90, .iload_n 2, 1, []), (91, .iaload, 1, [])]
def zr_59_1 : List z_R := [(92, .istore_n 2, 1, []), (93, .goto (-57), 3, [36]), (96, .iload_n 2, 1, []), (97, .ireturn, 1, [])]
def zr_59 : List z_R := zr_59_0 ++ (zr_59_1)
/-- 60: FiberWorksModel.effects (I)I -/
def zr_60 : List z_R := [(0, .aload_n 0, 1, []), (1, .iconst 0, 1, []), (2, .putfield 275, 3, [9, 0, 629]), (5, .iload_n 1, 1, []), (6, .iconst (-1), 1, []), (7, .if_icmp .ne 19, 3, [26]), (10, .aload_n 0, 1, []), (11, .getfield 527, 3, [9, 91, 632]), (14, .ifCond .eq 10, 3, [24]), (17, .aload_n 0, 1, []), (18, .getfield 546, 3, [9, 93, 639]), (21, .goto 4, 3, [25]), (24, .iconst (-1), 1, []), (25, .ireturn, 1, []), (26, .aload_n 0, 1, []), (27, .iload_n 1, 1, []), (28, .invokevirtual 551, 3, [0, 59, 1, 671]), (31, .istore_n 2, 1, []), (32, .iload_n 2, 1, []), (33, .iconst 3, 1, []), (34, .if_icmp .ge 7, 3, [41]), (37, .iconst (-1), 1, []), (38, .goto 9, 3, [47]), (41, .aload_n 0, 1, []), (42, .getfield 32, 3, [9, 16, 546]), (45, .iload_n 2, 1, []), (46, .iaload, 1, []), (47, .ireturn, 1, [])]
/-- 61: FiberWorksModel.start ()V -/
def zr_61 : List z_R := [(0, .aload_n 0, 1, []), (1, .aload_n 0, 1, []), (2, .getfield 527, 3, [9, 91, 632]), (5, .ifCond .eq 7, 3, [12]), (8, .iconst 0, 1, []), (9, .goto 4, 3, [13]), (12, .iconst 1, 1, []), (13, .putfield 275, 3, [9, 0, 629]), (16, .aload_n 0, 1, []), (17, .getfield 275, 3, [9, 0, 629]), (20, .ifCond .le 4, 3, [24]), (23, .return_, 1, []), (24, .aload_n 0, 1, []), (25, .invokevirtual 534, 3, [0, 47, 0, 634]), (28, .aload_n 0, 1, []), (29, .iconst 1, 1, []), (30, .putfield 531, 3, [9, 94, 633]), (33, .aload_n 0, 1, []), (34, .iconst 0, 1, []), (35, .putfield 472, 3, [9, 77, 672]), (38, .aload_n 0, 1, []), (39, .iconst (-1), 1, []), (40, .putfield 272, 3, [9, 122, 628]), (43, .aload_n 0, 1, []), (44, .aload_n 0, 1, []), (45, .getfield 442, 3, [9, 28, 637]), (48, .putfield 581, 3, [9, 102, 673]), (51, .aload_n 0, 1, []), (52, .iconst (-1), 1, []), (53, .putfield 584, 3, [9, 103, 674]), (56, .return_, 1, [])]
/-- 62: FiberWorksModel.run (I)I -/
def zr_62 : List z_R := [(0, .aload_n 0, 1, []), (1, .aload_n 0, 1, []), (2, .getfield 531, 3, [9, 94, 633]), (5, .ifCond .ne 7, 3, [12]), (8, .iconst 1, 1, []), (9, .goto 19, 3, [28]), (12, .iload_n 1, 1, []), (13, .ifCond .lt 10, 3, [23]), (16, .iload_n 1, 1, []), (17, .sipush 2000, 3, []), (20, .if_icmp .le 7, 3, [27]), (23, .iconst 2, 1, []), (24, .goto 4, 3, [28]), (27, .iconst 0, 1, []), (28, .putfield 275, 3, [9, 0, 629]), (31, .aload_n 0, 1, []), (32, .getfield 275, 3, [9, 0, 629]), (35, .ifCond .le 5, 3, [40]), (38, .iconst 0, 1, []), (39, .ireturn, 1, []), (40, .aload_n 0, 1, []), (41, .getfield 560, 3, [9, 98, 645]), (44, .istore_n 2, 1, []), (45, .iconst 1, 1, []), (46, .istore_n 3, 1, []), (47, .aload_n 0, 1, []), (48, .getfield 531, 3, [9, 94, 633]), (51, .iconst 1, 1, []), (52, .if_icmp .ne 52, 3, [104]), (55, .iload_n 3, 1, []), (56, .ifCond .eq 48, 3, [104]), (59, .aload_n 0, 1, []), (60, .getfield 578, 3, [9, 105, 651]), (63, .ifCond .ne 10, 3, [73]), (66, .aload_n 0, 1, []), (67, .invokevirtual 627, 3, []), (70, .goto (-23), 3, [47]), (73, .aload_n 0, 1, []), (74, .getfield 554, 3, [9, 96, 643]), (77, .ifCond .ne 11, 3, [88]), (80, .aload_n 0, 1, []), (81, .iconst 2, 1, []), (82, .putfield 531, 3, [9, 94, 633]), (85, .goto (-38), 3, [47]), (88, .aload_n 0, 1, []), (89, .iload_n 1, 1, []), (90, .aload_n 0, 1, []), (91, .getfield 560, 3, [9, 98, 645]), (94, .iload_n 2, 1, []), (95, .isub, 1, []), (96, .isub, 1, []), (97, .invokevirtual 630, 3, []), (100, .istore_n 3, 1, []), (101, .goto (-54), 3, [47]), (104, .aload_n 0, 1, []), (105, .getfield 560, 3, [9, 98, 645]), (108, .iload_n 2, 1, []), (109, .isub, 1, []), (110, .ireturn, 1, [])]
/-- 63: FiberWorksModel.state (I)I -/
def zr_63 : List z_R := [(0, .aload_n 0, 1, []), (1, .iconst 0, 1, []), (2, .putfield 275, 3, [9, 0, 629]), (5, .iload_n 1, 1, []), (6, .tableswitch 100 0 5 #[38, 43, 68, 73, 78, 83], 38, [106, 44, 49, 74, 79, 84, 89]), (44, .aload_n 0, 1, []), (45, .getfield 531, 3, [9, 94, 633]), (48, .ireturn, 1, []), (49, .aload_n 0, 1, []), (50, .getfield 531, 3, [9, 94, 633]), (53, .iconst 2, 1, []), (54, .if_icmp .ne 18, 3, [72]), (57, .aload_n 0, 1, []), (58, .getfield 543, 3, [9, 92, 638]), (61, .iconst 2, 1, []), (62, .if_icmp .ge 10, 3, [72]), (65, .aload_n 0, 1, []), (66, .getfield 575, 3, [9, 104, 650]), (69, .goto 4, 3, [73]), (72, .iconst 0, 1, []), (73, .ireturn, 1, []), (74, .aload_n 0, 1, []), (75, .getfield 560, 3, [9, 98, 645]), (78, .ireturn, 1, []), (79, .aload_n 0, 1, []), (80, .getfield 563, 3, [9, 99, 646]), (83, .ireturn, 1, []), (84, .aload_n 0, 1, []), (85, .getfield 566, 3, [9, 100, 647]), (88, .ireturn, 1, []), (89, .aload_n 0, 1, []), (90, .getfield 531, 3, [9, 94, 633]), (93, .iconst 4, 1, []), (94, .if_icmp .ne 10, 3, [104]), (97, .aload_n 0, 1, []), (98, .getfield 569, 3, [9, 101, 648]), (101, .goto 4, 3, [105]), (104, .iconst (-1), 1, []), (105, .ireturn, 1, []), (106, .iconst (-1), 1, []), (107, .ireturn, 1, [])]
def z_tbs : List (List z_R) := [zr_0, zr_1, zr_2, zr_3, zr_4, zr_5, zr_6, zr_7, zr_8, zr_9, zr_10, zr_11, zr_12, zr_13, zr_14, zr_15, zr_16, zr_17, zr_18, zr_19, zr_20, zr_21, zr_22, zr_23, zr_24, zr_25, zr_26, zr_27, zr_28, zr_29, zr_30, zr_31, zr_32, zr_33, zr_34, zr_35, zr_36, zr_37, zr_38, zr_39, zr_40, zr_41, zr_42, zr_43, zr_44, zr_45, zr_46, zr_47, zr_48, zr_49, zr_50, zr_51, zr_52, zr_53, zr_54, zr_55, zr_56, zr_57, zr_58, zr_59, zr_60, zr_61, zr_62, zr_63]
def z_rows (mi : Nat) : List z_R := (z_tbs[mi]?).getD []
def z_myl : List MethodName := [⟨"FiberWorksLaw", "law", "([I)Z"⟩, ⟨"FiberWorks", "<init>", "()V"⟩, ⟨"FiberWorks$Faults", "<init>", "()V"⟩, ⟨"FiberWorks$Faults", "clear", "()V"⟩, ⟨"FiberWorks$Words", "<init>", "(LFiberWorks$Faults;)V"⟩, ⟨"FiberWorks$Types", "<init>", "()V"⟩, ⟨"FiberWorks$Types", "clear", "()V"⟩, ⟨"FiberWorks$Code", "<init>", "()V"⟩, ⟨"FiberWorks$Code", "clear", "()V"⟩, ⟨"FiberWorks$Declarations", "<init>", "()V"⟩, ⟨"FiberWorks$Reader", "<init>", "(LFiberWorks$Words;LFiberWorks$Faults;LFiberWorks$Types;LFiberWorks$Declarations;LFiberWorks$Code;)V"⟩, ⟨"FiberWorks$Checker", "<init>", "(LFiberWorks$Faults;LFiberWorks$Types;LFiberWorks$Declarations;LFiberWorks$Code;)V"⟩, ⟨"FiberWorks$Machine", "<init>", "(LFiberWorks$Code;)V"⟩, ⟨"FiberWorks$Machine", "clear", "()V"⟩, ⟨"FiberWorks", "feed", "(IIIII)V"⟩, ⟨"FiberWorks", "putReady", "(II)V"⟩, ⟨"FiberWorks", "end", "(I)I"⟩, ⟨"FiberWorks$Words", "append", "([BI)V"⟩, ⟨"java/util/Arrays", "fill", "([BB)V"⟩, ⟨"FiberWorks", "fault", "(I)I"⟩, ⟨"FiberWorks", "type", "(I)I"⟩, ⟨"FiberWorks", "programNode", "(I)I"⟩, ⟨"FiberWorks", "effects", "(I)I"⟩, ⟨"FiberWorks", "state", "(I)I"⟩, ⟨"FiberWorksLaw", "read", "(LFiberWorks;[J)I"⟩, ⟨"FiberWorks", "read", "()I"⟩, ⟨"FiberWorks$Words", "split", "()V"⟩, ⟨"FiberWorks", "isProgram", "()Z"⟩, ⟨"FiberWorks$Reader", "readProgram", "()V"⟩, ⟨"FiberWorks$Words", "toFirst", "()V"⟩, ⟨"FiberWorks$Words", "toNext", "()V"⟩, ⟨"FiberWorks$Faults", "refuse", "(II)V"⟩, ⟨"FiberWorks$Reader", "refuseWord", "()V"⟩, ⟨"FiberWorks$Reader", "expr", "(I)V"⟩, ⟨"FiberWorks$Reader", "operation", "(I)V"⟩, ⟨"FiberWorks$Reader", "call", "(I)V"⟩, ⟨"FiberWorks$Reader", "atom", "(I)V"⟩, ⟨"FiberWorks$Words", "clear", "()V"⟩, ⟨"FiberWorksLaw", "start", "(LFiberWorks;)I"⟩, ⟨"FiberWorks", "start", "()V"⟩, ⟨"FiberWorksLaw", "run", "(LFiberWorks;I[J)I"⟩, ⟨"FiberWorks", "run", "(I)I"⟩, ⟨"FiberWorksModel", "<init>", "()V"⟩, ⟨"FiberWorksModel", "thrown", "()I"⟩, ⟨"FiberWorksModel", "feed", "(IIIII)V"⟩, ⟨"FiberWorksModel", "end", "(I)I"⟩, ⟨"FiberWorksModel", "read", "()I"⟩, ⟨"FiberWorksModel", "clearRun", "()V"⟩, ⟨"FiberWorksModel", "readAll", "()V"⟩, ⟨"FiberWorksModel", "next", "()V"⟩, ⟨"FiberWorksModel", "byteAt", "(I)I"⟩, ⟨"FiberWorksModel", "look", "()V"⟩, ⟨"FiberWorksModel", "wrong", "(II)V"⟩, ⟨"FiberWorksModel", "bad", "()V"⟩, ⟨"FiberWorksModel", "ask", "(II)V"⟩, ⟨"FiberWorksModel", "begin", "()V"⟩, ⟨"FiberWorksModel", "want", "(I)V"⟩, ⟨"FiberWorksModel", "fault", "(I)I"⟩, ⟨"FiberWorksModel", "type", "(I)I"⟩, ⟨"FiberWorksModel", "typeAt", "(I)I"⟩, ⟨"FiberWorksModel", "effects", "(I)I"⟩, ⟨"FiberWorksModel", "start", "()V"⟩, ⟨"FiberWorksModel", "run", "(I)I"⟩, ⟨"FiberWorksModel", "state", "(I)I"⟩]
def z_my (mi : Nat) : MethodName := (z_myl[mi]?).getD ⟨"", "", ""⟩
def z_mbl : List ByteArray := [code, prog_1_method_1_code, prog_6_method_1_code, prog_6_method_2_code, prog_12_method_1_code, prog_10_method_1_code, prog_10_method_2_code, prog_4_method_1_code, prog_4_method_2_code, prog_5_method_1_code, prog_9_method_1_code, prog_3_method_1_code, prog_7_method_1_code, prog_7_method_2_code, prog_1_method_2_code, prog_1_method_11_code, prog_1_method_3_code, prog_12_method_2_code, prog_27_method_109_code, prog_1_method_5_code, prog_1_method_6_code, prog_1_method_13_code, prog_1_method_7_code, prog_1_method_10_code, method_3_code, prog_1_method_4_code, prog_12_method_6_code, prog_1_method_12_code, prog_9_method_2_code, prog_12_method_4_code, prog_12_method_5_code, prog_6_method_3_code, prog_9_method_28_code, prog_9_method_7_code, prog_9_method_14_code, prog_9_method_19_code, prog_9_method_21_code, prog_12_method_3_code, method_4_code, prog_1_method_8_code, method_5_code, prog_1_method_9_code, prog_14_method_1_code, prog_14_method_2_code, prog_14_method_3_code, prog_14_method_4_code, prog_14_method_64_code, prog_14_method_69_code, prog_14_method_47_code, prog_14_method_13_code, prog_14_method_6_code, prog_14_method_12_code, prog_14_method_5_code, prog_14_method_14_code, prog_14_method_25_code, prog_14_method_26_code, prog_14_method_35_code, prog_14_method_65_code, prog_14_method_67_code, prog_14_method_66_code, prog_14_method_68_code, prog_14_method_70_code, prog_14_method_86_code, prog_14_method_87_code]
def z_mb (mi : Nat) : ByteArray := (z_mbl[mi]?).getD ⟨#[]⟩
def z_ml (mi : Nat) : Nat := ([7, 2, 1, 1, 2, 1, 1, 1, 1, 1, 6, 5, 2, 1, 6, 4, 2, 3, 4, 2, 3, 2, 3, 2, 3, 1, 4, 2, 2, 1, 1, 3, 1, 2, 6, 4, 3, 1, 2, 1, 4, 2, 1, 1, 8, 3, 4, 1, 1, 1, 2, 3, 3, 1, 3, 2, 5, 2, 3, 5, 3, 1, 4, 2] : List Nat)[mi]?.getD 0
def z_mr (mi : Nat) : Option FieldType := ([(some .boolean), none, none, none, none, none, none, none, none, none, none, none, none, none, none, none, (some .int), none, none, (some .int), (some .int), (some .int), (some .int), (some .int), (some .int), (some .int), none, (some .boolean), none, none, none, none, none, none, none, none, none, none, (some .int), none, (some .int), (some .int), none, (some .int), none, (some .int), (some .int), none, none, none, (some .int), none, none, none, none, none, none, (some .int), (some .int), (some .int), (some .int), none, (some .int), (some .int)] : List (Option FieldType))[mi]?.getD none
def z_mh (mi : Nat) : List (Nat × Nat × Nat × Nat) := ([[], [], [], [], [], [], [], [], [], [], [], [], [], [], [], [], [], [], [], [], [], [], [], [], [(0, 8, 11, 13)], [], [], [(0, 14, 17, 107)], [], [], [], [], [], [], [], [], [], [], [(0, 4, 7, 18)], [], [(0, 9, 12, 18), (0, 9, 15, 13)], [], [], [], [], [], [], [], [], [], [], [], [], [], [], [], [], [], [], [], [], [], [], []] : List (List (Nat × Nat × Nat × Nat)))[mi]?.getD []
def z_mx (mi : Nat) : List Nat := ([[], [], [], [], [], [], [], [], [], [], [], [], [], [], [], [], [], [], [], [], [], [], [], [], [10], [], [], [10], [], [], [], [], [], [], [], [], [], [], [11], [], [11, 10], [], [], [], [], [], [], [], [], [], [], [], [], [], [], [], [], [], [], [], [], [], [], []] : List (List Nat))[mi]?.getD []
def z_mc (mi : Nat) : Nat := ([0, 0, 1, 1, 2, 3, 3, 4, 4, 5, 6, 7, 8, 8, 0, 0, 0, 2, 0, 0, 0, 0, 0, 0, 0, 0, 2, 0, 6, 2, 2, 1, 6, 6, 6, 6, 6, 2, 0, 0, 0, 0, 9, 9, 9, 9, 9, 9, 9, 9, 9, 9, 9, 9, 9, 9, 9, 9, 9, 9, 9, 9, 9, 9] : List Nat)[mi]?.getD 0
def z_mk : z_K := (fun mi => ([1, 0, 0, 0, 1, 0, 0, 0, 0, 0, 5, 4, 1, 0, 5, 2, 1, 2, 2, 1, 1, 1, 1, 1, 2, 0, 0, 0, 0, 0, 0, 2, 0, 1, 1, 1, 1, 0, 1, 0, 3, 1, 0, 0, 5, 1, 0, 0, 0, 0, 1, 0, 2, 0, 2, 0, 1, 1, 1, 1, 1, 0, 1, 1] : List Nat)[mi]?.getD 0, fun mi => ([0, 1, 1, 2, 1, 1, 2, 1, 2, 1, 1, 1, 1, 2, 2, 2, 2, 2, 0, 2, 2, 2, 2, 2, 0, 2, 2, 2, 2, 2, 2, 2, 2, 2, 2, 2, 2, 2, 0, 2, 0, 2, 1, 2, 2, 2, 2, 2, 2, 2, 2, 2, 2, 2, 2, 2, 2, 2, 2, 2, 2, 2, 2, 2] : List Nat)[mi]?.getD 0)
def z_pg : z_Q := (fun mi pc => z_look (z_rows mi) pc, z_ml, z_mr, z_mh, z_mx, z_mc)
end
section
/-! The words on code, and what the plain machine knows in all. -/
def z_cwm (mi : Nat) : Cond := z_cw (z_my mi) (z_mb mi) (z_ml mi) (z_mr mi) (z_mh mi)
set_option maxRecDepth 20000 in
theorem zw_1 : z_cwm 1 ∈ lw_tbl := List.mem_append_right _ (List.mem_append_left _ (List.mem_of_getElem? (l := tables_1_1) (i := 30) rfl))
set_option maxRecDepth 20000 in
theorem zw_2 : z_cwm 2 ∈ lw_tbl := List.mem_append_right _ (List.mem_append_left _ (List.mem_of_getElem? (l := tables_1_1) (i := 38) rfl))
set_option maxRecDepth 20000 in
theorem zw_3 : z_cwm 3 ∈ lw_tbl := List.mem_append_right _ (List.mem_append_left _ (List.mem_of_getElem? (l := tables_1_1) (i := 43) rfl))
set_option maxRecDepth 20000 in
theorem zw_4 : z_cwm 4 ∈ lw_tbl := List.mem_append_right _ (List.mem_append_left _ (List.mem_of_getElem? (l := tables_1_1) (i := 58) rfl))
set_option maxRecDepth 20000 in
theorem zw_5 : z_cwm 5 ∈ lw_tbl := List.mem_append_right _ (List.mem_append_left _ (List.mem_of_getElem? (l := tables_1_1) (i := 107) rfl))
set_option maxRecDepth 20000 in
theorem zw_6 : z_cwm 6 ∈ lw_tbl := List.mem_append_right _ (List.mem_append_left _ (List.mem_of_getElem? (l := tables_1_1) (i := 112) rfl))
set_option maxRecDepth 20000 in
theorem zw_7 : z_cwm 7 ∈ lw_tbl := List.mem_append_right _ (List.mem_append_left _ (List.mem_of_getElem? (l := tables_1_1) (i := 133) rfl))
set_option maxRecDepth 20000 in
theorem zw_8 : z_cwm 8 ∈ lw_tbl := List.mem_append_right _ (List.mem_append_left _ (List.mem_of_getElem? (l := tables_1_1) (i := 138) rfl))
set_option maxRecDepth 20000 in
theorem zw_9 : z_cwm 9 ∈ lw_tbl := List.mem_append_right _ (List.mem_append_left _ (List.mem_of_getElem? (l := tables_1_1) (i := 205) rfl))
set_option maxRecDepth 20000 in
theorem zw_10 : z_cwm 10 ∈ lw_tbl := List.mem_append_right _ (List.mem_append_left _ (List.mem_of_getElem? (l := tables_1_1) (i := 230) rfl))
set_option maxRecDepth 20000 in
theorem zw_11 : z_cwm 11 ∈ lw_tbl := List.mem_append_right _ (List.mem_append_right _ (List.mem_append_left _ (List.mem_of_getElem? (l := tables_1_2) (i := 21) rfl)))
set_option maxRecDepth 20000 in
theorem zw_12 : z_cwm 12 ∈ lw_tbl := List.mem_append_right _ (List.mem_append_right _ (List.mem_append_left _ (List.mem_of_getElem? (l := tables_1_2) (i := 79) rfl)))
set_option maxRecDepth 20000 in
theorem zw_13 : z_cwm 13 ∈ lw_tbl := List.mem_append_right _ (List.mem_append_right _ (List.mem_append_left _ (List.mem_of_getElem? (l := tables_1_2) (i := 84) rfl)))
set_option maxRecDepth 20000 in
theorem zw_14 : z_cwm 14 ∈ lw_tbl := List.mem_append_right _ (List.mem_append_right _ (List.mem_append_left _ (List.mem_of_getElem? (l := tables_1_2) (i := 162) rfl)))
set_option maxRecDepth 20000 in
theorem zw_15 : z_cwm 15 ∈ lw_tbl := List.mem_append_right _ (List.mem_append_right _ (List.mem_append_left _ (List.mem_of_getElem? (l := tables_1_2) (i := 166) rfl)))
set_option maxRecDepth 20000 in
theorem zw_16 : z_cwm 16 ∈ lw_tbl := List.mem_append_right _ (List.mem_append_right _ (List.mem_append_left _ (List.mem_of_getElem? (l := tables_1_2) (i := 170) rfl)))
set_option maxRecDepth 20000 in
theorem zw_17 : z_cwm 17 ∈ lw_tbl := List.mem_append_right _ (List.mem_append_right _ (List.mem_append_left _ (List.mem_of_getElem? (l := tables_1_2) (i := 174) rfl)))
set_option maxRecDepth 20000 in
theorem zw_18 : z_cwm 18 ∈ lw_tbl := List.mem_append_right _ (List.mem_append_right _ (List.mem_append_left _ (List.mem_of_getElem? (l := tables_1_2) (i := 180) rfl)))
set_option maxRecDepth 20000 in
theorem zw_19 : z_cwm 19 ∈ lw_tbl := List.mem_append_right _ (List.mem_append_right _ (List.mem_append_left _ (List.mem_of_getElem? (l := tables_1_2) (i := 184) rfl)))
set_option maxRecDepth 20000 in
theorem zw_20 : z_cwm 20 ∈ lw_tbl := List.mem_append_right _ (List.mem_append_right _ (List.mem_append_left _ (List.mem_of_getElem? (l := tables_1_2) (i := 188) rfl)))
set_option maxRecDepth 20000 in
theorem zw_21 : z_cwm 21 ∈ lw_tbl := List.mem_append_right _ (List.mem_append_right _ (List.mem_append_left _ (List.mem_of_getElem? (l := tables_1_2) (i := 192) rfl)))
set_option maxRecDepth 20000 in
theorem zw_22 : z_cwm 22 ∈ lw_tbl := List.mem_append_right _ (List.mem_append_right _ (List.mem_append_left _ (List.mem_of_getElem? (l := tables_1_2) (i := 204) rfl)))
set_option maxRecDepth 20000 in
theorem zw_23 : z_cwm 23 ∈ lw_tbl := List.mem_append_right _ (List.mem_append_right _ (List.mem_append_left _ (List.mem_of_getElem? (l := tables_1_2) (i := 212) rfl)))
set_option maxRecDepth 20000 in
theorem zw_24 : z_cwm 24 ∈ lw_tbl := List.mem_append_right _ (List.mem_append_right _ (List.mem_append_left _ (List.mem_of_getElem? (l := tables_1_2) (i := 215) rfl)))
set_option maxRecDepth 20000 in
theorem zw_25 : z_cwm 25 ∈ lw_tbl := List.mem_append_right _ (List.mem_append_right _ (List.mem_append_left _ (List.mem_of_getElem? (l := tables_1_2) (i := 220) rfl)))
set_option maxRecDepth 20000 in
theorem zw_26 : z_cwm 26 ∈ lw_tbl := List.mem_append_right _ (List.mem_append_right _ (List.mem_append_left _ (List.mem_of_getElem? (l := tables_1_2) (i := 226) rfl)))
set_option maxRecDepth 20000 in
theorem zw_27 : z_cwm 27 ∈ lw_tbl := List.mem_append_right _ (List.mem_append_right _ (List.mem_append_right _ (List.mem_append_left _ (List.mem_of_getElem? (l := tables_1_3) (i := 82) rfl))))
set_option maxRecDepth 20000 in
theorem zw_28 : z_cwm 28 ∈ lw_tbl := List.mem_append_right _ (List.mem_append_right _ (List.mem_append_right _ (List.mem_append_left _ (List.mem_of_getElem? (l := tables_1_3) (i := 87) rfl))))
set_option maxRecDepth 20000 in
theorem zw_29 : z_cwm 29 ∈ lw_tbl := List.mem_append_right _ (List.mem_append_right _ (List.mem_append_right _ (List.mem_append_left _ (List.mem_of_getElem? (l := tables_1_3) (i := 93) rfl))))
set_option maxRecDepth 20000 in
theorem zw_30 : z_cwm 30 ∈ lw_tbl := List.mem_append_right _ (List.mem_append_right _ (List.mem_append_right _ (List.mem_append_left _ (List.mem_of_getElem? (l := tables_1_3) (i := 97) rfl))))
set_option maxRecDepth 20000 in
theorem zw_31 : z_cwm 31 ∈ lw_tbl := List.mem_append_right _ (List.mem_append_right _ (List.mem_append_right _ (List.mem_append_left _ (List.mem_of_getElem? (l := tables_1_3) (i := 101) rfl))))
set_option maxRecDepth 20000 in
theorem zw_32 : z_cwm 32 ∈ lw_tbl := List.mem_append_right _ (List.mem_append_right _ (List.mem_append_right _ (List.mem_append_left _ (List.mem_of_getElem? (l := tables_1_3) (i := 177) rfl))))
set_option maxRecDepth 20000 in
theorem zw_33 : z_cwm 33 ∈ lw_tbl := List.mem_append_right _ (List.mem_append_right _ (List.mem_append_right _ (List.mem_append_right _ (List.mem_append_left _ (List.mem_of_getElem? (l := tables_1_4) (i := 10) rfl)))))
set_option maxRecDepth 20000 in
theorem zw_34 : z_cwm 34 ∈ lw_tbl := List.mem_append_right _ (List.mem_append_right _ (List.mem_append_right _ (List.mem_append_right _ (List.mem_append_left _ (List.mem_of_getElem? (l := tables_1_4) (i := 80) rfl)))))
set_option maxRecDepth 20000 in
theorem zw_35 : z_cwm 35 ∈ lw_tbl := List.mem_append_right _ (List.mem_append_right _ (List.mem_append_right _ (List.mem_append_right _ (List.mem_append_left _ (List.mem_of_getElem? (l := tables_1_4) (i := 84) rfl)))))
set_option maxRecDepth 20000 in
theorem zw_36 : z_cwm 36 ∈ lw_tbl := List.mem_append_right _ (List.mem_append_right _ (List.mem_append_right _ (List.mem_append_right _ (List.mem_append_left _ (List.mem_of_getElem? (l := tables_1_4) (i := 90) rfl)))))
set_option maxRecDepth 20000 in
theorem zw_37 : z_cwm 37 ∈ lw_tbl := List.mem_append_right _ (List.mem_append_right _ (List.mem_append_right _ (List.mem_append_right _ (List.mem_append_left _ (List.mem_of_getElem? (l := tables_1_4) (i := 221) rfl)))))
set_option maxRecDepth 20000 in
theorem zw_38 : z_cwm 38 ∈ lw_tbl := List.mem_append_right _ (List.mem_append_right _ (List.mem_append_right _ (List.mem_append_right _ (List.mem_append_left _ (List.mem_of_getElem? (l := tables_1_4) (i := 237) rfl)))))
set_option maxRecDepth 20000 in
theorem zw_39 : z_cwm 39 ∈ lw_tbl := List.mem_append_right _ (List.mem_append_right _ (List.mem_append_right _ (List.mem_append_right _ (List.mem_append_right _ (List.mem_append_left _ (List.mem_of_getElem? (l := tables_1_5) (i := 2) rfl))))))
set_option maxRecDepth 20000 in
theorem zw_40 : z_cwm 40 ∈ lw_tbl := List.mem_append_right _ (List.mem_append_right _ (List.mem_append_right _ (List.mem_append_right _ (List.mem_append_right _ (List.mem_append_left _ (List.mem_of_getElem? (l := tables_1_5) (i := 34) rfl))))))
set_option maxRecDepth 20000 in
theorem zw_41 : z_cwm 41 ∈ lw_tbl := List.mem_append_right _ (List.mem_append_right _ (List.mem_append_right _ (List.mem_append_right _ (List.mem_append_right _ (List.mem_append_left _ (List.mem_of_getElem? (l := tables_1_5) (i := 38) rfl))))))
set_option maxRecDepth 20000 in
theorem zw_42 : z_cwm 42 ∈ lw_tbl := List.mem_append_right _ (List.mem_append_right _ (List.mem_append_right _ (List.mem_append_right _ (List.mem_append_right _ (List.mem_append_left _ (List.mem_of_getElem? (l := tables_1_5) (i := 127) rfl))))))
set_option maxRecDepth 20000 in
theorem zw_43 : z_cwm 43 ∈ lw_tbl := List.mem_append_right _ (List.mem_append_right _ (List.mem_append_right _ (List.mem_append_right _ (List.mem_append_right _ (List.mem_append_right _ (List.mem_append_right _ (List.mem_append_left _ (List.mem_of_getElem? (l := tables_1_7) (i := 28) rfl))))))))
set_option maxRecDepth 20000 in
theorem zw_44 : z_cwm 44 ∈ lw_tbl := List.mem_append_right _ (List.mem_append_right _ (List.mem_append_right _ (List.mem_append_right _ (List.mem_append_right _ (List.mem_append_right _ (List.mem_append_right _ (List.mem_append_left _ (List.mem_of_getElem? (l := tables_1_7) (i := 32) rfl))))))))
set_option maxRecDepth 20000 in
theorem zw_45 : z_cwm 45 ∈ lw_tbl := List.mem_append_right _ (List.mem_append_right _ (List.mem_append_right _ (List.mem_append_right _ (List.mem_append_right _ (List.mem_append_right _ (List.mem_append_right _ (List.mem_append_left _ (List.mem_of_getElem? (l := tables_1_7) (i := 36) rfl))))))))
set_option maxRecDepth 20000 in
theorem zw_46 : z_cwm 46 ∈ lw_tbl := List.mem_append_right _ (List.mem_append_right _ (List.mem_append_right _ (List.mem_append_right _ (List.mem_append_right _ (List.mem_append_right _ (List.mem_append_right _ (List.mem_append_left _ (List.mem_of_getElem? (l := tables_1_7) (i := 40) rfl))))))))
set_option maxRecDepth 20000 in
theorem zw_47 : z_cwm 47 ∈ lw_tbl := List.mem_append_right _ (List.mem_append_right _ (List.mem_append_right _ (List.mem_append_right _ (List.mem_append_right _ (List.mem_append_right _ (List.mem_append_right _ (List.mem_append_left _ (List.mem_of_getElem? (l := tables_1_7) (i := 44) rfl))))))))
set_option maxRecDepth 20000 in
theorem zw_48 : z_cwm 48 ∈ lw_tbl := List.mem_append_right _ (List.mem_append_right _ (List.mem_append_right _ (List.mem_append_right _ (List.mem_append_right _ (List.mem_append_right _ (List.mem_append_right _ (List.mem_append_left _ (List.mem_of_getElem? (l := tables_1_7) (i := 48) rfl))))))))
set_option maxRecDepth 20000 in
theorem zw_49 : z_cwm 49 ∈ lw_tbl := List.mem_append_right _ (List.mem_append_right _ (List.mem_append_right _ (List.mem_append_right _ (List.mem_append_right _ (List.mem_append_right _ (List.mem_append_right _ (List.mem_append_left _ (List.mem_of_getElem? (l := tables_1_7) (i := 52) rfl))))))))
set_option maxRecDepth 20000 in
theorem zw_50 : z_cwm 50 ∈ lw_tbl := List.mem_append_right _ (List.mem_append_right _ (List.mem_append_right _ (List.mem_append_right _ (List.mem_append_right _ (List.mem_append_right _ (List.mem_append_right _ (List.mem_append_left _ (List.mem_of_getElem? (l := tables_1_7) (i := 56) rfl))))))))
set_option maxRecDepth 20000 in
theorem zw_51 : z_cwm 51 ∈ lw_tbl := List.mem_append_right _ (List.mem_append_right _ (List.mem_append_right _ (List.mem_append_right _ (List.mem_append_right _ (List.mem_append_right _ (List.mem_append_right _ (List.mem_append_left _ (List.mem_of_getElem? (l := tables_1_7) (i := 60) rfl))))))))
set_option maxRecDepth 20000 in
theorem zw_52 : z_cwm 52 ∈ lw_tbl := List.mem_append_right _ (List.mem_append_right _ (List.mem_append_right _ (List.mem_append_right _ (List.mem_append_right _ (List.mem_append_right _ (List.mem_append_right _ (List.mem_append_left _ (List.mem_of_getElem? (l := tables_1_7) (i := 84) rfl))))))))
set_option maxRecDepth 20000 in
theorem zw_53 : z_cwm 53 ∈ lw_tbl := List.mem_append_right _ (List.mem_append_right _ (List.mem_append_right _ (List.mem_append_right _ (List.mem_append_right _ (List.mem_append_right _ (List.mem_append_right _ (List.mem_append_left _ (List.mem_of_getElem? (l := tables_1_7) (i := 88) rfl))))))))
set_option maxRecDepth 20000 in
theorem zw_54 : z_cwm 54 ∈ lw_tbl := List.mem_append_right _ (List.mem_append_right _ (List.mem_append_right _ (List.mem_append_right _ (List.mem_append_right _ (List.mem_append_right _ (List.mem_append_right _ (List.mem_append_left _ (List.mem_of_getElem? (l := tables_1_7) (i := 120) rfl))))))))
set_option maxRecDepth 20000 in
theorem zw_55 : z_cwm 55 ∈ lw_tbl := List.mem_append_right _ (List.mem_append_right _ (List.mem_append_right _ (List.mem_append_right _ (List.mem_append_right _ (List.mem_append_right _ (List.mem_append_right _ (List.mem_append_left _ (List.mem_of_getElem? (l := tables_1_7) (i := 124) rfl))))))))
set_option maxRecDepth 20000 in
theorem zw_56 : z_cwm 56 ∈ lw_tbl := List.mem_append_right _ (List.mem_append_right _ (List.mem_append_right _ (List.mem_append_right _ (List.mem_append_right _ (List.mem_append_right _ (List.mem_append_right _ (List.mem_append_left _ (List.mem_of_getElem? (l := tables_1_7) (i := 160) rfl))))))))
set_option maxRecDepth 20000 in
theorem zw_57 : z_cwm 57 ∈ lw_tbl := List.mem_append_right _ (List.mem_append_right _ (List.mem_append_right _ (List.mem_append_right _ (List.mem_append_right _ (List.mem_append_right _ (List.mem_append_right _ (List.mem_append_right _ (List.mem_of_getElem? (l := tables_1_8) (i := 41) rfl))))))))
set_option maxRecDepth 20000 in
theorem zw_58 : z_cwm 58 ∈ lw_tbl := List.mem_append_right _ (List.mem_append_right _ (List.mem_append_right _ (List.mem_append_right _ (List.mem_append_right _ (List.mem_append_right _ (List.mem_append_right _ (List.mem_append_right _ (List.mem_of_getElem? (l := tables_1_8) (i := 45) rfl))))))))
set_option maxRecDepth 20000 in
theorem zw_59 : z_cwm 59 ∈ lw_tbl := List.mem_append_right _ (List.mem_append_right _ (List.mem_append_right _ (List.mem_append_right _ (List.mem_append_right _ (List.mem_append_right _ (List.mem_append_right _ (List.mem_append_right _ (List.mem_of_getElem? (l := tables_1_8) (i := 49) rfl))))))))
set_option maxRecDepth 20000 in
theorem zw_60 : z_cwm 60 ∈ lw_tbl := List.mem_append_right _ (List.mem_append_right _ (List.mem_append_right _ (List.mem_append_right _ (List.mem_append_right _ (List.mem_append_right _ (List.mem_append_right _ (List.mem_append_right _ (List.mem_of_getElem? (l := tables_1_8) (i := 53) rfl))))))))
set_option maxRecDepth 20000 in
theorem zw_61 : z_cwm 61 ∈ lw_tbl := List.mem_append_right _ (List.mem_append_right _ (List.mem_append_right _ (List.mem_append_right _ (List.mem_append_right _ (List.mem_append_right _ (List.mem_append_right _ (List.mem_append_right _ (List.mem_of_getElem? (l := tables_1_8) (i := 57) rfl))))))))
set_option maxRecDepth 20000 in
theorem zw_62 : z_cwm 62 ∈ lw_tbl := List.mem_append_right _ (List.mem_append_right _ (List.mem_append_right _ (List.mem_append_right _ (List.mem_append_right _ (List.mem_append_right _ (List.mem_append_right _ (List.mem_append_right _ (List.mem_of_getElem? (l := tables_1_8) (i := 61) rfl))))))))
set_option maxRecDepth 20000 in
theorem zw_63 : z_cwm 63 ∈ lw_tbl := List.mem_append_right _ (List.mem_append_right _ (List.mem_append_right _ (List.mem_append_right _ (List.mem_append_right _ (List.mem_append_right _ (List.mem_append_right _ (List.mem_append_right _ (List.mem_of_getElem? (l := tables_1_8) (i := 124) rfl))))))))
set_option maxRecDepth 20000 in
theorem zw_0 : Cond.code Lib.objectInit ⟨#[0xb1]⟩ 1 none ∈ lw_tbl := List.mem_append_right _ (List.mem_append_left _ (List.mem_of_getElem? (l := tables_1_1) (i := 33) rfl))
set_option maxRecDepth 20000 in
theorem zw_o : Cond.code z_yo prog_16_method_2_code 1 (some .int) ∈ lw_tbl := List.mem_append_right _ (List.mem_append_right _ (List.mem_append_right _ (List.mem_append_right _ (List.mem_append_left _ (List.mem_of_getElem? (l := tables_1_4) (i := 18) rfl)))))
def z_co : ByteArray := prog_16_method_2_code
def z_wc : List Cond := Cond.code Lib.objectInit ⟨#[0xb1]⟩ 1 none :: Cond.code z_yo z_co 1 (some .int) :: (List.range 63).map (fun k => z_cwm (k + 1))
def z_ws : List Cond := z_wn ++ z_wc
theorem z_cw_good (y : MethodName) (cc : ByteArray) (m : Nat) (r : Option FieldType) (hh : List (Nat × Nat × Nat × Nat)) : ((z_cw y cc m r hh).onTables && (z_cw y cc m r hh).keeps) = true := by
  cases hh <;> rfl
theorem zw_all : ∀ k, k < 63 → z_cwm (k + 1) ∈ lw_tbl := by
  intro k hk
  match k, hk with
  | 0, _ => exact zw_1
  | 1, _ => exact zw_2
  | 2, _ => exact zw_3
  | 3, _ => exact zw_4
  | 4, _ => exact zw_5
  | 5, _ => exact zw_6
  | 6, _ => exact zw_7
  | 7, _ => exact zw_8
  | 8, _ => exact zw_9
  | 9, _ => exact zw_10
  | 10, _ => exact zw_11
  | 11, _ => exact zw_12
  | 12, _ => exact zw_13
  | 13, _ => exact zw_14
  | 14, _ => exact zw_15
  | 15, _ => exact zw_16
  | 16, _ => exact zw_17
  | 17, _ => exact zw_18
  | 18, _ => exact zw_19
  | 19, _ => exact zw_20
  | 20, _ => exact zw_21
  | 21, _ => exact zw_22
  | 22, _ => exact zw_23
  | 23, _ => exact zw_24
  | 24, _ => exact zw_25
  | 25, _ => exact zw_26
  | 26, _ => exact zw_27
  | 27, _ => exact zw_28
  | 28, _ => exact zw_29
  | 29, _ => exact zw_30
  | 30, _ => exact zw_31
  | 31, _ => exact zw_32
  | 32, _ => exact zw_33
  | 33, _ => exact zw_34
  | 34, _ => exact zw_35
  | 35, _ => exact zw_36
  | 36, _ => exact zw_37
  | 37, _ => exact zw_38
  | 38, _ => exact zw_39
  | 39, _ => exact zw_40
  | 40, _ => exact zw_41
  | 41, _ => exact zw_42
  | 42, _ => exact zw_43
  | 43, _ => exact zw_44
  | 44, _ => exact zw_45
  | 45, _ => exact zw_46
  | 46, _ => exact zw_47
  | 47, _ => exact zw_48
  | 48, _ => exact zw_49
  | 49, _ => exact zw_50
  | 50, _ => exact zw_51
  | 51, _ => exact zw_52
  | 52, _ => exact zw_53
  | 53, _ => exact zw_54
  | 54, _ => exact zw_55
  | 55, _ => exact zw_56
  | 56, _ => exact zw_57
  | 57, _ => exact zw_58
  | 58, _ => exact zw_59
  | 59, _ => exact zw_60
  | 60, _ => exact zw_61
  | 61, _ => exact zw_62
  | 62, _ => exact zw_63
  | n + 63, hk => omega
theorem z_wsg : GoodIn lw_tbl z_ws := by
  refine z_gia z_wg (fun w hw => ?_)
  rcases List.mem_cons.mp hw with rfl | hw
  · exact ⟨zw_0, Or.inl rfl⟩
  rcases List.mem_cons.mp hw with rfl | hw
  · exact ⟨zw_o, Or.inl rfl⟩
  · obtain ⟨k, hk, rfl⟩ := List.mem_map.mp hw
    exact ⟨zw_all k (List.mem_range.mp hk), Or.inl (z_cw_good _ _ _ _ _)⟩
theorem z_cw_in : ∀ mi, 0 < mi → mi < 64 → z_cw (z_my mi) (z_mb mi) (z_pg.2.1 mi) (z_pg.2.2.1 mi) (z_pg.2.2.2.1 mi) ∈ z_ws := by
  intro mi h1 h2
  refine List.mem_append_right _ (List.mem_cons_of_mem _ (List.mem_cons_of_mem _ (List.mem_map.mpr ⟨mi - 1, List.mem_range.mpr (by omega), ?_⟩)))
  show z_cwm (mi - 1 + 1) = _
  rw [Nat.sub_add_cancel h1]
  rfl
end
section
/-! The tables are checked. -/
theorem z_aap {f : z_R → Bool} {a b : List z_R} (ha : a.all f = true) (hb : b.all f = true) : (a ++ b).all f = true := by
  rw [List.all_append, ha, hb]
  rfl
theorem zc_0_0 : zr_0_0.all (z_chkR z_my z_mb z_mk 64 z_cl z_tyl z_stl z_ws 0) = true := by decide +kernel
theorem zc_0_1 : zr_0_1.all (z_chkR z_my z_mb z_mk 64 z_cl z_tyl z_stl z_ws 0) = true := by decide +kernel
theorem zc_0_2 : zr_0_2.all (z_chkR z_my z_mb z_mk 64 z_cl z_tyl z_stl z_ws 0) = true := by decide +kernel
theorem zc_0_3 : zr_0_3.all (z_chkR z_my z_mb z_mk 64 z_cl z_tyl z_stl z_ws 0) = true := by decide +kernel
theorem zc_0_4 : zr_0_4.all (z_chkR z_my z_mb z_mk 64 z_cl z_tyl z_stl z_ws 0) = true := by decide +kernel
theorem zc_0 : zr_0.all (z_chkR z_my z_mb z_mk 64 z_cl z_tyl z_stl z_ws 0) = true := z_aap zc_0_0 (z_aap zc_0_1 (z_aap zc_0_2 (z_aap zc_0_3 (zc_0_4))))
theorem zc_1_0 : zr_1_0.all (z_chkR z_my z_mb z_mk 64 z_cl z_tyl z_stl z_ws 1) = true := by decide +kernel
theorem zc_1_1 : zr_1_1.all (z_chkR z_my z_mb z_mk 64 z_cl z_tyl z_stl z_ws 1) = true := by decide +kernel
theorem zc_1 : zr_1.all (z_chkR z_my z_mb z_mk 64 z_cl z_tyl z_stl z_ws 1) = true := z_aap zc_1_0 (zc_1_1)
theorem zc_2 : zr_2.all (z_chkR z_my z_mb z_mk 64 z_cl z_tyl z_stl z_ws 2) = true := by decide +kernel
theorem zc_3 : zr_3.all (z_chkR z_my z_mb z_mk 64 z_cl z_tyl z_stl z_ws 3) = true := by decide +kernel
theorem zc_4 : zr_4.all (z_chkR z_my z_mb z_mk 64 z_cl z_tyl z_stl z_ws 4) = true := by decide +kernel
theorem zc_5 : zr_5.all (z_chkR z_my z_mb z_mk 64 z_cl z_tyl z_stl z_ws 5) = true := by decide +kernel
theorem zc_6 : zr_6.all (z_chkR z_my z_mb z_mk 64 z_cl z_tyl z_stl z_ws 6) = true := by decide +kernel
theorem zc_7 : zr_7.all (z_chkR z_my z_mb z_mk 64 z_cl z_tyl z_stl z_ws 7) = true := by decide +kernel
theorem zc_8 : zr_8.all (z_chkR z_my z_mb z_mk 64 z_cl z_tyl z_stl z_ws 8) = true := by decide +kernel
theorem zc_9 : zr_9.all (z_chkR z_my z_mb z_mk 64 z_cl z_tyl z_stl z_ws 9) = true := by decide +kernel
theorem zc_10 : zr_10.all (z_chkR z_my z_mb z_mk 64 z_cl z_tyl z_stl z_ws 10) = true := by decide +kernel
theorem zc_11 : zr_11.all (z_chkR z_my z_mb z_mk 64 z_cl z_tyl z_stl z_ws 11) = true := by decide +kernel
theorem zc_12 : zr_12.all (z_chkR z_my z_mb z_mk 64 z_cl z_tyl z_stl z_ws 12) = true := by decide +kernel
theorem zc_13 : zr_13.all (z_chkR z_my z_mb z_mk 64 z_cl z_tyl z_stl z_ws 13) = true := by decide +kernel
theorem zc_14 : zr_14.all (z_chkR z_my z_mb z_mk 64 z_cl z_tyl z_stl z_ws 14) = true := by decide +kernel
theorem zc_15 : zr_15.all (z_chkR z_my z_mb z_mk 64 z_cl z_tyl z_stl z_ws 15) = true := by decide +kernel
theorem zc_16 : zr_16.all (z_chkR z_my z_mb z_mk 64 z_cl z_tyl z_stl z_ws 16) = true := by decide +kernel
theorem zc_17 : zr_17.all (z_chkR z_my z_mb z_mk 64 z_cl z_tyl z_stl z_ws 17) = true := by decide +kernel
theorem zc_18 : zr_18.all (z_chkR z_my z_mb z_mk 64 z_cl z_tyl z_stl z_ws 18) = true := by decide +kernel
theorem zc_19 : zr_19.all (z_chkR z_my z_mb z_mk 64 z_cl z_tyl z_stl z_ws 19) = true := by decide +kernel
theorem zc_20 : zr_20.all (z_chkR z_my z_mb z_mk 64 z_cl z_tyl z_stl z_ws 20) = true := by decide +kernel
theorem zc_21 : zr_21.all (z_chkR z_my z_mb z_mk 64 z_cl z_tyl z_stl z_ws 21) = true := by decide +kernel
theorem zc_22 : zr_22.all (z_chkR z_my z_mb z_mk 64 z_cl z_tyl z_stl z_ws 22) = true := by decide +kernel
theorem zc_23 : zr_23.all (z_chkR z_my z_mb z_mk 64 z_cl z_tyl z_stl z_ws 23) = true := by decide +kernel
theorem zc_24 : zr_24.all (z_chkR z_my z_mb z_mk 64 z_cl z_tyl z_stl z_ws 24) = true := by decide +kernel
theorem zc_25 : zr_25.all (z_chkR z_my z_mb z_mk 64 z_cl z_tyl z_stl z_ws 25) = true := by decide +kernel
theorem zc_26_0 : zr_26_0.all (z_chkR z_my z_mb z_mk 64 z_cl z_tyl z_stl z_ws 26) = true := by decide +kernel
theorem zc_26_1 : zr_26_1.all (z_chkR z_my z_mb z_mk 64 z_cl z_tyl z_stl z_ws 26) = true := by decide +kernel
theorem zc_26 : zr_26.all (z_chkR z_my z_mb z_mk 64 z_cl z_tyl z_stl z_ws 26) = true := z_aap zc_26_0 (zc_26_1)
theorem zc_27 : zr_27.all (z_chkR z_my z_mb z_mk 64 z_cl z_tyl z_stl z_ws 27) = true := by decide +kernel
theorem zc_28 : zr_28.all (z_chkR z_my z_mb z_mk 64 z_cl z_tyl z_stl z_ws 28) = true := by decide +kernel
theorem zc_29 : zr_29.all (z_chkR z_my z_mb z_mk 64 z_cl z_tyl z_stl z_ws 29) = true := by decide +kernel
theorem zc_30 : zr_30.all (z_chkR z_my z_mb z_mk 64 z_cl z_tyl z_stl z_ws 30) = true := by decide +kernel
theorem zc_31 : zr_31.all (z_chkR z_my z_mb z_mk 64 z_cl z_tyl z_stl z_ws 31) = true := by decide +kernel
theorem zc_32 : zr_32.all (z_chkR z_my z_mb z_mk 64 z_cl z_tyl z_stl z_ws 32) = true := by decide +kernel
theorem zc_33 : zr_33.all (z_chkR z_my z_mb z_mk 64 z_cl z_tyl z_stl z_ws 33) = true := by decide +kernel
theorem zc_34_0 : zr_34_0.all (z_chkR z_my z_mb z_mk 64 z_cl z_tyl z_stl z_ws 34) = true := by decide +kernel
theorem zc_34_1 : zr_34_1.all (z_chkR z_my z_mb z_mk 64 z_cl z_tyl z_stl z_ws 34) = true := by decide +kernel
theorem zc_34 : zr_34.all (z_chkR z_my z_mb z_mk 64 z_cl z_tyl z_stl z_ws 34) = true := z_aap zc_34_0 (zc_34_1)
theorem zc_35_0 : zr_35_0.all (z_chkR z_my z_mb z_mk 64 z_cl z_tyl z_stl z_ws 35) = true := by decide +kernel
theorem zc_35_1 : zr_35_1.all (z_chkR z_my z_mb z_mk 64 z_cl z_tyl z_stl z_ws 35) = true := by decide +kernel
theorem zc_35 : zr_35.all (z_chkR z_my z_mb z_mk 64 z_cl z_tyl z_stl z_ws 35) = true := z_aap zc_35_0 (zc_35_1)
theorem zc_36_0 : zr_36_0.all (z_chkR z_my z_mb z_mk 64 z_cl z_tyl z_stl z_ws 36) = true := by decide +kernel
theorem zc_36_1 : zr_36_1.all (z_chkR z_my z_mb z_mk 64 z_cl z_tyl z_stl z_ws 36) = true := by decide +kernel
theorem zc_36 : zr_36.all (z_chkR z_my z_mb z_mk 64 z_cl z_tyl z_stl z_ws 36) = true := z_aap zc_36_0 (zc_36_1)
theorem zc_37 : zr_37.all (z_chkR z_my z_mb z_mk 64 z_cl z_tyl z_stl z_ws 37) = true := by decide +kernel
theorem zc_38 : zr_38.all (z_chkR z_my z_mb z_mk 64 z_cl z_tyl z_stl z_ws 38) = true := by decide +kernel
theorem zc_39 : zr_39.all (z_chkR z_my z_mb z_mk 64 z_cl z_tyl z_stl z_ws 39) = true := by decide +kernel
theorem zc_40 : zr_40.all (z_chkR z_my z_mb z_mk 64 z_cl z_tyl z_stl z_ws 40) = true := by decide +kernel
theorem zc_41 : zr_41.all (z_chkR z_my z_mb z_mk 64 z_cl z_tyl z_stl z_ws 41) = true := by decide +kernel
theorem zc_42_0 : zr_42_0.all (z_chkR z_my z_mb z_mk 64 z_cl z_tyl z_stl z_ws 42) = true := by decide +kernel
theorem zc_42_1 : zr_42_1.all (z_chkR z_my z_mb z_mk 64 z_cl z_tyl z_stl z_ws 42) = true := by decide +kernel
theorem zc_42_2 : zr_42_2.all (z_chkR z_my z_mb z_mk 64 z_cl z_tyl z_stl z_ws 42) = true := by decide +kernel
theorem zc_42_3 : zr_42_3.all (z_chkR z_my z_mb z_mk 64 z_cl z_tyl z_stl z_ws 42) = true := by decide +kernel
theorem zc_42_4 : zr_42_4.all (z_chkR z_my z_mb z_mk 64 z_cl z_tyl z_stl z_ws 42) = true := by decide +kernel
theorem zc_42_5 : zr_42_5.all (z_chkR z_my z_mb z_mk 64 z_cl z_tyl z_stl z_ws 42) = true := by decide +kernel
theorem zc_42_6 : zr_42_6.all (z_chkR z_my z_mb z_mk 64 z_cl z_tyl z_stl z_ws 42) = true := by decide +kernel
theorem zc_42_7 : zr_42_7.all (z_chkR z_my z_mb z_mk 64 z_cl z_tyl z_stl z_ws 42) = true := by decide +kernel
theorem zc_42_8 : zr_42_8.all (z_chkR z_my z_mb z_mk 64 z_cl z_tyl z_stl z_ws 42) = true := by decide +kernel
theorem zc_42_9 : zr_42_9.all (z_chkR z_my z_mb z_mk 64 z_cl z_tyl z_stl z_ws 42) = true := by decide +kernel
theorem zc_42_10 : zr_42_10.all (z_chkR z_my z_mb z_mk 64 z_cl z_tyl z_stl z_ws 42) = true := by decide +kernel
theorem zc_42_11 : zr_42_11.all (z_chkR z_my z_mb z_mk 64 z_cl z_tyl z_stl z_ws 42) = true := by decide +kernel
theorem zc_42 : zr_42.all (z_chkR z_my z_mb z_mk 64 z_cl z_tyl z_stl z_ws 42) = true := z_aap zc_42_0 (z_aap zc_42_1 (z_aap zc_42_2 (z_aap zc_42_3 (z_aap zc_42_4 (z_aap zc_42_5 (z_aap zc_42_6 (z_aap zc_42_7 (z_aap zc_42_8 (z_aap zc_42_9 (z_aap zc_42_10 (zc_42_11)))))))))))
theorem zc_43 : zr_43.all (z_chkR z_my z_mb z_mk 64 z_cl z_tyl z_stl z_ws 43) = true := by decide +kernel
theorem zc_44_0 : zr_44_0.all (z_chkR z_my z_mb z_mk 64 z_cl z_tyl z_stl z_ws 44) = true := by decide +kernel
theorem zc_44_1 : zr_44_1.all (z_chkR z_my z_mb z_mk 64 z_cl z_tyl z_stl z_ws 44) = true := by decide +kernel
theorem zc_44 : zr_44.all (z_chkR z_my z_mb z_mk 64 z_cl z_tyl z_stl z_ws 44) = true := z_aap zc_44_0 (zc_44_1)
theorem zc_45 : zr_45.all (z_chkR z_my z_mb z_mk 64 z_cl z_tyl z_stl z_ws 45) = true := by decide +kernel
theorem zc_46_0 : zr_46_0.all (z_chkR z_my z_mb z_mk 64 z_cl z_tyl z_stl z_ws 46) = true := by decide +kernel
theorem zc_46_1 : zr_46_1.all (z_chkR z_my z_mb z_mk 64 z_cl z_tyl z_stl z_ws 46) = true := by decide +kernel
theorem zc_46 : zr_46.all (z_chkR z_my z_mb z_mk 64 z_cl z_tyl z_stl z_ws 46) = true := z_aap zc_46_0 (zc_46_1)
theorem zc_47 : zr_47.all (z_chkR z_my z_mb z_mk 64 z_cl z_tyl z_stl z_ws 47) = true := by decide +kernel
theorem zc_48_0 : zr_48_0.all (z_chkR z_my z_mb z_mk 64 z_cl z_tyl z_stl z_ws 48) = true := by decide +kernel
theorem zc_48_1 : zr_48_1.all (z_chkR z_my z_mb z_mk 64 z_cl z_tyl z_stl z_ws 48) = true := by decide +kernel
theorem zc_48 : zr_48.all (z_chkR z_my z_mb z_mk 64 z_cl z_tyl z_stl z_ws 48) = true := z_aap zc_48_0 (zc_48_1)
theorem zc_49 : zr_49.all (z_chkR z_my z_mb z_mk 64 z_cl z_tyl z_stl z_ws 49) = true := by decide +kernel
theorem zc_50 : zr_50.all (z_chkR z_my z_mb z_mk 64 z_cl z_tyl z_stl z_ws 50) = true := by decide +kernel
theorem zc_51_0 : zr_51_0.all (z_chkR z_my z_mb z_mk 64 z_cl z_tyl z_stl z_ws 51) = true := by decide +kernel
theorem zc_51_1 : zr_51_1.all (z_chkR z_my z_mb z_mk 64 z_cl z_tyl z_stl z_ws 51) = true := by decide +kernel
theorem zc_51_2 : zr_51_2.all (z_chkR z_my z_mb z_mk 64 z_cl z_tyl z_stl z_ws 51) = true := by decide +kernel
theorem zc_51 : zr_51.all (z_chkR z_my z_mb z_mk 64 z_cl z_tyl z_stl z_ws 51) = true := z_aap zc_51_0 (z_aap zc_51_1 (zc_51_2))
theorem zc_52 : zr_52.all (z_chkR z_my z_mb z_mk 64 z_cl z_tyl z_stl z_ws 52) = true := by decide +kernel
theorem zc_53 : zr_53.all (z_chkR z_my z_mb z_mk 64 z_cl z_tyl z_stl z_ws 53) = true := by decide +kernel
theorem zc_54 : zr_54.all (z_chkR z_my z_mb z_mk 64 z_cl z_tyl z_stl z_ws 54) = true := by decide +kernel
theorem zc_55_0 : zr_55_0.all (z_chkR z_my z_mb z_mk 64 z_cl z_tyl z_stl z_ws 55) = true := by decide +kernel
theorem zc_55_1 : zr_55_1.all (z_chkR z_my z_mb z_mk 64 z_cl z_tyl z_stl z_ws 55) = true := by decide +kernel
theorem zc_55_2 : zr_55_2.all (z_chkR z_my z_mb z_mk 64 z_cl z_tyl z_stl z_ws 55) = true := by decide +kernel
theorem zc_55 : zr_55.all (z_chkR z_my z_mb z_mk 64 z_cl z_tyl z_stl z_ws 55) = true := z_aap zc_55_0 (z_aap zc_55_1 (zc_55_2))
theorem zc_56_0 : zr_56_0.all (z_chkR z_my z_mb z_mk 64 z_cl z_tyl z_stl z_ws 56) = true := by decide +kernel
theorem zc_56_1 : zr_56_1.all (z_chkR z_my z_mb z_mk 64 z_cl z_tyl z_stl z_ws 56) = true := by decide +kernel
theorem zc_56_2 : zr_56_2.all (z_chkR z_my z_mb z_mk 64 z_cl z_tyl z_stl z_ws 56) = true := by decide +kernel
theorem zc_56 : zr_56.all (z_chkR z_my z_mb z_mk 64 z_cl z_tyl z_stl z_ws 56) = true := z_aap zc_56_0 (z_aap zc_56_1 (zc_56_2))
theorem zc_57 : zr_57.all (z_chkR z_my z_mb z_mk 64 z_cl z_tyl z_stl z_ws 57) = true := by decide +kernel
theorem zc_58 : zr_58.all (z_chkR z_my z_mb z_mk 64 z_cl z_tyl z_stl z_ws 58) = true := by decide +kernel
theorem zc_59_0 : zr_59_0.all (z_chkR z_my z_mb z_mk 64 z_cl z_tyl z_stl z_ws 59) = true := by decide +kernel
theorem zc_59_1 : zr_59_1.all (z_chkR z_my z_mb z_mk 64 z_cl z_tyl z_stl z_ws 59) = true := by decide +kernel
theorem zc_59 : zr_59.all (z_chkR z_my z_mb z_mk 64 z_cl z_tyl z_stl z_ws 59) = true := z_aap zc_59_0 (zc_59_1)
theorem zc_60 : zr_60.all (z_chkR z_my z_mb z_mk 64 z_cl z_tyl z_stl z_ws 60) = true := by decide +kernel
theorem zc_61 : zr_61.all (z_chkR z_my z_mb z_mk 64 z_cl z_tyl z_stl z_ws 61) = true := by decide +kernel
theorem zc_62 : zr_62.all (z_chkR z_my z_mb z_mk 64 z_cl z_tyl z_stl z_ws 62) = true := by decide +kernel
theorem zc_63 : zr_63.all (z_chkR z_my z_mb z_mk 64 z_cl z_tyl z_stl z_ws 63) = true := by decide +kernel
theorem z_allR : ∀ mi, (z_rows mi).all (z_chkR z_my z_mb z_mk 64 z_cl z_tyl z_stl z_ws mi) = true := by
  intro mi
  match mi with
  | 0 => exact zc_0
  | 1 => exact zc_1
  | 2 => exact zc_2
  | 3 => exact zc_3
  | 4 => exact zc_4
  | 5 => exact zc_5
  | 6 => exact zc_6
  | 7 => exact zc_7
  | 8 => exact zc_8
  | 9 => exact zc_9
  | 10 => exact zc_10
  | 11 => exact zc_11
  | 12 => exact zc_12
  | 13 => exact zc_13
  | 14 => exact zc_14
  | 15 => exact zc_15
  | 16 => exact zc_16
  | 17 => exact zc_17
  | 18 => exact zc_18
  | 19 => exact zc_19
  | 20 => exact zc_20
  | 21 => exact zc_21
  | 22 => exact zc_22
  | 23 => exact zc_23
  | 24 => exact zc_24
  | 25 => exact zc_25
  | 26 => exact zc_26
  | 27 => exact zc_27
  | 28 => exact zc_28
  | 29 => exact zc_29
  | 30 => exact zc_30
  | 31 => exact zc_31
  | 32 => exact zc_32
  | 33 => exact zc_33
  | 34 => exact zc_34
  | 35 => exact zc_35
  | 36 => exact zc_36
  | 37 => exact zc_37
  | 38 => exact zc_38
  | 39 => exact zc_39
  | 40 => exact zc_40
  | 41 => exact zc_41
  | 42 => exact zc_42
  | 43 => exact zc_43
  | 44 => exact zc_44
  | 45 => exact zc_45
  | 46 => exact zc_46
  | 47 => exact zc_47
  | 48 => exact zc_48
  | 49 => exact zc_49
  | 50 => exact zc_50
  | 51 => exact zc_51
  | 52 => exact zc_52
  | 53 => exact zc_53
  | 54 => exact zc_54
  | 55 => exact zc_55
  | 56 => exact zc_56
  | 57 => exact zc_57
  | 58 => exact zc_58
  | 59 => exact zc_59
  | 60 => exact zc_60
  | 61 => exact zc_61
  | 62 => exact zc_62
  | 63 => exact zc_63
  | n + 64 => rfl
theorem z_allM : ∀ mi, 0 < mi → mi < 64 → z_chkM z_my z_mb z_pg z_mk z_cl z_ws mi = true := by
  intro mi h1 h2
  match mi, h1, h2 with
  | 0, h1, _ => exact absurd h1 (by decide)
  | 1, _, _ => decide +kernel
  | 2, _, _ => decide +kernel
  | 3, _, _ => decide +kernel
  | 4, _, _ => decide +kernel
  | 5, _, _ => decide +kernel
  | 6, _, _ => decide +kernel
  | 7, _, _ => decide +kernel
  | 8, _, _ => decide +kernel
  | 9, _, _ => decide +kernel
  | 10, _, _ => decide +kernel
  | 11, _, _ => decide +kernel
  | 12, _, _ => decide +kernel
  | 13, _, _ => decide +kernel
  | 14, _, _ => decide +kernel
  | 15, _, _ => decide +kernel
  | 16, _, _ => decide +kernel
  | 17, _, _ => decide +kernel
  | 18, _, _ => decide +kernel
  | 19, _, _ => decide +kernel
  | 20, _, _ => decide +kernel
  | 21, _, _ => decide +kernel
  | 22, _, _ => decide +kernel
  | 23, _, _ => decide +kernel
  | 24, _, _ => decide +kernel
  | 25, _, _ => decide +kernel
  | 26, _, _ => decide +kernel
  | 27, _, _ => decide +kernel
  | 28, _, _ => decide +kernel
  | 29, _, _ => decide +kernel
  | 30, _, _ => decide +kernel
  | 31, _, _ => decide +kernel
  | 32, _, _ => decide +kernel
  | 33, _, _ => decide +kernel
  | 34, _, _ => decide +kernel
  | 35, _, _ => decide +kernel
  | 36, _, _ => decide +kernel
  | 37, _, _ => decide +kernel
  | 38, _, _ => decide +kernel
  | 39, _, _ => decide +kernel
  | 40, _, _ => decide +kernel
  | 41, _, _ => decide +kernel
  | 42, _, _ => decide +kernel
  | 43, _, _ => decide +kernel
  | 44, _, _ => decide +kernel
  | 45, _, _ => decide +kernel
  | 46, _, _ => decide +kernel
  | 47, _, _ => decide +kernel
  | 48, _, _ => decide +kernel
  | 49, _, _ => decide +kernel
  | 50, _, _ => decide +kernel
  | 51, _, _ => decide +kernel
  | 52, _, _ => decide +kernel
  | 53, _, _ => decide +kernel
  | 54, _, _ => decide +kernel
  | 55, _, _ => decide +kernel
  | 56, _, _ => decide +kernel
  | 57, _, _ => decide +kernel
  | 58, _, _ => decide +kernel
  | 59, _, _ => decide +kernel
  | 60, _, _ => decide +kernel
  | 61, _, _ => decide +kernel
  | 62, _, _ => decide +kernel
  | 63, _, _ => decide +kernel
  | n + 64, _, h2 => omega
theorem z_allX : ∀ mi, mi < 64 → z_chkX z_my z_pg z_cl z_ws mi = true := by decide +kernel
def z_isB (mi : Nat) (r : z_R) : Bool := match r.2.1, r.2.2.2 with
  | .invokevirtual idx, [2, pl] => decide (z_ws[pl]? = some (Cond.methodLink (z_my mi).cls idx ⟨"FiberWorks$Word", "ordinal", "()I"⟩))
  | .invokestatic idx, [3, pl] => decide (z_ws[pl]? = some (Cond.methodLink (z_my mi).cls idx arraycopyName))
  | _, _ => true
theorem z_allB : ∀ mi, (z_rows mi).all (z_isB mi) = true := by
  intro mi
  match mi with
  | 0 => decide +kernel
  | 1 => decide +kernel
  | 2 => decide +kernel
  | 3 => decide +kernel
  | 4 => decide +kernel
  | 5 => decide +kernel
  | 6 => decide +kernel
  | 7 => decide +kernel
  | 8 => decide +kernel
  | 9 => decide +kernel
  | 10 => decide +kernel
  | 11 => decide +kernel
  | 12 => decide +kernel
  | 13 => decide +kernel
  | 14 => decide +kernel
  | 15 => decide +kernel
  | 16 => decide +kernel
  | 17 => decide +kernel
  | 18 => decide +kernel
  | 19 => decide +kernel
  | 20 => decide +kernel
  | 21 => decide +kernel
  | 22 => decide +kernel
  | 23 => decide +kernel
  | 24 => decide +kernel
  | 25 => decide +kernel
  | 26 => decide +kernel
  | 27 => decide +kernel
  | 28 => decide +kernel
  | 29 => decide +kernel
  | 30 => decide +kernel
  | 31 => decide +kernel
  | 32 => decide +kernel
  | 33 => decide +kernel
  | 34 => decide +kernel
  | 35 => decide +kernel
  | 36 => decide +kernel
  | 37 => decide +kernel
  | 38 => decide +kernel
  | 39 => decide +kernel
  | 40 => decide +kernel
  | 41 => decide +kernel
  | 42 => decide +kernel
  | 43 => decide +kernel
  | 44 => decide +kernel
  | 45 => decide +kernel
  | 46 => decide +kernel
  | 47 => decide +kernel
  | 48 => decide +kernel
  | 49 => decide +kernel
  | 50 => decide +kernel
  | 51 => decide +kernel
  | 52 => decide +kernel
  | 53 => decide +kernel
  | 54 => decide +kernel
  | 55 => decide +kernel
  | 56 => decide +kernel
  | 57 => decide +kernel
  | 58 => decide +kernel
  | 59 => decide +kernel
  | 60 => decide +kernel
  | 61 => decide +kernel
  | 62 => decide +kernel
  | 63 => decide +kernel
  | n + 64 => rfl
def z_no0 (r : z_R) : Bool := match r.2.2.2 with
  | [0, 0, _, _] => false
  | _ => true
theorem z_all0 : ∀ mi, (z_rows mi).all z_no0 = true := by
  intro mi
  match mi with
  | 0 => decide +kernel
  | 1 => decide +kernel
  | 2 => decide +kernel
  | 3 => decide +kernel
  | 4 => decide +kernel
  | 5 => decide +kernel
  | 6 => decide +kernel
  | 7 => decide +kernel
  | 8 => decide +kernel
  | 9 => decide +kernel
  | 10 => decide +kernel
  | 11 => decide +kernel
  | 12 => decide +kernel
  | 13 => decide +kernel
  | 14 => decide +kernel
  | 15 => decide +kernel
  | 16 => decide +kernel
  | 17 => decide +kernel
  | 18 => decide +kernel
  | 19 => decide +kernel
  | 20 => decide +kernel
  | 21 => decide +kernel
  | 22 => decide +kernel
  | 23 => decide +kernel
  | 24 => decide +kernel
  | 25 => decide +kernel
  | 26 => decide +kernel
  | 27 => decide +kernel
  | 28 => decide +kernel
  | 29 => decide +kernel
  | 30 => decide +kernel
  | 31 => decide +kernel
  | 32 => decide +kernel
  | 33 => decide +kernel
  | 34 => decide +kernel
  | 35 => decide +kernel
  | 36 => decide +kernel
  | 37 => decide +kernel
  | 38 => decide +kernel
  | 39 => decide +kernel
  | 40 => decide +kernel
  | 41 => decide +kernel
  | 42 => decide +kernel
  | 43 => decide +kernel
  | 44 => decide +kernel
  | 45 => decide +kernel
  | 46 => decide +kernel
  | 47 => decide +kernel
  | 48 => decide +kernel
  | 49 => decide +kernel
  | 50 => decide +kernel
  | 51 => decide +kernel
  | 52 => decide +kernel
  | 53 => decide +kernel
  | 54 => decide +kernel
  | 55 => decide +kernel
  | 56 => decide +kernel
  | 57 => decide +kernel
  | 58 => decide +kernel
  | 59 => decide +kernel
  | 60 => decide +kernel
  | 61 => decide +kernel
  | 62 => decide +kernel
  | 63 => decide +kernel
  | n + 64 => rfl
theorem z_okp : z_okP z_my z_mb z_pg z_cl z_tyl z_stl z_ws := by
  refine z_okP_of (A := z_mk) (M := 64) (rows := z_rows) (fun _ _ => rfl) z_allR z_cw_in z_allM z_allX ?_ ⟨by decide +kernel, List.mem_append_right _ List.mem_cons_self⟩
  intro mi pc i len na pl h
  have h1 := List.all_eq_true.mp (z_all0 mi) _ (z_look_mem h)
  cases h1
theorem z_gd : ∀ w ∈ z_ws, (w.onTables && w.keeps) = true ∨ ∃ ty, w = .arrayClass ty := fun w hw => (z_wsg w hw).2
end
section
/-! The world of this program: its numbers, what it reads of the start, its throws. -/
def z_smap : List Int32 := [0, 0, 14, 0, 11, 15, 0, 0, 0, 0, 0, 0, 7, 6, 8, 9, 10, 0, 0, 0, 0, 1, 2, 0, 3, 0, 0, 4, 5, 0, 0, 0, 12, 13, 0, 0, 0]
def z_wn2 : List String := ["END_OF_TEXT", "NO_WORD", "NAME", "EFFECT", "NUMBER", "OPEN", "CLOSE", "OPEN_ROW", "CLOSE_ROW", "COLON", "SEMICOLON", "COMMA", "SAME", "LESS", "PLUS", "MINUS", "TIMES", "PERFORM", "BAR", "ARROW", "DECLARE", "LET", "REC", "IN", "IF", "THEN", "ELSE", "FN", "HANDLE", "WITH", "RETURN", "END", "TRUE", "FALSE", "INT", "BOOL", "UNIT"]
def z_g (L : Nat) (xs : Nat → Int32) : z_G := ((40, 37, 600002, 7302232), (z_tyl, 4), (z_cN, z_fty), (fun a => if a = 38 then some (37, fun j => z_smap.getD j 0) else if a = 39 then some (L, xs) else none), fun j => (z_stl[j]?).map (fun q => q.2.2.2))
def z_nms : List String := ["java/lang/RuntimeException", "java/lang/Exception"]
def z_at0 : List Cond := Bundle.ownAtoms "FiberWorks" 111 "java/lang/IllegalArgumentException" z_nms
def z_at1 : List Cond := Bundle.ownAtoms0 "FiberWorks$Faults" 23 "java/lang/IllegalArgumentException" z_nms
def z_at2 : List Cond := Bundle.ownAtoms "FiberWorks" 141 "java/lang/IllegalStateException" z_nms
def z_ats : List Cond := z_at0 ++ (z_at1 ++ (z_at2))
def z_strs : List (String × Nat × String) := [("FiberWorks", 109, "the text has a fault"), ("FiberWorks", 139, "there is no program"), ("FiberWorks", 148, "the program has not begun"), ("FiberWorks", 150, "no such amount of fuel")]
/-- what is known where a method of the program begins -/
def z_Wo (L : Nat) (xs : Nat → Int32) (sz : Nat) (ad : Nat → Nat) (D : va_G) (dA : Nat → ClassId) (U : State) : Prop :=
  z_Wd (z_g L xs) sz D z_cl dA ad z_stl "FiberWorks$Word" U ∧ (∀ v, v < 37 → va_OF "java/lang/Enum" "ordinal" "I" (.int (nI v)) (ad v) (z_A sz) U U.heap) ∧ (∀ a ∈ z_ats, a.onTables = true → a.before #[] U = true) ∧
  z_Un sz Bundle.tN "UNASSIGNED_STACK" Bundle.steD U ∧ z_Un sz Bundle.tN "SUPPRESSED_SENTINEL" Bundle.listD U ∧ ∀ q ∈ z_strs, ∃ a, vk_R q.1 q.2.1 q.2.2 a U
theorem z_ats_face : ∀ a ∈ z_ats, a.keepsFace = true := by
  intro a ha
  unfold z_ats at ha
  simp only [List.mem_append] at ha
  rcases ha with h | h | h
  · exact Bundle.ownAtoms_keepsFace a h
  · exact Bundle.ownAtoms0_keepsFace a h
  · exact Bundle.ownAtoms_keepsFace a h
theorem z_Wo_mv {L : Nat} {xs : Nat → Int32} {sz : Nat} {ad : Nat → Nat} {D : va_G} {dA : Nat → ClassId} {U V : State} (h : z_Lt sz U V) (hw : z_Wo L xs sz ad D dA U) : z_Wo L xs sz ad D dA V := by
  obtain ⟨h1, h2, h3, h4, h5, h6⟩ := hw
  refine ⟨z_Wd_mv h h1, fun v hv => ((h2 v hv).kept h.2.2).moved h.1.alike, fun a ha ht => z_onT (z_ats_face a ha) ht h.1 (h3 a ha ht), z_Un_mv h h4, z_Un_mv h h5, fun q hq => ?_⟩
  obtain ⟨a, ha⟩ := h6 q hq
  exact ⟨a, ha.warm h.1⟩
theorem z_ats_kind : z_ats.all (fun a => a.onTables || (decide (a = .isRef (.static Bundle.tN "UNASSIGNED_STACK" Bundle.steD)) || (decide (a = .isRef (.static Bundle.tN "SUPPRESSED_SENTINEL" Bundle.listD)) || (decide (a = .laysStatic Bundle.tN "UNASSIGNED_STACK" Bundle.steD) || decide (a = .laysStatic Bundle.tN "SUPPRESSED_SENTINEL" Bundle.listD))))) = true := by decide +kernel
theorem z_ats_hold {L : Nat} {xs : Nat → Int32} {sz : Nat} {ad : Nat → Nat} {D : va_G} {dA : Nat → ClassId} {U : State} (hw : z_Wo L xs sz ad D dA U) (args : Array Value) : ∀ a ∈ z_ats, a.before args U = true := by
  intro a ha
  have hk := List.all_eq_true.mp z_ats_kind a ha
  simp only [Bool.or_eq_true, decide_eq_true_eq] at hk
  obtain ⟨h1, h2, h3, h4, h5, h6⟩ := hw
  rcases hk with hk | rfl | rfl | rfl | rfl
  · exact va_tabs hk rfl (h3 a ha hk)
  · exact z_Un_isRef h4 args
  · exact z_Un_isRef h5 args
  · exact z_Un_lays h4 args
  · exact z_Un_lays h5 args
theorem zs_0_0 : decode prog_1_method_4_code 43 = .ok (.new 107, 3) := by decide +kernel
theorem zs_0_1 : decode prog_1_method_4_code 46 = .ok (.dup, 1) := by decide +kernel
theorem zs_0_2 : decode prog_1_method_4_code 47 = .ok (.ldc 109, 2) := by decide +kernel
theorem zs_0_3 : decode prog_1_method_4_code 49 = .ok (.invokespecial 111, 3) := by decide +kernel
theorem zs_0_4 : decode prog_1_method_4_code 52 = .ok (.athrow, 1) := by decide +kernel
theorem zs_1_0 : decode prog_6_method_3_code 10 = .ok (.new 21, 3) := by decide +kernel
theorem zs_1_1 : decode prog_6_method_3_code 13 = .ok (.dup, 1) := by decide +kernel
theorem zs_1_2 : decode prog_6_method_3_code 14 = .ok (.invokespecial 23, 3) := by decide +kernel
theorem zs_1_3 : decode prog_6_method_3_code 17 = .ok (.athrow, 1) := by decide +kernel
theorem zs_2_0 : decode prog_1_method_8_code 7 = .ok (.new 137, 3) := by decide +kernel
theorem zs_2_1 : decode prog_1_method_8_code 10 = .ok (.dup, 1) := by decide +kernel
theorem zs_2_2 : decode prog_1_method_8_code 11 = .ok (.ldc 139, 2) := by decide +kernel
theorem zs_2_3 : decode prog_1_method_8_code 13 = .ok (.invokespecial 141, 3) := by decide +kernel
theorem zs_2_4 : decode prog_1_method_8_code 16 = .ok (.athrow, 1) := by decide +kernel
theorem zs_3_0 : decode prog_1_method_9_code 10 = .ok (.new 137, 3) := by decide +kernel
theorem zs_3_1 : decode prog_1_method_9_code 13 = .ok (.dup, 1) := by decide +kernel
theorem zs_3_2 : decode prog_1_method_9_code 14 = .ok (.ldc 148, 2) := by decide +kernel
theorem zs_3_3 : decode prog_1_method_9_code 16 = .ok (.invokespecial 141, 3) := by decide +kernel
theorem zs_3_4 : decode prog_1_method_9_code 19 = .ok (.athrow, 1) := by decide +kernel
theorem zs_4_0 : decode prog_1_method_9_code 31 = .ok (.new 107, 3) := by decide +kernel
theorem zs_4_1 : decode prog_1_method_9_code 34 = .ok (.dup, 1) := by decide +kernel
theorem zs_4_2 : decode prog_1_method_9_code 35 = .ok (.ldc 150, 2) := by decide +kernel
theorem zs_4_3 : decode prog_1_method_9_code 37 = .ok (.invokespecial 111, 3) := by decide +kernel
theorem zs_4_4 : decode prog_1_method_9_code 40 = .ok (.athrow, 1) := by decide +kernel
def z_sites : List (Nat × Nat × Nat × Nat × Nat) := [(25, 43, 107, 10, 1), (31, 10, 21, 10, 0), (39, 7, 137, 11, 1), (41, 10, 137, 11, 1), (41, 31, 107, 10, 1)]
def z_isS (mi : Nat) (r : z_R) : Bool := match r.2.1, r.2.2.2 with
  | .new idx, [9, ci, q] => decide ((mi, r.1, idx, ci, q) ∈ z_sites)
  | _, _ => true
theorem z_allS : ∀ mi, (z_rows mi).all (z_isS mi) = true := by
  intro mi
  match mi with
  | 0 => decide +kernel
  | 1 => decide +kernel
  | 2 => decide +kernel
  | 3 => decide +kernel
  | 4 => decide +kernel
  | 5 => decide +kernel
  | 6 => decide +kernel
  | 7 => decide +kernel
  | 8 => decide +kernel
  | 9 => decide +kernel
  | 10 => decide +kernel
  | 11 => decide +kernel
  | 12 => decide +kernel
  | 13 => decide +kernel
  | 14 => decide +kernel
  | 15 => decide +kernel
  | 16 => decide +kernel
  | 17 => decide +kernel
  | 18 => decide +kernel
  | 19 => decide +kernel
  | 20 => decide +kernel
  | 21 => decide +kernel
  | 22 => decide +kernel
  | 23 => decide +kernel
  | 24 => decide +kernel
  | 25 => decide +kernel
  | 26 => decide +kernel
  | 27 => decide +kernel
  | 28 => decide +kernel
  | 29 => decide +kernel
  | 30 => decide +kernel
  | 31 => decide +kernel
  | 32 => decide +kernel
  | 33 => decide +kernel
  | 34 => decide +kernel
  | 35 => decide +kernel
  | 36 => decide +kernel
  | 37 => decide +kernel
  | 38 => decide +kernel
  | 39 => decide +kernel
  | 40 => decide +kernel
  | 41 => decide +kernel
  | 42 => decide +kernel
  | 43 => decide +kernel
  | 44 => decide +kernel
  | 45 => decide +kernel
  | 46 => decide +kernel
  | 47 => decide +kernel
  | 48 => decide +kernel
  | 49 => decide +kernel
  | 50 => decide +kernel
  | 51 => decide +kernel
  | 52 => decide +kernel
  | 53 => decide +kernel
  | 54 => decide +kernel
  | 55 => decide +kernel
  | 56 => decide +kernel
  | 57 => decide +kernel
  | 58 => decide +kernel
  | 59 => decide +kernel
  | 60 => decide +kernel
  | 61 => decide +kernel
  | 62 => decide +kernel
  | 63 => decide +kernel
  | n + 64 => rfl
section ZSITE
variable {l : Launch} {L : Nat} {xs : Nat → Int32} {sz : Nat} {ad : Nat → Nat} {D : va_G} {dA : Nat → ClassId}
variable {p : Program} {e : Env} {R : Room} {s : State} {m : MethodId} {args : Array Value} {below : List Frame} {meth : Method} {c : Code} {H : Heap} {locs : List Loc} {cells slots n0 s0 f w : Nat} {ls : Array Slot} {lv : List (Nat × Value)} {st : List Value} {S : z_S}
set_option maxHeartbeats 1000000 in
theorem z_site_0 (had : ∀ i, ad (40 + i) = sz + i) (hcx : z_Cx z_my z_mb z_pg z_ws 25 p e s m args meth c) (hW : z_Wo L xs sz ad D dA s) (hat : z_At (z_g L xs) z_pg sz D z_cl ad dA R s H locs cells slots n0 s0 f w 25 ls lv S) (hc : 6 ≤ f ∧ 150 ≤ w ∧ z_wt st ≤ 8 ∧ S.1.length + 1 ≤ 600002 ∧ S.2 + 6 ≤ 7302232) :
    W p l e R s m args below meth c H locs cells slots (z_MQ below (z_Qc sz D z_cl ad dA 40 (.inr (40 + S.1.length)) (S.1 ++ [.inr (10, [])])) args s (cells + 1) (slots + 6) (z_A sz)) (F0 m 43 ls (st.map (z_tr ad))) := by
  obtain ⟨hx, hb, hml, hown, hts, hr, hlk, hnm, htb, htr⟩ := hcx
  obtain ⟨hl, hP, hS, hn0, hce, hsl, hRc, hRs, hf, hw⟩ := hat
  have hRc : 600002 ≤ R.cells + n0 := hRc
  have hRs : 7302232 ≤ R.slots + s0 := hRs
  have hwt := z_wt_tr ad st
  refine z_thrown (K := 40) (s0 := s0) had hP hS hn0 hce hW.1.1 (ci := 10) (cls := "java/lang/IllegalArgumentException") (T0 := zF_e) rfl (by omega) (by omega) (fun s' hH hW' => ?_)
  have hWo : z_Wo L xs sz ad D dA s' := z_Wo_mv ⟨hW', by rw [hH]; exact hS.1, fun q h1 h2 => by rw [hH]; exact hS.2.1 q h1 h2⟩ hW
  have hg : ∀ w ∈ z_ws, w.before args s' = true := fun w hw => word_at hW' (z_gd w hw) (hts w hw)
  have hown' : s'.vm.findClass "FiberWorks" = some m.cls := by
    rw [hW'.alike.findClass]
    exact hown
  have hat := z_ats_hold hWo args
  have hout : ∀ x ∈ c.exceptionTable.toList, covers x 52 = false := by
    intro x hx
    rw [htb] at hx
    cases hx
  obtain ⟨qa, hq⟩ := hWo.2.2.2.2.2 ("FiberWorks", 109, "the text has a fault") (by decide +kernel)
  exact z_throwS hx hb htr hlk (hl.1.trans hml.symm) (by decide +kernel) (by decide +kernel) hown' (hg _ (by decide +kernel)) (hg _ (by decide +kernel)) (hg _ (by decide +kernel)) (fun a h => hat a (List.mem_append_left _ h)) hq zs_0_0 zs_0_1 zs_0_2 zs_0_3 zs_0_4 hout (by show 2 + 3 < R.frames; omega) (by show _ + 1 + (13 * (2 + 1) + 42) ≤ R.locals; omega) (by show 1 ≤ R.cells - cells; omega) (by show 6 ≤ R.slots - slots; omega) hH
set_option maxHeartbeats 1000000 in
theorem z_site_1 (had : ∀ i, ad (40 + i) = sz + i) (hcx : z_Cx z_my z_mb z_pg z_ws 31 p e s m args meth c) (hW : z_Wo L xs sz ad D dA s) (hat : z_At (z_g L xs) z_pg sz D z_cl ad dA R s H locs cells slots n0 s0 f w 31 ls lv S) (hc : 6 ≤ f ∧ 150 ≤ w ∧ z_wt st ≤ 8 ∧ S.1.length + 1 ≤ 600002 ∧ S.2 + 6 ≤ 7302232) :
    W p l e R s m args below meth c H locs cells slots (z_MQ below (z_Qc sz D z_cl ad dA 40 (.inr (40 + S.1.length)) (S.1 ++ [.inr (10, [])])) args s (cells + 1) (slots + 6) (z_A sz)) (F0 m 10 ls (st.map (z_tr ad))) := by
  obtain ⟨hx, hb, hml, hown, hts, hr, hlk, hnm, htb, htr⟩ := hcx
  obtain ⟨hl, hP, hS, hn0, hce, hsl, hRc, hRs, hf, hw⟩ := hat
  have hRc : 600002 ≤ R.cells + n0 := hRc
  have hRs : 7302232 ≤ R.slots + s0 := hRs
  have hwt := z_wt_tr ad st
  refine z_thrown (K := 40) (s0 := s0) had hP hS hn0 hce hW.1.1 (ci := 10) (cls := "java/lang/IllegalArgumentException") (T0 := zF_e) rfl (by omega) (by omega) (fun s' hH hW' => ?_)
  have hWo : z_Wo L xs sz ad D dA s' := z_Wo_mv ⟨hW', by rw [hH]; exact hS.1, fun q h1 h2 => by rw [hH]; exact hS.2.1 q h1 h2⟩ hW
  have hg : ∀ w ∈ z_ws, w.before args s' = true := fun w hw => word_at hW' (z_gd w hw) (hts w hw)
  have hown' : s'.vm.findClass "FiberWorks$Faults" = some m.cls := by
    rw [hW'.alike.findClass]
    exact hown
  have hat := z_ats_hold hWo args
  have hout : ∀ x ∈ c.exceptionTable.toList, covers x 17 = false := by
    intro x hx
    rw [htb] at hx
    cases hx
  exact z_throw0 hx hb htr hlk (hl.1.trans hml.symm) (by decide +kernel) (by decide +kernel) hown' (hg _ (by decide +kernel)) (hg _ (by decide +kernel)) (hg _ (by decide +kernel)) (fun a h => hat a (List.mem_append_right _ (List.mem_append_left _ h))) zs_1_0 zs_1_1 zs_1_2 zs_1_3 hout (by show 2 + 3 < R.frames; omega) (by show _ + 1 + (13 * (2 + 1) + 41) ≤ R.locals; omega) (by show 1 ≤ R.cells - cells; omega) (by show 6 ≤ R.slots - slots; omega) hH
set_option maxHeartbeats 1000000 in
theorem z_site_2 (had : ∀ i, ad (40 + i) = sz + i) (hcx : z_Cx z_my z_mb z_pg z_ws 39 p e s m args meth c) (hW : z_Wo L xs sz ad D dA s) (hat : z_At (z_g L xs) z_pg sz D z_cl ad dA R s H locs cells slots n0 s0 f w 39 ls lv S) (hc : 6 ≤ f ∧ 150 ≤ w ∧ z_wt st ≤ 8 ∧ S.1.length + 1 ≤ 600002 ∧ S.2 + 6 ≤ 7302232) :
    W p l e R s m args below meth c H locs cells slots (z_MQ below (z_Qc sz D z_cl ad dA 40 (.inr (40 + S.1.length)) (S.1 ++ [.inr (11, [])])) args s (cells + 1) (slots + 6) (z_A sz)) (F0 m 7 ls (st.map (z_tr ad))) := by
  obtain ⟨hx, hb, hml, hown, hts, hr, hlk, hnm, htb, htr⟩ := hcx
  obtain ⟨hl, hP, hS, hn0, hce, hsl, hRc, hRs, hf, hw⟩ := hat
  have hRc : 600002 ≤ R.cells + n0 := hRc
  have hRs : 7302232 ≤ R.slots + s0 := hRs
  have hwt := z_wt_tr ad st
  refine z_thrown (K := 40) (s0 := s0) had hP hS hn0 hce hW.1.1 (ci := 11) (cls := "java/lang/IllegalStateException") (T0 := zF_e) rfl (by omega) (by omega) (fun s' hH hW' => ?_)
  have hWo : z_Wo L xs sz ad D dA s' := z_Wo_mv ⟨hW', by rw [hH]; exact hS.1, fun q h1 h2 => by rw [hH]; exact hS.2.1 q h1 h2⟩ hW
  have hg : ∀ w ∈ z_ws, w.before args s' = true := fun w hw => word_at hW' (z_gd w hw) (hts w hw)
  have hown' : s'.vm.findClass "FiberWorks" = some m.cls := by
    rw [hW'.alike.findClass]
    exact hown
  have hat := z_ats_hold hWo args
  have hout : ∀ x ∈ c.exceptionTable.toList, covers x 16 = false := by
    intro x hx
    rw [htb] at hx
    cases hx
  obtain ⟨qa, hq⟩ := hWo.2.2.2.2.2 ("FiberWorks", 139, "there is no program") (by decide +kernel)
  exact z_throwS hx hb htr hlk (hl.1.trans hml.symm) (by decide +kernel) (by decide +kernel) hown' (hg _ (by decide +kernel)) (hg _ (by decide +kernel)) (hg _ (by decide +kernel)) (fun a h => hat a (List.mem_append_right _ (List.mem_append_right _ (h)))) hq zs_2_0 zs_2_1 zs_2_2 zs_2_3 zs_2_4 hout (by show 2 + 3 < R.frames; omega) (by show _ + 1 + (13 * (2 + 1) + 42) ≤ R.locals; omega) (by show 1 ≤ R.cells - cells; omega) (by show 6 ≤ R.slots - slots; omega) hH
set_option maxHeartbeats 1000000 in
theorem z_site_3 (had : ∀ i, ad (40 + i) = sz + i) (hcx : z_Cx z_my z_mb z_pg z_ws 41 p e s m args meth c) (hW : z_Wo L xs sz ad D dA s) (hat : z_At (z_g L xs) z_pg sz D z_cl ad dA R s H locs cells slots n0 s0 f w 41 ls lv S) (hc : 6 ≤ f ∧ 150 ≤ w ∧ z_wt st ≤ 8 ∧ S.1.length + 1 ≤ 600002 ∧ S.2 + 6 ≤ 7302232) :
    W p l e R s m args below meth c H locs cells slots (z_MQ below (z_Qc sz D z_cl ad dA 40 (.inr (40 + S.1.length)) (S.1 ++ [.inr (11, [])])) args s (cells + 1) (slots + 6) (z_A sz)) (F0 m 10 ls (st.map (z_tr ad))) := by
  obtain ⟨hx, hb, hml, hown, hts, hr, hlk, hnm, htb, htr⟩ := hcx
  obtain ⟨hl, hP, hS, hn0, hce, hsl, hRc, hRs, hf, hw⟩ := hat
  have hRc : 600002 ≤ R.cells + n0 := hRc
  have hRs : 7302232 ≤ R.slots + s0 := hRs
  have hwt := z_wt_tr ad st
  refine z_thrown (K := 40) (s0 := s0) had hP hS hn0 hce hW.1.1 (ci := 11) (cls := "java/lang/IllegalStateException") (T0 := zF_e) rfl (by omega) (by omega) (fun s' hH hW' => ?_)
  have hWo : z_Wo L xs sz ad D dA s' := z_Wo_mv ⟨hW', by rw [hH]; exact hS.1, fun q h1 h2 => by rw [hH]; exact hS.2.1 q h1 h2⟩ hW
  have hg : ∀ w ∈ z_ws, w.before args s' = true := fun w hw => word_at hW' (z_gd w hw) (hts w hw)
  have hown' : s'.vm.findClass "FiberWorks" = some m.cls := by
    rw [hW'.alike.findClass]
    exact hown
  have hat := z_ats_hold hWo args
  have hout : ∀ x ∈ c.exceptionTable.toList, covers x 19 = false := by
    intro x hx
    rw [htb] at hx
    cases hx
  obtain ⟨qa, hq⟩ := hWo.2.2.2.2.2 ("FiberWorks", 148, "the program has not begun") (by decide +kernel)
  exact z_throwS hx hb htr hlk (hl.1.trans hml.symm) (by decide +kernel) (by decide +kernel) hown' (hg _ (by decide +kernel)) (hg _ (by decide +kernel)) (hg _ (by decide +kernel)) (fun a h => hat a (List.mem_append_right _ (List.mem_append_right _ (h)))) hq zs_3_0 zs_3_1 zs_3_2 zs_3_3 zs_3_4 hout (by show 2 + 3 < R.frames; omega) (by show _ + 1 + (13 * (2 + 1) + 42) ≤ R.locals; omega) (by show 1 ≤ R.cells - cells; omega) (by show 6 ≤ R.slots - slots; omega) hH
set_option maxHeartbeats 1000000 in
theorem z_site_4 (had : ∀ i, ad (40 + i) = sz + i) (hcx : z_Cx z_my z_mb z_pg z_ws 41 p e s m args meth c) (hW : z_Wo L xs sz ad D dA s) (hat : z_At (z_g L xs) z_pg sz D z_cl ad dA R s H locs cells slots n0 s0 f w 41 ls lv S) (hc : 6 ≤ f ∧ 150 ≤ w ∧ z_wt st ≤ 8 ∧ S.1.length + 1 ≤ 600002 ∧ S.2 + 6 ≤ 7302232) :
    W p l e R s m args below meth c H locs cells slots (z_MQ below (z_Qc sz D z_cl ad dA 40 (.inr (40 + S.1.length)) (S.1 ++ [.inr (10, [])])) args s (cells + 1) (slots + 6) (z_A sz)) (F0 m 31 ls (st.map (z_tr ad))) := by
  obtain ⟨hx, hb, hml, hown, hts, hr, hlk, hnm, htb, htr⟩ := hcx
  obtain ⟨hl, hP, hS, hn0, hce, hsl, hRc, hRs, hf, hw⟩ := hat
  have hRc : 600002 ≤ R.cells + n0 := hRc
  have hRs : 7302232 ≤ R.slots + s0 := hRs
  have hwt := z_wt_tr ad st
  refine z_thrown (K := 40) (s0 := s0) had hP hS hn0 hce hW.1.1 (ci := 10) (cls := "java/lang/IllegalArgumentException") (T0 := zF_e) rfl (by omega) (by omega) (fun s' hH hW' => ?_)
  have hWo : z_Wo L xs sz ad D dA s' := z_Wo_mv ⟨hW', by rw [hH]; exact hS.1, fun q h1 h2 => by rw [hH]; exact hS.2.1 q h1 h2⟩ hW
  have hg : ∀ w ∈ z_ws, w.before args s' = true := fun w hw => word_at hW' (z_gd w hw) (hts w hw)
  have hown' : s'.vm.findClass "FiberWorks" = some m.cls := by
    rw [hW'.alike.findClass]
    exact hown
  have hat := z_ats_hold hWo args
  have hout : ∀ x ∈ c.exceptionTable.toList, covers x 40 = false := by
    intro x hx
    rw [htb] at hx
    cases hx
  obtain ⟨qa, hq⟩ := hWo.2.2.2.2.2 ("FiberWorks", 150, "no such amount of fuel") (by decide +kernel)
  exact z_throwS hx hb htr hlk (hl.1.trans hml.symm) (by decide +kernel) (by decide +kernel) hown' (hg _ (by decide +kernel)) (hg _ (by decide +kernel)) (hg _ (by decide +kernel)) (fun a h => hat a (List.mem_append_left _ h)) hq zs_4_0 zs_4_1 zs_4_2 zs_4_3 zs_4_4 hout (by show 2 + 3 < R.frames; omega) (by show _ + 1 + (13 * (2 + 1) + 42) ≤ R.locals; omega) (by show 1 ≤ R.cells - cells; omega) (by show 6 ≤ R.slots - slots; omega) hH
end ZSITE
end
section
/-! All that the plain machine's soundness asks of this program. -/
theorem z_Cl_ok : z_Cl z_cl z_fty z_ws := by
  have key : ∀ (ci : Nat) (C : String) (T : u_T) (N : Nat), z_cl[ci]? = some (C, T, N) → (∀ w ∈ u_ws C T N, w ∈ z_wn) → (∀ w ∈ u_ws C T N, w ∈ z_ws) := fun _ _ _ _ _ h w hw => List.mem_append_left _ (h w hw)
  intro ci C T N h
  match ci, h with
  | 0, h => cases h; exact ⟨key 0 _ _ _ rfl (by decide +kernel), zt_0_ok, zn_0⟩
  | 1, h => cases h; exact ⟨key 1 _ _ _ rfl (by decide +kernel), zt_1_ok, zn_1⟩
  | 2, h => cases h; exact ⟨key 2 _ _ _ rfl (by decide +kernel), zt_2_ok, zn_2⟩
  | 3, h => cases h; exact ⟨key 3 _ _ _ rfl (by decide +kernel), zt_3_ok, zn_3⟩
  | 4, h => cases h; exact ⟨key 4 _ _ _ rfl (by decide +kernel), zt_4_ok, zn_4⟩
  | 5, h => cases h; exact ⟨key 5 _ _ _ rfl (by decide +kernel), zt_5_ok, zn_5⟩
  | 6, h => cases h; exact ⟨key 6 _ _ _ rfl (by decide +kernel), zt_6_ok, zn_6⟩
  | 7, h => cases h; exact ⟨key 7 _ _ _ rfl (by decide +kernel), zt_7_ok, zn_7⟩
  | 8, h => cases h; exact ⟨key 8 _ _ _ rfl (by decide +kernel), zt_8_ok, zn_8⟩
  | 9, h => cases h; exact ⟨key 9 _ _ _ rfl (by decide +kernel), zt_9_ok, zn_9⟩
  | 10, h => cases h; exact ⟨(fun w hw => by cases hw), fun k hk => absurd hk (Nat.not_lt_zero _), fun a ha => absurd ha (Nat.not_lt_zero _)⟩
  | 11, h => cases h; exact ⟨(fun w hw => by cases hw), fun k hk => absurd hk (Nat.not_lt_zero _), fun a ha => absurd ha (Nat.not_lt_zero _)⟩
  | n + 12, h => simp [z_cl] at h
theorem z_cN_ok : ∀ ci C T N, z_cl[ci]? = some (C, T, N) → z_cN ci = N := by
  intro ci C T N h
  match ci, h with
  | 0, h => cases h; rfl
  | 1, h => cases h; rfl
  | 2, h => cases h; rfl
  | 3, h => cases h; rfl
  | 4, h => cases h; rfl
  | 5, h => cases h; rfl
  | 6, h => cases h; rfl
  | 7, h => cases h; rfl
  | 8, h => cases h; rfl
  | 9, h => cases h; rfl
  | 10, h => cases h; rfl
  | 11, h => cases h; rfl
  | n + 12, h => simp [z_cl] at h
theorem z_st_ok (L : Nat) (xs : Nat → Int32) : ∀ j v, (z_g L xs).2.2.2.2 j = some v → ∃ C n d, z_stl[j]? = some (C, n, d, v) := by
  intro j v h
  have h : (z_stl[j]?).map (fun q => q.2.2.2) = some v := h
  cases hq : z_stl[j]? with
  | none => rw [hq] at h; cases h
  | some q =>
    rw [hq] at h
    obtain ⟨a, b, d, v'⟩ := q
    cases h
    exact ⟨a, b, d, rfl⟩
/-- the builtins, where there is room -/
def z_bj (G : z_G) : z_B := fun i len aux lv st S => if S.1.length ≤ G.1.2.2.1 ∧ S.2 ≤ G.1.2.2.2 then z_bi G i len aux lv st S else none
theorem z_co0 : decode z_co 0 = .ok (.aload_n 0, 1) := by decide +kernel
theorem z_co1 : decode z_co 1 = .ok (.getfield 7, 3) := by decide +kernel
theorem z_co4 : decode z_co 4 = .ok (.ireturn, 1) := by decide +kernel
theorem z_ordw : ∀ w ∈ ([.sameMethod "FiberWorks$Word" "java/lang/Enum" "ordinal" "()I", .selects "FiberWorks$Word" ⟨"FiberWorks$Word", "ordinal", "()I"⟩ z_yo, .instanceMethod z_yo, .initialized "java/lang/Enum", .fieldLink "java/lang/Enum" 7 "java/lang/Enum" "ordinal" "I", .native arraycopyName, .static arraycopyName, .initialized "java/lang/System"] : List Cond), w ∈ z_wn := by decide +kernel
set_option maxHeartbeats 4000000 in
theorem z_hyp {l : Launch} (htr : ∀ e, l.admits e → e.platform.stackTraces = false) {L : Nat} {xs : Nat → Int32} {sz : Nat} {ad : Nat → Nat} {D : va_G} {dA : Nat → ClassId} (had : ∀ i, ad (40 + i) = sz + i) (hlo : ∀ i, i < 37 → ad i < sz) (hinj : ∀ i j, i < 37 → j < 37 → ad i = ad j → i = j) :
    z_Hyp l ad dA D z_cl z_ws sz (z_g L xs) z_pg (z_bj (z_g L xs)) z_my z_mb z_stl "FiberWorks$Word" (z_Wo L xs sz ad D dA) := by
  have hwn : ∀ {w : Cond}, w ∈ z_wn → w ∈ z_ws := fun h => List.mem_append_left _ h
  refine ⟨had, hlo, hinj, z_Cl_ok, z_cN_ok, z_st_ok L xs, rfl, z_gd, z_okp, htr, fun U h => h.1, fun U V h h1 h2 h3 => z_Wo_mv ⟨h1, h2, h3⟩ h, ?_, ?_⟩
  · intro p e R s m args below meth c H locs cells slots n0 s0 f w mi pc ls lv st S idx len ci q hcx hW hat hcd hc
    have h1 := List.all_eq_true.mp (z_allS mi) _ (z_look_mem hcd)
    simp only [z_isS, decide_eq_true_eq] at h1
    have hc' : 6 ≤ f ∧ 150 ≤ w ∧ z_wt st ≤ 8 ∧ S.1.length + 1 ≤ 600002 ∧ S.2 + 6 ≤ 7302232 := ⟨hc.2.1, hc.2.2.1, hc.2.2.2.1, hc.2.2.2.2.1, hc.2.2.2.2.2.1⟩
    have e1 : (S.1 ++ [(.inr (ci, []) : z_E)]).length - n0 = cells + 1 := by
      have := hat.2.2.2.2.1
      rw [List.length_append]
      show S.1.length + 1 - n0 = _
      omega
    have e2 : S.2 + 6 - s0 = slots + 6 := by
      have := hat.2.2.2.2.2.1
      omega
    rw [e1, e2]
    simp only [z_sites, List.mem_cons, List.not_mem_nil, or_false, Prod.mk.injEq] at h1
    rcases h1 with ⟨rfl, rfl, rfl, rfl, rfl⟩ | ⟨rfl, rfl, rfl, rfl, rfl⟩ | ⟨rfl, rfl, rfl, rfl, rfl⟩ | ⟨rfl, rfl, rfl, rfl, rfl⟩ | ⟨rfl, rfl, rfl, rfl, rfl⟩
    · exact z_site_0 had hcx hW hat hc'
    · exact z_site_1 had hcx hW hat hc'
    · exact z_site_2 had hcx hW hat hc'
    · exact z_site_3 had hcx hW hat hc'
    · exact z_site_4 had hcx hW hat hc'
  · intro p e R s m args below meth c H locs cells slots n0 s0 f w mi pc ls lv st st' S S' i len aux Q hcx hW hat hcd hB hc kk
    obtain ⟨rfl, hc1, hc2, hc3, hc4⟩ := hc
    obtain ⟨hx, hb, hml, hown, hts, hr, hlk, hnm, htb, htrc⟩ := hcx
    obtain ⟨hl, hP, hS, hn0, hce, hsl, hRc, hRs, hf, hw⟩ := hat
    have hRc : 600002 ≤ R.cells + n0 := hRc
    have hRs : 7302232 ≤ R.slots + s0 := hRs
    have h1 := List.all_eq_true.mp (z_allB mi) _ (z_look_mem hcd)
    have hdg := (z_okp mi pc i 3 aux hcd).1
    have hlen : S.1.length ≤ 600002 ∧ S.2 ≤ 7302232 ∧ z_bi (z_g L xs) i 3 aux lv st S = some (st', S') := by
      unfold z_bj at hB
      split at hB
      · rename_i hq
        exact ⟨hq.1, hq.2, hB⟩
      · cases hB
    obtain ⟨hl1, hl2, hB⟩ := hlen
    unfold z_bi at hB
    split at hB
    · rename_i idx pl _
      simp only [z_isB, decide_eq_true_eq] at h1
      have hG : GoodIn z_ws (va_wsU (z_my mi).cls idx "FiberWorks$Word" "java/lang/Enum" ⟨"FiberWorks$Word", "ordinal", "()I"⟩ z_yo [.code z_yo z_co 1 (some .int), .fieldLink "java/lang/Enum" 7 "java/lang/Enum" "ordinal" "I"]) := by
        have hm : ∀ w ∈ va_wsU (z_my mi).cls idx "FiberWorks$Word" "java/lang/Enum" ⟨"FiberWorks$Word", "ordinal", "()I"⟩ z_yo [.code z_yo z_co 1 (some .int), .fieldLink "java/lang/Enum" 7 "java/lang/Enum" "ordinal" "I"], w ∈ z_ws := by
          intro w hw
          simp only [va_wsU, List.cons_append, List.nil_append, List.mem_cons, List.not_mem_nil, or_false] at hw
          rcases hw with rfl | rfl | rfl | rfl | rfl | rfl | rfl
          · exact List.mem_of_getElem? h1
          · exact hwn (z_ordw _ (by simp))
          · exact hwn (z_ordw _ (by simp))
          · exact hwn (z_ordw _ (by simp))
          · exact hwn (z_ordw _ (by simp [z_yo]))
          · exact List.mem_append_right _ (List.mem_cons_of_mem _ List.mem_cons_self)
          · exact hwn (z_ordw _ (by simp))
        exact fun w hw => ⟨hm w hw, z_gd w (hm w hw)⟩
      refine z_ord_ok (cW := "FiberWorks$Word") hx hb (hml.trans hl.1.symm) z_co0 z_co1 z_co4 hts hown hG (fun v hv => ⟨hW.1.2.2.2.2.2.1 v hv, hW.2.1 v hv⟩) hP hS (by omega) (by omega) (by omega) (by omega) hdg hB kk
    · rename_i idx pl
      simp only [z_isB, decide_eq_true_eq] at h1
      exact z_acp_ok (G := z_g L xs) had hx hb (hml.trans hl.1.symm) hown (hts _ (List.mem_of_getElem? h1)) (hts _ (hwn (z_ordw _ (by simp)))) (hts _ (hwn (z_ordw _ (by simp)))) (hts _ (hwn (z_ordw _ (by simp)))) hW.1.1 hP hS (by omega) (by omega) hdg hB kk
    · cases hB
end
section
/-! The law's entry: from what the Statement gives to the plain machine's world. -/
def z_ad (sz b aK aS : Nat) (f : Nat → Nat) (i : Nat) : Nat := if i < 37 then f i else if i = 37 then aK else if i = 38 then aS else if i = 39 then b else sz + (i - 40)
theorem z_ad_lo {sz b aK aS : Nat} {f : Nat → Nat} {i : Nat} (h : i < 37) : z_ad sz b aK aS f i = f i := if_pos h
theorem z_ad_hi {sz b aK aS : Nat} {f : Nat → Nat} (i : Nat) : z_ad sz b aK aS f (40 + i) = sz + i := by
  unfold z_ad
  rw [if_neg (by omega), if_neg (by omega), if_neg (by omega), if_neg (by omega)]
  omega
def z_nrw : List Cond := flatC (Jvm.Cond.and given_1 narrow_1)
def z_Wt (v : Nat) : Term := .static "FiberWorks$Word" (z_wn2.getD v "") "LFiberWorks$Word;"
def z_tK : Term := .static "FiberWorks$Words" "KINDS" "[LFiberWorks$Word;"
def z_tS : Term := .static "FiberWorks$1" "$SwitchMap$FiberWorks$Word" "[I"
theorem z_m1 : ∀ v, v < 37 → Cond.exactly (z_Wt v) "FiberWorks$Word" ∈ z_nrw := by decide +kernel
theorem z_m2 : ∀ v, v < 37 → Cond.eq (.field (z_Wt v) "java/lang/Enum" "ordinal" "I") (.int (nI v)) ∈ z_nrw := by decide +kernel
theorem z_m3 : ∀ v, v < 37 → Cond.laysStatic "FiberWorks$Word" (z_wn2.getD v "") "LFiberWorks$Word;" ∈ tables_1 := by decide +kernel
theorem z_m4 : ∀ j, j < 37 → Cond.eq (.elem z_tS (.int (Int32.ofNat j))) (.int (z_smap.getD j 0)) ∈ z_nrw := by decide +kernel
theorem z_m5 : Cond.arrayOf z_tS .int ∈ z_nrw := by decide +kernel
theorem z_m6 : Cond.eq (.length z_tS) (.int (Int32.ofNat 37)) ∈ z_nrw := by decide +kernel
theorem z_m7 : Cond.exactly z_tK "[LFiberWorks$Word;" ∈ z_nrw := by decide +kernel
theorem z_m8 : ∀ w ∈ ([.arrayOver (.object "FiberWorks$Word"), .arrayClass .int, .arrayClass .byte, .arrayClass .boolean, .arrayClass .long, .initialized "FiberWorks$Word", .initialized "FiberWorks$Words", .initialized "FiberWorks$1", .initialized "java/lang/Throwable", .laysStatic "FiberWorks$Words" "KINDS" "[LFiberWorks$Word;", .laysStatic "FiberWorks$1" "$SwitchMap$FiberWorks$Word" "[I", .laysStatic Bundle.tN "UNASSIGNED_STACK" Bundle.steD, .laysStatic Bundle.tN "SUPPRESSED_SENTINEL" Bundle.listD] : List Cond), w ∈ tables_1 := by decide +kernel
theorem z_m9 : ∀ w ∈ ([.isRef (.static Bundle.tN "UNASSIGNED_STACK" Bundle.steD), .isRef (.static Bundle.tN "SUPPRESSED_SENTINEL" Bundle.listD)] : List Cond), w ∈ z_nrw := by decide +kernel
theorem z_mA : ∀ q ∈ z_strs, Cond.stringRef q.1 q.2.1 q.2.2 ∈ tables_1 := by decide +kernel
theorem z_mB : ∀ q ∈ z_strs, Cond.exactly (.string q.1 q.2.1) "java/lang/String" ∈ z_nrw := by decide +kernel
theorem z_mC : z_ats.all (fun a => !a.onTables || decide (a ∈ tables_1)) = true := by decide +kernel
theorem z_nIi : ∀ i, i < 37 → ∀ j, j < 37 → nI i = nI j → i = j := by decide +kernel
theorem z_stlo : ∀ j, j < 37 → z_stl[j]? = some ("FiberWorks$Word", z_wn2.getD j "", "LFiberWorks$Word;", .ref j) := by decide +kernel
theorem z_inst : ∀ (ci : Nat) (C : String) (T : u_T) (N : Nat), z_cl[ci]? = some (C, T, N) → ∃ n, Cond.instantiable C n ∈ tables_1 := by
  have hm : ∀ w ∈ ([.instantiable "FiberWorks" 9, .instantiable "FiberWorks$Faults" 2, .instantiable "FiberWorks$Words" 11, .instantiable "FiberWorks$Types" 5, .instantiable "FiberWorks$Code" 11, .instantiable "FiberWorks$Declarations" 4, .instantiable "FiberWorks$Reader" 8, .instantiable "FiberWorks$Checker" 17, .instantiable "FiberWorks$Machine" 13, .instantiable "FiberWorksModel" 123, .instantiable "java/lang/IllegalArgumentException" 6, .instantiable "java/lang/IllegalStateException" 6] : List Cond), w ∈ tables_1 := by decide +kernel
  intro ci C T N h
  match ci, h with
  | 0, h => cases h; exact ⟨_, hm _ (List.mem_of_getElem? (i := 0) rfl)⟩
  | 1, h => cases h; exact ⟨_, hm _ (List.mem_of_getElem? (i := 1) rfl)⟩
  | 2, h => cases h; exact ⟨_, hm _ (List.mem_of_getElem? (i := 2) rfl)⟩
  | 3, h => cases h; exact ⟨_, hm _ (List.mem_of_getElem? (i := 3) rfl)⟩
  | 4, h => cases h; exact ⟨_, hm _ (List.mem_of_getElem? (i := 4) rfl)⟩
  | 5, h => cases h; exact ⟨_, hm _ (List.mem_of_getElem? (i := 5) rfl)⟩
  | 6, h => cases h; exact ⟨_, hm _ (List.mem_of_getElem? (i := 6) rfl)⟩
  | 7, h => cases h; exact ⟨_, hm _ (List.mem_of_getElem? (i := 7) rfl)⟩
  | 8, h => cases h; exact ⟨_, hm _ (List.mem_of_getElem? (i := 8) rfl)⟩
  | 9, h => cases h; exact ⟨_, hm _ (List.mem_of_getElem? (i := 9) rfl)⟩
  | 10, h => cases h; exact ⟨_, hm _ (List.mem_of_getElem? (i := 10) rfl)⟩
  | 11, h => cases h; exact ⟨_, hm _ (List.mem_of_getElem? (i := 11) rfl)⟩
  | n + 12, h => simp [z_cl] at h
theorem z_arrP {args : Array Value} {s : State} {ty : FieldType} (h : (Cond.arrayClass ty).before args s = true) (hr : ∀ C, ty ≠ .object C) : ∃ cA, ArrOfT s cA ty ∧ va_RA s cA ty := by
  obtain ⟨c, k, comp, h1, h2, h3⟩ := Cond.arrayClass_spec h
  refine ⟨c, fun N z => ⟨(fun k h => by cases h), k, h2, comp, h3⟩, ?_⟩
  cases ty with
  | object C => exact absurd rfl (hr C)
  | _ => exact h1
theorem z_arrQ {args : Array Value} {s : State} {C : String} (h : (Cond.arrayOver (.object C)).before args s = true) : ∃ cA, ArrOfT s cA (.object C) ∧ va_RA s cA (.object C) := by
  obtain ⟨comp, c, k, h1, h2, h3, h4, h5⟩ := Cond.arrayOver_spec h
  exact ⟨c, fun N z => ⟨(fun k h => by cases h), k, h3, comp, h4⟩, k, comp, h3, h4, h1, h5⟩
theorem z_zq {s : State} {args : Array Value} {C n d : String} (hl : (Cond.laysStatic C n d).before args s = true) (hini : (Cond.initialized C).before args s = true) (hr : (Cond.isRef (.static C n d)).before args s = true) : va_Zq C n d (z_A s.heap.size) s s.heap := by
  have hA : ∀ a : Nat, a < s.heap.size → ¬ z_A s.heap.size a := fun a h q => absurd q (Nat.not_le.mpr h)
  obtain ⟨v, hv, hq⟩ := Cond.isRef_spec hr
  cases v with
  | null => exact Or.inl (va_Zof hl hini hv hA)
  | ref t => exact Or.inr ⟨t, va_Zof hl hini hv hA⟩
  | _ => cases hq
set_option maxHeartbeats 4000000 in
theorem z_world {s : State} {b L : Nat} {xs : Nat → Int32} (hts : ∀ w ∈ lw_tbl, w.before #[Value.ref b] s = true) (hgv : (Jvm.Cond.and given_1 narrow_1).before #[Value.ref b] s = true) (hX : va_X b L xs s s.heap) (hbl : b < s.heap.size) :
    ∃ (ad : Nat → Nat) (D : va_G) (dA : Nat → ClassId), ad 39 = b ∧ (∀ i, ad (40 + i) = s.heap.size + i) ∧ (∀ i, i < 37 → ad i < s.heap.size) ∧ (∀ i j, i < 37 → j < 37 → ad i = ad j → i = j) ∧ z_Wo L xs s.heap.size ad D dA s := by
  have hn : ∀ c ∈ z_nrw, c.before #[Value.ref b] s = true := flat_of_before _ hgv
  have ht1 : ∀ w ∈ tables_1, w.before #[Value.ref b] s = true := fun w hw => hts w (List.mem_append_right _ hw)
  have hzs : ∀ w ∈ z_ws, w.before #[Value.ref b] s = true := fun w hw => hts w (z_wsg w hw).1
  have hA : ∀ a : Nat, a < s.heap.size → ¬ z_A s.heap.size a := fun a h q => absurd q (Nat.not_le.mpr h)
  have h8 : ∀ (i : Nat) (w : Cond), ([.arrayOver (.object "FiberWorks$Word"), .arrayClass .int, .arrayClass .byte, .arrayClass .boolean, .arrayClass .long, .initialized "FiberWorks$Word", .initialized "FiberWorks$Words", .initialized "FiberWorks$1", .initialized "java/lang/Throwable", .laysStatic "FiberWorks$Words" "KINDS" "[LFiberWorks$Word;", .laysStatic "FiberWorks$1" "$SwitchMap$FiberWorks$Word" "[I", .laysStatic Bundle.tN "UNASSIGNED_STACK" Bundle.steD, .laysStatic Bundle.tN "SUPPRESSED_SENTINEL" Bundle.listD] : List Cond)[i]? = some w → w.before #[Value.ref b] s = true := fun i w h => ht1 w (z_m8 w (List.mem_of_getElem? h))
  have hev : ∀ v : Nat, ∃ t : Nat, v < 37 → (z_Wt v).eval #[Value.ref b] s none [] s = some (.ref t) ∧ va_O "FiberWorks$Word" t (z_A s.heap.size) s s.heap := by
    intro v
    by_cases hv : v < 37
    · obtain ⟨a, c, cell, k, q1, -⟩ := Cond.exactly_spec (hn _ (z_m1 v hv))
      exact ⟨a, fun _ => ⟨q1, va_Oof (hn _ (z_m1 v hv)) q1 hA⟩⟩
    · exact ⟨0, fun h => absurd h hv⟩
  obtain ⟨f, hf⟩ := Classical.axiomOfChoice hev
  have hOF : ∀ v, v < 37 → va_OF "java/lang/Enum" "ordinal" "I" (.int (nI v)) (f v) (z_A s.heap.size) s s.heap := fun v hv => vk_OFof (hf v hv).1 (va_eqt (hn _ (z_m2 v hv))) hA
  have hinj : ∀ i j, i < 37 → j < 37 → f i = f j → i = j := by
    intro i j hi hj e
    have h1 := va_eqt (hn _ (z_m2 i hi))
    have h2 := va_eqt (hn _ (z_m2 j hj))
    rw [va_fe (hf i hi).1] at h1
    rw [va_fe (hf j hj).1, ← e, h1] at h2
    exact z_nIi i hi j hj (by injection h2 with h3; injection h3)
  obtain ⟨aK, -, cellK, -, hK1, -, hK3, -⟩ := Cond.exactly_spec (hn _ z_m7)
  obtain ⟨aS, hS1, hS2⟩ := va_Tof (N := 37) (f := fun j => .int (z_smap.getD j 0)) (by decide) (hn _ z_m5) (va_eqt (hn _ z_m6)) (fun j hj => va_eqt (hn _ (z_m4 j hj))) hA
  have hcls : ∀ ci : Nat, ∃ q : ClassId × (Nat → Nat), ∀ r : vw_C, z_cl[ci]? = some r → u_Kn s r.1 r.2.1 r.2.2 q.1 q.2 := by
    intro ci
    cases hr : z_cl[ci]? with
    | none => exact ⟨(0, fun _ => 0), fun r h => by cases h⟩
    | some r =>
      obtain ⟨C, T, N⟩ := r
      obtain ⟨n, hm⟩ := z_inst ci C T N hr
      obtain ⟨cC, iS, hk⟩ := u_known (ws := z_ws) (s := s) (args := #[Value.ref b]) (C := C) (T := T) (N := N) hzs (z_Cl_ok ci C T N hr).1 (ht1 _ hm)
      exact ⟨(cC, iS), fun r h => by cases h; exact hk⟩
  obtain ⟨g, hg⟩ := Classical.axiomOfChoice hcls
  have harr : ∀ t : Nat, ∃ cA : ClassId, ∀ ty, z_tyl[t]? = some ty → ArrOfT s cA ty ∧ va_RA s cA ty := by
    intro t
    have one : ∀ (ty : FieldType), z_tyl[t]? = some ty → (∃ cA, ArrOfT s cA ty ∧ va_RA s cA ty) → ∃ cA : ClassId, ∀ ty, z_tyl[t]? = some ty → ArrOfT s cA ty ∧ va_RA s cA ty := by
      intro ty h1 ⟨cA, h2⟩
      exact ⟨cA, fun ty' h => by rw [h1] at h; cases h; exact h2⟩
    match t, one with
    | 0, one => exact one .int rfl (z_arrP (h8 1 _ rfl) (fun C h => by cases h))
    | 1, one => exact one .byte rfl (z_arrP (h8 2 _ rfl) (fun C h => by cases h))
    | 2, one => exact one .boolean rfl (z_arrP (h8 3 _ rfl) (fun C h => by cases h))
    | 3, one => exact one .long rfl (z_arrP (h8 4 _ rfl) (fun C h => by cases h))
    | 4, one => exact one (.object "FiberWorks$Word") rfl (z_arrQ (h8 0 _ rfl))
    | n + 5, one => exact ⟨0, fun ty h => by simp [z_tyl] at h⟩
  obtain ⟨dA, hdA⟩ := Classical.axiomOfChoice harr
  refine ⟨z_ad s.heap.size b aK aS f, (fun c => (g c).1, fun c => (g c).2), dA, rfl, fun i => z_ad_hi i, fun i hi => ?_, fun i j hi hj e => ?_, ⟨⟨fun c q h => hg c q h, fun k q h => ?_⟩, ?_, ?_, Nat.le_refl _, ?_, ?_, ?_⟩, ?_, ?_, ?_, ?_, ?_⟩
  · rw [z_ad_lo hi]
    obtain ⟨cell, q1, -⟩ := (hf i hi).2
    exact (Array.getElem?_eq_some_iff.mp q1).1
  · rw [z_ad_lo hi, z_ad_lo hj] at e
    exact hinj i j hi hj e
  · have h : (z_tys dA z_tyl)[k]? = some q := h
    cases ht : z_tyl[k]? with
    | none =>
      have : (z_tys dA z_tyl)[k]? = none := by
        unfold z_tys
        rw [List.getElem?_mapIdx, ht]
        rfl
      rw [this] at h
      cases h
    | some ty =>
      rw [z_tys_get ht] at h
      cases h
      exact hdA k ty ht
  · intro j C n d v h
    by_cases hj : j < 37
    · rw [z_stlo j hj] at h
      cases h
      show va_Z _ _ _ (.ref (z_ad s.heap.size b aK aS f j)) _ _ _
      rw [z_ad_lo hj]
      exact va_Zref (ht1 _ (z_m3 j hj)) (h8 5 _ rfl) (hf j hj).1 hA
    · obtain ⟨i, rfl⟩ : ∃ i, j = 37 + i := ⟨j - 37, by omega⟩
      match i, h with
      | 0, h => cases h; exact va_Zref (h8 9 _ rfl) (h8 6 _ rfl) hK1 hA
      | 1, h => cases h; exact va_Zref (h8 10 _ rfl) (h8 7 _ rfl) hS1 hA
      | i + 2, h =>
        have h3 : z_stl.length = 39 := rfl
        have h4 := (List.getElem?_eq_some_iff.mp h).1
        omega
  · intro t C h
    match t, h with
    | 0, h => cases h
    | 1, h => cases h
    | 2, h => cases h
    | 3, h => cases h
    | 4, h => cases h; exact va_AO.of (h8 0 _ rfl)
    | n + 5, h => simp [z_g, z_tyl] at h
  · intro a q h
    have h : (if a = 38 then some (37, fun j => z_smap.getD j 0) else if a = 39 then some (L, xs) else none) = some q := h
    by_cases h38 : a = 38
    · subst h38
      cases h
      exact hS2
    · rw [if_neg h38] at h
      by_cases h39 : a = 39
      · subst h39
        cases h
        obtain ⟨scr, q1, q2, q3, q4, q5⟩ := hX
        exact ⟨scr, q1, q2, q3, Nat.le_of_eq q4.symm, by rw [q4], q5, hA b hbl⟩
      · rw [if_neg h39] at h
        cases h
  · intro v hv
    have hv : v < 37 := hv
    rw [z_ad_lo hv]
    exact (hf v hv).2
  · obtain ⟨a, c, cell, k, -, q2, -, q4, -⟩ := Cond.exactly_spec (hn _ (z_m1 0 (by decide)))
    exact ⟨c, k, q2, q4⟩
  · intro v hv
    rw [z_ad_lo hv]
    exact hOF v hv
  · intro a ha ht
    have h1 := List.all_eq_true.mp z_mC a ha
    rw [ht] at h1
    exact va_tabs ht rfl (ht1 a (of_decide_eq_true h1))
  · exact ⟨h8 11 _ rfl, z_zq (h8 11 _ rfl) (h8 8 _ rfl) (hn _ (z_m9 _ (List.mem_of_getElem? (i := 0) rfl)))⟩
  · exact ⟨h8 12 _ rfl, z_zq (h8 12 _ rfl) (h8 8 _ rfl) (hn _ (z_m9 _ (List.mem_of_getElem? (i := 1) rfl)))⟩
  · intro q hq
    obtain ⟨a, c, cell, k, q1, -⟩ := Cond.exactly_spec (hn _ (z_mB q hq))
    exact ⟨a, vk_R.of (ht1 _ (z_mA q hq)) q1⟩
end
section
/-! The law out of one run of the plain machine. -/
def R_law : String := "FiberWorksLaw"
def lw_Q (_ : Array Value) (s : State) (o : Outcome) (t : State) : Prop := o = .returned (some (.int 1)) ∧ Framed s o t [] 600002 7302232
def lw_Z (below : List Frame) (a : Array Value) (s : State) : State → Prop := fun t => ∃ o, t.status = .running ∧ Ended t below o ∧ lw_Q a s o t
/-- what holds at the law's entry -/
def lw_At (p : Program) (e : Env) (s : State) (m : MethodId) (meth : Method) (c : Code) (b L : Nat) (xs : Nat → Int32) : Prop :=
  p.tables.exec = Jvm.exec ∧ c.code = code ∧ meth.sig.returnType = ret ∧ c.maxLocals = 7 ∧ s.vm.findClass R_law = some m.cls ∧ (∀ w ∈ lw_tbl, w.before #[Value.ref b] s = true) ∧ va_X b L xs s s.heap ∧ b < s.heap.size ∧ meth.locks = false ∧ (Jvm.Cond.and given_1 narrow_1).before #[Value.ref b] s = true ∧
  meth.name = (z_my 0).name ∧ c.exceptionTable.toList = [] ∧ e.platform.stackTraces = false
/-- what the plain machine must come to -/
def z_Run (L : Nat) (xs : Nat → Int32) : Prop := ∃ (N : Nat) (S : z_S), z_ev (z_g L xs) z_pg (z_bj (z_g L xs)) N 2048 84000 0 0 (lv_args 0 [.ref 39]) [] ([], 0) = some (.inl (some (.int 1)), S) ∧ S.1.length ≤ 600002 ∧ S.2 ≤ 7302232
set_option maxHeartbeats 4000000 in
theorem z_law {p : Program} {e : Env} {s : State} {m : MethodId} {below : List Frame} {meth : Method} {c : Code} {l : Launch} (htr : ∀ e, l.admits e → e.platform.stackTraces = false) {b L : Nat} {xs : Nat → Int32} (C0 : lw_At p e s m meth c b L xs) (hR : z_Run L xs) :
    W p l e room_1 s m #[Value.ref b] below meth c s.heap [] 0 0 (lw_Z below #[Value.ref b] s) (entryFrame m ([Value.ref b] : List Value).toArray 7) := by
  obtain ⟨hx, hb, hr, hml, hown, hts, hX, hbl, hlk, hgv, hnm, htb, he⟩ := C0
  obtain ⟨N, S', h, hc, hs⟩ := hR
  obtain ⟨ad, D, dA, h39, had, hlo, hinj, hWo⟩ := z_world (xs := xs) hts hgv hX hbl
  have hzs : ∀ w ∈ z_ws, w.before #[Value.ref b] s = true := fun w hw => hts w (z_wsg w hw).1
  have hy := z_hyp (l := l) htr (L := L) (xs := xs) (D := D) (dA := dA) had hlo hinj
  have hl := lv_entry ([Value.ref b]) (n := 7) (Nat.le_of_ble_eq_true rfl)
  rw [lg_entry_eq]
  generalize (lg_sl ([Value.ref b]) ++ List.replicate (7 - (lg_sl ([Value.ref b])).length) Slot.unset).toArray = ls at hl ⊢
  have hl' : lv_has ls 7 (z_trL ad (lv_args 0 [.ref 39])) := by
    have e1 : z_trL ad (lv_args 0 [.ref 39]) = lv_args 0 [Value.ref b] := by
      rw [← z_args_tr]
      show lv_args 0 [.ref (ad 39)] = _
      rw [h39]
    rw [e1]
    exact hl
  have hcx : z_Cx z_my z_mb z_pg z_ws 0 p e s m #[Value.ref b] meth c := ⟨hx, hb, hml, hown, hzs, hr, hlk, hnm, htb, he⟩
  have hok : z_okX z_my z_pg z_cl z_ws 0 := by
    intro k q x hk
    have hk : ([] : List (Nat × Nat × Nat × Nat))[k]? = some q := hk
    cases hk
  have hat : z_At (z_g L xs) z_pg s.heap.size D z_cl ad dA room_1 s s.heap [] 0 0 0 0 2048 84000 0 ls (lv_args 0 [.ref 39]) ([], 0) :=
    ⟨hl', (fun k q hk => by cases hk), va_S.rf, rfl, rfl, rfl, (by show (600002 : Nat) ≤ 600002 + 0; omega), (by show (7302232 : Nat) ≤ 7302232 + 0; omega), (by show (2048 : Nat) ≤ 2048; omega), (by show (84000 : Nat) ≤ 84000; omega)⟩
  refine W.monoQ ?_ (z_walk hy N h hok hcx hWo hat)
  rintro t ⟨o, h1, h2, ⟨h3, -, -⟩, Lc, ⟨h4, h5⟩, h6⟩
  refine ⟨o, h1, h2, h3, ⟨_, h3⟩, h4, ?_⟩
  exact ((State.sameButNew.drop_fresh (L := []) h5 h6).mono (by omega) (by omega))
end
section
/-! Runs of the plain machine: more fuel, more room and more frozen arrays do no harm. -/
/-- one step of a run, the rest of the run being E -/
def z_bd (G : z_G) (P : z_Q) (B : z_B) (E : Nat → Nat → Nat → Nat → List (Nat × Value) → List Value → z_S → Option (z_O × z_S)) (f w mi pc : Nat) (lv : List (Nat × Value)) (st : List Value) (S : z_S) : Option (z_O × z_S) := match P.1 mi pc with
    | none => none
    | some (i, len, aux) => match z_ret (P.2.2.1 mi) i len st with
      | some v => some (.inl v, S)
      | none => match z_inv G P i aux st S with
        | some (mj, as, r) =>
          if (len = 3 ∧ 1 ≤ f ∧ 19 + P.2.1 mj ≤ w) ∧ (z_wt r ≤ 8 ∧ z_wt as ≤ P.2.1 mj) ∧ S.1.length ≤ G.1.2.2.1 ∧ S.2 ≤ G.1.2.2.2 then
            match E (f - 1) (w - (19 + P.2.1 mj)) mj 0 (lv_args 0 as) [] S with
            | some (.inl v, S') => if S.1.length ≤ S'.1.length ∧ S.2 ≤ S'.2 then E f w mi (pc + 3) lv (v.toList ++ r) S' else none
            | some (.inr a, S') => if S.1.length ≤ S'.1.length ∧ S.2 ≤ S'.2 then (match z_cls G.1.1 S' a with
              | some ci => match z_fh pc ci (P.2.2.2.1 mi) (P.2.2.2.2.1 mi) with
                | some none => some (.inr a, S')
                | some (some hp) => E f w mi hp lv [.ref a] S'
                | none => none
              | none => none) else none
            | none => none
          else none
        | none => match i, aux with
          | .invokespecial _, [1, _] => match st with
            | .ref _ :: r => if len = 3 ∧ 1 ≤ f ∧ 20 ≤ w ∧ z_wt r ≤ 8 then E f w mi (pc + 3) lv r S else none
            | _ => none
          | .new _, [9, ci, q] => if len = 3 ∧ 6 ≤ f ∧ 150 ≤ w ∧ z_wt st ≤ 8 ∧ S.1.length + 1 ≤ G.1.2.2.1 ∧ S.2 + 6 ≤ G.1.2.2.2 ∧ z_fh pc ci (P.2.2.2.1 mi) (P.2.2.2.2.1 mi) = some none then some (.inr (G.1.1 + S.1.length), (S.1 ++ [.inr (ci, [])], S.2 + 6)) else none
          | _, _ => match B i len aux lv st S with
            | some (st', S') => if len = 3 ∧ S'.1.length = S.1.length ∧ S'.2 = S.2 ∧ 1 ≤ f ∧ 60 ≤ w then E f w mi (pc + 3) lv st' S' else none
            | none => match z_step G (P.2.1 mi) i len aux pc lv st S with
              | some (pc', lv', st', S') => E f w mi pc' lv' st' S'
              | none => none
theorem z_ev_S {G : z_G} {P : z_Q} {B : z_B} {n f w mi pc : Nat} {lv : List (Nat × Value)} {st : List Value} {S : z_S} : z_ev G P B (n + 1) f w mi pc lv st S = z_bd G P B (z_ev G P B n) f w mi pc lv st S := rfl
section ZMONO
variable {a : Nat × Nat × Nat × Nat} {b : List FieldType × Nat} {c : (Nat → Nat) × (Nat → Nat → FieldType)} {d : Nat → Option Value} {fz fz' : Nat → Option (Nat × (Nat → Int32))}
theorem z_ialF_mono (hfz : ∀ x q, fz x = some q → fz' x = some q) {K len pc : Nat} {lv : List (Nat × Value)} {st : List Value} {S : z_S} {r : z_U} (h : z_ialF K fz len pc lv st S = some r) : z_ialF K fz' len pc lv st S = some r := by
  unfold z_ialF at h ⊢
  split at h
  · rename_i i x r'
    cases hx : fz x with
    | none => rw [hx] at h; cases h
    | some q =>
      rw [hx] at h
      rw [hfz x q hx]
      exact h
  · cases h
theorem z_alnF_mono (hfz : ∀ x q, fz x = some q → fz' x = some q) {K len pc : Nat} {lv : List (Nat × Value)} {st : List Value} {S : z_S} {r : z_U} (h : z_alnF K fz len pc lv st S = some r) : z_alnF K fz' len pc lv st S = some r := by
  unfold z_alnF at h ⊢
  split at h
  · rename_i x r'
    cases hx : fz x with
    | none => rw [hx] at h; cases h
    | some q =>
      rw [hx] at h
      rw [hfz x q hx]
      exact h
  · cases h
theorem z_step_mono (hfz : ∀ x q, fz x = some q → fz' x = some q) {nL len pc : Nat} {i : Instr} {aux : List Nat} {lv : List (Nat × Value)} {st : List Value} {S : z_S} {r : z_U} (h : z_step (a, b, c, fz, d) nL i len aux pc lv st S = some r) : z_step (a, b, c, fz', d) nL i len aux pc lv st S = some r := by
  cases i
  case iaload =>
    have h : z_or (z_ial a.1 b.1 .int len pc lv st S) (z_ialF a.1 fz len pc lv st S) = some r := h
    show z_or (z_ial a.1 b.1 .int len pc lv st S) (z_ialF a.1 fz' len pc lv st S) = some r
    cases hq : z_ial a.1 b.1 .int len pc lv st S with
    | some y => rw [hq] at h; exact h
    | none => rw [hq] at h; exact z_ialF_mono hfz h
  case arraylength =>
    have h : z_or (z_aln a.1 b.1 len pc lv st S) (z_alnF a.1 fz len pc lv st S) = some r := h
    show z_or (z_aln a.1 b.1 len pc lv st S) (z_alnF a.1 fz' len pc lv st S) = some r
    cases hq : z_aln a.1 b.1 len pc lv st S with
    | some y => rw [hq] at h; exact h
    | none => rw [hq] at h; exact z_alnF_mono hfz h
  all_goals exact h
set_option maxHeartbeats 4000000 in
theorem z_bd_mono (hfz : ∀ x q, fz x = some q → fz' x = some q) {P : z_Q} {B : z_B} {E E' : Nat → Nat → Nat → Nat → List (Nat × Value) → List Value → z_S → Option (z_O × z_S)}
    (hE : ∀ f f' w w' mi pc lv st S r, f ≤ f' → w ≤ w' → E f w mi pc lv st S = some r → E' f' w' mi pc lv st S = some r) {f f' w w' mi pc : Nat} {lv : List (Nat × Value)} {st : List Value} {S : z_S} {r : z_O × z_S} (hf : f ≤ f') (hw : w ≤ w') (h : z_bd (a, b, c, fz, d) P B E f w mi pc lv st S = some r) :
    z_bd (a, b, c, fz', d) P B E' f' w' mi pc lv st S = some r := by
  unfold z_bd at h ⊢
  cases hrow : P.1 mi pc with
  | none => rw [hrow] at h; cases h
  | some q =>
    obtain ⟨i, len, aux⟩ := q
    rw [hrow] at h
    dsimp only at h ⊢
    cases hret : z_ret (P.2.2.1 mi) i len st with
    | some v => rw [hret] at h; exact h
    | none =>
      rw [hret] at h
      dsimp only at h ⊢
      cases hinv : z_inv (a, b, c, fz, d) P i aux st S with
      | some q =>
        obtain ⟨mj, as, rr⟩ := q
        have hinv' : z_inv (a, b, c, fz', d) P i aux st S = some (mj, as, rr) := hinv
        rw [hinv] at h
        rw [hinv']
        dsimp only at h ⊢
        split at h
        · rename_i hc
          rw [if_pos ⟨⟨hc.1.1, Nat.le_trans hc.1.2.1 hf, Nat.le_trans hc.1.2.2 hw⟩, hc.2⟩]
          cases hcal : E (f - 1) (w - (19 + P.2.1 mj)) mj 0 (lv_args 0 as) [] S with
          | none => rw [hcal] at h; cases h
          | some q =>
            obtain ⟨o, S1⟩ := q
            have hcal' := hE (f - 1) (f' - 1) (w - (19 + P.2.1 mj)) (w' - (19 + P.2.1 mj)) _ _ _ _ _ _ (by omega) (by omega) hcal
            rw [hcal] at h
            rw [hcal']
            cases o with
            | inl v =>
              dsimp only at h ⊢
              split at h
              · rename_i hg
                rw [if_pos hg]
                exact hE _ _ _ _ _ _ _ _ _ _ hf hw h
              · cases h
            | inr x =>
              dsimp only at h ⊢
              split at h
              · rename_i hg
                rw [if_pos hg]
                cases hcl : z_cls a.1 S1 x with
                | none => rw [hcl] at h; cases h
                | some ci =>
                  rw [hcl] at h
                  dsimp only at h ⊢
                  cases hfh : z_fh pc ci (P.2.2.2.1 mi) (P.2.2.2.2.1 mi) with
                  | none => rw [hfh] at h; cases h
                  | some q =>
                    rw [hfh] at h
                    cases q with
                    | none => exact h
                    | some hp => exact hE _ _ _ _ _ _ _ _ _ _ hf hw h
              · cases h
        · cases h
      | none =>
        have hinv' : z_inv (a, b, c, fz', d) P i aux st S = none := hinv
        rw [hinv] at h
        rw [hinv']
        dsimp only at h ⊢
        split at h
        · split at h
          · split at h
            · rename_i hc
              rw [if_pos ⟨hc.1, Nat.le_trans hc.2.1 hf, Nat.le_trans hc.2.2.1 hw, hc.2.2.2⟩]
              exact hE _ _ _ _ _ _ _ _ _ _ hf hw h
            · cases h
          · cases h
        · split at h
          · rename_i hc
            rw [if_pos ⟨hc.1, Nat.le_trans hc.2.1 hf, Nat.le_trans hc.2.2.1 hw, hc.2.2.2⟩]
            exact h
          · cases h
        · rename_i n1 n2
          have key : (match B i len aux lv st S with
            | some (st', S') => if len = 3 ∧ S'.1.length = S.1.length ∧ S'.2 = S.2 ∧ 1 ≤ f' ∧ 60 ≤ w' then E' f' w' mi (pc + 3) lv st' S' else none
            | none => match z_step (a, b, c, fz', d) (P.2.1 mi) i len aux pc lv st S with
              | some (pc', lv', st', S') => E' f' w' mi pc' lv' st' S'
              | none => none) = some r := by
            cases hB : B i len aux lv st S with
            | some q =>
              obtain ⟨st', S'⟩ := q
              rw [hB] at h
              dsimp only at h ⊢
              split at h
              · rename_i hc
                rw [if_pos ⟨hc.1, hc.2.1, hc.2.2.1, Nat.le_trans hc.2.2.2.1 hf, Nat.le_trans hc.2.2.2.2 hw⟩]
                exact hE _ _ _ _ _ _ _ _ _ _ hf hw h
              · cases h
            | none =>
              rw [hB] at h
              dsimp only at h ⊢
              cases hs : z_step (a, b, c, fz, d) (P.2.1 mi) i len aux pc lv st S with
              | none => rw [hs] at h; cases h
              | some q =>
                rw [hs] at h
                rw [z_step_mono hfz hs]
                obtain ⟨q1, q2, q3, q4⟩ := q
                exact hE _ _ _ _ _ _ _ _ _ _ hf hw h
          exact key
theorem z_mono (hfz : ∀ x q, fz x = some q → fz' x = some q) {P : z_Q} {B : z_B} : ∀ (n m : Nat), n ≤ m → ∀ f f' w w' mi pc lv st S r, f ≤ f' → w ≤ w' → z_ev (a, b, c, fz, d) P B n f w mi pc lv st S = some r → z_ev (a, b, c, fz', d) P B m f' w' mi pc lv st S = some r := by
  intro n
  induction n with
  | zero =>
    intro m _ f f' w w' mi pc lv st S r _ _ h
    simp [z_ev] at h
  | succ n ih =>
    intro m hm f f' w w' mi pc lv st S r hf hw h
    obtain ⟨m, rfl⟩ : ∃ k, m = k + 1 := ⟨m - 1, by omega⟩
    rw [z_ev_S] at h ⊢
    exact z_bd_mono hfz (ih m (by omega)) hf hw h
end ZMONO
end
section
/-! Runs of the plain machine, by rules. -/
/-- the program's numbers without the script -/
def z_st0 (j : Nat) : Option Value := (z_stl[j]?).map (fun q => q.2.2.2)
def z_g0 : z_G := ((40, 37, 600002, 7302232), (z_tyl, 4), (z_cN, z_fty), (fun a => if a = 38 then some (37, fun j => z_smap.getD j 0) else none), fun j => (z_stl[j]?).map (fun q => q.2.2.2))
def z_b0 : z_B := z_bj z_g0
def z_Rn (L : Nat) (xs : Nat → Int32) (f w mi pc : Nat) (lv : List (Nat × Value)) (st : List Value) (S : z_S) (r : z_O × z_S) : Prop := ∃ n, z_ev (z_g L xs) z_pg z_b0 n f w mi pc lv st S = some r
section ZRULES
variable {L : Nat} {xs : Nat → Int32} {f w mi pc : Nat} {lv : List (Nat × Value)} {st : List Value} {S : z_S} {r : z_O × z_S}
theorem z_gfz : ∀ x q, (fun a => if a = 38 then some (37, fun j => z_smap.getD j 0) else none : Nat → Option (Nat × (Nat → Int32))) x = some q → (fun a => if a = 38 then some (37, fun j => z_smap.getD j 0) else if a = 39 then some (L, xs) else none : Nat → Option (Nat × (Nat → Int32))) x = some q := by
  intro x q h
  dsimp only at h ⊢
  by_cases hx : x = 38
  · rw [if_pos hx] at h ⊢
    exact h
  · rw [if_neg hx] at h
    cases h
/-- a run that does not look at the script -/
theorem z_Rn.closed {f0 w0 n : Nat} (h : z_ev z_g0 z_pg z_b0 n f0 w0 mi pc lv st S = some r) (hf : f0 ≤ f) (hw : w0 ≤ w) : z_Rn L xs f w mi pc lv st S r :=
  ⟨n, z_mono (a := (40, 37, 600002, 7302232)) (b := (z_tyl, 4)) (c := (z_cN, z_fty)) (d := z_st0) (P := z_pg) (B := z_b0) (z_gfz (L := L) (xs := xs)) n n (Nat.le_refl n) f0 f w0 w mi pc lv st S r hf hw h⟩
theorem z_Rn.more {n m : Nat} (h : z_ev (z_g L xs) z_pg z_b0 n f w mi pc lv st S = some r) (hm : n ≤ m) : z_ev (z_g L xs) z_pg z_b0 m f w mi pc lv st S = some r :=
  z_mono (a := (40, 37, 600002, 7302232)) (b := (z_tyl, 4)) (c := (z_cN, z_fty)) (d := z_st0) (P := z_pg) (B := z_b0) (fz := (z_g L xs).2.2.2.1) (fz' := (z_g L xs).2.2.2.1) (fun _ _ h => h) n m hm f f w w mi pc lv st S r (Nat.le_refl f) (Nat.le_refl w) h
/-- an instruction with no call, no return and no throw -/
def z_pl (i : Instr) (aux : List Nat) : Bool := match i, aux with
  | .return_, _ => false
  | .ireturn, _ => false
  | .areturn, _ => false
  | .invokestatic _, _ => false
  | .invokespecial _, _ => false
  | .invokevirtual _, _ => false
  | .new _, [9, _, _] => false
  | _, _ => true
theorem z_pl_ret {rt : Option FieldType} {i : Instr} {len : Nat} {aux : List Nat} (h : z_pl i aux = true) : z_ret rt i len st = none := by
  cases i <;> first | rfl | cases h
theorem z_pl_inv {G : z_G} {P : z_Q} {i : Instr} {aux : List Nat} (h : z_pl i aux = true) : z_inv G P i aux st S = none := by
  cases i <;> first | rfl | cases h
theorem z_pl_b0 {i : Instr} {len : Nat} {aux : List Nat} (h : z_pl i aux = true) : z_b0 i len aux lv st S = none := by
  unfold z_b0 z_bj
  split
  · cases i <;> first | rfl | cases h
  · rfl
theorem z_bd_pl {G : z_G} {P : z_Q} {E : Nat → Nat → Nat → Nat → List (Nat × Value) → List Value → z_S → Option (z_O × z_S)} {i : Instr} {len : Nat} {aux : List Nat} {pc' : Nat} {lv' : List (Nat × Value)} {st' : List Value} {S' : z_S}
    (hrow : P.1 mi pc = some (i, len, aux)) (hpl : z_pl i aux = true) (hs : z_step G (P.2.1 mi) i len aux pc lv st S = some (pc', lv', st', S')) : z_bd G P z_b0 E f w mi pc lv st S = E f w mi pc' lv' st' S' := by
  unfold z_bd
  rw [hrow]
  dsimp only
  rw [z_pl_ret hpl, z_pl_inv hpl]
  dsimp only
  split
  · cases hpl
  · cases hpl
  · rw [z_pl_b0 hpl]
    dsimp only
    rw [hs]
theorem z_Rn.step {i : Instr} {len : Nat} {aux : List Nat} {pc' : Nat} {lv' : List (Nat × Value)} {st' : List Value} {S' : z_S} (hrow : z_pg.1 mi pc = some (i, len, aux)) (hpl : z_pl i aux = true) (hs : z_step (z_g L xs) (z_pg.2.1 mi) i len aux pc lv st S = some (pc', lv', st', S')) (k : z_Rn L xs f w mi pc' lv' st' S' r) : z_Rn L xs f w mi pc lv st S r := by
  obtain ⟨n, hn⟩ := k
  refine ⟨n + 1, ?_⟩
  rw [z_ev_S, z_bd_pl hrow hpl hs]
  exact hn
/-- a row of instructions, one behind the other -/
def z_blk (G : z_G) (nL : Nat) (rows : List z_R) (pc : Nat) (lv : List (Nat × Value)) (st : List Value) (S : z_S) : Option z_U := match rows with
  | [] => some (pc, lv, st, S)
  | q :: rs => if q.1 = pc then (match z_step G nL q.2.1 q.2.2.1 q.2.2.2 pc lv st S with
    | some (pc', lv', st', S') => z_blk G nL rs pc' lv' st' S'
    | none => none) else none
def z_isR (mi : Nat) (q : z_R) : Bool := z_pl q.2.1 q.2.2.2 && decide (z_pg.1 mi q.1 = some q.2)
theorem z_Rn.blk : ∀ (rows : List z_R) {pc : Nat} {lv : List (Nat × Value)} {st : List Value} {S : z_S} {pc' : Nat} {lv' : List (Nat × Value)} {st' : List Value} {S' : z_S}, rows.all (z_isR mi) = true → z_blk (z_g L xs) (z_pg.2.1 mi) rows pc lv st S = some (pc', lv', st', S') → z_Rn L xs f w mi pc' lv' st' S' r → z_Rn L xs f w mi pc lv st S r := by
  intro rows
  induction rows with
  | nil =>
    intro pc lv st S pc' lv' st' S' _ hb k
    cases hb
    exact k
  | cons q rs ih =>
    intro pc lv st S pc' lv' st' S' hr hb k
    rw [List.all_cons, Bool.and_eq_true] at hr
    obtain ⟨h1, h2⟩ := hr
    unfold z_isR at h1
    rw [Bool.and_eq_true] at h1
    unfold z_blk at hb
    split at hb
    · rename_i hpc
      split at hb
      · rename_i pc1 lv1 st1 S1 hs
        have hrow := of_decide_eq_true h1.2
        rw [hpc] at hrow
        exact z_Rn.step hrow h1.1 hs (ih h2 hb k)
      · cases hb
    · cases hb
/-- the end of a method -/
theorem z_Rn.ret {i : Instr} {len : Nat} {aux : List Nat} {v : Option Value} (hrow : z_pg.1 mi pc = some (i, len, aux)) (h : z_ret (z_pg.2.2.1 mi) i len st = some v) : z_Rn L xs f w mi pc lv st S (.inl v, S) := by
  refine ⟨1, ?_⟩
  rw [z_ev_S]
  unfold z_bd
  rw [hrow]
  dsimp only
  rw [h]
/-- a call that comes back -/
theorem z_Rn.call {i : Instr} {aux : List Nat} {mj : Nat} {as rr : List Value} {v : Option Value} {S1 : z_S} (hrow : z_pg.1 mi pc = some (i, 3, aux)) (hret : z_ret (z_pg.2.2.1 mi) i 3 st = none) (hinv : z_inv (z_g L xs) z_pg i aux st S = some (mj, as, rr))
    (hg : ((1 ≤ f ∧ 19 + z_pg.2.1 mj ≤ w) ∧ z_wt rr ≤ 8 ∧ z_wt as ≤ z_pg.2.1 mj) ∧ (S.1.length ≤ 600002 ∧ S.2 ≤ 7302232) ∧ S.1.length ≤ S1.1.length ∧ S.2 ≤ S1.2) (hc : z_Rn L xs (f - 1) (w - (19 + z_pg.2.1 mj)) mj 0 (lv_args 0 as) [] S (.inl v, S1)) (k : z_Rn L xs f w mi (pc + 3) lv (v.toList ++ rr) S1 r) : z_Rn L xs f w mi pc lv st S r := by
  obtain ⟨n, hn⟩ := hc
  obtain ⟨m, hm⟩ := k
  obtain ⟨⟨⟨g1, g2⟩, g3, g4⟩, ⟨g5, g6⟩, g7, g8⟩ := hg
  refine ⟨max n m + 1, ?_⟩
  rw [z_ev_S]
  unfold z_bd
  rw [hrow]
  dsimp only
  rw [hret, hinv]
  dsimp only
  rw [if_pos ⟨⟨rfl, g1, g2⟩, ⟨g3, g4⟩, g5, g6⟩, z_Rn.more hn (Nat.le_max_left n m)]
  dsimp only
  rw [if_pos ⟨g7, g8⟩]
  exact z_Rn.more hm (Nat.le_max_right n m)
/-- a call that throws, and a handler takes it -/
theorem z_Rn.caught {i : Instr} {aux : List Nat} {mj : Nat} {as rr : List Value} {x ci hp : Nat} {S1 : z_S} (hrow : z_pg.1 mi pc = some (i, 3, aux)) (hret : z_ret (z_pg.2.2.1 mi) i 3 st = none) (hinv : z_inv (z_g L xs) z_pg i aux st S = some (mj, as, rr))
    (hg : ((1 ≤ f ∧ 19 + z_pg.2.1 mj ≤ w) ∧ z_wt rr ≤ 8 ∧ z_wt as ≤ z_pg.2.1 mj) ∧ (S.1.length ≤ 600002 ∧ S.2 ≤ 7302232) ∧ S.1.length ≤ S1.1.length ∧ S.2 ≤ S1.2) (hc : z_Rn L xs (f - 1) (w - (19 + z_pg.2.1 mj)) mj 0 (lv_args 0 as) [] S (.inr x, S1)) (hcls : z_cls 40 S1 x = some ci) (hfh : z_fh pc ci (z_pg.2.2.2.1 mi) (z_pg.2.2.2.2.1 mi) = some (some hp)) (k : z_Rn L xs f w mi hp lv [.ref x] S1 r) : z_Rn L xs f w mi pc lv st S r := by
  obtain ⟨n, hn⟩ := hc
  obtain ⟨m, hm⟩ := k
  obtain ⟨⟨⟨g1, g2⟩, g3, g4⟩, ⟨g5, g6⟩, g7, g8⟩ := hg
  have hcls : z_cls (z_g L xs).1.1 S1 x = some ci := hcls
  refine ⟨max n m + 1, ?_⟩
  rw [z_ev_S]
  unfold z_bd
  rw [hrow]
  dsimp only
  rw [hret, hinv]
  dsimp only
  rw [if_pos ⟨⟨rfl, g1, g2⟩, ⟨g3, g4⟩, g5, g6⟩, z_Rn.more hn (Nat.le_max_left n m)]
  dsimp only
  rw [if_pos ⟨g7, g8⟩, hcls]
  dsimp only
  rw [hfh]
  exact z_Rn.more hm (Nat.le_max_right n m)
theorem z_Rn.brT {b : Bool} (h : b = true) {t e : Nat} (k : z_Rn L xs f w mi t lv st S r) : z_Rn L xs f w mi (if b = true then t else e) lv st S r := by
  rw [if_pos h]
  exact k
theorem z_Rn.brF {b : Bool} (h : b = false) {t e : Nat} (k : z_Rn L xs f w mi e lv st S r) : z_Rn L xs f w mi (if b = true then t else e) lv st S r := by
  rw [if_neg (by rw [h]; decide)]
  exact k
theorem z_blk0 : ∀ (rows : List z_R) {nL pc : Nat} {lv : List (Nat × Value)} {st : List Value} {S : z_S} {q : z_U}, z_blk z_g0 nL rows pc lv st S = some q → z_blk (z_g L xs) nL rows pc lv st S = some q := by
  intro rows
  induction rows with
  | nil =>
    intro nL pc lv st S q h
    exact h
  | cons x rs ih =>
    intro nL pc lv st S q h
    unfold z_blk at h ⊢
    split at h
    · rename_i hpc
      rw [if_pos hpc]
      split at h
      · rename_i pc1 lv1 st1 S1 hs
        have hs' : z_step (z_g L xs) nL x.2.1 x.2.2.1 x.2.2.2 pc lv st S = some (pc1, lv1, st1, S1) := z_step_mono (a := (40, 37, 600002, 7302232)) (b := (z_tyl, 4)) (c := (z_cN, z_fty)) (d := z_st0) (z_gfz (L := L) (xs := xs)) hs
        rw [hs']
        exact ih h
      · cases h
    · cases h
theorem z_Rn.blk0 (rows : List z_R) {pc' : Nat} {lv' : List (Nat × Value)} {st' : List Value} {S' : z_S} (hr : rows.all (z_isR mi) = true) (hb : z_blk z_g0 (z_pg.2.1 mi) rows pc lv st S = some (pc', lv', st', S')) (k : z_Rn L xs f w mi pc' lv' st' S' r) : z_Rn L xs f w mi pc lv st S r := z_Rn.blk rows hr (z_blk0 rows hb) k
/-- a row that throws -/
theorem z_Rn.thr {idx ci q : Nat} (hrow : z_pg.1 mi pc = some (.new idx, 3, [9, ci, q])) (hg : (6 ≤ f ∧ 150 ≤ w ∧ z_wt st ≤ 8) ∧ S.1.length + 1 ≤ 600002 ∧ S.2 + 6 ≤ 7302232) (hfh : z_fh pc ci (z_pg.2.2.2.1 mi) (z_pg.2.2.2.2.1 mi) = some none) :
    z_Rn L xs f w mi pc lv st S (.inr (40 + S.1.length), (S.1 ++ [.inr (ci, [])], S.2 + 6)) := by
  refine ⟨1, ?_⟩
  rw [z_ev_S]
  unfold z_bd
  rw [hrow]
  obtain ⟨⟨g1, g2, g3⟩, g4, g5⟩ := hg
  show (if _ then _ else _) = _
  rw [if_pos ⟨rfl, g1, g2, g3, g4, g5, hfh⟩]
  rfl
theorem z_inv_v {idx mj na q b : Nat} {as rr : List Value} (h : z_tk na st = some (as, .ref b :: rr)) (hc : z_cls 40 S b = some (z_mc mj)) : z_inv (z_g L xs) z_pg (.invokevirtual idx) [0, mj, na, q] st S = some (mj, .ref b :: as, rr) := by
  show (match z_tk na st with
    | some (as, Value.ref b :: r) => if z_cls 40 S b = some (z_mc mj) then some (mj, Value.ref b :: as, r) else none
    | _ => none) = _
  rw [h]
  exact if_pos hc
theorem z_inv_s {idx mj na q : Nat} {as rr : List Value} (h : z_tk na st = some (as, rr)) : z_inv (z_g L xs) z_pg (.invokestatic idx) [0, mj, na, q] st S = some (mj, as, rr) := by
  show (match z_tk na st with
    | some (as, r) => some (mj, as, r)
    | none => none) = _
  rw [h]
theorem z_inv_p {idx mj na q b : Nat} {as rr : List Value} (h : z_tk na st = some (as, .ref b :: rr)) : z_inv (z_g L xs) z_pg (.invokespecial idx) [0, mj, na, q] st S = some (mj, .ref b :: as, rr) := by
  show (match z_tk na st with
    | some (as, Value.ref b :: r) => some (mj, Value.ref b :: as, r)
    | _ => none) = _
  rw [h]
theorem z_Rn.callv {idx mj na q b : Nat} {as rr : List Value} {v : Option Value} {S1 : z_S} (hrow : z_pg.1 mi pc = some (.invokevirtual idx, 3, [0, mj, na, q])) (htk : z_tk na st = some (as, .ref b :: rr)) (hcl : z_cls 40 S b = some (z_mc mj)) (hg : (1 ≤ f ∧ 19 + z_ml mj ≤ w) ∧ z_wt rr ≤ 8 ∧ z_wt (.ref b :: as) ≤ z_ml mj)
    (hS : (S.1.length ≤ 600002 ∧ S.2 ≤ 7302232) ∧ S.1.length ≤ S1.1.length ∧ S.2 ≤ S1.2) (hc : z_Rn L xs (f - 1) (w - (19 + z_ml mj)) mj 0 (lv_args 0 (.ref b :: as)) [] S (.inl v, S1)) (k : z_Rn L xs f w mi (pc + 3) lv (v.toList ++ rr) S1 r) : z_Rn L xs f w mi pc lv st S r :=
  z_Rn.call hrow rfl (z_inv_v htk hcl) ⟨hg, hS⟩ hc k
theorem z_Rn.calls {idx mj na q : Nat} {as rr : List Value} {v : Option Value} {S1 : z_S} (hrow : z_pg.1 mi pc = some (.invokestatic idx, 3, [0, mj, na, q])) (htk : z_tk na st = some (as, rr)) (hg : (1 ≤ f ∧ 19 + z_ml mj ≤ w) ∧ z_wt rr ≤ 8 ∧ z_wt as ≤ z_ml mj)
    (hS : (S.1.length ≤ 600002 ∧ S.2 ≤ 7302232) ∧ S.1.length ≤ S1.1.length ∧ S.2 ≤ S1.2) (hc : z_Rn L xs (f - 1) (w - (19 + z_ml mj)) mj 0 (lv_args 0 as) [] S (.inl v, S1)) (k : z_Rn L xs f w mi (pc + 3) lv (v.toList ++ rr) S1 r) : z_Rn L xs f w mi pc lv st S r :=
  z_Rn.call hrow rfl (z_inv_s htk) ⟨hg, hS⟩ hc k
theorem z_Rn.callp {idx mj na q b : Nat} {as rr : List Value} {v : Option Value} {S1 : z_S} (hrow : z_pg.1 mi pc = some (.invokespecial idx, 3, [0, mj, na, q])) (htk : z_tk na st = some (as, .ref b :: rr)) (hg : (1 ≤ f ∧ 19 + z_ml mj ≤ w) ∧ z_wt rr ≤ 8 ∧ z_wt (.ref b :: as) ≤ z_ml mj)
    (hS : (S.1.length ≤ 600002 ∧ S.2 ≤ 7302232) ∧ S.1.length ≤ S1.1.length ∧ S.2 ≤ S1.2) (hc : z_Rn L xs (f - 1) (w - (19 + z_ml mj)) mj 0 (lv_args 0 (.ref b :: as)) [] S (.inl v, S1)) (k : z_Rn L xs f w mi (pc + 3) lv (v.toList ++ rr) S1 r) : z_Rn L xs f w mi pc lv st S r :=
  z_Rn.call hrow rfl (z_inv_p htk) ⟨hg, hS⟩ hc k
theorem z_step_tab {G : z_G} {nL : Nat} {dd : Int} {lo hi : Int} {offs : Array Int} {len t : Nat} {ts : List Nat} {x : Int32} {rr : List Value} (h : x.toInt < lo ∨ hi < x.toInt) : z_step G nL (.tableswitch dd lo hi offs) len (t :: ts) pc lv (.int x :: rr) S = some (t, lv, rr, S) := by
  show (z_tab lo hi (t :: ts) pc lv (.int x :: rr)).map _ = _
  unfold z_tab
  dsimp only
  rw [if_pos h]
  rfl
end ZRULES
end
section
/-! Runs that look at no script: the two new objects, and what they answer to a known number. -/
def z_T1 : z_S := ([.inr (0, [.ref 41, .ref 42, .ref 43, .ref 48, .ref 53, .ref 64, .ref 67, .ref 78, .int 0]), .inl (1, 20, .inl []), .inr (1, [.int 0, .int (-1)]), .inr (2, [.ref 42, .ref 44, .int 0, .ref 45, .ref 46, .ref 47, .int 0, .int 0, .ref 0, .int 0, .int 0]), .inl (1, 1500, .inl []), .inl (4, 1501, .inr (.inr [])), .inl (0, 1501, .inl []), .inl (0, 1501, .inl []), .inr (3, [.ref 49, .ref 50, .ref 51, .ref 52, .int 3]), .inl (0, 64, .inl []), .inl (0, 64, .inl []), .inl (0, 64, .inl []), .inl (0, 64, .inl [(2, 1), (1, 1), (0, 1)]), .inr (4, [.ref 54, .ref 55, .ref 56, .ref 57, .ref 58, .ref 59, .int 0, .int 0, .int 2, .int 0, .int 0]), .inl (0, 128, .inl []), .inl (0, 128, .inl []), .inl (0, 128, .inl []), .inl (0, 128, .inl []), .inl (0, 128, .inl []), .inl (0, 128, .inl []), .inr (5, [.ref 61, .ref 62, .ref 63, .int 0]), .inl (0, 8, .inl []), .inl (0, 8, .inl []), .inl (0, 8, .inl []), .inr (6, [.ref 43, .ref 42, .ref 48, .ref 60, .ref 53, .ref 65, .ref 66, .int 0]), .inl (0, 150, .inl []), .inl (0, 150, .inl []), .inr (7, [.ref 42, .ref 48, .ref 60, .ref 53, .ref 68, .ref 69, .ref 70, .int 0, .ref 71, .ref 72, .int 0, .ref 73, .ref 74, .ref 75, .ref 76, .ref 77, .int 0]), .inl (0, 256, .inl []), .inl (0, 256, .inl []), .inl (0, 256, .inl []), .inl (0, 128, .inl []), .inl (0, 128, .inl []), .inl (0, 64, .inl []), .inl (0, 64, .inl []), .inl (0, 64, .inl []), .inl (0, 64, .inl []), .inl (0, 64, .inl []), .inr (8, [.ref 53, .ref 79, .int 0, .int 0, .ref 80, .int 0, .int 0, .int 0, .int 0, .int (-1), .int 0, .int 0, .int 0]), .inl (0, 256, .inl []), .inl (0, 256, .inl [])], 9307)
def z_T2 : z_S := ([.inr (0, [.ref 41, .ref 42, .ref 43, .ref 48, .ref 53, .ref 64, .ref 67, .ref 78, .int 0]), .inl (1, 20, .inl []), .inr (1, [.int 0, .int (-1)]), .inr (2, [.ref 42, .ref 44, .int 0, .ref 45, .ref 46, .ref 47, .int 0, .int 0, .ref 0, .int 0, .int 0]), .inl (1, 1500, .inl []), .inl (4, 1501, .inr (.inr [])), .inl (0, 1501, .inl []), .inl (0, 1501, .inl []), .inr (3, [.ref 49, .ref 50, .ref 51, .ref 52, .int 3]), .inl (0, 64, .inl []), .inl (0, 64, .inl []), .inl (0, 64, .inl []), .inl (0, 64, .inl [(2, 1), (1, 1), (0, 1)]), .inr (4, [.ref 54, .ref 55, .ref 56, .ref 57, .ref 58, .ref 59, .int 0, .int 0, .int 2, .int 0, .int 0]), .inl (0, 128, .inl []), .inl (0, 128, .inl []), .inl (0, 128, .inl []), .inl (0, 128, .inl []), .inl (0, 128, .inl []), .inl (0, 128, .inl []), .inr (5, [.ref 61, .ref 62, .ref 63, .int 0]), .inl (0, 8, .inl []), .inl (0, 8, .inl []), .inl (0, 8, .inl []), .inr (6, [.ref 43, .ref 42, .ref 48, .ref 60, .ref 53, .ref 65, .ref 66, .int 0]), .inl (0, 150, .inl []), .inl (0, 150, .inl []), .inr (7, [.ref 42, .ref 48, .ref 60, .ref 53, .ref 68, .ref 69, .ref 70, .int 0, .ref 71, .ref 72, .int 0, .ref 73, .ref 74, .ref 75, .ref 76, .ref 77, .int 0]), .inl (0, 256, .inl []), .inl (0, 256, .inl []), .inl (0, 256, .inl []), .inl (0, 128, .inl []), .inl (0, 128, .inl []), .inl (0, 64, .inl []), .inl (0, 64, .inl []), .inl (0, 64, .inl []), .inl (0, 64, .inl []), .inl (0, 64, .inl []), .inr (8, [.ref 53, .ref 79, .int 0, .int 0, .ref 80, .int 0, .int 0, .int 0, .int 0, .int (-1), .int 0, .int 0, .int 0]), .inl (0, 256, .inl []), .inl (0, 256, .inl []), .inr (9, [.int 0, .ref 82, .ref 83, .ref 84, .ref 85, .int 0, .int 0, .int 0, .int 0, .int 0, .int 0, .int 0, .int (-1), .int 0, .ref 86, .ref 87, .ref 88, .ref 89, .ref 90, .int 0, .ref 91, .ref 92, .ref 93, .ref 94, .ref 95, .ref 96, .int 0, .int 0, .int 0, .ref 97, .ref 98, .ref 99, .ref 100, .ref 101, .ref 102, .ref 103, .ref 104, .ref 105, .ref 106, .ref 107, .ref 108, .ref 109, .ref 110, .ref 111, .ref 112, .ref 113, .ref 114, .ref 115, .ref 116, .ref 117, .ref 118, .ref 119, .int 0, .int 0, .int 0, .int 0, .ref 120, .ref 121, .ref 122, .ref 123, .ref 124, .ref 125, .ref 126, .ref 127, .ref 128, .ref 129, .ref 130, .ref 131, .ref 132, .ref 133, .ref 134, .ref 135, .ref 136, .int 0, .int 0, .int 0, .ref 137, .int 0, .ref 138, .ref 139, .ref 140, .ref 141, .int 0, .ref 142, .ref 143, .ref 144, .ref 145, .ref 146, .ref 147, .ref 148, .ref 149, .int 0, .int 0, .int 0, .int 0, .ref 150, .int 0, .int 0, .int 0, .int 0, .int 0, .int 0, .int 0, .int 0, .int 0, .int 0, .ref 151, .ref 152, .ref 153, .ref 154, .ref 155, .ref 156, .ref 157, .ref 158, .int 0, .ref 159, .ref 160, .ref 161, .ref 162, .ref 163, .ref 164, .ref 165, .int (-1)]), .inl (0, 20, .inl []), .inl (0, 1500, .inl []), .inl (0, 1500, .inl []), .inl (0, 82, .inl [(81, 0), (80, 116), (79, 105), (78, 110), (77, 117), (76, 0), (75, 108), (74, 111), (73, 111), (72, 98), (71, 0), (70, 116), (69, 110), (68, 105), (67, 0), (66, 101), (65, 115), (64, 108), (63, 97), (62, 102), (61, 0), (60, 101), (59, 117), (58, 114), (57, 116), (56, 0), (55, 100), (54, 110), (53, 101), (52, 0), (51, 110), (50, 114), (49, 117), (48, 116), (47, 101), (46, 114), (45, 0), (44, 104), (43, 116), (42, 105), (41, 119), (40, 0), (39, 101), (38, 108), (37, 100), (36, 110), (35, 97), (34, 104), (33, 0), (32, 110), (31, 102), (30, 0), (29, 101), (28, 115), (27, 108), (26, 101), (25, 0), (24, 110), (23, 101), (22, 104), (21, 116), (20, 0), (19, 102), (18, 105), (17, 0), (16, 110), (15, 105), (14, 0), (13, 99), (12, 101), (11, 114), (10, 0), (9, 116), (8, 101), (7, 108), (6, 0), (5, 116), (4, 99), (3, 101), (2, 102), (1, 102), (0, 101)]), .inl (0, 1500, .inl []), .inl (0, 1500, .inl []), .inl (0, 1500, .inl []), .inl (0, 8000, .inl []), .inl (3, 35200, .inr (.inl [])), .inl (0, 8, .inl []), .inl (0, 8, .inl []), .inl (0, 8, .inl []), .inl (0, 8, .inl []), .inl (0, 51, .inl []), .inl (2, 51, .inl []), .inl (0, 600, .inl []), .inl (0, 600, .inl []), .inl (0, 600, .inl []), .inl (0, 600, .inl []), .inl (0, 600, .inl []), .inl (0, 600, .inl []), .inl (0, 600, .inl []), .inl (0, 600, .inl []), .inl (0, 600, .inl []), .inl (0, 600, .inl []), .inl (0, 600, .inl []), .inl (0, 600, .inl []), .inl (0, 600, .inl []), .inl (0, 600, .inl []), .inl (0, 300, .inl []), .inl (0, 300, .inl []), .inl (0, 300, .inl []), .inl (0, 300, .inl []), .inl (0, 300, .inl []), .inl (0, 300, .inl []), .inl (0, 300, .inl []), .inl (0, 300, .inl []), .inl (0, 300, .inl []), .inl (0, 50, .inl []), .inl (0, 50, .inl []), .inl (0, 50, .inl []), .inl (0, 50, .inl []), .inl (0, 50, .inl []), .inl (0, 50, .inl []), .inl (0, 50, .inl []), .inl (0, 50, .inl []), .inl (0, 50, .inl []), .inl (0, 50, .inl []), .inl (0, 50, .inl []), .inl (0, 50, .inl []), .inl (0, 50, .inl []), .inl (0, 50, .inl []), .inl (0, 50, .inl []), .inl (0, 50, .inl []), .inl (2, 50, .inl []), .inl (0, 600, .inl []), .inl (0, 200000, .inl []), .inl (0, 200000, .inl []), .inl (0, 200000, .inl []), .inl (0, 200000, .inl []), .inl (0, 700, .inl []), .inl (0, 700, .inl []), .inl (0, 700, .inl []), .inl (0, 700, .inl []), .inl (0, 600, .inl []), .inl (0, 600, .inl []), .inl (0, 600, .inl []), .inl (0, 600, .inl []), .inl (3, 1500, .inr (.inl [])), .inl (0, 140000, .inl []), .inl (0, 140000, .inl []), .inl (0, 140000, .inl []), .inl (0, 140000, .inl []), .inl (0, 340000, .inl []), .inl (0, 340000, .inl []), .inl (0, 340000, .inl []), .inl (0, 340000, .inl []), .inl (0, 1001, .inl []), .inl (0, 1001, .inl []), .inl (0, 1001, .inl []), .inl (0, 1001, .inl []), .inl (0, 1001, .inl []), .inl (2, 1001, .inl []), .inl (2, 200000, .inl [])], 3005622)
def z_T3 : z_S := ([.inr (0, [.ref 41, .ref 42, .ref 43, .ref 48, .ref 53, .ref 64, .ref 67, .ref 78, .int 0]), .inl (1, 20, .inl []), .inr (1, [.int 0, .int (-1)]), .inr (2, [.ref 42, .ref 44, .int 0, .ref 45, .ref 46, .ref 47, .int 0, .int 0, .ref 0, .int 0, .int 0]), .inl (1, 1500, .inl []), .inl (4, 1501, .inr (.inr [])), .inl (0, 1501, .inl []), .inl (0, 1501, .inl []), .inr (3, [.ref 49, .ref 50, .ref 51, .ref 52, .int 3]), .inl (0, 64, .inl []), .inl (0, 64, .inl []), .inl (0, 64, .inl []), .inl (0, 64, .inl [(2, 1), (1, 1), (0, 1)]), .inr (4, [.ref 54, .ref 55, .ref 56, .ref 57, .ref 58, .ref 59, .int 0, .int 0, .int 2, .int 0, .int 0]), .inl (0, 128, .inl []), .inl (0, 128, .inl []), .inl (0, 128, .inl []), .inl (0, 128, .inl []), .inl (0, 128, .inl []), .inl (0, 128, .inl []), .inr (5, [.ref 61, .ref 62, .ref 63, .int 0]), .inl (0, 8, .inl []), .inl (0, 8, .inl []), .inl (0, 8, .inl []), .inr (6, [.ref 43, .ref 42, .ref 48, .ref 60, .ref 53, .ref 65, .ref 66, .int 0]), .inl (0, 150, .inl []), .inl (0, 150, .inl []), .inr (7, [.ref 42, .ref 48, .ref 60, .ref 53, .ref 68, .ref 69, .ref 70, .int 0, .ref 71, .ref 72, .int 0, .ref 73, .ref 74, .ref 75, .ref 76, .ref 77, .int 0]), .inl (0, 256, .inl []), .inl (0, 256, .inl []), .inl (0, 256, .inl []), .inl (0, 128, .inl []), .inl (0, 128, .inl []), .inl (0, 64, .inl []), .inl (0, 64, .inl []), .inl (0, 64, .inl []), .inl (0, 64, .inl []), .inl (0, 64, .inl []), .inr (8, [.ref 53, .ref 79, .int 0, .int 0, .ref 80, .int 0, .int 0, .int 0, .int 0, .int (-1), .int 0, .int 0, .int 0]), .inl (0, 256, .inl []), .inl (0, 256, .inl []), .inr (9, [.int 0, .ref 82, .ref 83, .ref 84, .ref 85, .int 0, .int 0, .int 0, .int 0, .int 0, .int 0, .int 0, .int (-1), .int 0, .ref 86, .ref 87, .ref 88, .ref 89, .ref 90, .int 0, .ref 91, .ref 92, .ref 93, .ref 94, .ref 95, .ref 96, .int 0, .int 0, .int 0, .ref 97, .ref 98, .ref 99, .ref 100, .ref 101, .ref 102, .ref 103, .ref 104, .ref 105, .ref 106, .ref 107, .ref 108, .ref 109, .ref 110, .ref 111, .ref 112, .ref 113, .ref 114, .ref 115, .ref 116, .ref 117, .ref 118, .ref 119, .int 0, .int 0, .int 0, .int 0, .ref 120, .ref 121, .ref 122, .ref 123, .ref 124, .ref 125, .ref 126, .ref 127, .ref 128, .ref 129, .ref 130, .ref 131, .ref 132, .ref 133, .ref 134, .ref 135, .ref 136, .int 0, .int 0, .int 0, .ref 137, .int 0, .ref 138, .ref 139, .ref 140, .ref 141, .int 0, .ref 142, .ref 143, .ref 144, .ref 145, .ref 146, .ref 147, .ref 148, .ref 149, .int 0, .int 0, .int 0, .int 0, .ref 150, .int 0, .int 0, .int 0, .int 0, .int 0, .int 0, .int 0, .int 0, .int 0, .int 0, .ref 151, .ref 152, .ref 153, .ref 154, .ref 155, .ref 156, .ref 157, .ref 158, .int 0, .ref 159, .ref 160, .ref 161, .ref 162, .ref 163, .ref 164, .ref 165, .int (-1)]), .inl (0, 20, .inl []), .inl (0, 1500, .inl []), .inl (0, 1500, .inl []), .inl (0, 82, .inl [(81, 0), (80, 116), (79, 105), (78, 110), (77, 117), (76, 0), (75, 108), (74, 111), (73, 111), (72, 98), (71, 0), (70, 116), (69, 110), (68, 105), (67, 0), (66, 101), (65, 115), (64, 108), (63, 97), (62, 102), (61, 0), (60, 101), (59, 117), (58, 114), (57, 116), (56, 0), (55, 100), (54, 110), (53, 101), (52, 0), (51, 110), (50, 114), (49, 117), (48, 116), (47, 101), (46, 114), (45, 0), (44, 104), (43, 116), (42, 105), (41, 119), (40, 0), (39, 101), (38, 108), (37, 100), (36, 110), (35, 97), (34, 104), (33, 0), (32, 110), (31, 102), (30, 0), (29, 101), (28, 115), (27, 108), (26, 101), (25, 0), (24, 110), (23, 101), (22, 104), (21, 116), (20, 0), (19, 102), (18, 105), (17, 0), (16, 110), (15, 105), (14, 0), (13, 99), (12, 101), (11, 114), (10, 0), (9, 116), (8, 101), (7, 108), (6, 0), (5, 116), (4, 99), (3, 101), (2, 102), (1, 102), (0, 101)]), .inl (0, 1500, .inl []), .inl (0, 1500, .inl []), .inl (0, 1500, .inl []), .inl (0, 8000, .inl []), .inl (3, 35200, .inr (.inl [])), .inl (0, 8, .inl []), .inl (0, 8, .inl []), .inl (0, 8, .inl []), .inl (0, 8, .inl []), .inl (0, 51, .inl []), .inl (2, 51, .inl []), .inl (0, 600, .inl []), .inl (0, 600, .inl []), .inl (0, 600, .inl []), .inl (0, 600, .inl []), .inl (0, 600, .inl []), .inl (0, 600, .inl []), .inl (0, 600, .inl []), .inl (0, 600, .inl []), .inl (0, 600, .inl []), .inl (0, 600, .inl []), .inl (0, 600, .inl []), .inl (0, 600, .inl []), .inl (0, 600, .inl []), .inl (0, 600, .inl []), .inl (0, 300, .inl []), .inl (0, 300, .inl []), .inl (0, 300, .inl []), .inl (0, 300, .inl []), .inl (0, 300, .inl []), .inl (0, 300, .inl []), .inl (0, 300, .inl []), .inl (0, 300, .inl []), .inl (0, 300, .inl []), .inl (0, 50, .inl []), .inl (0, 50, .inl []), .inl (0, 50, .inl []), .inl (0, 50, .inl []), .inl (0, 50, .inl []), .inl (0, 50, .inl []), .inl (0, 50, .inl []), .inl (0, 50, .inl []), .inl (0, 50, .inl []), .inl (0, 50, .inl []), .inl (0, 50, .inl []), .inl (0, 50, .inl []), .inl (0, 50, .inl []), .inl (0, 50, .inl []), .inl (0, 50, .inl []), .inl (0, 50, .inl []), .inl (2, 50, .inl []), .inl (0, 600, .inl []), .inl (0, 200000, .inl []), .inl (0, 200000, .inl []), .inl (0, 200000, .inl []), .inl (0, 200000, .inl []), .inl (0, 700, .inl []), .inl (0, 700, .inl []), .inl (0, 700, .inl []), .inl (0, 700, .inl []), .inl (0, 600, .inl []), .inl (0, 600, .inl []), .inl (0, 600, .inl []), .inl (0, 600, .inl []), .inl (3, 1500, .inr (.inl [])), .inl (0, 140000, .inl []), .inl (0, 140000, .inl []), .inl (0, 140000, .inl []), .inl (0, 140000, .inl []), .inl (0, 340000, .inl []), .inl (0, 340000, .inl []), .inl (0, 340000, .inl []), .inl (0, 340000, .inl []), .inl (0, 1001, .inl []), .inl (0, 1001, .inl []), .inl (0, 1001, .inl []), .inl (0, 1001, .inl []), .inl (0, 1001, .inl []), .inl (2, 1001, .inl []), .inl (2, 200000, .inl []), .inl (3, 1, .inr (.inl []))], 3005623)
set_option maxRecDepth 100000
def z_dC : DecidableEq z_C := inferInstance
def z_dE : DecidableEq z_E := @instDecidableEqSum _ _ (@instDecidableEqProd _ _ inferInstance (@instDecidableEqProd _ _ inferInstance z_dC)) inferInstance
def z_dS : DecidableEq z_S := @instDecidableEqProd _ _ (@instDecidableEqList _ z_dE) inferInstance
def z_dR : DecidableEq (z_O × z_S) := @instDecidableEqProd _ _ inferInstance z_dS
def z_eqR (a b : Option (z_O × z_S)) : Bool := match a, b with
  | some x, some y => @decide (x = y) (z_dR x y)
  | _, _ => false
theorem z_eqR_i {a b : Option (z_O × z_S)} (h : z_eqR a b = true) : a = b := by
  cases a with
  | none => cases h
  | some x =>
    cases b with
    | none => cases h
    | some y => exact congrArg some (@of_decide_eq_true _ (z_dR x y) h)
def z_dU : DecidableEq z_U := @instDecidableEqProd _ _ inferInstance (@instDecidableEqProd _ _ inferInstance (@instDecidableEqProd _ _ inferInstance z_dS))
def z_eqU (a b : Option z_U) : Bool := match a, b with
  | some x, some y => @decide (x = y) (z_dU x y)
  | _, _ => false
theorem z_eqU_i {a b : Option z_U} (h : z_eqU a b = true) : a = b := by
  cases a with
  | none => cases h
  | some x =>
    cases b with
    | none => cases h
    | some y => exact congrArg some (@of_decide_eq_true _ (z_dU x y) h)
theorem z_e1 : z_ev z_g0 z_pg z_b0 3000 2000 80000 1 0 (lv_args 0 [.ref 40]) [] ([.inr (0, z_born (z_fty 0) 9)], 9) = some (.inl none, z_T1) := z_eqR_i (by decide +kernel)
theorem z_e2 : z_ev z_g0 z_pg z_b0 3000 2000 80000 42 0 (lv_args 0 [.ref 81]) [] (z_T1.1 ++ [.inr (9, z_born (z_fty 9) 123)], z_T1.2 + 123) = some (.inl none, z_T2) := z_eqR_i (by decide +kernel)
def z_out (o : Option (z_O × z_S)) : z_S := match o with
  | some r => r.2
  | none => ([], 0)
def z_ans (o : Option (z_O × z_S)) : Option z_O := match o with
  | some r => some r.1
  | none => none
theorem z_out_ok {o : Option (z_O × z_S)} {a : z_O} (h : z_ans o = some a) : o = some (a, z_out o) := by
  cases o with
  | none => cases h
  | some r =>
    obtain ⟨x, S⟩ := r
    cases h
    rfl
def z_cal (mj : Nat) (as : List Value) (S : z_S) : Option (z_O × z_S) := z_ev z_g0 z_pg z_b0 3000 2000 80000 mj 0 (lv_args 0 as) [] S
/-- S1 stands behind S: it has not shrunk, there is room, and both objects are there -/
def z_ge (S S1 : z_S) : Bool := decide (S.1.length ≤ S1.1.length) && (decide (S.2 ≤ S1.2) && (decide (S1.1.length ≤ 600002) && (decide (S1.2 ≤ 7302232) && (decide (z_cls 40 S1 40 = some 0) && decide (z_cls 40 S1 81 = some 9)))))
/-- the class answers, then the reference, both with v -/
def z_two (mj mk : Nat) (as : List Value) (v : Value) : Bool := match z_cal mj (.ref 40 :: as) z_T3 with
  | some (.inl (some v1), S1) => decide (v1 = v) && (z_ge z_T3 S1 && (match z_cal mk (.ref 81 :: as) S1 with
    | some (.inl (some v2), S2) => decide (v2 = v) && z_ge S1 S2
    | _ => false))
  | _ => false
theorem z_two_i {mj mk : Nat} {as : List Value} {v : Value} (h : z_two mj mk as v = true) : ∃ S1 S2, z_cal mj (.ref 40 :: as) z_T3 = some (.inl (some v), S1) ∧ z_ge z_T3 S1 = true ∧ z_cal mk (.ref 81 :: as) S1 = some (.inl (some v), S2) ∧ z_ge S1 S2 = true := by
  unfold z_two at h
  split at h
  · rename_i v1 S1 h1
    rw [Bool.and_eq_true, Bool.and_eq_true] at h
    obtain ⟨h2, h3, h4⟩ := h
    split at h4
    · rename_i v2 S2 h5
      rw [Bool.and_eq_true] at h4
      have e1 := of_decide_eq_true h2
      have e2 := of_decide_eq_true h4.1
      subst e1
      subst e2
      exact ⟨S1, S2, h1, h3, h5, h4.2⟩
    · cases h4
  · cases h
theorem z_ke_0 : z_two 16 45 [.int (Int32.ofNat 0)] (.int (Int32.ofNat 0)) = true := by decide +kernel
theorem z_ke_1 : z_two 16 45 [.int (Int32.ofNat 1)] (.int (Int32.ofNat 1)) = true := by decide +kernel
theorem z_ke_2 : z_two 16 45 [.int (Int32.ofNat 2)] (.int (Int32.ofNat 2)) = true := by decide +kernel
theorem z_ke_3 : z_two 16 45 [.int (Int32.ofNat 3)] (.int (Int32.ofNat 3)) = true := by decide +kernel
theorem z_ke_4 : z_two 16 45 [.int (Int32.ofNat 4)] (.int (Int32.ofNat 4)) = true := by decide +kernel
theorem z_ke_5 : z_two 16 45 [.int (Int32.ofNat 5)] (.int (Int32.ofNat 5)) = true := by decide +kernel
theorem z_ke_6 : z_two 16 45 [.int (Int32.ofNat 6)] (.int (Int32.ofNat 6)) = true := by decide +kernel
theorem z_ke_7 : z_two 16 45 [.int (Int32.ofNat 7)] (.int (Int32.ofNat 7)) = true := by decide +kernel
theorem z_ke_8 : z_two 16 45 [.int (Int32.ofNat 8)] (.int (Int32.ofNat 8)) = true := by decide +kernel
theorem z_ke_9 : z_two 16 45 [.int (Int32.ofNat 9)] (.int (Int32.ofNat 9)) = true := by decide +kernel
theorem z_ke_10 : z_two 16 45 [.int (Int32.ofNat 10)] (.int (Int32.ofNat 10)) = true := by decide +kernel
theorem z_ke_11 : z_two 16 45 [.int (Int32.ofNat 11)] (.int (Int32.ofNat 11)) = true := by decide +kernel
theorem z_ke_12 : z_two 16 45 [.int (Int32.ofNat 12)] (.int (Int32.ofNat 12)) = true := by decide +kernel
theorem z_ke_13 : z_two 16 45 [.int (Int32.ofNat 13)] (.int (Int32.ofNat 13)) = true := by decide +kernel
theorem z_ke_14 : z_two 16 45 [.int (Int32.ofNat 14)] (.int (Int32.ofNat 14)) = true := by decide +kernel
theorem z_ke_15 : z_two 16 45 [.int (Int32.ofNat 15)] (.int (Int32.ofNat 15)) = true := by decide +kernel
theorem z_ke_16 : z_two 16 45 [.int (Int32.ofNat 16)] (.int (Int32.ofNat 16)) = true := by decide +kernel
theorem z_ke_17 : z_two 16 45 [.int (Int32.ofNat 17)] (.int (Int32.ofNat 17)) = true := by decide +kernel
theorem z_ke_18 : z_two 16 45 [.int (Int32.ofNat 18)] (.int (Int32.ofNat 18)) = true := by decide +kernel
theorem z_ke_19 : z_two 16 45 [.int (Int32.ofNat 19)] (.int (Int32.ofNat 19)) = true := by decide +kernel
theorem z_ke_20 : z_two 16 45 [.int (Int32.ofNat 20)] (.int (Int32.ofNat 20)) = true := by decide +kernel
theorem z_k_end (k : Nat) (hk : k < 21) : z_two 16 45 [.int (Int32.ofNat k)] (.int (Int32.ofNat k)) = true := match k, hk with
  | 0, _ => z_ke_0
  | 1, _ => z_ke_1
  | 2, _ => z_ke_2
  | 3, _ => z_ke_3
  | 4, _ => z_ke_4
  | 5, _ => z_ke_5
  | 6, _ => z_ke_6
  | 7, _ => z_ke_7
  | 8, _ => z_ke_8
  | 9, _ => z_ke_9
  | 10, _ => z_ke_10
  | 11, _ => z_ke_11
  | 12, _ => z_ke_12
  | 13, _ => z_ke_13
  | 14, _ => z_ke_14
  | 15, _ => z_ke_15
  | 16, _ => z_ke_16
  | 17, _ => z_ke_17
  | 18, _ => z_ke_18
  | 19, _ => z_ke_19
  | 20, _ => z_ke_20
  | n + 21, h => absurd h (by omega)
theorem z_k_f0 : z_two 19 57 [.int 0] (.int 0) = true := by decide +kernel
theorem z_k_f1 : z_two 19 57 [.int 1] (.int (-1)) = true := by decide +kernel
theorem z_k_ef : z_two 22 60 [.int (-1)] (.int (-1)) = true := by decide +kernel
theorem z_k_st : ∀ k, k < 6 → z_two 23 63 [.int (Int32.ofNat k)] (.int (if k = 5 then -1 else 0)) = true := by decide +kernel
/-- read -/
def z_Sr1 : z_S := z_out (z_cal 24 [.ref 40, .ref 166] z_T3)
def z_Sr2 : z_S := z_out (z_cal 46 [.ref 81] z_Sr1)
theorem z_k_r1 : (decide (z_ans (z_cal 24 [.ref 40, .ref 166] z_T3) = some (.inl (some (.int 1)))) && z_ge z_T3 z_Sr1) = true := by decide +kernel
theorem z_k_r2 : (decide (z_ans (z_cal 46 [.ref 81] z_Sr1) = some (.inl (some (.int 0)))) && z_ge z_Sr1 z_Sr2) = true := by decide +kernel
theorem z_k_r3 : z_cal 43 [.ref 81] z_Sr2 = some (.inl (some (.int 1)), z_Sr2) := z_eqR_i (by decide +kernel)
/-- start -/
def z_Ss1 : z_S := z_out (z_cal 38 [.ref 40] z_T3)
def z_Ss2 : z_S := z_out (z_cal 61 [.ref 81] z_Ss1)
theorem z_k_s1 : (decide (z_ans (z_cal 38 [.ref 40] z_T3) = some (.inl (some (.int 1)))) && z_ge z_T3 z_Ss1) = true := by decide +kernel
theorem z_k_s2 : (decide (z_ans (z_cal 61 [.ref 81] z_Ss1) = some (.inl none)) && z_ge z_Ss1 z_Ss2) = true := by decide +kernel
theorem z_k_s3 : z_cal 43 [.ref 81] z_Ss2 = some (.inl (some (.int 1)), z_Ss2) := z_eqR_i (by decide +kernel)
theorem z_ge_33 : z_ge z_T3 z_T3 = true := by decide +kernel
end
section
/-! Runs with numbers that are not known. -/
set_option maxRecDepth 100000
set_option maxHeartbeats 4000000
theorem z_y19 {L : Nat} {xs : Nat → Int32} {f w : Nat} {a : Int32} (h0 : ¬ a = 0) (h1 : ¬ a = 1) : z_Rn L xs f w 19 0 [(0, .ref 40), (1, .int a)] [] z_T3 (.inl (some (.int (-1))), z_T3) := by
  refine z_Rn.blk [(0, .iload_n 1, 1, []), (1, .ifCond .ne 11, 3, [12])] (pc' := (if z_f0 .ne a = true then 12 else 4)) (lv' := [(0, .ref 40), (1, .int a)]) (st' := []) (S' := z_T3) (by decide +kernel) rfl ?_
  refine z_Rn.brT (decide_eq_true h0) ?_
  refine z_Rn.blk [(12, .iload_n 1, 1, []), (13, .iconst 1, 1, []), (14, .if_icmp .ne 13, 3, [27])] (pc' := (if z_f2 .ne a 1 = true then 27 else 17)) (lv' := [(0, .ref 40), (1, .int a)]) (st' := []) (S' := z_T3) (by decide +kernel) rfl ?_
  refine z_Rn.brT (decide_eq_true h1) ?_
  refine z_Rn.blk [(27, .iconst (-1), 1, [])] (pc' := 28) (lv' := [(0, .ref 40), (1, .int a)]) (st' := [.int (-1)]) (S' := z_T3) (by decide +kernel) rfl ?_
  exact z_Rn.ret (i := .ireturn) (len := 1) (aux := []) (by decide +kernel) rfl
theorem z_y57 {L : Nat} {xs : Nat → Int32} {f w : Nat} {a : Int32} (h0 : ¬ a = 0) (h1 : ¬ a = 1) : z_Rn L xs f w 57 0 [(0, .ref 81), (1, .int a)] [] z_T3 (.inl (some (.int (-1))), z_T3) := by
  refine z_Rn.blk [(0, .aload_n 0, 1, []), (1, .iconst 0, 1, []), (2, .putfield 275, 3, [9, 0, 629]), (5, .iload_n 1, 1, []), (6, .ifCond .ne 10, 3, [16])] (pc' := (if z_f0 .ne a = true then 16 else 9)) (lv' := [(0, .ref 81), (1, .int a)]) (st' := []) (S' := z_T3) (by decide +kernel) rfl ?_
  refine z_Rn.brT (decide_eq_true h0) ?_
  refine z_Rn.blk [(16, .iload_n 1, 1, []), (17, .iconst 1, 1, []), (18, .if_icmp .ne 10, 3, [28])] (pc' := (if z_f2 .ne a 1 = true then 28 else 21)) (lv' := [(0, .ref 81), (1, .int a)]) (st' := []) (S' := z_T3) (by decide +kernel) rfl ?_
  refine z_Rn.brT (decide_eq_true h1) ?_
  refine z_Rn.blk [(28, .iconst (-1), 1, [])] (pc' := 29) (lv' := [(0, .ref 81), (1, .int a)]) (st' := [.int (-1)]) (S' := z_T3) (by decide +kernel) rfl ?_
  exact z_Rn.ret (i := .ireturn) (len := 1) (aux := []) (by decide +kernel) rfl
theorem z_y21 {L : Nat} {xs : Nat → Int32} {f w : Nat} {a : Int32} : z_Rn L xs f w 21 0 [(0, .ref 40), (1, .int a)] [] z_T3 (.inl (some (.int (-1))), z_T3) := by
  refine z_Rn.blk [(0, .aload_n 0, 1, []), (1, .getfield 73, 3, [0, 8, 405]), (4, .ifCond .eq 21, 3, [25]), (25, .iconst (-1), 1, [])] (pc' := 26) (lv' := [(0, .ref 40), (1, .int a)]) (st' := [.int (-1)]) (S' := z_T3) (by decide +kernel) rfl ?_
  exact z_Rn.ret (i := .ireturn) (len := 1) (aux := []) (by decide +kernel) rfl
theorem z_y59 {L : Nat} {xs : Nat → Int32} {f w : Nat} {a : Int32} : z_Rn L xs f w 59 0 [(0, .ref 81), (1, .int a)] [] z_T3 (.inl (some (.int (-1))), z_T3) := by
  refine z_Rn.blk [(0, .aload_n 0, 1, []), (1, .getfield 527, 3, [9, 91, 632]), (4, .ifCond .eq 22, 3, [26]), (26, .iconst (-1), 1, [])] (pc' := 27) (lv' := [(0, .ref 81), (1, .int a)]) (st' := [.int (-1)]) (S' := z_T3) (by decide +kernel) rfl ?_
  exact z_Rn.ret (i := .ireturn) (len := 1) (aux := []) (by decide +kernel) rfl
theorem z_y20 {L : Nat} {xs : Nat → Int32} {f w : Nat} (hf : 2 ≤ f) (hw : 100 ≤ w) {a : Int32} : z_Rn L xs f w 20 0 [(0, .ref 40), (1, .int a)] [] z_T3 (.inl (some (.int (-1))), z_T3) := by
  refine z_Rn.blk [(0, .aload_n 0, 1, []), (1, .iload_n 1, 1, [])] (pc' := 2) (lv' := [(0, .ref 40), (1, .int a)]) (st' := [.int a, .ref 40]) (S' := z_T3) (by decide +kernel) rfl ?_
  refine z_Rn.callv (idx := 123) (mj := 21) (na := 1) (q := 491) (b := 40) (as := [.int a]) (rr := []) (v := some (.int (-1))) (S1 := z_T3) (by decide +kernel) rfl (by decide +kernel) ⟨⟨by omega, show 19 + 2 ≤ w by omega⟩, Nat.le_of_ble_eq_true rfl, Nat.le_of_ble_eq_true rfl⟩ ⟨⟨by decide +kernel, by decide +kernel⟩, Nat.le_refl _, Nat.le_refl _⟩ z_y21 ?_
  refine z_Rn.blk [(5, .istore_n 2, 1, []), (6, .iload_n 2, 1, []), (7, .iconst (-1), 1, []), (8, .if_icmp .ne 5, 3, [13]), (11, .iconst (-1), 1, [])] (pc' := 12) (lv' := [(2, .int (-1)), (0, .ref 40), (1, .int a)]) (st' := [.int (-1)]) (S' := z_T3) (by decide +kernel) rfl ?_
  exact z_Rn.ret (i := .ireturn) (len := 1) (aux := []) (by decide +kernel) rfl
theorem z_y58 {L : Nat} {xs : Nat → Int32} {f w : Nat} (hf : 2 ≤ f) (hw : 100 ≤ w) {a : Int32} : z_Rn L xs f w 58 0 [(0, .ref 81), (1, .int a)] [] z_T3 (.inl (some (.int (-1))), z_T3) := by
  refine z_Rn.blk [(0, .aload_n 0, 1, []), (1, .iconst 0, 1, []), (2, .putfield 275, 3, [9, 0, 629]), (5, .aload_n 0, 1, []), (6, .iload_n 1, 1, [])] (pc' := 7) (lv' := [(0, .ref 81), (1, .int a)]) (st' := [.int a, .ref 81]) (S' := z_T3) (by decide +kernel) rfl ?_
  refine z_Rn.callv (idx := 551) (mj := 59) (na := 1) (q := 671) (b := 81) (as := [.int a]) (rr := []) (v := some (.int (-1))) (S1 := z_T3) (by decide +kernel) rfl (by decide +kernel) ⟨⟨by omega, show 19 + 5 ≤ w by omega⟩, Nat.le_of_ble_eq_true rfl, Nat.le_of_ble_eq_true rfl⟩ ⟨⟨by decide +kernel, by decide +kernel⟩, Nat.le_refl _, Nat.le_refl _⟩ z_y59 ?_
  refine z_Rn.blk [(10, .istore_n 2, 1, []), (11, .iload_n 2, 1, []), (12, .iconst 3, 1, []), (13, .if_icmp .ge 7, 3, [20]), (16, .iload_n 2, 1, []), (17, .goto 4, 3, [21])] (pc' := 21) (lv' := [(2, .int (-1)), (0, .ref 81), (1, .int a)]) (st' := [.int (-1)]) (S' := z_T3) (by decide +kernel) rfl ?_
  exact z_Rn.ret (i := .ireturn) (len := 1) (aux := []) (by decide +kernel) rfl
theorem z_y22 {L : Nat} {xs : Nat → Int32} {f w : Nat} (hf : 2 ≤ f) (hw : 100 ≤ w) {a : Int32} (h0 : ¬ a = (-1)) : z_Rn L xs f w 22 0 [(0, .ref 40), (1, .int a)] [] z_T3 (.inl (some (.int (-1))), z_T3) := by
  refine z_Rn.blk [(0, .iload_n 1, 1, []), (1, .iconst (-1), 1, []), (2, .if_icmp .ne 22, 3, [24])] (pc' := (if z_f2 .ne a ((-1)) = true then 24 else 5)) (lv' := [(0, .ref 40), (1, .int a)]) (st' := []) (S' := z_T3) (by decide +kernel) rfl ?_
  refine z_Rn.brT (decide_eq_true h0) ?_
  refine z_Rn.blk [(24, .aload_n 0, 1, []), (25, .iload_n 1, 1, [])] (pc' := 26) (lv' := [(0, .ref 40), (1, .int a)]) (st' := [.int a, .ref 40]) (S' := z_T3) (by decide +kernel) rfl ?_
  refine z_Rn.callv (idx := 123) (mj := 21) (na := 1) (q := 491) (b := 40) (as := [.int a]) (rr := []) (v := some (.int (-1))) (S1 := z_T3) (by decide +kernel) rfl (by decide +kernel) ⟨⟨by omega, show 19 + 2 ≤ w by omega⟩, Nat.le_of_ble_eq_true rfl, Nat.le_of_ble_eq_true rfl⟩ ⟨⟨by decide +kernel, by decide +kernel⟩, Nat.le_refl _, Nat.le_refl _⟩ z_y21 ?_
  refine z_Rn.blk [(29, .istore_n 2, 1, []), (30, .iload_n 2, 1, []), (31, .iconst (-1), 1, []), (32, .if_icmp .eq 25, 3, [57]), (57, .iconst (-1), 1, [])] (pc' := 58) (lv' := [(2, .int (-1)), (0, .ref 40), (1, .int a)]) (st' := [.int (-1)]) (S' := z_T3) (by decide +kernel) rfl ?_
  exact z_Rn.ret (i := .ireturn) (len := 1) (aux := []) (by decide +kernel) rfl
theorem z_y60 {L : Nat} {xs : Nat → Int32} {f w : Nat} (hf : 2 ≤ f) (hw : 100 ≤ w) {a : Int32} (h0 : ¬ a = (-1)) : z_Rn L xs f w 60 0 [(0, .ref 81), (1, .int a)] [] z_T3 (.inl (some (.int (-1))), z_T3) := by
  refine z_Rn.blk [(0, .aload_n 0, 1, []), (1, .iconst 0, 1, []), (2, .putfield 275, 3, [9, 0, 629]), (5, .iload_n 1, 1, []), (6, .iconst (-1), 1, []), (7, .if_icmp .ne 19, 3, [26])] (pc' := (if z_f2 .ne a ((-1)) = true then 26 else 10)) (lv' := [(0, .ref 81), (1, .int a)]) (st' := []) (S' := z_T3) (by decide +kernel) rfl ?_
  refine z_Rn.brT (decide_eq_true h0) ?_
  refine z_Rn.blk [(26, .aload_n 0, 1, []), (27, .iload_n 1, 1, [])] (pc' := 28) (lv' := [(0, .ref 81), (1, .int a)]) (st' := [.int a, .ref 81]) (S' := z_T3) (by decide +kernel) rfl ?_
  refine z_Rn.callv (idx := 551) (mj := 59) (na := 1) (q := 671) (b := 81) (as := [.int a]) (rr := []) (v := some (.int (-1))) (S1 := z_T3) (by decide +kernel) rfl (by decide +kernel) ⟨⟨by omega, show 19 + 5 ≤ w by omega⟩, Nat.le_of_ble_eq_true rfl, Nat.le_of_ble_eq_true rfl⟩ ⟨⟨by decide +kernel, by decide +kernel⟩, Nat.le_refl _, Nat.le_refl _⟩ z_y59 ?_
  refine z_Rn.blk [(31, .istore_n 2, 1, []), (32, .iload_n 2, 1, []), (33, .iconst 3, 1, []), (34, .if_icmp .ge 7, 3, [41]), (37, .iconst (-1), 1, []), (38, .goto 9, 3, [47])] (pc' := 47) (lv' := [(2, .int (-1)), (0, .ref 81), (1, .int a)]) (st' := [.int (-1)]) (S' := z_T3) (by decide +kernel) rfl ?_
  exact z_Rn.ret (i := .ireturn) (len := 1) (aux := []) (by decide +kernel) rfl
theorem z_y23 {L : Nat} {xs : Nat → Int32} {f w : Nat} {a : Int32} (h0 : a.toInt < 0 ∨ 5 < a.toInt) : z_Rn L xs f w 23 0 [(0, .ref 40), (1, .int a)] [] z_T3 (.inl (some (.int (-1))), z_T3) := by
  refine z_Rn.blk [(0, .iload_n 1, 1, [])] (pc' := 1) (lv' := [(0, .ref 40), (1, .int a)]) (st' := [.int a]) (S' := z_T3) (by decide +kernel) rfl ?_
  refine z_Rn.step (i := .tableswitch 87 0 5 #[39, 47, 55, 63, 71, 79]) (len := 39) (aux := [88, 40, 48, 56, 64, 72, 80]) (by decide +kernel) (by decide +kernel) (z_step_tab h0) ?_
  refine z_Rn.blk [(88, .iconst (-1), 1, [])] (pc' := 89) (lv' := [(0, .ref 40), (1, .int a)]) (st' := [.int (-1)]) (S' := z_T3) (by decide +kernel) rfl ?_
  exact z_Rn.ret (i := .ireturn) (len := 1) (aux := []) (by decide +kernel) rfl
theorem z_y63 {L : Nat} {xs : Nat → Int32} {f w : Nat} {a : Int32} (h0 : a.toInt < 0 ∨ 5 < a.toInt) : z_Rn L xs f w 63 0 [(0, .ref 81), (1, .int a)] [] z_T3 (.inl (some (.int (-1))), z_T3) := by
  refine z_Rn.blk [(0, .aload_n 0, 1, []), (1, .iconst 0, 1, []), (2, .putfield 275, 3, [9, 0, 629]), (5, .iload_n 1, 1, [])] (pc' := 6) (lv' := [(0, .ref 81), (1, .int a)]) (st' := [.int a]) (S' := z_T3) (by decide +kernel) rfl ?_
  refine z_Rn.step (i := .tableswitch 100 0 5 #[38, 43, 68, 73, 78, 83]) (len := 38) (aux := [106, 44, 49, 74, 79, 84, 89]) (by decide +kernel) (by decide +kernel) (z_step_tab h0) ?_
  refine z_Rn.blk [(106, .iconst (-1), 1, [])] (pc' := 107) (lv' := [(0, .ref 81), (1, .int a)]) (st' := [.int (-1)]) (S' := z_T3) (by decide +kernel) rfl ?_
  exact z_Rn.ret (i := .ireturn) (len := 1) (aux := []) (by decide +kernel) rfl
theorem z_y16a {L : Nat} {xs : Nat → Int32} {f w : Nat} {a : Int32} (h0 : a < 0) : z_Rn L xs f w 16 0 [(0, .ref 40), (1, .int a)] [] z_T3 (.inl (some (.int (-1))), z_T3) := by
  refine z_Rn.blk [(0, .iload_n 1, 1, []), (1, .ifCond .lt 24, 3, [25])] (pc' := (if z_f0 .lt a = true then 25 else 4)) (lv' := [(0, .ref 40), (1, .int a)]) (st' := []) (S' := z_T3) (by decide +kernel) rfl ?_
  refine z_Rn.brT (decide_eq_true h0) ?_
  refine z_Rn.blk [(25, .iconst (-1), 1, [])] (pc' := 26) (lv' := [(0, .ref 40), (1, .int a)]) (st' := [.int (-1)]) (S' := z_T3) (by decide +kernel) rfl ?_
  exact z_Rn.ret (i := .ireturn) (len := 1) (aux := []) (by decide +kernel) rfl
theorem z_y16b {L : Nat} {xs : Nat → Int32} {f w : Nat} {a : Int32} (h0 : ¬ a < 0) (h1 : 20 < a) : z_Rn L xs f w 16 0 [(0, .ref 40), (1, .int a)] [] z_T3 (.inl (some (.int (-1))), z_T3) := by
  refine z_Rn.blk [(0, .iload_n 1, 1, []), (1, .ifCond .lt 24, 3, [25])] (pc' := (if z_f0 .lt a = true then 25 else 4)) (lv' := [(0, .ref 40), (1, .int a)]) (st' := []) (S' := z_T3) (by decide +kernel) rfl ?_
  refine z_Rn.brF (decide_eq_false h0) ?_
  refine z_Rn.blk [(4, .iload_n 1, 1, []), (5, .bipush 20, 2, []), (7, .if_icmp .gt 18, 3, [25])] (pc' := (if z_f2 .gt a 20 = true then 25 else 10)) (lv' := [(0, .ref 40), (1, .int a)]) (st' := []) (S' := z_T3) (by decide +kernel) rfl ?_
  refine z_Rn.brT (decide_eq_true h1) ?_
  refine z_Rn.blk [(25, .iconst (-1), 1, [])] (pc' := 26) (lv' := [(0, .ref 40), (1, .int a)]) (st' := [.int (-1)]) (S' := z_T3) (by decide +kernel) rfl ?_
  exact z_Rn.ret (i := .ireturn) (len := 1) (aux := []) (by decide +kernel) rfl
theorem z_y45a {L : Nat} {xs : Nat → Int32} {f w : Nat} {a : Int32} (h0 : a < 0) : z_Rn L xs f w 45 0 [(0, .ref 81), (1, .int a)] [] z_T3 (.inl (some (.int (-1))), z_T3) := by
  refine z_Rn.blk [(0, .aload_n 0, 1, []), (1, .iconst 0, 1, []), (2, .putfield 275, 3, [9, 0, 629]), (5, .iload_n 1, 1, []), (6, .ifCond .lt 21, 3, [27])] (pc' := (if z_f0 .lt a = true then 27 else 9)) (lv' := [(0, .ref 81), (1, .int a)]) (st' := []) (S' := z_T3) (by decide +kernel) rfl ?_
  refine z_Rn.brT (decide_eq_true h0) ?_
  refine z_Rn.blk [(27, .iconst (-1), 1, [])] (pc' := 28) (lv' := [(0, .ref 81), (1, .int a)]) (st' := [.int (-1)]) (S' := z_T3) (by decide +kernel) rfl ?_
  exact z_Rn.ret (i := .ireturn) (len := 1) (aux := []) (by decide +kernel) rfl
theorem z_y45b {L : Nat} {xs : Nat → Int32} {f w : Nat} {a : Int32} (h0 : ¬ a < 0) (h1 : 20 < a) : z_Rn L xs f w 45 0 [(0, .ref 81), (1, .int a)] [] z_T3 (.inl (some (.int (-1))), z_T3) := by
  refine z_Rn.blk [(0, .aload_n 0, 1, []), (1, .iconst 0, 1, []), (2, .putfield 275, 3, [9, 0, 629]), (5, .iload_n 1, 1, []), (6, .ifCond .lt 21, 3, [27])] (pc' := (if z_f0 .lt a = true then 27 else 9)) (lv' := [(0, .ref 81), (1, .int a)]) (st' := []) (S' := z_T3) (by decide +kernel) rfl ?_
  refine z_Rn.brF (decide_eq_false h0) ?_
  refine z_Rn.blk [(9, .iload_n 1, 1, []), (10, .bipush 20, 2, []), (12, .if_icmp .gt 15, 3, [27])] (pc' := (if z_f2 .gt a 20 = true then 27 else 15)) (lv' := [(0, .ref 81), (1, .int a)]) (st' := []) (S' := z_T3) (by decide +kernel) rfl ?_
  refine z_Rn.brT (decide_eq_true h1) ?_
  refine z_Rn.blk [(27, .iconst (-1), 1, [])] (pc' := 28) (lv' := [(0, .ref 81), (1, .int a)]) (st' := [.int (-1)]) (S' := z_T3) (by decide +kernel) rfl ?_
  exact z_Rn.ret (i := .ireturn) (len := 1) (aux := []) (by decide +kernel) rfl
def z_T4 : z_S := (z_T3.1 ++ [.inr (11, [])], z_T3.2 + 6)
def z_T5 : z_S := (z_T4.1.set 41 (.inr (9, [.int 1, .ref 82, .ref 83, .ref 84, .ref 85, .int 0, .int 0, .int 0, .int 0, .int 0, .int 0, .int 0, .int (-1), .int 0, .ref 86, .ref 87, .ref 88, .ref 89, .ref 90, .int 0, .ref 91, .ref 92, .ref 93, .ref 94, .ref 95, .ref 96, .int 0, .int 0, .int 0, .ref 97, .ref 98, .ref 99, .ref 100, .ref 101, .ref 102, .ref 103, .ref 104, .ref 105, .ref 106, .ref 107, .ref 108, .ref 109, .ref 110, .ref 111, .ref 112, .ref 113, .ref 114, .ref 115, .ref 116, .ref 117, .ref 118, .ref 119, .int 0, .int 0, .int 0, .int 0, .ref 120, .ref 121, .ref 122, .ref 123, .ref 124, .ref 125, .ref 126, .ref 127, .ref 128, .ref 129, .ref 130, .ref 131, .ref 132, .ref 133, .ref 134, .ref 135, .ref 136, .int 0, .int 0, .int 0, .ref 137, .int 0, .ref 138, .ref 139, .ref 140, .ref 141, .int 0, .ref 142, .ref 143, .ref 144, .ref 145, .ref 146, .ref 147, .ref 148, .ref 149, .int 0, .int 0, .int 0, .int 0, .ref 150, .int 0, .int 0, .int 0, .int 0, .int 0, .int 0, .int 0, .int 0, .int 0, .int 0, .ref 151, .ref 152, .ref 153, .ref 154, .ref 155, .ref 156, .ref 157, .ref 158, .int 0, .ref 159, .ref 160, .ref 161, .ref 162, .ref 163, .ref 164, .ref 165, .int (-1)])), z_T4.2)
theorem z_len3 : z_T3.1.length = 127 := by decide +kernel
theorem z_y41 {L : Nat} {xs : Nat → Int32} {f w : Nat} (hf : 6 ≤ f) (hw : 150 ≤ w) {a : Int32} : z_Rn L xs f w 41 0 [(0, .ref 40), (1, .int a)] [] z_T3 (.inr 167, z_T4) := by
  have key : z_Rn L xs f w 41 0 [(0, .ref 40), (1, .int a)] [] z_T3 (.inr (40 + z_T3.1.length), (z_T3.1 ++ [.inr (11, [])], z_T3.2 + 6)) := by
    refine z_Rn.blk [(0, .aload_n 0, 1, []), (1, .getfield 69, 3, [0, 7, 404]), (4, .getfield 145, 3, [8, 7, 494]), (7, .ifCond .ne 13, 3, [20])] (pc' := 10) (lv' := [(0, .ref 40), (1, .int a)]) (st' := []) (S' := z_T3) (by decide +kernel) rfl ?_
    refine z_Rn.thr (idx := 137) (ci := 11) (q := 1) (by decide +kernel) ⟨⟨by omega, by omega, Nat.zero_le _⟩, by decide +kernel, by decide +kernel⟩ (by decide +kernel)
  rw [z_len3] at key
  exact key
theorem z_y40 {L : Nat} {xs : Nat → Int32} {f w : Nat} (hf : 10 ≤ f) (hw : 300 ≤ w) {a : Int32} : z_Rn L xs f w 40 0 [(0, .ref 40), (1, .int a), (2, .ref 166)] [] z_T3 (.inl (some (.int 1)), z_T4) := by
  refine z_Rn.blk [(0, .aload_n 2, 1, []), (1, .iconst 0, 1, []), (2, .aload_n 0, 1, []), (3, .iload_n 1, 1, [])] (pc' := 4) (lv' := [(0, .ref 40), (1, .int a), (2, .ref 166)]) (st' := [.int a, .ref 40, .int 0, .ref 166]) (S' := z_T3) (by decide +kernel) rfl ?_
  refine z_Rn.caught (i := .invokevirtual 20) (aux := [0, 41, 1, 537]) (mj := 41) (as := [.ref 40, .int a]) (rr := [.int 0, .ref 166]) (x := 167) (S1 := z_T4) (ci := 11) (hp := 12) (by decide +kernel) rfl (z_inv_v rfl (by decide +kernel)) ⟨⟨⟨by omega, show 19 + 2 ≤ w by omega⟩, Nat.le_of_ble_eq_true rfl, Nat.le_of_ble_eq_true rfl⟩, ⟨by decide +kernel, by decide +kernel⟩, by decide +kernel, by decide +kernel⟩ (z_y41 (by omega) (by show 150 ≤ w - (19 + 2); omega)) (by decide +kernel) (by decide +kernel) ?_
  refine z_Rn.blk [(12, .astore_n 3, 1, []), (13, .iconst 1, 1, [])] (pc' := 14) (lv' := [(3, .ref 167), (0, .ref 40), (1, .int a), (2, .ref 166)]) (st' := [.int 1]) (S' := z_T4) (by decide +kernel) rfl ?_
  exact z_Rn.ret (i := .ireturn) (len := 1) (aux := []) (by decide +kernel) rfl
theorem z_y62 {L : Nat} {xs : Nat → Int32} {f w : Nat} {a : Int32} : z_Rn L xs f w 62 0 [(0, .ref 81), (1, .int a)] [] z_T4 (.inl (some (.int 0)), z_T5) := by
  refine z_Rn.blk [(0, .aload_n 0, 1, []), (1, .aload_n 0, 1, []), (2, .getfield 531, 3, [9, 94, 633]), (5, .ifCond .ne 7, 3, [12]), (8, .iconst 1, 1, []), (9, .goto 19, 3, [28]), (28, .putfield 275, 3, [9, 0, 629]), (31, .aload_n 0, 1, []), (32, .getfield 275, 3, [9, 0, 629]), (35, .ifCond .le 5, 3, [40]), (38, .iconst 0, 1, [])] (pc' := 39) (lv' := [(0, .ref 81), (1, .int a)]) (st' := [.int 0]) (S' := z_T5) (by decide +kernel) rfl ?_
  exact z_Rn.ret (i := .ireturn) (len := 1) (aux := []) (by decide +kernel) rfl
theorem z_y43 {L : Nat} {xs : Nat → Int32} {f w : Nat} : z_Rn L xs f w 43 0 [(0, .ref 81)] [] z_T5 (.inl (some (.int 1)), z_T5) := by
  refine z_Rn.blk [(0, .aload_n 0, 1, []), (1, .getfield 275, 3, [9, 0, 629])] (pc' := 4) (lv' := [(0, .ref 81)]) (st' := [.int 1]) (S' := z_T5) (by decide +kernel) rfl ?_
  exact z_Rn.ret (i := .ireturn) (len := 1) (aux := []) (by decide +kernel) rfl
end
section
/-! The law over every script of at most six numbers. -/
set_option maxRecDepth 100000
set_option maxHeartbeats 4000000
def z_F (l : List (Nat × Int32)) : z_S := (z_T3.1.set 1 (.inl (1, 20, .inl l)), z_T3.2)
def z_Mm (l m : List (Nat × Int32)) : z_S := ((z_T3.1.set 1 (.inl (1, 20, .inl l))).set 42 (.inl (0, 20, .inl m)), z_T3.2)
theorem z_s3 : z_T3.2 ≤ 7302232 := by decide +kernel
theorem z_Fl (l : List (Nat × Int32)) : (z_F l).1.length = 127 := by
  show (z_T3.1.set 1 _).length = 127
  rw [List.length_set]
  exact z_len3
theorem z_Ml (l m : List (Nat × Int32)) : (z_Mm l m).1.length = 127 := by
  show ((z_T3.1.set 1 _).set 42 _).length = 127
  rw [List.length_set, List.length_set]
  exact z_len3
theorem z_Fok (l l' : List (Nat × Int32)) : ((z_F l).1.length ≤ 600002 ∧ (z_F l).2 ≤ 7302232) ∧ (z_F l).1.length ≤ (z_F l').1.length ∧ (z_F l).2 ≤ (z_F l').2 := ⟨⟨by rw [z_Fl]; decide, z_s3⟩, by rw [z_Fl, z_Fl]; exact Nat.le_refl _, Nat.le_refl _⟩
theorem z_FMok (l l' m : List (Nat × Int32)) : ((z_F l).1.length ≤ 600002 ∧ (z_F l).2 ≤ 7302232) ∧ (z_F l).1.length ≤ (z_Mm l' m).1.length ∧ (z_F l).2 ≤ (z_Mm l' m).2 := ⟨⟨by rw [z_Fl]; decide, z_s3⟩, by rw [z_Fl, z_Ml]; exact Nat.le_refl _, Nat.le_refl _⟩
theorem z_y15_0 {L : Nat} {xs : Nat → Int32} {f w : Nat} (x : Int32) (l : List (Nat × Int32)) : ∃ l', z_Rn L xs f w 15 0 [(0, .ref 40), (1, .int 0), (2, .int x)] [] (z_F l) (.inl none, z_F l') := by
  exact ⟨_, z_Rn.blk [(0, .iconst 0, 1, []), (1, .istore_n 3, 1, []), (2, .iload_n 3, 1, []), (3, .iconst 4, 1, []), (4, .if_icmp .ge 27, 3, [31]), (7, .aload_n 0, 1, []), (8, .getfield 9, 3, [0, 0, 381]), (11, .iload_n 1, 1, []), (12, .iload_n 3, 1, []), (13, .iadd, 1, []), (14, .iload_n 2, 1, []), (15, .bipush 24, 2, []), (17, .bipush 8, 2, []), (19, .iload_n 3, 1, []), (20, .imul, 1, []), (21, .isub, 1, []), (22, .iushr, 1, []), (23, .i2b, 1, []), (24, .bastore, 1, []), (25, .iinc 3 1, 3, []), (28, .goto (-26), 3, [2]), (2, .iload_n 3, 1, []), (3, .iconst 4, 1, []), (4, .if_icmp .ge 27, 3, [31]), (7, .aload_n 0, 1, []), (8, .getfield 9, 3, [0, 0, 381]), (11, .iload_n 1, 1, []), (12, .iload_n 3, 1, []), (13, .iadd, 1, []), (14, .iload_n 2, 1, []), (15, .bipush 24, 2, []), (17, .bipush 8, 2, []), (19, .iload_n 3, 1, []), (20, .imul, 1, []), (21, .isub, 1, []), (22, .iushr, 1, []), (23, .i2b, 1, []), (24, .bastore, 1, []), (25, .iinc 3 1, 3, []), (28, .goto (-26), 3, [2]), (2, .iload_n 3, 1, []), (3, .iconst 4, 1, []), (4, .if_icmp .ge 27, 3, [31]), (7, .aload_n 0, 1, []), (8, .getfield 9, 3, [0, 0, 381]), (11, .iload_n 1, 1, []), (12, .iload_n 3, 1, []), (13, .iadd, 1, []), (14, .iload_n 2, 1, []), (15, .bipush 24, 2, []), (17, .bipush 8, 2, []), (19, .iload_n 3, 1, []), (20, .imul, 1, []), (21, .isub, 1, []), (22, .iushr, 1, []), (23, .i2b, 1, []), (24, .bastore, 1, []), (25, .iinc 3 1, 3, []), (28, .goto (-26), 3, [2]), (2, .iload_n 3, 1, []), (3, .iconst 4, 1, []), (4, .if_icmp .ge 27, 3, [31]), (7, .aload_n 0, 1, []), (8, .getfield 9, 3, [0, 0, 381]), (11, .iload_n 1, 1, []), (12, .iload_n 3, 1, []), (13, .iadd, 1, []), (14, .iload_n 2, 1, []), (15, .bipush 24, 2, []), (17, .bipush 8, 2, []), (19, .iload_n 3, 1, []), (20, .imul, 1, []), (21, .isub, 1, []), (22, .iushr, 1, []), (23, .i2b, 1, []), (24, .bastore, 1, []), (25, .iinc 3 1, 3, []), (28, .goto (-26), 3, [2]), (2, .iload_n 3, 1, []), (3, .iconst 4, 1, []), (4, .if_icmp .ge 27, 3, [31])] (pc' := 31) (lv' := [(3, .int 4), (0, .ref 40), (1, .int 0), (2, .int x)]) (st' := []) (S' := z_F _) (by decide +kernel) rfl (z_Rn.ret (mi := 15) (pc := 31) (i := .return_) (len := 1) (aux := []) (by decide +kernel) rfl)⟩
theorem z_y15_4 {L : Nat} {xs : Nat → Int32} {f w : Nat} (x : Int32) (l : List (Nat × Int32)) : ∃ l', z_Rn L xs f w 15 0 [(0, .ref 40), (1, .int 4), (2, .int x)] [] (z_F l) (.inl none, z_F l') := by
  exact ⟨_, z_Rn.blk [(0, .iconst 0, 1, []), (1, .istore_n 3, 1, []), (2, .iload_n 3, 1, []), (3, .iconst 4, 1, []), (4, .if_icmp .ge 27, 3, [31]), (7, .aload_n 0, 1, []), (8, .getfield 9, 3, [0, 0, 381]), (11, .iload_n 1, 1, []), (12, .iload_n 3, 1, []), (13, .iadd, 1, []), (14, .iload_n 2, 1, []), (15, .bipush 24, 2, []), (17, .bipush 8, 2, []), (19, .iload_n 3, 1, []), (20, .imul, 1, []), (21, .isub, 1, []), (22, .iushr, 1, []), (23, .i2b, 1, []), (24, .bastore, 1, []), (25, .iinc 3 1, 3, []), (28, .goto (-26), 3, [2]), (2, .iload_n 3, 1, []), (3, .iconst 4, 1, []), (4, .if_icmp .ge 27, 3, [31]), (7, .aload_n 0, 1, []), (8, .getfield 9, 3, [0, 0, 381]), (11, .iload_n 1, 1, []), (12, .iload_n 3, 1, []), (13, .iadd, 1, []), (14, .iload_n 2, 1, []), (15, .bipush 24, 2, []), (17, .bipush 8, 2, []), (19, .iload_n 3, 1, []), (20, .imul, 1, []), (21, .isub, 1, []), (22, .iushr, 1, []), (23, .i2b, 1, []), (24, .bastore, 1, []), (25, .iinc 3 1, 3, []), (28, .goto (-26), 3, [2]), (2, .iload_n 3, 1, []), (3, .iconst 4, 1, []), (4, .if_icmp .ge 27, 3, [31]), (7, .aload_n 0, 1, []), (8, .getfield 9, 3, [0, 0, 381]), (11, .iload_n 1, 1, []), (12, .iload_n 3, 1, []), (13, .iadd, 1, []), (14, .iload_n 2, 1, []), (15, .bipush 24, 2, []), (17, .bipush 8, 2, []), (19, .iload_n 3, 1, []), (20, .imul, 1, []), (21, .isub, 1, []), (22, .iushr, 1, []), (23, .i2b, 1, []), (24, .bastore, 1, []), (25, .iinc 3 1, 3, []), (28, .goto (-26), 3, [2]), (2, .iload_n 3, 1, []), (3, .iconst 4, 1, []), (4, .if_icmp .ge 27, 3, [31]), (7, .aload_n 0, 1, []), (8, .getfield 9, 3, [0, 0, 381]), (11, .iload_n 1, 1, []), (12, .iload_n 3, 1, []), (13, .iadd, 1, []), (14, .iload_n 2, 1, []), (15, .bipush 24, 2, []), (17, .bipush 8, 2, []), (19, .iload_n 3, 1, []), (20, .imul, 1, []), (21, .isub, 1, []), (22, .iushr, 1, []), (23, .i2b, 1, []), (24, .bastore, 1, []), (25, .iinc 3 1, 3, []), (28, .goto (-26), 3, [2]), (2, .iload_n 3, 1, []), (3, .iconst 4, 1, []), (4, .if_icmp .ge 27, 3, [31])] (pc' := 31) (lv' := [(3, .int 4), (0, .ref 40), (1, .int 4), (2, .int x)]) (st' := []) (S' := z_F _) (by decide +kernel) rfl (z_Rn.ret (mi := 15) (pc := 31) (i := .return_) (len := 1) (aux := []) (by decide +kernel) rfl)⟩
theorem z_y15_8 {L : Nat} {xs : Nat → Int32} {f w : Nat} (x : Int32) (l : List (Nat × Int32)) : ∃ l', z_Rn L xs f w 15 0 [(0, .ref 40), (1, .int 8), (2, .int x)] [] (z_F l) (.inl none, z_F l') := by
  exact ⟨_, z_Rn.blk [(0, .iconst 0, 1, []), (1, .istore_n 3, 1, []), (2, .iload_n 3, 1, []), (3, .iconst 4, 1, []), (4, .if_icmp .ge 27, 3, [31]), (7, .aload_n 0, 1, []), (8, .getfield 9, 3, [0, 0, 381]), (11, .iload_n 1, 1, []), (12, .iload_n 3, 1, []), (13, .iadd, 1, []), (14, .iload_n 2, 1, []), (15, .bipush 24, 2, []), (17, .bipush 8, 2, []), (19, .iload_n 3, 1, []), (20, .imul, 1, []), (21, .isub, 1, []), (22, .iushr, 1, []), (23, .i2b, 1, []), (24, .bastore, 1, []), (25, .iinc 3 1, 3, []), (28, .goto (-26), 3, [2]), (2, .iload_n 3, 1, []), (3, .iconst 4, 1, []), (4, .if_icmp .ge 27, 3, [31]), (7, .aload_n 0, 1, []), (8, .getfield 9, 3, [0, 0, 381]), (11, .iload_n 1, 1, []), (12, .iload_n 3, 1, []), (13, .iadd, 1, []), (14, .iload_n 2, 1, []), (15, .bipush 24, 2, []), (17, .bipush 8, 2, []), (19, .iload_n 3, 1, []), (20, .imul, 1, []), (21, .isub, 1, []), (22, .iushr, 1, []), (23, .i2b, 1, []), (24, .bastore, 1, []), (25, .iinc 3 1, 3, []), (28, .goto (-26), 3, [2]), (2, .iload_n 3, 1, []), (3, .iconst 4, 1, []), (4, .if_icmp .ge 27, 3, [31]), (7, .aload_n 0, 1, []), (8, .getfield 9, 3, [0, 0, 381]), (11, .iload_n 1, 1, []), (12, .iload_n 3, 1, []), (13, .iadd, 1, []), (14, .iload_n 2, 1, []), (15, .bipush 24, 2, []), (17, .bipush 8, 2, []), (19, .iload_n 3, 1, []), (20, .imul, 1, []), (21, .isub, 1, []), (22, .iushr, 1, []), (23, .i2b, 1, []), (24, .bastore, 1, []), (25, .iinc 3 1, 3, []), (28, .goto (-26), 3, [2]), (2, .iload_n 3, 1, []), (3, .iconst 4, 1, []), (4, .if_icmp .ge 27, 3, [31]), (7, .aload_n 0, 1, []), (8, .getfield 9, 3, [0, 0, 381]), (11, .iload_n 1, 1, []), (12, .iload_n 3, 1, []), (13, .iadd, 1, []), (14, .iload_n 2, 1, []), (15, .bipush 24, 2, []), (17, .bipush 8, 2, []), (19, .iload_n 3, 1, []), (20, .imul, 1, []), (21, .isub, 1, []), (22, .iushr, 1, []), (23, .i2b, 1, []), (24, .bastore, 1, []), (25, .iinc 3 1, 3, []), (28, .goto (-26), 3, [2]), (2, .iload_n 3, 1, []), (3, .iconst 4, 1, []), (4, .if_icmp .ge 27, 3, [31])] (pc' := 31) (lv' := [(3, .int 4), (0, .ref 40), (1, .int 8), (2, .int x)]) (st' := []) (S' := z_F _) (by decide +kernel) rfl (z_Rn.ret (mi := 15) (pc := 31) (i := .return_) (len := 1) (aux := []) (by decide +kernel) rfl)⟩
theorem z_y15_12 {L : Nat} {xs : Nat → Int32} {f w : Nat} (x : Int32) (l : List (Nat × Int32)) : ∃ l', z_Rn L xs f w 15 0 [(0, .ref 40), (1, .int 12), (2, .int x)] [] (z_F l) (.inl none, z_F l') := by
  exact ⟨_, z_Rn.blk [(0, .iconst 0, 1, []), (1, .istore_n 3, 1, []), (2, .iload_n 3, 1, []), (3, .iconst 4, 1, []), (4, .if_icmp .ge 27, 3, [31]), (7, .aload_n 0, 1, []), (8, .getfield 9, 3, [0, 0, 381]), (11, .iload_n 1, 1, []), (12, .iload_n 3, 1, []), (13, .iadd, 1, []), (14, .iload_n 2, 1, []), (15, .bipush 24, 2, []), (17, .bipush 8, 2, []), (19, .iload_n 3, 1, []), (20, .imul, 1, []), (21, .isub, 1, []), (22, .iushr, 1, []), (23, .i2b, 1, []), (24, .bastore, 1, []), (25, .iinc 3 1, 3, []), (28, .goto (-26), 3, [2]), (2, .iload_n 3, 1, []), (3, .iconst 4, 1, []), (4, .if_icmp .ge 27, 3, [31]), (7, .aload_n 0, 1, []), (8, .getfield 9, 3, [0, 0, 381]), (11, .iload_n 1, 1, []), (12, .iload_n 3, 1, []), (13, .iadd, 1, []), (14, .iload_n 2, 1, []), (15, .bipush 24, 2, []), (17, .bipush 8, 2, []), (19, .iload_n 3, 1, []), (20, .imul, 1, []), (21, .isub, 1, []), (22, .iushr, 1, []), (23, .i2b, 1, []), (24, .bastore, 1, []), (25, .iinc 3 1, 3, []), (28, .goto (-26), 3, [2]), (2, .iload_n 3, 1, []), (3, .iconst 4, 1, []), (4, .if_icmp .ge 27, 3, [31]), (7, .aload_n 0, 1, []), (8, .getfield 9, 3, [0, 0, 381]), (11, .iload_n 1, 1, []), (12, .iload_n 3, 1, []), (13, .iadd, 1, []), (14, .iload_n 2, 1, []), (15, .bipush 24, 2, []), (17, .bipush 8, 2, []), (19, .iload_n 3, 1, []), (20, .imul, 1, []), (21, .isub, 1, []), (22, .iushr, 1, []), (23, .i2b, 1, []), (24, .bastore, 1, []), (25, .iinc 3 1, 3, []), (28, .goto (-26), 3, [2]), (2, .iload_n 3, 1, []), (3, .iconst 4, 1, []), (4, .if_icmp .ge 27, 3, [31]), (7, .aload_n 0, 1, []), (8, .getfield 9, 3, [0, 0, 381]), (11, .iload_n 1, 1, []), (12, .iload_n 3, 1, []), (13, .iadd, 1, []), (14, .iload_n 2, 1, []), (15, .bipush 24, 2, []), (17, .bipush 8, 2, []), (19, .iload_n 3, 1, []), (20, .imul, 1, []), (21, .isub, 1, []), (22, .iushr, 1, []), (23, .i2b, 1, []), (24, .bastore, 1, []), (25, .iinc 3 1, 3, []), (28, .goto (-26), 3, [2]), (2, .iload_n 3, 1, []), (3, .iconst 4, 1, []), (4, .if_icmp .ge 27, 3, [31])] (pc' := 31) (lv' := [(3, .int 4), (0, .ref 40), (1, .int 12), (2, .int x)]) (st' := []) (S' := z_F _) (by decide +kernel) rfl (z_Rn.ret (mi := 15) (pc := 31) (i := .return_) (len := 1) (aux := []) (by decide +kernel) rfl)⟩
theorem z_y15_16 {L : Nat} {xs : Nat → Int32} {f w : Nat} (x : Int32) (l : List (Nat × Int32)) : ∃ l', z_Rn L xs f w 15 0 [(0, .ref 40), (1, .int 16), (2, .int x)] [] (z_F l) (.inl none, z_F l') := by
  exact ⟨_, z_Rn.blk [(0, .iconst 0, 1, []), (1, .istore_n 3, 1, []), (2, .iload_n 3, 1, []), (3, .iconst 4, 1, []), (4, .if_icmp .ge 27, 3, [31]), (7, .aload_n 0, 1, []), (8, .getfield 9, 3, [0, 0, 381]), (11, .iload_n 1, 1, []), (12, .iload_n 3, 1, []), (13, .iadd, 1, []), (14, .iload_n 2, 1, []), (15, .bipush 24, 2, []), (17, .bipush 8, 2, []), (19, .iload_n 3, 1, []), (20, .imul, 1, []), (21, .isub, 1, []), (22, .iushr, 1, []), (23, .i2b, 1, []), (24, .bastore, 1, []), (25, .iinc 3 1, 3, []), (28, .goto (-26), 3, [2]), (2, .iload_n 3, 1, []), (3, .iconst 4, 1, []), (4, .if_icmp .ge 27, 3, [31]), (7, .aload_n 0, 1, []), (8, .getfield 9, 3, [0, 0, 381]), (11, .iload_n 1, 1, []), (12, .iload_n 3, 1, []), (13, .iadd, 1, []), (14, .iload_n 2, 1, []), (15, .bipush 24, 2, []), (17, .bipush 8, 2, []), (19, .iload_n 3, 1, []), (20, .imul, 1, []), (21, .isub, 1, []), (22, .iushr, 1, []), (23, .i2b, 1, []), (24, .bastore, 1, []), (25, .iinc 3 1, 3, []), (28, .goto (-26), 3, [2]), (2, .iload_n 3, 1, []), (3, .iconst 4, 1, []), (4, .if_icmp .ge 27, 3, [31]), (7, .aload_n 0, 1, []), (8, .getfield 9, 3, [0, 0, 381]), (11, .iload_n 1, 1, []), (12, .iload_n 3, 1, []), (13, .iadd, 1, []), (14, .iload_n 2, 1, []), (15, .bipush 24, 2, []), (17, .bipush 8, 2, []), (19, .iload_n 3, 1, []), (20, .imul, 1, []), (21, .isub, 1, []), (22, .iushr, 1, []), (23, .i2b, 1, []), (24, .bastore, 1, []), (25, .iinc 3 1, 3, []), (28, .goto (-26), 3, [2]), (2, .iload_n 3, 1, []), (3, .iconst 4, 1, []), (4, .if_icmp .ge 27, 3, [31]), (7, .aload_n 0, 1, []), (8, .getfield 9, 3, [0, 0, 381]), (11, .iload_n 1, 1, []), (12, .iload_n 3, 1, []), (13, .iadd, 1, []), (14, .iload_n 2, 1, []), (15, .bipush 24, 2, []), (17, .bipush 8, 2, []), (19, .iload_n 3, 1, []), (20, .imul, 1, []), (21, .isub, 1, []), (22, .iushr, 1, []), (23, .i2b, 1, []), (24, .bastore, 1, []), (25, .iinc 3 1, 3, []), (28, .goto (-26), 3, [2]), (2, .iload_n 3, 1, []), (3, .iconst 4, 1, []), (4, .if_icmp .ge 27, 3, [31])] (pc' := 31) (lv' := [(3, .int 4), (0, .ref 40), (1, .int 16), (2, .int x)]) (st' := []) (S' := z_F _) (by decide +kernel) rfl (z_Rn.ret (mi := 15) (pc := 31) (i := .return_) (len := 1) (aux := []) (by decide +kernel) rfl)⟩
theorem z_y14 {L : Nat} {xs : Nat → Int32} {f w : Nat} (hf : 2 ≤ f) (hw : 100 ≤ w) (a b c d e : Int32) : ∃ l', z_Rn L xs f w 14 0 [(0, .ref 40), (1, .int a), (2, .int b), (3, .int c), (4, .int d), (5, .int e)] [] (z_F []) (.inl none, z_F l') := by
  obtain ⟨l0, h0⟩ := z_y15_0 (L := L) (xs := xs) (f := f - 1) (w := w - (19 + z_ml 15)) a []
  obtain ⟨l1, h1⟩ := z_y15_4 (L := L) (xs := xs) (f := f - 1) (w := w - (19 + z_ml 15)) b l0
  obtain ⟨l2, h2⟩ := z_y15_8 (L := L) (xs := xs) (f := f - 1) (w := w - (19 + z_ml 15)) c l1
  obtain ⟨l3, h3⟩ := z_y15_12 (L := L) (xs := xs) (f := f - 1) (w := w - (19 + z_ml 15)) d l2
  obtain ⟨l4, h4⟩ := z_y15_16 (L := L) (xs := xs) (f := f - 1) (w := w - (19 + z_ml 15)) e l3
  refine ⟨l4, ?_⟩
  refine z_Rn.blk [(0, .aload_n 0, 1, []), (1, .iconst 0, 1, []), (2, .iload_n 1, 1, [])] (pc' := 3) (lv' := [(0, .ref 40), (1, .int a), (2, .int b), (3, .int c), (4, .int d), (5, .int e)]) (st' := [.int a, .int 0, .ref 40]) (S' := z_F []) (by decide +kernel) rfl ?_
  refine z_Rn.callv (idx := 77) (mj := 15) (na := 2) (q := 484) (b := 40) (as := [.int 0, .int a]) (rr := []) (v := none) (S1 := z_F l0) (by decide +kernel) rfl rfl ⟨⟨by omega, show 19 + 4 ≤ w by omega⟩, Nat.le_of_ble_eq_true rfl, Nat.le_of_ble_eq_true rfl⟩ (z_Fok _ _) h0 ?_
  refine z_Rn.blk [(6, .aload_n 0, 1, []), (7, .iconst 4, 1, []), (8, .iload_n 2, 1, [])] (pc' := 9) (lv' := [(0, .ref 40), (1, .int a), (2, .int b), (3, .int c), (4, .int d), (5, .int e)]) (st' := [.int b, .int 4, .ref 40]) (S' := z_F l0) (by decide +kernel) rfl ?_
  refine z_Rn.callv (idx := 77) (mj := 15) (na := 2) (q := 484) (b := 40) (as := [.int 4, .int b]) (rr := []) (v := none) (S1 := z_F l1) (by decide +kernel) rfl rfl ⟨⟨by omega, show 19 + 4 ≤ w by omega⟩, Nat.le_of_ble_eq_true rfl, Nat.le_of_ble_eq_true rfl⟩ (z_Fok _ _) h1 ?_
  refine z_Rn.blk [(12, .aload_n 0, 1, []), (13, .bipush 8, 2, []), (15, .iload_n 3, 1, [])] (pc' := 16) (lv' := [(0, .ref 40), (1, .int a), (2, .int b), (3, .int c), (4, .int d), (5, .int e)]) (st' := [.int c, .int 8, .ref 40]) (S' := z_F l1) (by decide +kernel) rfl ?_
  refine z_Rn.callv (idx := 77) (mj := 15) (na := 2) (q := 484) (b := 40) (as := [.int 8, .int c]) (rr := []) (v := none) (S1 := z_F l2) (by decide +kernel) rfl rfl ⟨⟨by omega, show 19 + 4 ≤ w by omega⟩, Nat.le_of_ble_eq_true rfl, Nat.le_of_ble_eq_true rfl⟩ (z_Fok _ _) h2 ?_
  refine z_Rn.blk [(19, .aload_n 0, 1, []), (20, .bipush 12, 2, []), (22, .iload 4, 2, [])] (pc' := 24) (lv' := [(0, .ref 40), (1, .int a), (2, .int b), (3, .int c), (4, .int d), (5, .int e)]) (st' := [.int d, .int 12, .ref 40]) (S' := z_F l2) (by decide +kernel) rfl ?_
  refine z_Rn.callv (idx := 77) (mj := 15) (na := 2) (q := 484) (b := 40) (as := [.int 12, .int d]) (rr := []) (v := none) (S1 := z_F l3) (by decide +kernel) rfl rfl ⟨⟨by omega, show 19 + 4 ≤ w by omega⟩, Nat.le_of_ble_eq_true rfl, Nat.le_of_ble_eq_true rfl⟩ (z_Fok _ _) h3 ?_
  refine z_Rn.blk [(27, .aload_n 0, 1, []), (28, .bipush 16, 2, []), (30, .iload 5, 2, [])] (pc' := 32) (lv' := [(0, .ref 40), (1, .int a), (2, .int b), (3, .int c), (4, .int d), (5, .int e)]) (st' := [.int e, .int 16, .ref 40]) (S' := z_F l3) (by decide +kernel) rfl ?_
  refine z_Rn.callv (idx := 77) (mj := 15) (na := 2) (q := 484) (b := 40) (as := [.int 16, .int e]) (rr := []) (v := none) (S1 := z_F l4) (by decide +kernel) rfl rfl ⟨⟨by omega, show 19 + 4 ≤ w by omega⟩, Nat.le_of_ble_eq_true rfl, Nat.le_of_ble_eq_true rfl⟩ (z_Fok _ _) h4 ?_
  exact z_Rn.ret (i := .return_) (len := 1) (aux := []) (by decide +kernel) rfl
theorem z_y44_0 {L : Nat} {xs : Nat → Int32} {f w : Nat} (a b c d e : Int32) (l m : List (Nat × Int32)) : ∃ m', ∀ r, z_Rn L xs f w 44 8 [(6, .int 1), (7, .int 24), (0, .ref 81), (1, .int a), (2, .int b), (3, .int c), (4, .int d), (5, .int e)] [] (z_Mm l m') r → z_Rn L xs f w 44 8 [(6, .int 0), (0, .ref 81), (1, .int a), (2, .int b), (3, .int c), (4, .int d), (5, .int e)] [] (z_Mm l m) r := by
  exact ⟨_, fun r k => z_Rn.blk [(8, .iload 6, 2, []), (10, .iconst 4, 1, []), (11, .if_icmp .ge 107, 3, [118]), (14, .bipush 24, 2, []), (16, .bipush 8, 2, []), (18, .iload 6, 2, []), (20, .imul, 1, []), (21, .isub, 1, []), (22, .istore 7, 2, []), (24, .aload_n 0, 1, []), (25, .getfield 7, 3, [9, 1, 539]), (28, .iload 6, 2, []), (30, .iload_n 1, 1, []), (31, .iload 7, 2, []), (33, .ishr, 1, []), (34, .sipush 255, 3, []), (37, .iand, 1, []), (38, .iastore, 1, []), (39, .aload_n 0, 1, []), (40, .getfield 7, 3, [9, 1, 539]), (43, .iconst 4, 1, []), (44, .iload 6, 2, []), (46, .iadd, 1, []), (47, .iload_n 2, 1, []), (48, .iload 7, 2, []), (50, .ishr, 1, []), (51, .sipush 255, 3, []), (54, .iand, 1, []), (55, .iastore, 1, []), (56, .aload_n 0, 1, []), (57, .getfield 7, 3, [9, 1, 539]), (60, .bipush 8, 2, []), (62, .iload 6, 2, []), (64, .iadd, 1, []), (65, .iload_n 3, 1, []), (66, .iload 7, 2, []), (68, .ishr, 1, []), (69, .sipush 255, 3, []), (72, .iand, 1, []), (73, .iastore, 1, []), (74, .aload_n 0, 1, []), (75, .getfield 7, 3, [9, 1, 539]), (78, .bipush 12, 2, []), (80, .iload 6, 2, []), (82, .iadd, 1, []), (83, .iload 4, 2, []), (85, .iload 7, 2, []), (87, .ishr, 1, []), (88, .sipush 255, 3, []), (91, .iand, 1, []), (92, .iastore, 1, []), (93, .aload_n 0, 1, []), (94, .getfield 7, 3, [9, 1, 539]), (97, .bipush 16, 2, []), (99, .iload 6, 2, []), (101, .iadd, 1, []), (102, .iload 5, 2, []), (104, .iload 7, 2, []), (106, .ishr, 1, []), (107, .sipush 255, 3, []), (110, .iand, 1, []), (111, .iastore, 1, []), (112, .iinc 6 1, 3, []), (115, .goto (-107), 3, [8])] (pc' := 8) (lv' := [(6, .int 1), (7, .int 24), (0, .ref 81), (1, .int a), (2, .int b), (3, .int c), (4, .int d), (5, .int e)]) (st' := []) (S' := z_Mm l _) (by decide +kernel) rfl k⟩
theorem z_y44_1 {L : Nat} {xs : Nat → Int32} {f w : Nat} (a b c d e : Int32) (l m : List (Nat × Int32)) : ∃ m', ∀ r, z_Rn L xs f w 44 8 [(6, .int 2), (7, .int 16), (0, .ref 81), (1, .int a), (2, .int b), (3, .int c), (4, .int d), (5, .int e)] [] (z_Mm l m') r → z_Rn L xs f w 44 8 [(6, .int 1), (7, .int 24), (0, .ref 81), (1, .int a), (2, .int b), (3, .int c), (4, .int d), (5, .int e)] [] (z_Mm l m) r := by
  exact ⟨_, fun r k => z_Rn.blk [(8, .iload 6, 2, []), (10, .iconst 4, 1, []), (11, .if_icmp .ge 107, 3, [118]), (14, .bipush 24, 2, []), (16, .bipush 8, 2, []), (18, .iload 6, 2, []), (20, .imul, 1, []), (21, .isub, 1, []), (22, .istore 7, 2, []), (24, .aload_n 0, 1, []), (25, .getfield 7, 3, [9, 1, 539]), (28, .iload 6, 2, []), (30, .iload_n 1, 1, []), (31, .iload 7, 2, []), (33, .ishr, 1, []), (34, .sipush 255, 3, []), (37, .iand, 1, []), (38, .iastore, 1, []), (39, .aload_n 0, 1, []), (40, .getfield 7, 3, [9, 1, 539]), (43, .iconst 4, 1, []), (44, .iload 6, 2, []), (46, .iadd, 1, []), (47, .iload_n 2, 1, []), (48, .iload 7, 2, []), (50, .ishr, 1, []), (51, .sipush 255, 3, []), (54, .iand, 1, []), (55, .iastore, 1, []), (56, .aload_n 0, 1, []), (57, .getfield 7, 3, [9, 1, 539]), (60, .bipush 8, 2, []), (62, .iload 6, 2, []), (64, .iadd, 1, []), (65, .iload_n 3, 1, []), (66, .iload 7, 2, []), (68, .ishr, 1, []), (69, .sipush 255, 3, []), (72, .iand, 1, []), (73, .iastore, 1, []), (74, .aload_n 0, 1, []), (75, .getfield 7, 3, [9, 1, 539]), (78, .bipush 12, 2, []), (80, .iload 6, 2, []), (82, .iadd, 1, []), (83, .iload 4, 2, []), (85, .iload 7, 2, []), (87, .ishr, 1, []), (88, .sipush 255, 3, []), (91, .iand, 1, []), (92, .iastore, 1, []), (93, .aload_n 0, 1, []), (94, .getfield 7, 3, [9, 1, 539]), (97, .bipush 16, 2, []), (99, .iload 6, 2, []), (101, .iadd, 1, []), (102, .iload 5, 2, []), (104, .iload 7, 2, []), (106, .ishr, 1, []), (107, .sipush 255, 3, []), (110, .iand, 1, []), (111, .iastore, 1, []), (112, .iinc 6 1, 3, []), (115, .goto (-107), 3, [8])] (pc' := 8) (lv' := [(6, .int 2), (7, .int 16), (0, .ref 81), (1, .int a), (2, .int b), (3, .int c), (4, .int d), (5, .int e)]) (st' := []) (S' := z_Mm l _) (by decide +kernel) rfl k⟩
theorem z_y44_2 {L : Nat} {xs : Nat → Int32} {f w : Nat} (a b c d e : Int32) (l m : List (Nat × Int32)) : ∃ m', ∀ r, z_Rn L xs f w 44 8 [(6, .int 3), (7, .int 8), (0, .ref 81), (1, .int a), (2, .int b), (3, .int c), (4, .int d), (5, .int e)] [] (z_Mm l m') r → z_Rn L xs f w 44 8 [(6, .int 2), (7, .int 16), (0, .ref 81), (1, .int a), (2, .int b), (3, .int c), (4, .int d), (5, .int e)] [] (z_Mm l m) r := by
  exact ⟨_, fun r k => z_Rn.blk [(8, .iload 6, 2, []), (10, .iconst 4, 1, []), (11, .if_icmp .ge 107, 3, [118]), (14, .bipush 24, 2, []), (16, .bipush 8, 2, []), (18, .iload 6, 2, []), (20, .imul, 1, []), (21, .isub, 1, []), (22, .istore 7, 2, []), (24, .aload_n 0, 1, []), (25, .getfield 7, 3, [9, 1, 539]), (28, .iload 6, 2, []), (30, .iload_n 1, 1, []), (31, .iload 7, 2, []), (33, .ishr, 1, []), (34, .sipush 255, 3, []), (37, .iand, 1, []), (38, .iastore, 1, []), (39, .aload_n 0, 1, []), (40, .getfield 7, 3, [9, 1, 539]), (43, .iconst 4, 1, []), (44, .iload 6, 2, []), (46, .iadd, 1, []), (47, .iload_n 2, 1, []), (48, .iload 7, 2, []), (50, .ishr, 1, []), (51, .sipush 255, 3, []), (54, .iand, 1, []), (55, .iastore, 1, []), (56, .aload_n 0, 1, []), (57, .getfield 7, 3, [9, 1, 539]), (60, .bipush 8, 2, []), (62, .iload 6, 2, []), (64, .iadd, 1, []), (65, .iload_n 3, 1, []), (66, .iload 7, 2, []), (68, .ishr, 1, []), (69, .sipush 255, 3, []), (72, .iand, 1, []), (73, .iastore, 1, []), (74, .aload_n 0, 1, []), (75, .getfield 7, 3, [9, 1, 539]), (78, .bipush 12, 2, []), (80, .iload 6, 2, []), (82, .iadd, 1, []), (83, .iload 4, 2, []), (85, .iload 7, 2, []), (87, .ishr, 1, []), (88, .sipush 255, 3, []), (91, .iand, 1, []), (92, .iastore, 1, []), (93, .aload_n 0, 1, []), (94, .getfield 7, 3, [9, 1, 539]), (97, .bipush 16, 2, []), (99, .iload 6, 2, []), (101, .iadd, 1, []), (102, .iload 5, 2, []), (104, .iload 7, 2, []), (106, .ishr, 1, []), (107, .sipush 255, 3, []), (110, .iand, 1, []), (111, .iastore, 1, []), (112, .iinc 6 1, 3, []), (115, .goto (-107), 3, [8])] (pc' := 8) (lv' := [(6, .int 3), (7, .int 8), (0, .ref 81), (1, .int a), (2, .int b), (3, .int c), (4, .int d), (5, .int e)]) (st' := []) (S' := z_Mm l _) (by decide +kernel) rfl k⟩
theorem z_y44_3 {L : Nat} {xs : Nat → Int32} {f w : Nat} (a b c d e : Int32) (l m : List (Nat × Int32)) : ∃ m', ∀ r, z_Rn L xs f w 44 8 [(6, .int 4), (7, .int 0), (0, .ref 81), (1, .int a), (2, .int b), (3, .int c), (4, .int d), (5, .int e)] [] (z_Mm l m') r → z_Rn L xs f w 44 8 [(6, .int 3), (7, .int 8), (0, .ref 81), (1, .int a), (2, .int b), (3, .int c), (4, .int d), (5, .int e)] [] (z_Mm l m) r := by
  exact ⟨_, fun r k => z_Rn.blk [(8, .iload 6, 2, []), (10, .iconst 4, 1, []), (11, .if_icmp .ge 107, 3, [118]), (14, .bipush 24, 2, []), (16, .bipush 8, 2, []), (18, .iload 6, 2, []), (20, .imul, 1, []), (21, .isub, 1, []), (22, .istore 7, 2, []), (24, .aload_n 0, 1, []), (25, .getfield 7, 3, [9, 1, 539]), (28, .iload 6, 2, []), (30, .iload_n 1, 1, []), (31, .iload 7, 2, []), (33, .ishr, 1, []), (34, .sipush 255, 3, []), (37, .iand, 1, []), (38, .iastore, 1, []), (39, .aload_n 0, 1, []), (40, .getfield 7, 3, [9, 1, 539]), (43, .iconst 4, 1, []), (44, .iload 6, 2, []), (46, .iadd, 1, []), (47, .iload_n 2, 1, []), (48, .iload 7, 2, []), (50, .ishr, 1, []), (51, .sipush 255, 3, []), (54, .iand, 1, []), (55, .iastore, 1, []), (56, .aload_n 0, 1, []), (57, .getfield 7, 3, [9, 1, 539]), (60, .bipush 8, 2, []), (62, .iload 6, 2, []), (64, .iadd, 1, []), (65, .iload_n 3, 1, []), (66, .iload 7, 2, []), (68, .ishr, 1, []), (69, .sipush 255, 3, []), (72, .iand, 1, []), (73, .iastore, 1, []), (74, .aload_n 0, 1, []), (75, .getfield 7, 3, [9, 1, 539]), (78, .bipush 12, 2, []), (80, .iload 6, 2, []), (82, .iadd, 1, []), (83, .iload 4, 2, []), (85, .iload 7, 2, []), (87, .ishr, 1, []), (88, .sipush 255, 3, []), (91, .iand, 1, []), (92, .iastore, 1, []), (93, .aload_n 0, 1, []), (94, .getfield 7, 3, [9, 1, 539]), (97, .bipush 16, 2, []), (99, .iload 6, 2, []), (101, .iadd, 1, []), (102, .iload 5, 2, []), (104, .iload 7, 2, []), (106, .ishr, 1, []), (107, .sipush 255, 3, []), (110, .iand, 1, []), (111, .iastore, 1, []), (112, .iinc 6 1, 3, []), (115, .goto (-107), 3, [8])] (pc' := 8) (lv' := [(6, .int 4), (7, .int 0), (0, .ref 81), (1, .int a), (2, .int b), (3, .int c), (4, .int d), (5, .int e)]) (st' := []) (S' := z_Mm l _) (by decide +kernel) rfl k⟩
theorem z_y44 {L : Nat} {xs : Nat → Int32} {f w : Nat} (a b c d e : Int32) (l : List (Nat × Int32)) : ∃ m', z_Rn L xs f w 44 0 [(0, .ref 81), (1, .int a), (2, .int b), (3, .int c), (4, .int d), (5, .int e)] [] (z_F l) (.inl none, z_Mm l m') := by
  obtain ⟨m0, h0⟩ := z_y44_0 (L := L) (xs := xs) (f := f) (w := w) a b c d e l []
  obtain ⟨m1, h1⟩ := z_y44_1 (L := L) (xs := xs) (f := f) (w := w) a b c d e l m0
  obtain ⟨m2, h2⟩ := z_y44_2 (L := L) (xs := xs) (f := f) (w := w) a b c d e l m1
  obtain ⟨m3, h3⟩ := z_y44_3 (L := L) (xs := xs) (f := f) (w := w) a b c d e l m2
  refine ⟨m3, ?_⟩
  refine z_Rn.blk [(0, .aload_n 0, 1, []), (1, .iconst 0, 1, []), (2, .putfield 275, 3, [9, 0, 629]), (5, .iconst 0, 1, []), (6, .istore 6, 2, [])] (pc' := 8) (lv' := [(6, .int 0), (0, .ref 81), (1, .int a), (2, .int b), (3, .int c), (4, .int d), (5, .int e)]) (st' := []) (S' := z_Mm l []) (by decide +kernel) rfl ?_
  refine h0 _ (h1 _ (h2 _ (h3 _ ?_)))
  refine z_Rn.blk [(8, .iload 6, 2, []), (10, .iconst 4, 1, []), (11, .if_icmp .ge 107, 3, [118])] (pc' := 118) (lv' := [(6, .int 4), (7, .int 0), (0, .ref 81), (1, .int a), (2, .int b), (3, .int c), (4, .int d), (5, .int e)]) (st' := []) (S' := z_Mm l m3) (by decide +kernel) rfl ?_
  exact z_Rn.ret (i := .return_) (len := 1) (aux := []) (by decide +kernel) rfl
theorem z_begin {L : Nat} {xs : Nat → Int32} {r : z_O × z_S} (k : z_Rn L xs 2048 84000 0 23 [(4, .int 0), (3, .ref 166), (2, .ref 81), (1, .ref 40), (0, .ref 39)] [] z_T3 r) : z_Rn L xs 2048 84000 0 0 [(0, .ref 39)] [] ([], 0) r := by
  refine z_Rn.blk0 [(0, .new 8, 3, [0, 357]), (3, .dup, 1, [])] (pc' := 4) (lv' := [(0, .ref 39)]) (st' := [.ref 40, .ref 40]) (S' := ([.inr (0, z_born (z_fty 0) 9)], 9)) (by decide +kernel) (z_eqU_i (by decide +kernel)) ?_
  refine z_Rn.callp (idx := 24) (mj := 1) (na := 0) (q := 358) (b := 40) (as := []) (rr := [.ref 40]) (v := none) (S1 := z_T1) (by decide +kernel) rfl (by decide +kernel) (by decide +kernel) (z_Rn.closed z_e1 (by decide +kernel) (by decide +kernel)) ?_
  refine z_Rn.blk0 [(7, .astore_n 1, 1, []), (8, .new 25, 3, [9, 359]), (11, .dup, 1, [])] (pc' := 12) (lv' := [(1, .ref 40), (0, .ref 39)]) (st' := [.ref 81, .ref 81]) (S' := (z_T1.1 ++ [.inr (9, z_born (z_fty 9) 123)], z_T1.2 + 123)) (by decide +kernel) (z_eqU_i (by decide +kernel)) ?_
  refine z_Rn.callp (idx := 27) (mj := 42) (na := 0) (q := 360) (b := 81) (as := []) (rr := [.ref 81]) (v := none) (S1 := z_T2) (by decide +kernel) rfl (by decide +kernel) (by decide +kernel) (z_Rn.closed z_e2 (by decide +kernel) (by decide +kernel)) ?_
  refine z_Rn.blk0 [(15, .astore_n 2, 1, []), (16, .iconst 1, 1, []), (17, .newarray .long, 2, [3]), (19, .astore_n 3, 1, []), (20, .iconst 0, 1, []), (21, .istore 4, 2, [])] (pc' := 23) (lv' := [(4, .int 0), (3, .ref 166), (2, .ref 81), (1, .ref 40), (0, .ref 39)]) (st' := []) (S' := z_T3) (by decide +kernel) (z_eqU_i (by decide +kernel)) ?_
  exact k
theorem z_short0 {xs : Nat → Int32} : z_Rn 0 xs 2048 84000 0 23 [(4, .int 0), (3, .ref 166), (2, .ref 81), (1, .ref 40), (0, .ref 39)] [] z_T3 (.inl (some (.int 1)), z_T3) := by
  refine z_Rn.blk [(23, .iload 4, 2, []), (25, .aload_n 0, 1, []), (26, .arraylength, 1, [])] (pc' := 27) (lv' := [(4, .int 0), (3, .ref 166), (2, .ref 81), (1, .ref 40), (0, .ref 39)]) (st' := [.int 0, .int 0]) (S' := z_T3) (by decide +kernel) rfl ?_
  refine z_Rn.blk [(27, .bipush 6, 2, []), (29, .isub, 1, [])] (pc' := 30) (lv' := [(4, .int 0), (3, .ref 166), (2, .ref 81), (1, .ref 40), (0, .ref 39)]) (st' := [.int (-6), .int 0]) (S' := z_T3) (by decide +kernel) rfl ?_
  refine z_Rn.blk [(30, .if_icmp .gt 388, 3, [418])] (pc' := 418) (lv' := [(4, .int 0), (3, .ref 166), (2, .ref 81), (1, .ref 40), (0, .ref 39)]) (st' := []) (S' := z_T3) (by decide +kernel) rfl ?_
  refine z_Rn.blk [(418, .iconst 1, 1, [])] (pc' := 419) (lv' := [(4, .int 0), (3, .ref 166), (2, .ref 81), (1, .ref 40), (0, .ref 39)]) (st' := [.int 1]) (S' := z_T3) (by decide +kernel) rfl ?_
  exact z_Rn.ret (i := .ireturn) (len := 1) (aux := []) (by decide +kernel) rfl
theorem z_short1 {xs : Nat → Int32} : z_Rn 1 xs 2048 84000 0 23 [(4, .int 0), (3, .ref 166), (2, .ref 81), (1, .ref 40), (0, .ref 39)] [] z_T3 (.inl (some (.int 1)), z_T3) := by
  refine z_Rn.blk [(23, .iload 4, 2, []), (25, .aload_n 0, 1, []), (26, .arraylength, 1, [])] (pc' := 27) (lv' := [(4, .int 0), (3, .ref 166), (2, .ref 81), (1, .ref 40), (0, .ref 39)]) (st' := [.int 1, .int 0]) (S' := z_T3) (by decide +kernel) rfl ?_
  refine z_Rn.blk [(27, .bipush 6, 2, []), (29, .isub, 1, [])] (pc' := 30) (lv' := [(4, .int 0), (3, .ref 166), (2, .ref 81), (1, .ref 40), (0, .ref 39)]) (st' := [.int (-5), .int 0]) (S' := z_T3) (by decide +kernel) rfl ?_
  refine z_Rn.blk [(30, .if_icmp .gt 388, 3, [418])] (pc' := 418) (lv' := [(4, .int 0), (3, .ref 166), (2, .ref 81), (1, .ref 40), (0, .ref 39)]) (st' := []) (S' := z_T3) (by decide +kernel) rfl ?_
  refine z_Rn.blk [(418, .iconst 1, 1, [])] (pc' := 419) (lv' := [(4, .int 0), (3, .ref 166), (2, .ref 81), (1, .ref 40), (0, .ref 39)]) (st' := [.int 1]) (S' := z_T3) (by decide +kernel) rfl ?_
  exact z_Rn.ret (i := .ireturn) (len := 1) (aux := []) (by decide +kernel) rfl
theorem z_short2 {xs : Nat → Int32} : z_Rn 2 xs 2048 84000 0 23 [(4, .int 0), (3, .ref 166), (2, .ref 81), (1, .ref 40), (0, .ref 39)] [] z_T3 (.inl (some (.int 1)), z_T3) := by
  refine z_Rn.blk [(23, .iload 4, 2, []), (25, .aload_n 0, 1, []), (26, .arraylength, 1, [])] (pc' := 27) (lv' := [(4, .int 0), (3, .ref 166), (2, .ref 81), (1, .ref 40), (0, .ref 39)]) (st' := [.int 2, .int 0]) (S' := z_T3) (by decide +kernel) rfl ?_
  refine z_Rn.blk [(27, .bipush 6, 2, []), (29, .isub, 1, [])] (pc' := 30) (lv' := [(4, .int 0), (3, .ref 166), (2, .ref 81), (1, .ref 40), (0, .ref 39)]) (st' := [.int (-4), .int 0]) (S' := z_T3) (by decide +kernel) rfl ?_
  refine z_Rn.blk [(30, .if_icmp .gt 388, 3, [418])] (pc' := 418) (lv' := [(4, .int 0), (3, .ref 166), (2, .ref 81), (1, .ref 40), (0, .ref 39)]) (st' := []) (S' := z_T3) (by decide +kernel) rfl ?_
  refine z_Rn.blk [(418, .iconst 1, 1, [])] (pc' := 419) (lv' := [(4, .int 0), (3, .ref 166), (2, .ref 81), (1, .ref 40), (0, .ref 39)]) (st' := [.int 1]) (S' := z_T3) (by decide +kernel) rfl ?_
  exact z_Rn.ret (i := .ireturn) (len := 1) (aux := []) (by decide +kernel) rfl
theorem z_short3 {xs : Nat → Int32} : z_Rn 3 xs 2048 84000 0 23 [(4, .int 0), (3, .ref 166), (2, .ref 81), (1, .ref 40), (0, .ref 39)] [] z_T3 (.inl (some (.int 1)), z_T3) := by
  refine z_Rn.blk [(23, .iload 4, 2, []), (25, .aload_n 0, 1, []), (26, .arraylength, 1, [])] (pc' := 27) (lv' := [(4, .int 0), (3, .ref 166), (2, .ref 81), (1, .ref 40), (0, .ref 39)]) (st' := [.int 3, .int 0]) (S' := z_T3) (by decide +kernel) rfl ?_
  refine z_Rn.blk [(27, .bipush 6, 2, []), (29, .isub, 1, [])] (pc' := 30) (lv' := [(4, .int 0), (3, .ref 166), (2, .ref 81), (1, .ref 40), (0, .ref 39)]) (st' := [.int (-3), .int 0]) (S' := z_T3) (by decide +kernel) rfl ?_
  refine z_Rn.blk [(30, .if_icmp .gt 388, 3, [418])] (pc' := 418) (lv' := [(4, .int 0), (3, .ref 166), (2, .ref 81), (1, .ref 40), (0, .ref 39)]) (st' := []) (S' := z_T3) (by decide +kernel) rfl ?_
  refine z_Rn.blk [(418, .iconst 1, 1, [])] (pc' := 419) (lv' := [(4, .int 0), (3, .ref 166), (2, .ref 81), (1, .ref 40), (0, .ref 39)]) (st' := [.int 1]) (S' := z_T3) (by decide +kernel) rfl ?_
  exact z_Rn.ret (i := .ireturn) (len := 1) (aux := []) (by decide +kernel) rfl
theorem z_short4 {xs : Nat → Int32} : z_Rn 4 xs 2048 84000 0 23 [(4, .int 0), (3, .ref 166), (2, .ref 81), (1, .ref 40), (0, .ref 39)] [] z_T3 (.inl (some (.int 1)), z_T3) := by
  refine z_Rn.blk [(23, .iload 4, 2, []), (25, .aload_n 0, 1, []), (26, .arraylength, 1, [])] (pc' := 27) (lv' := [(4, .int 0), (3, .ref 166), (2, .ref 81), (1, .ref 40), (0, .ref 39)]) (st' := [.int 4, .int 0]) (S' := z_T3) (by decide +kernel) rfl ?_
  refine z_Rn.blk [(27, .bipush 6, 2, []), (29, .isub, 1, [])] (pc' := 30) (lv' := [(4, .int 0), (3, .ref 166), (2, .ref 81), (1, .ref 40), (0, .ref 39)]) (st' := [.int (-2), .int 0]) (S' := z_T3) (by decide +kernel) rfl ?_
  refine z_Rn.blk [(30, .if_icmp .gt 388, 3, [418])] (pc' := 418) (lv' := [(4, .int 0), (3, .ref 166), (2, .ref 81), (1, .ref 40), (0, .ref 39)]) (st' := []) (S' := z_T3) (by decide +kernel) rfl ?_
  refine z_Rn.blk [(418, .iconst 1, 1, [])] (pc' := 419) (lv' := [(4, .int 0), (3, .ref 166), (2, .ref 81), (1, .ref 40), (0, .ref 39)]) (st' := [.int 1]) (S' := z_T3) (by decide +kernel) rfl ?_
  exact z_Rn.ret (i := .ireturn) (len := 1) (aux := []) (by decide +kernel) rfl
theorem z_short5 {xs : Nat → Int32} : z_Rn 5 xs 2048 84000 0 23 [(4, .int 0), (3, .ref 166), (2, .ref 81), (1, .ref 40), (0, .ref 39)] [] z_T3 (.inl (some (.int 1)), z_T3) := by
  refine z_Rn.blk [(23, .iload 4, 2, []), (25, .aload_n 0, 1, []), (26, .arraylength, 1, [])] (pc' := 27) (lv' := [(4, .int 0), (3, .ref 166), (2, .ref 81), (1, .ref 40), (0, .ref 39)]) (st' := [.int 5, .int 0]) (S' := z_T3) (by decide +kernel) rfl ?_
  refine z_Rn.blk [(27, .bipush 6, 2, []), (29, .isub, 1, [])] (pc' := 30) (lv' := [(4, .int 0), (3, .ref 166), (2, .ref 81), (1, .ref 40), (0, .ref 39)]) (st' := [.int (-1), .int 0]) (S' := z_T3) (by decide +kernel) rfl ?_
  refine z_Rn.blk [(30, .if_icmp .gt 388, 3, [418])] (pc' := 418) (lv' := [(4, .int 0), (3, .ref 166), (2, .ref 81), (1, .ref 40), (0, .ref 39)]) (st' := []) (S' := z_T3) (by decide +kernel) rfl ?_
  refine z_Rn.blk [(418, .iconst 1, 1, [])] (pc' := 419) (lv' := [(4, .int 0), (3, .ref 166), (2, .ref 81), (1, .ref 40), (0, .ref 39)]) (st' := [.int 1]) (S' := z_T3) (by decide +kernel) rfl ?_
  exact z_Rn.ret (i := .ireturn) (len := 1) (aux := []) (by decide +kernel) rfl
theorem z_exit0 {xs : Nat → Int32} {S : z_S} : z_Rn 6 xs 2048 84000 0 412 [(4, .int 0), (3, .ref 166), (2, .ref 81), (1, .ref 40), (0, .ref 39)] [] S (.inl (some (.int 1)), S) := by
  refine z_Rn.blk [(412, .iinc 4 6, 3, []), (415, .goto (-392), 3, [23]), (23, .iload 4, 2, []), (25, .aload_n 0, 1, []), (26, .arraylength, 1, [])] (pc' := 27) (lv' := [(4, .int 6), (3, .ref 166), (2, .ref 81), (1, .ref 40), (0, .ref 39)]) (st' := [.int 6, .int 6]) (S' := S) (by decide +kernel) rfl ?_
  refine z_Rn.blk [(27, .bipush 6, 2, []), (29, .isub, 1, [])] (pc' := 30) (lv' := [(4, .int 6), (3, .ref 166), (2, .ref 81), (1, .ref 40), (0, .ref 39)]) (st' := [.int 0, .int 6]) (S' := S) (by decide +kernel) rfl ?_
  refine z_Rn.blk [(30, .if_icmp .gt 388, 3, [418])] (pc' := 418) (lv' := [(4, .int 6), (3, .ref 166), (2, .ref 81), (1, .ref 40), (0, .ref 39)]) (st' := []) (S' := S) (by decide +kernel) rfl ?_
  refine z_Rn.blk [(418, .iconst 1, 1, [])] (pc' := 419) (lv' := [(4, .int 6), (3, .ref 166), (2, .ref 81), (1, .ref 40), (0, .ref 39)]) (st' := [.int 1]) (S' := S) (by decide +kernel) rfl ?_
  exact z_Rn.ret (i := .ireturn) (len := 1) (aux := []) (by decide +kernel) rfl
theorem z_exit5 {xs : Nat → Int32} {S : z_S} {v5 : Value} : z_Rn 6 xs 2048 84000 0 412 [(5, v5), (4, .int 0), (3, .ref 166), (2, .ref 81), (1, .ref 40), (0, .ref 39)] [] S (.inl (some (.int 1)), S) := by
  refine z_Rn.blk [(412, .iinc 4 6, 3, []), (415, .goto (-392), 3, [23]), (23, .iload 4, 2, []), (25, .aload_n 0, 1, []), (26, .arraylength, 1, [])] (pc' := 27) (lv' := [(4, .int 6), (5, v5), (3, .ref 166), (2, .ref 81), (1, .ref 40), (0, .ref 39)]) (st' := [.int 6, .int 6]) (S' := S) (by decide +kernel) rfl ?_
  refine z_Rn.blk [(27, .bipush 6, 2, []), (29, .isub, 1, [])] (pc' := 30) (lv' := [(4, .int 6), (5, v5), (3, .ref 166), (2, .ref 81), (1, .ref 40), (0, .ref 39)]) (st' := [.int 0, .int 6]) (S' := S) (by decide +kernel) rfl ?_
  refine z_Rn.blk [(30, .if_icmp .gt 388, 3, [418])] (pc' := 418) (lv' := [(4, .int 6), (5, v5), (3, .ref 166), (2, .ref 81), (1, .ref 40), (0, .ref 39)]) (st' := []) (S' := S) (by decide +kernel) rfl ?_
  refine z_Rn.blk [(418, .iconst 1, 1, [])] (pc' := 419) (lv' := [(4, .int 6), (5, v5), (3, .ref 166), (2, .ref 81), (1, .ref 40), (0, .ref 39)]) (st' := [.int 1]) (S' := S) (by decide +kernel) rfl ?_
  exact z_Rn.ret (i := .ireturn) (len := 1) (aux := []) (by decide +kernel) rfl
theorem z_exit6 {xs : Nat → Int32} {S : z_S} {v6 : Value} {v5 : Value} : z_Rn 6 xs 2048 84000 0 412 [(6, v6), (5, v5), (4, .int 0), (3, .ref 166), (2, .ref 81), (1, .ref 40), (0, .ref 39)] [] S (.inl (some (.int 1)), S) := by
  refine z_Rn.blk [(412, .iinc 4 6, 3, []), (415, .goto (-392), 3, [23]), (23, .iload 4, 2, []), (25, .aload_n 0, 1, []), (26, .arraylength, 1, [])] (pc' := 27) (lv' := [(4, .int 6), (6, v6), (5, v5), (3, .ref 166), (2, .ref 81), (1, .ref 40), (0, .ref 39)]) (st' := [.int 6, .int 6]) (S' := S) (by decide +kernel) rfl ?_
  refine z_Rn.blk [(27, .bipush 6, 2, []), (29, .isub, 1, [])] (pc' := 30) (lv' := [(4, .int 6), (6, v6), (5, v5), (3, .ref 166), (2, .ref 81), (1, .ref 40), (0, .ref 39)]) (st' := [.int 0, .int 6]) (S' := S) (by decide +kernel) rfl ?_
  refine z_Rn.blk [(30, .if_icmp .gt 388, 3, [418])] (pc' := 418) (lv' := [(4, .int 6), (6, v6), (5, v5), (3, .ref 166), (2, .ref 81), (1, .ref 40), (0, .ref 39)]) (st' := []) (S' := S) (by decide +kernel) rfl ?_
  refine z_Rn.blk [(418, .iconst 1, 1, [])] (pc' := 419) (lv' := [(4, .int 6), (6, v6), (5, v5), (3, .ref 166), (2, .ref 81), (1, .ref 40), (0, .ref 39)]) (st' := [.int 1]) (S' := S) (by decide +kernel) rfl ?_
  exact z_Rn.ret (i := .ireturn) (len := 1) (aux := []) (by decide +kernel) rfl
theorem z_sw {xs : Nat → Int32} {r : z_O × z_S} (k : z_Rn 6 xs 2048 84000 0 40 [(4, .int 0), (3, .ref 166), (2, .ref 81), (1, .ref 40), (0, .ref 39)] [.int ((xs 0) &&& 15)] z_T3 r) : z_Rn 6 xs 2048 84000 0 23 [(4, .int 0), (3, .ref 166), (2, .ref 81), (1, .ref 40), (0, .ref 39)] [] z_T3 r := by
  refine z_Rn.blk [(23, .iload 4, 2, []), (25, .aload_n 0, 1, []), (26, .arraylength, 1, [])] (pc' := 27) (lv' := [(4, .int 0), (3, .ref 166), (2, .ref 81), (1, .ref 40), (0, .ref 39)]) (st' := [.int 6, .int 0]) (S' := z_T3) (by decide +kernel) rfl ?_
  refine z_Rn.blk [(27, .bipush 6, 2, []), (29, .isub, 1, [])] (pc' := 30) (lv' := [(4, .int 0), (3, .ref 166), (2, .ref 81), (1, .ref 40), (0, .ref 39)]) (st' := [.int 0, .int 0]) (S' := z_T3) (by decide +kernel) rfl ?_
  refine z_Rn.blk [(30, .if_icmp .gt 388, 3, [418])] (pc' := 33) (lv' := [(4, .int 0), (3, .ref 166), (2, .ref 81), (1, .ref 40), (0, .ref 39)]) (st' := []) (S' := z_T3) (by decide +kernel) rfl ?_
  refine z_Rn.blk [(33, .aload_n 0, 1, []), (34, .iload 4, 2, []), (36, .iaload, 1, []), (37, .bipush 15, 2, []), (39, .iand, 1, [])] (pc' := 40) (lv' := [(4, .int 0), (3, .ref 166), (2, .ref 81), (1, .ref 40), (0, .ref 39)]) (st' := [.int ((xs 0) &&& 15)]) (S' := z_T3) (by decide +kernel) rfl ?_
  exact k
theorem z_ge_i {S S1 : z_S} (h : z_ge S S1 = true) : (S.1.length ≤ S1.1.length ∧ S.2 ≤ S1.2) ∧ (S1.1.length ≤ 600002 ∧ S1.2 ≤ 7302232) ∧ z_cls 40 S1 40 = some 0 ∧ z_cls 40 S1 81 = some 9 := by
  unfold z_ge at h
  simp only [Bool.and_eq_true, decide_eq_true_eq] at h
  obtain ⟨h1, h2, h3, h4, h5, h6⟩ := h
  exact ⟨⟨h1, h2⟩, ⟨h3, h4⟩, h5, h6⟩
theorem z_cmp1 {xs : Nat → Int32} {v : Int32} {S1 S2 : z_S} (h1 : z_Rn 6 xs (2048 - 1) (84000 - (19 + z_ml 16)) 16 0 (lv_args 0 [.ref 40, .int (xs 1)]) [] z_T3 (.inl (some (.int v)), S1)) (g1 : z_ge z_T3 S1 = true) (h2 : z_Rn 6 xs (2048 - 1) (84000 - (19 + z_ml 45)) 45 0 (lv_args 0 [.ref 81, .int (xs 1)]) [] S1 (.inl (some (.int v)), S2)) (g2 : z_ge S1 S2 = true) : ∃ S, z_Rn 6 xs 2048 84000 0 40 [(4, .int 0), (3, .ref 166), (2, .ref 81), (1, .ref 40), (0, .ref 39)] [.int 1] z_T3 (.inl (some (.int 1)), S) ∧ S.1.length ≤ 600002 ∧ S.2 ≤ 7302232 := by
  refine ⟨S2, ?_, (z_ge_i g2).2.1⟩
  refine z_Rn.blk [(40, .tableswitch 372 0 8 #[52, 123, 148, 192, 217, 242, 267, 291, 347], 52, [412, 92, 163, 188, 232, 257, 282, 307, 331, 387]), (163, .aload_n 1, 1, []), (164, .aload_n 0, 1, []), (165, .iload 4, 2, []), (167, .iconst 1, 1, []), (168, .iadd, 1, []), (169, .iaload, 1, [])] (pc' := 170) (lv' := [(4, .int 0), (3, .ref 166), (2, .ref 81), (1, .ref 40), (0, .ref 39)]) (st' := [.int (xs 1), .ref 40]) (S' := z_T3) (by decide +kernel) rfl ?_
  refine z_Rn.callv (idx := 33) (mj := 16) (na := 1) (q := 363) (b := 40) (as := [.int (xs 1)]) (rr := []) (v := some (.int v)) (S1 := S1) (by decide +kernel) rfl (by decide +kernel) ⟨by decide +kernel, Nat.le_of_ble_eq_true rfl, Nat.le_of_ble_eq_true rfl⟩ ⟨(z_ge_i z_ge_33).2.1, (z_ge_i g1).1⟩ h1 ?_
  refine z_Rn.blk [(173, .aload_n 2, 1, []), (174, .aload_n 0, 1, []), (175, .iload 4, 2, []), (177, .iconst 1, 1, []), (178, .iadd, 1, []), (179, .iaload, 1, [])] (pc' := 180) (lv' := [(4, .int 0), (3, .ref 166), (2, .ref 81), (1, .ref 40), (0, .ref 39)]) (st' := [.int (xs 1), .ref 81, .int v]) (S' := S1) (by decide +kernel) rfl ?_
  refine z_Rn.callv (idx := 36) (mj := 45) (na := 1) (q := 364) (b := 81) (as := [.int (xs 1)]) (rr := [.int v]) (v := some (.int v)) (S1 := S2) (by decide +kernel) rfl (z_ge_i g1).2.2.2 ⟨by decide +kernel, Nat.le_of_ble_eq_true rfl, Nat.le_of_ble_eq_true rfl⟩ ⟨(z_ge_i g1).2.1, (z_ge_i g2).1⟩ h2 ?_
  refine z_Rn.blk [(183, .if_icmp .eq 229, 3, [412])] (pc' := (if z_f2 .eq v v = true then 412 else 186)) (lv' := [(4, .int 0), (3, .ref 166), (2, .ref 81), (1, .ref 40), (0, .ref 39)]) (st' := []) (S' := S2) (by decide +kernel) rfl ?_
  refine z_Rn.brT (decide_eq_true rfl) ?_
  exact z_exit0
theorem z_cmp3 {xs : Nat → Int32} {v : Int32} {S1 S2 : z_S} (h1 : z_Rn 6 xs (2048 - 1) (84000 - (19 + z_ml 19)) 19 0 (lv_args 0 [.ref 40, .int (xs 1)]) [] z_T3 (.inl (some (.int v)), S1)) (g1 : z_ge z_T3 S1 = true) (h2 : z_Rn 6 xs (2048 - 1) (84000 - (19 + z_ml 57)) 57 0 (lv_args 0 [.ref 81, .int (xs 1)]) [] S1 (.inl (some (.int v)), S2)) (g2 : z_ge S1 S2 = true) : ∃ S, z_Rn 6 xs 2048 84000 0 40 [(4, .int 0), (3, .ref 166), (2, .ref 81), (1, .ref 40), (0, .ref 39)] [.int 3] z_T3 (.inl (some (.int 1)), S) ∧ S.1.length ≤ 600002 ∧ S.2 ≤ 7302232 := by
  refine ⟨S2, ?_, (z_ge_i g2).2.1⟩
  refine z_Rn.blk [(40, .tableswitch 372 0 8 #[52, 123, 148, 192, 217, 242, 267, 291, 347], 52, [412, 92, 163, 188, 232, 257, 282, 307, 331, 387]), (232, .aload_n 1, 1, []), (233, .aload_n 0, 1, []), (234, .iload 4, 2, []), (236, .iconst 1, 1, []), (237, .iadd, 1, []), (238, .iaload, 1, [])] (pc' := 239) (lv' := [(4, .int 0), (3, .ref 166), (2, .ref 81), (1, .ref 40), (0, .ref 39)]) (st' := [.int (xs 1), .ref 40]) (S' := z_T3) (by decide +kernel) rfl ?_
  refine z_Rn.callv (idx := 46) (mj := 19) (na := 1) (q := 368) (b := 40) (as := [.int (xs 1)]) (rr := []) (v := some (.int v)) (S1 := S1) (by decide +kernel) rfl (by decide +kernel) ⟨by decide +kernel, Nat.le_of_ble_eq_true rfl, Nat.le_of_ble_eq_true rfl⟩ ⟨(z_ge_i z_ge_33).2.1, (z_ge_i g1).1⟩ h1 ?_
  refine z_Rn.blk [(242, .aload_n 2, 1, []), (243, .aload_n 0, 1, []), (244, .iload 4, 2, []), (246, .iconst 1, 1, []), (247, .iadd, 1, []), (248, .iaload, 1, [])] (pc' := 249) (lv' := [(4, .int 0), (3, .ref 166), (2, .ref 81), (1, .ref 40), (0, .ref 39)]) (st' := [.int (xs 1), .ref 81, .int v]) (S' := S1) (by decide +kernel) rfl ?_
  refine z_Rn.callv (idx := 49) (mj := 57) (na := 1) (q := 369) (b := 81) (as := [.int (xs 1)]) (rr := [.int v]) (v := some (.int v)) (S1 := S2) (by decide +kernel) rfl (z_ge_i g1).2.2.2 ⟨by decide +kernel, Nat.le_of_ble_eq_true rfl, Nat.le_of_ble_eq_true rfl⟩ ⟨(z_ge_i g1).2.1, (z_ge_i g2).1⟩ h2 ?_
  refine z_Rn.blk [(252, .if_icmp .eq 160, 3, [412])] (pc' := (if z_f2 .eq v v = true then 412 else 255)) (lv' := [(4, .int 0), (3, .ref 166), (2, .ref 81), (1, .ref 40), (0, .ref 39)]) (st' := []) (S' := S2) (by decide +kernel) rfl ?_
  refine z_Rn.brT (decide_eq_true rfl) ?_
  exact z_exit0
theorem z_cmp4 {xs : Nat → Int32} {v : Int32} {S1 S2 : z_S} (h1 : z_Rn 6 xs (2048 - 1) (84000 - (19 + z_ml 20)) 20 0 (lv_args 0 [.ref 40, .int (xs 1)]) [] z_T3 (.inl (some (.int v)), S1)) (g1 : z_ge z_T3 S1 = true) (h2 : z_Rn 6 xs (2048 - 1) (84000 - (19 + z_ml 58)) 58 0 (lv_args 0 [.ref 81, .int (xs 1)]) [] S1 (.inl (some (.int v)), S2)) (g2 : z_ge S1 S2 = true) : ∃ S, z_Rn 6 xs 2048 84000 0 40 [(4, .int 0), (3, .ref 166), (2, .ref 81), (1, .ref 40), (0, .ref 39)] [.int 4] z_T3 (.inl (some (.int 1)), S) ∧ S.1.length ≤ 600002 ∧ S.2 ≤ 7302232 := by
  refine ⟨S2, ?_, (z_ge_i g2).2.1⟩
  refine z_Rn.blk [(40, .tableswitch 372 0 8 #[52, 123, 148, 192, 217, 242, 267, 291, 347], 52, [412, 92, 163, 188, 232, 257, 282, 307, 331, 387]), (257, .aload_n 1, 1, []), (258, .aload_n 0, 1, []), (259, .iload 4, 2, []), (261, .iconst 1, 1, []), (262, .iadd, 1, []), (263, .iaload, 1, [])] (pc' := 264) (lv' := [(4, .int 0), (3, .ref 166), (2, .ref 81), (1, .ref 40), (0, .ref 39)]) (st' := [.int (xs 1), .ref 40]) (S' := z_T3) (by decide +kernel) rfl ?_
  refine z_Rn.callv (idx := 50) (mj := 20) (na := 1) (q := 370) (b := 40) (as := [.int (xs 1)]) (rr := []) (v := some (.int v)) (S1 := S1) (by decide +kernel) rfl (by decide +kernel) ⟨by decide +kernel, Nat.le_of_ble_eq_true rfl, Nat.le_of_ble_eq_true rfl⟩ ⟨(z_ge_i z_ge_33).2.1, (z_ge_i g1).1⟩ h1 ?_
  refine z_Rn.blk [(267, .aload_n 2, 1, []), (268, .aload_n 0, 1, []), (269, .iload 4, 2, []), (271, .iconst 1, 1, []), (272, .iadd, 1, []), (273, .iaload, 1, [])] (pc' := 274) (lv' := [(4, .int 0), (3, .ref 166), (2, .ref 81), (1, .ref 40), (0, .ref 39)]) (st' := [.int (xs 1), .ref 81, .int v]) (S' := S1) (by decide +kernel) rfl ?_
  refine z_Rn.callv (idx := 53) (mj := 58) (na := 1) (q := 371) (b := 81) (as := [.int (xs 1)]) (rr := [.int v]) (v := some (.int v)) (S1 := S2) (by decide +kernel) rfl (z_ge_i g1).2.2.2 ⟨by decide +kernel, Nat.le_of_ble_eq_true rfl, Nat.le_of_ble_eq_true rfl⟩ ⟨(z_ge_i g1).2.1, (z_ge_i g2).1⟩ h2 ?_
  refine z_Rn.blk [(277, .if_icmp .eq 135, 3, [412])] (pc' := (if z_f2 .eq v v = true then 412 else 280)) (lv' := [(4, .int 0), (3, .ref 166), (2, .ref 81), (1, .ref 40), (0, .ref 39)]) (st' := []) (S' := S2) (by decide +kernel) rfl ?_
  refine z_Rn.brT (decide_eq_true rfl) ?_
  exact z_exit0
theorem z_cmp5 {xs : Nat → Int32} {v : Int32} {S1 S2 : z_S} (h1 : z_Rn 6 xs (2048 - 1) (84000 - (19 + z_ml 22)) 22 0 (lv_args 0 [.ref 40, .int (xs 1)]) [] z_T3 (.inl (some (.int v)), S1)) (g1 : z_ge z_T3 S1 = true) (h2 : z_Rn 6 xs (2048 - 1) (84000 - (19 + z_ml 60)) 60 0 (lv_args 0 [.ref 81, .int (xs 1)]) [] S1 (.inl (some (.int v)), S2)) (g2 : z_ge S1 S2 = true) : ∃ S, z_Rn 6 xs 2048 84000 0 40 [(4, .int 0), (3, .ref 166), (2, .ref 81), (1, .ref 40), (0, .ref 39)] [.int 5] z_T3 (.inl (some (.int 1)), S) ∧ S.1.length ≤ 600002 ∧ S.2 ≤ 7302232 := by
  refine ⟨S2, ?_, (z_ge_i g2).2.1⟩
  refine z_Rn.blk [(40, .tableswitch 372 0 8 #[52, 123, 148, 192, 217, 242, 267, 291, 347], 52, [412, 92, 163, 188, 232, 257, 282, 307, 331, 387]), (282, .aload_n 1, 1, []), (283, .aload_n 0, 1, []), (284, .iload 4, 2, []), (286, .iconst 1, 1, []), (287, .iadd, 1, []), (288, .iaload, 1, [])] (pc' := 289) (lv' := [(4, .int 0), (3, .ref 166), (2, .ref 81), (1, .ref 40), (0, .ref 39)]) (st' := [.int (xs 1), .ref 40]) (S' := z_T3) (by decide +kernel) rfl ?_
  refine z_Rn.callv (idx := 54) (mj := 22) (na := 1) (q := 372) (b := 40) (as := [.int (xs 1)]) (rr := []) (v := some (.int v)) (S1 := S1) (by decide +kernel) rfl (by decide +kernel) ⟨by decide +kernel, Nat.le_of_ble_eq_true rfl, Nat.le_of_ble_eq_true rfl⟩ ⟨(z_ge_i z_ge_33).2.1, (z_ge_i g1).1⟩ h1 ?_
  refine z_Rn.blk [(292, .aload_n 2, 1, []), (293, .aload_n 0, 1, []), (294, .iload 4, 2, []), (296, .iconst 1, 1, []), (297, .iadd, 1, []), (298, .iaload, 1, [])] (pc' := 299) (lv' := [(4, .int 0), (3, .ref 166), (2, .ref 81), (1, .ref 40), (0, .ref 39)]) (st' := [.int (xs 1), .ref 81, .int v]) (S' := S1) (by decide +kernel) rfl ?_
  refine z_Rn.callv (idx := 57) (mj := 60) (na := 1) (q := 373) (b := 81) (as := [.int (xs 1)]) (rr := [.int v]) (v := some (.int v)) (S1 := S2) (by decide +kernel) rfl (z_ge_i g1).2.2.2 ⟨by decide +kernel, Nat.le_of_ble_eq_true rfl, Nat.le_of_ble_eq_true rfl⟩ ⟨(z_ge_i g1).2.1, (z_ge_i g2).1⟩ h2 ?_
  refine z_Rn.blk [(302, .if_icmp .eq 110, 3, [412])] (pc' := (if z_f2 .eq v v = true then 412 else 305)) (lv' := [(4, .int 0), (3, .ref 166), (2, .ref 81), (1, .ref 40), (0, .ref 39)]) (st' := []) (S' := S2) (by decide +kernel) rfl ?_
  refine z_Rn.brT (decide_eq_true rfl) ?_
  exact z_exit0
theorem z_cmp8 {xs : Nat → Int32} {v : Int32} {S1 S2 : z_S} (h1 : z_Rn 6 xs (2048 - 1) (84000 - (19 + z_ml 23)) 23 0 (lv_args 0 [.ref 40, .int (xs 1)]) [] z_T3 (.inl (some (.int v)), S1)) (g1 : z_ge z_T3 S1 = true) (h2 : z_Rn 6 xs (2048 - 1) (84000 - (19 + z_ml 63)) 63 0 (lv_args 0 [.ref 81, .int (xs 1)]) [] S1 (.inl (some (.int v)), S2)) (g2 : z_ge S1 S2 = true) : ∃ S, z_Rn 6 xs 2048 84000 0 40 [(4, .int 0), (3, .ref 166), (2, .ref 81), (1, .ref 40), (0, .ref 39)] [.int 8] z_T3 (.inl (some (.int 1)), S) ∧ S.1.length ≤ 600002 ∧ S.2 ≤ 7302232 := by
  refine ⟨S2, ?_, (z_ge_i g2).2.1⟩
  refine z_Rn.blk [(40, .tableswitch 372 0 8 #[52, 123, 148, 192, 217, 242, 267, 291, 347], 52, [412, 92, 163, 188, 232, 257, 282, 307, 331, 387]), (387, .aload_n 1, 1, []), (388, .aload_n 0, 1, []), (389, .iload 4, 2, []), (391, .iconst 1, 1, []), (392, .iadd, 1, []), (393, .iaload, 1, [])] (pc' := 394) (lv' := [(4, .int 0), (3, .ref 166), (2, .ref 81), (1, .ref 40), (0, .ref 39)]) (st' := [.int (xs 1), .ref 40]) (S' := z_T3) (by decide +kernel) rfl ?_
  refine z_Rn.callv (idx := 66) (mj := 23) (na := 1) (q := 378) (b := 40) (as := [.int (xs 1)]) (rr := []) (v := some (.int v)) (S1 := S1) (by decide +kernel) rfl (by decide +kernel) ⟨by decide +kernel, Nat.le_of_ble_eq_true rfl, Nat.le_of_ble_eq_true rfl⟩ ⟨(z_ge_i z_ge_33).2.1, (z_ge_i g1).1⟩ h1 ?_
  refine z_Rn.blk [(397, .aload_n 2, 1, []), (398, .aload_n 0, 1, []), (399, .iload 4, 2, []), (401, .iconst 1, 1, []), (402, .iadd, 1, []), (403, .iaload, 1, [])] (pc' := 404) (lv' := [(4, .int 0), (3, .ref 166), (2, .ref 81), (1, .ref 40), (0, .ref 39)]) (st' := [.int (xs 1), .ref 81, .int v]) (S' := S1) (by decide +kernel) rfl ?_
  refine z_Rn.callv (idx := 69) (mj := 63) (na := 1) (q := 379) (b := 81) (as := [.int (xs 1)]) (rr := [.int v]) (v := some (.int v)) (S1 := S2) (by decide +kernel) rfl (z_ge_i g1).2.2.2 ⟨by decide +kernel, Nat.le_of_ble_eq_true rfl, Nat.le_of_ble_eq_true rfl⟩ ⟨(z_ge_i g1).2.1, (z_ge_i g2).1⟩ h2 ?_
  refine z_Rn.blk [(407, .if_icmp .eq 5, 3, [412])] (pc' := (if z_f2 .eq v v = true then 412 else 410)) (lv' := [(4, .int 0), (3, .ref 166), (2, .ref 81), (1, .ref 40), (0, .ref 39)]) (st' := []) (S' := S2) (by decide +kernel) rfl ?_
  refine z_Rn.brT (decide_eq_true rfl) ?_
  exact z_exit0
theorem z_case0 {xs : Nat → Int32} : ∃ S, z_Rn 6 xs 2048 84000 0 40 [(4, .int 0), (3, .ref 166), (2, .ref 81), (1, .ref 40), (0, .ref 39)] [.int 0] z_T3 (.inl (some (.int 1)), S) ∧ S.1.length ≤ 600002 ∧ S.2 ≤ 7302232 := by
  obtain ⟨l, h1⟩ := z_y14 (L := 6) (xs := xs) (f := 2048 - 1) (w := 84000 - (19 + z_ml 14)) (by decide) (by decide +kernel) (xs 1) (xs 2) (xs 3) (xs 4) (xs 5)
  obtain ⟨m, h2⟩ := z_y44 (L := 6) (xs := xs) (f := 2048 - 1) (w := 84000 - (19 + z_ml 44)) (xs 1) (xs 2) (xs 3) (xs 4) (xs 5) l
  refine ⟨z_Mm l m, ?_, by rw [z_Ml]; decide, z_s3⟩
  refine z_Rn.blk [(40, .tableswitch 372 0 8 #[52, 123, 148, 192, 217, 242, 267, 291, 347], 52, [412, 92, 163, 188, 232, 257, 282, 307, 331, 387]), (92, .aload_n 1, 1, []), (93, .aload_n 0, 1, []), (94, .iload 4, 2, []), (96, .iconst 1, 1, []), (97, .iadd, 1, []), (98, .iaload, 1, []), (99, .aload_n 0, 1, []), (100, .iload 4, 2, []), (102, .iconst 2, 1, []), (103, .iadd, 1, []), (104, .iaload, 1, []), (105, .aload_n 0, 1, []), (106, .iload 4, 2, []), (108, .iconst 3, 1, []), (109, .iadd, 1, []), (110, .iaload, 1, []), (111, .aload_n 0, 1, []), (112, .iload 4, 2, []), (114, .iconst 4, 1, []), (115, .iadd, 1, []), (116, .iaload, 1, []), (117, .aload_n 0, 1, []), (118, .iload 4, 2, []), (120, .iconst 5, 1, []), (121, .iadd, 1, []), (122, .iaload, 1, [])] (pc' := 123) (lv' := [(4, .int 0), (3, .ref 166), (2, .ref 81), (1, .ref 40), (0, .ref 39)]) (st' := [.int (xs 5), .int (xs 4), .int (xs 3), .int (xs 2), .int (xs 1), .ref 40]) (S' := z_F []) (by decide +kernel) rfl ?_
  refine z_Rn.callv (idx := 28) (mj := 14) (na := 5) (q := 361) (b := 40) (as := [.int (xs 1), .int (xs 2), .int (xs 3), .int (xs 4), .int (xs 5)]) (rr := []) (v := none) (S1 := z_F l) (by decide +kernel) rfl rfl ⟨by decide +kernel, Nat.le_of_ble_eq_true rfl, Nat.le_of_ble_eq_true rfl⟩ (z_Fok _ _) h1 ?_
  refine z_Rn.blk [(126, .aload_n 2, 1, []), (127, .aload_n 0, 1, []), (128, .iload 4, 2, []), (130, .iconst 1, 1, []), (131, .iadd, 1, []), (132, .iaload, 1, []), (133, .aload_n 0, 1, []), (134, .iload 4, 2, []), (136, .iconst 2, 1, []), (137, .iadd, 1, []), (138, .iaload, 1, []), (139, .aload_n 0, 1, []), (140, .iload 4, 2, []), (142, .iconst 3, 1, []), (143, .iadd, 1, []), (144, .iaload, 1, []), (145, .aload_n 0, 1, []), (146, .iload 4, 2, []), (148, .iconst 4, 1, []), (149, .iadd, 1, []), (150, .iaload, 1, []), (151, .aload_n 0, 1, []), (152, .iload 4, 2, []), (154, .iconst 5, 1, []), (155, .iadd, 1, []), (156, .iaload, 1, [])] (pc' := 157) (lv' := [(4, .int 0), (3, .ref 166), (2, .ref 81), (1, .ref 40), (0, .ref 39)]) (st' := [.int (xs 5), .int (xs 4), .int (xs 3), .int (xs 2), .int (xs 1), .ref 81]) (S' := z_F l) (by decide +kernel) rfl ?_
  refine z_Rn.callv (idx := 32) (mj := 44) (na := 5) (q := 362) (b := 81) (as := [.int (xs 1), .int (xs 2), .int (xs 3), .int (xs 4), .int (xs 5)]) (rr := []) (v := none) (S1 := z_Mm l m) (by decide +kernel) rfl rfl ⟨by decide +kernel, Nat.le_of_ble_eq_true rfl, Nat.le_of_ble_eq_true rfl⟩ (z_FMok _ _ _) h2 ?_
  refine z_Rn.blk [(160, .goto 252, 3, [412])] (pc' := 412) (lv' := [(4, .int 0), (3, .ref 166), (2, .ref 81), (1, .ref 40), (0, .ref 39)]) (st' := []) (S' := z_Mm l m) (by decide +kernel) rfl ?_
  exact z_exit0
theorem z_and_i {a : Prop} [Decidable a] {b : Bool} (h : (decide a && b) = true) : a ∧ b = true := by
  rw [Bool.and_eq_true, decide_eq_true_eq] at h
  exact h
theorem z_case2 {xs : Nat → Int32} : ∃ S, z_Rn 6 xs 2048 84000 0 40 [(4, .int 0), (3, .ref 166), (2, .ref 81), (1, .ref 40), (0, .ref 39)] [.int 2] z_T3 (.inl (some (.int 1)), S) ∧ S.1.length ≤ 600002 ∧ S.2 ≤ 7302232 := by
  obtain ⟨a1, g1⟩ := z_and_i z_k_r1
  obtain ⟨a2, g2⟩ := z_and_i z_k_r2
  refine ⟨z_Sr2, ?_, (z_ge_i g2).2.1⟩
  refine z_Rn.blk [(40, .tableswitch 372 0 8 #[52, 123, 148, 192, 217, 242, 267, 291, 347], 52, [412, 92, 163, 188, 232, 257, 282, 307, 331, 387]), (188, .aload_n 1, 1, []), (189, .aload_n 3, 1, [])] (pc' := 190) (lv' := [(4, .int 0), (3, .ref 166), (2, .ref 81), (1, .ref 40), (0, .ref 39)]) (st' := [.ref 166, .ref 40]) (S' := z_T3) (by decide +kernel) rfl ?_
  refine z_Rn.calls (idx := 37) (mj := 24) (na := 2) (q := 365) (as := [.ref 40, .ref 166]) (rr := []) (v := some (.int 1)) (S1 := z_Sr1) (by decide +kernel) rfl ⟨by decide +kernel, Nat.le_of_ble_eq_true rfl, Nat.le_of_ble_eq_true rfl⟩ ⟨(z_ge_i z_ge_33).2.1, (z_ge_i g1).1⟩ (z_Rn.closed (z_out_ok a1) (by decide +kernel) (by decide +kernel)) ?_
  refine z_Rn.blk [(193, .istore 5, 2, []), (195, .aload_n 2, 1, [])] (pc' := 196) (lv' := [(5, .int 1), (4, .int 0), (3, .ref 166), (2, .ref 81), (1, .ref 40), (0, .ref 39)]) (st' := [.ref 81]) (S' := z_Sr1) (by decide +kernel) rfl ?_
  refine z_Rn.callv (idx := 42) (mj := 46) (na := 0) (q := 366) (b := 81) (as := []) (rr := []) (v := some (.int 0)) (S1 := z_Sr2) (by decide +kernel) rfl (z_ge_i g1).2.2.2 ⟨by decide +kernel, Nat.le_of_ble_eq_true rfl, Nat.le_of_ble_eq_true rfl⟩ ⟨(z_ge_i g1).2.1, (z_ge_i g2).1⟩ (z_Rn.closed (z_out_ok a2) (by decide +kernel) (by decide +kernel)) ?_
  refine z_Rn.blk [(199, .istore 6, 2, []), (201, .aload_n 2, 1, [])] (pc' := 202) (lv' := [(6, .int 0), (5, .int 1), (4, .int 0), (3, .ref 166), (2, .ref 81), (1, .ref 40), (0, .ref 39)]) (st' := [.ref 81]) (S' := z_Sr2) (by decide +kernel) rfl ?_
  refine z_Rn.callv (idx := 43) (mj := 43) (na := 0) (q := 367) (b := 81) (as := []) (rr := []) (v := some (.int 1)) (S1 := z_Sr2) (by decide +kernel) rfl (z_ge_i g2).2.2.2 ⟨by decide +kernel, Nat.le_of_ble_eq_true rfl, Nat.le_of_ble_eq_true rfl⟩ ⟨(z_ge_i g2).2.1, Nat.le_refl _, Nat.le_refl _⟩ (z_Rn.closed z_k_r3 (by decide +kernel) (by decide +kernel)) ?_
  refine z_Rn.blk [(205, .iload 5, 2, [])] (pc' := 207) (lv' := [(6, .int 0), (5, .int 1), (4, .int 0), (3, .ref 166), (2, .ref 81), (1, .ref 40), (0, .ref 39)]) (st' := [.int 1, .int 1]) (S' := z_Sr2) (by decide +kernel) rfl ?_
  refine z_Rn.blk [(207, .if_icmp .eq 5, 3, [212])] (pc' := 212) (lv' := [(6, .int 0), (5, .int 1), (4, .int 0), (3, .ref 166), (2, .ref 81), (1, .ref 40), (0, .ref 39)]) (st' := []) (S' := z_Sr2) (by decide +kernel) rfl ?_
  refine z_Rn.blk [(212, .iload 5, 2, [])] (pc' := 214) (lv' := [(6, .int 0), (5, .int 1), (4, .int 0), (3, .ref 166), (2, .ref 81), (1, .ref 40), (0, .ref 39)]) (st' := [.int 1]) (S' := z_Sr2) (by decide +kernel) rfl ?_
  refine z_Rn.blk [(214, .ifCond .ne 15, 3, [229])] (pc' := 229) (lv' := [(6, .int 0), (5, .int 1), (4, .int 0), (3, .ref 166), (2, .ref 81), (1, .ref 40), (0, .ref 39)]) (st' := []) (S' := z_Sr2) (by decide +kernel) rfl ?_
  refine z_Rn.blk [(229, .goto 183, 3, [412])] (pc' := 412) (lv' := [(6, .int 0), (5, .int 1), (4, .int 0), (3, .ref 166), (2, .ref 81), (1, .ref 40), (0, .ref 39)]) (st' := []) (S' := z_Sr2) (by decide +kernel) rfl ?_
  exact z_exit6
theorem z_case6 {xs : Nat → Int32} : ∃ S, z_Rn 6 xs 2048 84000 0 40 [(4, .int 0), (3, .ref 166), (2, .ref 81), (1, .ref 40), (0, .ref 39)] [.int 6] z_T3 (.inl (some (.int 1)), S) ∧ S.1.length ≤ 600002 ∧ S.2 ≤ 7302232 := by
  obtain ⟨a1, g1⟩ := z_and_i z_k_s1
  obtain ⟨a2, g2⟩ := z_and_i z_k_s2
  refine ⟨z_Ss2, ?_, (z_ge_i g2).2.1⟩
  refine z_Rn.blk [(40, .tableswitch 372 0 8 #[52, 123, 148, 192, 217, 242, 267, 291, 347], 52, [412, 92, 163, 188, 232, 257, 282, 307, 331, 387]), (307, .aload_n 1, 1, [])] (pc' := 308) (lv' := [(4, .int 0), (3, .ref 166), (2, .ref 81), (1, .ref 40), (0, .ref 39)]) (st' := [.ref 40]) (S' := z_T3) (by decide +kernel) rfl ?_
  refine z_Rn.calls (idx := 58) (mj := 38) (na := 1) (q := 374) (as := [.ref 40]) (rr := []) (v := some (.int 1)) (S1 := z_Ss1) (by decide +kernel) rfl ⟨by decide +kernel, Nat.le_of_ble_eq_true rfl, Nat.le_of_ble_eq_true rfl⟩ ⟨(z_ge_i z_ge_33).2.1, (z_ge_i g1).1⟩ (z_Rn.closed (z_out_ok a1) (by decide +kernel) (by decide +kernel)) ?_
  refine z_Rn.blk [(311, .istore 5, 2, []), (313, .aload_n 2, 1, [])] (pc' := 314) (lv' := [(5, .int 1), (4, .int 0), (3, .ref 166), (2, .ref 81), (1, .ref 40), (0, .ref 39)]) (st' := [.ref 81]) (S' := z_Ss1) (by decide +kernel) rfl ?_
  refine z_Rn.callv (idx := 61) (mj := 61) (na := 0) (q := 375) (b := 81) (as := []) (rr := []) (v := none) (S1 := z_Ss2) (by decide +kernel) rfl (z_ge_i g1).2.2.2 ⟨by decide +kernel, Nat.le_of_ble_eq_true rfl, Nat.le_of_ble_eq_true rfl⟩ ⟨(z_ge_i g1).2.1, (z_ge_i g2).1⟩ (z_Rn.closed (z_out_ok a2) (by decide +kernel) (by decide +kernel)) ?_
  refine z_Rn.blk [(317, .aload_n 2, 1, [])] (pc' := 318) (lv' := [(5, .int 1), (4, .int 0), (3, .ref 166), (2, .ref 81), (1, .ref 40), (0, .ref 39)]) (st' := [.ref 81]) (S' := z_Ss2) (by decide +kernel) rfl ?_
  refine z_Rn.callv (idx := 43) (mj := 43) (na := 0) (q := 367) (b := 81) (as := []) (rr := []) (v := some (.int 1)) (S1 := z_Ss2) (by decide +kernel) rfl (z_ge_i g2).2.2.2 ⟨by decide +kernel, Nat.le_of_ble_eq_true rfl, Nat.le_of_ble_eq_true rfl⟩ ⟨(z_ge_i g2).2.1, Nat.le_refl _, Nat.le_refl _⟩ (z_Rn.closed z_k_s3 (by decide +kernel) (by decide +kernel)) ?_
  refine z_Rn.blk [(321, .iload 5, 2, [])] (pc' := 323) (lv' := [(5, .int 1), (4, .int 0), (3, .ref 166), (2, .ref 81), (1, .ref 40), (0, .ref 39)]) (st' := [.int 1, .int 1]) (S' := z_Ss2) (by decide +kernel) rfl ?_
  refine z_Rn.blk [(323, .if_icmp .eq 5, 3, [328])] (pc' := 328) (lv' := [(5, .int 1), (4, .int 0), (3, .ref 166), (2, .ref 81), (1, .ref 40), (0, .ref 39)]) (st' := []) (S' := z_Ss2) (by decide +kernel) rfl ?_
  refine z_Rn.blk [(328, .goto 84, 3, [412])] (pc' := 412) (lv' := [(5, .int 1), (4, .int 0), (3, .ref 166), (2, .ref 81), (1, .ref 40), (0, .ref 39)]) (st' := []) (S' := z_Ss2) (by decide +kernel) rfl ?_
  exact z_exit5
theorem z_ge_34 : z_ge z_T3 z_T4 = true := by decide +kernel
theorem z_ge_45 : z_ge z_T4 z_T5 = true := by decide +kernel
theorem z_case7 {xs : Nat → Int32} : ∃ S, z_Rn 6 xs 2048 84000 0 40 [(4, .int 0), (3, .ref 166), (2, .ref 81), (1, .ref 40), (0, .ref 39)] [.int 7] z_T3 (.inl (some (.int 1)), S) ∧ S.1.length ≤ 600002 ∧ S.2 ≤ 7302232 := by
  refine ⟨z_T5, ?_, (z_ge_i z_ge_45).2.1⟩
  refine z_Rn.blk [(40, .tableswitch 372 0 8 #[52, 123, 148, 192, 217, 242, 267, 291, 347], 52, [412, 92, 163, 188, 232, 257, 282, 307, 331, 387]), (331, .aload_n 1, 1, []), (332, .aload_n 0, 1, []), (333, .iload 4, 2, []), (335, .iconst 1, 1, []), (336, .iadd, 1, []), (337, .iaload, 1, []), (338, .aload_n 3, 1, [])] (pc' := 339) (lv' := [(4, .int 0), (3, .ref 166), (2, .ref 81), (1, .ref 40), (0, .ref 39)]) (st' := [.ref 166, .int (xs 1), .ref 40]) (S' := z_T3) (by decide +kernel) rfl ?_
  refine z_Rn.calls (idx := 62) (mj := 40) (na := 3) (q := 376) (as := [.ref 40, .int (xs 1), .ref 166]) (rr := []) (v := some (.int 1)) (S1 := z_T4) (by decide +kernel) rfl ⟨by decide +kernel, Nat.le_of_ble_eq_true rfl, Nat.le_of_ble_eq_true rfl⟩ ⟨(z_ge_i z_ge_33).2.1, (z_ge_i z_ge_34).1⟩ (z_y40 (by decide) (by decide +kernel)) ?_
  refine z_Rn.blk [(342, .istore 5, 2, []), (344, .aload_n 2, 1, []), (345, .aload_n 0, 1, []), (346, .iload 4, 2, []), (348, .iconst 1, 1, []), (349, .iadd, 1, []), (350, .iaload, 1, [])] (pc' := 351) (lv' := [(5, .int 1), (4, .int 0), (3, .ref 166), (2, .ref 81), (1, .ref 40), (0, .ref 39)]) (st' := [.int (xs 1), .ref 81]) (S' := z_T4) (by decide +kernel) rfl ?_
  refine z_Rn.callv (idx := 65) (mj := 62) (na := 1) (q := 377) (b := 81) (as := [.int (xs 1)]) (rr := []) (v := some (.int 0)) (S1 := z_T5) (by decide +kernel) rfl (by decide +kernel) ⟨by decide +kernel, Nat.le_of_ble_eq_true rfl, Nat.le_of_ble_eq_true rfl⟩ ⟨(z_ge_i z_ge_34).2.1, (z_ge_i z_ge_45).1⟩ z_y62 ?_
  refine z_Rn.blk [(354, .istore 6, 2, []), (356, .aload_n 2, 1, [])] (pc' := 357) (lv' := [(6, .int 0), (5, .int 1), (4, .int 0), (3, .ref 166), (2, .ref 81), (1, .ref 40), (0, .ref 39)]) (st' := [.ref 81]) (S' := z_T5) (by decide +kernel) rfl ?_
  refine z_Rn.callv (idx := 43) (mj := 43) (na := 0) (q := 367) (b := 81) (as := []) (rr := []) (v := some (.int 1)) (S1 := z_T5) (by decide +kernel) rfl (by decide +kernel) ⟨by decide +kernel, Nat.le_of_ble_eq_true rfl, Nat.le_of_ble_eq_true rfl⟩ ⟨(z_ge_i z_ge_45).2.1, Nat.le_refl _, Nat.le_refl _⟩ z_y43 ?_
  refine z_Rn.blk [(360, .iload 5, 2, [])] (pc' := 362) (lv' := [(6, .int 0), (5, .int 1), (4, .int 0), (3, .ref 166), (2, .ref 81), (1, .ref 40), (0, .ref 39)]) (st' := [.int 1, .int 1]) (S' := z_T5) (by decide +kernel) rfl ?_
  refine z_Rn.blk [(362, .if_icmp .eq 5, 3, [367])] (pc' := 367) (lv' := [(6, .int 0), (5, .int 1), (4, .int 0), (3, .ref 166), (2, .ref 81), (1, .ref 40), (0, .ref 39)]) (st' := []) (S' := z_T5) (by decide +kernel) rfl ?_
  refine z_Rn.blk [(367, .iload 5, 2, [])] (pc' := 369) (lv' := [(6, .int 0), (5, .int 1), (4, .int 0), (3, .ref 166), (2, .ref 81), (1, .ref 40), (0, .ref 39)]) (st' := [.int 1]) (S' := z_T5) (by decide +kernel) rfl ?_
  refine z_Rn.blk [(369, .ifCond .ne 15, 3, [384])] (pc' := 384) (lv' := [(6, .int 0), (5, .int 1), (4, .int 0), (3, .ref 166), (2, .ref 81), (1, .ref 40), (0, .ref 39)]) (st' := []) (S' := z_T5) (by decide +kernel) rfl ?_
  refine z_Rn.blk [(384, .goto 28, 3, [412])] (pc' := 412) (lv' := [(6, .int 0), (5, .int 1), (4, .int 0), (3, .ref 166), (2, .ref 81), (1, .ref 40), (0, .ref 39)]) (st' := []) (S' := z_T5) (by decide +kernel) rfl ?_
  exact z_exit6
theorem z_case9 {xs : Nat → Int32} : ∃ S, z_Rn 6 xs 2048 84000 0 40 [(4, .int 0), (3, .ref 166), (2, .ref 81), (1, .ref 40), (0, .ref 39)] [.int 9] z_T3 (.inl (some (.int 1)), S) ∧ S.1.length ≤ 600002 ∧ S.2 ≤ 7302232 := by
  refine ⟨z_T3, ?_, (z_ge_i z_ge_33).2.1⟩
  refine z_Rn.blk [(40, .tableswitch 372 0 8 #[52, 123, 148, 192, 217, 242, 267, 291, 347], 52, [412, 92, 163, 188, 232, 257, 282, 307, 331, 387])] (pc' := 412) (lv' := [(4, .int 0), (3, .ref 166), (2, .ref 81), (1, .ref 40), (0, .ref 39)]) (st' := []) (S' := z_T3) (by decide +kernel) rfl ?_
  exact z_exit0
theorem z_case10 {xs : Nat → Int32} : ∃ S, z_Rn 6 xs 2048 84000 0 40 [(4, .int 0), (3, .ref 166), (2, .ref 81), (1, .ref 40), (0, .ref 39)] [.int 10] z_T3 (.inl (some (.int 1)), S) ∧ S.1.length ≤ 600002 ∧ S.2 ≤ 7302232 := by
  refine ⟨z_T3, ?_, (z_ge_i z_ge_33).2.1⟩
  refine z_Rn.blk [(40, .tableswitch 372 0 8 #[52, 123, 148, 192, 217, 242, 267, 291, 347], 52, [412, 92, 163, 188, 232, 257, 282, 307, 331, 387])] (pc' := 412) (lv' := [(4, .int 0), (3, .ref 166), (2, .ref 81), (1, .ref 40), (0, .ref 39)]) (st' := []) (S' := z_T3) (by decide +kernel) rfl ?_
  exact z_exit0
theorem z_case11 {xs : Nat → Int32} : ∃ S, z_Rn 6 xs 2048 84000 0 40 [(4, .int 0), (3, .ref 166), (2, .ref 81), (1, .ref 40), (0, .ref 39)] [.int 11] z_T3 (.inl (some (.int 1)), S) ∧ S.1.length ≤ 600002 ∧ S.2 ≤ 7302232 := by
  refine ⟨z_T3, ?_, (z_ge_i z_ge_33).2.1⟩
  refine z_Rn.blk [(40, .tableswitch 372 0 8 #[52, 123, 148, 192, 217, 242, 267, 291, 347], 52, [412, 92, 163, 188, 232, 257, 282, 307, 331, 387])] (pc' := 412) (lv' := [(4, .int 0), (3, .ref 166), (2, .ref 81), (1, .ref 40), (0, .ref 39)]) (st' := []) (S' := z_T3) (by decide +kernel) rfl ?_
  exact z_exit0
theorem z_case12 {xs : Nat → Int32} : ∃ S, z_Rn 6 xs 2048 84000 0 40 [(4, .int 0), (3, .ref 166), (2, .ref 81), (1, .ref 40), (0, .ref 39)] [.int 12] z_T3 (.inl (some (.int 1)), S) ∧ S.1.length ≤ 600002 ∧ S.2 ≤ 7302232 := by
  refine ⟨z_T3, ?_, (z_ge_i z_ge_33).2.1⟩
  refine z_Rn.blk [(40, .tableswitch 372 0 8 #[52, 123, 148, 192, 217, 242, 267, 291, 347], 52, [412, 92, 163, 188, 232, 257, 282, 307, 331, 387])] (pc' := 412) (lv' := [(4, .int 0), (3, .ref 166), (2, .ref 81), (1, .ref 40), (0, .ref 39)]) (st' := []) (S' := z_T3) (by decide +kernel) rfl ?_
  exact z_exit0
theorem z_case13 {xs : Nat → Int32} : ∃ S, z_Rn 6 xs 2048 84000 0 40 [(4, .int 0), (3, .ref 166), (2, .ref 81), (1, .ref 40), (0, .ref 39)] [.int 13] z_T3 (.inl (some (.int 1)), S) ∧ S.1.length ≤ 600002 ∧ S.2 ≤ 7302232 := by
  refine ⟨z_T3, ?_, (z_ge_i z_ge_33).2.1⟩
  refine z_Rn.blk [(40, .tableswitch 372 0 8 #[52, 123, 148, 192, 217, 242, 267, 291, 347], 52, [412, 92, 163, 188, 232, 257, 282, 307, 331, 387])] (pc' := 412) (lv' := [(4, .int 0), (3, .ref 166), (2, .ref 81), (1, .ref 40), (0, .ref 39)]) (st' := []) (S' := z_T3) (by decide +kernel) rfl ?_
  exact z_exit0
theorem z_case14 {xs : Nat → Int32} : ∃ S, z_Rn 6 xs 2048 84000 0 40 [(4, .int 0), (3, .ref 166), (2, .ref 81), (1, .ref 40), (0, .ref 39)] [.int 14] z_T3 (.inl (some (.int 1)), S) ∧ S.1.length ≤ 600002 ∧ S.2 ≤ 7302232 := by
  refine ⟨z_T3, ?_, (z_ge_i z_ge_33).2.1⟩
  refine z_Rn.blk [(40, .tableswitch 372 0 8 #[52, 123, 148, 192, 217, 242, 267, 291, 347], 52, [412, 92, 163, 188, 232, 257, 282, 307, 331, 387])] (pc' := 412) (lv' := [(4, .int 0), (3, .ref 166), (2, .ref 81), (1, .ref 40), (0, .ref 39)]) (st' := []) (S' := z_T3) (by decide +kernel) rfl ?_
  exact z_exit0
theorem z_case15 {xs : Nat → Int32} : ∃ S, z_Rn 6 xs 2048 84000 0 40 [(4, .int 0), (3, .ref 166), (2, .ref 81), (1, .ref 40), (0, .ref 39)] [.int 15] z_T3 (.inl (some (.int 1)), S) ∧ S.1.length ≤ 600002 ∧ S.2 ≤ 7302232 := by
  refine ⟨z_T3, ?_, (z_ge_i z_ge_33).2.1⟩
  refine z_Rn.blk [(40, .tableswitch 372 0 8 #[52, 123, 148, 192, 217, 242, 267, 291, 347], 52, [412, 92, 163, 188, 232, 257, 282, 307, 331, 387])] (pc' := 412) (lv' := [(4, .int 0), (3, .ref 166), (2, .ref 81), (1, .ref 40), (0, .ref 39)]) (st' := []) (S' := z_T3) (by decide +kernel) rfl ?_
  exact z_exit0
theorem z_nat {a : Int32} {n : Int} (h0 : ¬ a.toInt < 0) (h1 : ¬ n < a.toInt) : ∃ k : Nat, (k : Int) ≤ n ∧ a = Int32.ofNat k := by
  obtain ⟨k, hk⟩ := Int.eq_ofNat_of_zero_le (Int.not_lt.mp h0)
  refine ⟨k, by omega, ?_⟩
  have h2 : a = Int32.ofInt a.toInt := (Int32.ofInt_toInt a).symm
  rw [hk] at h2
  exact h2.trans (congrArg Int32.ofBitVec (BitVec.ofInt_natCast 32 k))
theorem z_lt0 {a : Int32} : a < 0 ↔ a.toInt < 0 := by
  rw [Int32.lt_iff_toInt_lt]
  exact Iff.rfl
theorem z_gt20 {a : Int32} : 20 < a ↔ 20 < a.toInt := by
  rw [Int32.lt_iff_toInt_lt]
  exact Iff.rfl
theorem z_case1 {xs : Nat → Int32} : ∃ S, z_Rn 6 xs 2048 84000 0 40 [(4, .int 0), (3, .ref 166), (2, .ref 81), (1, .ref 40), (0, .ref 39)] [.int 1] z_T3 (.inl (some (.int 1)), S) ∧ S.1.length ≤ 600002 ∧ S.2 ≤ 7302232 := by
  by_cases h0 : xs 1 < 0
  · exact z_cmp1 (z_y16a h0) z_ge_33 (z_y45a h0) z_ge_33
  · by_cases h20 : 20 < xs 1
    · exact z_cmp1 (z_y16b h0 h20) z_ge_33 (z_y45b h0 h20) z_ge_33
    · obtain ⟨k, hk, h⟩ := z_nat (n := 20) (fun q => h0 (z_lt0.mpr q)) (fun q => h20 (z_gt20.mpr q))
      obtain ⟨S1, S2, h1, g1, h2, g2⟩ := z_two_i (z_k_end k (by omega))
      exact z_cmp1 (by rw [h]; exact z_Rn.closed h1 (by decide +kernel) (by decide +kernel)) g1 (by rw [h]; exact z_Rn.closed h2 (by decide +kernel) (by decide +kernel)) g2
theorem z_case3 {xs : Nat → Int32} : ∃ S, z_Rn 6 xs 2048 84000 0 40 [(4, .int 0), (3, .ref 166), (2, .ref 81), (1, .ref 40), (0, .ref 39)] [.int 3] z_T3 (.inl (some (.int 1)), S) ∧ S.1.length ≤ 600002 ∧ S.2 ≤ 7302232 := by
  by_cases h : xs 1 = 0
  · skip
    obtain ⟨S1, S2, h1, g1, h2, g2⟩ := z_two_i z_k_f0
    exact z_cmp3 (by rw [h]; exact z_Rn.closed h1 (by decide +kernel) (by decide +kernel)) g1 (by rw [h]; exact z_Rn.closed h2 (by decide +kernel) (by decide +kernel)) g2
  · have h0 := h
    clear h
    by_cases h : xs 1 = 1
    · skip
      obtain ⟨S1, S2, h1, g1, h2, g2⟩ := z_two_i z_k_f1
      exact z_cmp3 (by rw [h]; exact z_Rn.closed h1 (by decide +kernel) (by decide +kernel)) g1 (by rw [h]; exact z_Rn.closed h2 (by decide +kernel) (by decide +kernel)) g2
    · exact z_cmp3 (z_y19 h0 h) z_ge_33 (z_y57 h0 h) z_ge_33
theorem z_case4 {xs : Nat → Int32} : ∃ S, z_Rn 6 xs 2048 84000 0 40 [(4, .int 0), (3, .ref 166), (2, .ref 81), (1, .ref 40), (0, .ref 39)] [.int 4] z_T3 (.inl (some (.int 1)), S) ∧ S.1.length ≤ 600002 ∧ S.2 ≤ 7302232 := z_cmp4 (z_y20 (by decide) (by decide +kernel)) z_ge_33 (z_y58 (by decide) (by decide +kernel)) z_ge_33
theorem z_case5 {xs : Nat → Int32} : ∃ S, z_Rn 6 xs 2048 84000 0 40 [(4, .int 0), (3, .ref 166), (2, .ref 81), (1, .ref 40), (0, .ref 39)] [.int 5] z_T3 (.inl (some (.int 1)), S) ∧ S.1.length ≤ 600002 ∧ S.2 ≤ 7302232 := by
  by_cases h : xs 1 = -1
  · skip
    obtain ⟨S1, S2, h1, g1, h2, g2⟩ := z_two_i z_k_ef
    exact z_cmp5 (by rw [h]; exact z_Rn.closed h1 (by decide +kernel) (by decide +kernel)) g1 (by rw [h]; exact z_Rn.closed h2 (by decide +kernel) (by decide +kernel)) g2
  · exact z_cmp5 (z_y22 (by decide) (by decide +kernel) h) z_ge_33 (z_y60 (by decide) (by decide +kernel) h) z_ge_33
theorem z_case8 {xs : Nat → Int32} : ∃ S, z_Rn 6 xs 2048 84000 0 40 [(4, .int 0), (3, .ref 166), (2, .ref 81), (1, .ref 40), (0, .ref 39)] [.int 8] z_T3 (.inl (some (.int 1)), S) ∧ S.1.length ≤ 600002 ∧ S.2 ≤ 7302232 := by
  by_cases h0 : (xs 1).toInt < 0 ∨ 5 < (xs 1).toInt
  · exact z_cmp8 (z_y23 h0) z_ge_33 (z_y63 h0) z_ge_33
  · obtain ⟨k, hk, h⟩ := z_nat (n := 5) (fun q => h0 (Or.inl q)) (fun q => h0 (Or.inr q))
    obtain ⟨S1, S2, h1, g1, h2, g2⟩ := z_two_i (z_k_st k (by omega))
    exact z_cmp8 (by rw [h]; exact z_Rn.closed h1 (by decide +kernel) (by decide +kernel)) g1 (by rw [h]; exact z_Rn.closed h2 (by decide +kernel) (by decide +kernel)) g2
theorem z_and15 (x : Int32) : ∃ k : Nat, k < 16 ∧ x &&& 15 = Int32.ofNat k := by
  refine ⟨(x &&& 15).toBitVec.toNat, ?_, ?_⟩
  · have h : (x &&& 15).toBitVec = x.toBitVec &&& (15 : Int32).toBitVec := Int32.toBitVec_and x 15
    rw [h, BitVec.toNat_and]
    have h2 : ((15 : Int32).toBitVec).toNat = 15 := by decide
    rw [h2]
    have h3 := Nat.and_le_right (n := x.toBitVec.toNat) (m := 15)
    omega
  · apply Int32.toBitVec_inj.mp
    show (x &&& 15).toBitVec = BitVec.ofNat 32 _
    rw [BitVec.ofNat_toNat, BitVec.setWidth_eq]
theorem z_cases {xs : Nat → Int32} (k : Nat) (hk : k < 16) : ∃ S, z_Rn 6 xs 2048 84000 0 40 [(4, .int 0), (3, .ref 166), (2, .ref 81), (1, .ref 40), (0, .ref 39)] [.int (Int32.ofNat k)] z_T3 (.inl (some (.int 1)), S) ∧ S.1.length ≤ 600002 ∧ S.2 ≤ 7302232 := match k, hk with
  | 0, _ => z_case0
  | 1, _ => z_case1
  | 2, _ => z_case2
  | 3, _ => z_case3
  | 4, _ => z_case4
  | 5, _ => z_case5
  | 6, _ => z_case6
  | 7, _ => z_case7
  | 8, _ => z_case8
  | 9, _ => z_case9
  | 10, _ => z_case10
  | 11, _ => z_case11
  | 12, _ => z_case12
  | 13, _ => z_case13
  | 14, _ => z_case14
  | 15, _ => z_case15
  | n + 16, h => absurd h (by omega)
theorem z_toRun {L : Nat} {xs : Nat → Int32} (h : ∃ S, z_Rn L xs 2048 84000 0 0 [(0, .ref 39)] [] ([], 0) (.inl (some (.int 1)), S) ∧ S.1.length ≤ 600002 ∧ S.2 ≤ 7302232) : z_Run L xs := by
  obtain ⟨S, ⟨n, hn⟩, h1, h2⟩ := h
  exact ⟨n, S, hn, h1, h2⟩
theorem z_all (L : Nat) (hL : L ≤ 6) (xs : Nat → Int32) : z_Run L xs := z_toRun (match L, hL with
  | 0, _ => ⟨z_T3, z_begin z_short0, (z_ge_i z_ge_33).2.1⟩
  | 1, _ => ⟨z_T3, z_begin z_short1, (z_ge_i z_ge_33).2.1⟩
  | 2, _ => ⟨z_T3, z_begin z_short2, (z_ge_i z_ge_33).2.1⟩
  | 3, _ => ⟨z_T3, z_begin z_short3, (z_ge_i z_ge_33).2.1⟩
  | 4, _ => ⟨z_T3, z_begin z_short4, (z_ge_i z_ge_33).2.1⟩
  | 5, _ => ⟨z_T3, z_begin z_short5, (z_ge_i z_ge_33).2.1⟩
  | 6, _ => by
    obtain ⟨k, hk, h⟩ := z_and15 (xs 0)
    obtain ⟨S, h1, h2⟩ := z_cases (xs := xs) k hk
    rw [← h] at h1
    exact ⟨S, z_begin (z_sw h1), h2⟩
  | n + 7, h => absurd h (by omega))
end
section
/-! The claim out of z_law and z_all. -/
def lw_P (b : Addr) (xs : List Int32) (args : Array Value) (s : State) : Prop := args = #[.ref b] ∧ s.IntsAt b xs ∧ xs.length ≤ 6 ∧ (Jvm.Cond.and given_1 narrow_1).before args s = true
set_option maxHeartbeats 4000000 in
theorem lw_walk (l : Launch) (htr : ∀ e, l.admits e → e.platform.stackTraces = false) (b : Addr) (xs : List Int32) : MetFree l x (headSpec (Jvm.Cond.code x code maxLocals ret :: tables_1) room_1) (lw_P b xs) (fun _ _ _ _ _ => True) lw_Q := by
  refine MetFree.of_bodyS (code := code) (maxLocals := maxLocals) (ret := ret) (by decide) ?_ ?_
  · intro args s m h hn
    obtain ⟨meth, c, h1, h2, h3, h4, h5, h6, -, -⟩ := Cond.code_spec hn (atoms_spec (ws := Jvm.Cond.code x code maxLocals ret :: tables_1) h _ List.mem_cons_self)
    exact ⟨meth, c, h1, h2, h3, h4, h5, h6⟩
  · intro p e s m args below meth c s₁ B hml0 hP _
    obtain ⟨rfl, hx, hbd, hgv⟩ := hP
    obtain ⟨scr, harrAt, hlist, hof, hsmall⟩ := hx
    obtain ⟨hcb, hkn, -, -⟩ := State.arrayAt?_spec harrAt
    have hown : s.vm.findClass R_law = some m.cls := findClass_of_methodNamed B.named
    have hts0 : ∀ c ∈ (Jvm.Cond.code x code maxLocals ret :: tables_1), c.before #[Value.ref b] s = true := atoms_spec (ws := Jvm.Cond.code x code maxLocals ret :: tables_1) B.pre
    have hts : ∀ w ∈ lw_tbl, w.before #[Value.ref b] s = true := k2_hts_sels lw_privs (fun w hw => hts0 w (List.mem_cons_of_mem _ hw)) lw_privs_ok
    have hml : c.maxLocals = 7 := B.maxLocals_eq (hts0 _ List.mem_cons_self)
    have X₀ : Stand p l e room_1 s m #[Value.ref b] below meth c s₁ [] 0 0 := Stand.of_body B
    have hh0 : s₁.heap = s.heap := by rw [B.state]; rfl
    have hsz : scr.slots.size = xs.length := by rw [← Array.length_toList, hlist, List.length_map]
    have hval : ∀ j : Nat, j < xs.length → scr.slots[j]? = some (.int (xs.getD j 0)) := fun j hj => by
      rw [← Array.getElem?_toList, hlist]
      simp [hj]
    have hbl : b < s.heap.size := (Array.getElem?_eq_some_iff.mp hcb).1
    have hX : va_X b xs.length (fun j => xs.getD j 0) s s.heap := ⟨scr, hcb, hof, hkn, hsz, hval⟩
    have htb : c.exceptionTable.toList = [] := by
      obtain ⟨m', meth', c', hn', h1, h2, -, -, h5, -⟩ := z_cw_spec (hh := []) (hts0 _ List.mem_cons_self)
      cases B.named.symm.trans hn'
      cases B.method.symm.trans h1
      cases X₀.code.symm.trans h2
      exact h5
    have K : W p l e room_1 s m #[Value.ref b] below meth c s₁.heap [] 0 0 (lw_Z below #[Value.ref b] s) (entryFrame m ([Value.ref b] : List Value).toArray 7) := by
      rw [hh0]
      exact z_law htr ⟨B.exec, B.bytes, B.returns, hml, hown, hts, hX, hbl, B.notSynchronized, hgv, (name_of_methodNamed B.named B.method).1, htb, htr e B.admits⟩ (z_all xs.length hbd _)
    obtain ⟨t, a1, o, b1, b2, b3⟩ := K s₁ rfl X₀
    exact ⟨t, o, a1, b1, b2, b3⟩
theorem lw_pre_spec {args : Array Value} {s : State} (h : (Jvm.Cond.and given_1 narrow_1).before args s = true) (hr : rest_1_c.before args s = true) : ∃ (b : Addr) (xs : List Int32), lw_P b xs args s := by
  have hs := flat_of_before _ h
  have hq := flat_of_before _ hr
  have hc : (Cond.count 1).before args s = true := hs _ (by decide +kernel)
  have harr : (Cond.arrayOf (.arg 0) .int).before args s = true := hs _ (by decide +kernel)
  have hle : (Cond.le (.length (.arg 0)) (.int 6)).before args s = true := hs _ (by decide +kernel)
  have hlen : (Cond.isInt (.length (.arg 0))).before args s = true := hq _ (by decide +kernel)
  have hall : (Cond.all (.arg 0) (.isInt (.elem (.arg 0) (.index 0)))).before args s = true := hq _ (by decide +kernel)
  obtain ⟨b, xs, hb, hx⟩ := State.ints_of_pre rfl harr hlen hall
  have hsm : xs.length < 2 ^ 31 := hx.choose_spec.2.2.2
  have hev : (Term.length (.arg 0)).eval args s none [] s = some (.int xs.length.toInt32) := hx.length_eval hb
  have hv := Cond.le_ints hev (show (Term.int 6).eval args s none [] s = some (.int 6) from rfl)
  have hd : xs.length.toInt32 ≤ 6 := by
    simpa [Cond.before, Cond.holds, hv] using hle
  have hN : xs.length ≤ 6 := (Int32.ofNat_le_ofNat hsm (by decide)).mp (show Int32.ofNat xs.length ≤ Int32.ofNat 6 from hd)
  exact ⟨b, xs, Cond.one_arg hc (show args[0]? = some (.ref b) from hb), hx, hN, h⟩
theorem lw_comes (l : Launch) (htr : ∀ e, l.admits e → e.platform.stackTraces = false) : Comes l x (Jvm.Cond.code x code maxLocals ret :: tables_1) room_1 (fun tb e args s => Calls_1 tb e args s ∧ rest_1 tb e args s ∧ Pre_1 tb e args s)
    (fun _ _ args s o t => lw_Q args s o t) := by
  intro p e ha hc hk s m args below hf hfit hheap happ hpre
  obtain ⟨b, xs, hP⟩ := lw_pre_spec hpre.2.2 hpre.2.1
  obtain ⟨k, o, h1, h2, h3, hQ⟩ := lw_walk l htr b xs p e ha hc hk s m args below hf ((Spec.applies_iff_loose hf).mp happ).1 hP trivial
  exact ⟨k, o, h1, h2, h3, hQ⟩
theorem lw_frame {s t : State} {o : Outcome} {args : Array Value} (h : Framed s o t [] 600002 7302232) :
    Framed s o t (fieldLocs frame_1_writes args s ++ arrayLocs frame_1_arrays args s ++ staticLocs frame_1_statics s) 600002 7302232 := h
/-- a launch with that flag draws no stack traces -/
theorem lw_notrace {l : Launch} (hfl : l.flags = flags0) : ∀ e, l.admits e → e.platform.stackTraces = false := by
  intro e h
  have h1 := h.2.2.2.2.1
  have h2 : l.stackTraces = false := by
    unfold Launch.stackTraces
    rw [hfl]
    decide +kernel
  rw [h1]
  exact h2
theorem lw_limb (L : Cond) (hL : ∀ (args : Array Value) (s t : State), L.after args s (.returned (some (.int 1))) t = true) :
    ArmFor flags0 classFile x code maxLocals ret World_1 tables_1 room_1 Calls_1 rest_1 Pre_1
      (fun tb e a s o t => postC L tb e a s o t ∧ Framed s o t (fieldLocs frame_1_writes a s ++ arrayLocs frame_1_arrays a s ++ staticLocs frame_1_statics s) 600002 7302232) := by
  intro l hfl _ _ p e ha hc hk s m args below hf hfit hheap happ hpre
  obtain ⟨k, o, h1, h2, h3, rfl, hF⟩ := lw_comes l (lw_notrace hfl) p e ha hc hk s m args below hf hfit hheap happ hpre
  exact ⟨k, _, h1, h2, h3, hL args s _, lw_frame hF⟩
theorem i_vc : Claimed_1_1 ∧ Claimed_1_2 := ⟨lw_limb limb_1_1 (fun args s t => by simp [limb_1_1, Cond.after, Cond.holds, Cond.value]), lw_limb limb_1_2 (fun args s t => Cond.after_iff.mpr (by
  first | (rw [show limb_1_2 = Cond.eq .result (.int 1) from rfl, Cond.eq_ints (x := 1) (y := 1) rfl rfl]; simp; done) | (simp [limb_1_2, Cond.value, Term.eval]; done)))⟩
end
