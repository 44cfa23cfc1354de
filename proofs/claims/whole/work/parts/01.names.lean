-- ===== PART A: goes FIRST, ahead of the names: the tables' words, and 'selects' of the private methods out of them =====
/-- a private method of a class that the tables say can be made, by its rows of tables_1 -/
def lw_okq (q : MethodName × Nat) : Prop := (q.1.cls ≠ "java/lang/invoke/MethodHandle" ∧ q.1.cls ≠ "java/lang/invoke/VarHandle") ∧ Cond.instantiable q.1.cls q.2 ∈ tables_1 ∧ Cond.privateMethod q.1 ∈ tables_1 ∧ Cond.instanceMethod q.1 ∈ tables_1
theorem lw_p0 : lw_okq (⟨"BeforeItDrips", "refuse", "(I)I"⟩, 9) := ⟨⟨by decide +kernel, by decide +kernel⟩, List.mem_of_getElem? (i := 15) (by decide +kernel), List.mem_of_getElem? (i := 259) (by decide +kernel), List.mem_of_getElem? (i := 260) (by decide +kernel)⟩
theorem lw_p1 : lw_okq (⟨"BeforeItDrips", "rowFault", "(I)I"⟩, 9) := ⟨⟨by decide +kernel, by decide +kernel⟩, List.mem_of_getElem? (i := 15) (by decide +kernel), List.mem_of_getElem? (i := 271) (by decide +kernel), List.mem_of_getElem? (i := 272) (by decide +kernel)⟩
theorem lw_p2 : lw_okq (⟨"BeforeItDrips", "copyFault", "(II)I"⟩, 9) := ⟨⟨by decide +kernel, by decide +kernel⟩, List.mem_of_getElem? (i := 15) (by decide +kernel), List.mem_of_getElem? (i := 287) (by decide +kernel), List.mem_of_getElem? (i := 288) (by decide +kernel)⟩
theorem lw_p3 : lw_okq (⟨"BeforeItDrips", "isLicker", "(I)Z"⟩, 9) := ⟨⟨by decide +kernel, by decide +kernel⟩, List.mem_of_getElem? (i := 15) (by decide +kernel), List.mem_of_getElem? (i := 306) (by decide +kernel), List.mem_of_getElem? (i := 307) (by decide +kernel)⟩
theorem lw_p4 : lw_okq (⟨"BeforeItDrips", "wouldIn", "(LBeforeItDrips$Cone;I)I"⟩, 9) := ⟨⟨by decide +kernel, by decide +kernel⟩, List.mem_of_getElem? (i := 15) (by decide +kernel), List.mem_of_getElem? (i := 329) (by decide +kernel), List.mem_of_getElem? (i := 330) (by decide +kernel)⟩
theorem lw_p5 : lw_okq (⟨"BeforeItDrips$Cone", "isWetLower", "(II)Z"⟩, 16) := ⟨⟨by decide +kernel, by decide +kernel⟩, List.mem_of_getElem? (i := 29) (by decide +kernel), List.mem_of_getElem? (i := 362) (by decide +kernel), List.mem_of_getElem? (i := 363) (by decide +kernel)⟩
theorem lw_p6 : lw_okq (⟨"BeforeItDrips$Mind", "weigh", "(LBeforeItDrips$Cone;)V"⟩, 5) := ⟨⟨by decide +kernel, by decide +kernel⟩, List.mem_of_getElem? (i := 147) (by decide +kernel), List.mem_of_getElem? (i := 379) (by decide +kernel), List.mem_of_getElem? (i := 380) (by decide +kernel)⟩
theorem lw_p7 : lw_okq (⟨"BeforeItDrips$Cone", "eat", "(I)V"⟩, 16) := ⟨⟨by decide +kernel, by decide +kernel⟩, List.mem_of_getElem? (i := 29) (by decide +kernel), List.mem_of_getElem? (i := 397) (by decide +kernel), List.mem_of_getElem? (i := 398) (by decide +kernel)⟩
theorem lw_p8 : lw_okq (⟨"BeforeItDrips$Cone", "melt", "()V"⟩, 16) := ⟨⟨by decide +kernel, by decide +kernel⟩, List.mem_of_getElem? (i := 29) (by decide +kernel), List.mem_of_getElem? (i := 404) (by decide +kernel), List.mem_of_getElem? (i := 405) (by decide +kernel)⟩
theorem lw_p9 : lw_okq (⟨"BeforeItDrips$Cone", "runDown", "()V"⟩, 16) := ⟨⟨by decide +kernel, by decide +kernel⟩, List.mem_of_getElem? (i := 29) (by decide +kernel), List.mem_of_getElem? (i := 412) (by decide +kernel), List.mem_of_getElem? (i := 413) (by decide +kernel)⟩
theorem lw_p10 : lw_okq (⟨"BeforeItDrips$Cone", "fallOff", "()V"⟩, 16) := ⟨⟨by decide +kernel, by decide +kernel⟩, List.mem_of_getElem? (i := 29) (by decide +kernel), List.mem_of_getElem? (i := 416) (by decide +kernel), List.mem_of_getElem? (i := 417) (by decide +kernel)⟩
theorem lw_p11 : lw_okq (⟨"BeforeItDrips", "canAsk", "(II)Z"⟩, 9) := ⟨⟨by decide +kernel, by decide +kernel⟩, List.mem_of_getElem? (i := 15) (by decide +kernel), List.mem_of_getElem? (i := 449) (by decide +kernel), List.mem_of_getElem? (i := 450) (by decide +kernel)⟩
theorem lw_p12 : lw_okq (⟨"BeforeItDrips", "isSide", "(I)Z"⟩, 9) := ⟨⟨by decide +kernel, by decide +kernel⟩, List.mem_of_getElem? (i := 15) (by decide +kernel), List.mem_of_getElem? (i := 453) (by decide +kernel), List.mem_of_getElem? (i := 454) (by decide +kernel)⟩
theorem lw_p13 : lw_okq (⟨"BeforeItDrips$Kerb", "advance", "()V"⟩, 6) := ⟨⟨by decide +kernel, by decide +kernel⟩, List.mem_of_getElem? (i := 176) (by decide +kernel), List.mem_of_getElem? (i := 491) (by decide +kernel), List.mem_of_getElem? (i := 492) (by decide +kernel)⟩
theorem lw_p14 : lw_okq (⟨"BeforeItDrips$Kerb", "byteAt", "(I)I"⟩, 6) := ⟨⟨by decide +kernel, by decide +kernel⟩, List.mem_of_getElem? (i := 176) (by decide +kernel), List.mem_of_getElem? (i := 495) (by decide +kernel), List.mem_of_getElem? (i := 496) (by decide +kernel)⟩
theorem lw_p15 : lw_okq (⟨"BeforeItDrips$Kerb", "readNumber", "()V"⟩, 6) := ⟨⟨by decide +kernel, by decide +kernel⟩, List.mem_of_getElem? (i := 176) (by decide +kernel), List.mem_of_getElem? (i := 505) (by decide +kernel), List.mem_of_getElem? (i := 506) (by decide +kernel)⟩
def lw_privs_1 : List (MethodName × Nat) := [(⟨"BeforeItDrips", "refuse", "(I)I"⟩, 9), (⟨"BeforeItDrips", "rowFault", "(I)I"⟩, 9), (⟨"BeforeItDrips", "copyFault", "(II)I"⟩, 9), (⟨"BeforeItDrips", "isLicker", "(I)Z"⟩, 9), (⟨"BeforeItDrips", "wouldIn", "(LBeforeItDrips$Cone;I)I"⟩, 9), (⟨"BeforeItDrips$Cone", "isWetLower", "(II)Z"⟩, 16), (⟨"BeforeItDrips$Mind", "weigh", "(LBeforeItDrips$Cone;)V"⟩, 5), (⟨"BeforeItDrips$Cone", "eat", "(I)V"⟩, 16), (⟨"BeforeItDrips$Cone", "melt", "()V"⟩, 16), (⟨"BeforeItDrips$Cone", "runDown", "()V"⟩, 16), (⟨"BeforeItDrips$Cone", "fallOff", "()V"⟩, 16), (⟨"BeforeItDrips", "canAsk", "(II)Z"⟩, 9), (⟨"BeforeItDrips", "isSide", "(I)Z"⟩, 9), (⟨"BeforeItDrips$Kerb", "advance", "()V"⟩, 6), (⟨"BeforeItDrips$Kerb", "byteAt", "(I)I"⟩, 6), (⟨"BeforeItDrips$Kerb", "readNumber", "()V"⟩, 6)]
theorem lw_r1 : ∀ q ∈ lw_privs_1, lw_okq q := List.forall_mem_cons.mpr ⟨lw_p0, List.forall_mem_cons.mpr ⟨lw_p1, List.forall_mem_cons.mpr ⟨lw_p2, List.forall_mem_cons.mpr ⟨lw_p3, List.forall_mem_cons.mpr ⟨lw_p4, List.forall_mem_cons.mpr ⟨lw_p5, List.forall_mem_cons.mpr ⟨lw_p6, List.forall_mem_cons.mpr ⟨lw_p7, List.forall_mem_cons.mpr ⟨lw_p8, List.forall_mem_cons.mpr ⟨lw_p9, List.forall_mem_cons.mpr ⟨lw_p10, List.forall_mem_cons.mpr ⟨lw_p11, List.forall_mem_cons.mpr ⟨lw_p12, List.forall_mem_cons.mpr ⟨lw_p13, List.forall_mem_cons.mpr ⟨lw_p14, List.forall_mem_cons.mpr ⟨lw_p15, fun _ h => absurd h List.not_mem_nil⟩⟩⟩⟩⟩⟩⟩⟩⟩⟩⟩⟩⟩⟩⟩⟩
theorem lw_p16 : lw_okq (⟨"BeforeItDrips$Kerb", "readStatement", "(LBeforeItDrips$World;)Z"⟩, 6) := ⟨⟨by decide +kernel, by decide +kernel⟩, List.mem_of_getElem? (i := 176) (by decide +kernel), List.mem_of_getElem? (i := 509) (by decide +kernel), List.mem_of_getElem? (i := 510) (by decide +kernel)⟩
theorem lw_p17 : lw_okq (⟨"BeforeItDrips$Kerb", "isWord", "(Ljava/lang/String;)Z"⟩, 6) := ⟨⟨by decide +kernel, by decide +kernel⟩, List.mem_of_getElem? (i := 176) (by decide +kernel), List.mem_of_getElem? (i := 514) (by decide +kernel), List.mem_of_getElem? (i := 515) (by decide +kernel)⟩
theorem lw_p18 : lw_okq (⟨"BeforeItDrips$Kerb", "readSides", "(LBeforeItDrips$Cone;)Z"⟩, 6) := ⟨⟨by decide +kernel, by decide +kernel⟩, List.mem_of_getElem? (i := 176) (by decide +kernel), List.mem_of_getElem? (i := 566) (by decide +kernel), List.mem_of_getElem? (i := 567) (by decide +kernel)⟩
theorem lw_p19 : lw_okq (⟨"BeforeItDrips$Kerb", "isNumber", "(II)Z"⟩, 6) := ⟨⟨by decide +kernel, by decide +kernel⟩, List.mem_of_getElem? (i := 176) (by decide +kernel), List.mem_of_getElem? (i := 570) (by decide +kernel), List.mem_of_getElem? (i := 571) (by decide +kernel)⟩
theorem lw_p20 : lw_okq (⟨"BeforeItDrips$Kerb", "readScoop", "(LBeforeItDrips$Cone;)Z"⟩, 6) := ⟨⟨by decide +kernel, by decide +kernel⟩, List.mem_of_getElem? (i := 176) (by decide +kernel), List.mem_of_getElem? (i := 576) (by decide +kernel), List.mem_of_getElem? (i := 577) (by decide +kernel)⟩
theorem lw_p21 : lw_okq (⟨"BeforeItDrips$Kerb", "readSun", "(LBeforeItDrips$Cone;)Z"⟩, 6) := ⟨⟨by decide +kernel, by decide +kernel⟩, List.mem_of_getElem? (i := 176) (by decide +kernel), List.mem_of_getElem? (i := 582) (by decide +kernel), List.mem_of_getElem? (i := 583) (by decide +kernel)⟩
theorem lw_p22 : lw_okq (⟨"BeforeItDrips$Kerb", "readHold", "(LBeforeItDrips$Cone;)Z"⟩, 6) := ⟨⟨by decide +kernel, by decide +kernel⟩, List.mem_of_getElem? (i := 176) (by decide +kernel), List.mem_of_getElem? (i := 587) (by decide +kernel), List.mem_of_getElem? (i := 588) (by decide +kernel)⟩
theorem lw_p23 : lw_okq (⟨"BeforeItDrips$Kerb", "readBrim", "(LBeforeItDrips$Cone;)Z"⟩, 6) := ⟨⟨by decide +kernel, by decide +kernel⟩, List.mem_of_getElem? (i := 176) (by decide +kernel), List.mem_of_getElem? (i := 592) (by decide +kernel), List.mem_of_getElem? (i := 593) (by decide +kernel)⟩
theorem lw_p24 : lw_okq (⟨"BeforeItDrips$Kerb", "readLicker", "(LBeforeItDrips$World;)Z"⟩, 6) := ⟨⟨by decide +kernel, by decide +kernel⟩, List.mem_of_getElem? (i := 176) (by decide +kernel), List.mem_of_getElem? (i := 597) (by decide +kernel), List.mem_of_getElem? (i := 598) (by decide +kernel)⟩
theorem lw_p25 : lw_okq (⟨"BeforeItDrips$Kerb", "readLick", "(LBeforeItDrips$World;)Z"⟩, 6) := ⟨⟨by decide +kernel, by decide +kernel⟩, List.mem_of_getElem? (i := 176) (by decide +kernel), List.mem_of_getElem? (i := 603) (by decide +kernel), List.mem_of_getElem? (i := 604) (by decide +kernel)⟩
theorem lw_p26 : lw_okq (⟨"BeforeItDrips", "isScoop", "(I)Z"⟩, 9) := ⟨⟨by decide +kernel, by decide +kernel⟩, List.mem_of_getElem? (i := 15) (by decide +kernel), List.mem_of_getElem? (i := 618) (by decide +kernel), List.mem_of_getElem? (i := 619) (by decide +kernel)⟩
theorem lw_p27 : lw_okq (⟨"BeforeItDrips", "lostIdling", "(I)I"⟩, 9) := ⟨⟨by decide +kernel, by decide +kernel⟩, List.mem_of_getElem? (i := 15) (by decide +kernel), List.mem_of_getElem? (i := 648) (by decide +kernel), List.mem_of_getElem? (i := 649) (by decide +kernel)⟩
theorem lw_p28 : lw_okq (⟨"BeforeItDrips", "thinkRun", "(II)V"⟩, 9) := ⟨⟨by decide +kernel, by decide +kernel⟩, List.mem_of_getElem? (i := 15) (by decide +kernel), List.mem_of_getElem? (i := 661) (by decide +kernel), List.mem_of_getElem? (i := 662) (by decide +kernel)⟩
theorem lw_p29 : lw_okq (⟨"BeforeItDrips", "thoughtResult", "(I)I"⟩, 9) := ⟨⟨by decide +kernel, by decide +kernel⟩, List.mem_of_getElem? (i := 15) (by decide +kernel), List.mem_of_getElem? (i := 665) (by decide +kernel), List.mem_of_getElem? (i := 666) (by decide +kernel)⟩
theorem lw_p30 : lw_okq (⟨"BeforeItDrips", "lostUnder", "(III)I"⟩, 9) := ⟨⟨by decide +kernel, by decide +kernel⟩, List.mem_of_getElem? (i := 15) (by decide +kernel), List.mem_of_getElem? (i := 707) (by decide +kernel), List.mem_of_getElem? (i := 708) (by decide +kernel)⟩
theorem lw_p31 : lw_okq (⟨"BeforeItDrips", "toldFault", "(IIII)I"⟩, 9) := ⟨⟨by decide +kernel, by decide +kernel⟩, List.mem_of_getElem? (i := 15) (by decide +kernel), List.mem_of_getElem? (i := 759) (by decide +kernel), List.mem_of_getElem? (i := 760) (by decide +kernel)⟩
def lw_privs_2 : List (MethodName × Nat) := [(⟨"BeforeItDrips$Kerb", "readStatement", "(LBeforeItDrips$World;)Z"⟩, 6), (⟨"BeforeItDrips$Kerb", "isWord", "(Ljava/lang/String;)Z"⟩, 6), (⟨"BeforeItDrips$Kerb", "readSides", "(LBeforeItDrips$Cone;)Z"⟩, 6), (⟨"BeforeItDrips$Kerb", "isNumber", "(II)Z"⟩, 6), (⟨"BeforeItDrips$Kerb", "readScoop", "(LBeforeItDrips$Cone;)Z"⟩, 6), (⟨"BeforeItDrips$Kerb", "readSun", "(LBeforeItDrips$Cone;)Z"⟩, 6), (⟨"BeforeItDrips$Kerb", "readHold", "(LBeforeItDrips$Cone;)Z"⟩, 6), (⟨"BeforeItDrips$Kerb", "readBrim", "(LBeforeItDrips$Cone;)Z"⟩, 6), (⟨"BeforeItDrips$Kerb", "readLicker", "(LBeforeItDrips$World;)Z"⟩, 6), (⟨"BeforeItDrips$Kerb", "readLick", "(LBeforeItDrips$World;)Z"⟩, 6), (⟨"BeforeItDrips", "isScoop", "(I)Z"⟩, 9), (⟨"BeforeItDrips", "lostIdling", "(I)I"⟩, 9), (⟨"BeforeItDrips", "thinkRun", "(II)V"⟩, 9), (⟨"BeforeItDrips", "thoughtResult", "(I)I"⟩, 9), (⟨"BeforeItDrips", "lostUnder", "(III)I"⟩, 9), (⟨"BeforeItDrips", "toldFault", "(IIII)I"⟩, 9)]
theorem lw_r2 : ∀ q ∈ lw_privs_2, lw_okq q := List.forall_mem_cons.mpr ⟨lw_p16, List.forall_mem_cons.mpr ⟨lw_p17, List.forall_mem_cons.mpr ⟨lw_p18, List.forall_mem_cons.mpr ⟨lw_p19, List.forall_mem_cons.mpr ⟨lw_p20, List.forall_mem_cons.mpr ⟨lw_p21, List.forall_mem_cons.mpr ⟨lw_p22, List.forall_mem_cons.mpr ⟨lw_p23, List.forall_mem_cons.mpr ⟨lw_p24, List.forall_mem_cons.mpr ⟨lw_p25, List.forall_mem_cons.mpr ⟨lw_p26, List.forall_mem_cons.mpr ⟨lw_p27, List.forall_mem_cons.mpr ⟨lw_p28, List.forall_mem_cons.mpr ⟨lw_p29, List.forall_mem_cons.mpr ⟨lw_p30, List.forall_mem_cons.mpr ⟨lw_p31, fun _ h => absurd h List.not_mem_nil⟩⟩⟩⟩⟩⟩⟩⟩⟩⟩⟩⟩⟩⟩⟩⟩
theorem lw_p32 : lw_okq (⟨"BeforeItDrips", "wrongTold", "(II)I"⟩, 9) := ⟨⟨by decide +kernel, by decide +kernel⟩, List.mem_of_getElem? (i := 15) (by decide +kernel), List.mem_of_getElem? (i := 763) (by decide +kernel), List.mem_of_getElem? (i := 764) (by decide +kernel)⟩
theorem lw_p33 : lw_okq (⟨"BeforeItDrips", "wentAt", "(III)Z"⟩, 9) := ⟨⟨by decide +kernel, by decide +kernel⟩, List.mem_of_getElem? (i := 15) (by decide +kernel), List.mem_of_getElem? (i := 786) (by decide +kernel), List.mem_of_getElem? (i := 787) (by decide +kernel)⟩
theorem lw_p34 : lw_okq (⟨"BeforeItDrips", "lickInTruth", "(II)V"⟩, 9) := ⟨⟨by decide +kernel, by decide +kernel⟩, List.mem_of_getElem? (i := 15) (by decide +kernel), List.mem_of_getElem? (i := 798) (by decide +kernel), List.mem_of_getElem? (i := 799) (by decide +kernel)⟩
theorem lw_p35 : lw_okq (⟨"BeforeItDrips", "shelvesInUse", "()I"⟩, 9) := ⟨⟨by decide +kernel, by decide +kernel⟩, List.mem_of_getElem? (i := 15) (by decide +kernel), List.mem_of_getElem? (i := 843) (by decide +kernel), List.mem_of_getElem? (i := 844) (by decide +kernel)⟩
theorem lw_p36 : lw_okq (⟨"BeforeItDripsModel", "refuse", "(I)I"⟩, 45) := ⟨⟨by decide +kernel, by decide +kernel⟩, List.mem_of_getElem? (i := 847) (by decide +kernel), List.mem_of_getElem? (i := 1005) (by decide +kernel), List.mem_of_getElem? (i := 1006) (by decide +kernel)⟩
theorem lw_p37 : lw_okq (⟨"BeforeItDripsModel", "noRow", "(I)I"⟩, 45) := ⟨⟨by decide +kernel, by decide +kernel⟩, List.mem_of_getElem? (i := 847) (by decide +kernel), List.mem_of_getElem? (i := 1013) (by decide +kernel), List.mem_of_getElem? (i := 1014) (by decide +kernel)⟩
theorem lw_p38 : lw_okq (⟨"BeforeItDripsModel", "isLicker", "(I)Z"⟩, 45) := ⟨⟨by decide +kernel, by decide +kernel⟩, List.mem_of_getElem? (i := 847) (by decide +kernel), List.mem_of_getElem? (i := 1036) (by decide +kernel), List.mem_of_getElem? (i := 1037) (by decide +kernel)⟩
theorem lw_p39 : lw_okq (⟨"BeforeItDripsModel", "wouldBe", "(I)I"⟩, 45) := ⟨⟨by decide +kernel, by decide +kernel⟩, List.mem_of_getElem? (i := 847) (by decide +kernel), List.mem_of_getElem? (i := 1048) (by decide +kernel), List.mem_of_getElem? (i := 1049) (by decide +kernel)⟩
theorem lw_p40 : lw_okq (⟨"BeforeItDripsModel", "roundAct", "()I"⟩, 45) := ⟨⟨by decide +kernel, by decide +kernel⟩, List.mem_of_getElem? (i := 847) (by decide +kernel), List.mem_of_getElem? (i := 1052) (by decide +kernel), List.mem_of_getElem? (i := 1053) (by decide +kernel)⟩
theorem lw_p41 : lw_okq (⟨"BeforeItDripsModel", "wettestAct", "()I"⟩, 45) := ⟨⟨by decide +kernel, by decide +kernel⟩, List.mem_of_getElem? (i := 847) (by decide +kernel), List.mem_of_getElem? (i := 1056) (by decide +kernel), List.mem_of_getElem? (i := 1057) (by decide +kernel)⟩
theorem lw_p42 : lw_okq (⟨"BeforeItDripsModel", "wettestSide", "()I"⟩, 45) := ⟨⟨by decide +kernel, by decide +kernel⟩, List.mem_of_getElem? (i := 847) (by decide +kernel), List.mem_of_getElem? (i := 1060) (by decide +kernel), List.mem_of_getElem? (i := 1061) (by decide +kernel)⟩
theorem lw_p43 : lw_okq (⟨"BeforeItDripsModel", "allAt", "(I)I"⟩, 45) := ⟨⟨by decide +kernel, by decide +kernel⟩, List.mem_of_getElem? (i := 847) (by decide +kernel), List.mem_of_getElem? (i := 1064) (by decide +kernel), List.mem_of_getElem? (i := 1065) (by decide +kernel)⟩
theorem lw_p44 : lw_okq (⟨"BeforeItDripsModel", "turnTo", "(I)I"⟩, 45) := ⟨⟨by decide +kernel, by decide +kernel⟩, List.mem_of_getElem? (i := 847) (by decide +kernel), List.mem_of_getElem? (i := 1068) (by decide +kernel), List.mem_of_getElem? (i := 1069) (by decide +kernel)⟩
theorem lw_p45 : lw_okq (⟨"BeforeItDripsModel", "lowestAct", "()I"⟩, 45) := ⟨⟨by decide +kernel, by decide +kernel⟩, List.mem_of_getElem? (i := 847) (by decide +kernel), List.mem_of_getElem? (i := 1072) (by decide +kernel), List.mem_of_getElem? (i := 1073) (by decide +kernel)⟩
theorem lw_p46 : lw_okq (⟨"BeforeItDripsModel", "isMore", "(II)Z"⟩, 45) := ⟨⟨by decide +kernel, by decide +kernel⟩, List.mem_of_getElem? (i := 847) (by decide +kernel), List.mem_of_getElem? (i := 1076) (by decide +kernel), List.mem_of_getElem? (i := 1077) (by decide +kernel)⟩
theorem lw_p47 : lw_okq (⟨"BeforeItDripsModel", "findPlan", "(I)V"⟩, 45) := ⟨⟨by decide +kernel, by decide +kernel⟩, List.mem_of_getElem? (i := 847) (by decide +kernel), List.mem_of_getElem? (i := 1080) (by decide +kernel), List.mem_of_getElem? (i := 1081) (by decide +kernel)⟩
def lw_privs_3 : List (MethodName × Nat) := [(⟨"BeforeItDrips", "wrongTold", "(II)I"⟩, 9), (⟨"BeforeItDrips", "wentAt", "(III)Z"⟩, 9), (⟨"BeforeItDrips", "lickInTruth", "(II)V"⟩, 9), (⟨"BeforeItDrips", "shelvesInUse", "()I"⟩, 9), (⟨"BeforeItDripsModel", "refuse", "(I)I"⟩, 45), (⟨"BeforeItDripsModel", "noRow", "(I)I"⟩, 45), (⟨"BeforeItDripsModel", "isLicker", "(I)Z"⟩, 45), (⟨"BeforeItDripsModel", "wouldBe", "(I)I"⟩, 45), (⟨"BeforeItDripsModel", "roundAct", "()I"⟩, 45), (⟨"BeforeItDripsModel", "wettestAct", "()I"⟩, 45), (⟨"BeforeItDripsModel", "wettestSide", "()I"⟩, 45), (⟨"BeforeItDripsModel", "allAt", "(I)I"⟩, 45), (⟨"BeforeItDripsModel", "turnTo", "(I)I"⟩, 45), (⟨"BeforeItDripsModel", "lowestAct", "()I"⟩, 45), (⟨"BeforeItDripsModel", "isMore", "(II)Z"⟩, 45), (⟨"BeforeItDripsModel", "findPlan", "(I)V"⟩, 45)]
theorem lw_r3 : ∀ q ∈ lw_privs_3, lw_okq q := List.forall_mem_cons.mpr ⟨lw_p32, List.forall_mem_cons.mpr ⟨lw_p33, List.forall_mem_cons.mpr ⟨lw_p34, List.forall_mem_cons.mpr ⟨lw_p35, List.forall_mem_cons.mpr ⟨lw_p36, List.forall_mem_cons.mpr ⟨lw_p37, List.forall_mem_cons.mpr ⟨lw_p38, List.forall_mem_cons.mpr ⟨lw_p39, List.forall_mem_cons.mpr ⟨lw_p40, List.forall_mem_cons.mpr ⟨lw_p41, List.forall_mem_cons.mpr ⟨lw_p42, List.forall_mem_cons.mpr ⟨lw_p43, List.forall_mem_cons.mpr ⟨lw_p44, List.forall_mem_cons.mpr ⟨lw_p45, List.forall_mem_cons.mpr ⟨lw_p46, List.forall_mem_cons.mpr ⟨lw_p47, fun _ h => absurd h List.not_mem_nil⟩⟩⟩⟩⟩⟩⟩⟩⟩⟩⟩⟩⟩⟩⟩⟩
theorem lw_p48 : lw_okq (⟨"BeforeItDripsModel", "canAct", "(J)Z"⟩, 45) := ⟨⟨by decide +kernel, by decide +kernel⟩, List.mem_of_getElem? (i := 847) (by decide +kernel), List.mem_of_getElem? (i := 1085) (by decide +kernel), List.mem_of_getElem? (i := 1086) (by decide +kernel)⟩
theorem lw_p49 : lw_okq (⟨"BeforeItDripsModel", "takeFrom", "(LBeforeItDripsModel;)V"⟩, 45) := ⟨⟨by decide +kernel, by decide +kernel⟩, List.mem_of_getElem? (i := 847) (by decide +kernel), List.mem_of_getElem? (i := 1091) (by decide +kernel), List.mem_of_getElem? (i := 1092) (by decide +kernel)⟩
theorem lw_p50 : lw_okq (⟨"BeforeItDripsModel", "goes", "(IZ)V"⟩, 45) := ⟨⟨by decide +kernel, by decide +kernel⟩, List.mem_of_getElem? (i := 847) (by decide +kernel), List.mem_of_getElem? (i := 1098) (by decide +kernel), List.mem_of_getElem? (i := 1099) (by decide +kernel)⟩
theorem lw_p51 : lw_okq (⟨"BeforeItDripsModel", "lickedOf", "(I)I"⟩, 45) := ⟨⟨by decide +kernel, by decide +kernel⟩, List.mem_of_getElem? (i := 847) (by decide +kernel), List.mem_of_getElem? (i := 1102) (by decide +kernel), List.mem_of_getElem? (i := 1103) (by decide +kernel)⟩
theorem lw_p52 : lw_okq (⟨"BeforeItDripsModel", "melts", "(I)V"⟩, 45) := ⟨⟨by decide +kernel, by decide +kernel⟩, List.mem_of_getElem? (i := 847) (by decide +kernel), List.mem_of_getElem? (i := 1106) (by decide +kernel), List.mem_of_getElem? (i := 1107) (by decide +kernel)⟩
theorem lw_p53 : lw_okq (⟨"BeforeItDripsModel", "isSunny", "(I)Z"⟩, 45) := ⟨⟨by decide +kernel, by decide +kernel⟩, List.mem_of_getElem? (i := 847) (by decide +kernel), List.mem_of_getElem? (i := 1110) (by decide +kernel), List.mem_of_getElem? (i := 1111) (by decide +kernel)⟩
theorem lw_p54 : lw_okq (⟨"BeforeItDripsModel", "runsDown", "(I)V"⟩, 45) := ⟨⟨by decide +kernel, by decide +kernel⟩, List.mem_of_getElem? (i := 847) (by decide +kernel), List.mem_of_getElem? (i := 1114) (by decide +kernel), List.mem_of_getElem? (i := 1115) (by decide +kernel)⟩
theorem lw_p55 : lw_okq (⟨"BeforeItDripsModel", "becomeSides", "(I)V"⟩, 45) := ⟨⟨by decide +kernel, by decide +kernel⟩, List.mem_of_getElem? (i := 847) (by decide +kernel), List.mem_of_getElem? (i := 1123) (by decide +kernel), List.mem_of_getElem? (i := 1124) (by decide +kernel)⟩
theorem lw_p56 : lw_okq (⟨"BeforeItDripsModel", "addScoop", "(II)V"⟩, 45) := ⟨⟨by decide +kernel, by decide +kernel⟩, List.mem_of_getElem? (i := 847) (by decide +kernel), List.mem_of_getElem? (i := 1133) (by decide +kernel), List.mem_of_getElem? (i := 1134) (by decide +kernel)⟩
theorem lw_p57 : lw_okq (⟨"BeforeItDripsModel", "mayAsk", "(II)Z"⟩, 45) := ⟨⟨by decide +kernel, by decide +kernel⟩, List.mem_of_getElem? (i := 847) (by decide +kernel), List.mem_of_getElem? (i := 1145) (by decide +kernel), List.mem_of_getElem? (i := 1146) (by decide +kernel)⟩
theorem lw_p58 : lw_okq (⟨"BeforeItDripsModel", "isSide", "(I)Z"⟩, 45) := ⟨⟨by decide +kernel, by decide +kernel⟩, List.mem_of_getElem? (i := 847) (by decide +kernel), List.mem_of_getElem? (i := 1151) (by decide +kernel), List.mem_of_getElem? (i := 1152) (by decide +kernel)⟩
theorem lw_p59 : lw_okq (⟨"BeforeItDripsModel", "addLicker", "(II)V"⟩, 45) := ⟨⟨by decide +kernel, by decide +kernel⟩, List.mem_of_getElem? (i := 847) (by decide +kernel), List.mem_of_getElem? (i := 1159) (by decide +kernel), List.mem_of_getElem? (i := 1160) (by decide +kernel)⟩
theorem lw_p60 : lw_okq (⟨"BeforeItDripsModel", "fresh", "()LBeforeItDripsModel;"⟩, 45) := ⟨⟨by decide +kernel, by decide +kernel⟩, List.mem_of_getElem? (i := 847) (by decide +kernel), List.mem_of_getElem? (i := 1176) (by decide +kernel), List.mem_of_getElem? (i := 1177) (by decide +kernel)⟩
theorem lw_p61 : lw_okq (⟨"BeforeItDripsModel", "readAll", "()Z"⟩, 45) := ⟨⟨by decide +kernel, by decide +kernel⟩, List.mem_of_getElem? (i := 847) (by decide +kernel), List.mem_of_getElem? (i := 1180) (by decide +kernel), List.mem_of_getElem? (i := 1181) (by decide +kernel)⟩
theorem lw_p62 : lw_okq (⟨"BeforeItDripsModel", "look", "()V"⟩, 45) := ⟨⟨by decide +kernel, by decide +kernel⟩, List.mem_of_getElem? (i := 847) (by decide +kernel), List.mem_of_getElem? (i := 1184) (by decide +kernel), List.mem_of_getElem? (i := 1185) (by decide +kernel)⟩
theorem lw_p63 : lw_okq (⟨"BeforeItDripsModel", "statement", "()Z"⟩, 45) := ⟨⟨by decide +kernel, by decide +kernel⟩, List.mem_of_getElem? (i := 847) (by decide +kernel), List.mem_of_getElem? (i := 1194) (by decide +kernel), List.mem_of_getElem? (i := 1195) (by decide +kernel)⟩
def lw_privs_4 : List (MethodName × Nat) := [(⟨"BeforeItDripsModel", "canAct", "(J)Z"⟩, 45), (⟨"BeforeItDripsModel", "takeFrom", "(LBeforeItDripsModel;)V"⟩, 45), (⟨"BeforeItDripsModel", "goes", "(IZ)V"⟩, 45), (⟨"BeforeItDripsModel", "lickedOf", "(I)I"⟩, 45), (⟨"BeforeItDripsModel", "melts", "(I)V"⟩, 45), (⟨"BeforeItDripsModel", "isSunny", "(I)Z"⟩, 45), (⟨"BeforeItDripsModel", "runsDown", "(I)V"⟩, 45), (⟨"BeforeItDripsModel", "becomeSides", "(I)V"⟩, 45), (⟨"BeforeItDripsModel", "addScoop", "(II)V"⟩, 45), (⟨"BeforeItDripsModel", "mayAsk", "(II)Z"⟩, 45), (⟨"BeforeItDripsModel", "isSide", "(I)Z"⟩, 45), (⟨"BeforeItDripsModel", "addLicker", "(II)V"⟩, 45), (⟨"BeforeItDripsModel", "fresh", "()LBeforeItDripsModel;"⟩, 45), (⟨"BeforeItDripsModel", "readAll", "()Z"⟩, 45), (⟨"BeforeItDripsModel", "look", "()V"⟩, 45), (⟨"BeforeItDripsModel", "statement", "()Z"⟩, 45)]
theorem lw_r4 : ∀ q ∈ lw_privs_4, lw_okq q := List.forall_mem_cons.mpr ⟨lw_p48, List.forall_mem_cons.mpr ⟨lw_p49, List.forall_mem_cons.mpr ⟨lw_p50, List.forall_mem_cons.mpr ⟨lw_p51, List.forall_mem_cons.mpr ⟨lw_p52, List.forall_mem_cons.mpr ⟨lw_p53, List.forall_mem_cons.mpr ⟨lw_p54, List.forall_mem_cons.mpr ⟨lw_p55, List.forall_mem_cons.mpr ⟨lw_p56, List.forall_mem_cons.mpr ⟨lw_p57, List.forall_mem_cons.mpr ⟨lw_p58, List.forall_mem_cons.mpr ⟨lw_p59, List.forall_mem_cons.mpr ⟨lw_p60, List.forall_mem_cons.mpr ⟨lw_p61, List.forall_mem_cons.mpr ⟨lw_p62, List.forall_mem_cons.mpr ⟨lw_p63, fun _ h => absurd h List.not_mem_nil⟩⟩⟩⟩⟩⟩⟩⟩⟩⟩⟩⟩⟩⟩⟩⟩
theorem lw_p64 : lw_okq (⟨"BeforeItDripsModel", "isWord", "(Ljava/lang/String;)Z"⟩, 45) := ⟨⟨by decide +kernel, by decide +kernel⟩, List.mem_of_getElem? (i := 847) (by decide +kernel), List.mem_of_getElem? (i := 1199) (by decide +kernel), List.mem_of_getElem? (i := 1200) (by decide +kernel)⟩
theorem lw_p65 : lw_okq (⟨"BeforeItDripsModel", "tells", "(II)Z"⟩, 45) := ⟨⟨by decide +kernel, by decide +kernel⟩, List.mem_of_getElem? (i := 847) (by decide +kernel), List.mem_of_getElem? (i := 1205) (by decide +kernel), List.mem_of_getElem? (i := 1206) (by decide +kernel)⟩
theorem lw_p66 : lw_okq (⟨"BeforeItDripsModel", "number", "(III)Z"⟩, 45) := ⟨⟨by decide +kernel, by decide +kernel⟩, List.mem_of_getElem? (i := 847) (by decide +kernel), List.mem_of_getElem? (i := 1209) (by decide +kernel), List.mem_of_getElem? (i := 1210) (by decide +kernel)⟩
theorem lw_p67 : lw_okq (⟨"BeforeItDripsModel", "wrong", "()Z"⟩, 45) := ⟨⟨by decide +kernel, by decide +kernel⟩, List.mem_of_getElem? (i := 847) (by decide +kernel), List.mem_of_getElem? (i := 1213) (by decide +kernel), List.mem_of_getElem? (i := 1214) (by decide +kernel)⟩
theorem lw_p68 : lw_okq (⟨"BeforeItDripsModel", "sunTold", "()Z"⟩, 45) := ⟨⟨by decide +kernel, by decide +kernel⟩, List.mem_of_getElem? (i := 847) (by decide +kernel), List.mem_of_getElem? (i := 1219) (by decide +kernel), List.mem_of_getElem? (i := 1220) (by decide +kernel)⟩
theorem lw_p69 : lw_okq (⟨"BeforeItDripsModel", "lickTold", "()Z"⟩, 45) := ⟨⟨by decide +kernel, by decide +kernel⟩, List.mem_of_getElem? (i := 847) (by decide +kernel), List.mem_of_getElem? (i := 1227) (by decide +kernel), List.mem_of_getElem? (i := 1228) (by decide +kernel)⟩
theorem lw_p70 : lw_okq (⟨"BeforeItDripsModel", "isScoop", "(I)Z"⟩, 45) := ⟨⟨by decide +kernel, by decide +kernel⟩, List.mem_of_getElem? (i := 847) (by decide +kernel), List.mem_of_getElem? (i := 1235) (by decide +kernel), List.mem_of_getElem? (i := 1236) (by decide +kernel)⟩
theorem lw_p71 : lw_okq (⟨"BeforeItDripsModel", "wetOf", "(I)I"⟩, 45) := ⟨⟨by decide +kernel, by decide +kernel⟩, List.mem_of_getElem? (i := 847) (by decide +kernel), List.mem_of_getElem? (i := 1240) (by decide +kernel), List.mem_of_getElem? (i := 1241) (by decide +kernel)⟩
theorem lw_p72 : lw_okq (⟨"BeforeItDripsModel", "withoutNow", "(I)I"⟩, 45) := ⟨⟨by decide +kernel, by decide +kernel⟩, List.mem_of_getElem? (i := 847) (by decide +kernel), List.mem_of_getElem? (i := 1270) (by decide +kernel), List.mem_of_getElem? (i := 1271) (by decide +kernel)⟩
theorem lw_p73 : lw_okq (⟨"BeforeItDripsModel", "stands", "(I)V"⟩, 45) := ⟨⟨by decide +kernel, by decide +kernel⟩, List.mem_of_getElem? (i := 847) (by decide +kernel), List.mem_of_getElem? (i := 1274) (by decide +kernel), List.mem_of_getElem? (i := 1275) (by decide +kernel)⟩
theorem lw_p74 : lw_okq (⟨"BeforeItDripsModel", "lickedBy", "(II)V"⟩, 45) := ⟨⟨by decide +kernel, by decide +kernel⟩, List.mem_of_getElem? (i := 847) (by decide +kernel), List.mem_of_getElem? (i := 1286) (by decide +kernel), List.mem_of_getElem? (i := 1287) (by decide +kernel)⟩
theorem lw_p75 : lw_okq (⟨"BeforeItDripsModel", "toldOf", "(LBeforeItDripsModel;I)I"⟩, 45) := ⟨⟨by decide +kernel, by decide +kernel⟩, List.mem_of_getElem? (i := 847) (by decide +kernel), List.mem_of_getElem? (i := 1290) (by decide +kernel), List.mem_of_getElem? (i := 1291) (by decide +kernel)⟩
theorem lw_p76 : lw_okq (⟨"BeforeItDripsModel", "leftNow", "()I"⟩, 45) := ⟨⟨by decide +kernel, by decide +kernel⟩, List.mem_of_getElem? (i := 847) (by decide +kernel), List.mem_of_getElem? (i := 1294) (by decide +kernel), List.mem_of_getElem? (i := 1295) (by decide +kernel)⟩
theorem lw_p77 : lw_okq (⟨"BeforeItDripsModel", "seekOrder", "(III)V"⟩, 45) := ⟨⟨by decide +kernel, by decide +kernel⟩, List.mem_of_getElem? (i := 847) (by decide +kernel), List.mem_of_getElem? (i := 1326) (by decide +kernel), List.mem_of_getElem? (i := 1327) (by decide +kernel)⟩
theorem lw_p78 : lw_okq (⟨"BeforeItDripsModel", "putFrom", "(LBeforeItDripsModel;II)V"⟩, 45) := ⟨⟨by decide +kernel, by decide +kernel⟩, List.mem_of_getElem? (i := 847) (by decide +kernel), List.mem_of_getElem? (i := 1330) (by decide +kernel), List.mem_of_getElem? (i := 1331) (by decide +kernel)⟩
theorem lw_p79 : lw_okq (⟨"BeforeItDripsModel", "noActs", "(II)I"⟩, 45) := ⟨⟨by decide +kernel, by decide +kernel⟩, List.mem_of_getElem? (i := 847) (by decide +kernel), List.mem_of_getElem? (i := 1358) (by decide +kernel), List.mem_of_getElem? (i := 1359) (by decide +kernel)⟩
def lw_privs_5 : List (MethodName × Nat) := [(⟨"BeforeItDripsModel", "isWord", "(Ljava/lang/String;)Z"⟩, 45), (⟨"BeforeItDripsModel", "tells", "(II)Z"⟩, 45), (⟨"BeforeItDripsModel", "number", "(III)Z"⟩, 45), (⟨"BeforeItDripsModel", "wrong", "()Z"⟩, 45), (⟨"BeforeItDripsModel", "sunTold", "()Z"⟩, 45), (⟨"BeforeItDripsModel", "lickTold", "()Z"⟩, 45), (⟨"BeforeItDripsModel", "isScoop", "(I)Z"⟩, 45), (⟨"BeforeItDripsModel", "wetOf", "(I)I"⟩, 45), (⟨"BeforeItDripsModel", "withoutNow", "(I)I"⟩, 45), (⟨"BeforeItDripsModel", "stands", "(I)V"⟩, 45), (⟨"BeforeItDripsModel", "lickedBy", "(II)V"⟩, 45), (⟨"BeforeItDripsModel", "toldOf", "(LBeforeItDripsModel;I)I"⟩, 45), (⟨"BeforeItDripsModel", "leftNow", "()I"⟩, 45), (⟨"BeforeItDripsModel", "seekOrder", "(III)V"⟩, 45), (⟨"BeforeItDripsModel", "putFrom", "(LBeforeItDripsModel;II)V"⟩, 45), (⟨"BeforeItDripsModel", "noActs", "(II)I"⟩, 45)]
theorem lw_r5 : ∀ q ∈ lw_privs_5, lw_okq q := List.forall_mem_cons.mpr ⟨lw_p64, List.forall_mem_cons.mpr ⟨lw_p65, List.forall_mem_cons.mpr ⟨lw_p66, List.forall_mem_cons.mpr ⟨lw_p67, List.forall_mem_cons.mpr ⟨lw_p68, List.forall_mem_cons.mpr ⟨lw_p69, List.forall_mem_cons.mpr ⟨lw_p70, List.forall_mem_cons.mpr ⟨lw_p71, List.forall_mem_cons.mpr ⟨lw_p72, List.forall_mem_cons.mpr ⟨lw_p73, List.forall_mem_cons.mpr ⟨lw_p74, List.forall_mem_cons.mpr ⟨lw_p75, List.forall_mem_cons.mpr ⟨lw_p76, List.forall_mem_cons.mpr ⟨lw_p77, List.forall_mem_cons.mpr ⟨lw_p78, List.forall_mem_cons.mpr ⟨lw_p79, fun _ h => absurd h List.not_mem_nil⟩⟩⟩⟩⟩⟩⟩⟩⟩⟩⟩⟩⟩⟩⟩⟩
theorem lw_p80 : lw_okq (⟨"BeforeItDripsModel", "wrongIn", "([JI)I"⟩, 45) := ⟨⟨by decide +kernel, by decide +kernel⟩, List.mem_of_getElem? (i := 847) (by decide +kernel), List.mem_of_getElem? (i := 1362) (by decide +kernel), List.mem_of_getElem? (i := 1363) (by decide +kernel)⟩
theorem lw_p81 : lw_okq (⟨"BeforeItDripsModel", "licksTruly", "(II)V"⟩, 45) := ⟨⟨by decide +kernel, by decide +kernel⟩, List.mem_of_getElem? (i := 847) (by decide +kernel), List.mem_of_getElem? (i := 1391) (by decide +kernel), List.mem_of_getElem? (i := 1392) (by decide +kernel)⟩
theorem lw_p82 : lw_okq (⟨"BeforeItDripsModel", "below", "(I)I"⟩, 45) := ⟨⟨by decide +kernel, by decide +kernel⟩, List.mem_of_getElem? (i := 847) (by decide +kernel), List.mem_of_getElem? (i := 1403) (by decide +kernel), List.mem_of_getElem? (i := 1404) (by decide +kernel)⟩
def lw_privs_6 : List (MethodName × Nat) := [(⟨"BeforeItDripsModel", "wrongIn", "([JI)I"⟩, 45), (⟨"BeforeItDripsModel", "licksTruly", "(II)V"⟩, 45), (⟨"BeforeItDripsModel", "below", "(I)I"⟩, 45)]
theorem lw_r6 : ∀ q ∈ lw_privs_6, lw_okq q := List.forall_mem_cons.mpr ⟨lw_p80, List.forall_mem_cons.mpr ⟨lw_p81, List.forall_mem_cons.mpr ⟨lw_p82, fun _ h => absurd h List.not_mem_nil⟩⟩⟩
def lw_privs : List (MethodName × Nat) := lw_privs_1 ++ (lw_privs_2 ++ (lw_privs_3 ++ (lw_privs_4 ++ (lw_privs_5 ++ (lw_privs_6)))))
def lw_tbl : List Cond := k2_sels lw_privs ++ tables_1
theorem lw_privs_ok : ∀ q ∈ lw_privs, lw_okq q := by
  show ∀ q ∈ lw_privs_1 ++ (lw_privs_2 ++ (lw_privs_3 ++ (lw_privs_4 ++ (lw_privs_5 ++ (lw_privs_6))))), lw_okq q
  exact List.forall_mem_append.mpr ⟨lw_r1, List.forall_mem_append.mpr ⟨lw_r2, List.forall_mem_append.mpr ⟨lw_r3, List.forall_mem_append.mpr ⟨lw_r4, List.forall_mem_append.mpr ⟨lw_r5, lw_r6⟩⟩⟩⟩⟩
-- ===== end of PART A; then your names; then what follows =====
def RX0 : String := "BeforeItDrips$Cone"
def TX0 : u_T := fun k => match k with
  | 0 => ("BeforeItDrips$Cone", "sideCount", "I", false)
  | 1 => ("BeforeItDrips$Cone", "turn", "I", false)
  | 2 => ("BeforeItDrips$Cone", "sunBits", "I", false)
  | 3 => ("BeforeItDrips$Cone", "hold", "I", false)
  | 4 => ("BeforeItDrips$Cone", "brim", "I", false)
  | 5 => ("BeforeItDrips$Cone", "lickSize", "I", false)
  | 6 => ("BeforeItDrips$Cone", "give", "I", false)
  | 7 => ("BeforeItDrips$Cone", "seconds", "I", false)
  | 8 => ("BeforeItDrips$Cone", "lost", "I", false)
  | 9 => ("BeforeItDrips$Cone", "eaten", "I", false)
  | 10 => ("BeforeItDrips$Cone", "soak", "I", false)
  | 11 => ("BeforeItDrips$Cone", "scoopCount", "I", false)
  | 12 => ("BeforeItDrips$Cone", "sorts", "[I", true)
  | 13 => ("BeforeItDrips$Cone", "amounts", "[I", true)
  | 14 => ("BeforeItDrips$Cone", "wets", "[I", true)
  | _ => ("BeforeItDrips$Cone", "rims", "[I", true)
def tyX0 : Nat → FieldType := fun k => match k with
  | 0 => .int
  | 1 => .int
  | 2 => .int
  | 3 => .int
  | 4 => .int
  | 5 => .int
  | 6 => .int
  | 7 => .int
  | 8 => .int
  | 9 => .int
  | 10 => .int
  | 11 => .int
  | 12 => .array .int
  | 13 => .array .int
  | 14 => .array .int
  | _ => .array .int
abbrev wsX00 : List Cond := u_ws RX0 TX0 16
theorem nmX0 : ∀ a, a < 16 → ∀ b, b < 16 → a ≠ b → (TX0 a).2.1 ≠ (TX0 b).2.1 := by decide +kernel
theorem tyX0_ok : ∀ k, k < 16 → parseFieldDescriptor (TX0 k).2.2.1 = some (tyX0 k) := by decide +kernel
abbrev cX0_init : ByteArray := prog_2_method_1_code
def yX0_init : MethodName := ⟨RX0, "<init>", "()V"⟩
abbrev cX0_takeFrom : ByteArray := prog_2_method_2_code
def yX0_takeFrom : MethodName := ⟨RX0, "takeFrom", "(LBeforeItDrips$Cone;)V"⟩
abbrev cX0_hasOrder : ByteArray := prog_2_method_3_code
def yX0_hasOrder : MethodName := ⟨RX0, "hasOrder", "(I)Z"⟩
abbrev cX0_scoopInOrder : ByteArray := prog_2_method_4_code
def yX0_scoopInOrder : MethodName := ⟨RX0, "scoopInOrder", "(II)I"⟩
abbrev cX0_takeInOrder : ByteArray := prog_2_method_5_code
def yX0_takeInOrder : MethodName := ⟨RX0, "takeInOrder", "(LBeforeItDrips$Cone;I)V"⟩
abbrev cX0_changePlaces : ByteArray := prog_2_method_6_code
def yX0_changePlaces : MethodName := ⟨RX0, "changePlaces", "(II)V"⟩
abbrev cX0_becomeSides : ByteArray := prog_2_method_7_code
def yX0_becomeSides : MethodName := ⟨RX0, "becomeSides", "(I)V"⟩
abbrev cX0_becomeEmpty : ByteArray := prog_2_method_8_code
def yX0_becomeEmpty : MethodName := ⟨RX0, "becomeEmpty", "()V"⟩
abbrev cX0_putOnTop : ByteArray := prog_2_method_9_code
def yX0_putOnTop : MethodName := ⟨RX0, "putOnTop", "(II)V"⟩
abbrev cX0_allPlaces : ByteArray := prog_2_method_10_code
def yX0_allPlaces : MethodName := ⟨RX0, "allPlaces", "()I"⟩
abbrev cX0_wetAt : ByteArray := prog_2_method_11_code
def yX0_wetAt : MethodName := ⟨RX0, "wetAt", "(II)I"⟩
abbrev cX0_isSunny : ByteArray := prog_2_method_12_code
def yX0_isSunny : MethodName := ⟨RX0, "isSunny", "(I)Z"⟩
abbrev cX0_allWetOf : ByteArray := prog_2_method_13_code
def yX0_allWetOf : MethodName := ⟨RX0, "allWetOf", "(I)I"⟩
abbrev cX0_left : ByteArray := prog_2_method_14_code
def yX0_left : MethodName := ⟨RX0, "left", "()I"⟩
abbrev cX0_hasMeltedScoop : ByteArray := prog_2_method_15_code
def yX0_hasMeltedScoop : MethodName := ⟨RX0, "hasMeltedScoop", "()Z"⟩
abbrev cX0_wettestSide : ByteArray := prog_2_method_16_code
def yX0_wettestSide : MethodName := ⟨RX0, "wettestSide", "()I"⟩
abbrev cX0_lowestWetSide : ByteArray := prog_2_method_17_code
def yX0_lowestWetSide : MethodName := ⟨RX0, "lowestWetSide", "()I"⟩
abbrev cX0_isWetLower : ByteArray := prog_2_method_18_code
def yX0_isWetLower : MethodName := ⟨RX0, "isWetLower", "(II)Z"⟩
abbrev cX0_canDo : ByteArray := prog_2_method_19_code
def yX0_canDo : MethodName := ⟨RX0, "canDo", "(I)Z"⟩
abbrev cX0_isIdle : ByteArray := prog_2_method_20_code
def yX0_isIdle : MethodName := ⟨RX0, "isIdle", "(I)Z"⟩
abbrev cX0_pass : ByteArray := prog_2_method_21_code
def yX0_pass : MethodName := ⟨RX0, "pass", "(I)V"⟩
abbrev cX0_eat : ByteArray := prog_2_method_22_code
def yX0_eat : MethodName := ⟨RX0, "eat", "(I)V"⟩
abbrev cX0_melt : ByteArray := prog_2_method_23_code
def yX0_melt : MethodName := ⟨RX0, "melt", "()V"⟩
abbrev cX0_runDown : ByteArray := prog_2_method_24_code
def yX0_runDown : MethodName := ⟨RX0, "runDown", "()V"⟩
abbrev cX0_fallOff : ByteArray := prog_2_method_25_code
def yX0_fallOff : MethodName := ⟨RX0, "fallOff", "()V"⟩
def RX1 : String := "BeforeItDrips$Kerb"
def TX1 : u_T := fun k => match k with
  | 0 => ("BeforeItDrips$Kerb", "bytes", "[I", true)
  | 1 => ("BeforeItDrips$Kerb", "size", "I", false)
  | 2 => ("BeforeItDrips$Kerb", "token", "I", false)
  | 3 => ("BeforeItDrips$Kerb", "start", "I", false)
  | 4 => ("BeforeItDrips$Kerb", "end", "I", false)
  | _ => ("BeforeItDrips$Kerb", "value", "I", false)
def tyX1 : Nat → FieldType := fun k => match k with
  | 0 => .array .int
  | 1 => .int
  | 2 => .int
  | 3 => .int
  | 4 => .int
  | _ => .int
abbrev wsX10 : List Cond := u_ws RX1 TX1 6
theorem nmX1 : ∀ a, a < 6 → ∀ b, b < 6 → a ≠ b → (TX1 a).2.1 ≠ (TX1 b).2.1 := by decide +kernel
theorem tyX1_ok : ∀ k, k < 6 → parseFieldDescriptor (TX1 k).2.2.1 = some (tyX1 k) := by decide +kernel
abbrev cX1_init : ByteArray := prog_3_method_1_code
def yX1_init : MethodName := ⟨RX1, "<init>", "()V"⟩
abbrev cX1_append : ByteArray := prog_3_method_2_code
def yX1_append : MethodName := ⟨RX1, "append", "(I)V"⟩
abbrev cX1_readInto : ByteArray := prog_3_method_3_code
def yX1_readInto : MethodName := ⟨RX1, "readInto", "(LBeforeItDrips$World;)I"⟩
abbrev cX1_readStatement : ByteArray := prog_3_method_4_code
def yX1_readStatement : MethodName := ⟨RX1, "readStatement", "(LBeforeItDrips$World;)Z"⟩
abbrev cX1_readSides : ByteArray := prog_3_method_5_code
def yX1_readSides : MethodName := ⟨RX1, "readSides", "(LBeforeItDrips$Cone;)Z"⟩
abbrev cX1_readScoop : ByteArray := prog_3_method_6_code
def yX1_readScoop : MethodName := ⟨RX1, "readScoop", "(LBeforeItDrips$Cone;)Z"⟩
abbrev cX1_readSun : ByteArray := prog_3_method_7_code
def yX1_readSun : MethodName := ⟨RX1, "readSun", "(LBeforeItDrips$Cone;)Z"⟩
abbrev cX1_readHold : ByteArray := prog_3_method_8_code
def yX1_readHold : MethodName := ⟨RX1, "readHold", "(LBeforeItDrips$Cone;)Z"⟩
abbrev cX1_readBrim : ByteArray := prog_3_method_9_code
def yX1_readBrim : MethodName := ⟨RX1, "readBrim", "(LBeforeItDrips$Cone;)Z"⟩
abbrev cX1_readLicker : ByteArray := prog_3_method_10_code
def yX1_readLicker : MethodName := ⟨RX1, "readLicker", "(LBeforeItDrips$World;)Z"⟩
abbrev cX1_readLick : ByteArray := prog_3_method_11_code
def yX1_readLick : MethodName := ⟨RX1, "readLick", "(LBeforeItDrips$World;)Z"⟩
abbrev cX1_isNumber : ByteArray := prog_3_method_12_code
def yX1_isNumber : MethodName := ⟨RX1, "isNumber", "(II)Z"⟩
abbrev cX1_isWord : ByteArray := prog_3_method_13_code
def yX1_isWord : MethodName := ⟨RX1, "isWord", "(Ljava/lang/String;)Z"⟩
abbrev cX1_advance : ByteArray := prog_3_method_14_code
def yX1_advance : MethodName := ⟨RX1, "advance", "()V"⟩
abbrev cX1_readNumber : ByteArray := prog_3_method_15_code
def yX1_readNumber : MethodName := ⟨RX1, "readNumber", "()V"⟩
abbrev cX1_byteAt : ByteArray := prog_3_method_16_code
def yX1_byteAt : MethodName := ⟨RX1, "byteAt", "(I)I"⟩
abbrev cX1_isLetter : ByteArray := prog_3_method_17_code
def yX1_isLetter : MethodName := ⟨RX1, "isLetter", "(I)Z"⟩
abbrev cX1_isDigit : ByteArray := prog_3_method_18_code
def yX1_isDigit : MethodName := ⟨RX1, "isDigit", "(I)Z"⟩
def RX2 : String := "BeforeItDrips$Mind"
def TX2 : u_T := fun k => match k with
  | 0 => ("BeforeItDrips$Mind", "levels", "[LBeforeItDrips$Cone;", true)
  | 1 => ("BeforeItDrips$Mind", "tried", "[I", true)
  | 2 => ("BeforeItDrips$Mind", "found", "[I", true)
  | 3 => ("BeforeItDrips$Mind", "foundLost", "I", false)
  | _ => ("BeforeItDrips$Mind", "foundEaten", "I", false)
def tyX2 : Nat → FieldType := fun k => match k with
  | 0 => .array (.object "BeforeItDrips$Cone")
  | 1 => .array .int
  | 2 => .array .int
  | 3 => .int
  | _ => .int
abbrev wsX20 : List Cond := u_ws RX2 TX2 5
theorem nmX2 : ∀ a, a < 5 → ∀ b, b < 5 → a ≠ b → (TX2 a).2.1 ≠ (TX2 b).2.1 := by decide +kernel
theorem tyX2_ok : ∀ k, k < 5 → parseFieldDescriptor (TX2 k).2.2.1 = some (tyX2 k) := by decide +kernel
abbrev cX2_init : ByteArray := prog_4_method_1_code
def yX2_init : MethodName := ⟨RX2, "<init>", "()V"⟩
abbrev cX2_choose : ByteArray := prog_4_method_2_code
def yX2_choose : MethodName := ⟨RX2, "choose", "(LBeforeItDrips$Cone;II)I"⟩
abbrev cX2_goRound : ByteArray := prog_4_method_3_code
def yX2_goRound : MethodName := ⟨RX2, "goRound", "(LBeforeItDrips$Cone;)I"⟩
abbrev cX2_lickLowest : ByteArray := prog_4_method_4_code
def yX2_lickLowest : MethodName := ⟨RX2, "lickLowest", "(LBeforeItDrips$Cone;)I"⟩
abbrev cX2_lickWettest : ByteArray := prog_4_method_5_code
def yX2_lickWettest : MethodName := ⟨RX2, "lickWettest", "(LBeforeItDrips$Cone;)I"⟩
abbrev cX2_turnTo : ByteArray := prog_4_method_6_code
def yX2_turnTo : MethodName := ⟨RX2, "turnTo", "(LBeforeItDrips$Cone;I)I"⟩
abbrev cX2_findPlan : ByteArray := prog_4_method_7_code
def yX2_findPlan : MethodName := ⟨RX2, "findPlan", "(LBeforeItDrips$Cone;I)V"⟩
abbrev cX2_deepen : ByteArray := prog_4_method_8_code
def yX2_deepen : MethodName := ⟨RX2, "deepen", "(LBeforeItDrips$Mind;II)V"⟩
abbrev cX2_weigh : ByteArray := prog_4_method_9_code
def yX2_weigh : MethodName := ⟨RX2, "weigh", "(LBeforeItDrips$Cone;)V"⟩
def RX3 : String := "BeforeItDrips$Shelf"
def TX3 : u_T := fun k => match k with
  | 0 => ("BeforeItDrips$Shelf", "content", "I", false)
  | 1 => ("BeforeItDrips$Shelf", "size", "I", false)
  | _ => ("BeforeItDrips$Shelf", "elements", "[J", true)
def tyX3 : Nat → FieldType := fun k => match k with
  | 0 => .int
  | 1 => .int
  | _ => .array .long
abbrev wsX30 : List Cond := u_ws RX3 TX3 3
theorem nmX3 : ∀ a, a < 3 → ∀ b, b < 3 → a ≠ b → (TX3 a).2.1 ≠ (TX3 b).2.1 := by decide +kernel
theorem tyX3_ok : ∀ k, k < 3 → parseFieldDescriptor (TX3 k).2.2.1 = some (tyX3 k) := by decide +kernel
abbrev cX3_init : ByteArray := prog_5_method_1_code
def yX3_init : MethodName := ⟨RX3, "<init>", "()V"⟩
abbrev cX3_clearAway : ByteArray := prog_5_method_2_code
def yX3_clearAway : MethodName := ⟨RX3, "clearAway", "()V"⟩
abbrev cX3_holdRow : ByteArray := prog_5_method_3_code
def yX3_holdRow : MethodName := ⟨RX3, "holdRow", "(II)V"⟩
abbrev cX3_holdLicker : ByteArray := prog_5_method_4_code
def yX3_holdLicker : MethodName := ⟨RX3, "holdLicker", "(I)V"⟩
abbrev cX3_holdsRow : ByteArray := prog_5_method_5_code
def yX3_holdsRow : MethodName := ⟨RX3, "holdsRow", "()Z"⟩
abbrev cX3_lickerNumber : ByteArray := prog_5_method_6_code
def yX3_lickerNumber : MethodName := ⟨RX3, "lickerNumber", "()I"⟩
abbrev cX3_put : ByteArray := prog_5_method_7_code
def yX3_put : MethodName := ⟨RX3, "put", "(IJ)V"⟩
def RX4 : String := "BeforeItDrips$World"
def TX4 : u_T := fun k => match k with
  | 0 => ("BeforeItDrips$World", "cone", "LBeforeItDrips$Cone;", true)
  | 1 => ("BeforeItDrips$World", "kinds", "[I", true)
  | 2 => ("BeforeItDrips$World", "as", "[I", true)
  | 3 => ("BeforeItDrips$World", "lickerCount", "I", false)
  | 4 => ("BeforeItDrips$World", "drops", "[I", true)
  | 5 => ("BeforeItDrips$World", "dropCount", "I", false)
  | _ => ("BeforeItDrips$World", "seed", "I", false)
def tyX4 : Nat → FieldType := fun k => match k with
  | 0 => .object "BeforeItDrips$Cone"
  | 1 => .array .int
  | 2 => .array .int
  | 3 => .int
  | 4 => .array .int
  | 5 => .int
  | _ => .int
abbrev wsX40 : List Cond := u_ws RX4 TX4 7
theorem nmX4 : ∀ a, a < 7 → ∀ b, b < 7 → a ≠ b → (TX4 a).2.1 ≠ (TX4 b).2.1 := by decide +kernel
theorem tyX4_ok : ∀ k, k < 7 → parseFieldDescriptor (TX4 k).2.2.1 = some (tyX4 k) := by decide +kernel
abbrev cX4_init : ByteArray := prog_6_method_1_code
def yX4_init : MethodName := ⟨RX4, "<init>", "()V"⟩
abbrev cX4_takeFrom : ByteArray := prog_6_method_2_code
def yX4_takeFrom : MethodName := ⟨RX4, "takeFrom", "(LBeforeItDrips$World;)V"⟩
abbrev cX4_addLicker : ByteArray := prog_6_method_3_code
def yX4_addLicker : MethodName := ⟨RX4, "addLicker", "(II)V"⟩
abbrev cX4_actInTruth : ByteArray := prog_6_method_4_code
def yX4_actInTruth : MethodName := ⟨RX4, "actInTruth", "(I)V"⟩
abbrev cX4_drawByte : ByteArray := prog_6_method_5_code
def yX4_drawByte : MethodName := ⟨RX4, "drawByte", "()I"⟩
def RX5 : String := "BeforeItDrips"
def TX5 : u_T := fun k => match k with
  | 0 => ("BeforeItDrips", "truth", "LBeforeItDrips$World;", true)
  | 1 => ("BeforeItDrips", "kept", "LBeforeItDrips$World;", true)
  | 2 => ("BeforeItDrips", "aheadOfKerb", "LBeforeItDrips$World;", true)
  | 3 => ("BeforeItDrips", "thought", "LBeforeItDrips$Cone;", true)
  | 4 => ("BeforeItDrips", "mind", "LBeforeItDrips$Mind;", true)
  | 5 => ("BeforeItDrips", "shelves", "[LBeforeItDrips$Shelf;", true)
  | 6 => ("BeforeItDrips", "tape", "LBeforeItDrips$Kerb;", true)
  | 7 => ("BeforeItDrips", "refusals", "[I", true)
  | _ => ("BeforeItDrips", "somethingIsKept", "Z", false)
def tyX5 : Nat → FieldType := fun k => match k with
  | 0 => .object "BeforeItDrips$World"
  | 1 => .object "BeforeItDrips$World"
  | 2 => .object "BeforeItDrips$World"
  | 3 => .object "BeforeItDrips$Cone"
  | 4 => .object "BeforeItDrips$Mind"
  | 5 => .array (.object "BeforeItDrips$Shelf")
  | 6 => .object "BeforeItDrips$Kerb"
  | 7 => .array .int
  | _ => .boolean
abbrev wsX50 : List Cond := u_ws RX5 TX5 9
theorem nmX5 : ∀ a, a < 9 → ∀ b, b < 9 → a ≠ b → (TX5 a).2.1 ≠ (TX5 b).2.1 := by decide +kernel
theorem tyX5_ok : ∀ k, k < 9 → parseFieldDescriptor (TX5 k).2.2.1 = some (tyX5 k) := by decide +kernel
abbrev cX5_init : ByteArray := prog_1_method_1_code
def yX5_init : MethodName := ⟨RX5, "<init>", "()V"⟩
abbrev cX5_row : ByteArray := prog_1_method_2_code
def yX5_row : MethodName := ⟨RX5, "row", "(III)I"⟩
abbrev cX5_set : ByteArray := prog_1_method_3_code
def yX5_set : MethodName := ⟨RX5, "set", "(IIJ)I"⟩
abbrev cX5_copy : ByteArray := prog_1_method_4_code
def yX5_copy : MethodName := ⟨RX5, "copy", "(IIIII)I"⟩
abbrev cX5_element : ByteArray := prog_1_method_5_code
def yX5_element : MethodName := ⟨RX5, "element", "(II)J"⟩
abbrev cX5_holds : ByteArray := prog_1_method_6_code
def yX5_holds : MethodName := ⟨RX5, "holds", "(I)I"⟩
abbrev cX5_show : ByteArray := prog_1_method_7_code
def yX5_show : MethodName := ⟨RX5, "show", "(II)I"⟩
abbrev cX5_says : ByteArray := prog_1_method_8_code
def yX5_says : MethodName := ⟨RX5, "says", "(II)I"⟩
abbrev cX5_sides : ByteArray := prog_1_method_9_code
def yX5_sides : MethodName := ⟨RX5, "sides", "(I)I"⟩
abbrev cX5_scoop : ByteArray := prog_1_method_10_code
def yX5_scoop : MethodName := ⟨RX5, "scoop", "(II)I"⟩
abbrev cX5_sun : ByteArray := prog_1_method_11_code
def yX5_sun : MethodName := ⟨RX5, "sun", "(I)I"⟩
abbrev cX5_ask : ByteArray := prog_1_method_12_code
def yX5_ask : MethodName := ⟨RX5, "ask", "(II)I"⟩
abbrev cX5_licker : ByteArray := prog_1_method_13_code
def yX5_licker : MethodName := ⟨RX5, "licker", "(II)I"⟩
abbrev cX5_feed : ByteArray := prog_1_method_14_code
def yX5_feed : MethodName := ⟨RX5, "feed", "(I)I"⟩
abbrev cX5_wipe : ByteArray := prog_1_method_15_code
def yX5_wipe : MethodName := ⟨RX5, "wipe", "()I"⟩
abbrev cX5_kerb : ByteArray := prog_1_method_16_code
def yX5_kerb : MethodName := ⟨RX5, "kerb", "()I"⟩
abbrev cX5_scoopOf : ByteArray := prog_1_method_17_code
def yX5_scoopOf : MethodName := ⟨RX5, "scoopOf", "(II)I"⟩
abbrev cX5_wet : ByteArray := prog_1_method_18_code
def yX5_wet : MethodName := ⟨RX5, "wet", "(II)I"⟩
abbrev cX5_lickerOf : ByteArray := prog_1_method_19_code
def yX5_lickerOf : MethodName := ⟨RX5, "lickerOf", "(II)I"⟩
abbrev cX5_sunny : ByteArray := prog_1_method_20_code
def yX5_sunny : MethodName := ⟨RX5, "sunny", "(I)I"⟩
abbrev cX5_without : ByteArray := prog_1_method_21_code
def yX5_without : MethodName := ⟨RX5, "without", "(I)I"⟩
abbrev cX5_spare : ByteArray := prog_1_method_22_code
def yX5_spare : MethodName := ⟨RX5, "spare", "()I"⟩
abbrev cX5_run : ByteArray := prog_1_method_23_code
def yX5_run : MethodName := ⟨RX5, "run", "(III)I"⟩
abbrev cX5_would : ByteArray := prog_1_method_24_code
def yX5_would : MethodName := ⟨RX5, "would", "(I)I"⟩
abbrev cX5_plan : ByteArray := prog_1_method_25_code
def yX5_plan : MethodName := ⟨RX5, "plan", "(II)I"⟩
abbrev cX5_best : ByteArray := prog_1_method_26_code
def yX5_best : MethodName := ⟨RX5, "best", "(I)I"⟩
abbrev cX5_until : ByteArray := prog_1_method_27_code
def yX5_until : MethodName := ⟨RX5, "until", "(I)I"⟩
abbrev cX5_spareBy : ByteArray := prog_1_method_28_code
def yX5_spareBy : MethodName := ⟨RX5, "spareBy", "(I)I"⟩
abbrev cX5_both : ByteArray := prog_1_method_29_code
def yX5_both : MethodName := ⟨RX5, "both", "(III)I"⟩
abbrev cX5_holdFor : ByteArray := prog_1_method_30_code
def yX5_holdFor : MethodName := ⟨RX5, "holdFor", "(I)I"⟩
abbrev cX5_largest : ByteArray := prog_1_method_31_code
def yX5_largest : MethodName := ⟨RX5, "largest", "(II)I"⟩
abbrev cX5_order : ByteArray := prog_1_method_32_code
def yX5_order : MethodName := ⟨RX5, "order", "(II)I"⟩
abbrev cX5_shade : ByteArray := prog_1_method_33_code
def yX5_shade : MethodName := ⟨RX5, "shade", "(I)I"⟩
abbrev cX5_gives : ByteArray := prog_1_method_34_code
def yX5_gives : MethodName := ⟨RX5, "gives", "()I"⟩
abbrev cX5_wettest : ByteArray := prog_1_method_35_code
def yX5_wettest : MethodName := ⟨RX5, "wettest", "()I"⟩
abbrev cX5_largestScoop : ByteArray := prog_1_method_36_code
def yX5_largestScoop : MethodName := ⟨RX5, "largestScoop", "()I"⟩
abbrev cX5_melted : ByteArray := prog_1_method_37_code
def yX5_melted : MethodName := ⟨RX5, "melted", "()I"⟩
abbrev cX5_judge : ByteArray := prog_1_method_38_code
def yX5_judge : MethodName := ⟨RX5, "judge", "(II)I"⟩
abbrev cX5_behind : ByteArray := prog_1_method_39_code
def yX5_behind : MethodName := ⟨RX5, "behind", "(III)I"⟩
abbrev cX5_done : ByteArray := prog_1_method_40_code
def yX5_done : MethodName := ⟨RX5, "done", "(II)I"⟩
abbrev cX5_drop : ByteArray := prog_1_method_41_code
def yX5_drop : MethodName := ⟨RX5, "drop", "(I)I"⟩
abbrev cX5_went : ByteArray := prog_1_method_42_code
def yX5_went : MethodName := ⟨RX5, "went", "(II)I"⟩
abbrev cX5_act : ByteArray := prog_1_method_43_code
def yX5_act : MethodName := ⟨RX5, "act", "(I)I"⟩
abbrev cX5_licks : ByteArray := prog_1_method_44_code
def yX5_licks : MethodName := ⟨RX5, "licks", "(II)I"⟩
abbrev cX5_swap : ByteArray := prog_1_method_45_code
def yX5_swap : MethodName := ⟨RX5, "swap", "(II)I"⟩
abbrev cX5_day : ByteArray := prog_1_method_46_code
def yX5_day : MethodName := ⟨RX5, "day", "(II)I"⟩
abbrev cX5_anew : ByteArray := prog_1_method_47_code
def yX5_anew : MethodName := ⟨RX5, "anew", "()I"⟩
abbrev cX5_seed : ByteArray := prog_1_method_48_code
def yX5_seed : MethodName := ⟨RX5, "seed", "(I)I"⟩
abbrev cX5_image : ByteArray := prog_1_method_49_code
def yX5_image : MethodName := ⟨RX5, "image", "()I"⟩
abbrev cX5_back : ByteArray := prog_1_method_50_code
def yX5_back : MethodName := ⟨RX5, "back", "()I"⟩
abbrev cX5_status : ByteArray := prog_1_method_51_code
def yX5_status : MethodName := ⟨RX5, "status", "(I)I"⟩
abbrev cX5_refuse : ByteArray := prog_1_method_52_code
def yX5_refuse : MethodName := ⟨RX5, "refuse", "(I)I"⟩
abbrev cX5_isWithin : ByteArray := prog_1_method_53_code
def yX5_isWithin : MethodName := ⟨RX5, "isWithin", "(III)Z"⟩
abbrev cX5_isShelf : ByteArray := prog_1_method_54_code
def yX5_isShelf : MethodName := ⟨RX5, "isShelf", "(I)Z"⟩
abbrev cX5_isSpan : ByteArray := prog_1_method_55_code
def yX5_isSpan : MethodName := ⟨RX5, "isSpan", "(I)Z"⟩
abbrev cX5_isScoop : ByteArray := prog_1_method_56_code
def yX5_isScoop : MethodName := ⟨RX5, "isScoop", "(I)Z"⟩
abbrev cX5_isSide : ByteArray := prog_1_method_57_code
def yX5_isSide : MethodName := ⟨RX5, "isSide", "(I)Z"⟩
abbrev cX5_isLicker : ByteArray := prog_1_method_58_code
def yX5_isLicker : MethodName := ⟨RX5, "isLicker", "(I)Z"⟩
abbrev cX5_canAsk : ByteArray := prog_1_method_59_code
def yX5_canAsk : MethodName := ⟨RX5, "canAsk", "(II)Z"⟩
abbrev cX5_isUnder : ByteArray := prog_1_method_60_code
def yX5_isUnder : MethodName := ⟨RX5, "isUnder", "(II)Z"⟩
abbrev cX5_rowFault : ByteArray := prog_1_method_61_code
def yX5_rowFault : MethodName := ⟨RX5, "rowFault", "(I)I"⟩
abbrev cX5_copyFault : ByteArray := prog_1_method_62_code
def yX5_copyFault : MethodName := ⟨RX5, "copyFault", "(II)I"⟩
abbrev cX5_toldFault : ByteArray := prog_1_method_63_code
def yX5_toldFault : MethodName := ⟨RX5, "toldFault", "(IIII)I"⟩
abbrev cX5_wrongTold : ByteArray := prog_1_method_64_code
def yX5_wrongTold : MethodName := ⟨RX5, "wrongTold", "(II)I"⟩
abbrev cX5_wentAt : ByteArray := prog_1_method_65_code
def yX5_wentAt : MethodName := ⟨RX5, "wentAt", "(III)Z"⟩
abbrev cX5_shelvesInUse : ByteArray := prog_1_method_66_code
def yX5_shelvesInUse : MethodName := ⟨RX5, "shelvesInUse", "()I"⟩
abbrev cX5_wouldIn : ByteArray := prog_1_method_67_code
def yX5_wouldIn : MethodName := ⟨RX5, "wouldIn", "(LBeforeItDrips$Cone;I)I"⟩
abbrev cX5_lostIdling : ByteArray := prog_1_method_68_code
def yX5_lostIdling : MethodName := ⟨RX5, "lostIdling", "(I)I"⟩
abbrev cX5_lostUnder : ByteArray := prog_1_method_69_code
def yX5_lostUnder : MethodName := ⟨RX5, "lostUnder", "(III)I"⟩
abbrev cX5_thinkRun : ByteArray := prog_1_method_70_code
def yX5_thinkRun : MethodName := ⟨RX5, "thinkRun", "(II)V"⟩
abbrev cX5_thoughtResult : ByteArray := prog_1_method_71_code
def yX5_thoughtResult : MethodName := ⟨RX5, "thoughtResult", "(I)I"⟩
abbrev cX5_lickInTruth : ByteArray := prog_1_method_72_code
def yX5_lickInTruth : MethodName := ⟨RX5, "lickInTruth", "(II)V"⟩
def RX6 : String := "BeforeItDripsModel"
def TX6 : u_T := fun k => match k with
  | 0 => ("BeforeItDripsModel", "shelf", "[I", true)
  | 1 => ("BeforeItDripsModel", "rowSort", "[I", true)
  | 2 => ("BeforeItDripsModel", "rowSize", "[I", true)
  | 3 => ("BeforeItDripsModel", "rows", "[[J", true)
  | 4 => ("BeforeItDripsModel", "moved", "[J", true)
  | 5 => ("BeforeItDripsModel", "shown", "[I", true)
  | 6 => ("BeforeItDripsModel", "tape", "[I", true)
  | 7 => ("BeforeItDripsModel", "tapeSize", "I", false)
  | 8 => ("BeforeItDripsModel", "refused", "[I", true)
  | 9 => ("BeforeItDripsModel", "sides", "I", false)
  | 10 => ("BeforeItDripsModel", "scoops", "I", false)
  | 11 => ("BeforeItDripsModel", "sort", "[I", true)
  | 12 => ("BeforeItDripsModel", "amount", "[I", true)
  | 13 => ("BeforeItDripsModel", "wet", "[[I", true)
  | 14 => ("BeforeItDripsModel", "rim", "[I", true)
  | 15 => ("BeforeItDripsModel", "turn", "I", false)
  | 16 => ("BeforeItDripsModel", "sun", "I", false)
  | 17 => ("BeforeItDripsModel", "asked", "[I", true)
  | 18 => ("BeforeItDripsModel", "seconds", "I", false)
  | 19 => ("BeforeItDripsModel", "lost", "I", false)
  | 20 => ("BeforeItDripsModel", "eaten", "I", false)
  | 21 => ("BeforeItDripsModel", "soak", "I", false)
  | 22 => ("BeforeItDripsModel", "lickers", "I", false)
  | 23 => ("BeforeItDripsModel", "kind", "[I", true)
  | 24 => ("BeforeItDripsModel", "by", "[I", true)
  | 25 => ("BeforeItDripsModel", "drops", "I", false)
  | 26 => ("BeforeItDripsModel", "dropAt", "[I", true)
  | 27 => ("BeforeItDripsModel", "seed", "I", false)
  | 28 => ("BeforeItDripsModel", "kept", "LBeforeItDripsModel;", false)
  | 29 => ("BeforeItDripsModel", "tried", "LBeforeItDripsModel;", false)
  | 30 => ("BeforeItDripsModel", "ahead", "[LBeforeItDripsModel;", true)
  | 31 => ("BeforeItDripsModel", "at", "I", false)
  | 32 => ("BeforeItDripsModel", "token", "I", false)
  | 33 => ("BeforeItDripsModel", "from", "I", false)
  | 34 => ("BeforeItDripsModel", "figures", "I", false)
  | 35 => ("BeforeItDripsModel", "fault", "I", false)
  | 36 => ("BeforeItDripsModel", "told", "[I", true)
  | 37 => ("BeforeItDripsModel", "statements", "I", false)
  | 38 => ("BeforeItDripsModel", "planFirst", "I", false)
  | 39 => ("BeforeItDripsModel", "planLost", "I", false)
  | 40 => ("BeforeItDripsModel", "planEaten", "I", false)
  | 41 => ("BeforeItDripsModel", "planRow", "[I", true)
  | 42 => ("BeforeItDripsModel", "orderNow", "[I", true)
  | 43 => ("BeforeItDripsModel", "orderBest", "[I", true)
  | _ => ("BeforeItDripsModel", "orderLost", "I", false)
def tyX6 : Nat → FieldType := fun k => match k with
  | 0 => .array .int
  | 1 => .array .int
  | 2 => .array .int
  | 3 => .array (.array .long)
  | 4 => .array .long
  | 5 => .array .int
  | 6 => .array .int
  | 7 => .int
  | 8 => .array .int
  | 9 => .int
  | 10 => .int
  | 11 => .array .int
  | 12 => .array .int
  | 13 => .array (.array .int)
  | 14 => .array .int
  | 15 => .int
  | 16 => .int
  | 17 => .array .int
  | 18 => .int
  | 19 => .int
  | 20 => .int
  | 21 => .int
  | 22 => .int
  | 23 => .array .int
  | 24 => .array .int
  | 25 => .int
  | 26 => .array .int
  | 27 => .int
  | 28 => .object "BeforeItDripsModel"
  | 29 => .object "BeforeItDripsModel"
  | 30 => .array (.object "BeforeItDripsModel")
  | 31 => .int
  | 32 => .int
  | 33 => .int
  | 34 => .int
  | 35 => .int
  | 36 => .array .int
  | 37 => .int
  | 38 => .int
  | 39 => .int
  | 40 => .int
  | 41 => .array .int
  | 42 => .array .int
  | 43 => .array .int
  | _ => .int
abbrev wsX60 : List Cond := u_ws RX6 TX6 45
theorem nmX6 : ∀ a, a < 45 → ∀ b, b < 45 → a ≠ b → (TX6 a).2.1 ≠ (TX6 b).2.1 := by decide +kernel
theorem tyX6_ok : ∀ k, k < 45 → parseFieldDescriptor (TX6 k).2.2.1 = some (tyX6 k) := by decide +kernel
abbrev cX6_init : ByteArray := prog_8_method_1_code
def yX6_init : MethodName := ⟨RX6, "<init>", "()V"⟩
abbrev cX6_refuse : ByteArray := prog_8_method_2_code
def yX6_refuse : MethodName := ⟨RX6, "refuse", "(I)I"⟩
abbrev cX6_in : ByteArray := prog_8_method_3_code
def yX6_in : MethodName := ⟨RX6, "in", "(JJJ)Z"⟩
abbrev cX6_isLicker : ByteArray := prog_8_method_4_code
def yX6_isLicker : MethodName := ⟨RX6, "isLicker", "(I)Z"⟩
abbrev cX6_isScoop : ByteArray := prog_8_method_5_code
def yX6_isScoop : MethodName := ⟨RX6, "isScoop", "(I)Z"⟩
abbrev cX6_isSide : ByteArray := prog_8_method_6_code
def yX6_isSide : MethodName := ⟨RX6, "isSide", "(I)Z"⟩
abbrev cX6_row : ByteArray := prog_8_method_7_code
def yX6_row : MethodName := ⟨RX6, "row", "(III)I"⟩
abbrev cX6_fit : ByteArray := prog_8_method_8_code
def yX6_fit : MethodName := ⟨RX6, "fit", "(IJ)J"⟩
abbrev cX6_noRow : ByteArray := prog_8_method_9_code
def yX6_noRow : MethodName := ⟨RX6, "noRow", "(I)I"⟩
abbrev cX6_set : ByteArray := prog_8_method_10_code
def yX6_set : MethodName := ⟨RX6, "set", "(IIJ)I"⟩
abbrev cX6_copy : ByteArray := prog_8_method_11_code
def yX6_copy : MethodName := ⟨RX6, "copy", "(IIIII)I"⟩
abbrev cX6_element : ByteArray := prog_8_method_12_code
def yX6_element : MethodName := ⟨RX6, "element", "(II)J"⟩
abbrev cX6_holds : ByteArray := prog_8_method_13_code
def yX6_holds : MethodName := ⟨RX6, "holds", "(I)I"⟩
abbrev cX6_show : ByteArray := prog_8_method_14_code
def yX6_show : MethodName := ⟨RX6, "show", "(II)I"⟩
abbrev cX6_isUnder : ByteArray := prog_8_method_15_code
def yX6_isUnder : MethodName := ⟨RX6, "isUnder", "(II)Z"⟩
abbrev cX6_says : ByteArray := prog_8_method_16_code
def yX6_says : MethodName := ⟨RX6, "says", "(II)I"⟩
abbrev cX6_becomeSides : ByteArray := prog_8_method_17_code
def yX6_becomeSides : MethodName := ⟨RX6, "becomeSides", "(I)V"⟩
abbrev cX6_sides : ByteArray := prog_8_method_18_code
def yX6_sides : MethodName := ⟨RX6, "sides", "(I)I"⟩
abbrev cX6_addScoop : ByteArray := prog_8_method_19_code
def yX6_addScoop : MethodName := ⟨RX6, "addScoop", "(II)V"⟩
abbrev cX6_scoop : ByteArray := prog_8_method_20_code
def yX6_scoop : MethodName := ⟨RX6, "scoop", "(II)I"⟩
abbrev cX6_sun : ByteArray := prog_8_method_21_code
def yX6_sun : MethodName := ⟨RX6, "sun", "(I)I"⟩
abbrev cX6_mayAsk : ByteArray := prog_8_method_22_code
def yX6_mayAsk : MethodName := ⟨RX6, "mayAsk", "(II)Z"⟩
abbrev cX6_ask : ByteArray := prog_8_method_23_code
def yX6_ask : MethodName := ⟨RX6, "ask", "(II)I"⟩
abbrev cX6_addLicker : ByteArray := prog_8_method_24_code
def yX6_addLicker : MethodName := ⟨RX6, "addLicker", "(II)V"⟩
abbrev cX6_licker : ByteArray := prog_8_method_25_code
def yX6_licker : MethodName := ⟨RX6, "licker", "(II)I"⟩
abbrev cX6_feed : ByteArray := prog_8_method_26_code
def yX6_feed : MethodName := ⟨RX6, "feed", "(I)I"⟩
abbrev cX6_wipe : ByteArray := prog_8_method_27_code
def yX6_wipe : MethodName := ⟨RX6, "wipe", "()I"⟩
abbrev cX6_isLetter : ByteArray := prog_8_method_28_code
def yX6_isLetter : MethodName := ⟨RX6, "isLetter", "(I)Z"⟩
abbrev cX6_isDigit : ByteArray := prog_8_method_29_code
def yX6_isDigit : MethodName := ⟨RX6, "isDigit", "(I)Z"⟩
abbrev cX6_look : ByteArray := prog_8_method_30_code
def yX6_look : MethodName := ⟨RX6, "look", "()V"⟩
abbrev cX6_wrong : ByteArray := prog_8_method_31_code
def yX6_wrong : MethodName := ⟨RX6, "wrong", "()Z"⟩
abbrev cX6_isWord : ByteArray := prog_8_method_32_code
def yX6_isWord : MethodName := ⟨RX6, "isWord", "(Ljava/lang/String;)Z"⟩
abbrev cX6_number : ByteArray := prog_8_method_33_code
def yX6_number : MethodName := ⟨RX6, "number", "(III)Z"⟩
abbrev cX6_tells : ByteArray := prog_8_method_34_code
def yX6_tells : MethodName := ⟨RX6, "tells", "(II)Z"⟩
abbrev cX6_sunTold : ByteArray := prog_8_method_35_code
def yX6_sunTold : MethodName := ⟨RX6, "sunTold", "()Z"⟩
abbrev cX6_lickTold : ByteArray := prog_8_method_36_code
def yX6_lickTold : MethodName := ⟨RX6, "lickTold", "()Z"⟩
abbrev cX6_statement : ByteArray := prog_8_method_37_code
def yX6_statement : MethodName := ⟨RX6, "statement", "()Z"⟩
abbrev cX6_readAll : ByteArray := prog_8_method_38_code
def yX6_readAll : MethodName := ⟨RX6, "readAll", "()Z"⟩
abbrev cX6_kerb : ByteArray := prog_8_method_39_code
def yX6_kerb : MethodName := ⟨RX6, "kerb", "()I"⟩
abbrev cX6_wetOf : ByteArray := prog_8_method_40_code
def yX6_wetOf : MethodName := ⟨RX6, "wetOf", "(I)I"⟩
abbrev cX6_scoopOf : ByteArray := prog_8_method_41_code
def yX6_scoopOf : MethodName := ⟨RX6, "scoopOf", "(II)I"⟩
abbrev cX6_wet : ByteArray := prog_8_method_42_code
def yX6_wet : MethodName := ⟨RX6, "wet", "(II)I"⟩
abbrev cX6_lickerOf : ByteArray := prog_8_method_43_code
def yX6_lickerOf : MethodName := ⟨RX6, "lickerOf", "(II)I"⟩
abbrev cX6_isSunny : ByteArray := prog_8_method_44_code
def yX6_isSunny : MethodName := ⟨RX6, "isSunny", "(I)Z"⟩
abbrev cX6_sunny : ByteArray := prog_8_method_45_code
def yX6_sunny : MethodName := ⟨RX6, "sunny", "(I)I"⟩
abbrev cX6_canAct : ByteArray := prog_8_method_46_code
def yX6_canAct : MethodName := ⟨RX6, "canAct", "(J)Z"⟩
abbrev cX6_lickedOf : ByteArray := prog_8_method_47_code
def yX6_lickedOf : MethodName := ⟨RX6, "lickedOf", "(I)I"⟩
abbrev cX6_melts : ByteArray := prog_8_method_48_code
def yX6_melts : MethodName := ⟨RX6, "melts", "(I)V"⟩
abbrev cX6_runsDown : ByteArray := prog_8_method_49_code
def yX6_runsDown : MethodName := ⟨RX6, "runsDown", "(I)V"⟩
abbrev cX6_goes : ByteArray := prog_8_method_50_code
def yX6_goes : MethodName := ⟨RX6, "goes", "(IZ)V"⟩
abbrev cX6_leftNow : ByteArray := prog_8_method_51_code
def yX6_leftNow : MethodName := ⟨RX6, "leftNow", "()I"⟩
abbrev cX6_roundAct : ByteArray := prog_8_method_52_code
def yX6_roundAct : MethodName := ⟨RX6, "roundAct", "()I"⟩
abbrev cX6_allAt : ByteArray := prog_8_method_53_code
def yX6_allAt : MethodName := ⟨RX6, "allAt", "(I)I"⟩
abbrev cX6_wettestSide : ByteArray := prog_8_method_54_code
def yX6_wettestSide : MethodName := ⟨RX6, "wettestSide", "()I"⟩
abbrev cX6_turnTo : ByteArray := prog_8_method_55_code
def yX6_turnTo : MethodName := ⟨RX6, "turnTo", "(I)I"⟩
abbrev cX6_wettestAct : ByteArray := prog_8_method_56_code
def yX6_wettestAct : MethodName := ⟨RX6, "wettestAct", "()I"⟩
abbrev cX6_isMore : ByteArray := prog_8_method_57_code
def yX6_isMore : MethodName := ⟨RX6, "isMore", "(II)Z"⟩
abbrev cX6_lowestAct : ByteArray := prog_8_method_58_code
def yX6_lowestAct : MethodName := ⟨RX6, "lowestAct", "()I"⟩
abbrev cX6_findPlan : ByteArray := prog_8_method_59_code
def yX6_findPlan : MethodName := ⟨RX6, "findPlan", "(I)V"⟩
abbrev cX6_wouldBe : ByteArray := prog_8_method_60_code
def yX6_wouldBe : MethodName := ⟨RX6, "wouldBe", "(I)I"⟩
abbrev cX6_would : ByteArray := prog_8_method_61_code
def yX6_would : MethodName := ⟨RX6, "would", "(I)I"⟩
abbrev cX6_plan : ByteArray := prog_8_method_62_code
def yX6_plan : MethodName := ⟨RX6, "plan", "(II)I"⟩
abbrev cX6_fresh : ByteArray := prog_8_method_63_code
def yX6_fresh : MethodName := ⟨RX6, "fresh", "()LBeforeItDripsModel;"⟩
abbrev cX6_stands : ByteArray := prog_8_method_64_code
def yX6_stands : MethodName := ⟨RX6, "stands", "(I)V"⟩
abbrev cX6_lickedBy : ByteArray := prog_8_method_65_code
def yX6_lickedBy : MethodName := ⟨RX6, "lickedBy", "(II)V"⟩
abbrev cX6_withoutNow : ByteArray := prog_8_method_66_code
def yX6_withoutNow : MethodName := ⟨RX6, "withoutNow", "(I)I"⟩
abbrev cX6_without : ByteArray := prog_8_method_67_code
def yX6_without : MethodName := ⟨RX6, "without", "(I)I"⟩
abbrev cX6_spare : ByteArray := prog_8_method_68_code
def yX6_spare : MethodName := ⟨RX6, "spare", "()I"⟩
abbrev cX6_toldOf : ByteArray := prog_8_method_69_code
def yX6_toldOf : MethodName := ⟨RX6, "toldOf", "(LBeforeItDripsModel;I)I"⟩
abbrev cX6_run : ByteArray := prog_8_method_70_code
def yX6_run : MethodName := ⟨RX6, "run", "(III)I"⟩
abbrev cX6_best : ByteArray := prog_8_method_71_code
def yX6_best : MethodName := ⟨RX6, "best", "(I)I"⟩
abbrev cX6_until : ByteArray := prog_8_method_72_code
def yX6_until : MethodName := ⟨RX6, "until", "(I)I"⟩
abbrev cX6_spareBy : ByteArray := prog_8_method_73_code
def yX6_spareBy : MethodName := ⟨RX6, "spareBy", "(I)I"⟩
abbrev cX6_both : ByteArray := prog_8_method_74_code
def yX6_both : MethodName := ⟨RX6, "both", "(III)I"⟩
abbrev cX6_holdFor : ByteArray := prog_8_method_75_code
def yX6_holdFor : MethodName := ⟨RX6, "holdFor", "(I)I"⟩
abbrev cX6_largest : ByteArray := prog_8_method_76_code
def yX6_largest : MethodName := ⟨RX6, "largest", "(II)I"⟩
abbrev cX6_putFrom : ByteArray := prog_8_method_77_code
def yX6_putFrom : MethodName := ⟨RX6, "putFrom", "(LBeforeItDripsModel;II)V"⟩
abbrev cX6_seekOrder : ByteArray := prog_8_method_78_code
def yX6_seekOrder : MethodName := ⟨RX6, "seekOrder", "(III)V"⟩
abbrev cX6_order : ByteArray := prog_8_method_79_code
def yX6_order : MethodName := ⟨RX6, "order", "(II)I"⟩
abbrev cX6_shade : ByteArray := prog_8_method_80_code
def yX6_shade : MethodName := ⟨RX6, "shade", "(I)I"⟩
abbrev cX6_gives : ByteArray := prog_8_method_81_code
def yX6_gives : MethodName := ⟨RX6, "gives", "()I"⟩
abbrev cX6_wettest : ByteArray := prog_8_method_82_code
def yX6_wettest : MethodName := ⟨RX6, "wettest", "()I"⟩
abbrev cX6_largestScoop : ByteArray := prog_8_method_83_code
def yX6_largestScoop : MethodName := ⟨RX6, "largestScoop", "()I"⟩
abbrev cX6_melted : ByteArray := prog_8_method_84_code
def yX6_melted : MethodName := ⟨RX6, "melted", "()I"⟩
abbrev cX6_noActs : ByteArray := prog_8_method_85_code
def yX6_noActs : MethodName := ⟨RX6, "noActs", "(II)I"⟩
abbrev cX6_wrongIn : ByteArray := prog_8_method_86_code
def yX6_wrongIn : MethodName := ⟨RX6, "wrongIn", "([JI)I"⟩
abbrev cX6_judge : ByteArray := prog_8_method_87_code
def yX6_judge : MethodName := ⟨RX6, "judge", "(II)I"⟩
abbrev cX6_behind : ByteArray := prog_8_method_88_code
def yX6_behind : MethodName := ⟨RX6, "behind", "(III)I"⟩
abbrev cX6_done : ByteArray := prog_8_method_89_code
def yX6_done : MethodName := ⟨RX6, "done", "(II)I"⟩
abbrev cX6_drop : ByteArray := prog_8_method_90_code
def yX6_drop : MethodName := ⟨RX6, "drop", "(I)I"⟩
abbrev cX6_went : ByteArray := prog_8_method_91_code
def yX6_went : MethodName := ⟨RX6, "went", "(II)I"⟩
abbrev cX6_act : ByteArray := prog_8_method_92_code
def yX6_act : MethodName := ⟨RX6, "act", "(I)I"⟩
abbrev cX6_licksTruly : ByteArray := prog_8_method_93_code
def yX6_licksTruly : MethodName := ⟨RX6, "licksTruly", "(II)V"⟩
abbrev cX6_licks : ByteArray := prog_8_method_94_code
def yX6_licks : MethodName := ⟨RX6, "licks", "(II)I"⟩
abbrev cX6_swap : ByteArray := prog_8_method_95_code
def yX6_swap : MethodName := ⟨RX6, "swap", "(II)I"⟩
abbrev cX6_below : ByteArray := prog_8_method_96_code
def yX6_below : MethodName := ⟨RX6, "below", "(I)I"⟩
abbrev cX6_day : ByteArray := prog_8_method_97_code
def yX6_day : MethodName := ⟨RX6, "day", "(II)I"⟩
abbrev cX6_anew : ByteArray := prog_8_method_98_code
def yX6_anew : MethodName := ⟨RX6, "anew", "()I"⟩
abbrev cX6_seed : ByteArray := prog_8_method_99_code
def yX6_seed : MethodName := ⟨RX6, "seed", "(I)I"⟩
abbrev cX6_copied : ByteArray := prog_8_method_100_code
def yX6_copied : MethodName := ⟨RX6, "copied", "([I[I)V"⟩
abbrev cX6_takeFrom : ByteArray := prog_8_method_101_code
def yX6_takeFrom : MethodName := ⟨RX6, "takeFrom", "(LBeforeItDripsModel;)V"⟩
abbrev cX6_image : ByteArray := prog_8_method_102_code
def yX6_image : MethodName := ⟨RX6, "image", "()I"⟩
abbrev cX6_back : ByteArray := prog_8_method_103_code
def yX6_back : MethodName := ⟨RX6, "back", "()I"⟩
abbrev cX6_status : ByteArray := prog_8_method_104_code
def yX6_status : MethodName := ⟨RX6, "status", "(I)I"⟩
def RJ9 : String := "java/lang/Math"
def TJ9 : u_T := fun k => match k with
  | _ => ("", "", "", false)
def tyJ9 : Nat → FieldType := fun k => match k with
  | _ => .int
abbrev wsJ90 : List Cond := u_ws RJ9 TJ9 0
theorem nmJ9 : ∀ a, a < 0 → ∀ b, b < 0 → a ≠ b → (TJ9 a).2.1 ≠ (TJ9 b).2.1 := by decide +kernel
theorem tyJ9_ok : ∀ k, k < 0 → parseFieldDescriptor (TJ9 k).2.2.1 = some (tyJ9 k) := by decide +kernel
abbrev cJ9_min_7cf53 : ByteArray := prog_9_method_69_code
def yJ9_min_7cf53 : MethodName := ⟨RJ9, "min", "(II)I"⟩
def RJ0 : String := "java/lang/String"
def TJ0 : u_T := fun k => match k with
  | _ => ("", "", "", false)
def tyJ0 : Nat → FieldType := fun k => match k with
  | _ => .int
abbrev wsJ00 : List Cond := u_ws RJ0 TJ0 0
theorem nmJ0 : ∀ a, a < 0 → ∀ b, b < 0 → a ≠ b → (TJ0 a).2.1 ≠ (TJ0 b).2.1 := by decide +kernel
theorem tyJ0_ok : ∀ k, k < 0 → parseFieldDescriptor (TJ0 k).2.2.1 = some (tyJ0 k) := by decide +kernel
abbrev cJ0_length_8abf5 : ByteArray := prog_10_method_54_code
def yJ0_length_8abf5 : MethodName := ⟨RJ0, "length", "()I"⟩
abbrev cJ0_charAt_5068e : ByteArray := prog_10_method_56_code
def yJ0_charAt_5068e : MethodName := ⟨RJ0, "charAt", "(I)C"⟩
abbrev cJ0_coder_7d493 : ByteArray := prog_10_method_152_code
def yJ0_coder_7d493 : MethodName := ⟨RJ0, "coder", "()B"⟩
abbrev cJ0_isLatin1_aae02 : ByteArray := prog_10_method_154_code
def yJ0_isLatin1_aae02 : MethodName := ⟨RJ0, "isLatin1", "()Z"⟩
abbrev cJ0_checkIndex_df160 : ByteArray := prog_10_method_155_code
def yJ0_checkIndex_df160 : MethodName := ⟨RJ0, "checkIndex", "(II)V"⟩
def RJ1 : String := "java/lang/StringLatin1"
def TJ1 : u_T := fun k => match k with
  | _ => ("", "", "", false)
def tyJ1 : Nat → FieldType := fun k => match k with
  | _ => .int
abbrev wsJ10 : List Cond := u_ws RJ1 TJ1 0
theorem nmJ1 : ∀ a, a < 0 → ∀ b, b < 0 → a ≠ b → (TJ1 a).2.1 ≠ (TJ1 b).2.1 := by decide +kernel
theorem tyJ1_ok : ∀ k, k < 0 → parseFieldDescriptor (TJ1 k).2.2.1 = some (tyJ1 k) := by decide +kernel
abbrev cJ1_charAt_3b067 : ByteArray := prog_11_method_2_code
def yJ1_charAt_3b067 : MethodName := ⟨RJ1, "charAt", "([BI)C"⟩
def RJ2 : String := "java/lang/StringUTF16"
def TJ2 : u_T := fun k => match k with
  | _ => ("", "", "", false)
def tyJ2 : Nat → FieldType := fun k => match k with
  | _ => .int
abbrev wsJ20 : List Cond := u_ws RJ2 TJ2 0
theorem nmJ2 : ∀ a, a < 0 → ∀ b, b < 0 → a ≠ b → (TJ2 a).2.1 ≠ (TJ2 b).2.1 := by decide +kernel
theorem tyJ2_ok : ∀ k, k < 0 → parseFieldDescriptor (TJ2 k).2.2.1 = some (tyJ2 k) := by decide +kernel
abbrev cJ2_getChar_3b067 : ByteArray := prog_12_method_5_code
def yJ2_getChar_3b067 : MethodName := ⟨RJ2, "getChar", "([BI)C"⟩
abbrev cJ2_length_9d52b : ByteArray := prog_12_method_6_code
def yJ2_length_9d52b : MethodName := ⟨RJ2, "length", "([B)I"⟩
abbrev cJ2_charAt_3b067 : ByteArray := prog_12_method_83_code
def yJ2_charAt_3b067 : MethodName := ⟨RJ2, "charAt", "([BI)C"⟩
abbrev cJ2_checkIndex_2214a : ByteArray := prog_12_method_91_code
def yJ2_checkIndex_2214a : MethodName := ⟨RJ2, "checkIndex", "(I[B)V"⟩
def RJ10 : String := "java/lang/System"
def TJ10 : u_T := fun k => match k with
  | _ => ("", "", "", false)
def tyJ10 : Nat → FieldType := fun k => match k with
  | _ => .int
abbrev wsJ100 : List Cond := u_ws RJ10 TJ10 0
theorem nmJ10 : ∀ a, a < 0 → ∀ b, b < 0 → a ≠ b → (TJ10 a).2.1 ≠ (TJ10 b).2.1 := by decide +kernel
theorem tyJ10_ok : ∀ k, k < 0 → parseFieldDescriptor (TJ10 k).2.2.1 = some (tyJ10 k) := by decide +kernel
def RJ3 : String := "jdk/internal/util/Preconditions"
def TJ3 : u_T := fun k => match k with
  | _ => ("", "", "", false)
def tyJ3 : Nat → FieldType := fun k => match k with
  | _ => .int
abbrev wsJ30 : List Cond := u_ws RJ3 TJ3 0
theorem nmJ3 : ∀ a, a < 0 → ∀ b, b < 0 → a ≠ b → (TJ3 a).2.1 ≠ (TJ3 b).2.1 := by decide +kernel
theorem tyJ3_ok : ∀ k, k < 0 → parseFieldDescriptor (TJ3 k).2.2.1 = some (tyJ3 k) := by decide +kernel
abbrev cJ3_checkIndex_8e157 : ByteArray := prog_14_method_11_code
def yJ3_checkIndex_8e157 : MethodName := ⟨RJ3, "checkIndex", "(IILjava/util/function/BiFunction;)I"⟩
def RL : String := "BeforeItDripsLaw"
abbrev cL_law : ByteArray := code
def yL_law : MethodName := ⟨RL, "law", "([I)Z"⟩
abbrev vwCl : List vw_C := [(RX0, TX0, 16), (RX1, TX1, 6), (RX2, TX2, 5), (RX3, TX3, 3), (RX4, TX4, 7), (RX5, TX5, 9), (RX6, TX6, 45)]
