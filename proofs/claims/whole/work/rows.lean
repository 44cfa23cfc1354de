section
-- ===== PART A: goes FIRST, ahead of the names: the tables' words, and 'selects' of the private methods out of them =====
/-- a private method of a class that the tables say can be made, by its rows of tables_1 -/
def lw_okq (q : MethodName × Nat) : Prop := (q.1.cls ≠ "java/lang/invoke/MethodHandle" ∧ q.1.cls ≠ "java/lang/invoke/VarHandle") ∧ Cond.instantiable q.1.cls q.2 ∈ tables_1 ∧ Cond.privateMethod q.1 ∈ tables_1 ∧ Cond.instanceMethod q.1 ∈ tables_1
theorem lw_p0 : lw_okq (⟨"BeforeItDrips", "refuse", "(I)I"⟩, 9) := ⟨⟨by decide +kernel, by decide +kernel⟩, List.mem_of_getElem? (i := 15) (by decide +kernel), List.mem_of_getElem? (i := 259) (by decide +kernel), List.mem_of_getElem? (i := 260) (by decide +kernel)⟩
theorem lw_p1 : lw_okq (⟨"BeforeItDrips", "rowFault", "(I)I"⟩, 9) := ⟨⟨by decide +kernel, by decide +kernel⟩, List.mem_of_getElem? (i := 15) (by decide +kernel), List.mem_of_getElem? (i := 271) (by decide +kernel), List.mem_of_getElem? (i := 272) (by decide +kernel)⟩
theorem lw_p2 : lw_okq (⟨"BeforeItDrips", "copyFault", "(II)I"⟩, 9) := ⟨⟨by decide +kernel, by decide +kernel⟩, List.mem_of_getElem? (i := 15) (by decide +kernel), List.mem_of_getElem? (i := 287) (by decide +kernel), List.mem_of_getElem? (i := 288) (by decide +kernel)⟩
theorem lw_p3 : lw_okq (⟨"BeforeItDrips", "isLicker", "(I)Z"⟩, 9) := ⟨⟨by decide +kernel, by decide +kernel⟩, List.mem_of_getElem? (i := 15) (by decide +kernel), List.mem_of_getElem? (i := 306) (by decide +kernel), List.mem_of_getElem? (i := 307) (by decide +kernel)⟩
theorem lw_p4 : lw_okq (⟨"BeforeItDrips", "wouldIn", "(LBeforeItDrips$Cone;I)I"⟩, 9) := ⟨⟨by decide +kernel, by decide +kernel⟩, List.mem_of_getElem? (i := 15) (by decide +kernel), List.mem_of_getElem? (i := 329) (by decide +kernel), List.mem_of_getElem? (i := 330) (by decide +kernel)⟩
theorem lw_p5 : lw_okq (⟨"BeforeItDrips$Cone", "isWetLower", "(II)Z"⟩, 16) := ⟨⟨by decide +kernel, by decide +kernel⟩, List.mem_of_getElem? (i := 29) (by decide +kernel), List.mem_of_getElem? (i := 362) (by decide +kernel), List.mem_of_getElem? (i := 363) (by decide +kernel)⟩
theorem lw_p6 : lw_okq (⟨"BeforeItDrips$Mind", "weigh", "(LBeforeItDrips$Cone;)V"⟩, 5) := ⟨⟨by decide +kernel, by decide +kernel⟩, List.mem_of_getElem? (i := 147) (by decide +kernel), List.mem_of_getElem? (i := 379) (by decide +kernel), List.mem_of_getElem? (i := 380) (by decide +kernel)⟩
theorem lw_p7 : lw_okq (⟨"BeforeItDrips$Cone", "eat", "(I)V"⟩, 16) := ⟨⟨by decide +kernel, by decide +kernel⟩, List.mem_of_getElem? (i := 29) (by decide +kernel), List.mem_of_getElem? (i := 397) (by decide +kernel), List.mem_of_getElem? (i := 398) (by decide +kernel)⟩
theorem lw_p8 : lw_okq (⟨"BeforeItDrips$Cone", "melt", "()V"⟩, 16) := ⟨⟨by decide +kernel, by decide +kernel⟩, List.mem_of_getElem? (i := 29) (by decide +kernel), List.mem_of_getElem? (i := 404) (by decide +kernel), List.mem_of_getElem? (i := 405) (by decide +kernel)⟩
theorem lw_p9 : lw_okq (⟨"BeforeItDrips$Cone", "runDown", "()V"⟩, 16) := ⟨⟨by decide +kernel, by decide +kernel⟩, List.mem_of_getElem? (i := 29) (by decide +kernel), List.mem_of_getElem? (i := 412) (by decide +kernel), List.mem_of_getElem? (i := 413) (by decide +kernel)⟩
theorem lw_p10 : lw_okq (⟨"BeforeItDrips$Cone", "fallOff", "()V"⟩, 16) := ⟨⟨by decide +kernel, by decide +kernel⟩, List.mem_of_getElem? (i := 29) (by decide +kernel), List.mem_of_getElem? (i := 416) (by decide +kernel), List.mem_of_getElem? (i := 417) (by decide +kernel)⟩
theorem lw_p11 : lw_okq (⟨"BeforeItDrips", "canAsk", "(II)Z"⟩, 9) := ⟨⟨by decide +kernel, by decide +kernel⟩, List.mem_of_getElem? (i := 15) (by decide +kernel), List.mem_of_getElem? (i := 449) (by decide +kernel), List.mem_of_getElem? (i := 450) (by decide +kernel)⟩
theorem lw_p12 : lw_okq (⟨"BeforeItDrips", "isSide", "(I)Z"⟩, 9) := ⟨⟨by decide +kernel, by decide +kernel⟩, List.mem_of_getElem? (i := 15) (by decide +kernel), List.mem_of_getElem? (i := 453) (by decide +kernel), List.mem_of_getElem? (i := 454) (by decide +kernel)⟩
theorem lw_p13 : lw_okq (⟨"BeforeItDrips$Kerb", "advance", "()V"⟩, 6) := ⟨⟨by decide +kernel, by decide +kernel⟩, List.mem_of_getElem? (i := 176) (by decide +kernel), List.mem_of_getElem? (i := 491) (by decide +kernel), List.mem_of_getElem? (i := 492) (by decide +kernel)⟩
theorem lw_p14 : lw_okq (⟨"BeforeItDrips$Kerb", "byteAt", "(I)I"⟩, 6) := ⟨⟨by decide +kernel, by decide +kernel⟩, List.mem_of_getElem? (i := 176) (by decide +kernel), List.mem_of_getElem? (i := 495) (by decide +kernel), List.mem_of_getElem? (i := 496) (by decide +kernel)⟩
theorem lw_p15 : lw_okq (⟨"BeforeItDrips$Kerb", "readNumber", "()V"⟩, 6) := ⟨⟨by decide +kernel, by decide +kernel⟩, List.mem_of_getElem? (i := 176) (by decide +kernel), List.mem_of_getElem? (i := 505) (by decide +kernel), List.mem_of_getElem? (i := 506) (by decide +kernel)⟩
def lw_privs_1 : List (MethodName × Nat) := [(⟨"BeforeItDrips", "refuse", "(I)I"⟩, 9), (⟨"BeforeItDrips", "rowFault", "(I)I"⟩, 9), (⟨"BeforeItDrips", "copyFault", "(II)I"⟩, 9), (⟨"BeforeItDrips", "isLicker", "(I)Z"⟩, 9), (⟨"BeforeItDrips", "wouldIn", "(LBeforeItDrips$Cone;I)I"⟩, 9), (⟨"BeforeItDrips$Cone", "isWetLower", "(II)Z"⟩, 16), (⟨"BeforeItDrips$Mind", "weigh", "(LBeforeItDrips$Cone;)V"⟩, 5), (⟨"BeforeItDrips$Cone", "eat", "(I)V"⟩, 16), (⟨"BeforeItDrips$Cone", "melt", "()V"⟩, 16), (⟨"BeforeItDrips$Cone", "runDown", "()V"⟩, 16), (⟨"BeforeItDrips$Cone", "fallOff", "()V"⟩, 16), (⟨"BeforeItDrips", "canAsk", "(II)Z"⟩, 9), (⟨"BeforeItDrips", "isSide", "(I)Z"⟩, 9), (⟨"BeforeItDrips$Kerb", "advance", "()V"⟩, 6), (⟨"BeforeItDrips$Kerb", "byteAt", "(I)I"⟩, 6), (⟨"BeforeItDrips$Kerb", "readNumber", "()V"⟩, 6)]
theorem lw_r1 : ∀ q ∈ lw_privs_1, lw_okq q := List.forall_mem_cons.mpr ⟨lw_p0, List.forall_mem_cons.mpr ⟨lw_p1, List.forall_mem_cons.mpr ⟨lw_p2, List.forall_mem_cons.mpr ⟨lw_p3, List.forall_mem_cons.mpr ⟨lw_p4, List.forall_mem_cons.mpr ⟨lw_p5, List.forall_mem_cons.mpr ⟨lw_p6, List.forall_mem_cons.mpr ⟨lw_p7, List.forall_mem_cons.mpr ⟨lw_p8, List.forall_mem_cons.mpr ⟨lw_p9, List.forall_mem_cons.mpr ⟨lw_p10, List.forall_mem_cons.mpr ⟨lw_p11, List.forall_mem_cons.mpr ⟨lw_p12, List.forall_mem_cons.mpr ⟨lw_p13, List.forall_mem_cons.mpr ⟨lw_p14, List.forall_mem_cons.mpr ⟨lw_p15, fun _ h => absurd h List.not_mem_nil⟩⟩⟩⟩⟩⟩⟩⟩⟩⟩⟩⟩⟩⟩⟩⟩
theorem lw_p16 : lw_okq (⟨"BeforeItDrips$Kerb", "readStatement", "(LBeforeItDrips$World;)Z"⟩, 6) := ⟨⟨by decide +kernel, by decide +kernel⟩, List.mem_of_getElem? (i := 176) (by decide +kernel), List.mem_of_getElem? (i := 509) (by decide +kernel), List.mem_of_getElem? (i := 510) (by decide +kernel)⟩
theorem lw_p17 : lw_okq (⟨"BeforeItDrips$Kerb", "isWord", "(Ljava/lang/String;)Z"⟩, 6) := ⟨⟨by decide +kernel, by decide +kernel⟩, List.mem_of_getElem? (i := 176) (by decide +kernel), List.mem_of_getElem? (i := 514) (by decide +kernel), List.mem_of_getElem? (i := 515) (by decide +kernel)⟩
theorem lw_p18 : lw_okq (⟨"BeforeItDrips$Kerb", "readSides", "(LBeforeItDrips$Cone;)Z"⟩, 6) := ⟨⟨by decide +kernel, by decide +kernel⟩, List.mem_of_getElem? (i := 176) (by decide +kernel), List.mem_of_getElem? (i := 566) (by decide +kernel), List.mem_of_getElem? (i := 567) (by decide +kernel)⟩
theorem lw_p19 : lw_okq (⟨"BeforeItDrips$Kerb", "isNumber", "(II)Z"⟩, 6) := ⟨⟨by decide +kernel, by decide +kernel⟩, List.mem_of_getElem? (i := 176) (by decide +kernel), List.mem_of_getElem? (i := 570) (by decide +kernel), List.mem_of_getElem? (i := 571) (by decide +kernel)⟩
theorem lw_p20 : lw_okq (⟨"BeforeItDrips$Kerb", "readScoop", "(LBeforeItDrips$Cone;)Z"⟩, 6) := ⟨⟨by decide +kernel, by decide +kernel⟩, List.mem_of_getElem? (i := 176) (by decide +kernel), List.mem_of_getElem? (i := 576) (by decide +kernel), List.mem_of_getElem? (i := 577) (by decide +kernel)⟩
theorem lw_p21 : lw_okq (⟨"BeforeItDrips$Kerb", "readSun", "(LBeforeItDrips$Cone;)Z"⟩, 6) := ⟨⟨by decide +kernel, by decide +kernel⟩, List.mem_of_getElem? (i := 176) (by decide +kernel), List.mem_of_getElem? (i := 582) (by decide +kernel), List.mem_of_getElem? (i := 583) (by decide +kernel)⟩
theorem lw_p22 : lw_okq (⟨"BeforeItDrips$Kerb", "readHold", "(LBeforeItDrips$Cone;)Z"⟩, 6) := ⟨⟨by decide +kernel, by decide +kernel⟩, List.mem_of_getElem? (i := 176) (by decide +kernel), List.mem_of_getElem? (i := 587) (by decide +kernel), List.mem_of_getElem? (i := 588) (by decide +kernel)⟩
theorem lw_p23 : lw_okq (⟨"BeforeItDrips$Kerb", "readBrim", "(LBeforeItDrips$Cone;)Z"⟩, 6) := ⟨⟨by decide +kernel, by decide +kernel⟩, List.mem_of_getElem? (i := 176) (by decide +kernel), List.mem_of_getElem? (i := 592) (by decide +kernel), List.mem_of_getElem? (i := 593) (by decide +kernel)⟩
theorem lw_p24 : lw_okq (⟨"BeforeItDrips$Kerb", "readLicker", "(LBeforeItDrips$World;)Z"⟩, 6) := ⟨⟨by decide +kernel, by decide +kernel⟩, List.mem_of_getElem? (i := 176) (by decide +kernel), List.mem_of_getElem? (i := 597) (by decide +kernel), List.mem_of_getElem? (i := 598) (by decide +kernel)⟩
theorem lw_p25 : lw_okq (⟨"BeforeItDrips$Kerb", "readLick", "(LBeforeItDrips$World;)Z"⟩, 6) := ⟨⟨by decide +kernel, by decide +kernel⟩, List.mem_of_getElem? (i := 176) (by decide +kernel), List.mem_of_getElem? (i := 603) (by decide +kernel), List.mem_of_getElem? (i := 604) (by decide +kernel)⟩
theorem lw_p26 : lw_okq (⟨"BeforeItDrips", "isScoop", "(I)Z"⟩, 9) := ⟨⟨by decide +kernel, by decide +kernel⟩, List.mem_of_getElem? (i := 15) (by decide +kernel), List.mem_of_getElem? (i := 618) (by decide +kernel), List.mem_of_getElem? (i := 619) (by decide +kernel)⟩
theorem lw_p27 : lw_okq (⟨"BeforeItDrips", "lostIdling", "(I)I"⟩, 9) := ⟨⟨by decide +kernel, by decide +kernel⟩, List.mem_of_getElem? (i := 15) (by decide +kernel), List.mem_of_getElem? (i := 648) (by decide +kernel), List.mem_of_getElem? (i := 649) (by decide +kernel)⟩
theorem lw_p28 : lw_okq (⟨"BeforeItDrips", "thinkRun", "(II)V"⟩, 9) := ⟨⟨by decide +kernel, by decide +kernel⟩, List.mem_of_getElem? (i := 15) (by decide +kernel), List.mem_of_getElem? (i := 661) (by decide +kernel), List.mem_of_getElem? (i := 662) (by decide +kernel)⟩
theorem lw_p29 : lw_okq (⟨"BeforeItDrips", "thoughtResult", "(I)I"⟩, 9) := ⟨⟨by decide +kernel, by decide +kernel⟩, List.mem_of_getElem? (i := 15) (by decide +kernel), List.mem_of_getElem? (i := 665) (by decide +kernel), List.mem_of_getElem? (i := 666) (by decide +kernel)⟩
theorem lw_p30 : lw_okq (⟨"BeforeItDrips", "lostUnder", "(III)I"⟩, 9) := ⟨⟨by decide +kernel, by decide +kernel⟩, List.mem_of_getElem? (i := 15) (by decide +kernel), List.mem_of_getElem? (i := 707) (by decide +kernel), List.mem_of_getElem? (i := 708) (by decide +kernel)⟩
theorem lw_p31 : lw_okq (⟨"BeforeItDrips", "toldFault", "(IIII)I"⟩, 9) := ⟨⟨by decide +kernel, by decide +kernel⟩, List.mem_of_getElem? (i := 15) (by decide +kernel), List.mem_of_getElem? (i := 759) (by decide +kernel), List.mem_of_getElem? (i := 760) (by decide +kernel)⟩
def lw_privs_2 : List (MethodName × Nat) := [(⟨"BeforeItDrips$Kerb", "readStatement", "(LBeforeItDrips$World;)Z"⟩, 6), (⟨"BeforeItDrips$Kerb", "isWord", "(Ljava/lang/String;)Z"⟩, 6), (⟨"BeforeItDrips$Kerb", "readSides", "(LBeforeItDrips$Cone;)Z"⟩, 6), (⟨"BeforeItDrips$Kerb", "isNumber", "(II)Z"⟩, 6), (⟨"BeforeItDrips$Kerb", "readScoop", "(LBeforeItDrips$Cone;)Z"⟩, 6), (⟨"BeforeItDrips$Kerb", "readSun", "(LBeforeItDrips$Cone;)Z"⟩, 6), (⟨"BeforeItDrips$Kerb", "readHold", "(LBeforeItDrips$Cone;)Z"⟩, 6), (⟨"BeforeItDrips$Kerb", "readBrim", "(LBeforeItDrips$Cone;)Z"⟩, 6), (⟨"BeforeItDrips$Kerb", "readLicker", "(LBeforeItDrips$World;)Z"⟩, 6), (⟨"BeforeItDrips$Kerb", "readLick", "(LBeforeItDrips$World;)Z"⟩, 6), (⟨"BeforeItDrips", "isScoop", "(I)Z"⟩, 9), (⟨"BeforeItDrips", "lostIdling", "(I)I"⟩, 9), (⟨"BeforeItDrips", "thinkRun", "(II)V"⟩, 9), (⟨"BeforeItDrips", "thoughtResult", "(I)I"⟩, 9), (⟨"BeforeItDrips", "lostUnder", "(III)I"⟩, 9), (⟨"BeforeItDrips", "toldFault", "(IIII)I"⟩, 9)]
theorem lw_r2 : ∀ q ∈ lw_privs_2, lw_okq q := List.forall_mem_cons.mpr ⟨lw_p16, List.forall_mem_cons.mpr ⟨lw_p17, List.forall_mem_cons.mpr ⟨lw_p18, List.forall_mem_cons.mpr ⟨lw_p19, List.forall_mem_cons.mpr ⟨lw_p20, List.forall_mem_cons.mpr ⟨lw_p21, List.forall_mem_cons.mpr ⟨lw_p22, List.forall_mem_cons.mpr ⟨lw_p23, List.forall_mem_cons.mpr ⟨lw_p24, List.forall_mem_cons.mpr ⟨lw_p25, List.forall_mem_cons.mpr ⟨lw_p26, List.forall_mem_cons.mpr ⟨lw_p27, List.forall_mem_cons.mpr ⟨lw_p28, List.forall_mem_cons.mpr ⟨lw_p29, List.forall_mem_cons.mpr ⟨lw_p30, List.forall_mem_cons.mpr ⟨lw_p31, fun _ h => absurd h List.not_mem_nil⟩⟩⟩⟩⟩⟩⟩⟩⟩⟩⟩⟩⟩⟩⟩⟩
theorem lw_p32 : lw_okq (⟨"BeforeItDrips", "wrongTold", "(II)I"⟩, 9) := ⟨⟨by decide +kernel, by decide +kernel⟩, List.mem_of_getElem? (i := 15) (by decide +kernel), List.mem_of_getElem? (i := 763) (by decide +kernel), List.mem_of_getElem? (i := 764) (by decide +kernel)⟩
theorem lw_p33 : lw_okq (⟨"BeforeItDrips", "wentAt", "(III)Z"⟩, 9) := ⟨⟨by decide +kernel, by decide +kernel⟩, List.mem_of_getElem? (i := 15) (by decide +kernel), List.mem_of_getElem? (i := 786) (by decide +kernel), List.mem_of_getElem? (i := 787) (by decide +kernel)⟩
theorem lw_p34 : lw_okq (⟨"BeforeItDrips", "lickInTruth", "(II)V"⟩, 9) := ⟨⟨by decide +kernel, by decide +kernel⟩, List.mem_of_getElem? (i := 15) (by decide +kernel), List.mem_of_getElem? (i := 798) (by decide +kernel), List.mem_of_getElem? (i := 799) (by decide +kernel)⟩
theorem lw_p35 : lw_okq (⟨"BeforeItDrips", "shelvesInUse", "()I"⟩, 9) := ⟨⟨by decide +kernel, by decide +kernel⟩, List.mem_of_getElem? (i := 15) (by decide +kernel), List.mem_of_getElem? (i := 843) (by decide +kernel), List.mem_of_getElem? (i := 844) (by decide +kernel)⟩
theorem lw_p36 : lw_okq (⟨"BeforeItDripsModel", "refuse", "(I)I"⟩, 45) := ⟨⟨by decide +kernel, by decide +kernel⟩, List.mem_of_getElem? (i := 847) (by decide +kernel), List.mem_of_getElem? (i := 1005) (by decide +kernel), List.mem_of_getElem? (i := 1006) (by decide +kernel)⟩
theorem lw_p37 : lw_okq (⟨"BeforeItDripsModel", "noRow", "(I)I"⟩, 45) := ⟨⟨by decide +kernel, by decide +kernel⟩, List.mem_of_getElem? (i := 847) (by decide +kernel), List.mem_of_getElem? (i := 1013) (by decide +kernel), List.mem_of_getElem? (i := 1014) (by decide +kernel)⟩
theorem lw_p38 : lw_okq (⟨"BeforeItDripsModel", "isLicker", "(I)Z"⟩, 45) := ⟨⟨by decide +kernel, by decide +kernel⟩, List.mem_of_getElem? (i := 847) (by decide +kernel), List.mem_of_getElem? (i := 1036) (by decide +kernel), List.mem_of_getElem? (i := 1037) (by decide +kernel)⟩
theorem lw_p39 : lw_okq (⟨"BeforeItDripsModel", "wouldBe", "(I)I"⟩, 45) := ⟨⟨by decide +kernel, by decide +kernel⟩, List.mem_of_getElem? (i := 847) (by decide +kernel), List.mem_of_getElem? (i := 1048) (by decide +kernel), List.mem_of_getElem? (i := 1049) (by decide +kernel)⟩
theorem lw_p40 : lw_okq (⟨"BeforeItDripsModel", "roundAct", "()I"⟩, 45) := ⟨⟨by decide +kernel, by decide +kernel⟩, List.mem_of_getElem? (i := 847) (by decide +kernel), List.mem_of_getElem? (i := 1052) (by decide +kernel), List.mem_of_getElem? (i := 1053) (by decide +kernel)⟩
theorem lw_p41 : lw_okq (⟨"BeforeItDripsModel", "wettestAct", "()I"⟩, 45) := ⟨⟨by decide +kernel, by decide +kernel⟩, List.mem_of_getElem? (i := 847) (by decide +kernel), List.mem_of_getElem? (i := 1056) (by decide +kernel), List.mem_of_getElem? (i := 1057) (by decide +kernel)⟩
theorem lw_p42 : lw_okq (⟨"BeforeItDripsModel", "wettestSide", "()I"⟩, 45) := ⟨⟨by decide +kernel, by decide +kernel⟩, List.mem_of_getElem? (i := 847) (by decide +kernel), List.mem_of_getElem? (i := 1060) (by decide +kernel), List.mem_of_getElem? (i := 1061) (by decide +kernel)⟩
theorem lw_p43 : lw_okq (⟨"BeforeItDripsModel", "allAt", "(I)I"⟩, 45) := ⟨⟨by decide +kernel, by decide +kernel⟩, List.mem_of_getElem? (i := 847) (by decide +kernel), List.mem_of_getElem? (i := 1064) (by decide +kernel), List.mem_of_getElem? (i := 1065) (by decide +kernel)⟩
theorem lw_p44 : lw_okq (⟨"BeforeItDripsModel", "turnTo", "(I)I"⟩, 45) := ⟨⟨by decide +kernel, by decide +kernel⟩, List.mem_of_getElem? (i := 847) (by decide +kernel), List.mem_of_getElem? (i := 1068) (by decide +kernel), List.mem_of_getElem? (i := 1069) (by decide +kernel)⟩
theorem lw_p45 : lw_okq (⟨"BeforeItDripsModel", "lowestAct", "()I"⟩, 45) := ⟨⟨by decide +kernel, by decide +kernel⟩, List.mem_of_getElem? (i := 847) (by decide +kernel), List.mem_of_getElem? (i := 1072) (by decide +kernel), List.mem_of_getElem? (i := 1073) (by decide +kernel)⟩
theorem lw_p46 : lw_okq (⟨"BeforeItDripsModel", "isMore", "(II)Z"⟩, 45) := ⟨⟨by decide +kernel, by decide +kernel⟩, List.mem_of_getElem? (i := 847) (by decide +kernel), List.mem_of_getElem? (i := 1076) (by decide +kernel), List.mem_of_getElem? (i := 1077) (by decide +kernel)⟩
theorem lw_p47 : lw_okq (⟨"BeforeItDripsModel", "findPlan", "(I)V"⟩, 45) := ⟨⟨by decide +kernel, by decide +kernel⟩, List.mem_of_getElem? (i := 847) (by decide +kernel), List.mem_of_getElem? (i := 1080) (by decide +kernel), List.mem_of_getElem? (i := 1081) (by decide +kernel)⟩
def lw_privs_3 : List (MethodName × Nat) := [(⟨"BeforeItDrips", "wrongTold", "(II)I"⟩, 9), (⟨"BeforeItDrips", "wentAt", "(III)Z"⟩, 9), (⟨"BeforeItDrips", "lickInTruth", "(II)V"⟩, 9), (⟨"BeforeItDrips", "shelvesInUse", "()I"⟩, 9), (⟨"BeforeItDripsModel", "refuse", "(I)I"⟩, 45), (⟨"BeforeItDripsModel", "noRow", "(I)I"⟩, 45), (⟨"BeforeItDripsModel", "isLicker", "(I)Z"⟩, 45), (⟨"BeforeItDripsModel", "wouldBe", "(I)I"⟩, 45), (⟨"BeforeItDripsModel", "roundAct", "()I"⟩, 45), (⟨"BeforeItDripsModel", "wettestAct", "()I"⟩, 45), (⟨"BeforeItDripsModel", "wettestSide", "()I"⟩, 45), (⟨"BeforeItDripsModel", "allAt", "(I)I"⟩, 45), (⟨"BeforeItDripsModel", "turnTo", "(I)I"⟩, 45), (⟨"BeforeItDripsModel", "lowestAct", "()I"⟩, 45), (⟨"BeforeItDripsModel", "isMore", "(II)Z"⟩, 45), (⟨"BeforeItDripsModel", "findPlan", "(I)V"⟩, 45)]
theorem lw_r3 : ∀ q ∈ lw_privs_3, lw_okq q := List.forall_mem_cons.mpr ⟨lw_p32, List.forall_mem_cons.mpr ⟨lw_p33, List.forall_mem_cons.mpr ⟨lw_p34, List.forall_mem_cons.mpr ⟨lw_p35, List.forall_mem_cons.mpr ⟨lw_p36, List.forall_mem_cons.mpr ⟨lw_p37, List.forall_mem_cons.mpr ⟨lw_p38, List.forall_mem_cons.mpr ⟨lw_p39, List.forall_mem_cons.mpr ⟨lw_p40, List.forall_mem_cons.mpr ⟨lw_p41, List.forall_mem_cons.mpr ⟨lw_p42, List.forall_mem_cons.mpr ⟨lw_p43, List.forall_mem_cons.mpr ⟨lw_p44, List.forall_mem_cons.mpr ⟨lw_p45, List.forall_mem_cons.mpr ⟨lw_p46, List.forall_mem_cons.mpr ⟨lw_p47, fun _ h => absurd h List.not_mem_nil⟩⟩⟩⟩⟩⟩⟩⟩⟩⟩⟩⟩⟩⟩⟩⟩
theorem lw_p48 : lw_okq (⟨"BeforeItDripsModel", "canAct", "(J)Z"⟩, 45) := ⟨⟨by decide +kernel, by decide +kernel⟩, List.mem_of_getElem? (i := 847) (by decide +kernel), List.mem_of_getElem? (i := 1085) (by decide +kernel), List.mem_of_getElem? (i := 1086) (by decide +kernel)⟩
theorem lw_p49 : lw_okq (⟨"BeforeItDripsModel", "takeFrom", "(LBeforeItDripsModel;)V"⟩, 45) := ⟨⟨by decide +kernel, by decide +kernel⟩, List.mem_of_getElem? (i := 847) (by decide +kernel), List.mem_of_getElem? (i := 1091) (by decide +kernel), List.mem_of_getElem? (i := 1092) (by decide +kernel)⟩
theorem lw_p50 : lw_okq (⟨"BeforeItDripsModel", "goes", "(IZ)V"⟩, 45) := ⟨⟨by decide +kernel, by decide +kernel⟩, List.mem_of_getElem? (i := 847) (by decide +kernel), List.mem_of_getElem? (i := 1098) (by decide +kernel), List.mem_of_getElem? (i := 1099) (by decide +kernel)⟩
theorem lw_p51 : lw_okq (⟨"BeforeItDripsModel", "lickedOf", "(I)I"⟩, 45) := ⟨⟨by decide +kernel, by decide +kernel⟩, List.mem_of_getElem? (i := 847) (by decide +kernel), List.mem_of_getElem? (i := 1102) (by decide +kernel), List.mem_of_getElem? (i := 1103) (by decide +kernel)⟩
theorem lw_p52 : lw_okq (⟨"BeforeItDripsModel", "melts", "(I)V"⟩, 45) := ⟨⟨by decide +kernel, by decide +kernel⟩, List.mem_of_getElem? (i := 847) (by decide +kernel), List.mem_of_getElem? (i := 1106) (by decide +kernel), List.mem_of_getElem? (i := 1107) (by decide +kernel)⟩
theorem lw_p53 : lw_okq (⟨"BeforeItDripsModel", "isSunny", "(I)Z"⟩, 45) := ⟨⟨by decide +kernel, by decide +kernel⟩, List.mem_of_getElem? (i := 847) (by decide +kernel), List.mem_of_getElem? (i := 1110) (by decide +kernel), List.mem_of_getElem? (i := 1111) (by decide +kernel)⟩
theorem lw_p54 : lw_okq (⟨"BeforeItDripsModel", "runsDown", "(I)V"⟩, 45) := ⟨⟨by decide +kernel, by decide +kernel⟩, List.mem_of_getElem? (i := 847) (by decide +kernel), List.mem_of_getElem? (i := 1114) (by decide +kernel), List.mem_of_getElem? (i := 1115) (by decide +kernel)⟩
theorem lw_p55 : lw_okq (⟨"BeforeItDripsModel", "becomeSides", "(I)V"⟩, 45) := ⟨⟨by decide +kernel, by decide +kernel⟩, List.mem_of_getElem? (i := 847) (by decide +kernel), List.mem_of_getElem? (i := 1123) (by decide +kernel), List.mem_of_getElem? (i := 1124) (by decide +kernel)⟩
theorem lw_p56 : lw_okq (⟨"BeforeItDripsModel", "addScoop", "(II)V"⟩, 45) := ⟨⟨by decide +kernel, by decide +kernel⟩, List.mem_of_getElem? (i := 847) (by decide +kernel), List.mem_of_getElem? (i := 1133) (by decide +kernel), List.mem_of_getElem? (i := 1134) (by decide +kernel)⟩
theorem lw_p57 : lw_okq (⟨"BeforeItDripsModel", "mayAsk", "(II)Z"⟩, 45) := ⟨⟨by decide +kernel, by decide +kernel⟩, List.mem_of_getElem? (i := 847) (by decide +kernel), List.mem_of_getElem? (i := 1145) (by decide +kernel), List.mem_of_getElem? (i := 1146) (by decide +kernel)⟩
theorem lw_p58 : lw_okq (⟨"BeforeItDripsModel", "isSide", "(I)Z"⟩, 45) := ⟨⟨by decide +kernel, by decide +kernel⟩, List.mem_of_getElem? (i := 847) (by decide +kernel), List.mem_of_getElem? (i := 1151) (by decide +kernel), List.mem_of_getElem? (i := 1152) (by decide +kernel)⟩
theorem lw_p59 : lw_okq (⟨"BeforeItDripsModel", "addLicker", "(II)V"⟩, 45) := ⟨⟨by decide +kernel, by decide +kernel⟩, List.mem_of_getElem? (i := 847) (by decide +kernel), List.mem_of_getElem? (i := 1159) (by decide +kernel), List.mem_of_getElem? (i := 1160) (by decide +kernel)⟩
theorem lw_p60 : lw_okq (⟨"BeforeItDripsModel", "fresh", "()LBeforeItDripsModel;"⟩, 45) := ⟨⟨by decide +kernel, by decide +kernel⟩, List.mem_of_getElem? (i := 847) (by decide +kernel), List.mem_of_getElem? (i := 1176) (by decide +kernel), List.mem_of_getElem? (i := 1177) (by decide +kernel)⟩
theorem lw_p61 : lw_okq (⟨"BeforeItDripsModel", "readAll", "()Z"⟩, 45) := ⟨⟨by decide +kernel, by decide +kernel⟩, List.mem_of_getElem? (i := 847) (by decide +kernel), List.mem_of_getElem? (i := 1180) (by decide +kernel), List.mem_of_getElem? (i := 1181) (by decide +kernel)⟩
theorem lw_p62 : lw_okq (⟨"BeforeItDripsModel", "look", "()V"⟩, 45) := ⟨⟨by decide +kernel, by decide +kernel⟩, List.mem_of_getElem? (i := 847) (by decide +kernel), List.mem_of_getElem? (i := 1184) (by decide +kernel), List.mem_of_getElem? (i := 1185) (by decide +kernel)⟩
theorem lw_p63 : lw_okq (⟨"BeforeItDripsModel", "statement", "()Z"⟩, 45) := ⟨⟨by decide +kernel, by decide +kernel⟩, List.mem_of_getElem? (i := 847) (by decide +kernel), List.mem_of_getElem? (i := 1194) (by decide +kernel), List.mem_of_getElem? (i := 1195) (by decide +kernel)⟩
def lw_privs_4 : List (MethodName × Nat) := [(⟨"BeforeItDripsModel", "canAct", "(J)Z"⟩, 45), (⟨"BeforeItDripsModel", "takeFrom", "(LBeforeItDripsModel;)V"⟩, 45), (⟨"BeforeItDripsModel", "goes", "(IZ)V"⟩, 45), (⟨"BeforeItDripsModel", "lickedOf", "(I)I"⟩, 45), (⟨"BeforeItDripsModel", "melts", "(I)V"⟩, 45), (⟨"BeforeItDripsModel", "isSunny", "(I)Z"⟩, 45), (⟨"BeforeItDripsModel", "runsDown", "(I)V"⟩, 45), (⟨"BeforeItDripsModel", "becomeSides", "(I)V"⟩, 45), (⟨"BeforeItDripsModel", "addScoop", "(II)V"⟩, 45), (⟨"BeforeItDripsModel", "mayAsk", "(II)Z"⟩, 45), (⟨"BeforeItDripsModel", "isSide", "(I)Z"⟩, 45), (⟨"BeforeItDripsModel", "addLicker", "(II)V"⟩, 45), (⟨"BeforeItDripsModel", "fresh", "()LBeforeItDripsModel;"⟩, 45), (⟨"BeforeItDripsModel", "readAll", "()Z"⟩, 45), (⟨"BeforeItDripsModel", "look", "()V"⟩, 45), (⟨"BeforeItDripsModel", "statement", "()Z"⟩, 45)]
theorem lw_r4 : ∀ q ∈ lw_privs_4, lw_okq q := List.forall_mem_cons.mpr ⟨lw_p48, List.forall_mem_cons.mpr ⟨lw_p49, List.forall_mem_cons.mpr ⟨lw_p50, List.forall_mem_cons.mpr ⟨lw_p51, List.forall_mem_cons.mpr ⟨lw_p52, List.forall_mem_cons.mpr ⟨lw_p53, List.forall_mem_cons.mpr ⟨lw_p54, List.forall_mem_cons.mpr ⟨lw_p55, List.forall_mem_cons.mpr ⟨lw_p56, List.forall_mem_cons.mpr ⟨lw_p57, List.forall_mem_cons.mpr ⟨lw_p58, List.forall_mem_cons.mpr ⟨lw_p59, List.forall_mem_cons.mpr ⟨lw_p60, List.forall_mem_cons.mpr ⟨lw_p61, List.forall_mem_cons.mpr ⟨lw_p62, List.forall_mem_cons.mpr ⟨lw_p63, fun _ h => absurd h List.not_mem_nil⟩⟩⟩⟩⟩⟩⟩⟩⟩⟩⟩⟩⟩⟩⟩⟩
theorem lw_p64 : lw_okq (⟨"BeforeItDripsModel", "isWord", "(Ljava/lang/String;)Z"⟩, 45) := ⟨⟨by decide +kernel, by decide +kernel⟩, List.mem_of_getElem? (i := 847) (by decide +kernel), List.mem_of_getElem? (i := 1199) (by decide +kernel), List.mem_of_getElem? (i := 1200) (by decide +kernel)⟩
theorem lw_p65 : lw_okq (⟨"BeforeItDripsModel", "tells", "(II)Z"⟩, 45) := ⟨⟨by decide +kernel, by decide +kernel⟩, List.mem_of_getElem? (i := 847) (by decide +kernel), List.mem_of_getElem? (i := 1205) (by decide +kernel), List.mem_of_getElem? (i := 1206) (by decide +kernel)⟩
theorem lw_p66 : lw_okq (⟨"BeforeItDripsModel", "number", "(III)Z"⟩, 45) := ⟨⟨by decide +kernel, by decide +kernel⟩, List.mem_of_getElem? (i := 847) (by decide +kernel), List.mem_of_getElem? (i := 1209) (by decide +kernel), List.mem_of_getElem? (i := 1210) (by decide +kernel)⟩
theorem lw_p67 : lw_okq (⟨"BeforeItDripsModel", "wrong", "()Z"⟩, 45) := ⟨⟨by decide +kernel, by decide +kernel⟩, List.mem_of_getElem? (i := 847) (by decide +kernel), List.mem_of_getElem? (i := 1213) (by decide +kernel), List.mem_of_getElem? (i := 1214) (by decide +kernel)⟩
theorem lw_p68 : lw_okq (⟨"BeforeItDripsModel", "sunTold", "()Z"⟩, 45) := ⟨⟨by decide +kernel, by decide +kernel⟩, List.mem_of_getElem? (i := 847) (by decide +kernel), List.mem_of_getElem? (i := 1219) (by decide +kernel), List.mem_of_getElem? (i := 1220) (by decide +kernel)⟩
theorem lw_p69 : lw_okq (⟨"BeforeItDripsModel", "lickTold", "()Z"⟩, 45) := ⟨⟨by decide +kernel, by decide +kernel⟩, List.mem_of_getElem? (i := 847) (by decide +kernel), List.mem_of_getElem? (i := 1227) (by decide +kernel), List.mem_of_getElem? (i := 1228) (by decide +kernel)⟩
theorem lw_p70 : lw_okq (⟨"BeforeItDripsModel", "isScoop", "(I)Z"⟩, 45) := ⟨⟨by decide +kernel, by decide +kernel⟩, List.mem_of_getElem? (i := 847) (by decide +kernel), List.mem_of_getElem? (i := 1235) (by decide +kernel), List.mem_of_getElem? (i := 1236) (by decide +kernel)⟩
theorem lw_p71 : lw_okq (⟨"BeforeItDripsModel", "wetOf", "(I)I"⟩, 45) := ⟨⟨by decide +kernel, by decide +kernel⟩, List.mem_of_getElem? (i := 847) (by decide +kernel), List.mem_of_getElem? (i := 1240) (by decide +kernel), List.mem_of_getElem? (i := 1241) (by decide +kernel)⟩
theorem lw_p72 : lw_okq (⟨"BeforeItDripsModel", "withoutNow", "(I)I"⟩, 45) := ⟨⟨by decide +kernel, by decide +kernel⟩, List.mem_of_getElem? (i := 847) (by decide +kernel), List.mem_of_getElem? (i := 1270) (by decide +kernel), List.mem_of_getElem? (i := 1271) (by decide +kernel)⟩
theorem lw_p73 : lw_okq (⟨"BeforeItDripsModel", "stands", "(I)V"⟩, 45) := ⟨⟨by decide +kernel, by decide +kernel⟩, List.mem_of_getElem? (i := 847) (by decide +kernel), List.mem_of_getElem? (i := 1274) (by decide +kernel), List.mem_of_getElem? (i := 1275) (by decide +kernel)⟩
theorem lw_p74 : lw_okq (⟨"BeforeItDripsModel", "lickedBy", "(II)V"⟩, 45) := ⟨⟨by decide +kernel, by decide +kernel⟩, List.mem_of_getElem? (i := 847) (by decide +kernel), List.mem_of_getElem? (i := 1286) (by decide +kernel), List.mem_of_getElem? (i := 1287) (by decide +kernel)⟩
theorem lw_p75 : lw_okq (⟨"BeforeItDripsModel", "toldOf", "(LBeforeItDripsModel;I)I"⟩, 45) := ⟨⟨by decide +kernel, by decide +kernel⟩, List.mem_of_getElem? (i := 847) (by decide +kernel), List.mem_of_getElem? (i := 1290) (by decide +kernel), List.mem_of_getElem? (i := 1291) (by decide +kernel)⟩
theorem lw_p76 : lw_okq (⟨"BeforeItDripsModel", "leftNow", "()I"⟩, 45) := ⟨⟨by decide +kernel, by decide +kernel⟩, List.mem_of_getElem? (i := 847) (by decide +kernel), List.mem_of_getElem? (i := 1294) (by decide +kernel), List.mem_of_getElem? (i := 1295) (by decide +kernel)⟩
theorem lw_p77 : lw_okq (⟨"BeforeItDripsModel", "seekOrder", "(III)V"⟩, 45) := ⟨⟨by decide +kernel, by decide +kernel⟩, List.mem_of_getElem? (i := 847) (by decide +kernel), List.mem_of_getElem? (i := 1326) (by decide +kernel), List.mem_of_getElem? (i := 1327) (by decide +kernel)⟩
theorem lw_p78 : lw_okq (⟨"BeforeItDripsModel", "putFrom", "(LBeforeItDripsModel;II)V"⟩, 45) := ⟨⟨by decide +kernel, by decide +kernel⟩, List.mem_of_getElem? (i := 847) (by decide +kernel), List.mem_of_getElem? (i := 1330) (by decide +kernel), List.mem_of_getElem? (i := 1331) (by decide +kernel)⟩
theorem lw_p79 : lw_okq (⟨"BeforeItDripsModel", "noActs", "(II)I"⟩, 45) := ⟨⟨by decide +kernel, by decide +kernel⟩, List.mem_of_getElem? (i := 847) (by decide +kernel), List.mem_of_getElem? (i := 1358) (by decide +kernel), List.mem_of_getElem? (i := 1359) (by decide +kernel)⟩
def lw_privs_5 : List (MethodName × Nat) := [(⟨"BeforeItDripsModel", "isWord", "(Ljava/lang/String;)Z"⟩, 45), (⟨"BeforeItDripsModel", "tells", "(II)Z"⟩, 45), (⟨"BeforeItDripsModel", "number", "(III)Z"⟩, 45), (⟨"BeforeItDripsModel", "wrong", "()Z"⟩, 45), (⟨"BeforeItDripsModel", "sunTold", "()Z"⟩, 45), (⟨"BeforeItDripsModel", "lickTold", "()Z"⟩, 45), (⟨"BeforeItDripsModel", "isScoop", "(I)Z"⟩, 45), (⟨"BeforeItDripsModel", "wetOf", "(I)I"⟩, 45), (⟨"BeforeItDripsModel", "withoutNow", "(I)I"⟩, 45), (⟨"BeforeItDripsModel", "stands", "(I)V"⟩, 45), (⟨"BeforeItDripsModel", "lickedBy", "(II)V"⟩, 45), (⟨"BeforeItDripsModel", "toldOf", "(LBeforeItDripsModel;I)I"⟩, 45), (⟨"BeforeItDripsModel", "leftNow", "()I"⟩, 45), (⟨"BeforeItDripsModel", "seekOrder", "(III)V"⟩, 45), (⟨"BeforeItDripsModel", "putFrom", "(LBeforeItDripsModel;II)V"⟩, 45), (⟨"BeforeItDripsModel", "noActs", "(II)I"⟩, 45)]
theorem lw_r5 : ∀ q ∈ lw_privs_5, lw_okq q := List.forall_mem_cons.mpr ⟨lw_p64, List.forall_mem_cons.mpr ⟨lw_p65, List.forall_mem_cons.mpr ⟨lw_p66, List.forall_mem_cons.mpr ⟨lw_p67, List.forall_mem_cons.mpr ⟨lw_p68, List.forall_mem_cons.mpr ⟨lw_p69, List.forall_mem_cons.mpr ⟨lw_p70, List.forall_mem_cons.mpr ⟨lw_p71, List.forall_mem_cons.mpr ⟨lw_p72, List.forall_mem_cons.mpr ⟨lw_p73, List.forall_mem_cons.mpr ⟨lw_p74, List.forall_mem_cons.mpr ⟨lw_p75, List.forall_mem_cons.mpr ⟨lw_p76, List.forall_mem_cons.mpr ⟨lw_p77, List.forall_mem_cons.mpr ⟨lw_p78, List.forall_mem_cons.mpr ⟨lw_p79, fun _ h => absurd h List.not_mem_nil⟩⟩⟩⟩⟩⟩⟩⟩⟩⟩⟩⟩⟩⟩⟩⟩
theorem lw_p80 : lw_okq (⟨"BeforeItDripsModel", "wrongIn", "([JI)I"⟩, 45) := ⟨⟨by decide +kernel, by decide +kernel⟩, List.mem_of_getElem? (i := 847) (by decide +kernel), List.mem_of_getElem? (i := 1362) (by decide +kernel), List.mem_of_getElem? (i := 1363) (by decide +kernel)⟩
theorem lw_p81 : lw_okq (⟨"BeforeItDripsModel", "licksTruly", "(II)V"⟩, 45) := ⟨⟨by decide +kernel, by decide +kernel⟩, List.mem_of_getElem? (i := 847) (by decide +kernel), List.mem_of_getElem? (i := 1391) (by decide +kernel), List.mem_of_getElem? (i := 1392) (by decide +kernel)⟩
theorem lw_p82 : lw_okq (⟨"BeforeItDripsModel", "below", "(I)I"⟩, 45) := ⟨⟨by decide +kernel, by decide +kernel⟩, List.mem_of_getElem? (i := 847) (by decide +kernel), List.mem_of_getElem? (i := 1403) (by decide +kernel), List.mem_of_getElem? (i := 1404) (by decide +kernel)⟩
def lw_privs_6 : List (MethodName × Nat) := [(⟨"BeforeItDripsModel", "wrongIn", "([JI)I"⟩, 45), (⟨"BeforeItDripsModel", "licksTruly", "(II)V"⟩, 45), (⟨"BeforeItDripsModel", "below", "(I)I"⟩, 45)]
theorem lw_r6 : ∀ q ∈ lw_privs_6, lw_okq q := List.forall_mem_cons.mpr ⟨lw_p80, List.forall_mem_cons.mpr ⟨lw_p81, List.forall_mem_cons.mpr ⟨lw_p82, fun _ h => absurd h List.not_mem_nil⟩⟩⟩
def lw_privs : List (MethodName × Nat) := lw_privs_1 ++ (lw_privs_2 ++ (lw_privs_3 ++ (lw_privs_4 ++ (lw_privs_5 ++ (lw_privs_6)))))
def lw_tbl : List Cond := k2_sels lw_privs ++ tables_1
theorem lw_privs_ok : ∀ q ∈ lw_privs, lw_okq q := by
  show ∀ q ∈ lw_privs_1 ++ (lw_privs_2 ++ (lw_privs_3 ++ (lw_privs_4 ++ (lw_privs_5 ++ (lw_privs_6))))), lw_okq q
  exact List.forall_mem_append.mpr ⟨lw_r1, List.forall_mem_append.mpr ⟨lw_r2, List.forall_mem_append.mpr ⟨lw_r3, List.forall_mem_append.mpr ⟨lw_r4, List.forall_mem_append.mpr ⟨lw_r5, lw_r6⟩⟩⟩⟩⟩
-- ===== end of PART A; then your names; then what follows =====
def RX0 : String := "BeforeItDrips$Cone"
def TX0 : u_T := fun k => match k with
  | 0 => ("BeforeItDrips$Cone", "sideCount", "I", false)
  | 1 => ("BeforeItDrips$Cone", "turn", "I", false)
  | 2 => ("BeforeItDrips$Cone", "sunBits", "I", false)
  | 3 => ("BeforeItDrips$Cone", "hold", "I", false)
  | 4 => ("BeforeItDrips$Cone", "brim", "I", false)
  | 5 => ("BeforeItDrips$Cone", "lickSize", "I", false)
  | 6 => ("BeforeItDrips$Cone", "give", "I", false)
  | 7 => ("BeforeItDrips$Cone", "seconds", "I", false)
  | 8 => ("BeforeItDrips$Cone", "lost", "I", false)
  | 9 => ("BeforeItDrips$Cone", "eaten", "I", false)
  | 10 => ("BeforeItDrips$Cone", "soak", "I", false)
  | 11 => ("BeforeItDrips$Cone", "scoopCount", "I", false)
  | 12 => ("BeforeItDrips$Cone", "sorts", "[I", true)
  | 13 => ("BeforeItDrips$Cone", "amounts", "[I", true)
  | 14 => ("BeforeItDrips$Cone", "wets", "[I", true)
  | _ => ("BeforeItDrips$Cone", "rims", "[I", true)
def tyX0 : Nat → FieldType := fun k => match k with
  | 0 => .int
  | 1 => .int
  | 2 => .int
  | 3 => .int
  | 4 => .int
  | 5 => .int
  | 6 => .int
  | 7 => .int
  | 8 => .int
  | 9 => .int
  | 10 => .int
  | 11 => .int
  | 12 => .array .int
  | 13 => .array .int
  | 14 => .array .int
  | _ => .array .int
abbrev wsX00 : List Cond := u_ws RX0 TX0 16
theorem nmX0 : ∀ a, a < 16 → ∀ b, b < 16 → a ≠ b → (TX0 a).2.1 ≠ (TX0 b).2.1 := by decide +kernel
theorem tyX0_ok : ∀ k, k < 16 → parseFieldDescriptor (TX0 k).2.2.1 = some (tyX0 k) := by decide +kernel
abbrev cX0_init : ByteArray := prog_2_method_1_code
def yX0_init : MethodName := ⟨RX0, "<init>", "()V"⟩
abbrev cX0_takeFrom : ByteArray := prog_2_method_2_code
def yX0_takeFrom : MethodName := ⟨RX0, "takeFrom", "(LBeforeItDrips$Cone;)V"⟩
abbrev cX0_hasOrder : ByteArray := prog_2_method_3_code
def yX0_hasOrder : MethodName := ⟨RX0, "hasOrder", "(I)Z"⟩
abbrev cX0_scoopInOrder : ByteArray := prog_2_method_4_code
def yX0_scoopInOrder : MethodName := ⟨RX0, "scoopInOrder", "(II)I"⟩
abbrev cX0_takeInOrder : ByteArray := prog_2_method_5_code
def yX0_takeInOrder : MethodName := ⟨RX0, "takeInOrder", "(LBeforeItDrips$Cone;I)V"⟩
abbrev cX0_changePlaces : ByteArray := prog_2_method_6_code
def yX0_changePlaces : MethodName := ⟨RX0, "changePlaces", "(II)V"⟩
abbrev cX0_becomeSides : ByteArray := prog_2_method_7_code
def yX0_becomeSides : MethodName := ⟨RX0, "becomeSides", "(I)V"⟩
abbrev cX0_becomeEmpty : ByteArray := prog_2_method_8_code
def yX0_becomeEmpty : MethodName := ⟨RX0, "becomeEmpty", "()V"⟩
abbrev cX0_putOnTop : ByteArray := prog_2_method_9_code
def yX0_putOnTop : MethodName := ⟨RX0, "putOnTop", "(II)V"⟩
abbrev cX0_allPlaces : ByteArray := prog_2_method_10_code
def yX0_allPlaces : MethodName := ⟨RX0, "allPlaces", "()I"⟩
abbrev cX0_wetAt : ByteArray := prog_2_method_11_code
def yX0_wetAt : MethodName := ⟨RX0, "wetAt", "(II)I"⟩
abbrev cX0_isSunny : ByteArray := prog_2_method_12_code
def yX0_isSunny : MethodName := ⟨RX0, "isSunny", "(I)Z"⟩
abbrev cX0_allWetOf : ByteArray := prog_2_method_13_code
def yX0_allWetOf : MethodName := ⟨RX0, "allWetOf", "(I)I"⟩
abbrev cX0_left : ByteArray := prog_2_method_14_code
def yX0_left : MethodName := ⟨RX0, "left", "()I"⟩
abbrev cX0_hasMeltedScoop : ByteArray := prog_2_method_15_code
def yX0_hasMeltedScoop : MethodName := ⟨RX0, "hasMeltedScoop", "()Z"⟩
abbrev cX0_wettestSide : ByteArray := prog_2_method_16_code
def yX0_wettestSide : MethodName := ⟨RX0, "wettestSide", "()I"⟩
abbrev cX0_lowestWetSide : ByteArray := prog_2_method_17_code
def yX0_lowestWetSide : MethodName := ⟨RX0, "lowestWetSide", "()I"⟩
abbrev cX0_isWetLower : ByteArray := prog_2_method_18_code
def yX0_isWetLower : MethodName := ⟨RX0, "isWetLower", "(II)Z"⟩
abbrev cX0_canDo : ByteArray := prog_2_method_19_code
def yX0_canDo : MethodName := ⟨RX0, "canDo", "(I)Z"⟩
abbrev cX0_isIdle : ByteArray := prog_2_method_20_code
def yX0_isIdle : MethodName := ⟨RX0, "isIdle", "(I)Z"⟩
abbrev cX0_pass : ByteArray := prog_2_method_21_code
def yX0_pass : MethodName := ⟨RX0, "pass", "(I)V"⟩
abbrev cX0_eat : ByteArray := prog_2_method_22_code
def yX0_eat : MethodName := ⟨RX0, "eat", "(I)V"⟩
abbrev cX0_melt : ByteArray := prog_2_method_23_code
def yX0_melt : MethodName := ⟨RX0, "melt", "()V"⟩
abbrev cX0_runDown : ByteArray := prog_2_method_24_code
def yX0_runDown : MethodName := ⟨RX0, "runDown", "()V"⟩
abbrev cX0_fallOff : ByteArray := prog_2_method_25_code
def yX0_fallOff : MethodName := ⟨RX0, "fallOff", "()V"⟩
def RX1 : String := "BeforeItDrips$Kerb"
def TX1 : u_T := fun k => match k with
  | 0 => ("BeforeItDrips$Kerb", "bytes", "[I", true)
  | 1 => ("BeforeItDrips$Kerb", "size", "I", false)
  | 2 => ("BeforeItDrips$Kerb", "token", "I", false)
  | 3 => ("BeforeItDrips$Kerb", "start", "I", false)
  | 4 => ("BeforeItDrips$Kerb", "end", "I", false)
  | _ => ("BeforeItDrips$Kerb", "value", "I", false)
def tyX1 : Nat → FieldType := fun k => match k with
  | 0 => .array .int
  | 1 => .int
  | 2 => .int
  | 3 => .int
  | 4 => .int
  | _ => .int
abbrev wsX10 : List Cond := u_ws RX1 TX1 6
theorem nmX1 : ∀ a, a < 6 → ∀ b, b < 6 → a ≠ b → (TX1 a).2.1 ≠ (TX1 b).2.1 := by decide +kernel
theorem tyX1_ok : ∀ k, k < 6 → parseFieldDescriptor (TX1 k).2.2.1 = some (tyX1 k) := by decide +kernel
abbrev cX1_init : ByteArray := prog_3_method_1_code
def yX1_init : MethodName := ⟨RX1, "<init>", "()V"⟩
abbrev cX1_append : ByteArray := prog_3_method_2_code
def yX1_append : MethodName := ⟨RX1, "append", "(I)V"⟩
abbrev cX1_readInto : ByteArray := prog_3_method_3_code
def yX1_readInto : MethodName := ⟨RX1, "readInto", "(LBeforeItDrips$World;)I"⟩
abbrev cX1_readStatement : ByteArray := prog_3_method_4_code
def yX1_readStatement : MethodName := ⟨RX1, "readStatement", "(LBeforeItDrips$World;)Z"⟩
abbrev cX1_readSides : ByteArray := prog_3_method_5_code
def yX1_readSides : MethodName := ⟨RX1, "readSides", "(LBeforeItDrips$Cone;)Z"⟩
abbrev cX1_readScoop : ByteArray := prog_3_method_6_code
def yX1_readScoop : MethodName := ⟨RX1, "readScoop", "(LBeforeItDrips$Cone;)Z"⟩
abbrev cX1_readSun : ByteArray := prog_3_method_7_code
def yX1_readSun : MethodName := ⟨RX1, "readSun", "(LBeforeItDrips$Cone;)Z"⟩
abbrev cX1_readHold : ByteArray := prog_3_method_8_code
def yX1_readHold : MethodName := ⟨RX1, "readHold", "(LBeforeItDrips$Cone;)Z"⟩
abbrev cX1_readBrim : ByteArray := prog_3_method_9_code
def yX1_readBrim : MethodName := ⟨RX1, "readBrim", "(LBeforeItDrips$Cone;)Z"⟩
abbrev cX1_readLicker : ByteArray := prog_3_method_10_code
def yX1_readLicker : MethodName := ⟨RX1, "readLicker", "(LBeforeItDrips$World;)Z"⟩
abbrev cX1_readLick : ByteArray := prog_3_method_11_code
def yX1_readLick : MethodName := ⟨RX1, "readLick", "(LBeforeItDrips$World;)Z"⟩
abbrev cX1_isNumber : ByteArray := prog_3_method_12_code
def yX1_isNumber : MethodName := ⟨RX1, "isNumber", "(II)Z"⟩
abbrev cX1_isWord : ByteArray := prog_3_method_13_code
def yX1_isWord : MethodName := ⟨RX1, "isWord", "(Ljava/lang/String;)Z"⟩
abbrev cX1_advance : ByteArray := prog_3_method_14_code
def yX1_advance : MethodName := ⟨RX1, "advance", "()V"⟩
abbrev cX1_readNumber : ByteArray := prog_3_method_15_code
def yX1_readNumber : MethodName := ⟨RX1, "readNumber", "()V"⟩
abbrev cX1_byteAt : ByteArray := prog_3_method_16_code
def yX1_byteAt : MethodName := ⟨RX1, "byteAt", "(I)I"⟩
abbrev cX1_isLetter : ByteArray := prog_3_method_17_code
def yX1_isLetter : MethodName := ⟨RX1, "isLetter", "(I)Z"⟩
abbrev cX1_isDigit : ByteArray := prog_3_method_18_code
def yX1_isDigit : MethodName := ⟨RX1, "isDigit", "(I)Z"⟩
def RX2 : String := "BeforeItDrips$Mind"
def TX2 : u_T := fun k => match k with
  | 0 => ("BeforeItDrips$Mind", "levels", "[LBeforeItDrips$Cone;", true)
  | 1 => ("BeforeItDrips$Mind", "tried", "[I", true)
  | 2 => ("BeforeItDrips$Mind", "found", "[I", true)
  | 3 => ("BeforeItDrips$Mind", "foundLost", "I", false)
  | _ => ("BeforeItDrips$Mind", "foundEaten", "I", false)
def tyX2 : Nat → FieldType := fun k => match k with
  | 0 => .array (.object "BeforeItDrips$Cone")
  | 1 => .array .int
  | 2 => .array .int
  | 3 => .int
  | _ => .int
abbrev wsX20 : List Cond := u_ws RX2 TX2 5
theorem nmX2 : ∀ a, a < 5 → ∀ b, b < 5 → a ≠ b → (TX2 a).2.1 ≠ (TX2 b).2.1 := by decide +kernel
theorem tyX2_ok : ∀ k, k < 5 → parseFieldDescriptor (TX2 k).2.2.1 = some (tyX2 k) := by decide +kernel
abbrev cX2_init : ByteArray := prog_4_method_1_code
def yX2_init : MethodName := ⟨RX2, "<init>", "()V"⟩
abbrev cX2_choose : ByteArray := prog_4_method_2_code
def yX2_choose : MethodName := ⟨RX2, "choose", "(LBeforeItDrips$Cone;II)I"⟩
abbrev cX2_goRound : ByteArray := prog_4_method_3_code
def yX2_goRound : MethodName := ⟨RX2, "goRound", "(LBeforeItDrips$Cone;)I"⟩
abbrev cX2_lickLowest : ByteArray := prog_4_method_4_code
def yX2_lickLowest : MethodName := ⟨RX2, "lickLowest", "(LBeforeItDrips$Cone;)I"⟩
abbrev cX2_lickWettest : ByteArray := prog_4_method_5_code
def yX2_lickWettest : MethodName := ⟨RX2, "lickWettest", "(LBeforeItDrips$Cone;)I"⟩
abbrev cX2_turnTo : ByteArray := prog_4_method_6_code
def yX2_turnTo : MethodName := ⟨RX2, "turnTo", "(LBeforeItDrips$Cone;I)I"⟩
abbrev cX2_findPlan : ByteArray := prog_4_method_7_code
def yX2_findPlan : MethodName := ⟨RX2, "findPlan", "(LBeforeItDrips$Cone;I)V"⟩
abbrev cX2_deepen : ByteArray := prog_4_method_8_code
def yX2_deepen : MethodName := ⟨RX2, "deepen", "(LBeforeItDrips$Mind;II)V"⟩
abbrev cX2_weigh : ByteArray := prog_4_method_9_code
def yX2_weigh : MethodName := ⟨RX2, "weigh", "(LBeforeItDrips$Cone;)V"⟩
def RX3 : String := "BeforeItDrips$Shelf"
def TX3 : u_T := fun k => match k with
  | 0 => ("BeforeItDrips$Shelf", "content", "I", false)
  | 1 => ("BeforeItDrips$Shelf", "size", "I", false)
  | _ => ("BeforeItDrips$Shelf", "elements", "[J", true)
def tyX3 : Nat → FieldType := fun k => match k with
  | 0 => .int
  | 1 => .int
  | _ => .array .long
abbrev wsX30 : List Cond := u_ws RX3 TX3 3
theorem nmX3 : ∀ a, a < 3 → ∀ b, b < 3 → a ≠ b → (TX3 a).2.1 ≠ (TX3 b).2.1 := by decide +kernel
theorem tyX3_ok : ∀ k, k < 3 → parseFieldDescriptor (TX3 k).2.2.1 = some (tyX3 k) := by decide +kernel
abbrev cX3_init : ByteArray := prog_5_method_1_code
def yX3_init : MethodName := ⟨RX3, "<init>", "()V"⟩
abbrev cX3_clearAway : ByteArray := prog_5_method_2_code
def yX3_clearAway : MethodName := ⟨RX3, "clearAway", "()V"⟩
abbrev cX3_holdRow : ByteArray := prog_5_method_3_code
def yX3_holdRow : MethodName := ⟨RX3, "holdRow", "(II)V"⟩
abbrev cX3_holdLicker : ByteArray := prog_5_method_4_code
def yX3_holdLicker : MethodName := ⟨RX3, "holdLicker", "(I)V"⟩
abbrev cX3_holdsRow : ByteArray := prog_5_method_5_code
def yX3_holdsRow : MethodName := ⟨RX3, "holdsRow", "()Z"⟩
abbrev cX3_lickerNumber : ByteArray := prog_5_method_6_code
def yX3_lickerNumber : MethodName := ⟨RX3, "lickerNumber", "()I"⟩
abbrev cX3_put : ByteArray := prog_5_method_7_code
def yX3_put : MethodName := ⟨RX3, "put", "(IJ)V"⟩
def RX4 : String := "BeforeItDrips$World"
def TX4 : u_T := fun k => match k with
  | 0 => ("BeforeItDrips$World", "cone", "LBeforeItDrips$Cone;", true)
  | 1 => ("BeforeItDrips$World", "kinds", "[I", true)
  | 2 => ("BeforeItDrips$World", "as", "[I", true)
  | 3 => ("BeforeItDrips$World", "lickerCount", "I", false)
  | 4 => ("BeforeItDrips$World", "drops", "[I", true)
  | 5 => ("BeforeItDrips$World", "dropCount", "I", false)
  | _ => ("BeforeItDrips$World", "seed", "I", false)
def tyX4 : Nat → FieldType := fun k => match k with
  | 0 => .object "BeforeItDrips$Cone"
  | 1 => .array .int
  | 2 => .array .int
  | 3 => .int
  | 4 => .array .int
  | 5 => .int
  | _ => .int
abbrev wsX40 : List Cond := u_ws RX4 TX4 7
theorem nmX4 : ∀ a, a < 7 → ∀ b, b < 7 → a ≠ b → (TX4 a).2.1 ≠ (TX4 b).2.1 := by decide +kernel
theorem tyX4_ok : ∀ k, k < 7 → parseFieldDescriptor (TX4 k).2.2.1 = some (tyX4 k) := by decide +kernel
abbrev cX4_init : ByteArray := prog_6_method_1_code
def yX4_init : MethodName := ⟨RX4, "<init>", "()V"⟩
abbrev cX4_takeFrom : ByteArray := prog_6_method_2_code
def yX4_takeFrom : MethodName := ⟨RX4, "takeFrom", "(LBeforeItDrips$World;)V"⟩
abbrev cX4_addLicker : ByteArray := prog_6_method_3_code
def yX4_addLicker : MethodName := ⟨RX4, "addLicker", "(II)V"⟩
abbrev cX4_actInTruth : ByteArray := prog_6_method_4_code
def yX4_actInTruth : MethodName := ⟨RX4, "actInTruth", "(I)V"⟩
abbrev cX4_drawByte : ByteArray := prog_6_method_5_code
def yX4_drawByte : MethodName := ⟨RX4, "drawByte", "()I"⟩
def RX5 : String := "BeforeItDrips"
def TX5 : u_T := fun k => match k with
  | 0 => ("BeforeItDrips", "truth", "LBeforeItDrips$World;", true)
  | 1 => ("BeforeItDrips", "kept", "LBeforeItDrips$World;", true)
  | 2 => ("BeforeItDrips", "aheadOfKerb", "LBeforeItDrips$World;", true)
  | 3 => ("BeforeItDrips", "thought", "LBeforeItDrips$Cone;", true)
  | 4 => ("BeforeItDrips", "mind", "LBeforeItDrips$Mind;", true)
  | 5 => ("BeforeItDrips", "shelves", "[LBeforeItDrips$Shelf;", true)
  | 6 => ("BeforeItDrips", "tape", "LBeforeItDrips$Kerb;", true)
  | 7 => ("BeforeItDrips", "refusals", "[I", true)
  | _ => ("BeforeItDrips", "somethingIsKept", "Z", false)
def tyX5 : Nat → FieldType := fun k => match k with
  | 0 => .object "BeforeItDrips$World"
  | 1 => .object "BeforeItDrips$World"
  | 2 => .object "BeforeItDrips$World"
  | 3 => .object "BeforeItDrips$Cone"
  | 4 => .object "BeforeItDrips$Mind"
  | 5 => .array (.object "BeforeItDrips$Shelf")
  | 6 => .object "BeforeItDrips$Kerb"
  | 7 => .array .int
  | _ => .boolean
abbrev wsX50 : List Cond := u_ws RX5 TX5 9
theorem nmX5 : ∀ a, a < 9 → ∀ b, b < 9 → a ≠ b → (TX5 a).2.1 ≠ (TX5 b).2.1 := by decide +kernel
theorem tyX5_ok : ∀ k, k < 9 → parseFieldDescriptor (TX5 k).2.2.1 = some (tyX5 k) := by decide +kernel
abbrev cX5_init : ByteArray := prog_1_method_1_code
def yX5_init : MethodName := ⟨RX5, "<init>", "()V"⟩
abbrev cX5_row : ByteArray := prog_1_method_2_code
def yX5_row : MethodName := ⟨RX5, "row", "(III)I"⟩
abbrev cX5_set : ByteArray := prog_1_method_3_code
def yX5_set : MethodName := ⟨RX5, "set", "(IIJ)I"⟩
abbrev cX5_copy : ByteArray := prog_1_method_4_code
def yX5_copy : MethodName := ⟨RX5, "copy", "(IIIII)I"⟩
abbrev cX5_element : ByteArray := prog_1_method_5_code
def yX5_element : MethodName := ⟨RX5, "element", "(II)J"⟩
abbrev cX5_holds : ByteArray := prog_1_method_6_code
def yX5_holds : MethodName := ⟨RX5, "holds", "(I)I"⟩
abbrev cX5_show : ByteArray := prog_1_method_7_code
def yX5_show : MethodName := ⟨RX5, "show", "(II)I"⟩
abbrev cX5_says : ByteArray := prog_1_method_8_code
def yX5_says : MethodName := ⟨RX5, "says", "(II)I"⟩
abbrev cX5_sides : ByteArray := prog_1_method_9_code
def yX5_sides : MethodName := ⟨RX5, "sides", "(I)I"⟩
abbrev cX5_scoop : ByteArray := prog_1_method_10_code
def yX5_scoop : MethodName := ⟨RX5, "scoop", "(II)I"⟩
abbrev cX5_sun : ByteArray := prog_1_method_11_code
def yX5_sun : MethodName := ⟨RX5, "sun", "(I)I"⟩
abbrev cX5_ask : ByteArray := prog_1_method_12_code
def yX5_ask : MethodName := ⟨RX5, "ask", "(II)I"⟩
abbrev cX5_licker : ByteArray := prog_1_method_13_code
def yX5_licker : MethodName := ⟨RX5, "licker", "(II)I"⟩
abbrev cX5_feed : ByteArray := prog_1_method_14_code
def yX5_feed : MethodName := ⟨RX5, "feed", "(I)I"⟩
abbrev cX5_wipe : ByteArray := prog_1_method_15_code
def yX5_wipe : MethodName := ⟨RX5, "wipe", "()I"⟩
abbrev cX5_kerb : ByteArray := prog_1_method_16_code
def yX5_kerb : MethodName := ⟨RX5, "kerb", "()I"⟩
abbrev cX5_scoopOf : ByteArray := prog_1_method_17_code
def yX5_scoopOf : MethodName := ⟨RX5, "scoopOf", "(II)I"⟩
abbrev cX5_wet : ByteArray := prog_1_method_18_code
def yX5_wet : MethodName := ⟨RX5, "wet", "(II)I"⟩
abbrev cX5_lickerOf : ByteArray := prog_1_method_19_code
def yX5_lickerOf : MethodName := ⟨RX5, "lickerOf", "(II)I"⟩
abbrev cX5_sunny : ByteArray := prog_1_method_20_code
def yX5_sunny : MethodName := ⟨RX5, "sunny", "(I)I"⟩
abbrev cX5_without : ByteArray := prog_1_method_21_code
def yX5_without : MethodName := ⟨RX5, "without", "(I)I"⟩
abbrev cX5_spare : ByteArray := prog_1_method_22_code
def yX5_spare : MethodName := ⟨RX5, "spare", "()I"⟩
abbrev cX5_run : ByteArray := prog_1_method_23_code
def yX5_run : MethodName := ⟨RX5, "run", "(III)I"⟩
abbrev cX5_would : ByteArray := prog_1_method_24_code
def yX5_would : MethodName := ⟨RX5, "would", "(I)I"⟩
abbrev cX5_plan : ByteArray := prog_1_method_25_code
def yX5_plan : MethodName := ⟨RX5, "plan", "(II)I"⟩
abbrev cX5_best : ByteArray := prog_1_method_26_code
def yX5_best : MethodName := ⟨RX5, "best", "(I)I"⟩
abbrev cX5_until : ByteArray := prog_1_method_27_code
def yX5_until : MethodName := ⟨RX5, "until", "(I)I"⟩
abbrev cX5_spareBy : ByteArray := prog_1_method_28_code
def yX5_spareBy : MethodName := ⟨RX5, "spareBy", "(I)I"⟩
abbrev cX5_both : ByteArray := prog_1_method_29_code
def yX5_both : MethodName := ⟨RX5, "both", "(III)I"⟩
abbrev cX5_holdFor : ByteArray := prog_1_method_30_code
def yX5_holdFor : MethodName := ⟨RX5, "holdFor", "(I)I"⟩
abbrev cX5_largest : ByteArray := prog_1_method_31_code
def yX5_largest : MethodName := ⟨RX5, "largest", "(II)I"⟩
abbrev cX5_order : ByteArray := prog_1_method_32_code
def yX5_order : MethodName := ⟨RX5, "order", "(II)I"⟩
abbrev cX5_shade : ByteArray := prog_1_method_33_code
def yX5_shade : MethodName := ⟨RX5, "shade", "(I)I"⟩
abbrev cX5_gives : ByteArray := prog_1_method_34_code
def yX5_gives : MethodName := ⟨RX5, "gives", "()I"⟩
abbrev cX5_wettest : ByteArray := prog_1_method_35_code
def yX5_wettest : MethodName := ⟨RX5, "wettest", "()I"⟩
abbrev cX5_largestScoop : ByteArray := prog_1_method_36_code
def yX5_largestScoop : MethodName := ⟨RX5, "largestScoop", "()I"⟩
abbrev cX5_melted : ByteArray := prog_1_method_37_code
def yX5_melted : MethodName := ⟨RX5, "melted", "()I"⟩
abbrev cX5_judge : ByteArray := prog_1_method_38_code
def yX5_judge : MethodName := ⟨RX5, "judge", "(II)I"⟩
abbrev cX5_behind : ByteArray := prog_1_method_39_code
def yX5_behind : MethodName := ⟨RX5, "behind", "(III)I"⟩
abbrev cX5_done : ByteArray := prog_1_method_40_code
def yX5_done : MethodName := ⟨RX5, "done", "(II)I"⟩
abbrev cX5_drop : ByteArray := prog_1_method_41_code
def yX5_drop : MethodName := ⟨RX5, "drop", "(I)I"⟩
abbrev cX5_went : ByteArray := prog_1_method_42_code
def yX5_went : MethodName := ⟨RX5, "went", "(II)I"⟩
abbrev cX5_act : ByteArray := prog_1_method_43_code
def yX5_act : MethodName := ⟨RX5, "act", "(I)I"⟩
abbrev cX5_licks : ByteArray := prog_1_method_44_code
def yX5_licks : MethodName := ⟨RX5, "licks", "(II)I"⟩
abbrev cX5_swap : ByteArray := prog_1_method_45_code
def yX5_swap : MethodName := ⟨RX5, "swap", "(II)I"⟩
abbrev cX5_day : ByteArray := prog_1_method_46_code
def yX5_day : MethodName := ⟨RX5, "day", "(II)I"⟩
abbrev cX5_anew : ByteArray := prog_1_method_47_code
def yX5_anew : MethodName := ⟨RX5, "anew", "()I"⟩
abbrev cX5_seed : ByteArray := prog_1_method_48_code
def yX5_seed : MethodName := ⟨RX5, "seed", "(I)I"⟩
abbrev cX5_image : ByteArray := prog_1_method_49_code
def yX5_image : MethodName := ⟨RX5, "image", "()I"⟩
abbrev cX5_back : ByteArray := prog_1_method_50_code
def yX5_back : MethodName := ⟨RX5, "back", "()I"⟩
abbrev cX5_status : ByteArray := prog_1_method_51_code
def yX5_status : MethodName := ⟨RX5, "status", "(I)I"⟩
abbrev cX5_refuse : ByteArray := prog_1_method_52_code
def yX5_refuse : MethodName := ⟨RX5, "refuse", "(I)I"⟩
abbrev cX5_isWithin : ByteArray := prog_1_method_53_code
def yX5_isWithin : MethodName := ⟨RX5, "isWithin", "(III)Z"⟩
abbrev cX5_isShelf : ByteArray := prog_1_method_54_code
def yX5_isShelf : MethodName := ⟨RX5, "isShelf", "(I)Z"⟩
abbrev cX5_isSpan : ByteArray := prog_1_method_55_code
def yX5_isSpan : MethodName := ⟨RX5, "isSpan", "(I)Z"⟩
abbrev cX5_isScoop : ByteArray := prog_1_method_56_code
def yX5_isScoop : MethodName := ⟨RX5, "isScoop", "(I)Z"⟩
abbrev cX5_isSide : ByteArray := prog_1_method_57_code
def yX5_isSide : MethodName := ⟨RX5, "isSide", "(I)Z"⟩
abbrev cX5_isLicker : ByteArray := prog_1_method_58_code
def yX5_isLicker : MethodName := ⟨RX5, "isLicker", "(I)Z"⟩
abbrev cX5_canAsk : ByteArray := prog_1_method_59_code
def yX5_canAsk : MethodName := ⟨RX5, "canAsk", "(II)Z"⟩
abbrev cX5_isUnder : ByteArray := prog_1_method_60_code
def yX5_isUnder : MethodName := ⟨RX5, "isUnder", "(II)Z"⟩
abbrev cX5_rowFault : ByteArray := prog_1_method_61_code
def yX5_rowFault : MethodName := ⟨RX5, "rowFault", "(I)I"⟩
abbrev cX5_copyFault : ByteArray := prog_1_method_62_code
def yX5_copyFault : MethodName := ⟨RX5, "copyFault", "(II)I"⟩
abbrev cX5_toldFault : ByteArray := prog_1_method_63_code
def yX5_toldFault : MethodName := ⟨RX5, "toldFault", "(IIII)I"⟩
abbrev cX5_wrongTold : ByteArray := prog_1_method_64_code
def yX5_wrongTold : MethodName := ⟨RX5, "wrongTold", "(II)I"⟩
abbrev cX5_wentAt : ByteArray := prog_1_method_65_code
def yX5_wentAt : MethodName := ⟨RX5, "wentAt", "(III)Z"⟩
abbrev cX5_shelvesInUse : ByteArray := prog_1_method_66_code
def yX5_shelvesInUse : MethodName := ⟨RX5, "shelvesInUse", "()I"⟩
abbrev cX5_wouldIn : ByteArray := prog_1_method_67_code
def yX5_wouldIn : MethodName := ⟨RX5, "wouldIn", "(LBeforeItDrips$Cone;I)I"⟩
abbrev cX5_lostIdling : ByteArray := prog_1_method_68_code
def yX5_lostIdling : MethodName := ⟨RX5, "lostIdling", "(I)I"⟩
abbrev cX5_lostUnder : ByteArray := prog_1_method_69_code
def yX5_lostUnder : MethodName := ⟨RX5, "lostUnder", "(III)I"⟩
abbrev cX5_thinkRun : ByteArray := prog_1_method_70_code
def yX5_thinkRun : MethodName := ⟨RX5, "thinkRun", "(II)V"⟩
abbrev cX5_thoughtResult : ByteArray := prog_1_method_71_code
def yX5_thoughtResult : MethodName := ⟨RX5, "thoughtResult", "(I)I"⟩
abbrev cX5_lickInTruth : ByteArray := prog_1_method_72_code
def yX5_lickInTruth : MethodName := ⟨RX5, "lickInTruth", "(II)V"⟩
def RX6 : String := "BeforeItDripsModel"
def TX6 : u_T := fun k => match k with
  | 0 => ("BeforeItDripsModel", "shelf", "[I", true)
  | 1 => ("BeforeItDripsModel", "rowSort", "[I", true)
  | 2 => ("BeforeItDripsModel", "rowSize", "[I", true)
  | 3 => ("BeforeItDripsModel", "rows", "[[J", true)
  | 4 => ("BeforeItDripsModel", "moved", "[J", true)
  | 5 => ("BeforeItDripsModel", "shown", "[I", true)
  | 6 => ("BeforeItDripsModel", "tape", "[I", true)
  | 7 => ("BeforeItDripsModel", "tapeSize", "I", false)
  | 8 => ("BeforeItDripsModel", "refused", "[I", true)
  | 9 => ("BeforeItDripsModel", "sides", "I", false)
  | 10 => ("BeforeItDripsModel", "scoops", "I", false)
  | 11 => ("BeforeItDripsModel", "sort", "[I", true)
  | 12 => ("BeforeItDripsModel", "amount", "[I", true)
  | 13 => ("BeforeItDripsModel", "wet", "[[I", true)
  | 14 => ("BeforeItDripsModel", "rim", "[I", true)
  | 15 => ("BeforeItDripsModel", "turn", "I", false)
  | 16 => ("BeforeItDripsModel", "sun", "I", false)
  | 17 => ("BeforeItDripsModel", "asked", "[I", true)
  | 18 => ("BeforeItDripsModel", "seconds", "I", false)
  | 19 => ("BeforeItDripsModel", "lost", "I", false)
  | 20 => ("BeforeItDripsModel", "eaten", "I", false)
  | 21 => ("BeforeItDripsModel", "soak", "I", false)
  | 22 => ("BeforeItDripsModel", "lickers", "I", false)
  | 23 => ("BeforeItDripsModel", "kind", "[I", true)
  | 24 => ("BeforeItDripsModel", "by", "[I", true)
  | 25 => ("BeforeItDripsModel", "drops", "I", false)
  | 26 => ("BeforeItDripsModel", "dropAt", "[I", true)
  | 27 => ("BeforeItDripsModel", "seed", "I", false)
  | 28 => ("BeforeItDripsModel", "kept", "LBeforeItDripsModel;", false)
  | 29 => ("BeforeItDripsModel", "tried", "LBeforeItDripsModel;", false)
  | 30 => ("BeforeItDripsModel", "ahead", "[LBeforeItDripsModel;", true)
  | 31 => ("BeforeItDripsModel", "at", "I", false)
  | 32 => ("BeforeItDripsModel", "token", "I", false)
  | 33 => ("BeforeItDripsModel", "from", "I", false)
  | 34 => ("BeforeItDripsModel", "figures", "I", false)
  | 35 => ("BeforeItDripsModel", "fault", "I", false)
  | 36 => ("BeforeItDripsModel", "told", "[I", true)
  | 37 => ("BeforeItDripsModel", "statements", "I", false)
  | 38 => ("BeforeItDripsModel", "planFirst", "I", false)
  | 39 => ("BeforeItDripsModel", "planLost", "I", false)
  | 40 => ("BeforeItDripsModel", "planEaten", "I", false)
  | 41 => ("BeforeItDripsModel", "planRow", "[I", true)
  | 42 => ("BeforeItDripsModel", "orderNow", "[I", true)
  | 43 => ("BeforeItDripsModel", "orderBest", "[I", true)
  | _ => ("BeforeItDripsModel", "orderLost", "I", false)
def tyX6 : Nat → FieldType := fun k => match k with
  | 0 => .array .int
  | 1 => .array .int
  | 2 => .array .int
  | 3 => .array (.array .long)
  | 4 => .array .long
  | 5 => .array .int
  | 6 => .array .int
  | 7 => .int
  | 8 => .array .int
  | 9 => .int
  | 10 => .int
  | 11 => .array .int
  | 12 => .array .int
  | 13 => .array (.array .int)
  | 14 => .array .int
  | 15 => .int
  | 16 => .int
  | 17 => .array .int
  | 18 => .int
  | 19 => .int
  | 20 => .int
  | 21 => .int
  | 22 => .int
  | 23 => .array .int
  | 24 => .array .int
  | 25 => .int
  | 26 => .array .int
  | 27 => .int
  | 28 => .object "BeforeItDripsModel"
  | 29 => .object "BeforeItDripsModel"
  | 30 => .array (.object "BeforeItDripsModel")
  | 31 => .int
  | 32 => .int
  | 33 => .int
  | 34 => .int
  | 35 => .int
  | 36 => .array .int
  | 37 => .int
  | 38 => .int
  | 39 => .int
  | 40 => .int
  | 41 => .array .int
  | 42 => .array .int
  | 43 => .array .int
  | _ => .int
abbrev wsX60 : List Cond := u_ws RX6 TX6 45
theorem nmX6 : ∀ a, a < 45 → ∀ b, b < 45 → a ≠ b → (TX6 a).2.1 ≠ (TX6 b).2.1 := by decide +kernel
theorem tyX6_ok : ∀ k, k < 45 → parseFieldDescriptor (TX6 k).2.2.1 = some (tyX6 k) := by decide +kernel
abbrev cX6_init : ByteArray := prog_8_method_1_code
def yX6_init : MethodName := ⟨RX6, "<init>", "()V"⟩
abbrev cX6_refuse : ByteArray := prog_8_method_2_code
def yX6_refuse : MethodName := ⟨RX6, "refuse", "(I)I"⟩
abbrev cX6_in : ByteArray := prog_8_method_3_code
def yX6_in : MethodName := ⟨RX6, "in", "(JJJ)Z"⟩
abbrev cX6_isLicker : ByteArray := prog_8_method_4_code
def yX6_isLicker : MethodName := ⟨RX6, "isLicker", "(I)Z"⟩
abbrev cX6_isScoop : ByteArray := prog_8_method_5_code
def yX6_isScoop : MethodName := ⟨RX6, "isScoop", "(I)Z"⟩
abbrev cX6_isSide : ByteArray := prog_8_method_6_code
def yX6_isSide : MethodName := ⟨RX6, "isSide", "(I)Z"⟩
abbrev cX6_row : ByteArray := prog_8_method_7_code
def yX6_row : MethodName := ⟨RX6, "row", "(III)I"⟩
abbrev cX6_fit : ByteArray := prog_8_method_8_code
def yX6_fit : MethodName := ⟨RX6, "fit", "(IJ)J"⟩
abbrev cX6_noRow : ByteArray := prog_8_method_9_code
def yX6_noRow : MethodName := ⟨RX6, "noRow", "(I)I"⟩
abbrev cX6_set : ByteArray := prog_8_method_10_code
def yX6_set : MethodName := ⟨RX6, "set", "(IIJ)I"⟩
abbrev cX6_copy : ByteArray := prog_8_method_11_code
def yX6_copy : MethodName := ⟨RX6, "copy", "(IIIII)I"⟩
abbrev cX6_element : ByteArray := prog_8_method_12_code
def yX6_element : MethodName := ⟨RX6, "element", "(II)J"⟩
abbrev cX6_holds : ByteArray := prog_8_method_13_code
def yX6_holds : MethodName := ⟨RX6, "holds", "(I)I"⟩
abbrev cX6_show : ByteArray := prog_8_method_14_code
def yX6_show : MethodName := ⟨RX6, "show", "(II)I"⟩
abbrev cX6_isUnder : ByteArray := prog_8_method_15_code
def yX6_isUnder : MethodName := ⟨RX6, "isUnder", "(II)Z"⟩
abbrev cX6_says : ByteArray := prog_8_method_16_code
def yX6_says : MethodName := ⟨RX6, "says", "(II)I"⟩
abbrev cX6_becomeSides : ByteArray := prog_8_method_17_code
def yX6_becomeSides : MethodName := ⟨RX6, "becomeSides", "(I)V"⟩
abbrev cX6_sides : ByteArray := prog_8_method_18_code
def yX6_sides : MethodName := ⟨RX6, "sides", "(I)I"⟩
abbrev cX6_addScoop : ByteArray := prog_8_method_19_code
def yX6_addScoop : MethodName := ⟨RX6, "addScoop", "(II)V"⟩
abbrev cX6_scoop : ByteArray := prog_8_method_20_code
def yX6_scoop : MethodName := ⟨RX6, "scoop", "(II)I"⟩
abbrev cX6_sun : ByteArray := prog_8_method_21_code
def yX6_sun : MethodName := ⟨RX6, "sun", "(I)I"⟩
abbrev cX6_mayAsk : ByteArray := prog_8_method_22_code
def yX6_mayAsk : MethodName := ⟨RX6, "mayAsk", "(II)Z"⟩
abbrev cX6_ask : ByteArray := prog_8_method_23_code
def yX6_ask : MethodName := ⟨RX6, "ask", "(II)I"⟩
abbrev cX6_addLicker : ByteArray := prog_8_method_24_code
def yX6_addLicker : MethodName := ⟨RX6, "addLicker", "(II)V"⟩
abbrev cX6_licker : ByteArray := prog_8_method_25_code
def yX6_licker : MethodName := ⟨RX6, "licker", "(II)I"⟩
abbrev cX6_feed : ByteArray := prog_8_method_26_code
def yX6_feed : MethodName := ⟨RX6, "feed", "(I)I"⟩
abbrev cX6_wipe : ByteArray := prog_8_method_27_code
def yX6_wipe : MethodName := ⟨RX6, "wipe", "()I"⟩
abbrev cX6_isLetter : ByteArray := prog_8_method_28_code
def yX6_isLetter : MethodName := ⟨RX6, "isLetter", "(I)Z"⟩
abbrev cX6_isDigit : ByteArray := prog_8_method_29_code
def yX6_isDigit : MethodName := ⟨RX6, "isDigit", "(I)Z"⟩
abbrev cX6_look : ByteArray := prog_8_method_30_code
def yX6_look : MethodName := ⟨RX6, "look", "()V"⟩
abbrev cX6_wrong : ByteArray := prog_8_method_31_code
def yX6_wrong : MethodName := ⟨RX6, "wrong", "()Z"⟩
abbrev cX6_isWord : ByteArray := prog_8_method_32_code
def yX6_isWord : MethodName := ⟨RX6, "isWord", "(Ljava/lang/String;)Z"⟩
abbrev cX6_number : ByteArray := prog_8_method_33_code
def yX6_number : MethodName := ⟨RX6, "number", "(III)Z"⟩
abbrev cX6_tells : ByteArray := prog_8_method_34_code
def yX6_tells : MethodName := ⟨RX6, "tells", "(II)Z"⟩
abbrev cX6_sunTold : ByteArray := prog_8_method_35_code
def yX6_sunTold : MethodName := ⟨RX6, "sunTold", "()Z"⟩
abbrev cX6_lickTold : ByteArray := prog_8_method_36_code
def yX6_lickTold : MethodName := ⟨RX6, "lickTold", "()Z"⟩
abbrev cX6_statement : ByteArray := prog_8_method_37_code
def yX6_statement : MethodName := ⟨RX6, "statement", "()Z"⟩
abbrev cX6_readAll : ByteArray := prog_8_method_38_code
def yX6_readAll : MethodName := ⟨RX6, "readAll", "()Z"⟩
abbrev cX6_kerb : ByteArray := prog_8_method_39_code
def yX6_kerb : MethodName := ⟨RX6, "kerb", "()I"⟩
abbrev cX6_wetOf : ByteArray := prog_8_method_40_code
def yX6_wetOf : MethodName := ⟨RX6, "wetOf", "(I)I"⟩
abbrev cX6_scoopOf : ByteArray := prog_8_method_41_code
def yX6_scoopOf : MethodName := ⟨RX6, "scoopOf", "(II)I"⟩
abbrev cX6_wet : ByteArray := prog_8_method_42_code
def yX6_wet : MethodName := ⟨RX6, "wet", "(II)I"⟩
abbrev cX6_lickerOf : ByteArray := prog_8_method_43_code
def yX6_lickerOf : MethodName := ⟨RX6, "lickerOf", "(II)I"⟩
abbrev cX6_isSunny : ByteArray := prog_8_method_44_code
def yX6_isSunny : MethodName := ⟨RX6, "isSunny", "(I)Z"⟩
abbrev cX6_sunny : ByteArray := prog_8_method_45_code
def yX6_sunny : MethodName := ⟨RX6, "sunny", "(I)I"⟩
abbrev cX6_canAct : ByteArray := prog_8_method_46_code
def yX6_canAct : MethodName := ⟨RX6, "canAct", "(J)Z"⟩
abbrev cX6_lickedOf : ByteArray := prog_8_method_47_code
def yX6_lickedOf : MethodName := ⟨RX6, "lickedOf", "(I)I"⟩
abbrev cX6_melts : ByteArray := prog_8_method_48_code
def yX6_melts : MethodName := ⟨RX6, "melts", "(I)V"⟩
abbrev cX6_runsDown : ByteArray := prog_8_method_49_code
def yX6_runsDown : MethodName := ⟨RX6, "runsDown", "(I)V"⟩
abbrev cX6_goes : ByteArray := prog_8_method_50_code
def yX6_goes : MethodName := ⟨RX6, "goes", "(IZ)V"⟩
abbrev cX6_leftNow : ByteArray := prog_8_method_51_code
def yX6_leftNow : MethodName := ⟨RX6, "leftNow", "()I"⟩
abbrev cX6_roundAct : ByteArray := prog_8_method_52_code
def yX6_roundAct : MethodName := ⟨RX6, "roundAct", "()I"⟩
abbrev cX6_allAt : ByteArray := prog_8_method_53_code
def yX6_allAt : MethodName := ⟨RX6, "allAt", "(I)I"⟩
abbrev cX6_wettestSide : ByteArray := prog_8_method_54_code
def yX6_wettestSide : MethodName := ⟨RX6, "wettestSide", "()I"⟩
abbrev cX6_turnTo : ByteArray := prog_8_method_55_code
def yX6_turnTo : MethodName := ⟨RX6, "turnTo", "(I)I"⟩
abbrev cX6_wettestAct : ByteArray := prog_8_method_56_code
def yX6_wettestAct : MethodName := ⟨RX6, "wettestAct", "()I"⟩
abbrev cX6_isMore : ByteArray := prog_8_method_57_code
def yX6_isMore : MethodName := ⟨RX6, "isMore", "(II)Z"⟩
abbrev cX6_lowestAct : ByteArray := prog_8_method_58_code
def yX6_lowestAct : MethodName := ⟨RX6, "lowestAct", "()I"⟩
abbrev cX6_findPlan : ByteArray := prog_8_method_59_code
def yX6_findPlan : MethodName := ⟨RX6, "findPlan", "(I)V"⟩
abbrev cX6_wouldBe : ByteArray := prog_8_method_60_code
def yX6_wouldBe : MethodName := ⟨RX6, "wouldBe", "(I)I"⟩
abbrev cX6_would : ByteArray := prog_8_method_61_code
def yX6_would : MethodName := ⟨RX6, "would", "(I)I"⟩
abbrev cX6_plan : ByteArray := prog_8_method_62_code
def yX6_plan : MethodName := ⟨RX6, "plan", "(II)I"⟩
abbrev cX6_fresh : ByteArray := prog_8_method_63_code
def yX6_fresh : MethodName := ⟨RX6, "fresh", "()LBeforeItDripsModel;"⟩
abbrev cX6_stands : ByteArray := prog_8_method_64_code
def yX6_stands : MethodName := ⟨RX6, "stands", "(I)V"⟩
abbrev cX6_lickedBy : ByteArray := prog_8_method_65_code
def yX6_lickedBy : MethodName := ⟨RX6, "lickedBy", "(II)V"⟩
abbrev cX6_withoutNow : ByteArray := prog_8_method_66_code
def yX6_withoutNow : MethodName := ⟨RX6, "withoutNow", "(I)I"⟩
abbrev cX6_without : ByteArray := prog_8_method_67_code
def yX6_without : MethodName := ⟨RX6, "without", "(I)I"⟩
abbrev cX6_spare : ByteArray := prog_8_method_68_code
def yX6_spare : MethodName := ⟨RX6, "spare", "()I"⟩
abbrev cX6_toldOf : ByteArray := prog_8_method_69_code
def yX6_toldOf : MethodName := ⟨RX6, "toldOf", "(LBeforeItDripsModel;I)I"⟩
abbrev cX6_run : ByteArray := prog_8_method_70_code
def yX6_run : MethodName := ⟨RX6, "run", "(III)I"⟩
abbrev cX6_best : ByteArray := prog_8_method_71_code
def yX6_best : MethodName := ⟨RX6, "best", "(I)I"⟩
abbrev cX6_until : ByteArray := prog_8_method_72_code
def yX6_until : MethodName := ⟨RX6, "until", "(I)I"⟩
abbrev cX6_spareBy : ByteArray := prog_8_method_73_code
def yX6_spareBy : MethodName := ⟨RX6, "spareBy", "(I)I"⟩
abbrev cX6_both : ByteArray := prog_8_method_74_code
def yX6_both : MethodName := ⟨RX6, "both", "(III)I"⟩
abbrev cX6_holdFor : ByteArray := prog_8_method_75_code
def yX6_holdFor : MethodName := ⟨RX6, "holdFor", "(I)I"⟩
abbrev cX6_largest : ByteArray := prog_8_method_76_code
def yX6_largest : MethodName := ⟨RX6, "largest", "(II)I"⟩
abbrev cX6_putFrom : ByteArray := prog_8_method_77_code
def yX6_putFrom : MethodName := ⟨RX6, "putFrom", "(LBeforeItDripsModel;II)V"⟩
abbrev cX6_seekOrder : ByteArray := prog_8_method_78_code
def yX6_seekOrder : MethodName := ⟨RX6, "seekOrder", "(III)V"⟩
abbrev cX6_order : ByteArray := prog_8_method_79_code
def yX6_order : MethodName := ⟨RX6, "order", "(II)I"⟩
abbrev cX6_shade : ByteArray := prog_8_method_80_code
def yX6_shade : MethodName := ⟨RX6, "shade", "(I)I"⟩
abbrev cX6_gives : ByteArray := prog_8_method_81_code
def yX6_gives : MethodName := ⟨RX6, "gives", "()I"⟩
abbrev cX6_wettest : ByteArray := prog_8_method_82_code
def yX6_wettest : MethodName := ⟨RX6, "wettest", "()I"⟩
abbrev cX6_largestScoop : ByteArray := prog_8_method_83_code
def yX6_largestScoop : MethodName := ⟨RX6, "largestScoop", "()I"⟩
abbrev cX6_melted : ByteArray := prog_8_method_84_code
def yX6_melted : MethodName := ⟨RX6, "melted", "()I"⟩
abbrev cX6_noActs : ByteArray := prog_8_method_85_code
def yX6_noActs : MethodName := ⟨RX6, "noActs", "(II)I"⟩
abbrev cX6_wrongIn : ByteArray := prog_8_method_86_code
def yX6_wrongIn : MethodName := ⟨RX6, "wrongIn", "([JI)I"⟩
abbrev cX6_judge : ByteArray := prog_8_method_87_code
def yX6_judge : MethodName := ⟨RX6, "judge", "(II)I"⟩
abbrev cX6_behind : ByteArray := prog_8_method_88_code
def yX6_behind : MethodName := ⟨RX6, "behind", "(III)I"⟩
abbrev cX6_done : ByteArray := prog_8_method_89_code
def yX6_done : MethodName := ⟨RX6, "done", "(II)I"⟩
abbrev cX6_drop : ByteArray := prog_8_method_90_code
def yX6_drop : MethodName := ⟨RX6, "drop", "(I)I"⟩
abbrev cX6_went : ByteArray := prog_8_method_91_code
def yX6_went : MethodName := ⟨RX6, "went", "(II)I"⟩
abbrev cX6_act : ByteArray := prog_8_method_92_code
def yX6_act : MethodName := ⟨RX6, "act", "(I)I"⟩
abbrev cX6_licksTruly : ByteArray := prog_8_method_93_code
def yX6_licksTruly : MethodName := ⟨RX6, "licksTruly", "(II)V"⟩
abbrev cX6_licks : ByteArray := prog_8_method_94_code
def yX6_licks : MethodName := ⟨RX6, "licks", "(II)I"⟩
abbrev cX6_swap : ByteArray := prog_8_method_95_code
def yX6_swap : MethodName := ⟨RX6, "swap", "(II)I"⟩
abbrev cX6_below : ByteArray := prog_8_method_96_code
def yX6_below : MethodName := ⟨RX6, "below", "(I)I"⟩
abbrev cX6_day : ByteArray := prog_8_method_97_code
def yX6_day : MethodName := ⟨RX6, "day", "(II)I"⟩
abbrev cX6_anew : ByteArray := prog_8_method_98_code
def yX6_anew : MethodName := ⟨RX6, "anew", "()I"⟩
abbrev cX6_seed : ByteArray := prog_8_method_99_code
def yX6_seed : MethodName := ⟨RX6, "seed", "(I)I"⟩
abbrev cX6_copied : ByteArray := prog_8_method_100_code
def yX6_copied : MethodName := ⟨RX6, "copied", "([I[I)V"⟩
abbrev cX6_takeFrom : ByteArray := prog_8_method_101_code
def yX6_takeFrom : MethodName := ⟨RX6, "takeFrom", "(LBeforeItDripsModel;)V"⟩
abbrev cX6_image : ByteArray := prog_8_method_102_code
def yX6_image : MethodName := ⟨RX6, "image", "()I"⟩
abbrev cX6_back : ByteArray := prog_8_method_103_code
def yX6_back : MethodName := ⟨RX6, "back", "()I"⟩
abbrev cX6_status : ByteArray := prog_8_method_104_code
def yX6_status : MethodName := ⟨RX6, "status", "(I)I"⟩
def RJ9 : String := "java/lang/Math"
def TJ9 : u_T := fun k => match k with
  | _ => ("", "", "", false)
def tyJ9 : Nat → FieldType := fun k => match k with
  | _ => .int
abbrev wsJ90 : List Cond := u_ws RJ9 TJ9 0
theorem nmJ9 : ∀ a, a < 0 → ∀ b, b < 0 → a ≠ b → (TJ9 a).2.1 ≠ (TJ9 b).2.1 := by decide +kernel
theorem tyJ9_ok : ∀ k, k < 0 → parseFieldDescriptor (TJ9 k).2.2.1 = some (tyJ9 k) := by decide +kernel
abbrev cJ9_min_7cf53 : ByteArray := prog_9_method_69_code
def yJ9_min_7cf53 : MethodName := ⟨RJ9, "min", "(II)I"⟩
def RJ0 : String := "java/lang/String"
def TJ0 : u_T := fun k => match k with
  | _ => ("", "", "", false)
def tyJ0 : Nat → FieldType := fun k => match k with
  | _ => .int
abbrev wsJ00 : List Cond := u_ws RJ0 TJ0 0
theorem nmJ0 : ∀ a, a < 0 → ∀ b, b < 0 → a ≠ b → (TJ0 a).2.1 ≠ (TJ0 b).2.1 := by decide +kernel
theorem tyJ0_ok : ∀ k, k < 0 → parseFieldDescriptor (TJ0 k).2.2.1 = some (tyJ0 k) := by decide +kernel
abbrev cJ0_length_8abf5 : ByteArray := prog_10_method_54_code
def yJ0_length_8abf5 : MethodName := ⟨RJ0, "length", "()I"⟩
abbrev cJ0_charAt_5068e : ByteArray := prog_10_method_56_code
def yJ0_charAt_5068e : MethodName := ⟨RJ0, "charAt", "(I)C"⟩
abbrev cJ0_coder_7d493 : ByteArray := prog_10_method_152_code
def yJ0_coder_7d493 : MethodName := ⟨RJ0, "coder", "()B"⟩
abbrev cJ0_isLatin1_aae02 : ByteArray := prog_10_method_154_code
def yJ0_isLatin1_aae02 : MethodName := ⟨RJ0, "isLatin1", "()Z"⟩
abbrev cJ0_checkIndex_df160 : ByteArray := prog_10_method_155_code
def yJ0_checkIndex_df160 : MethodName := ⟨RJ0, "checkIndex", "(II)V"⟩
def RJ1 : String := "java/lang/StringLatin1"
def TJ1 : u_T := fun k => match k with
  | _ => ("", "", "", false)
def tyJ1 : Nat → FieldType := fun k => match k with
  | _ => .int
abbrev wsJ10 : List Cond := u_ws RJ1 TJ1 0
theorem nmJ1 : ∀ a, a < 0 → ∀ b, b < 0 → a ≠ b → (TJ1 a).2.1 ≠ (TJ1 b).2.1 := by decide +kernel
theorem tyJ1_ok : ∀ k, k < 0 → parseFieldDescriptor (TJ1 k).2.2.1 = some (tyJ1 k) := by decide +kernel
abbrev cJ1_charAt_3b067 : ByteArray := prog_11_method_2_code
def yJ1_charAt_3b067 : MethodName := ⟨RJ1, "charAt", "([BI)C"⟩
def RJ2 : String := "java/lang/StringUTF16"
def TJ2 : u_T := fun k => match k with
  | _ => ("", "", "", false)
def tyJ2 : Nat → FieldType := fun k => match k with
  | _ => .int
abbrev wsJ20 : List Cond := u_ws RJ2 TJ2 0
theorem nmJ2 : ∀ a, a < 0 → ∀ b, b < 0 → a ≠ b → (TJ2 a).2.1 ≠ (TJ2 b).2.1 := by decide +kernel
theorem tyJ2_ok : ∀ k, k < 0 → parseFieldDescriptor (TJ2 k).2.2.1 = some (tyJ2 k) := by decide +kernel
abbrev cJ2_getChar_3b067 : ByteArray := prog_12_method_5_code
def yJ2_getChar_3b067 : MethodName := ⟨RJ2, "getChar", "([BI)C"⟩
abbrev cJ2_length_9d52b : ByteArray := prog_12_method_6_code
def yJ2_length_9d52b : MethodName := ⟨RJ2, "length", "([B)I"⟩
abbrev cJ2_charAt_3b067 : ByteArray := prog_12_method_83_code
def yJ2_charAt_3b067 : MethodName := ⟨RJ2, "charAt", "([BI)C"⟩
abbrev cJ2_checkIndex_2214a : ByteArray := prog_12_method_91_code
def yJ2_checkIndex_2214a : MethodName := ⟨RJ2, "checkIndex", "(I[B)V"⟩
def RJ10 : String := "java/lang/System"
def TJ10 : u_T := fun k => match k with
  | _ => ("", "", "", false)
def tyJ10 : Nat → FieldType := fun k => match k with
  | _ => .int
abbrev wsJ100 : List Cond := u_ws RJ10 TJ10 0
theorem nmJ10 : ∀ a, a < 0 → ∀ b, b < 0 → a ≠ b → (TJ10 a).2.1 ≠ (TJ10 b).2.1 := by decide +kernel
theorem tyJ10_ok : ∀ k, k < 0 → parseFieldDescriptor (TJ10 k).2.2.1 = some (tyJ10 k) := by decide +kernel
def RJ3 : String := "jdk/internal/util/Preconditions"
def TJ3 : u_T := fun k => match k with
  | _ => ("", "", "", false)
def tyJ3 : Nat → FieldType := fun k => match k with
  | _ => .int
abbrev wsJ30 : List Cond := u_ws RJ3 TJ3 0
theorem nmJ3 : ∀ a, a < 0 → ∀ b, b < 0 → a ≠ b → (TJ3 a).2.1 ≠ (TJ3 b).2.1 := by decide +kernel
theorem tyJ3_ok : ∀ k, k < 0 → parseFieldDescriptor (TJ3 k).2.2.1 = some (tyJ3 k) := by decide +kernel
abbrev cJ3_checkIndex_8e157 : ByteArray := prog_14_method_11_code
def yJ3_checkIndex_8e157 : MethodName := ⟨RJ3, "checkIndex", "(IILjava/util/function/BiFunction;)I"⟩
def RL : String := "BeforeItDripsLaw"
abbrev cL_law : ByteArray := code
def yL_law : MethodName := ⟨RL, "law", "([I)Z"⟩
abbrev vwCl : List vw_C := [(RX0, TX0, 16), (RX1, TX1, 6), (RX2, TX2, 5), (RX3, TX3, 3), (RX4, TX4, 7), (RX5, TX5, 9), (RX6, TX6, 45)]
end
section
/-! THE JUDGEMENT Ev: the machine's W, packaged: a method's run over a heap told by five planes (size, shapes, references, ints, longs), at real addresses. -/
def TT : List Cond := lw_tbl.filter goodWord
theorem TT_in {w : Cond} (h : w ∈ lw_tbl) (g : goodWord w = true) : w ∈ TT := List.mem_filter.mpr ⟨h, g⟩
theorem TT_at {w : Cond} (i : Nat) (h : lw_tbl[i]? = some w) (g : goodWord w = true) : w ∈ TT := TT_in (List.mem_of_getElem? h) g
theorem TT_1 {w : Cond} (i : Nat) (h : tables_1_1[i]? = some w) (g : goodWord w = true) : w ∈ TT := TT_in (List.mem_append_right _ (show w ∈ tables_1 from List.mem_append_left _ (List.mem_of_getElem? h))) g
theorem TT_2 {w : Cond} (i : Nat) (h : tables_1_2[i]? = some w) (g : goodWord w = true) : w ∈ TT := TT_in (List.mem_append_right _ (show w ∈ tables_1 from List.mem_append_right _ (List.mem_append_left _ (List.mem_of_getElem? h)))) g
theorem TT_3 {w : Cond} (i : Nat) (h : tables_1_3[i]? = some w) (g : goodWord w = true) : w ∈ TT := TT_in (List.mem_append_right _ (show w ∈ tables_1 from List.mem_append_right _ (List.mem_append_right _ (List.mem_append_left _ (List.mem_of_getElem? h))))) g
theorem TT_4 {w : Cond} (i : Nat) (h : tables_1_4[i]? = some w) (g : goodWord w = true) : w ∈ TT := TT_in (List.mem_append_right _ (show w ∈ tables_1 from List.mem_append_right _ (List.mem_append_right _ (List.mem_append_right _ (List.mem_append_left _ (List.mem_of_getElem? h)))))) g
theorem TT_5 {w : Cond} (i : Nat) (h : tables_1_5[i]? = some w) (g : goodWord w = true) : w ∈ TT := TT_in (List.mem_append_right _ (show w ∈ tables_1 from List.mem_append_right _ (List.mem_append_right _ (List.mem_append_right _ (List.mem_append_right _ (List.mem_append_left _ (List.mem_of_getElem? h))))))) g
theorem TT_6 {w : Cond} (i : Nat) (h : tables_1_6[i]? = some w) (g : goodWord w = true) : w ∈ TT := TT_in (List.mem_append_right _ (show w ∈ tables_1 from List.mem_append_right _ (List.mem_append_right _ (List.mem_append_right _ (List.mem_append_right _ (List.mem_append_right _ (List.mem_of_getElem? h))))))) g
theorem TP_1 {y : MethodName} {n : Nat} (i : Nat) (h : lw_privs_1[i]? = some (y, n)) : Cond.selects y.cls y y ∈ TT := TT_in (List.mem_append_left _ (show Cond.selects y.cls y y ∈ k2_sels lw_privs from List.mem_map.mpr ⟨(y, n), show (y, n) ∈ lw_privs from List.mem_append_left _ (List.mem_of_getElem? h), rfl⟩)) rfl
theorem TP_2 {y : MethodName} {n : Nat} (i : Nat) (h : lw_privs_2[i]? = some (y, n)) : Cond.selects y.cls y y ∈ TT := TT_in (List.mem_append_left _ (show Cond.selects y.cls y y ∈ k2_sels lw_privs from List.mem_map.mpr ⟨(y, n), show (y, n) ∈ lw_privs from List.mem_append_right _ (List.mem_append_left _ (List.mem_of_getElem? h)), rfl⟩)) rfl
theorem TP_3 {y : MethodName} {n : Nat} (i : Nat) (h : lw_privs_3[i]? = some (y, n)) : Cond.selects y.cls y y ∈ TT := TT_in (List.mem_append_left _ (show Cond.selects y.cls y y ∈ k2_sels lw_privs from List.mem_map.mpr ⟨(y, n), show (y, n) ∈ lw_privs from List.mem_append_right _ (List.mem_append_right _ (List.mem_append_left _ (List.mem_of_getElem? h))), rfl⟩)) rfl
theorem TP_4 {y : MethodName} {n : Nat} (i : Nat) (h : lw_privs_4[i]? = some (y, n)) : Cond.selects y.cls y y ∈ TT := TT_in (List.mem_append_left _ (show Cond.selects y.cls y y ∈ k2_sels lw_privs from List.mem_map.mpr ⟨(y, n), show (y, n) ∈ lw_privs from List.mem_append_right _ (List.mem_append_right _ (List.mem_append_right _ (List.mem_append_left _ (List.mem_of_getElem? h)))), rfl⟩)) rfl
theorem TP_5 {y : MethodName} {n : Nat} (i : Nat) (h : lw_privs_5[i]? = some (y, n)) : Cond.selects y.cls y y ∈ TT := TT_in (List.mem_append_left _ (show Cond.selects y.cls y y ∈ k2_sels lw_privs from List.mem_map.mpr ⟨(y, n), show (y, n) ∈ lw_privs from List.mem_append_right _ (List.mem_append_right _ (List.mem_append_right _ (List.mem_append_right _ (List.mem_append_left _ (List.mem_of_getElem? h))))), rfl⟩)) rfl
theorem TP_6 {y : MethodName} {n : Nat} (i : Nat) (h : lw_privs_6[i]? = some (y, n)) : Cond.selects y.cls y y ∈ TT := TT_in (List.mem_append_left _ (show Cond.selects y.cls y y ∈ k2_sels lw_privs from List.mem_map.mpr ⟨(y, n), show (y, n) ∈ lw_privs from List.mem_append_right _ (List.mem_append_right _ (List.mem_append_right _ (List.mem_append_right _ (List.mem_append_right _ (List.mem_of_getElem? h))))), rfl⟩)) rfl
theorem TT_tbl {w : Cond} (h : w ∈ TT) : w ∈ lw_tbl ∧ goodWord w = true := List.mem_filter.mp h
/-- a method: whose, its name, code, locals, what it returns -/
abbrev MI : Type := String × MethodName × ByteArray × Nat × Option FieldType
abbrev moM (M : MI) : String := M.1
abbrev myM (M : MI) : MethodName := M.2.1
abbrev mbM (M : MI) : ByteArray := M.2.2.1
abbrev mlM (M : MI) : Nat := M.2.2.2.1
abbrev mrM (M : MI) : Option FieldType := M.2.2.2.2
def wsM (M : MI) : List Cond := Cond.code (myM M) (mbM M) (mlM M) (mrM M) :: TT
theorem wsM_good {M N : MI} (h : Cond.code (myM N) (mbM N) (mlM N) (mrM N) ∈ TT) : GoodIn (wsM M) (wsM N) := by
  intro w hw
  rcases List.mem_cons.mp hw with rfl | hw
  · exact ⟨List.mem_cons_of_mem _ h, good_of_word (TT_tbl h).2⟩
  · exact ⟨List.mem_cons_of_mem _ hw, good_of_word (TT_tbl hw).2⟩
/-- the heap: its size, shapes (kind, length), references, ints, longs -/
abbrev PH : Type := Nat × (Nat → Option (Nat × Nat)) × (Nat → Nat → Value) × (Nat → Nat → Int32) × (Nat → Nat → Int64)
/-- classes' and slots' numbers; array classes; the heap at the law's entry; what lies there -/
abbrev GG : Type := va_G × (Nat → ClassId) × Heap × (Nat → Nat) × (Nat → Nat)
def atyG : Nat → FieldType := fun k => match k with
  | 0 => .int
  | 1 => .long
  | 2 => .object RX3
  | 3 => .object RX0
  | 4 => .object RX6
  | 5 => .array .int
  | _ => .array .long
def tysG (G : GG) : List (ClassId × FieldType) := (List.range 7).map (fun k => (G.2.1 k, atyG k))
theorem tysG_at (G : GG) {k : Nat} (hk : k < 7) : (tysG G)[k]? = some (G.2.1 k, atyG k) := by
  simp [tysG, hk]
def ftyG (ci k : Nat) : FieldType := match ci with
  | 0 => tyX0 k
  | 1 => tyX1 k
  | 2 => tyX2 k
  | 3 => tyX3 k
  | 4 => tyX4 k
  | 5 => tyX5 k
  | _ => tyX6 k
def TXG (ci : Nat) : u_T := match ci with
  | 0 => TX0
  | 1 => TX1
  | 2 => TX2
  | 3 => TX3
  | 4 => TX4
  | 5 => TX5
  | _ => TX6
def RXG (ci : Nat) : String := match ci with
  | 0 => RX0
  | 1 => RX1
  | 2 => RX2
  | 3 => RX3
  | 4 => RX4
  | 5 => RX5
  | _ => RX6
def nFG (ci : Nat) : Nat := match ci with
  | 0 => 16
  | 1 => 6
  | 2 => 5
  | 3 => 3
  | 4 => 7
  | 5 => 9
  | _ => 45
theorem vwCl_at {ci : Nat} (h : ci < 7) : vwCl[ci]? = some (RXG ci, TXG ci, nFG ci) := by
  rcases (show ci = 0 ∨ ci = 1 ∨ ci = 2 ∨ ci = 3 ∨ ci = 4 ∨ ci = 5 ∨ ci = 6 by omega) with rfl | rfl | rfl | rfl | rfl | rfl | rfl <;> rfl
def isRf (t : FieldType) : Bool := match t with
  | .object _ => true
  | .array _ => true
  | _ => false
def fvalG (h : PH) (ci q k : Nat) : Value := if isRf (ftyG ci k) = true then h.2.2.1 q k else .int (h.2.2.2.1 q k)
def cellG (G : GG) (h : PH) (q : Nat) (kn : Nat × Nat) (H : Heap) : Prop :=
  if kn.1 < 7 then t_OB q (G.1.1 kn.1) (nFG kn.1) (G.1.2 kn.1) H (fun j => fvalG h kn.1 q j)
  else if kn.1 = 10 then H[q]? = some (arrV (G.2.1 0) kn.2 (fun j => .int (h.2.2.2.1 q j)))
  else if kn.1 = 11 then H[q]? = some (arrV (G.2.1 1) kn.2 (fun j => .long (h.2.2.2.2 q j)))
  else kn.1 < 17 ∧ H[q]? = some (arrV (G.2.1 (kn.1 - 10)) kn.2 (fun j => h.2.2.1 q j))
def RelH (G : GG) (h : PH) (H : Heap) : Prop :=
  H.size = h.1 ∧ G.2.2.1.size ≤ H.size ∧ (∀ q : Nat, q < G.2.2.1.size → H[q]? = G.2.2.1[q]?) ∧
  ∀ (q : Nat) (kn : Nat × Nat), h.2.1 q = some kn → G.2.2.1.size ≤ q ∧ cellG G h q kn H
/-- the private constructors of nest mates -/
def nestW : List Cond := [Cond.methodLinkNest RX5 9 yX4_init "BeforeItDrips", Cond.methodLinkNest RX4 11 yX0_init "BeforeItDrips", Cond.methodLinkNest RX5 24 yX0_init "BeforeItDrips", Cond.methodLinkNest RX2 31 yX0_init "BeforeItDrips", Cond.methodLinkNest RX5 44 yX1_init "BeforeItDrips", Cond.methodLinkNest RX5 57 yX3_init "BeforeItDrips"]
def orderRows : List Int32 := [0, 1, 2, 0, 2, 1, 1, 0, 2, 1, 2, 0, 2, 0, 1, 2, 1, 0]
def strLen : List Nat := [5, 5, 3, 4, 4, 6, 4]
def strByt : List (List Int32) := [[115, 105, 100, 101, 115], [115, 99, 111, 111, 112], [115, 117, 110], [104, 111, 108, 100], [98, 114, 105, 109], [108, 105, 99, 107, 101, 114], [108, 105, 99, 107]]
def strOwn (i : Nat) : String := if i < 7 then RX1 else RX6
def strIdx (i : Nat) : Nat := ([38, 54, 59, 64, 69, 74, 79, 216, 224, 226, 230, 232, 234, 236] : List Nat).getD i 0
def strTxt (i : Nat) : String := (["sides", "scoop", "sun", "hold", "brim", "licker", "lick"] : List String).getD (i % 7) ""
/-- the old cells that the code reads: the table of orders, the words of kerbs -/
def KX (G : GG) (U : State) : Prop :=
  (va_Z "BeforeItDrips$Cone" "ORDER_ROWS" "[I" (.ref (G.2.2.2.1 20)) (fun q => G.2.2.1.size ≤ q) U G.2.2.1 ∧ va_T .int (G.2.2.2.1 20) 18 (fun j => .int (orderRows.getD j 0)) (fun q => G.2.2.1.size ≤ q) U G.2.2.1) ∧
  vk_S 7 strLen strByt G.2.2.2.1 G.2.2.2.2 (fun q => G.2.2.1.size ≤ q) U G.2.2.1 ∧ (∀ i : Nat, i < 14 → vk_R (strOwn i) (strIdx i) (strTxt i) (G.2.2.2.1 (i % 7)) U) ∧
  va_Z "java/lang/String" "COMPACT_STRINGS" "Z" (.int 1) (fun q => G.2.2.1.size ≤ q) U G.2.2.1
def aoW : List FieldType := [.object RX3, .object RX0, .object RX6, .array .int, .array .long]
def KK (G : GG) (U : State) : Prop := va_K G.1 vwCl (tysG G) U ∧ (∀ w ∈ nestW, va_Nw w U) ∧ KX G U ∧ ∀ C ∈ [RX3, RX0, RX6], va_AO C U
theorem KK.same {G : GG} {u U : State} (hv : u.vm = U.vm) (h : KK G u) : KK G U := by
  have ha : u.vm.Alike U.vm := by rw [hv]; exact Vm.Alike.refl _
  obtain ⟨h1, h2, ⟨⟨h3, h4⟩, h5, h6, h7⟩, h8⟩ := h
  refine ⟨h1.moved ha, fun w hw => va_Nw.same ?_ hv (h2 w hw), ⟨⟨h3.moved ha, h4.moved ha⟩, h5.moved ha, fun i hi => vk_R.same hv.symm (h6 i hi), h7.moved ha⟩, fun C hC => (h8 C hC).moved ha⟩
  have hall : nestW.all (fun w => w.onTables) = true := by decide +kernel
  exact List.all_eq_true.mp hall w hw
theorem KK.warm {G : GG} {s U : State} (hW : s.WarmedH U.vm) (h : KK G s) : KK G U := by
  have ha : s.vm.Alike U.vm := hW.alike
  obtain ⟨h1, h2, ⟨⟨h3, h4⟩, h5, h6, h7⟩, h8⟩ := h
  refine ⟨h1.moved ha, fun w hw => ?_, ⟨⟨h3.moved ha, h4.moved ha⟩, h5.moved ha, fun i hi => vk_R.warm hW (h6 i hi), h7.moved ha⟩, fun C hC => (h8 C hC).moved ha⟩
  have h9 := h2 w hw
  simp only [nestW, List.mem_cons, List.not_mem_nil, or_false] at hw
  rcases hw with rfl | rfl | rfl | rfl | rfl | rfl <;> exact va_Nw.warmM hW h9
def rmD (d mc ms : Nat) : Room := { frames := d, cells := mc, slots := ms, locals := 64 * d }
/-- the context of a method's run -/
def CX (G : GG) (M : MI) (p : Program) (s : State) (m : MethodId) (args : Array Value) (meth : Method) (c : Code) : Prop :=
  p.tables.exec = Jvm.exec ∧ c.code = mbM M ∧ c.maxLocals = mlM M ∧ s.vm.findClass (moM M) = some m.cls ∧ (∀ w ∈ wsM M, w.before args s = true) ∧ meth.sig.returnType = mrM M ∧ meth.locks = false ∧ KK G s ∧ meth.name = (myM M).name
def QcG (G : GG) (Q : Option Value → PH → Prop) : Array Value → State → Outcome → State → Prop := fun _ _ o t => ∃ (v : Option Value) (h : PH), o = .returned v ∧ Q v h ∧ RelH G h t.heap
def Ev (G : GG) (d : Nat) (M : MI) (mc ms : Nat) (Q : Option Value → PH → Prop) (kc ks pc : Nat) (lv : List (Nat × Value)) (st : List Value) (h : PH) : Prop :=
  ∀ (p : Program) (l : Launch) (e : Env) (s : State) (m : MethodId) (args : Array Value) (below : List Frame) (meth : Method) (c : Code) (H : Heap) (locs : List Loc) (ls : Array Slot),
    CX G M p s m args meth c → RelH G h H → (∀ x ∈ locs, G.2.2.1.size ≤ x.base) → lv_has ls (mlM M) lv →
    W p l e (rmD d mc ms) s m args below meth c H locs kc ks (MQ below (QcG G Q) args s mc ms (fun q => G.2.2.1.size ≤ q)) (F0 m pc ls st)
/-- a method's contract at given arguments and heap -/
def MtG (G : GG) (d : Nat) (M : MI) (mc ms : Nat) (av : List Value) (h : PH) (Q : Option Value → PH → Prop) : Prop :=
  ∀ l : Launch, Met l (myM M) (wsM M) (rmD d mc ms) (va_Pc av (fun U => KK G U ∧ RelH G h U.heap)) (QcG G Q) mc ms (fun q => G.2.2.1.size ≤ q)
def Mt (d : Nat) (M : MI) (mc ms : Nat) (av : GG → List Value) (h : PH) (Q : Option Value → PH → Prop) : Prop := ∀ G : GG, MtG G d M mc ms (av G) h Q
theorem MtG.of {G : GG} {d : Nat} {M : MI} {mc ms : Nat} {av : List Value} {h : PH} {Q : Option Value → PH → Prop} (hpl : plainName (myM M).cls = true) (ho : moM M = (myM M).cls) (hl : (lg_sl av).length ≤ mlM M)
    (body : Ev G d M mc ms Q 0 0 0 (lv_args 0 av) [] h) : MtG G d M mc ms av h Q := by
  intro l
  refine Met.ofW (cc := mbM M) (maxL := mlM M) (ret := mrM M) (ws' := TT) hpl rfl ?_
  intro p e s m args below meth c s₁ B hml hv
  obtain ⟨rfl, hK, hR⟩ := hv
  have hown : s.vm.findClass (moM M) = some m.cls := by rw [ho]; exact findClass_of_methodNamed B.named
  have hX : CX G M p s m av.toArray meth c := ⟨B.exec, B.bytes, hml, hown, atoms_spec (ws := wsM M) B.pre, B.returns, B.notSynchronized, hK, (name_of_methodNamed B.named B.method).1⟩
  have hle := lv_entry av (n := mlM M) hl
  rw [lg_entry_eq]
  exact body p l e s m _ below meth c s.heap [] _ hX hR (fun x hx => by cases hx) hle
section EV
variable {G : GG} {d : Nat} {M : MI} {mc ms : Nat} {Q : Option Value → PH → Prop} {kc ks pc : Nat} {lv : List (Nat × Value)} {rest : List Value} {h : PH}
theorem ev_iconst {n : Int} {v : Int32} (hdg : decode (mbM M) pc = .ok (.iconst n, 1)) (hv : Int32.ofInt n = v)     (k : Ev G d M mc ms Q kc ks (pc + 1) lv (.int v :: rest) h) : Ev G d M mc ms Q kc ks pc lv (rest) h := fun p l e s m args below meth c H locs ls X R L hl => lv_iconst X.1 X.2.1 hdg hv (k p l e s m args below meth c H locs ls X R L hl)
theorem ev_bipush {n : Int} {v : Int32} (hdg : decode (mbM M) pc = .ok (.bipush n, 2)) (hv : (Int8.ofInt n).toInt32 = v)     (k : Ev G d M mc ms Q kc ks (pc + 2) lv (.int v :: rest) h) : Ev G d M mc ms Q kc ks pc lv (rest) h := fun p l e s m args below meth c H locs ls X R L hl => lv_bipush X.1 X.2.1 hdg hv (k p l e s m args below meth c H locs ls X R L hl)
theorem ev_sipush {n : Int} {v : Int32} (hdg : decode (mbM M) pc = .ok (.sipush n, 3)) (hv : (Int16.ofInt n).toInt32 = v)     (k : Ev G d M mc ms Q kc ks (pc + 3) lv (.int v :: rest) h) : Ev G d M mc ms Q kc ks pc lv (rest) h := fun p l e s m args below meth c H locs ls X R L hl => lv_sipush X.1 X.2.1 hdg hv (k p l e s m args below meth c H locs ls X R L hl)
theorem ev_lconst {n : Fin 2} {v : Int64} (hdg : decode (mbM M) pc = .ok (.lconst n, 1)) (hv : Int64.ofNat (n : Nat) = v)     (k : Ev G d M mc ms Q kc ks (pc + 1) lv (.long v :: rest) h) : Ev G d M mc ms Q kc ks pc lv (rest) h := fun p l e s m args below meth c H locs ls X R L hl => lv_lconst X.1 X.2.1 hdg hv (k p l e s m args below meth c H locs ls X R L hl)
theorem ev_iadd {x y : Int32} (hdg : decode (mbM M) pc = .ok (.iadd, 1))      (k : Ev G d M mc ms Q kc ks (pc + 1) lv (.int (x + y) :: rest) h) : Ev G d M mc ms Q kc ks pc lv (.int y :: .int x :: rest) h := fun p l e s m args below meth c H locs ls X R L hl => lv_iadd X.1 X.2.1 hdg (k p l e s m args below meth c H locs ls X R L hl)
theorem ev_isub {x y : Int32} (hdg : decode (mbM M) pc = .ok (.isub, 1))      (k : Ev G d M mc ms Q kc ks (pc + 1) lv (.int (x - y) :: rest) h) : Ev G d M mc ms Q kc ks pc lv (.int y :: .int x :: rest) h := fun p l e s m args below meth c H locs ls X R L hl => lv_isub X.1 X.2.1 hdg (k p l e s m args below meth c H locs ls X R L hl)
theorem ev_imul {x y : Int32} (hdg : decode (mbM M) pc = .ok (.imul, 1))      (k : Ev G d M mc ms Q kc ks (pc + 1) lv (.int (x * y) :: rest) h) : Ev G d M mc ms Q kc ks pc lv (.int y :: .int x :: rest) h := fun p l e s m args below meth c H locs ls X R L hl => lv_imul X.1 X.2.1 hdg (k p l e s m args below meth c H locs ls X R L hl)
theorem ev_idiv {x y : Int32} (hdg : decode (mbM M) pc = .ok (.idiv, 1)) (hne : ¬ y = 0)     (k : Ev G d M mc ms Q kc ks (pc + 1) lv (.int (x / y) :: rest) h) : Ev G d M mc ms Q kc ks pc lv (.int y :: .int x :: rest) h := fun p l e s m args below meth c H locs ls X R L hl => lv_idiv X.1 X.2.1 hdg hne (k p l e s m args below meth c H locs ls X R L hl)
theorem ev_irem {x y : Int32} (hdg : decode (mbM M) pc = .ok (.irem, 1)) (hne : ¬ y = 0)     (k : Ev G d M mc ms Q kc ks (pc + 1) lv (.int (x - x / y * y) :: rest) h) : Ev G d M mc ms Q kc ks pc lv (.int y :: .int x :: rest) h := fun p l e s m args below meth c H locs ls X R L hl => lv_irem X.1 X.2.1 hdg hne (k p l e s m args below meth c H locs ls X R L hl)
theorem ev_ineg {x : Int32} (hdg : decode (mbM M) pc = .ok (.ineg, 1))      (k : Ev G d M mc ms Q kc ks (pc + 1) lv (.int (-x) :: rest) h) : Ev G d M mc ms Q kc ks pc lv (.int x :: rest) h := fun p l e s m args below meth c H locs ls X R L hl => lv_ineg X.1 X.2.1 hdg (k p l e s m args below meth c H locs ls X R L hl)
theorem ev_iand {x y : Int32} (hdg : decode (mbM M) pc = .ok (.iand, 1))      (k : Ev G d M mc ms Q kc ks (pc + 1) lv (.int (x &&& y) :: rest) h) : Ev G d M mc ms Q kc ks pc lv (.int y :: .int x :: rest) h := fun p l e s m args below meth c H locs ls X R L hl => lv_iand X.1 X.2.1 hdg (k p l e s m args below meth c H locs ls X R L hl)
theorem ev_ior {x y : Int32} (hdg : decode (mbM M) pc = .ok (.ior, 1))      (k : Ev G d M mc ms Q kc ks (pc + 1) lv (.int (x ||| y) :: rest) h) : Ev G d M mc ms Q kc ks pc lv (.int y :: .int x :: rest) h := fun p l e s m args below meth c H locs ls X R L hl => lv_ior X.1 X.2.1 hdg (k p l e s m args below meth c H locs ls X R L hl)
theorem ev_ixor {x y : Int32} (hdg : decode (mbM M) pc = .ok (.ixor, 1))      (k : Ev G d M mc ms Q kc ks (pc + 1) lv (.int (x ^^^ y) :: rest) h) : Ev G d M mc ms Q kc ks pc lv (.int y :: .int x :: rest) h := fun p l e s m args below meth c H locs ls X R L hl => lv_ixor X.1 X.2.1 hdg (k p l e s m args below meth c H locs ls X R L hl)
theorem ev_ishl {x y : Int32} (hdg : decode (mbM M) pc = .ok (.ishl, 1))      (k : Ev G d M mc ms Q kc ks (pc + 1) lv (.int (x <<< (y &&& 31)) :: rest) h) : Ev G d M mc ms Q kc ks pc lv (.int y :: .int x :: rest) h := fun p l e s m args below meth c H locs ls X R L hl => lv_ishl X.1 X.2.1 hdg (k p l e s m args below meth c H locs ls X R L hl)
theorem ev_ishr {x y : Int32} (hdg : decode (mbM M) pc = .ok (.ishr, 1))      (k : Ev G d M mc ms Q kc ks (pc + 1) lv (.int (x >>> (y &&& 31)) :: rest) h) : Ev G d M mc ms Q kc ks pc lv (.int y :: .int x :: rest) h := fun p l e s m args below meth c H locs ls X R L hl => lv_ishr X.1 X.2.1 hdg (k p l e s m args below meth c H locs ls X R L hl)
theorem ev_iushr {x y v : Int32} (hdg : decode (mbM M) pc = .ok (.iushr, 1)) (hv : (x.toUInt32 >>> (y.toUInt32 &&& Int32.toUInt32 31)).toInt32 = v)     (k : Ev G d M mc ms Q kc ks (pc + 1) lv (.int v :: rest) h) : Ev G d M mc ms Q kc ks pc lv (.int y :: .int x :: rest) h := fun p l e s m args below meth c H locs ls X R L hl => lv_iushr X.1 X.2.1 hdg hv (k p l e s m args below meth c H locs ls X R L hl)
theorem ev_ladd {x y : Int64} (hdg : decode (mbM M) pc = .ok (.ladd, 1))      (k : Ev G d M mc ms Q kc ks (pc + 1) lv (.long (x + y) :: rest) h) : Ev G d M mc ms Q kc ks pc lv (.long y :: .long x :: rest) h := fun p l e s m args below meth c H locs ls X R L hl => lv_ladd X.1 X.2.1 hdg (k p l e s m args below meth c H locs ls X R L hl)
theorem ev_lsub {x y : Int64} (hdg : decode (mbM M) pc = .ok (.lsub, 1))      (k : Ev G d M mc ms Q kc ks (pc + 1) lv (.long (x - y) :: rest) h) : Ev G d M mc ms Q kc ks pc lv (.long y :: .long x :: rest) h := fun p l e s m args below meth c H locs ls X R L hl => lv_lsub X.1 X.2.1 hdg (k p l e s m args below meth c H locs ls X R L hl)
theorem ev_lmul {x y : Int64} (hdg : decode (mbM M) pc = .ok (.lmul, 1))      (k : Ev G d M mc ms Q kc ks (pc + 1) lv (.long (x * y) :: rest) h) : Ev G d M mc ms Q kc ks pc lv (.long y :: .long x :: rest) h := fun p l e s m args below meth c H locs ls X R L hl => lv_lmul X.1 X.2.1 hdg (k p l e s m args below meth c H locs ls X R L hl)
theorem ev_land {x y : Int64} (hdg : decode (mbM M) pc = .ok (.land, 1))      (k : Ev G d M mc ms Q kc ks (pc + 1) lv (.long (x &&& y) :: rest) h) : Ev G d M mc ms Q kc ks pc lv (.long y :: .long x :: rest) h := fun p l e s m args below meth c H locs ls X R L hl => lv_land X.1 X.2.1 hdg (k p l e s m args below meth c H locs ls X R L hl)
theorem ev_lor {x y : Int64} (hdg : decode (mbM M) pc = .ok (.lor, 1))      (k : Ev G d M mc ms Q kc ks (pc + 1) lv (.long (x ||| y) :: rest) h) : Ev G d M mc ms Q kc ks pc lv (.long y :: .long x :: rest) h := fun p l e s m args below meth c H locs ls X R L hl => lv_lor X.1 X.2.1 hdg (k p l e s m args below meth c H locs ls X R L hl)
theorem ev_lshl {x v : Int64} {y : Int32} (hdg : decode (mbM M) pc = .ok (.lshl, 1)) (hv : x <<< (y.toInt64 &&& 63) = v)     (k : Ev G d M mc ms Q kc ks (pc + 1) lv (.long v :: rest) h) : Ev G d M mc ms Q kc ks pc lv (.int y :: .long x :: rest) h := fun p l e s m args below meth c H locs ls X R L hl => lv_lshl X.1 X.2.1 hdg hv (k p l e s m args below meth c H locs ls X R L hl)
theorem ev_i2l {x : Int32} {v : Int64} (hdg : decode (mbM M) pc = .ok (.i2l, 1)) (hv : x.toInt64 = v)     (k : Ev G d M mc ms Q kc ks (pc + 1) lv (.long v :: rest) h) : Ev G d M mc ms Q kc ks pc lv (.int x :: rest) h := fun p l e s m args below meth c H locs ls X R L hl => lv_i2l X.1 X.2.1 hdg hv (k p l e s m args below meth c H locs ls X R L hl)
theorem ev_l2i {x : Int64} {v : Int32} (hdg : decode (mbM M) pc = .ok (.l2i, 1)) (hv : x.toInt32 = v)     (k : Ev G d M mc ms Q kc ks (pc + 1) lv (.int v :: rest) h) : Ev G d M mc ms Q kc ks pc lv (.long x :: rest) h := fun p l e s m args below meth c H locs ls X R L hl => lv_l2i X.1 X.2.1 hdg hv (k p l e s m args below meth c H locs ls X R L hl)
theorem ev_i2b {x : Int32} {v : Int32} (hdg : decode (mbM M) pc = .ok (.i2b, 1)) (hv : x.toInt8.toInt32 = v)     (k : Ev G d M mc ms Q kc ks (pc + 1) lv (.int v :: rest) h) : Ev G d M mc ms Q kc ks pc lv (.int x :: rest) h := fun p l e s m args below meth c H locs ls X R L hl => lv_i2b X.1 X.2.1 hdg hv (k p l e s m args below meth c H locs ls X R L hl)
theorem ev_i2s {x : Int32} {v : Int32} (hdg : decode (mbM M) pc = .ok (.i2s, 1)) (hv : x.toInt16.toInt32 = v)     (k : Ev G d M mc ms Q kc ks (pc + 1) lv (.int v :: rest) h) : Ev G d M mc ms Q kc ks pc lv (.int x :: rest) h := fun p l e s m args below meth c H locs ls X R L hl => lv_i2s X.1 X.2.1 hdg hv (k p l e s m args below meth c H locs ls X R L hl)
theorem ev_dup {va : Value} (hdg : decode (mbM M) pc = .ok (.dup, 1)) (hva : va.category = 1)     (k : Ev G d M mc ms Q kc ks (pc + 1) lv (va :: va :: rest) h) : Ev G d M mc ms Q kc ks pc lv (va :: rest) h := fun p l e s m args below meth c H locs ls X R L hl => lv_dup X.1 X.2.1 hdg hva (k p l e s m args below meth c H locs ls X R L hl)
theorem ev_pop {va : Value} (hdg : decode (mbM M) pc = .ok (.pop, 1)) (hva : va.category = 1)     (k : Ev G d M mc ms Q kc ks (pc + 1) lv (rest) h) : Ev G d M mc ms Q kc ks pc lv (va :: rest) h := fun p l e s m args below meth c H locs ls X R L hl => lv_pop X.1 X.2.1 hdg hva (k p l e s m args below meth c H locs ls X R L hl)
theorem ev_dup_x1 {va vb : Value} (hdg : decode (mbM M) pc = .ok (.dup_x1, 1)) (hva : va.category = 1) (hvb : vb.category = 1)     (k : Ev G d M mc ms Q kc ks (pc + 1) lv (va :: vb :: va :: rest) h) : Ev G d M mc ms Q kc ks pc lv (va :: vb :: rest) h := fun p l e s m args below meth c H locs ls X R L hl => lv_dup_x1 X.1 X.2.1 hdg hva hvb (k p l e s m args below meth c H locs ls X R L hl)
theorem ev_dup_x2 {va vb vd : Value} (hdg : decode (mbM M) pc = .ok (.dup_x2, 1)) (hva : va.category = 1) (hvb : vb.category = 1) (hvd : vd.category = 1)     (k : Ev G d M mc ms Q kc ks (pc + 1) lv (va :: vb :: vd :: va :: rest) h) : Ev G d M mc ms Q kc ks pc lv (va :: vb :: vd :: rest) h := fun p l e s m args below meth c H locs ls X R L hl => lv_dup_x2 X.1 X.2.1 hdg hva hvb hvd (k p l e s m args below meth c H locs ls X R L hl)
theorem ev_dup2_11 {va vb : Value} (hdg : decode (mbM M) pc = .ok (.dup2, 1)) (hva : va.category = 1) (hvb : vb.category = 1)     (k : Ev G d M mc ms Q kc ks (pc + 1) lv (va :: vb :: va :: vb :: rest) h) : Ev G d M mc ms Q kc ks pc lv (va :: vb :: rest) h := fun p l e s m args below meth c H locs ls X R L hl => lv_dup2_11 X.1 X.2.1 hdg hva hvb (k p l e s m args below meth c H locs ls X R L hl)
theorem ev_if_eq {x : Int32} {off : Int} {tgt : Nat} (hdg : decode (mbM M) pc = .ok (.ifCond .eq off, 3)) (ht : (pc : Int) + off = (tgt : Int))     (kt : x = 0 → Ev G d M mc ms Q kc ks tgt lv rest h) (kf : ¬ x = 0 → Ev G d M mc ms Q kc ks (pc + 3) lv rest h) : Ev G d M mc ms Q kc ks pc lv (.int x :: rest) h := fun p l e s m args below meth c H locs ls X R L hl => lv_if_eq X.1 X.2.1 hdg ht (fun z => kt z p l e s m args below meth c H locs ls X R L hl) (fun z => kf z p l e s m args below meth c H locs ls X R L hl)
theorem ev_if_ne {x : Int32} {off : Int} {tgt : Nat} (hdg : decode (mbM M) pc = .ok (.ifCond .ne off, 3)) (ht : (pc : Int) + off = (tgt : Int))     (kt : ¬ x = 0 → Ev G d M mc ms Q kc ks tgt lv rest h) (kf : x = 0 → Ev G d M mc ms Q kc ks (pc + 3) lv rest h) : Ev G d M mc ms Q kc ks pc lv (.int x :: rest) h := fun p l e s m args below meth c H locs ls X R L hl => lv_if_ne X.1 X.2.1 hdg ht (fun z => kt z p l e s m args below meth c H locs ls X R L hl) (fun z => kf z p l e s m args below meth c H locs ls X R L hl)
theorem ev_if_lt {x : Int32} {off : Int} {tgt : Nat} (hdg : decode (mbM M) pc = .ok (.ifCond .lt off, 3)) (ht : (pc : Int) + off = (tgt : Int))     (kt : x < 0 → Ev G d M mc ms Q kc ks tgt lv rest h) (kf : ¬ x < 0 → Ev G d M mc ms Q kc ks (pc + 3) lv rest h) : Ev G d M mc ms Q kc ks pc lv (.int x :: rest) h := fun p l e s m args below meth c H locs ls X R L hl => lv_if_lt X.1 X.2.1 hdg ht (fun z => kt z p l e s m args below meth c H locs ls X R L hl) (fun z => kf z p l e s m args below meth c H locs ls X R L hl)
theorem ev_if_ge {x : Int32} {off : Int} {tgt : Nat} (hdg : decode (mbM M) pc = .ok (.ifCond .ge off, 3)) (ht : (pc : Int) + off = (tgt : Int))     (kt : 0 ≤ x → Ev G d M mc ms Q kc ks tgt lv rest h) (kf : ¬ 0 ≤ x → Ev G d M mc ms Q kc ks (pc + 3) lv rest h) : Ev G d M mc ms Q kc ks pc lv (.int x :: rest) h := fun p l e s m args below meth c H locs ls X R L hl => lv_if_ge X.1 X.2.1 hdg ht (fun z => kt z p l e s m args below meth c H locs ls X R L hl) (fun z => kf z p l e s m args below meth c H locs ls X R L hl)
theorem ev_if_gt {x : Int32} {off : Int} {tgt : Nat} (hdg : decode (mbM M) pc = .ok (.ifCond .gt off, 3)) (ht : (pc : Int) + off = (tgt : Int))     (kt : 0 < x → Ev G d M mc ms Q kc ks tgt lv rest h) (kf : ¬ 0 < x → Ev G d M mc ms Q kc ks (pc + 3) lv rest h) : Ev G d M mc ms Q kc ks pc lv (.int x :: rest) h := fun p l e s m args below meth c H locs ls X R L hl => lv_if_gt X.1 X.2.1 hdg ht (fun z => kt z p l e s m args below meth c H locs ls X R L hl) (fun z => kf z p l e s m args below meth c H locs ls X R L hl)
theorem ev_if_le {x : Int32} {off : Int} {tgt : Nat} (hdg : decode (mbM M) pc = .ok (.ifCond .le off, 3)) (ht : (pc : Int) + off = (tgt : Int))     (kt : x ≤ 0 → Ev G d M mc ms Q kc ks tgt lv rest h) (kf : ¬ x ≤ 0 → Ev G d M mc ms Q kc ks (pc + 3) lv rest h) : Ev G d M mc ms Q kc ks pc lv (.int x :: rest) h := fun p l e s m args below meth c H locs ls X R L hl => lv_if_le X.1 X.2.1 hdg ht (fun z => kt z p l e s m args below meth c H locs ls X R L hl) (fun z => kf z p l e s m args below meth c H locs ls X R L hl)
theorem ev_icmp_eq {x y : Int32} {off : Int} {tgt : Nat} (hdg : decode (mbM M) pc = .ok (.if_icmp .eq off, 3)) (ht : (pc : Int) + off = (tgt : Int))     (kt : x = y → Ev G d M mc ms Q kc ks tgt lv rest h) (kf : ¬ x = y → Ev G d M mc ms Q kc ks (pc + 3) lv rest h) : Ev G d M mc ms Q kc ks pc lv (.int y :: .int x :: rest) h := fun p l e s m args below meth c H locs ls X R L hl => lv_icmp_eq X.1 X.2.1 hdg ht (fun z => kt z p l e s m args below meth c H locs ls X R L hl) (fun z => kf z p l e s m args below meth c H locs ls X R L hl)
theorem ev_icmp_ne {x y : Int32} {off : Int} {tgt : Nat} (hdg : decode (mbM M) pc = .ok (.if_icmp .ne off, 3)) (ht : (pc : Int) + off = (tgt : Int))     (kt : ¬ x = y → Ev G d M mc ms Q kc ks tgt lv rest h) (kf : x = y → Ev G d M mc ms Q kc ks (pc + 3) lv rest h) : Ev G d M mc ms Q kc ks pc lv (.int y :: .int x :: rest) h := fun p l e s m args below meth c H locs ls X R L hl => lv_icmp_ne X.1 X.2.1 hdg ht (fun z => kt z p l e s m args below meth c H locs ls X R L hl) (fun z => kf z p l e s m args below meth c H locs ls X R L hl)
theorem ev_icmp_lt {x y : Int32} {off : Int} {tgt : Nat} (hdg : decode (mbM M) pc = .ok (.if_icmp .lt off, 3)) (ht : (pc : Int) + off = (tgt : Int))     (kt : x < y → Ev G d M mc ms Q kc ks tgt lv rest h) (kf : ¬ x < y → Ev G d M mc ms Q kc ks (pc + 3) lv rest h) : Ev G d M mc ms Q kc ks pc lv (.int y :: .int x :: rest) h := fun p l e s m args below meth c H locs ls X R L hl => lv_icmp_lt X.1 X.2.1 hdg ht (fun z => kt z p l e s m args below meth c H locs ls X R L hl) (fun z => kf z p l e s m args below meth c H locs ls X R L hl)
theorem ev_icmp_ge {x y : Int32} {off : Int} {tgt : Nat} (hdg : decode (mbM M) pc = .ok (.if_icmp .ge off, 3)) (ht : (pc : Int) + off = (tgt : Int))     (kt : y ≤ x → Ev G d M mc ms Q kc ks tgt lv rest h) (kf : ¬ y ≤ x → Ev G d M mc ms Q kc ks (pc + 3) lv rest h) : Ev G d M mc ms Q kc ks pc lv (.int y :: .int x :: rest) h := fun p l e s m args below meth c H locs ls X R L hl => lv_icmp_ge X.1 X.2.1 hdg ht (fun z => kt z p l e s m args below meth c H locs ls X R L hl) (fun z => kf z p l e s m args below meth c H locs ls X R L hl)
theorem ev_icmp_gt {x y : Int32} {off : Int} {tgt : Nat} (hdg : decode (mbM M) pc = .ok (.if_icmp .gt off, 3)) (ht : (pc : Int) + off = (tgt : Int))     (kt : y < x → Ev G d M mc ms Q kc ks tgt lv rest h) (kf : ¬ y < x → Ev G d M mc ms Q kc ks (pc + 3) lv rest h) : Ev G d M mc ms Q kc ks pc lv (.int y :: .int x :: rest) h := fun p l e s m args below meth c H locs ls X R L hl => lv_icmp_gt X.1 X.2.1 hdg ht (fun z => kt z p l e s m args below meth c H locs ls X R L hl) (fun z => kf z p l e s m args below meth c H locs ls X R L hl)
theorem ev_icmp_le {x y : Int32} {off : Int} {tgt : Nat} (hdg : decode (mbM M) pc = .ok (.if_icmp .le off, 3)) (ht : (pc : Int) + off = (tgt : Int))     (kt : x ≤ y → Ev G d M mc ms Q kc ks tgt lv rest h) (kf : ¬ x ≤ y → Ev G d M mc ms Q kc ks (pc + 3) lv rest h) : Ev G d M mc ms Q kc ks pc lv (.int y :: .int x :: rest) h := fun p l e s m args below meth c H locs ls X R L hl => lv_icmp_le X.1 X.2.1 hdg ht (fun z => kt z p l e s m args below meth c H locs ls X R L hl) (fun z => kf z p l e s m args below meth c H locs ls X R L hl)
theorem ev_goto {off : Int} {tgt : Nat} (hdg : decode (mbM M) pc = .ok (.goto off, 3)) (ht : (pc : Int) + off = (tgt : Int)) (k : Ev G d M mc ms Q kc ks tgt lv rest h) : Ev G d M mc ms Q kc ks pc lv rest h := fun p l e s m args below meth c H locs ls X R L hl => lv_goto X.1 X.2.1 hdg ht (k p l e s m args below meth c H locs ls X R L hl)
theorem ev_tableIn {dflt lo hi : Int} {offs : Array Int} {len : Nat} {x : Int32} {off : Int} {tgt : Nat} (hdg : decode (mbM M) pc = .ok (.tableswitch dflt lo hi offs, len)) (h1 : ¬ x.toInt < lo) (h2 : ¬ hi < x.toInt) (ho : offs[(x.toInt - lo).toNat]? = some off) (ht : (pc : Int) + off = (tgt : Int))     (k : Ev G d M mc ms Q kc ks tgt lv rest h) : Ev G d M mc ms Q kc ks pc lv (.int x :: rest) h := fun p l e s m args below meth c H locs ls X R L hl => lv_tableIn X.1 X.2.1 hdg h1 h2 ho ht (k p l e s m args below meth c H locs ls X R L hl)
theorem ev_tableOut {dflt lo hi : Int} {offs : Array Int} {len : Nat} {x : Int32} {tgt : Nat} (hdg : decode (mbM M) pc = .ok (.tableswitch dflt lo hi offs, len)) (hx : x.toInt < lo ∨ hi < x.toInt) (ht : (pc : Int) + dflt = (tgt : Int))     (k : Ev G d M mc ms Q kc ks tgt lv rest h) : Ev G d M mc ms Q kc ks pc lv (.int x :: rest) h := fun p l e s m args below meth c H locs ls X R L hl => lv_tableOut X.1 X.2.1 hdg hx ht (k p l e s m args below meth c H locs ls X R L hl)
theorem ev_ifnull {x : Nat} {off : Int} (hdg : decode (mbM M) pc = .ok (.ifnull off, 3)) (k : Ev G d M mc ms Q kc ks (pc + 3) lv rest h) : Ev G d M mc ms Q kc ks pc lv (.ref x :: rest) h := fun p l e s m args below meth c H locs ls X R L hl => lv_ifnull X.1 X.2.1 hdg (k p l e s m args below meth c H locs ls X R L hl)
theorem ev_ifnonnull {x : Nat} {off : Int} {tgt : Nat} (hdg : decode (mbM M) pc = .ok (.ifnonnull off, 3)) (ht : (pc : Int) + off = (tgt : Int)) (k : Ev G d M mc ms Q kc ks tgt lv rest h) : Ev G d M mc ms Q kc ks pc lv (.ref x :: rest) h := fun p l e s m args below meth c H locs ls X R L hl => lv_ifnonnull X.1 X.2.1 hdg ht (k p l e s m args below meth c H locs ls X R L hl)
theorem ev_ifnullN {off : Int} {tgt : Nat} (hdg : decode (mbM M) pc = .ok (.ifnull off, 3)) (ht : (pc : Int) + off = (tgt : Int)) (k : Ev G d M mc ms Q kc ks tgt lv rest h) : Ev G d M mc ms Q kc ks pc lv (.null :: rest) h := fun p l e s m args below meth c H locs ls X R L hl => lv_ifnullN X.1 X.2.1 hdg ht (k p l e s m args below meth c H locs ls X R L hl)
theorem ev_ifnonnullN {off : Int} (hdg : decode (mbM M) pc = .ok (.ifnonnull off, 3)) (k : Ev G d M mc ms Q kc ks (pc + 3) lv rest h) : Ev G d M mc ms Q kc ks pc lv (.null :: rest) h := fun p l e s m args below meth c H locs ls X R L hl => lv_ifnonnullN X.1 X.2.1 hdg (k p l e s m args below meth c H locs ls X R L hl)
theorem ev_null (hdg : decode (mbM M) pc = .ok (.aconst_null, 1)) (k : Ev G d M mc ms Q kc ks (pc + 1) lv (.null :: rest) h) : Ev G d M mc ms Q kc ks pc lv rest h := fun p l e s m args below meth c H locs ls X R L hl => lv_null X.1 X.2.1 hdg (k p l e s m args below meth c H locs ls X R L hl)
theorem ev_iload_n {k : Fin 4} {i : Nat} {x : Int32} (j : Nat) (hdg : decode (mbM M) pc = .ok (.iload_n k, 1)) (hi : (k : Nat) = i) (hj : lv[j]? = some (i, .int x)) (kk : Ev G d M mc ms Q kc ks (pc + 1) lv (.int x :: rest) h) : Ev G d M mc ms Q kc ks pc lv rest h := fun p l e s m args below meth c H locs ls X R L hl => lv_iload_n X.1 X.2.1 hdg hi (lv_at hl j hj) (kk p l e s m args below meth c H locs ls X R L hl)
theorem ev_iload {i : Nat} {x : Int32} (j : Nat) (hdg : decode (mbM M) pc = .ok (.iload i, 2)) (hj : lv[j]? = some (i, .int x)) (kk : Ev G d M mc ms Q kc ks (pc + 2) lv (.int x :: rest) h) : Ev G d M mc ms Q kc ks pc lv rest h := fun p l e s m args below meth c H locs ls X R L hl => lv_iload X.1 X.2.1 hdg (lv_at hl j hj) (kk p l e s m args below meth c H locs ls X R L hl)
theorem ev_lload_n {k : Fin 4} {i : Nat} {x : Int64} (j : Nat) (hdg : decode (mbM M) pc = .ok (.lload_n k, 1)) (hi : (k : Nat) = i) (hj : lv[j]? = some (i, .long x)) (kk : Ev G d M mc ms Q kc ks (pc + 1) lv (.long x :: rest) h) : Ev G d M mc ms Q kc ks pc lv rest h := fun p l e s m args below meth c H locs ls X R L hl => lv_lload_n X.1 X.2.1 hdg hi (lv_at hl j hj) (kk p l e s m args below meth c H locs ls X R L hl)
theorem ev_lload {i : Nat} {x : Int64} (j : Nat) (hdg : decode (mbM M) pc = .ok (.lload i, 2)) (hj : lv[j]? = some (i, .long x)) (kk : Ev G d M mc ms Q kc ks (pc + 2) lv (.long x :: rest) h) : Ev G d M mc ms Q kc ks pc lv rest h := fun p l e s m args below meth c H locs ls X R L hl => lv_lload X.1 X.2.1 hdg (lv_at hl j hj) (kk p l e s m args below meth c H locs ls X R L hl)
theorem ev_aload_n {k : Fin 4} {i x : Nat} (j : Nat) (hdg : decode (mbM M) pc = .ok (.aload_n k, 1)) (hi : (k : Nat) = i) (hj : lv[j]? = some (i, .ref x)) (kk : Ev G d M mc ms Q kc ks (pc + 1) lv (.ref x :: rest) h) : Ev G d M mc ms Q kc ks pc lv rest h := fun p l e s m args below meth c H locs ls X R L hl => lv_aload_n X.1 X.2.1 hdg hi (lv_at hl j hj) (kk p l e s m args below meth c H locs ls X R L hl)
theorem ev_aload {i x : Nat} (j : Nat) (hdg : decode (mbM M) pc = .ok (.aload i, 2)) (hj : lv[j]? = some (i, .ref x)) (kk : Ev G d M mc ms Q kc ks (pc + 2) lv (.ref x :: rest) h) : Ev G d M mc ms Q kc ks pc lv rest h := fun p l e s m args below meth c H locs ls X R L hl => lv_aload X.1 X.2.1 hdg (lv_at hl j hj) (kk p l e s m args below meth c H locs ls X R L hl)
theorem ev_istore_n {k : Fin 4} {i : Nat} {x : Int32} {lv' : List (Nat × Value)} (hdg : decode (mbM M) pc = .ok (.istore_n k, 1)) (hi : (k : Nat) = i) (hn : i < mlM M) (hl' : (i, Value.int x) :: lv.filter (fun q => !(q.1 == i) && !(q.1 + 1 == i && q.2.category == 2)) = lv') (kk : Ev G d M mc ms Q kc ks (pc + 1) lv' rest h) : Ev G d M mc ms Q kc ks pc lv (.int x :: rest) h := fun p l e s m args below meth c H locs ls X R L hl => lv_istore_n X.1 X.2.1 hdg hi hl hn hl' (fun ls' hl2 => kk p l e s m args below meth c H locs ls' X R L hl2)
theorem ev_istore {i : Nat} {x : Int32} {lv' : List (Nat × Value)} (hdg : decode (mbM M) pc = .ok (.istore i, 2)) (hn : i < mlM M) (hl' : (i, Value.int x) :: lv.filter (fun q => !(q.1 == i) && !(q.1 + 1 == i && q.2.category == 2)) = lv') (kk : Ev G d M mc ms Q kc ks (pc + 2) lv' rest h) : Ev G d M mc ms Q kc ks pc lv (.int x :: rest) h := fun p l e s m args below meth c H locs ls X R L hl => lv_istore X.1 X.2.1 hdg hl hn hl' (fun ls' hl2 => kk p l e s m args below meth c H locs ls' X R L hl2)
theorem ev_lstore_n {k : Fin 4} {i : Nat} {x : Int64} {lv' : List (Nat × Value)} (hdg : decode (mbM M) pc = .ok (.lstore_n k, 1)) (hi : (k : Nat) = i) (hn : i + 1 < mlM M) (hl' : (i, Value.long x) :: lv.filter (fun q => !(q.1 == i) && (!(q.1 == i + 1) && !(q.1 + 1 == i && q.2.category == 2))) = lv') (kk : Ev G d M mc ms Q kc ks (pc + 1) lv' rest h) : Ev G d M mc ms Q kc ks pc lv (.long x :: rest) h := fun p l e s m args below meth c H locs ls X R L hl => lv_lstore_n X.1 X.2.1 hdg hi hl hn hl' (fun ls' hl2 => kk p l e s m args below meth c H locs ls' X R L hl2)
theorem ev_lstore {i : Nat} {x : Int64} {lv' : List (Nat × Value)} (hdg : decode (mbM M) pc = .ok (.lstore i, 2)) (hn : i + 1 < mlM M) (hl' : (i, Value.long x) :: lv.filter (fun q => !(q.1 == i) && (!(q.1 == i + 1) && !(q.1 + 1 == i && q.2.category == 2))) = lv') (kk : Ev G d M mc ms Q kc ks (pc + 2) lv' rest h) : Ev G d M mc ms Q kc ks pc lv (.long x :: rest) h := fun p l e s m args below meth c H locs ls X R L hl => lv_lstore X.1 X.2.1 hdg hl hn hl' (fun ls' hl2 => kk p l e s m args below meth c H locs ls' X R L hl2)
theorem ev_astore_n {k : Fin 4} {i x : Nat} {lv' : List (Nat × Value)} (hdg : decode (mbM M) pc = .ok (.astore_n k, 1)) (hi : (k : Nat) = i) (hn : i < mlM M) (hl' : (i, Value.ref x) :: lv.filter (fun q => !(q.1 == i) && !(q.1 + 1 == i && q.2.category == 2)) = lv') (kk : Ev G d M mc ms Q kc ks (pc + 1) lv' rest h) : Ev G d M mc ms Q kc ks pc lv (.ref x :: rest) h := fun p l e s m args below meth c H locs ls X R L hl => lv_astore_n X.1 X.2.1 hdg hi hl hn hl' (fun ls' hl2 => kk p l e s m args below meth c H locs ls' X R L hl2)
theorem ev_astore {i x : Nat} {lv' : List (Nat × Value)} (hdg : decode (mbM M) pc = .ok (.astore i, 2)) (hn : i < mlM M) (hl' : (i, Value.ref x) :: lv.filter (fun q => !(q.1 == i) && !(q.1 + 1 == i && q.2.category == 2)) = lv') (kk : Ev G d M mc ms Q kc ks (pc + 2) lv' rest h) : Ev G d M mc ms Q kc ks pc lv (.ref x :: rest) h := fun p l e s m args below meth c H locs ls X R L hl => lv_astore X.1 X.2.1 hdg hl hn hl' (fun ls' hl2 => kk p l e s m args below meth c H locs ls' X R L hl2)
theorem ev_iinc {i : Nat} {n : Int} {x v : Int32} {lv' : List (Nat × Value)} (j : Nat) (hdg : decode (mbM M) pc = .ok (.iinc i n, 3)) (hj : lv[j]? = some (i, .int x)) (hv : x + Int32.ofInt n = v) (hn : i < mlM M) (hl' : (i, Value.int v) :: lv.filter (fun q => !(q.1 == i) && !(q.1 + 1 == i && q.2.category == 2)) = lv') (kk : Ev G d M mc ms Q kc ks (pc + 3) lv' rest h) : Ev G d M mc ms Q kc ks pc lv rest h := fun p l e s m args below meth c H locs ls X R L hl => lv_iinc (k := j) X.1 X.2.1 hdg hl hj hv hn hl' (fun ls' hl2 => kk p l e s m args below meth c H locs ls' X R L hl2)
/-- fewer locals, in any order -/
theorem ev_sub {lv' : List (Nat × Value)} (js : List Nat) (hj : lv_pick lv js = lv') (kk : Ev G d M mc ms Q kc ks pc lv' rest h) : Ev G d M mc ms Q kc ks pc lv rest h := fun p l e s m args below meth c H locs ls X R L hl => kk p l e s m args below meth c H locs ls X R L (lv_sub hl js hj)
theorem ev_lcmp {x y : Int64} (hdg : decode (mbM M) pc = .ok (.lcmp, 1)) (kk : Ev G d M mc ms Q kc ks (pc + 1) lv (.int (lg_cmp x y) :: rest) h) : Ev G d M mc ms Q kc ks pc lv (.long y :: .long x :: rest) h := fun p l e s m args below meth c H locs ls X R L hl => W.lcmp X.1 X.2.1 hdg (kk p l e s m args below meth c H locs ls X R L hl)
theorem ev_ldc {index : Nat} {v : Int32} (hc : Cond.constant (moM M) index v ∈ TT) (hdg : decode (mbM M) pc = .ok (.ldc index, 2)) (kk : Ev G d M mc ms Q kc ks (pc + 2) lv (.int v :: rest) h) : Ev G d M mc ms Q kc ks pc lv rest h := fun p l e s m args below meth c H locs ls X R L hl => lv_ldc X.1 X.2.1 X.2.2.2.1 (X.2.2.2.2.1 _ (List.mem_cons_of_mem _ hc)) hdg (kk p l e s m args below meth c H locs ls X R L hl)
theorem ev_ldc2 {index : Nat} {v : Int64} (hc : Cond.constantLong (moM M) index v ∈ TT) (hdg : decode (mbM M) pc = .ok (.ldc2_w index, 3)) (kk : Ev G d M mc ms Q kc ks (pc + 3) lv (.long v :: rest) h) : Ev G d M mc ms Q kc ks pc lv rest h := fun p l e s m args below meth c H locs ls X R L hl => lv_ldc2 X.1 X.2.1 X.2.2.2.1 (X.2.2.2.2.1 _ (List.mem_cons_of_mem _ hc)) hdg (kk p l e s m args below meth c H locs ls X R L hl)
theorem ev_ldcw {index : Nat} {v : Int32} (hc : Cond.constant (moM M) index v ∈ TT) (hdg : decode (mbM M) pc = .ok (.ldc_w index, 3)) (kk : Ev G d M mc ms Q kc ks (pc + 3) lv (.int v :: rest) h) : Ev G d M mc ms Q kc ks pc lv rest h := fun p l e s m args below meth c H locs ls X R L hl => lv_ldcw X.1 X.2.1 X.2.2.2.1 (X.2.2.2.2.1 _ (List.mem_cons_of_mem _ hc)) hdg (kk p l e s m args below meth c H locs ls X R L hl)
theorem ev_ldcS {index i : Nat} (hi : i < 14) (ho : strOwn i = moM M) (hx : strIdx i = index) (hdg : decode (mbM M) pc = .ok (.ldc index, 2)) (kk : Ev G d M mc ms Q kc ks (pc + 2) lv (.ref (G.2.2.2.1 (i % 7)) :: rest) h) : Ev G d M mc ms Q kc ks pc lv rest h := fun p l e s m args below meth c H locs ls X R L hl => va_ldcS X.1 X.2.1 X.2.2.2.1 (by
  have z := X.2.2.2.2.2.2.2.1.2.2.1.2.2.1 i hi
  rw [ho, hx] at z
  exact z) hdg (kk p l e s m args below meth c H locs ls X R L hl)
/-- a field's link, at the code of M -/
def FL (M : MI) (idx ci j : Nat) : Prop := Cond.fieldLink (moM M) idx (TXG ci j).1 (TXG ci j).2.1 (TXG ci j).2.2.1 ∈ TT ∧ ci < 7 ∧ j < nFG ci
theorem RelH.obj {H : Heap} (R : RelH G h H) {q ci n : Nat} (hs : h.2.1 q = some (ci, n)) (hc : ci < 7) : G.2.2.1.size ≤ q ∧ t_OB q (G.1.1 ci) (nFG ci) (G.1.2 ci) H (fun j => fvalG h ci q j) := by
  obtain ⟨a, b⟩ := R.2.2.2 q _ hs
  unfold cellG at b
  rw [if_pos hc] at b
  exact ⟨a, b⟩
theorem RelH.ints {H : Heap} (R : RelH G h H) {q n : Nat} (hs : h.2.1 q = some (10, n)) : G.2.2.1.size ≤ q ∧ H[q]? = some (arrV (G.2.1 0) n (fun j => .int (h.2.2.2.1 q j))) := by
  obtain ⟨a, b⟩ := R.2.2.2 q _ hs
  unfold cellG at b
  rw [if_neg (show ¬ (10 : Nat) < 7 by decide), if_pos rfl] at b
  exact ⟨a, b⟩
theorem RelH.lngs {H : Heap} (R : RelH G h H) {q n : Nat} (hs : h.2.1 q = some (11, n)) : G.2.2.1.size ≤ q ∧ H[q]? = some (arrV (G.2.1 1) n (fun j => .long (h.2.2.2.2 q j))) := by
  obtain ⟨a, b⟩ := R.2.2.2 q _ hs
  unfold cellG at b
  rw [if_neg (show ¬ (11 : Nat) < 7 by decide), if_neg (show ¬ (11 : Nat) = 10 by decide), if_pos rfl] at b
  exact ⟨a, b⟩
theorem RelH.refs {H : Heap} (R : RelH G h H) {q k n : Nat} (hs : h.2.1 q = some (k, n)) (h1 : 12 ≤ k) : G.2.2.1.size ≤ q ∧ k < 17 ∧ H[q]? = some (arrV (G.2.1 (k - 10)) n (fun j => h.2.2.1 q j)) := by
  obtain ⟨a, b⟩ := R.2.2.2 q _ hs
  unfold cellG at b
  rw [if_neg (by show ¬ k < 7; omega), if_neg (by show ¬ k = 10; omega), if_neg (by show ¬ k = 11; omega)] at b
  exact ⟨a, b⟩
theorem u_wsG {ci : Nat} (hc : ci < 7) : ∀ w ∈ u_ws (RXG ci) (TXG ci) (nFG ci), w ∈ TT := by
  have h0 : (List.range 7).all (fun c => (u_ws (RXG c) (TXG c) (nFG c)).all (fun w => lw_tbl.contains w && goodWord w)) = true := by decide +kernel
  intro w hw
  have h1 := List.all_eq_true.mp (List.all_eq_true.mp h0 ci (List.mem_range.mpr hc)) w hw
  simp only [Bool.and_eq_true, List.contains_iff_mem] at h1
  exact TT_in h1.1 h1.2
theorem ftyG_ok {ci k : Nat} (hc : ci < 7) (hk : k < nFG ci) : parseFieldDescriptor (TXG ci k).2.2.1 = some (ftyG ci k) := by
  rcases (show ci = 0 ∨ ci = 1 ∨ ci = 2 ∨ ci = 3 ∨ ci = 4 ∨ ci = 5 ∨ ci = 6 by omega) with rfl | rfl | rfl | rfl | rfl | rfl | rfl
  · exact tyX0_ok k hk
  · exact tyX1_ok k hk
  · exact tyX2_ok k hk
  · exact tyX3_ok k hk
  · exact tyX4_ok k hk
  · exact tyX5_ok k hk
  · exact tyX6_ok k hk
theorem nmG_ok {ci : Nat} (hc : ci < 7) : ∀ a, a < nFG ci → ∀ b, b < nFG ci → a ≠ b → (TXG ci a).2.1 ≠ (TXG ci b).2.1 := by
  rcases (show ci = 0 ∨ ci = 1 ∨ ci = 2 ∨ ci = 3 ∨ ci = 4 ∨ ci = 5 ∨ ci = 6 by omega) with rfl | rfl | rfl | rfl | rfl | rfl | rfl
  · exact nmX0
  · exact nmX1
  · exact nmX2
  · exact nmX3
  · exact nmX4
  · exact nmX5
  · exact nmX6
theorem ev_getf {idx ci j n a : Nat} {v : Value} (hs : h.2.1 a = some (ci, n)) (hF : FL M idx ci j) (hv : fvalG h ci a j = v) (hdg : decode (mbM M) pc = .ok (.getfield idx, 3)) (kk : Ev G d M mc ms Q kc ks (pc + 3) lv (v :: rest) h) : Ev G d M mc ms Q kc ks pc lv (.ref a :: rest) h := by
  intro p l e s m args below meth c H locs ls X R L hl
  obtain ⟨hlk, hc, hj⟩ := hF
  have hts : ∀ w ∈ TT, w.before args s = true := fun w hw => X.2.2.2.2.1 w (List.mem_cons_of_mem _ hw)
  obtain ⟨-, cell, q1, q2, q3, q4⟩ := R.obj hs hc
  obtain ⟨hS, hfc, kC, hkC, hkind⟩ := X.2.2.2.2.2.2.2.1.1.1 ci _ (vwCl_at hc)
  obtain ⟨cf, kf, fi, f, hi, hsl⟩ := hS j hj
  refine W.getf X.1 X.2.1 X.2.2.2.1 (hts _ hlk) hi (u_facts hfc hkC (u_lays hts (u_wsG hc) hj) hi).1 q1 (by rw [q3]; exact fun z => by cases z) (v := v) ?_ rfl rfl hdg (kk p l e s m args below meth c H locs ls X R L hl)
  rw [hsl]
  exact (q4 j hj).trans (congrArg some hv)
/-- one more int at a place -/
def upd2 {α : Type} (S : Nat → Nat → α) (a i : Nat) (v : α) : Nat → Nat → α := fun q => if q = a then (fun j => if j = i then v else S q j) else S q
theorem upd2_same {α : Type} {S : Nat → Nat → α} {a i j : Nat} {v : α} : upd2 S a i v a j = if j = i then v else S a j := by simp [upd2]
theorem upd2_ne {α : Type} {S : Nat → Nat → α} {a i q : Nat} {v : α} (z : q ≠ a) : upd2 S a i v q = S q := by simp [upd2, z]
theorem RelH.write {H H1 : Heap} (R : RelH G h H) {a : Nat} {kn : Nat × Nat} {P : Nat → Nat → Value} {S : Nat → Nat → Int32} {LL : Nat → Nat → Int64} (hs : h.2.1 a = some kn) (hz : H1.size = H.size) (oq : ∀ q : Nat, q ≠ a → H1[q]? = H[q]?)
    (hP : ∀ q : Nat, q ≠ a → P q = h.2.2.1 q) (hS : ∀ q : Nat, q ≠ a → S q = h.2.2.2.1 q) (hL : ∀ q : Nat, q ≠ a → LL q = h.2.2.2.2 q) (hc : cellG G (h.1, h.2.1, P, S, LL) a kn H1) : RelH G (h.1, h.2.1, P, S, LL) H1 := by
  have ha := (R.2.2.2 a kn hs).1
  refine ⟨hz.trans R.1, by rw [hz]; exact R.2.1, fun q hq => ?_, fun q kq hq => ?_⟩
  · rw [oq q (by omega)]
    exact R.2.2.1 q hq
  · by_cases z : q = a
    · subst z
      have e : kq = kn := Option.some.inj (hq.symm.trans hs)
      subst e
      exact ⟨ha, hc⟩
    · obtain ⟨g1, g2⟩ := R.2.2.2 q kq hq
      refine ⟨g1, ?_⟩
      unfold cellG at g2 ⊢
      split at g2
      · rename_i y
        rw [if_pos y]
        refine (g2.kept (oq q z)).to (fun k _ => ?_)
        simp only [fvalG, hP q z, hS q z]
      · rename_i y
        rw [if_neg y]
        split at g2
        · rename_i y
          rw [if_pos y, oq q z, g2]
          simp only [hS q z]
        · rename_i y
          rw [if_neg y]
          split at g2
          · rename_i y
            rw [if_pos y, oq q z, g2]
            simp only [hL q z]
          · rename_i y
            rw [if_neg y]
            refine ⟨g2.1, ?_⟩
            rw [oq q z, g2.2]
            simp only [hP q z]
theorem locs_app {G : GG} {locs : List Loc} {a k : Nat} (L : ∀ x ∈ locs, G.2.2.1.size ≤ x.base) (ha : G.2.2.1.size ≤ a) : ∀ x ∈ locs ++ [(⟨a, k⟩ : Loc)], G.2.2.1.size ≤ x.base := by
  intro x hx
  rcases List.mem_append.mp hx with q | q
  · exact L x q
  · rw [List.mem_singleton.mp q]
    exact ha
theorem ev_putI {idx ci j n a : Nat} {x : Int32} (hs : h.2.1 a = some (ci, n)) (hF : FL M idx ci j) (hfin : (TXG ci j).2.2.2 = false) (hrf : isRf (ftyG ci j) = false) (hn : narrow (ftyG ci j) (.int x) = .int x) (hfit : fits (ftyG ci j) (.int x) = true) (hdg : decode (mbM M) pc = .ok (.putfield idx, 3))
    (kk : Ev G d M mc ms Q kc ks (pc + 3) lv rest (h.1, h.2.1, h.2.2.1, upd2 h.2.2.2.1 a j x, h.2.2.2.2)) : Ev G d M mc ms Q kc ks pc lv (.int x :: .ref a :: rest) h := by
  intro p l e s m args below meth c H locs ls X R L hl
  obtain ⟨hlk, hc, hj⟩ := hF
  have hts : ∀ w ∈ TT, w.before args s = true := fun w hw => X.2.2.2.2.1 w (List.mem_cons_of_mem _ hw)
  obtain ⟨hga, cell, q1, q2, q3, q4⟩ := R.obj hs hc
  have hK := X.2.2.2.2.2.2.2.1.1
  have hap := va_apart (own := moM M) hts (u_wsG hc) (ftyG ci) (fun k hk => ftyG_ok hc hk) (nmG_ok hc) hK (vwCl_at hc)
  obtain ⟨hS, hfc, kC, hkC, hkind⟩ := hK.1 ci _ (vwCl_at hc)
  obtain ⟨cf, kf, fi, f, hi, hsl⟩ := hS j hj
  have hlay := hts _ (u_wsG hc _ (u_in_lay hj))
  unfold u_lay at hlay
  rw [if_neg (by rw [hfin]; decide)] at hlay
  have hst := (u_facts hfc hkC (u_lays hts (u_wsG hc) hj) hi).1
  have h6 := u_store hfc hkC hkind hlay hi (ftyG_ok hc hj) hn hfit
  refine W.putK X.1 X.2.1 (f := f) ⟨X.2.2.2.1, hts _ hlk, ⟨_, _, _, hi⟩, hst⟩ (by rw [q2]; exact h6) q1 q3 (by rw [hsl]; exact k2_hasslot (q4 j hj)) rfl rfl hdg fun H' e1 e2 e3 => ?_
  rw [hsl] at e1 ⊢
  refine kk p l e s m args below meth c H' _ ls X (R.write hs e2 e3 (fun q _ => rfl) (fun q z => upd2_ne z) (fun q _ => rfl) ?_) (locs_app L hga) hl
  unfold cellG
  rw [if_pos hc]
  refine t_OB.to (V := updV (fun k => fvalG h ci a k) j (.int x)) ⟨_, e1, q2, q3, t_set q4 hap hj (.int x)⟩ (fun k hk => ?_)
  unfold updV fvalG
  by_cases z : k = j
  · subst z
    simp [hrf, upd2_same]
  · simp [z, upd2_same]
theorem ev_putR {idx ci j n a : Nat} {v : Value} (hs : h.2.1 a = some (ci, n)) (hF : FL M idx ci j) (hfin : (TXG ci j).2.2.2 = false) (hrf : isRf (ftyG ci j) = true) (hn : narrow (ftyG ci j) v = v) (hfit : fits (ftyG ci j) v = true) (hdg : decode (mbM M) pc = .ok (.putfield idx, 3))
    (kk : Ev G d M mc ms Q kc ks (pc + 3) lv rest (h.1, h.2.1, upd2 h.2.2.1 a j v, h.2.2.2.1, h.2.2.2.2)) : Ev G d M mc ms Q kc ks pc lv (v :: .ref a :: rest) h := by
  intro p l e s m args below meth c H locs ls X R L hl
  obtain ⟨hlk, hc, hj⟩ := hF
  have hts : ∀ w ∈ TT, w.before args s = true := fun w hw => X.2.2.2.2.1 w (List.mem_cons_of_mem _ hw)
  obtain ⟨hga, cell, q1, q2, q3, q4⟩ := R.obj hs hc
  have hK := X.2.2.2.2.2.2.2.1.1
  have hap := va_apart (own := moM M) hts (u_wsG hc) (ftyG ci) (fun k hk => ftyG_ok hc hk) (nmG_ok hc) hK (vwCl_at hc)
  obtain ⟨hS, hfc, kC, hkC, hkind⟩ := hK.1 ci _ (vwCl_at hc)
  obtain ⟨cf, kf, fi, f, hi, hsl⟩ := hS j hj
  have hlay := hts _ (u_wsG hc _ (u_in_lay hj))
  unfold u_lay at hlay
  rw [if_neg (by rw [hfin]; decide)] at hlay
  have hst := (u_facts hfc hkC (u_lays hts (u_wsG hc) hj) hi).1
  have h6 := u_store hfc hkC hkind hlay hi (ftyG_ok hc hj) hn hfit
  refine W.putK X.1 X.2.1 (f := f) ⟨X.2.2.2.1, hts _ hlk, ⟨_, _, _, hi⟩, hst⟩ (by rw [q2]; exact h6) q1 q3 (by rw [hsl]; exact k2_hasslot (q4 j hj)) rfl rfl hdg fun H' e1 e2 e3 => ?_
  rw [hsl] at e1 ⊢
  refine kk p l e s m args below meth c H' _ ls X (R.write hs e2 e3 (fun q z => upd2_ne z) (fun q _ => rfl) (fun q _ => rfl) ?_) (locs_app L hga) hl
  unfold cellG
  rw [if_pos hc]
  refine t_OB.to (V := updV (fun k => fvalG h ci a k) j v) ⟨_, e1, q2, q3, t_set q4 hap hj v⟩ (fun k hk => ?_)
  unfold updV fvalG
  by_cases z : k = j
  · subst z
    simp [hrf, upd2_same]
  · simp [z, upd2_same]
/-- a final field, in its class's constructor -/
theorem ev_putF {idx ci j n a : Nat} {v : Value} (hs : h.2.1 a = some (ci, n)) (hF : FL M idx ci j) (hfin : (TXG ci j).2.2.2 = true) (hin : (myM M).name = "<init>") (hdecl : (TXG ci j).1 = moM M) (hrf : isRf (ftyG ci j) = true) (hn : narrow (ftyG ci j) v = v) (hfit : fits (ftyG ci j) v = true) (hdg : decode (mbM M) pc = .ok (.putfield idx, 3))
    (kk : Ev G d M mc ms Q kc ks (pc + 3) lv rest (h.1, h.2.1, upd2 h.2.2.1 a j v, h.2.2.2.1, h.2.2.2.2)) : Ev G d M mc ms Q kc ks pc lv (v :: .ref a :: rest) h := by
  intro p l e s m args below meth c H locs ls X R L hl
  obtain ⟨hlk, hc, hj⟩ := hF
  have hts : ∀ w ∈ TT, w.before args s = true := fun w hw => X.2.2.2.2.1 w (List.mem_cons_of_mem _ hw)
  obtain ⟨hga, cell, q1, q2, q3, q4⟩ := R.obj hs hc
  have hK := X.2.2.2.2.2.2.2.1.1
  have hap := va_apart (own := moM M) hts (u_wsG hc) (ftyG ci) (fun k hk => ftyG_ok hc hk) (nmG_ok hc) hK (vwCl_at hc)
  obtain ⟨hS, hfc, kC, hkC, hkind⟩ := hK.1 ci _ (vwCl_at hc)
  obtain ⟨cf, kf, fi, f, hi, hsl⟩ := hS j hj
  have hlay := hts _ (u_wsG hc _ (u_in_lay hj))
  unfold u_lay at hlay
  rw [if_pos hfin] at hlay
  have hst := (u_facts hfc hkC (u_lays hts (u_wsG hc) hj) hi).1
  have hcf : m.cls = cf := by
    obtain ⟨_, _, c', _, _, _, -, -, hf', -, -, -, hown2, -⟩ := Cond.laysFinal_spec hlay
    have e1 : c' = cf := by have := hi.symm.trans hf'; simp at this; exact this.1.symm
    rw [hdecl] at hown2
    rw [← e1]; exact Option.some.inj (X.2.2.2.1.symm.trans hown2)
  have h6 := u_fits hfc hkC hkind (Or.inr hlay) hi (ftyG_ok hc hj) hn hfit
  refine W.putFinK X.1 X.2.1 X.2.2.2.1 (hts _ hlk) hi hst hcf (X.2.2.2.2.2.2.2.2.trans hin) (by rw [q2]; exact h6) q1 q3 (by rw [hsl]; exact k2_hasslot (q4 j hj)) rfl rfl hdg fun H' e1 e2 e3 => ?_
  rw [hsl] at e1 ⊢
  refine kk p l e s m args below meth c H' _ ls X (R.write hs e2 e3 (fun q z => upd2_ne z) (fun q _ => rfl) (fun q _ => rfl) ?_) (locs_app L hga) hl
  unfold cellG
  rw [if_pos hc]
  refine t_OB.to (V := updV (fun k => fvalG h ci a k) j v) ⟨_, e1, q2, q3, t_set q4 hap hj v⟩ (fun k hk => ?_)
  unfold updV fvalG
  by_cases z : k = j
  · subst z
    simp [hrf, upd2_same]
  · simp [z, upd2_same]
theorem ev_iaload {a n : Nat} {i : Int32} (hs : h.2.1 a = some (10, n)) (hin : vp_in i n) (hdg : decode (mbM M) pc = .ok (.iaload, 1)) (kk : Ev G d M mc ms Q kc ks (pc + 1) lv (.int (h.2.2.2.1 a i.toNatClampNeg) :: rest) h) : Ev G d M mc ms Q kc ks pc lv (.int i :: .ref a :: rest) h := by
  intro p l e s m args below meth c H locs ls X R L hl
  obtain ⟨-, hcell⟩ := R.ints hs
  have hlt : i.toNatClampNeg < n := Nat.not_le.mp fun q => hin (Or.inr q)
  exact W.iald (v := .int (h.2.2.2.1 a i.toNatClampNeg)) X.1 X.2.1 hcell ((X.2.2.2.2.2.2.2.1.1.2 0 _ (tysG_at G (by decide))).1 n (fun j => .int (h.2.2.2.1 a j))) (fun q => by cases q) (by rw [arrV_size]; exact hin) (by rw [arrV_read _ _ hlt]) rfl rfl hdg (kk p l e s m args below meth c H locs ls X R L hl)
theorem ev_laload {a n : Nat} {i : Int32} (hs : h.2.1 a = some (11, n)) (hin : vp_in i n) (hdg : decode (mbM M) pc = .ok (.laload, 1)) (kk : Ev G d M mc ms Q kc ks (pc + 1) lv (.long (h.2.2.2.2 a i.toNatClampNeg) :: rest) h) : Ev G d M mc ms Q kc ks pc lv (.int i :: .ref a :: rest) h := by
  intro p l e s m args below meth c H locs ls X R L hl
  obtain ⟨-, hcell⟩ := R.lngs hs
  have hlt : i.toNatClampNeg < n := Nat.not_le.mp fun q => hin (Or.inr q)
  exact W.lald (v := .long (h.2.2.2.2 a i.toNatClampNeg)) X.1 X.2.1 hcell ((X.2.2.2.2.2.2.2.1.1.2 1 _ (tysG_at G (by decide))).1 n (fun j => .long (h.2.2.2.2 a j))) (fun q => by cases q) (by rw [arrV_size]; exact hin) (by rw [arrV_read _ _ hlt]) rfl rfl hdg (kk p l e s m args below meth c H locs ls X R L hl)
theorem atyG_ref {k : Nat} (h2 : 2 ≤ k) : (atyG k).isReference = true := by
  unfold atyG
  split <;> first | omega | rfl
theorem ev_aaload {a n t : Nat} {i : Int32} {v : Value} (hs : h.2.1 a = some (t, n)) (ht : 12 ≤ t) (hin : vp_in i n) (hv : h.2.2.1 a i.toNatClampNeg = v) (hdg : decode (mbM M) pc = .ok (.aaload, 1)) (kk : Ev G d M mc ms Q kc ks (pc + 1) lv (v :: rest) h) : Ev G d M mc ms Q kc ks pc lv (.int i :: .ref a :: rest) h := by
  intro p l e s m args below meth c H locs ls X R L hl
  obtain ⟨-, ht2, hcell⟩ := R.refs hs ht
  have hlt : i.toNatClampNeg < n := Nat.not_le.mp fun q => hin (Or.inr q)
  exact W.aald (v := v) (ty := atyG (t - 10)) X.1 X.2.1 hcell ((X.2.2.2.2.2.2.2.1.1.2 (t - 10) _ (tysG_at G (by omega))).1 n (fun j => h.2.2.1 a j)) (atyG_ref (by omega)) (fun q => by cases q) (by rw [arrV_size]; exact hin) (by rw [arrV_read _ _ hlt, hv]) rfl rfl hdg (kk p l e s m args below meth c H locs ls X R L hl)
theorem ev_iastore {a n : Nat} {i x : Int32} (hs : h.2.1 a = some (10, n)) (hin : vp_in i n) (hdg : decode (mbM M) pc = .ok (.iastore, 1)) (kk : Ev G d M mc ms Q kc ks (pc + 1) lv rest (h.1, h.2.1, h.2.2.1, upd2 h.2.2.2.1 a i.toNatClampNeg x, h.2.2.2.2)) : Ev G d M mc ms Q kc ks pc lv (.int x :: .int i :: .ref a :: rest) h := by
  intro p l e s m args below meth c H locs ls X R L hl
  obtain ⟨hga, hcell⟩ := R.ints hs
  refine W.iast X.1 X.2.1 hcell ((X.2.2.2.2.2.2.2.1.1.2 0 _ (tysG_at G (by decide))).1 n (fun j => .int (h.2.2.2.1 a j))) (fun q => by cases q) (by rw [arrV_size]; exact hin) rfl rfl hdg fun H1 e1 z oq => ?_
  refine kk p l e s m args below meth c H1 _ ls X (R.write hs z oq (fun q _ => rfl) (fun q z => upd2_ne z) (fun q _ => rfl) ?_) (locs_app L hga) hl
  unfold cellG
  rw [if_neg (show ¬ (10 : Nat) < 7 by decide), if_pos rfl, e1, arrV_store]
  congr 2
  funext q
  by_cases hq : q = i.toNatClampNeg <;> simp [updV, upd2_same, hq]
theorem ev_lastore {a n : Nat} {i : Int32} {x : Int64} (hs : h.2.1 a = some (11, n)) (hin : vp_in i n) (hdg : decode (mbM M) pc = .ok (.lastore, 1)) (kk : Ev G d M mc ms Q kc ks (pc + 1) lv rest (h.1, h.2.1, h.2.2.1, h.2.2.2.1, upd2 h.2.2.2.2 a i.toNatClampNeg x)) : Ev G d M mc ms Q kc ks pc lv (.long x :: .int i :: .ref a :: rest) h := by
  intro p l e s m args below meth c H locs ls X R L hl
  obtain ⟨hga, hcell⟩ := R.lngs hs
  refine W.last X.1 X.2.1 hcell ((X.2.2.2.2.2.2.2.1.1.2 1 _ (tysG_at G (by decide))).1 n (fun j => .long (h.2.2.2.2 a j))) (fun q => by cases q) (by rw [arrV_size]; exact hin) rfl rfl hdg fun H1 e1 z oq => ?_
  refine kk p l e s m args below meth c H1 _ ls X (R.write hs z oq (fun q _ => rfl) (fun q _ => rfl) (fun q z => upd2_ne z) ?_) (locs_app L hga) hl
  unfold cellG
  rw [if_neg (show ¬ (11 : Nat) < 7 by decide), if_neg (show ¬ (11 : Nat) = 10 by decide), if_pos rfl, e1, arrV_store]
  congr 2
  funext q
  by_cases hq : q = i.toNatClampNeg <;> simp [updV, upd2_same, hq]
theorem ev_alenI {a n : Nat} {v : Int32} (hs : h.2.1 a = some (10, n)) (hv : Int32.ofNat n = v) (hdg : decode (mbM M) pc = .ok (.arraylength, 1)) (kk : Ev G d M mc ms Q kc ks (pc + 1) lv (.int v :: rest) h) : Ev G d M mc ms Q kc ks pc lv (.ref a :: rest) h := by
  intro p l e s m args below meth c H locs ls X R L hl
  obtain ⟨-, hcell⟩ := R.ints hs
  exact W.alen (n := v) X.1 X.2.1 hcell ((X.2.2.2.2.2.2.2.1.1.2 0 _ (tysG_at G (by decide))).1 n (fun j => .int (h.2.2.2.1 a j))) (by rw [arrV_size]; exact hv) rfl rfl hdg (kk p l e s m args below meth c H locs ls X R L hl)
/-- the returns -/
theorem ev_iret {x : Int32} (hr : mrM M = some .int) (hq : Q (some (.int x)) h) (h1 : kc ≤ mc) (h2 : ks ≤ ms) (hdg : decode (mbM M) pc = .ok (.ireturn, 1)) : Ev G d M mc ms Q kc ks pc lv [.int x] h := by
  intro p l e s m args below meth c H locs ls X R L hl
  refine W.widen h1 h2 ?_
  exact W.iret X.1 X.2.1 (X.2.2.2.2.2.1.trans hr) (fun t ht _ => ⟨_, h, rfl, hq, by rw [ht]; exact R⟩) L hdg X.2.2.2.2.2.2.1
theorem ev_lret {x : Int64} (hr : mrM M = some .long) (hq : Q (some (.long x)) h) (h1 : kc ≤ mc) (h2 : ks ≤ ms) (hdg : decode (mbM M) pc = .ok (.lreturn, 1)) : Ev G d M mc ms Q kc ks pc lv [.long x] h := by
  intro p l e s m args below meth c H locs ls X R L hl
  refine W.widen h1 h2 ?_
  exact W.lret X.1 X.2.1 (X.2.2.2.2.2.1.trans hr) (fun t ht _ => ⟨_, h, rfl, hq, by rw [ht]; exact R⟩) L hdg X.2.2.2.2.2.2.1
theorem ev_vret (hr : mrM M = none) (hq : Q none h) (h1 : kc ≤ mc) (h2 : ks ≤ ms) (hdg : decode (mbM M) pc = .ok (.return_, 1)) : Ev G d M mc ms Q kc ks pc lv [] h := by
  intro p l e s m args below meth c H locs ls X R L hl
  refine W.widen h1 h2 ?_
  exact W.vret X.1 X.2.1 (X.2.2.2.2.2.1.trans hr) (fun t ht _ => ⟨_, h, rfl, hq, by rw [ht]; exact R⟩) L hdg X.2.2.2.2.2.2.1
theorem ev_aret {x : Nat} {C : String} (hr : mrM M = some (.object C)) (hq : Q (some (.ref x)) h) (h1 : kc ≤ mc) (h2 : ks ≤ ms) (hdg : decode (mbM M) pc = .ok (.areturn, 1)) : Ev G d M mc ms Q kc ks pc lv [.ref x] h := by
  intro p l e s m args below meth c H locs ls X R L hl
  refine W.widen h1 h2 ?_
  exact W.aret X.1 X.2.1 (X.2.2.2.2.2.1.trans hr) (Or.inl ⟨C, rfl⟩) (Or.inr ⟨x, rfl⟩) (fun t ht _ => ⟨_, h, rfl, hq, by rw [ht]; exact R⟩) L hdg X.2.2.2.2.2.2.1
/-- what a boolean's return keeps of an int -/
def nbZ (x : Int32) : Int32 := vp_nar .boolean x
theorem nbZ_eq (x : Int32) : narrow .boolean (.int x) = .int (nbZ x) := by
  unfold nbZ vp_nar
  simp [narrow]
theorem ev_zret {x : Int32} (hr : mrM M = some .boolean) (hq : Q (some (.int (nbZ x))) h) (h1 : kc ≤ mc) (h2 : ks ≤ ms) (hdg : decode (mbM M) pc = .ok (.ireturn, 1)) : Ev G d M mc ms Q kc ks pc lv [.int x] h := by
  intro p l e s m args below meth c H locs ls X R L hl
  refine W.widen h1 h2 ?_
  intro T hT X0
  obtain ⟨fs, hret, hrun, hended, hW, hframe⟩ := X0.leave (v := some (.int (nbZ x))) (hlocks := X.2.2.2.2.2.2.1) (fun z => by rw [X.2.2.2.2.2.1, hr] at z; cases z)
  have hmeth' : T.vm.method? m = some meth := X0.method'
  refine ⟨T.setFrames fs, ?_, .returned (some (.int (nbZ x))), hrun, hended, ⟨_, h, rfl, hq, by rw [show (T.setFrames fs).heap = T.heap from rfl, hT]; exact R⟩, locs, ⟨⟨_, rfl⟩, hW, hframe⟩, L⟩
  jvm_step X0.here [X0.here.top, X.1, X.2.1, hdg, hmeth', X.2.2.2.2.2.1, hr, nbZ_eq]
  (try refine ⟨rfl, ?_⟩); (try refine ⟨rfl, ?_⟩)
  first | (intro acts; rw [hret _ acts rfl rfl rfl]) | rw [hret _ _ rfl rfl rfl]
  exact Steps.refl _
/-- the table of orders -/
theorem ev_getsO {idx : Nat} (hlk : Cond.fieldLink (moM M) idx "BeforeItDrips$Cone" "ORDER_ROWS" "[I" ∈ TT) (hdg : decode (mbM M) pc = .ok (.getstatic idx, 3)) (kk : Ev G d M mc ms Q kc ks (pc + 3) lv (.ref (G.2.2.2.1 20) :: rest) h) : Ev G d M mc ms Q kc ks pc lv rest h := by
  intro p l e s m args below meth c H locs ls X R L hl
  have hts : ∀ w ∈ TT, w.before args s = true := fun w hw => X.2.2.2.2.1 w (List.mem_cons_of_mem _ hw)
  obtain ⟨cf, kf, fi, f, a, cell, h1, h2, h3, h4, h5, h6, h7, h8⟩ := X.2.2.2.2.2.2.2.1.2.2.1.1.1
  exact W.gets X.1 X.2.1 X.2.2.2.1 (hts _ hlk) h1 h2 h3 h4 (by rw [R.2.2.1 a (Array.getElem?_eq_some_iff.mp h5).1]; exact h5) (fun e => by rw [e] at h6; cases h6) h7 rfl hdg (kk p l e s m args below meth c H locs ls X R L hl)
theorem ev_oaload {i x : Int32} (hin : vp_in i 18) (hx : orderRows.getD i.toNatClampNeg 0 = x) (hdg : decode (mbM M) pc = .ok (.iaload, 1)) (kk : Ev G d M mc ms Q kc ks (pc + 1) lv (.int x :: rest) h) : Ev G d M mc ms Q kc ks pc lv (.int i :: .ref (G.2.2.2.1 20) :: rest) h := by
  intro p l e s m args below meth c H locs ls X R L hl
  obtain ⟨cell, h1, h2, h3, h4, h5, h6, h7⟩ := X.2.2.2.2.2.2.2.1.2.2.1.1.2
  have hlt : i.toNatClampNeg < 18 := Nat.not_le.mp fun q => hin (Or.inr q)
  have hin' : ¬ (i < 0 ∨ cell.slots.size ≤ i.toNatClampNeg) := by
    intro q
    rcases q with q | q
    · exact hin (Or.inl q)
    · omega
  exact W.iald (v := .int x) X.1 X.2.1 (by rw [R.2.2.1 _ (Array.getElem?_eq_some_iff.mp h1).1]; exact h1) h2 h3 hin' (by rw [h6 _ hlt]; exact congrArg (fun z => some (Value.int z)) hx) rfl rfl hdg (kk p l e s m args below meth c H locs ls X R L hl)
theorem ev_oalen {v : Int32} (hv : Int32.ofNat 18 = v) (hdg : decode (mbM M) pc = .ok (.arraylength, 1)) (kk : Ev G d M mc ms Q kc ks (pc + 1) lv (.int v :: rest) h) : Ev G d M mc ms Q kc ks pc lv (.ref (G.2.2.2.1 20) :: rest) h := by
  intro p l e s m args below meth c H locs ls X R L hl
  subst hv
  obtain ⟨cell, h1, h2, h3, h4, h5, h6, h7⟩ := X.2.2.2.2.2.2.2.1.2.2.1.1.2
  exact W.alen (n := Int32.ofNat 18) X.1 X.2.1 (by rw [R.2.2.1 _ (Array.getElem?_eq_some_iff.mp h1).1]; exact h1) h2 h5 rfl rfl hdg (kk p l e s m args below meth c H locs ls X R L hl)
/-- what the tables say of a callee -/
def CalF (N : MI) : Prop := Cond.code (myM N) (mbM N) (mlM N) (mrM N) ∈ TT ∧ Cond.initialized (myM N).cls ∈ TT ∧ ((myM N).cls ≠ "java/lang/invoke/MethodHandle" ∧ (myM N).cls ≠ "java/lang/invoke/VarHandle") ∧ mlM N ≤ 45
def CalV (N : MI) (ci n : Nat) : Prop := CalF N ∧ Cond.instanceMethod (myM N) ∈ TT ∧ Cond.selects (RXG ci) (myM N) (myM N) ∈ TT ∧ ci < 7 ∧ (parseMethodDescriptor (myM N).desc).map (fun z => z.parameters.length) = some n
def CalS (N : MI) (n : Nat) : Prop := CalF N ∧ Cond.static (myM N) ∈ TT ∧ (parseMethodDescriptor (myM N).desc).map (fun z => z.parameters.length) = some n
def CalI (N : MI) (n : Nat) : Prop := CalF N ∧ Cond.instanceMethod (myM N) ∈ TT ∧ (myM N).name = "<init>" ∧ mrM N = none ∧ (parseMethodDescriptor (myM N).desc).map (fun z => z.parameters.length) = some n
theorem blindG {G : GG} {av : List Value} {h : PH} : FrameBlind (va_Pc av (fun U => KK G U ∧ RelH G h U.heap)) := fun _ U g mk q => ⟨q.1, KK.same (u := U) (U := U.calling g mk _) rfl q.2.1, q.2.2⟩
theorem preG {G : GG} {h : PH} {H : Heap} {s : State} (hK : KK G s) (R : RelH G h H) (av : List Value) : ∀ U : State, U.heap = H → s.WarmedH U.vm → va_Pc av (fun U => KK G U ∧ RelH G h U.heap) av.toArray U := fun U hU hW => ⟨rfl, hK.warm hW, by rw [hU]; exact R⟩
theorem ev_run {N : MI} {idx d' mc' ms' : Nat} {Q' : Option Value → PH → Prop} {p : Program} {l : Launch} {e : Env} {s : State} {m : MethodId} {args a : Array Value} {below : List Frame} {meth : Method} {c : Code} {H : Heap} {locs : List Loc} {ls : Array Slot} {st : List Value} {QQ : State → Prop}
    (hr : va_Run p l e (rmD d mc ms) s m args below meth c H locs kc ks mc' ms' (F0 m pc ls st) rest (QcG G Q' a) (fun q => G.2.2.1.size ≤ q)) (L : ∀ x ∈ locs, G.2.2.1.size ≤ x.base)
    (kk : ∀ (v : Option Value) (h' : PH) (H1 : Heap) (locs1 : List Loc), Q' v h' → RelH G h' H1 → (∀ x ∈ locs1, G.2.2.1.size ≤ x.base) → W p l e (rmD d mc ms) s m args below meth c H1 locs1 (kc + mc') (ks + ms') QQ (F0 m (pc + 3) ls (v.toList ++ rest))) :
    W p l e (rmD d mc ms) s m args below meth c H locs kc ks QQ (F0 m pc ls st) := by
  intro T hT X
  obtain ⟨v, st₀, t, T', LL, h0, X', hL, e1, e2, ⟨v', h', hv, hq, hR⟩, st2⟩ := hr T hT X
  cases hv
  obtain ⟨t2, a1, b1⟩ := kk v h' T'.heap (locs ++ LL) hq (by rw [e1]; exact hR) (fun x hx => by
    rcases List.mem_append.mp hx with z | z
    · exact L x z
    · exact hL x z) T' rfl X'
  exact ⟨t2, st2 t2 a1, b1⟩
theorem ev_invV {N : MI} {idx d' mc' ms' ci n k0 b : Nat} {As st : List Value} {Q' : Option Value → PH → Prop} (hM : MtG G d' N mc' ms' (.ref b :: As) h Q') (hC : CalV N ci n) (hlk : Cond.methodLink (moM M) idx (myM N) ∈ TT) (hd : d' + 1 ≤ d) (hs : h.2.1 b = some (ci, k0)) (hst : st = As.reverse ++ .ref b :: rest) (hn : As.length = n) (hW : (rest.map fun v => v.category).sum ≤ 8) (h1 : kc + mc' ≤ mc) (h2 : ks + ms' ≤ ms) (hdg : decode (mbM M) pc = .ok (.invokevirtual idx, 3))
    (kk : ∀ (v : Option Value) (h' : PH), Q' v h' → Ev G d M mc ms Q (kc + mc') (ks + ms') (pc + 3) lv (v.toList ++ rest) h') : Ev G d M mc ms Q kc ks pc lv st h := by
  intro p l e s m args below meth c H locs ls X R L hl
  obtain ⟨⟨c1, c2, c3, c4⟩, c5, c6, c7, c8⟩ := hC
  have hts : ∀ w ∈ TT, w.before args s = true := fun w hw => X.2.2.2.2.1 w (List.mem_cons_of_mem _ hw)
  obtain ⟨-, cell, q1, q2, q3, q4⟩ := R.obj hs c7
  have hcls := (X.2.2.2.2.2.2.2.1.1.1 ci _ (vwCl_at c7)).2.1
  refine ev_run (N := N) (idx := idx) (d' := d') (G := G) (Q' := Q') (va_runV (C := RXG ci) (own := moM M) (index := idx) (y := myM N) (bytes := mbM N) (maxL := mlM N) (ret := mrM N) (ws := wsM N) (rm := rmD d' mc' ms') (n := n) ⟨X.1, X.2.1, X.2.2.1, X.2.2.2.1, X.2.2.2.2.1⟩ (hM l) ⟨?_, hts _ c5, hts _ c6⟩ ⟨blindG, ⟨cell, q1, by rw [q3]; rfl, by rw [q2]; exact hcls⟩, preG X.2.2.2.2.2.2.2.1 R _⟩ rfl hn hl.1 hst (lv_room hW) hdg ⟨h1, h2⟩) L (fun v h' H1 locs1 hq hR L1 => kk v h' hq p l e s m args below meth c H1 locs1 ls X hR L1 hl)
  refine callB_of (ws' := TT) n X.2.2.2.2.1 (wsM_good c1) rfl rfl rfl (hts _ c2) (hts _ hlk) ⟨c3.1, c3.2, c8⟩ ⟨hd, ?_⟩
  show 8 + (mlM N + 11) + 64 * d' ≤ 64 * d
  omega
theorem ev_invS {N : MI} {idx d' mc' ms' n : Nat} {As st : List Value} {Q' : Option Value → PH → Prop} (hM : MtG G d' N mc' ms' As h Q') (hC : CalS N n) (hlk : Cond.methodLink (moM M) idx (myM N) ∈ TT) (hd : d' + 1 ≤ d) (hst : st = As.reverse ++ rest) (hn : As.length = n) (hW : (rest.map fun v => v.category).sum ≤ 8) (h1 : kc + mc' ≤ mc) (h2 : ks + ms' ≤ ms) (hdg : decode (mbM M) pc = .ok (.invokestatic idx, 3))
    (kk : ∀ (v : Option Value) (h' : PH), Q' v h' → Ev G d M mc ms Q (kc + mc') (ks + ms') (pc + 3) lv (v.toList ++ rest) h') : Ev G d M mc ms Q kc ks pc lv st h := by
  intro p l e s m args below meth c H locs ls X R L hl
  obtain ⟨⟨c1, c2, c3, c4⟩, c5, c8⟩ := hC
  have hts : ∀ w ∈ TT, w.before args s = true := fun w hw => X.2.2.2.2.1 w (List.mem_cons_of_mem _ hw)
  refine ev_run (N := N) (idx := idx) (d' := d') (G := G) (Q' := Q') (va_runS (own := moM M) (index := idx) (y := myM N) (bytes := mbM N) (maxL := mlM N) (ret := mrM N) (ws := wsM N) (rm := rmD d' mc' ms') (n := n) ⟨X.1, X.2.1, X.2.2.1, X.2.2.2.1, X.2.2.2.2.1⟩ (hM l) ⟨?_, hts _ c5⟩ ⟨blindG, preG X.2.2.2.2.2.2.2.1 R _⟩ rfl hn hl.1 hst (lv_room hW) hdg ⟨h1, h2⟩) L (fun v h' H1 locs1 hq hR L1 => kk v h' hq p l e s m args below meth c H1 locs1 ls X hR L1 hl)
  refine callB_of (ws' := TT) n X.2.2.2.2.1 (wsM_good c1) rfl rfl rfl (hts _ c2) (hts _ hlk) ⟨c3.1, c3.2, c8⟩ ⟨hd, ?_⟩
  show 8 + (mlM N + 11) + 64 * d' ≤ 64 * d
  omega
theorem ev_invI {N : MI} {idx d' mc' ms' n b : Nat} {As st : List Value} {Q' : Option Value → PH → Prop} (hM : MtG G d' N mc' ms' (.ref b :: As) h Q') (hC : CalI N n) (hlk : Cond.methodLink (moM M) idx (myM N) ∈ TT) (hd : d' + 1 ≤ d) (hst : st = As.reverse ++ .ref b :: rest) (hn : As.length = n) (hW : (rest.map fun v => v.category).sum ≤ 8) (h1 : kc + mc' ≤ mc) (h2 : ks + ms' ≤ ms) (hdg : decode (mbM M) pc = .ok (.invokespecial idx, 3))
    (kk : ∀ (v : Option Value) (h' : PH), Q' v h' → Ev G d M mc ms Q (kc + mc') (ks + ms') (pc + 3) lv (v.toList ++ rest) h') : Ev G d M mc ms Q kc ks pc lv st h := by
  intro p l e s m args below meth c H locs ls X R L hl
  obtain ⟨⟨c1, c2, c3, c4⟩, c5, c6, c7, c8⟩ := hC
  have hts : ∀ w ∈ TT, w.before args s = true := fun w hw => X.2.2.2.2.1 w (List.mem_cons_of_mem _ hw)
  have hw0 : wsM N = Cond.code (myM N) (mbM N) (mlM N) none :: TT := by unfold wsM; rw [c7]
  have hG0 : GoodIn (wsM M) (wsM N) := wsM_good c1
  refine ev_run (N := N) (idx := idx) (d' := d') (G := G) (Q' := Q') (va_runI (own := moM M) (index := idx) (y := myM N) (bytes := mbM N) (maxL := mlM N) (ws := wsM N) (rm := rmD d' mc' ms') (n := n) ⟨X.1, X.2.1, X.2.2.1, X.2.2.2.1, X.2.2.2.2.1⟩ (hM l) ⟨?_, c6, hts _ c5⟩ ⟨blindG, preG X.2.2.2.2.2.2.2.1 R _⟩ rfl hn hl.1 hst (lv_room hW) hdg ⟨h1, h2⟩) L (fun v h' H1 locs1 hq hR L1 => kk v h' hq p l e s m args below meth c H1 locs1 ls X hR L1 hl)
  refine callB_of (ws' := TT) n X.2.2.2.2.1 hG0 hw0 rfl rfl (hts _ c2) (hts _ hlk) ⟨c3.1, c3.2, c8⟩ ⟨hd, ?_⟩
  show 8 + (mlM N + 11) + 64 * d' ≤ 64 * d
  omega
theorem ev_invIN {N : MI} {host : String} {idx d' mc' ms' n b : Nat} {As st : List Value} {Q' : Option Value → PH → Prop} (hM : MtG G d' N mc' ms' (.ref b :: As) h Q') (hC : CalI N n) (hlk : Cond.methodLinkNest (moM M) idx (myM N) host ∈ nestW) (hd : d' + 1 ≤ d) (hst : st = As.reverse ++ .ref b :: rest) (hn : As.length = n) (hW : (rest.map fun v => v.category).sum ≤ 8) (h1 : kc + mc' ≤ mc) (h2 : ks + ms' ≤ ms) (hdg : decode (mbM M) pc = .ok (.invokespecial idx, 3))
    (kk : ∀ (v : Option Value) (h' : PH), Q' v h' → Ev G d M mc ms Q (kc + mc') (ks + ms') (pc + 3) lv (v.toList ++ rest) h') : Ev G d M mc ms Q kc ks pc lv st h := by
  intro p l e s m args below meth c H locs ls X R L hl
  obtain ⟨⟨c1, c2, c3, c4⟩, c5, c6, c7, c8⟩ := hC
  have hts : ∀ w ∈ TT, w.before args s = true := fun w hw => X.2.2.2.2.1 w (List.mem_cons_of_mem _ hw)
  have hw0 : wsM N = Cond.code (myM N) (mbM N) (mlM N) none :: TT := by unfold wsM; rw [c7]
  have hG0 : GoodIn (wsM M) (wsM N) := wsM_good c1
  refine ev_run (N := N) (idx := idx) (d' := d') (G := G) (Q' := Q') (va_runIN (own := moM M) (index := idx) (y := myM N) (bytes := mbM N) (maxL := mlM N) (ws := wsM N) (rm := rmD d' mc' ms') (n := n) (host := host) ⟨X.1, X.2.1, X.2.2.1, X.2.2.2.1, X.2.2.2.2.1⟩ (hM l) ⟨?_, c6, hts _ c5⟩ ⟨blindG, preG X.2.2.2.2.2.2.2.1 R _⟩ rfl hn hl.1 hst (lv_room hW) hdg ⟨h1, h2⟩) L (fun v h' H1 locs1 hq hR L1 => kk v h' hq p l e s m args below meth c H1 locs1 ls X hR L1 hl)
  refine va_cnB (ws' := TT) n X.2.2.2.2.1 hG0 hw0 rfl rfl (X.2.2.2.2.2.2.2.1.2.1 _ hlk) (hts _ c2) ⟨c3.1, c3.2, c8⟩ ⟨hd, ?_⟩
  show 8 + (mlM N + 11) + 64 * d' ≤ 64 * d
  omega
end EV
end
section
/-! THE LOCAL LAYER EvF: a method sees places 0 .. n-1, at addresses pl 0 .. pl (n-1); its state is two functions of (place, index): ints and longs. -/
abbrev SS : Type := (Nat → Nat → Int32) × (Nat → Nat → Int64)
/-- S, but at the addresses pl 0 .. pl (n-1) what C holds at the places -/
def mrg {α : Type} (pl : Nat → Nat) : Nat → (Nat → Nat → α) → (Nat → Nat → α) → Nat → Nat → α
  | 0, S, _ => S
  | n + 1, S, C => fun q => if q = pl n then C n else mrg pl n S C q
def injN (pl : Nat → Nat) (n : Nat) : Prop := ∀ i j : Nat, i < n → j < n → pl i = pl j → i = j
theorem mrg_at {α : Type} {pl : Nat → Nat} {S C : Nat → Nat → α} : ∀ {n : Nat}, injN pl n → ∀ {k : Nat}, k < n → mrg pl n S C (pl k) = C k
  | 0, _, _, hk => absurd hk (Nat.not_lt_zero _)
  | n + 1, hi, k, hk => by
    show (if pl k = pl n then C n else mrg pl n S C (pl k)) = C k
    by_cases z : k = n
    · subst z
      rw [if_pos rfl]
    · rw [if_neg (fun e => z (hi k n hk (Nat.lt_succ_self n) e))]
      exact mrg_at (fun i j h1 h2 e => hi i j (Nat.lt_succ_of_lt h1) (Nat.lt_succ_of_lt h2) e) (by omega)
theorem mrg_off {α : Type} {pl : Nat → Nat} {S C : Nat → Nat → α} {q : Nat} : ∀ {n : Nat}, (∀ k : Nat, k < n → q ≠ pl k) → mrg pl n S C q = S q
  | 0, _ => rfl
  | n + 1, h => by
    show (if q = pl n then C n else mrg pl n S C q) = S q
    rw [if_neg (h n (Nat.lt_succ_self n))]
    exact mrg_off (fun k hk => h k (Nat.lt_succ_of_lt hk))
theorem mrg_cases {pl : Nat → Nat} (n q : Nat) : (∃ k : Nat, k < n ∧ q = pl k) ∨ (∀ k : Nat, k < n → q ≠ pl k) := by
  by_cases h : ∃ k : Nat, k < n ∧ q = pl k
  · exact Or.inl h
  · exact Or.inr (fun k hk e => h ⟨k, hk, e⟩)
theorem mrg_set {α : Type} {pl : Nat → Nat} {S C : Nat → Nat → α} {n k i : Nat} {v : α} (hi : injN pl n) (hk : k < n) : upd2 (mrg pl n S C) (pl k) i v = mrg pl n S (upd2 C k i v) := by
  funext q
  rcases mrg_cases (pl := pl) n q with ⟨j, hj, rfl⟩ | hq
  · rw [mrg_at hi hj]
    by_cases z : j = k
    · subst z
      funext w
      rw [upd2_same, upd2_same, mrg_at hi hj]
    · rw [upd2_ne (fun e => z (hi j k hj hk e)), upd2_ne z, mrg_at hi hj]
  · rw [mrg_off hq, upd2_ne (hq k hk), mrg_off hq]
theorem mrg_id {α : Type} {pl : Nat → Nat} {S : Nat → Nat → α} {n : Nat} (hi : injN pl n) : mrg pl n S (fun k => S (pl k)) = S := by
  funext q
  rcases mrg_cases (pl := pl) n q with ⟨j, hj, rfl⟩ | hq
  · rw [mrg_at hi hj]
  · rw [mrg_off hq]
theorem mrg_comp {α : Type} {pl π : Nat → Nat} {S C D : Nat → Nat → α} {n n' : Nat} (hi : injN pl n) (hp : injN π n') (hn : ∀ k : Nat, k < n' → π k < n) : mrg (fun k => pl (π k)) n' (mrg pl n S C) D = mrg pl n S (mrg π n' C D) := by
  funext q
  have hip : injN (fun k => pl (π k)) n' := fun i j h1 h2 e => hp i j h1 h2 (hi _ _ (hn i h1) (hn j h2) e)
  rcases mrg_cases (pl := fun k => pl (π k)) n' q with ⟨j, hj, rfl⟩ | hq
  · rw [mrg_at hip hj]
    show D j = mrg pl n S (mrg π n' C D) (pl (π j))
    rw [mrg_at hi (hn j hj), mrg_at hp hj]
  · rw [mrg_off hq]
    rcases mrg_cases (pl := pl) n q with ⟨j, hj, rfl⟩ | hq2
    · rw [mrg_at hi hj, mrg_at hi hj, mrg_off (fun k hk e => hq k hk (by rw [e]))]
    · rw [mrg_off hq2, mrg_off hq2]
theorem mrg_congr {α : Type} {pl : Nat → Nat} {S C D : Nat → Nat → α} {n : Nat} (hi : injN pl n) (h : ∀ k : Nat, k < n → C k = D k) : mrg pl n S C = mrg pl n S D := by
  funext q
  rcases mrg_cases (pl := pl) n q with ⟨j, hj, rfl⟩ | hq
  · rw [mrg_at hi hj, mrg_at hi hj, h j hj]
  · rw [mrg_off hq, mrg_off hq]
/-- a layout: of each place its shape, and which place each of its references names -/
abbrev LY : Type := List ((Nat × Nat) × List (Nat × Nat))
def LayOK (ly : LY) (pl : Nat → Nat) (h : PH) : Prop := injN pl ly.length ∧ ∀ (k : Nat) (e : (Nat × Nat) × List (Nat × Nat)), ly[k]? = some e → h.2.1 (pl k) = some e.1 ∧ ∀ j t : Nat, e.2.lookup j = some t → h.2.2.1 (pl k) j = .ref (pl t)
def layMap (ly ly' : LY) (π : Nat → Nat) : Bool :=
  (List.range ly'.length).all (fun k => match ly[π k]?, ly'[k]? with
    | some e, some e' => decide (e.1 = e'.1) && e'.2.all (fun q => decide (e.2.lookup q.1 = some (π q.2)))
    | _, _ => false) &&
  (List.range ly'.length).all (fun i => decide (π i < ly.length) && (List.range ly'.length).all (fun j => decide (i = j) || decide (π i ≠ π j)))
theorem lookup_mem {l : List (Nat × Nat)} {j t : Nat} (h : l.lookup j = some t) : (j, t) ∈ l := by
  induction l with
  | nil => cases h
  | cons a l ih =>
    obtain ⟨x, y⟩ := a
    rw [List.lookup_cons] at h
    by_cases z : j == x
    · simp only [z] at h
      have : j = x := by simpa using z
      subst this
      cases h
      exact List.mem_cons_self
    · simp only [z] at h
      exact List.mem_cons_of_mem _ (ih h)
theorem layMap_spec {ly ly' : LY} {π : Nat → Nat} (h : layMap ly ly' π = true) : injN π ly'.length ∧ (∀ k : Nat, k < ly'.length → π k < ly.length) ∧ ∀ (k : Nat) (e' : (Nat × Nat) × List (Nat × Nat)), ly'[k]? = some e' → ∃ e, ly[π k]? = some e ∧ e.1 = e'.1 ∧ ∀ j t : Nat, e'.2.lookup j = some t → e.2.lookup j = some (π t) := by
  unfold layMap at h
  simp only [Bool.and_eq_true, List.all_eq_true, List.mem_range] at h
  obtain ⟨h1, h2⟩ := h
  refine ⟨fun i j hi hj e => ?_, fun k hk => by simpa using (h2 k hk).1, fun k e' hk => ?_⟩
  · have := (h2 i hi).2 j hj
    simp only [Bool.or_eq_true, decide_eq_true_eq] at this
    rcases this with z | z
    · exact z
    · exact absurd e z
  · have hl : k < ly'.length := (List.getElem?_eq_some_iff.mp hk).1
    have h3 := h1 k hl
    rw [hk] at h3
    cases hp : ly[π k]? with
    | none => rw [hp] at h3; cases h3
    | some e =>
      rw [hp] at h3
      simp only [Bool.and_eq_true, decide_eq_true_eq, List.all_eq_true] at h3
      exact ⟨e, rfl, h3.1, fun j t ht => h3.2 (j, t) (lookup_mem ht)⟩
theorem LayOK.sub {ly ly' : LY} {pl : Nat → Nat} {h : PH} {π : Nat → Nat} (H : LayOK ly pl h) (hm : layMap ly ly' π = true) : LayOK ly' (fun k => pl (π k)) h := by
  obtain ⟨m1, m2, m3⟩ := layMap_spec hm
  refine ⟨fun i j hi hj e => m1 i j hi hj (H.1 _ _ (m2 i hi) (m2 j hj) e), fun k e' hk => ?_⟩
  obtain ⟨e, g1, g2, g3⟩ := m3 k e' hk
  obtain ⟨w1, w2⟩ := H.2 _ e g1
  exact ⟨by rw [w1, g2], fun j t ht => w2 j (π t) (g3 j t ht)⟩
/-- the heap h0, but at the places of pl what s holds -/
def LH (pl : Nat → Nat) (n : Nat) (h0 : PH) (s : SS) : PH := (h0.1, h0.2.1, h0.2.2.1, mrg pl n h0.2.2.2.1 s.1, mrg pl n h0.2.2.2.2 s.2)
def selS (π : Nat → Nat) (s : SS) : SS := (fun k => s.1 (π k), fun k => s.2 (π k))
def mrgS (π : Nat → Nat) (n : Nat) (s t : SS) : SS := (mrg π n s.1 t.1, mrg π n s.2 t.2)
def wrI (s : SS) (k i : Nat) (v : Int32) : SS := (upd2 s.1 k i v, s.2)
def wrL (s : SS) (k i : Nat) (v : Int64) : SS := (s.1, upd2 s.2 k i v)
theorem LH_id {pl : Nat → Nat} {n : Nat} {h : PH} (hi : injN pl n) : LH pl n h (fun k => h.2.2.2.1 (pl k), fun k => h.2.2.2.2 (pl k)) = h := by
  unfold LH
  simp only [mrg_id hi]
theorem LH_wrI {pl : Nat → Nat} {n : Nat} {h0 : PH} {s : SS} {k i : Nat} {v : Int32} (hi : injN pl n) (hk : k < n) : LH pl n h0 (wrI s k i v) = (h0.1, h0.2.1, h0.2.2.1, upd2 (LH pl n h0 s).2.2.2.1 (pl k) i v, (LH pl n h0 s).2.2.2.2) := by
  unfold LH wrI
  simp only [mrg_set hi hk]
theorem LH_wrL {pl : Nat → Nat} {n : Nat} {h0 : PH} {s : SS} {k i : Nat} {v : Int64} (hi : injN pl n) (hk : k < n) : LH pl n h0 (wrL s k i v) = (h0.1, h0.2.1, h0.2.2.1, (LH pl n h0 s).2.2.2.1, upd2 (LH pl n h0 s).2.2.2.2 (pl k) i v) := by
  unfold LH wrL
  simp only [mrg_set hi hk]
theorem LH_call {pl π : Nat → Nat} {n n' : Nat} {h0 : PH} {s t : SS} (hi : injN pl n) (hp : injN π n') (hn : ∀ k : Nat, k < n' → π k < n) : LH (fun k => pl (π k)) n' (LH pl n h0 s) t = LH pl n h0 (mrgS π n' s t) := by
  unfold LH mrgS
  simp only [mrg_comp hi hp hn]
theorem LH_sel {pl π : Nat → Nat} {n n' : Nat} {h0 : PH} {s : SS} (hi : injN pl n) (hp : injN π n') (hn : ∀ k : Nat, k < n' → π k < n) : LH (fun k => pl (π k)) n' (LH pl n h0 s) (selS π s) = LH pl n h0 s := by
  have hip : injN (fun k => pl (π k)) n' := fun i j h1 h2 e => hp i j h1 h2 (hi _ _ (hn i h1) (hn j h2) e)
  have e1 := LH_id (n := n') (h := LH pl n h0 s) hip
  refine Eq.trans ?_ e1
  unfold LH selS
  congr 4
  · exact mrg_congr hip (fun k hk => (mrg_at hi (hn k hk)).symm)
  · exact mrg_congr hip (fun k hk => (mrg_at hi (hn k hk)).symm)
def Qf {ρ : Type} (rv : ρ → Option Value) (pl : Nat → Nat) (n : Nat) (h0 : PH) (r : ρ) (s' : SS) : Option Value → PH → Prop := fun v h' => v = rv r ∧ h' = LH pl n h0 s'
/-- where f ends with r and s', the machine returns r and the heap holds s' -/
def EvF (G : GG) (d : Nat) (M : MI) (ly : LY) (pl : Nat → Nat) (h0 : PH) {ρ : Type} (rv : ρ → Option Value) (f : Option (ρ × SS)) (pc : Nat) (lv : List (Nat × Value)) (st : List Value) (s : SS) : Prop :=
  LayOK ly pl h0 → ∀ (r : ρ) (s' : SS), f = some (r, s') → Ev G d M 0 0 (Qf rv pl ly.length h0 r s') 0 0 pc lv st (LH pl ly.length h0 s)
/-- a method's contract by its function -/
def MtF (d : Nat) (M : MI) (ly : LY) {ρ : Type} (rv : ρ → Option Value) (av : GG → (Nat → Nat) → List Value) (f : SS → Option (ρ × SS)) : Prop :=
  ∀ (pl : Nat → Nat) (h0 : PH), LayOK ly pl h0 → ∀ (s : SS) (r : ρ) (s' : SS), f s = some (r, s') → Mt d M 0 0 (fun G => av G pl) (LH pl ly.length h0 s) (Qf rv pl ly.length h0 r s')
def rvU (_ : Unit) : Option Value := none
def rvI (x : Int32) : Option Value := some (.int x)
def rvL (x : Int64) : Option Value := some (.long x)
theorem MtF.of {d : Nat} {M : MI} {ly : LY} {ρ : Type} {rv : ρ → Option Value} {av : GG → (Nat → Nat) → List Value} {f : SS → Option (ρ × SS)} (hpl : plainName (myM M).cls = true) (ho : moM M = (myM M).cls) (hl : ∀ (G : GG) (pl : Nat → Nat), (lg_sl (av G pl)).length ≤ mlM M)
    (body : ∀ (G : GG) (pl : Nat → Nat) (h0 : PH) (s : SS), EvF G d M ly pl h0 rv (f s) 0 (lv_args 0 (av G pl)) [] s) : MtF d M ly rv av f := by
  intro pl h0 hL s r s' hf G
  exact MtG.of hpl ho (hl G pl) (body G pl h0 s hL r s' hf)
section EVF
variable {G : GG} {d : Nat} {M : MI} {ly : LY} {pl : Nat → Nat} {h0 : PH} {ρ : Type} {rv : ρ → Option Value} {f : Option (ρ × SS)} {pc : Nat} {lv : List (Nat × Value)} {rest : List Value} {s : SS}
theorem LayOK.LH {s : SS} {n : Nat} (H : LayOK ly pl h0) : LayOK ly pl (LH pl n h0 s) := H
theorem LayOK.sh {k : Nat} {e : (Nat × Nat) × List (Nat × Nat)} (H : LayOK ly pl h0) (he : ly[k]? = some e) : h0.2.1 (pl k) = some e.1 := (H.2 k e he).1
theorem LayOK.lt {k : Nat} {e : (Nat × Nat) × List (Nat × Nat)} (he : ly[k]? = some e) : k < ly.length := (List.getElem?_eq_some_iff.mp he).1
theorem ef_getI {q idx ci j k m0 : Nat} {rs : List (Nat × Nat)} {x : Int32} (he : ly[k]? = some ((ci, m0), rs)) (hF : FL M idx ci j) (hr : isRf (ftyG ci j) = false) (hx : s.1 k j = x) (hdg : decode (mbM M) pc = .ok (.getfield idx, 3)) (hq : pc + 3 = q) (kk : EvF G d M ly pl h0 rv f q lv (.int x :: rest) s) : EvF G d M ly pl h0 rv f pc lv (.ref (pl k) :: rest) s := fun H r s' hf => by
  subst hq
  refine ev_getf (H.sh he) hF ?_ hdg (kk H r s' hf)
  unfold fvalG
  rw [if_neg (by rw [hr]; decide)]
  show Value.int (mrg pl ly.length h0.2.2.2.1 s.1 (pl k) j) = _
  rw [mrg_at H.1 (LayOK.lt he), hx]
theorem ef_getR {q idx ci j k m0 t : Nat} {rs : List (Nat × Nat)} (he : ly[k]? = some ((ci, m0), rs)) (hF : FL M idx ci j) (hr : isRf (ftyG ci j) = true) (ht : rs.lookup j = some t) (hdg : decode (mbM M) pc = .ok (.getfield idx, 3)) (hq : pc + 3 = q) (kk : EvF G d M ly pl h0 rv f q lv (.ref (pl t) :: rest) s) : EvF G d M ly pl h0 rv f pc lv (.ref (pl k) :: rest) s := fun H r s' hf => by
  subst hq
  refine ev_getf (H.sh he) hF ?_ hdg (kk H r s' hf)
  unfold fvalG
  rw [if_pos hr]
  exact (H.2 k _ he).2 j t ht
theorem ef_putI {q idx ci j k m0 : Nat} {rs : List (Nat × Nat)} {x : Int32} (he : ly[k]? = some ((ci, m0), rs)) (hF : FL M idx ci j) (hfin : (TXG ci j).2.2.2 = false) (hty : ftyG ci j = .int) (hdg : decode (mbM M) pc = .ok (.putfield idx, 3)) (hq : pc + 3 = q) (kk : EvF G d M ly pl h0 rv f q lv rest (wrI s k j x)) : EvF G d M ly pl h0 rv f pc lv (.int x :: .ref (pl k) :: rest) s := fun H r s' hf => by
  subst hq
  have h1 := kk H r s' hf
  rw [LH_wrI H.1 (LayOK.lt he)] at h1
  exact ev_putI (H.sh he) hF hfin (by rw [hty]; rfl) (by rw [hty]; rfl) (by rw [hty]; rfl) hdg h1
theorem ef_putZ {q idx ci j k m0 : Nat} {rs : List (Nat × Nat)} {x : Int32} (he : ly[k]? = some ((ci, m0), rs)) (hF : FL M idx ci j) (hfin : (TXG ci j).2.2.2 = false) (hty : ftyG ci j = .boolean) (hn : narrow .boolean (.int x) = .int x) (hfit : fits .boolean (.int x) = true) (hdg : decode (mbM M) pc = .ok (.putfield idx, 3)) (hq : pc + 3 = q) (kk : EvF G d M ly pl h0 rv f q lv rest (wrI s k j x)) : EvF G d M ly pl h0 rv f pc lv (.int x :: .ref (pl k) :: rest) s := fun H r s' hf => by
  subst hq
  have h1 := kk H r s' hf
  rw [LH_wrI H.1 (LayOK.lt he)] at h1
  exact ev_putI (H.sh he) hF hfin (by rw [hty]; rfl) (by rw [hty]; exact hn) (by rw [hty]; exact hfit) hdg h1
/-- an index within a row of n -/
abbrev ixB (i : Int32) (n : Nat) : Prop := ¬ (i < 0 ∨ n ≤ i.toNatClampNeg)
theorem ixB_lt {i : Int32} {n : Nat} (h : ixB i n) : i.toNatClampNeg < n := Nat.not_le.mp fun q => h (Or.inr q)
theorem ef_iaload {q k n : Nat} {rs : List (Nat × Nat)} {i x : Int32} (he : ly[k]? = some ((10, n), rs)) (hi : ixB i n) (hdg : decode (mbM M) pc = .ok (.iaload, 1)) (hx : s.1 k i.toNatClampNeg = x) (hq : pc + 1 = q) (kk : EvF G d M ly pl h0 rv f q lv (.int x :: rest) s) : EvF G d M ly pl h0 rv f pc lv (.int i :: .ref (pl k) :: rest) s := fun H r s' hf => by
  subst hq
  refine ev_iaload (H.sh he) hi hdg ?_
  have e : (LH pl ly.length h0 s).2.2.2.1 (pl k) i.toNatClampNeg = x := by
    show mrg pl ly.length h0.2.2.2.1 s.1 (pl k) i.toNatClampNeg = _
    rw [mrg_at H.1 (LayOK.lt he), hx]
  rw [e]
  exact kk H r s' hf
theorem ef_laload {q k n : Nat} {rs : List (Nat × Nat)} {i : Int32} {x : Int64} (he : ly[k]? = some ((11, n), rs)) (hi : ixB i n) (hdg : decode (mbM M) pc = .ok (.laload, 1)) (hx : s.2 k i.toNatClampNeg = x) (hq : pc + 1 = q) (kk : EvF G d M ly pl h0 rv f q lv (.long x :: rest) s) : EvF G d M ly pl h0 rv f pc lv (.int i :: .ref (pl k) :: rest) s := fun H r s' hf => by
  subst hq
  refine ev_laload (H.sh he) hi hdg ?_
  have e : (LH pl ly.length h0 s).2.2.2.2 (pl k) i.toNatClampNeg = x := by
    show mrg pl ly.length h0.2.2.2.2 s.2 (pl k) i.toNatClampNeg = _
    rw [mrg_at H.1 (LayOK.lt he), hx]
  rw [e]
  exact kk H r s' hf
theorem ef_aaload {q k n t t0 : Nat} {rs : List (Nat × Nat)} {tf : Nat → Nat} {i : Int32} (he : ly[k]? = some ((t, n), rs)) (h12 : 12 ≤ t) (htf : ∀ j : Nat, j < n → rs.lookup j = some (tf j)) (hi : ixB i n) (hdg : decode (mbM M) pc = .ok (.aaload, 1)) (ht : tf i.toNatClampNeg = t0) (hq : pc + 1 = q) (kk : EvF G d M ly pl h0 rv f q lv (.ref (pl t0) :: rest) s) : EvF G d M ly pl h0 rv f pc lv (.int i :: .ref (pl k) :: rest) s := fun H r s' hf => by
  subst hq
  subst ht
  exact ev_aaload (H.sh he) h12 hi ((H.2 k _ he).2 _ _ (htf _ (ixB_lt hi))) hdg (kk H r s' hf)
theorem ef_iastore {q k n j : Nat} {rs : List (Nat × Nat)} {i x : Int32} (he : ly[k]? = some ((10, n), rs)) (hi : ixB i n) (hdg : decode (mbM M) pc = .ok (.iastore, 1)) (hj : i.toNatClampNeg = j) (hq : pc + 1 = q) (kk : EvF G d M ly pl h0 rv f q lv rest (wrI s k j x)) : EvF G d M ly pl h0 rv f pc lv (.int x :: .int i :: .ref (pl k) :: rest) s := fun H r s' hf => by
  subst hq
  subst hj
  have h1 := kk H r s' hf
  rw [LH_wrI H.1 (LayOK.lt he)] at h1
  exact ev_iastore (H.sh he) hi hdg h1
theorem ef_lastore {q k n j : Nat} {rs : List (Nat × Nat)} {i : Int32} {x : Int64} (he : ly[k]? = some ((11, n), rs)) (hi : ixB i n) (hdg : decode (mbM M) pc = .ok (.lastore, 1)) (hj : i.toNatClampNeg = j) (hq : pc + 1 = q) (kk : EvF G d M ly pl h0 rv f q lv rest (wrL s k j x)) : EvF G d M ly pl h0 rv f pc lv (.long x :: .int i :: .ref (pl k) :: rest) s := fun H r s' hf => by
  subst hq
  subst hj
  have h1 := kk H r s' hf
  rw [LH_wrL H.1 (LayOK.lt he)] at h1
  exact ev_lastore (H.sh he) hi hdg h1
theorem ef_alenI {q k n : Nat} {rs : List (Nat × Nat)} {v : Int32} (he : ly[k]? = some ((10, n), rs)) (hv : Int32.ofNat n = v) (hdg : decode (mbM M) pc = .ok (.arraylength, 1)) (hq : pc + 1 = q) (kk : EvF G d M ly pl h0 rv f q lv (.int v :: rest) s) : EvF G d M ly pl h0 rv f pc lv (.ref (pl k) :: rest) s := fun H r s' hf => by
  subst hq
  exact ev_alenI (H.sh he) hv hdg (kk H r s' hf)
theorem ef_getsO {q idx : Nat} (hlk : Cond.fieldLink (moM M) idx "BeforeItDrips$Cone" "ORDER_ROWS" "[I" ∈ TT) (hdg : decode (mbM M) pc = .ok (.getstatic idx, 3)) (hq : pc + 3 = q) (kk : EvF G d M ly pl h0 rv f q lv (.ref (G.2.2.2.1 20) :: rest) s) : EvF G d M ly pl h0 rv f pc lv rest s := fun H r s' hf => by
  subst hq
  exact ev_getsO hlk hdg (kk H r s' hf)
theorem ef_oaload {q : Nat} {i x : Int32} (hi : ixB i 18) (hdg : decode (mbM M) pc = .ok (.iaload, 1)) (hx : orderRows.getD i.toNatClampNeg 0 = x) (hq : pc + 1 = q) (kk : EvF G d M ly pl h0 rv f q lv (.int x :: rest) s) : EvF G d M ly pl h0 rv f pc lv (.int i :: .ref (G.2.2.2.1 20) :: rest) s := fun H r s' hf => by
  subst hq
  exact ev_oaload hi hx hdg (kk H r s' hf)
theorem ef_oalen {q : Nat} {v : Int32} (hv : Int32.ofNat 18 = v) (hdg : decode (mbM M) pc = .ok (.arraylength, 1)) (hq : pc + 1 = q) (kk : EvF G d M ly pl h0 rv f q lv (.int v :: rest) s) : EvF G d M ly pl h0 rv f pc lv (.ref (G.2.2.2.1 20) :: rest) s := fun H r s' hf => by
  subst hq
  exact ev_oalen hv hdg (kk H r s' hf)
/-- f's guard: an index is within, a divisor isn't 0 -/
theorem ef_guard {c : Prop} [Decidable c] {A : Option (ρ × SS)} {st : List Value} (kk : c → EvF G d M ly pl h0 rv A pc lv st s) : EvF G d M ly pl h0 rv (if c then A else none) pc lv st s := fun H r s' hf => by
  by_cases z : c
  · rw [if_pos z] at hf
    exact kk z H r s' hf
  · rw [if_neg z] at hf
    cases hf
theorem ef_if {c : Prop} [Decidable c] {A B : Option (ρ × SS)} {pt pf : Nat} {st0 st : List Value} (rule : ∀ (r : ρ) (s' : SS), (c → Ev G d M 0 0 (Qf rv pl ly.length h0 r s') 0 0 pt lv st (LH pl ly.length h0 s)) → (¬ c → Ev G d M 0 0 (Qf rv pl ly.length h0 r s') 0 0 pf lv st (LH pl ly.length h0 s)) → Ev G d M 0 0 (Qf rv pl ly.length h0 r s') 0 0 pc lv st0 (LH pl ly.length h0 s))
    (kt : c → EvF G d M ly pl h0 rv A pt lv st s) (kf : ¬ c → EvF G d M ly pl h0 rv B pf lv st s) : EvF G d M ly pl h0 rv (if c then A else B) pc lv st0 s := fun H r s' hf =>
  rule r s' (fun z => kt z H r s' (by rw [if_pos z] at hf; exact hf)) (fun z => kf z H r s' (by rw [if_neg z] at hf; exact hf))
theorem ef_eq {g : Option (ρ × SS)} {st : List Value} (e : f = g) (kk : EvF G d M ly pl h0 rv g pc lv st s) : EvF G d M ly pl h0 rv f pc lv st s := e ▸ kk
theorem ef_st {s1 : SS} {st : List Value} (e : s = s1) (kk : EvF G d M ly pl h0 rv f pc lv st s1) : EvF G d M ly pl h0 rv f pc lv st s := e ▸ kk
/-- calls: f binds the callee's function -/
theorem ef_invVI {N : MI} {q idx d' ci n k m0 : Nat} {π : Nat → Nat} {ly' : LY} {As st : List Value} {av : GG → (Nat → Nat) → List Value} {fc : SS → Option (Int32 × SS)} {A : Int32 × SS → Option (ρ × SS)} {rs : List (Nat × Nat)} {rest : List Value} {nn : Nat} (hM : MtF d' N ly' rvI av fc) (hm : layMap ly ly' π = true) (ha : av G (fun k => pl (π k)) = .ref (pl k) :: As) (hC : CalV N ci n) (hlk : Cond.methodLink (moM M) idx (myM N) ∈ TT) (hd : d' + 1 ≤ d) (he : ly[k]? = some ((ci, m0), rs)) (hst : st = As.reverse ++ .ref (pl k) :: rest) (hn : As.length = n) (hW : (rest.map fun v => v.category).sum ≤ 8) (hdg : decode (mbM M) pc = .ok (.invokevirtual idx, 3)) (hq : pc + 3 = q) (hnn : ly'.length = nn)
    (kk : ∀ x : Int32 × SS, EvF G d M ly pl h0 rv (A x) q lv (.int x.1 :: rest) (mrgS π nn s x.2)) : EvF G d M ly pl h0 rv ((fc (selS π s)).bind A) pc lv st s := fun H r s' hf => by
  subst hq
  obtain ⟨⟨r1, t1⟩, g1, g2⟩ := Option.bind_eq_some_iff.mp hf
  subst hnn
  obtain ⟨m1, m2, -⟩ := layMap_spec hm
  have hMt : MtG G d' N 0 0 (av G (fun k => pl (π k))) (LH (fun k => pl (π k)) ly'.length (LH pl ly.length h0 s) (selS π s)) (Qf rvI (fun k => pl (π k)) ly'.length (LH pl ly.length h0 s) r1 t1) := hM (fun k => pl (π k)) (LH pl ly.length h0 s) ((H.LH).sub hm) (selS π s) r1 t1 g1 G
  rw [LH_sel H.1 m1 m2, ha] at hMt
  refine ev_invV (mc' := 0) (ms' := 0) hMt hC hlk hd (H.sh he) hst hn hW (Nat.le_refl 0) (Nat.le_refl 0) hdg (fun v h' hq => ?_)
  obtain ⟨e1, e2⟩ := hq
  subst e1
  subst e2
  rw [LH_call H.1 m1 m2]
  exact kk (r1, t1) H r s' g2
theorem ef_invVI0 {N : MI} {q idx d' ci n k m0 : Nat} {As st : List Value} {av : GG → (Nat → Nat) → List Value} {fc : SS → Option (Int32 × SS)} {A : Int32 × SS → Option (ρ × SS)} {rs : List (Nat × Nat)} {rest : List Value} (hM : MtF d' N ly rvI av fc) (ha : av G pl = .ref (pl k) :: As) (hC : CalV N ci n) (hlk : Cond.methodLink (moM M) idx (myM N) ∈ TT) (hd : d' + 1 ≤ d) (he : ly[k]? = some ((ci, m0), rs)) (hst : st = As.reverse ++ .ref (pl k) :: rest) (hn : As.length = n) (hW : (rest.map fun v => v.category).sum ≤ 8) (hdg : decode (mbM M) pc = .ok (.invokevirtual idx, 3)) (hq : pc + 3 = q)
    (kk : ∀ x : Int32 × SS, EvF G d M ly pl h0 rv (A x) q lv (.int x.1 :: rest) (x.2)) : EvF G d M ly pl h0 rv ((fc s).bind A) pc lv st s := fun H r s' hf => by
  subst hq
  obtain ⟨⟨r1, t1⟩, g1, g2⟩ := Option.bind_eq_some_iff.mp hf
  have hMt : MtG G d' N 0 0 (av G pl) (LH pl ly.length h0 s) (Qf rvI pl ly.length h0 r1 t1) := hM pl h0 H s r1 t1 g1 G
  rw [ha] at hMt
  refine ev_invV (mc' := 0) (ms' := 0) hMt hC hlk hd (H.sh he) hst hn hW (Nat.le_refl 0) (Nat.le_refl 0) hdg (fun v h' hq => ?_)
  obtain ⟨e1, e2⟩ := hq
  subst e1
  subst e2
  exact kk (r1, t1) H r s' g2
theorem ef_invSI {N : MI} {q idx d' n : Nat} {π : Nat → Nat} {ly' : LY} {As st : List Value} {av : GG → (Nat → Nat) → List Value} {fc : SS → Option (Int32 × SS)} {A : Int32 × SS → Option (ρ × SS)} {rest : List Value} {nn : Nat} (hM : MtF d' N ly' rvI av fc) (hm : layMap ly ly' π = true) (ha : av G (fun k => pl (π k)) = As) (hC : CalS N n) (hlk : Cond.methodLink (moM M) idx (myM N) ∈ TT) (hd : d' + 1 ≤ d) (hst : st = As.reverse ++ rest) (hn : As.length = n) (hW : (rest.map fun v => v.category).sum ≤ 8) (hdg : decode (mbM M) pc = .ok (.invokestatic idx, 3)) (hq : pc + 3 = q) (hnn : ly'.length = nn)
    (kk : ∀ x : Int32 × SS, EvF G d M ly pl h0 rv (A x) q lv (.int x.1 :: rest) (mrgS π nn s x.2)) : EvF G d M ly pl h0 rv ((fc (selS π s)).bind A) pc lv st s := fun H r s' hf => by
  subst hq
  obtain ⟨⟨r1, t1⟩, g1, g2⟩ := Option.bind_eq_some_iff.mp hf
  subst hnn
  obtain ⟨m1, m2, -⟩ := layMap_spec hm
  have hMt : MtG G d' N 0 0 (av G (fun k => pl (π k))) (LH (fun k => pl (π k)) ly'.length (LH pl ly.length h0 s) (selS π s)) (Qf rvI (fun k => pl (π k)) ly'.length (LH pl ly.length h0 s) r1 t1) := hM (fun k => pl (π k)) (LH pl ly.length h0 s) ((H.LH).sub hm) (selS π s) r1 t1 g1 G
  rw [LH_sel H.1 m1 m2, ha] at hMt
  refine ev_invS (mc' := 0) (ms' := 0) hMt hC hlk hd hst hn hW (Nat.le_refl 0) (Nat.le_refl 0) hdg (fun v h' hq => ?_)
  obtain ⟨e1, e2⟩ := hq
  subst e1
  subst e2
  rw [LH_call H.1 m1 m2]
  exact kk (r1, t1) H r s' g2
theorem ef_invSI0 {N : MI} {q idx d' n : Nat} {As st : List Value} {av : GG → (Nat → Nat) → List Value} {fc : SS → Option (Int32 × SS)} {A : Int32 × SS → Option (ρ × SS)} {rest : List Value} (hM : MtF d' N ly rvI av fc) (ha : av G pl = As) (hC : CalS N n) (hlk : Cond.methodLink (moM M) idx (myM N) ∈ TT) (hd : d' + 1 ≤ d) (hst : st = As.reverse ++ rest) (hn : As.length = n) (hW : (rest.map fun v => v.category).sum ≤ 8) (hdg : decode (mbM M) pc = .ok (.invokestatic idx, 3)) (hq : pc + 3 = q)
    (kk : ∀ x : Int32 × SS, EvF G d M ly pl h0 rv (A x) q lv (.int x.1 :: rest) (x.2)) : EvF G d M ly pl h0 rv ((fc s).bind A) pc lv st s := fun H r s' hf => by
  subst hq
  obtain ⟨⟨r1, t1⟩, g1, g2⟩ := Option.bind_eq_some_iff.mp hf
  have hMt : MtG G d' N 0 0 (av G pl) (LH pl ly.length h0 s) (Qf rvI pl ly.length h0 r1 t1) := hM pl h0 H s r1 t1 g1 G
  rw [ha] at hMt
  refine ev_invS (mc' := 0) (ms' := 0) hMt hC hlk hd hst hn hW (Nat.le_refl 0) (Nat.le_refl 0) hdg (fun v h' hq => ?_)
  obtain ⟨e1, e2⟩ := hq
  subst e1
  subst e2
  exact kk (r1, t1) H r s' g2
theorem ef_invPI0 {N : MI} {q idx d' n : Nat} {As st : List Value} {av : GG → (Nat → Nat) → List Value} {fc : SS → Option (Int32 × SS)} {A : Int32 × SS → Option (ρ × SS)} {rest : List Value} (hM : MtF d' N [] rvI av fc) (ha : av G pl = As) (hC : CalS N n) (hlk : Cond.methodLink (moM M) idx (myM N) ∈ TT) (hd : d' + 1 ≤ d) (hst : st = As.reverse ++ rest) (hn : As.length = n) (hW : (rest.map fun v => v.category).sum ≤ 8) (hdg : decode (mbM M) pc = .ok (.invokestatic idx, 3)) (hq : pc + 3 = q)
    (kk : ∀ x : Int32 × SS, EvF G d M ly pl h0 rv (A x) q lv (.int x.1 :: rest) (s)) : EvF G d M ly pl h0 rv ((fc s).bind A) pc lv st s := fun H r s' hf => by
  subst hq
  obtain ⟨⟨r1, t1⟩, g1, g2⟩ := Option.bind_eq_some_iff.mp hf
  have hMt : MtG G d' N 0 0 (av G pl) (LH pl ly.length h0 s) (Qf rvI pl 0 (LH pl ly.length h0 s) r1 t1) := hM pl (LH pl ly.length h0 s) ⟨fun i j hi => absurd hi (Nat.not_lt_zero i), fun k e hk => by simp at hk⟩ s r1 t1 g1 G
  rw [ha] at hMt
  refine ev_invS (mc' := 0) (ms' := 0) hMt hC hlk hd hst hn hW (Nat.le_refl 0) (Nat.le_refl 0) hdg (fun v h' hq => ?_)
  obtain ⟨e1, e2⟩ := hq
  subst e1
  subst e2
  exact kk (r1, t1) H r s' g2
theorem ef_invVU {N : MI} {q idx d' ci n k m0 : Nat} {π : Nat → Nat} {ly' : LY} {As st : List Value} {av : GG → (Nat → Nat) → List Value} {fc : SS → Option (Unit × SS)} {A : Unit × SS → Option (ρ × SS)} {rs : List (Nat × Nat)} {rest : List Value} {nn : Nat} (hM : MtF d' N ly' rvU av fc) (hm : layMap ly ly' π = true) (ha : av G (fun k => pl (π k)) = .ref (pl k) :: As) (hC : CalV N ci n) (hlk : Cond.methodLink (moM M) idx (myM N) ∈ TT) (hd : d' + 1 ≤ d) (he : ly[k]? = some ((ci, m0), rs)) (hst : st = As.reverse ++ .ref (pl k) :: rest) (hn : As.length = n) (hW : (rest.map fun v => v.category).sum ≤ 8) (hdg : decode (mbM M) pc = .ok (.invokevirtual idx, 3)) (hq : pc + 3 = q) (hnn : ly'.length = nn)
    (kk : ∀ x : Unit × SS, EvF G d M ly pl h0 rv (A x) q lv (rest) (mrgS π nn s x.2)) : EvF G d M ly pl h0 rv ((fc (selS π s)).bind A) pc lv st s := fun H r s' hf => by
  subst hq
  obtain ⟨⟨r1, t1⟩, g1, g2⟩ := Option.bind_eq_some_iff.mp hf
  subst hnn
  obtain ⟨m1, m2, -⟩ := layMap_spec hm
  have hMt : MtG G d' N 0 0 (av G (fun k => pl (π k))) (LH (fun k => pl (π k)) ly'.length (LH pl ly.length h0 s) (selS π s)) (Qf rvU (fun k => pl (π k)) ly'.length (LH pl ly.length h0 s) r1 t1) := hM (fun k => pl (π k)) (LH pl ly.length h0 s) ((H.LH).sub hm) (selS π s) r1 t1 g1 G
  rw [LH_sel H.1 m1 m2, ha] at hMt
  refine ev_invV (mc' := 0) (ms' := 0) hMt hC hlk hd (H.sh he) hst hn hW (Nat.le_refl 0) (Nat.le_refl 0) hdg (fun v h' hq => ?_)
  obtain ⟨e1, e2⟩ := hq
  subst e1
  subst e2
  rw [LH_call H.1 m1 m2]
  exact kk (r1, t1) H r s' g2
theorem ef_invVU0 {N : MI} {q idx d' ci n k m0 : Nat} {As st : List Value} {av : GG → (Nat → Nat) → List Value} {fc : SS → Option (Unit × SS)} {A : Unit × SS → Option (ρ × SS)} {rs : List (Nat × Nat)} {rest : List Value} (hM : MtF d' N ly rvU av fc) (ha : av G pl = .ref (pl k) :: As) (hC : CalV N ci n) (hlk : Cond.methodLink (moM M) idx (myM N) ∈ TT) (hd : d' + 1 ≤ d) (he : ly[k]? = some ((ci, m0), rs)) (hst : st = As.reverse ++ .ref (pl k) :: rest) (hn : As.length = n) (hW : (rest.map fun v => v.category).sum ≤ 8) (hdg : decode (mbM M) pc = .ok (.invokevirtual idx, 3)) (hq : pc + 3 = q)
    (kk : ∀ x : Unit × SS, EvF G d M ly pl h0 rv (A x) q lv (rest) (x.2)) : EvF G d M ly pl h0 rv ((fc s).bind A) pc lv st s := fun H r s' hf => by
  subst hq
  obtain ⟨⟨r1, t1⟩, g1, g2⟩ := Option.bind_eq_some_iff.mp hf
  have hMt : MtG G d' N 0 0 (av G pl) (LH pl ly.length h0 s) (Qf rvU pl ly.length h0 r1 t1) := hM pl h0 H s r1 t1 g1 G
  rw [ha] at hMt
  refine ev_invV (mc' := 0) (ms' := 0) hMt hC hlk hd (H.sh he) hst hn hW (Nat.le_refl 0) (Nat.le_refl 0) hdg (fun v h' hq => ?_)
  obtain ⟨e1, e2⟩ := hq
  subst e1
  subst e2
  exact kk (r1, t1) H r s' g2
theorem ef_invSU {N : MI} {q idx d' n : Nat} {π : Nat → Nat} {ly' : LY} {As st : List Value} {av : GG → (Nat → Nat) → List Value} {fc : SS → Option (Unit × SS)} {A : Unit × SS → Option (ρ × SS)} {rest : List Value} {nn : Nat} (hM : MtF d' N ly' rvU av fc) (hm : layMap ly ly' π = true) (ha : av G (fun k => pl (π k)) = As) (hC : CalS N n) (hlk : Cond.methodLink (moM M) idx (myM N) ∈ TT) (hd : d' + 1 ≤ d) (hst : st = As.reverse ++ rest) (hn : As.length = n) (hW : (rest.map fun v => v.category).sum ≤ 8) (hdg : decode (mbM M) pc = .ok (.invokestatic idx, 3)) (hq : pc + 3 = q) (hnn : ly'.length = nn)
    (kk : ∀ x : Unit × SS, EvF G d M ly pl h0 rv (A x) q lv (rest) (mrgS π nn s x.2)) : EvF G d M ly pl h0 rv ((fc (selS π s)).bind A) pc lv st s := fun H r s' hf => by
  subst hq
  obtain ⟨⟨r1, t1⟩, g1, g2⟩ := Option.bind_eq_some_iff.mp hf
  subst hnn
  obtain ⟨m1, m2, -⟩ := layMap_spec hm
  have hMt : MtG G d' N 0 0 (av G (fun k => pl (π k))) (LH (fun k => pl (π k)) ly'.length (LH pl ly.length h0 s) (selS π s)) (Qf rvU (fun k => pl (π k)) ly'.length (LH pl ly.length h0 s) r1 t1) := hM (fun k => pl (π k)) (LH pl ly.length h0 s) ((H.LH).sub hm) (selS π s) r1 t1 g1 G
  rw [LH_sel H.1 m1 m2, ha] at hMt
  refine ev_invS (mc' := 0) (ms' := 0) hMt hC hlk hd hst hn hW (Nat.le_refl 0) (Nat.le_refl 0) hdg (fun v h' hq => ?_)
  obtain ⟨e1, e2⟩ := hq
  subst e1
  subst e2
  rw [LH_call H.1 m1 m2]
  exact kk (r1, t1) H r s' g2
theorem ef_invSU0 {N : MI} {q idx d' n : Nat} {As st : List Value} {av : GG → (Nat → Nat) → List Value} {fc : SS → Option (Unit × SS)} {A : Unit × SS → Option (ρ × SS)} {rest : List Value} (hM : MtF d' N ly rvU av fc) (ha : av G pl = As) (hC : CalS N n) (hlk : Cond.methodLink (moM M) idx (myM N) ∈ TT) (hd : d' + 1 ≤ d) (hst : st = As.reverse ++ rest) (hn : As.length = n) (hW : (rest.map fun v => v.category).sum ≤ 8) (hdg : decode (mbM M) pc = .ok (.invokestatic idx, 3)) (hq : pc + 3 = q)
    (kk : ∀ x : Unit × SS, EvF G d M ly pl h0 rv (A x) q lv (rest) (x.2)) : EvF G d M ly pl h0 rv ((fc s).bind A) pc lv st s := fun H r s' hf => by
  subst hq
  obtain ⟨⟨r1, t1⟩, g1, g2⟩ := Option.bind_eq_some_iff.mp hf
  have hMt : MtG G d' N 0 0 (av G pl) (LH pl ly.length h0 s) (Qf rvU pl ly.length h0 r1 t1) := hM pl h0 H s r1 t1 g1 G
  rw [ha] at hMt
  refine ev_invS (mc' := 0) (ms' := 0) hMt hC hlk hd hst hn hW (Nat.le_refl 0) (Nat.le_refl 0) hdg (fun v h' hq => ?_)
  obtain ⟨e1, e2⟩ := hq
  subst e1
  subst e2
  exact kk (r1, t1) H r s' g2
theorem ef_invPU0 {N : MI} {q idx d' n : Nat} {As st : List Value} {av : GG → (Nat → Nat) → List Value} {fc : SS → Option (Unit × SS)} {A : Unit × SS → Option (ρ × SS)} {rest : List Value} (hM : MtF d' N [] rvU av fc) (ha : av G pl = As) (hC : CalS N n) (hlk : Cond.methodLink (moM M) idx (myM N) ∈ TT) (hd : d' + 1 ≤ d) (hst : st = As.reverse ++ rest) (hn : As.length = n) (hW : (rest.map fun v => v.category).sum ≤ 8) (hdg : decode (mbM M) pc = .ok (.invokestatic idx, 3)) (hq : pc + 3 = q)
    (kk : ∀ x : Unit × SS, EvF G d M ly pl h0 rv (A x) q lv (rest) (s)) : EvF G d M ly pl h0 rv ((fc s).bind A) pc lv st s := fun H r s' hf => by
  subst hq
  obtain ⟨⟨r1, t1⟩, g1, g2⟩ := Option.bind_eq_some_iff.mp hf
  have hMt : MtG G d' N 0 0 (av G pl) (LH pl ly.length h0 s) (Qf rvU pl 0 (LH pl ly.length h0 s) r1 t1) := hM pl (LH pl ly.length h0 s) ⟨fun i j hi => absurd hi (Nat.not_lt_zero i), fun k e hk => by simp at hk⟩ s r1 t1 g1 G
  rw [ha] at hMt
  refine ev_invS (mc' := 0) (ms' := 0) hMt hC hlk hd hst hn hW (Nat.le_refl 0) (Nat.le_refl 0) hdg (fun v h' hq => ?_)
  obtain ⟨e1, e2⟩ := hq
  subst e1
  subst e2
  exact kk (r1, t1) H r s' g2
theorem ef_invVL {N : MI} {q idx d' ci n k m0 : Nat} {π : Nat → Nat} {ly' : LY} {As st : List Value} {av : GG → (Nat → Nat) → List Value} {fc : SS → Option (Int64 × SS)} {A : Int64 × SS → Option (ρ × SS)} {rs : List (Nat × Nat)} {rest : List Value} {nn : Nat} (hM : MtF d' N ly' rvL av fc) (hm : layMap ly ly' π = true) (ha : av G (fun k => pl (π k)) = .ref (pl k) :: As) (hC : CalV N ci n) (hlk : Cond.methodLink (moM M) idx (myM N) ∈ TT) (hd : d' + 1 ≤ d) (he : ly[k]? = some ((ci, m0), rs)) (hst : st = As.reverse ++ .ref (pl k) :: rest) (hn : As.length = n) (hW : (rest.map fun v => v.category).sum ≤ 8) (hdg : decode (mbM M) pc = .ok (.invokevirtual idx, 3)) (hq : pc + 3 = q) (hnn : ly'.length = nn)
    (kk : ∀ x : Int64 × SS, EvF G d M ly pl h0 rv (A x) q lv (.long x.1 :: rest) (mrgS π nn s x.2)) : EvF G d M ly pl h0 rv ((fc (selS π s)).bind A) pc lv st s := fun H r s' hf => by
  subst hq
  obtain ⟨⟨r1, t1⟩, g1, g2⟩ := Option.bind_eq_some_iff.mp hf
  subst hnn
  obtain ⟨m1, m2, -⟩ := layMap_spec hm
  have hMt : MtG G d' N 0 0 (av G (fun k => pl (π k))) (LH (fun k => pl (π k)) ly'.length (LH pl ly.length h0 s) (selS π s)) (Qf rvL (fun k => pl (π k)) ly'.length (LH pl ly.length h0 s) r1 t1) := hM (fun k => pl (π k)) (LH pl ly.length h0 s) ((H.LH).sub hm) (selS π s) r1 t1 g1 G
  rw [LH_sel H.1 m1 m2, ha] at hMt
  refine ev_invV (mc' := 0) (ms' := 0) hMt hC hlk hd (H.sh he) hst hn hW (Nat.le_refl 0) (Nat.le_refl 0) hdg (fun v h' hq => ?_)
  obtain ⟨e1, e2⟩ := hq
  subst e1
  subst e2
  rw [LH_call H.1 m1 m2]
  exact kk (r1, t1) H r s' g2
theorem ef_invVL0 {N : MI} {q idx d' ci n k m0 : Nat} {As st : List Value} {av : GG → (Nat → Nat) → List Value} {fc : SS → Option (Int64 × SS)} {A : Int64 × SS → Option (ρ × SS)} {rs : List (Nat × Nat)} {rest : List Value} (hM : MtF d' N ly rvL av fc) (ha : av G pl = .ref (pl k) :: As) (hC : CalV N ci n) (hlk : Cond.methodLink (moM M) idx (myM N) ∈ TT) (hd : d' + 1 ≤ d) (he : ly[k]? = some ((ci, m0), rs)) (hst : st = As.reverse ++ .ref (pl k) :: rest) (hn : As.length = n) (hW : (rest.map fun v => v.category).sum ≤ 8) (hdg : decode (mbM M) pc = .ok (.invokevirtual idx, 3)) (hq : pc + 3 = q)
    (kk : ∀ x : Int64 × SS, EvF G d M ly pl h0 rv (A x) q lv (.long x.1 :: rest) (x.2)) : EvF G d M ly pl h0 rv ((fc s).bind A) pc lv st s := fun H r s' hf => by
  subst hq
  obtain ⟨⟨r1, t1⟩, g1, g2⟩ := Option.bind_eq_some_iff.mp hf
  have hMt : MtG G d' N 0 0 (av G pl) (LH pl ly.length h0 s) (Qf rvL pl ly.length h0 r1 t1) := hM pl h0 H s r1 t1 g1 G
  rw [ha] at hMt
  refine ev_invV (mc' := 0) (ms' := 0) hMt hC hlk hd (H.sh he) hst hn hW (Nat.le_refl 0) (Nat.le_refl 0) hdg (fun v h' hq => ?_)
  obtain ⟨e1, e2⟩ := hq
  subst e1
  subst e2
  exact kk (r1, t1) H r s' g2
theorem ef_invSL {N : MI} {q idx d' n : Nat} {π : Nat → Nat} {ly' : LY} {As st : List Value} {av : GG → (Nat → Nat) → List Value} {fc : SS → Option (Int64 × SS)} {A : Int64 × SS → Option (ρ × SS)} {rest : List Value} {nn : Nat} (hM : MtF d' N ly' rvL av fc) (hm : layMap ly ly' π = true) (ha : av G (fun k => pl (π k)) = As) (hC : CalS N n) (hlk : Cond.methodLink (moM M) idx (myM N) ∈ TT) (hd : d' + 1 ≤ d) (hst : st = As.reverse ++ rest) (hn : As.length = n) (hW : (rest.map fun v => v.category).sum ≤ 8) (hdg : decode (mbM M) pc = .ok (.invokestatic idx, 3)) (hq : pc + 3 = q) (hnn : ly'.length = nn)
    (kk : ∀ x : Int64 × SS, EvF G d M ly pl h0 rv (A x) q lv (.long x.1 :: rest) (mrgS π nn s x.2)) : EvF G d M ly pl h0 rv ((fc (selS π s)).bind A) pc lv st s := fun H r s' hf => by
  subst hq
  obtain ⟨⟨r1, t1⟩, g1, g2⟩ := Option.bind_eq_some_iff.mp hf
  subst hnn
  obtain ⟨m1, m2, -⟩ := layMap_spec hm
  have hMt : MtG G d' N 0 0 (av G (fun k => pl (π k))) (LH (fun k => pl (π k)) ly'.length (LH pl ly.length h0 s) (selS π s)) (Qf rvL (fun k => pl (π k)) ly'.length (LH pl ly.length h0 s) r1 t1) := hM (fun k => pl (π k)) (LH pl ly.length h0 s) ((H.LH).sub hm) (selS π s) r1 t1 g1 G
  rw [LH_sel H.1 m1 m2, ha] at hMt
  refine ev_invS (mc' := 0) (ms' := 0) hMt hC hlk hd hst hn hW (Nat.le_refl 0) (Nat.le_refl 0) hdg (fun v h' hq => ?_)
  obtain ⟨e1, e2⟩ := hq
  subst e1
  subst e2
  rw [LH_call H.1 m1 m2]
  exact kk (r1, t1) H r s' g2
theorem ef_invSL0 {N : MI} {q idx d' n : Nat} {As st : List Value} {av : GG → (Nat → Nat) → List Value} {fc : SS → Option (Int64 × SS)} {A : Int64 × SS → Option (ρ × SS)} {rest : List Value} (hM : MtF d' N ly rvL av fc) (ha : av G pl = As) (hC : CalS N n) (hlk : Cond.methodLink (moM M) idx (myM N) ∈ TT) (hd : d' + 1 ≤ d) (hst : st = As.reverse ++ rest) (hn : As.length = n) (hW : (rest.map fun v => v.category).sum ≤ 8) (hdg : decode (mbM M) pc = .ok (.invokestatic idx, 3)) (hq : pc + 3 = q)
    (kk : ∀ x : Int64 × SS, EvF G d M ly pl h0 rv (A x) q lv (.long x.1 :: rest) (x.2)) : EvF G d M ly pl h0 rv ((fc s).bind A) pc lv st s := fun H r s' hf => by
  subst hq
  obtain ⟨⟨r1, t1⟩, g1, g2⟩ := Option.bind_eq_some_iff.mp hf
  have hMt : MtG G d' N 0 0 (av G pl) (LH pl ly.length h0 s) (Qf rvL pl ly.length h0 r1 t1) := hM pl h0 H s r1 t1 g1 G
  rw [ha] at hMt
  refine ev_invS (mc' := 0) (ms' := 0) hMt hC hlk hd hst hn hW (Nat.le_refl 0) (Nat.le_refl 0) hdg (fun v h' hq => ?_)
  obtain ⟨e1, e2⟩ := hq
  subst e1
  subst e2
  exact kk (r1, t1) H r s' g2
theorem ef_invPL0 {N : MI} {q idx d' n : Nat} {As st : List Value} {av : GG → (Nat → Nat) → List Value} {fc : SS → Option (Int64 × SS)} {A : Int64 × SS → Option (ρ × SS)} {rest : List Value} (hM : MtF d' N [] rvL av fc) (ha : av G pl = As) (hC : CalS N n) (hlk : Cond.methodLink (moM M) idx (myM N) ∈ TT) (hd : d' + 1 ≤ d) (hst : st = As.reverse ++ rest) (hn : As.length = n) (hW : (rest.map fun v => v.category).sum ≤ 8) (hdg : decode (mbM M) pc = .ok (.invokestatic idx, 3)) (hq : pc + 3 = q)
    (kk : ∀ x : Int64 × SS, EvF G d M ly pl h0 rv (A x) q lv (.long x.1 :: rest) (s)) : EvF G d M ly pl h0 rv ((fc s).bind A) pc lv st s := fun H r s' hf => by
  subst hq
  obtain ⟨⟨r1, t1⟩, g1, g2⟩ := Option.bind_eq_some_iff.mp hf
  have hMt : MtG G d' N 0 0 (av G pl) (LH pl ly.length h0 s) (Qf rvL pl 0 (LH pl ly.length h0 s) r1 t1) := hM pl (LH pl ly.length h0 s) ⟨fun i j hi => absurd hi (Nat.not_lt_zero i), fun k e hk => by simp at hk⟩ s r1 t1 g1 G
  rw [ha] at hMt
  refine ev_invS (mc' := 0) (ms' := 0) hMt hC hlk hd hst hn hW (Nat.le_refl 0) (Nat.le_refl 0) hdg (fun v h' hq => ?_)
  obtain ⟨e1, e2⟩ := hq
  subst e1
  subst e2
  exact kk (r1, t1) H r s' g2
/-- the ends -/
theorem ef_iret {x : Int32} (hr : mrM M = some .int) (hdg : decode (mbM M) pc = .ok (.ireturn, 1)) : EvF G d M ly pl h0 rvI (some (x, s)) pc lv [.int x] s := fun H r s' hf => by
  cases hf
  exact ev_iret hr ⟨rfl, rfl⟩ (Nat.le_refl 0) (Nat.le_refl 0) hdg
theorem ef_zret {x : Int32} (hr : mrM M = some .boolean) (hdg : decode (mbM M) pc = .ok (.ireturn, 1)) : EvF G d M ly pl h0 rvI (some (nbZ x, s)) pc lv [.int x] s := fun H r s' hf => by
  cases hf
  exact ev_zret hr ⟨rfl, rfl⟩ (Nat.le_refl 0) (Nat.le_refl 0) hdg
theorem ef_zretc {x : Int32} (hx : nbZ x = x) (hr : mrM M = some .boolean) (hdg : decode (mbM M) pc = .ok (.ireturn, 1)) : EvF G d M ly pl h0 rvI (some (x, s)) pc lv [.int x] s := fun H r s' hf => by
  cases hf
  exact ev_zret hr ⟨by rw [hx]; rfl, rfl⟩ (Nat.le_refl 0) (Nat.le_refl 0) hdg
theorem ef_dec {c : Prop} [Decidable c] {A B : Option (ρ × SS)} {st : List Value} (kt : c → EvF G d M ly pl h0 rv A pc lv st s) (kf : ¬ c → EvF G d M ly pl h0 rv B pc lv st s) : EvF G d M ly pl h0 rv (if c then A else B) pc lv st s := fun H r s' hf => by
  by_cases z : c
  · exact kt z H r s' (by rw [if_pos z] at hf; exact hf)
  · exact kf z H r s' (by rw [if_neg z] at hf; exact hf)
theorem ne_toI {x c : Int32} {k : Int} (h : ¬ x = c) (hc : c.toInt = k) : x.toInt ≠ k := fun e => h (Int32.toInt_inj.mp (e.trans hc.symm))
theorem ef_lret {x : Int64} (hr : mrM M = some .long) (hdg : decode (mbM M) pc = .ok (.lreturn, 1)) : EvF G d M ly pl h0 rvL (some (x, s)) pc lv [.long x] s := fun H r s' hf => by
  cases hf
  exact ev_lret hr ⟨rfl, rfl⟩ (Nat.le_refl 0) (Nat.le_refl 0) hdg
theorem ef_vret (hr : mrM M = none) (hdg : decode (mbM M) pc = .ok (.return_, 1)) : EvF G d M ly pl h0 rvU (some ((), s)) pc lv [] s := fun H r s' hf => by
  cases hf
  exact ev_vret hr ⟨rfl, rfl⟩ (Nat.le_refl 0) (Nat.le_refl 0) hdg
theorem ef_none {st : List Value} : EvF G d M ly pl h0 rv none pc lv st s := fun H r s' hf => by cases hf
/-- a straight instruction's rule, lifted -/
theorem ef_of {pc2 : Nat} {lv2 : List (Nat × Value)} {st st2 : List Value} (rule : ∀ (r : ρ) (s' : SS), Ev G d M 0 0 (Qf rv pl ly.length h0 r s') 0 0 pc2 lv2 st2 (LH pl ly.length h0 s) → Ev G d M 0 0 (Qf rv pl ly.length h0 r s') 0 0 pc lv st (LH pl ly.length h0 s)) (kk : EvF G d M ly pl h0 rv f pc2 lv2 st2 s) : EvF G d M ly pl h0 rv f pc lv st s := fun H r s' hf => rule r s' (kk H r s' hf)
end EVF
section EFL
variable {G : GG} {d : Nat} {M : MI} {ly : LY} {pl : Nat → Nat} {h0 : PH} {ρ : Type} {rv : ρ → Option Value} {f : Option (ρ × SS)} {pc : Nat} {lv : List (Nat × Value)} {rest : List Value} {s : SS}
theorem ef_iconst {q : Nat} {n : Int} {v : Int32} (hdg : decode (mbM M) pc = .ok (.iconst n, 1)) (hv : Int32.ofInt n = v) (hq : pc + 1 = q) (kk : EvF G d M ly pl h0 rv f q lv (.int v :: rest) s) : EvF G d M ly pl h0 rv f pc lv (rest) s := fun H r s' hf => by subst hq; exact ev_iconst hdg hv (kk H r s' hf)
theorem ef_bipush {q : Nat} {n : Int} {v : Int32} (hdg : decode (mbM M) pc = .ok (.bipush n, 2)) (hv : (Int8.ofInt n).toInt32 = v) (hq : pc + 2 = q) (kk : EvF G d M ly pl h0 rv f q lv (.int v :: rest) s) : EvF G d M ly pl h0 rv f pc lv (rest) s := fun H r s' hf => by subst hq; exact ev_bipush hdg hv (kk H r s' hf)
theorem ef_sipush {q : Nat} {n : Int} {v : Int32} (hdg : decode (mbM M) pc = .ok (.sipush n, 3)) (hv : (Int16.ofInt n).toInt32 = v) (hq : pc + 3 = q) (kk : EvF G d M ly pl h0 rv f q lv (.int v :: rest) s) : EvF G d M ly pl h0 rv f pc lv (rest) s := fun H r s' hf => by subst hq; exact ev_sipush hdg hv (kk H r s' hf)
theorem ef_lconst {q : Nat} {n : Fin 2} {v : Int64} (hdg : decode (mbM M) pc = .ok (.lconst n, 1)) (hv : Int64.ofNat (n : Nat) = v) (hq : pc + 1 = q) (kk : EvF G d M ly pl h0 rv f q lv (.long v :: rest) s) : EvF G d M ly pl h0 rv f pc lv (rest) s := fun H r s' hf => by subst hq; exact ev_lconst hdg hv (kk H r s' hf)
theorem ef_iadd {q : Nat} {x y : Int32} (hdg : decode (mbM M) pc = .ok (.iadd, 1)) (hq : pc + 1 = q) (kk : EvF G d M ly pl h0 rv f q lv (.int (x + y) :: rest) s) : EvF G d M ly pl h0 rv f pc lv (.int y :: .int x :: rest) s := fun H r s' hf => by subst hq; exact ev_iadd hdg (kk H r s' hf)
theorem ef_isub {q : Nat} {x y : Int32} (hdg : decode (mbM M) pc = .ok (.isub, 1)) (hq : pc + 1 = q) (kk : EvF G d M ly pl h0 rv f q lv (.int (x - y) :: rest) s) : EvF G d M ly pl h0 rv f pc lv (.int y :: .int x :: rest) s := fun H r s' hf => by subst hq; exact ev_isub hdg (kk H r s' hf)
theorem ef_imul {q : Nat} {x y : Int32} (hdg : decode (mbM M) pc = .ok (.imul, 1)) (hq : pc + 1 = q) (kk : EvF G d M ly pl h0 rv f q lv (.int (x * y) :: rest) s) : EvF G d M ly pl h0 rv f pc lv (.int y :: .int x :: rest) s := fun H r s' hf => by subst hq; exact ev_imul hdg (kk H r s' hf)
theorem ef_idiv {q : Nat} {x y : Int32} (hdg : decode (mbM M) pc = .ok (.idiv, 1)) (hne : ¬ y = 0) (hq : pc + 1 = q) (kk : EvF G d M ly pl h0 rv f q lv (.int (x / y) :: rest) s) : EvF G d M ly pl h0 rv f pc lv (.int y :: .int x :: rest) s := fun H r s' hf => by subst hq; exact ev_idiv hdg hne (kk H r s' hf)
theorem ef_irem {q : Nat} {x y : Int32} (hdg : decode (mbM M) pc = .ok (.irem, 1)) (hne : ¬ y = 0) (hq : pc + 1 = q) (kk : EvF G d M ly pl h0 rv f q lv (.int (x - x / y * y) :: rest) s) : EvF G d M ly pl h0 rv f pc lv (.int y :: .int x :: rest) s := fun H r s' hf => by subst hq; exact ev_irem hdg hne (kk H r s' hf)
theorem ef_ineg {q : Nat} {x : Int32} (hdg : decode (mbM M) pc = .ok (.ineg, 1)) (hq : pc + 1 = q) (kk : EvF G d M ly pl h0 rv f q lv (.int (-x) :: rest) s) : EvF G d M ly pl h0 rv f pc lv (.int x :: rest) s := fun H r s' hf => by subst hq; exact ev_ineg hdg (kk H r s' hf)
theorem ef_iand {q : Nat} {x y : Int32} (hdg : decode (mbM M) pc = .ok (.iand, 1)) (hq : pc + 1 = q) (kk : EvF G d M ly pl h0 rv f q lv (.int (x &&& y) :: rest) s) : EvF G d M ly pl h0 rv f pc lv (.int y :: .int x :: rest) s := fun H r s' hf => by subst hq; exact ev_iand hdg (kk H r s' hf)
theorem ef_ior {q : Nat} {x y : Int32} (hdg : decode (mbM M) pc = .ok (.ior, 1)) (hq : pc + 1 = q) (kk : EvF G d M ly pl h0 rv f q lv (.int (x ||| y) :: rest) s) : EvF G d M ly pl h0 rv f pc lv (.int y :: .int x :: rest) s := fun H r s' hf => by subst hq; exact ev_ior hdg (kk H r s' hf)
theorem ef_ixor {q : Nat} {x y : Int32} (hdg : decode (mbM M) pc = .ok (.ixor, 1)) (hq : pc + 1 = q) (kk : EvF G d M ly pl h0 rv f q lv (.int (x ^^^ y) :: rest) s) : EvF G d M ly pl h0 rv f pc lv (.int y :: .int x :: rest) s := fun H r s' hf => by subst hq; exact ev_ixor hdg (kk H r s' hf)
theorem ef_ishl {q : Nat} {x y : Int32} (hdg : decode (mbM M) pc = .ok (.ishl, 1)) (hq : pc + 1 = q) (kk : EvF G d M ly pl h0 rv f q lv (.int (x <<< (y &&& 31)) :: rest) s) : EvF G d M ly pl h0 rv f pc lv (.int y :: .int x :: rest) s := fun H r s' hf => by subst hq; exact ev_ishl hdg (kk H r s' hf)
theorem ef_ishr {q : Nat} {x y : Int32} (hdg : decode (mbM M) pc = .ok (.ishr, 1)) (hq : pc + 1 = q) (kk : EvF G d M ly pl h0 rv f q lv (.int (x >>> (y &&& 31)) :: rest) s) : EvF G d M ly pl h0 rv f pc lv (.int y :: .int x :: rest) s := fun H r s' hf => by subst hq; exact ev_ishr hdg (kk H r s' hf)
theorem ef_iushr {q : Nat} {x y v : Int32} (hdg : decode (mbM M) pc = .ok (.iushr, 1)) (hv : (x.toUInt32 >>> (y.toUInt32 &&& Int32.toUInt32 31)).toInt32 = v) (hq : pc + 1 = q) (kk : EvF G d M ly pl h0 rv f q lv (.int v :: rest) s) : EvF G d M ly pl h0 rv f pc lv (.int y :: .int x :: rest) s := fun H r s' hf => by subst hq; exact ev_iushr hdg hv (kk H r s' hf)
theorem ef_ladd {q : Nat} {x y : Int64} (hdg : decode (mbM M) pc = .ok (.ladd, 1)) (hq : pc + 1 = q) (kk : EvF G d M ly pl h0 rv f q lv (.long (x + y) :: rest) s) : EvF G d M ly pl h0 rv f pc lv (.long y :: .long x :: rest) s := fun H r s' hf => by subst hq; exact ev_ladd hdg (kk H r s' hf)
theorem ef_lsub {q : Nat} {x y : Int64} (hdg : decode (mbM M) pc = .ok (.lsub, 1)) (hq : pc + 1 = q) (kk : EvF G d M ly pl h0 rv f q lv (.long (x - y) :: rest) s) : EvF G d M ly pl h0 rv f pc lv (.long y :: .long x :: rest) s := fun H r s' hf => by subst hq; exact ev_lsub hdg (kk H r s' hf)
theorem ef_lmul {q : Nat} {x y : Int64} (hdg : decode (mbM M) pc = .ok (.lmul, 1)) (hq : pc + 1 = q) (kk : EvF G d M ly pl h0 rv f q lv (.long (x * y) :: rest) s) : EvF G d M ly pl h0 rv f pc lv (.long y :: .long x :: rest) s := fun H r s' hf => by subst hq; exact ev_lmul hdg (kk H r s' hf)
theorem ef_land {q : Nat} {x y : Int64} (hdg : decode (mbM M) pc = .ok (.land, 1)) (hq : pc + 1 = q) (kk : EvF G d M ly pl h0 rv f q lv (.long (x &&& y) :: rest) s) : EvF G d M ly pl h0 rv f pc lv (.long y :: .long x :: rest) s := fun H r s' hf => by subst hq; exact ev_land hdg (kk H r s' hf)
theorem ef_lor {q : Nat} {x y : Int64} (hdg : decode (mbM M) pc = .ok (.lor, 1)) (hq : pc + 1 = q) (kk : EvF G d M ly pl h0 rv f q lv (.long (x ||| y) :: rest) s) : EvF G d M ly pl h0 rv f pc lv (.long y :: .long x :: rest) s := fun H r s' hf => by subst hq; exact ev_lor hdg (kk H r s' hf)
theorem ef_lshl {q : Nat} {x v : Int64} {y : Int32} (hdg : decode (mbM M) pc = .ok (.lshl, 1)) (hv : x <<< (y.toInt64 &&& 63) = v) (hq : pc + 1 = q) (kk : EvF G d M ly pl h0 rv f q lv (.long v :: rest) s) : EvF G d M ly pl h0 rv f pc lv (.int y :: .long x :: rest) s := fun H r s' hf => by subst hq; exact ev_lshl hdg hv (kk H r s' hf)
theorem ef_i2l {q : Nat} {x : Int32} {v : Int64} (hdg : decode (mbM M) pc = .ok (.i2l, 1)) (hv : x.toInt64 = v) (hq : pc + 1 = q) (kk : EvF G d M ly pl h0 rv f q lv (.long v :: rest) s) : EvF G d M ly pl h0 rv f pc lv (.int x :: rest) s := fun H r s' hf => by subst hq; exact ev_i2l hdg hv (kk H r s' hf)
theorem ef_l2i {q : Nat} {x : Int64} {v : Int32} (hdg : decode (mbM M) pc = .ok (.l2i, 1)) (hv : x.toInt32 = v) (hq : pc + 1 = q) (kk : EvF G d M ly pl h0 rv f q lv (.int v :: rest) s) : EvF G d M ly pl h0 rv f pc lv (.long x :: rest) s := fun H r s' hf => by subst hq; exact ev_l2i hdg hv (kk H r s' hf)
theorem ef_i2b {q : Nat} {x : Int32} {v : Int32} (hdg : decode (mbM M) pc = .ok (.i2b, 1)) (hv : x.toInt8.toInt32 = v) (hq : pc + 1 = q) (kk : EvF G d M ly pl h0 rv f q lv (.int v :: rest) s) : EvF G d M ly pl h0 rv f pc lv (.int x :: rest) s := fun H r s' hf => by subst hq; exact ev_i2b hdg hv (kk H r s' hf)
theorem ef_i2s {q : Nat} {x : Int32} {v : Int32} (hdg : decode (mbM M) pc = .ok (.i2s, 1)) (hv : x.toInt16.toInt32 = v) (hq : pc + 1 = q) (kk : EvF G d M ly pl h0 rv f q lv (.int v :: rest) s) : EvF G d M ly pl h0 rv f pc lv (.int x :: rest) s := fun H r s' hf => by subst hq; exact ev_i2s hdg hv (kk H r s' hf)
theorem ef_dup {q : Nat} {va : Value} (hdg : decode (mbM M) pc = .ok (.dup, 1)) (hva : va.category = 1) (hq : pc + 1 = q) (kk : EvF G d M ly pl h0 rv f q lv (va :: va :: rest) s) : EvF G d M ly pl h0 rv f pc lv (va :: rest) s := fun H r s' hf => by subst hq; exact ev_dup hdg hva (kk H r s' hf)
theorem ef_pop {q : Nat} {va : Value} (hdg : decode (mbM M) pc = .ok (.pop, 1)) (hva : va.category = 1) (hq : pc + 1 = q) (kk : EvF G d M ly pl h0 rv f q lv (rest) s) : EvF G d M ly pl h0 rv f pc lv (va :: rest) s := fun H r s' hf => by subst hq; exact ev_pop hdg hva (kk H r s' hf)
theorem ef_dup_x1 {q : Nat} {va vb : Value} (hdg : decode (mbM M) pc = .ok (.dup_x1, 1)) (hva : va.category = 1) (hvb : vb.category = 1) (hq : pc + 1 = q) (kk : EvF G d M ly pl h0 rv f q lv (va :: vb :: va :: rest) s) : EvF G d M ly pl h0 rv f pc lv (va :: vb :: rest) s := fun H r s' hf => by subst hq; exact ev_dup_x1 hdg hva hvb (kk H r s' hf)
theorem ef_dup_x2 {q : Nat} {va vb vd : Value} (hdg : decode (mbM M) pc = .ok (.dup_x2, 1)) (hva : va.category = 1) (hvb : vb.category = 1) (hvd : vd.category = 1) (hq : pc + 1 = q) (kk : EvF G d M ly pl h0 rv f q lv (va :: vb :: vd :: va :: rest) s) : EvF G d M ly pl h0 rv f pc lv (va :: vb :: vd :: rest) s := fun H r s' hf => by subst hq; exact ev_dup_x2 hdg hva hvb hvd (kk H r s' hf)
theorem ef_dup2_11 {q : Nat} {va vb : Value} (hdg : decode (mbM M) pc = .ok (.dup2, 1)) (hva : va.category = 1) (hvb : vb.category = 1) (hq : pc + 1 = q) (kk : EvF G d M ly pl h0 rv f q lv (va :: vb :: va :: vb :: rest) s) : EvF G d M ly pl h0 rv f pc lv (va :: vb :: rest) s := fun H r s' hf => by subst hq; exact ev_dup2_11 hdg hva hvb (kk H r s' hf)
theorem ef_goto {off : Int} {tgt : Nat} (hdg : decode (mbM M) pc = .ok (.goto off, 3)) (ht : (pc : Int) + off = (tgt : Int)) (kk : EvF G d M ly pl h0 rv f tgt lv rest s) : EvF G d M ly pl h0 rv f pc lv rest s := fun H r s' hf => ev_goto hdg ht (kk H r s' hf)
theorem ef_iload_n {q : Nat} {k : Fin 4} {i : Nat} {x : Int32} (j : Nat) (hdg : decode (mbM M) pc = .ok (.iload_n k, 1)) (hi : (k : Nat) = i) (hj : lv[j]? = some (i, .int x)) (hq : pc + 1 = q) (kk : EvF G d M ly pl h0 rv f q lv (.int x :: rest) s) : EvF G d M ly pl h0 rv f pc lv rest s := fun H r s' hf => by subst hq; exact ev_iload_n j hdg hi hj (kk H r s' hf)
theorem ef_iload {q : Nat} {i : Nat} {x : Int32} (j : Nat) (hdg : decode (mbM M) pc = .ok (.iload i, 2)) (hj : lv[j]? = some (i, .int x)) (hq : pc + 2 = q) (kk : EvF G d M ly pl h0 rv f q lv (.int x :: rest) s) : EvF G d M ly pl h0 rv f pc lv rest s := fun H r s' hf => by subst hq; exact ev_iload j hdg hj (kk H r s' hf)
theorem ef_lload_n {q : Nat} {k : Fin 4} {i : Nat} {x : Int64} (j : Nat) (hdg : decode (mbM M) pc = .ok (.lload_n k, 1)) (hi : (k : Nat) = i) (hj : lv[j]? = some (i, .long x)) (hq : pc + 1 = q) (kk : EvF G d M ly pl h0 rv f q lv (.long x :: rest) s) : EvF G d M ly pl h0 rv f pc lv rest s := fun H r s' hf => by subst hq; exact ev_lload_n j hdg hi hj (kk H r s' hf)
theorem ef_lload {q : Nat} {i : Nat} {x : Int64} (j : Nat) (hdg : decode (mbM M) pc = .ok (.lload i, 2)) (hj : lv[j]? = some (i, .long x)) (hq : pc + 2 = q) (kk : EvF G d M ly pl h0 rv f q lv (.long x :: rest) s) : EvF G d M ly pl h0 rv f pc lv rest s := fun H r s' hf => by subst hq; exact ev_lload j hdg hj (kk H r s' hf)
theorem ef_aload_n {q : Nat} {k : Fin 4} {i x : Nat} (j : Nat) (hdg : decode (mbM M) pc = .ok (.aload_n k, 1)) (hi : (k : Nat) = i) (hj : lv[j]? = some (i, .ref x)) (hq : pc + 1 = q) (kk : EvF G d M ly pl h0 rv f q lv (.ref x :: rest) s) : EvF G d M ly pl h0 rv f pc lv rest s := fun H r s' hf => by subst hq; exact ev_aload_n j hdg hi hj (kk H r s' hf)
theorem ef_aload {q : Nat} {i x : Nat} (j : Nat) (hdg : decode (mbM M) pc = .ok (.aload i, 2)) (hj : lv[j]? = some (i, .ref x)) (hq : pc + 2 = q) (kk : EvF G d M ly pl h0 rv f q lv (.ref x :: rest) s) : EvF G d M ly pl h0 rv f pc lv rest s := fun H r s' hf => by subst hq; exact ev_aload j hdg hj (kk H r s' hf)
theorem ef_istore_n {q : Nat} {k : Fin 4} {i : Nat} {x : Int32} {lv' : List (Nat × Value)} (hdg : decode (mbM M) pc = .ok (.istore_n k, 1)) (hi : (k : Nat) = i) (hn : i < mlM M) (hl' : (i, Value.int x) :: lv.filter (fun q => !(q.1 == i) && !(q.1 + 1 == i && q.2.category == 2)) = lv') (hq : pc + 1 = q) (kk : EvF G d M ly pl h0 rv f q lv' rest s) : EvF G d M ly pl h0 rv f pc lv (.int x :: rest) s := fun H r s' hf => by subst hq; exact ev_istore_n hdg hi hn hl' (kk H r s' hf)
theorem ef_istore {q : Nat} {i : Nat} {x : Int32} {lv' : List (Nat × Value)} (hdg : decode (mbM M) pc = .ok (.istore i, 2)) (hn : i < mlM M) (hl' : (i, Value.int x) :: lv.filter (fun q => !(q.1 == i) && !(q.1 + 1 == i && q.2.category == 2)) = lv') (hq : pc + 2 = q) (kk : EvF G d M ly pl h0 rv f q lv' rest s) : EvF G d M ly pl h0 rv f pc lv (.int x :: rest) s := fun H r s' hf => by subst hq; exact ev_istore hdg hn hl' (kk H r s' hf)
theorem ef_lstore_n {q : Nat} {k : Fin 4} {i : Nat} {x : Int64} {lv' : List (Nat × Value)} (hdg : decode (mbM M) pc = .ok (.lstore_n k, 1)) (hi : (k : Nat) = i) (hn : i + 1 < mlM M) (hl' : (i, Value.long x) :: lv.filter (fun q => !(q.1 == i) && (!(q.1 == i + 1) && !(q.1 + 1 == i && q.2.category == 2))) = lv') (hq : pc + 1 = q) (kk : EvF G d M ly pl h0 rv f q lv' rest s) : EvF G d M ly pl h0 rv f pc lv (.long x :: rest) s := fun H r s' hf => by subst hq; exact ev_lstore_n hdg hi hn hl' (kk H r s' hf)
theorem ef_lstore {q : Nat} {i : Nat} {x : Int64} {lv' : List (Nat × Value)} (hdg : decode (mbM M) pc = .ok (.lstore i, 2)) (hn : i + 1 < mlM M) (hl' : (i, Value.long x) :: lv.filter (fun q => !(q.1 == i) && (!(q.1 == i + 1) && !(q.1 + 1 == i && q.2.category == 2))) = lv') (hq : pc + 2 = q) (kk : EvF G d M ly pl h0 rv f q lv' rest s) : EvF G d M ly pl h0 rv f pc lv (.long x :: rest) s := fun H r s' hf => by subst hq; exact ev_lstore hdg hn hl' (kk H r s' hf)
theorem ef_astore_n {q : Nat} {k : Fin 4} {i x : Nat} {lv' : List (Nat × Value)} (hdg : decode (mbM M) pc = .ok (.astore_n k, 1)) (hi : (k : Nat) = i) (hn : i < mlM M) (hl' : (i, Value.ref x) :: lv.filter (fun q => !(q.1 == i) && !(q.1 + 1 == i && q.2.category == 2)) = lv') (hq : pc + 1 = q) (kk : EvF G d M ly pl h0 rv f q lv' rest s) : EvF G d M ly pl h0 rv f pc lv (.ref x :: rest) s := fun H r s' hf => by subst hq; exact ev_astore_n hdg hi hn hl' (kk H r s' hf)
theorem ef_astore {q : Nat} {i x : Nat} {lv' : List (Nat × Value)} (hdg : decode (mbM M) pc = .ok (.astore i, 2)) (hn : i < mlM M) (hl' : (i, Value.ref x) :: lv.filter (fun q => !(q.1 == i) && !(q.1 + 1 == i && q.2.category == 2)) = lv') (hq : pc + 2 = q) (kk : EvF G d M ly pl h0 rv f q lv' rest s) : EvF G d M ly pl h0 rv f pc lv (.ref x :: rest) s := fun H r s' hf => by subst hq; exact ev_astore hdg hn hl' (kk H r s' hf)
theorem ef_iinc {q : Nat} {i : Nat} {n : Int} {x v : Int32} {lv' : List (Nat × Value)} (j : Nat) (hdg : decode (mbM M) pc = .ok (.iinc i n, 3)) (hj : lv[j]? = some (i, .int x)) (hv : x + Int32.ofInt n = v) (hn : i < mlM M) (hl' : (i, Value.int v) :: lv.filter (fun q => !(q.1 == i) && !(q.1 + 1 == i && q.2.category == 2)) = lv') (hq : pc + 3 = q) (kk : EvF G d M ly pl h0 rv f q lv' rest s) : EvF G d M ly pl h0 rv f pc lv rest s := fun H r s' hf => by subst hq; exact ev_iinc j hdg hj hv hn hl' (kk H r s' hf)
theorem ef_sub {lv' : List (Nat × Value)} (js : List Nat) (hj : lv_pick lv js = lv') (kk : EvF G d M ly pl h0 rv f pc lv' rest s) : EvF G d M ly pl h0 rv f pc lv rest s := fun H r s' hf => ev_sub js hj (kk H r s' hf)
theorem ef_lcmp {q : Nat} {x y : Int64} (hdg : decode (mbM M) pc = .ok (.lcmp, 1)) (hq : pc + 1 = q) (kk : EvF G d M ly pl h0 rv f q lv (.int (lg_cmp x y) :: rest) s) : EvF G d M ly pl h0 rv f pc lv (.long y :: .long x :: rest) s := fun H r s' hf => by subst hq; exact ev_lcmp hdg (kk H r s' hf)
theorem ef_ldc {q : Nat} {index : Nat} {v : Int32} (hc : Cond.constant (moM M) index v ∈ TT) (hdg : decode (mbM M) pc = .ok (.ldc index, 2)) (hq : pc + 2 = q) (kk : EvF G d M ly pl h0 rv f q lv (.int v :: rest) s) : EvF G d M ly pl h0 rv f pc lv rest s := fun H r s' hf => by subst hq; exact ev_ldc hc hdg (kk H r s' hf)
theorem ef_ldc2 {q : Nat} {index : Nat} {v : Int64} (hc : Cond.constantLong (moM M) index v ∈ TT) (hdg : decode (mbM M) pc = .ok (.ldc2_w index, 3)) (hq : pc + 3 = q) (kk : EvF G d M ly pl h0 rv f q lv (.long v :: rest) s) : EvF G d M ly pl h0 rv f pc lv rest s := fun H r s' hf => by subst hq; exact ev_ldc2 hc hdg (kk H r s' hf)
theorem ef_ldcw {q : Nat} {index : Nat} {v : Int32} (hc : Cond.constant (moM M) index v ∈ TT) (hdg : decode (mbM M) pc = .ok (.ldc_w index, 3)) (hq : pc + 3 = q) (kk : EvF G d M ly pl h0 rv f q lv (.int v :: rest) s) : EvF G d M ly pl h0 rv f pc lv rest s := fun H r s' hf => by subst hq; exact ev_ldcw hc hdg (kk H r s' hf)
theorem ef_ldcS {q : Nat} {index i : Nat} (hi : i < 14) (ho : strOwn i = moM M) (hx : strIdx i = index) (hdg : decode (mbM M) pc = .ok (.ldc index, 2)) (hq : pc + 2 = q) (kk : EvF G d M ly pl h0 rv f q lv (.ref (G.2.2.2.1 (i % 7)) :: rest) s) : EvF G d M ly pl h0 rv f pc lv rest s := fun H r s' hf => by subst hq; exact ev_ldcS hi ho hx hdg (kk H r s' hf)
end EFL
end
section
/-! Math.min and System.arraycopy -/
def updA {α : Type} (S : Nat → Nat → α) (a : Nat) (g : Nat → α) : Nat → Nat → α := fun q => if q = a then g else S q
theorem updA_same {α : Type} {S : Nat → Nat → α} {a : Nat} {g : Nat → α} : updA S a g a = g := by simp [updA]
theorem updA_ne {α : Type} {S : Nat → Nat → α} {a q : Nat} {g : Nat → α} (z : q ≠ a) : updA S a g q = S q := by simp [updA, z]
theorem mrg_setA {α : Type} {pl : Nat → Nat} {S C : Nat → Nat → α} {n k : Nat} {g : Nat → α} (hi : injN pl n) (hk : k < n) : updA (mrg pl n S C) (pl k) g = mrg pl n S (updA C k g) := by
  funext q
  rcases mrg_cases (pl := pl) n q with ⟨j, hj, rfl⟩ | hq
  · rw [mrg_at hi hj]
    by_cases z : j = k
    · subst z
      rw [updA_same, updA_same]
    · rw [updA_ne (fun e => z (hi j k hj hk e)), updA_ne z, mrg_at hi hj]
  · rw [mrg_off hq, updA_ne (hq k hk), mrg_off hq]
def wrA (s : SS) (k : Nat) (g : Nat → Int32) : SS := (updA s.1 k g, s.2)
def wrAL (s : SS) (k : Nat) (g : Nat → Int64) : SS := (s.1, updA s.2 k g)
theorem LH_wrA {pl : Nat → Nat} {n : Nat} {h0 : PH} {s : SS} {k : Nat} {g : Nat → Int32} (hi : injN pl n) (hk : k < n) : LH pl n h0 (wrA s k g) = (h0.1, h0.2.1, h0.2.2.1, updA (LH pl n h0 s).2.2.2.1 (pl k) g, (LH pl n h0 s).2.2.2.2) := by
  unfold LH wrA
  simp only [mrg_setA hi hk]
theorem LH_wrAL {pl : Nat → Nat} {n : Nat} {h0 : PH} {s : SS} {k : Nat} {g : Nat → Int64} (hi : injN pl n) (hk : k < n) : LH pl n h0 (wrAL s k g) = (h0.1, h0.2.1, h0.2.2.1, (LH pl n h0 s).2.2.2.1, updA (LH pl n h0 s).2.2.2.2 (pl k) g) := by
  unfold LH wrAL
  simp only [mrg_setA hi hk]
abbrev acOK (sp dp n : Int32) (n0 n1 : Nat) : Prop := ¬ sp < 0 ∧ ¬ dp < 0 ∧ ¬ n < 0 ∧ sp.toNatClampNeg + n.toNatClampNeg ≤ n0 ∧ dp.toNatClampNeg + n.toNatClampNeg ≤ n1
theorem tt_min : Cond.static Lib.Math.min.name ∈ TT ∧ Cond.initialized "java/lang/Math" ∈ TT ∧ Cond.code Lib.Math.min.name Lib.Math.min.code 2 (some .int) ∈ TT := ⟨TT_in (by decide +kernel) rfl, TT_in (by decide +kernel) rfl, TT_in (by decide +kernel) rfl⟩
theorem tt_acp : Cond.native arraycopyName ∈ TT ∧ Cond.static arraycopyName ∈ TT ∧ Cond.initialized "java/lang/System" ∈ TT := ⟨TT_in (by decide +kernel) rfl, TT_in (by decide +kernel) rfl, TT_in (by decide +kernel) rfl⟩
theorem toInt_nn {z : Int32} (hz : ¬ z < 0) : z.toInt = (z.toNatClampNeg : Int) := by
  have hz0 : (0 : Int) ≤ z.toInt := by
    have := Int32.not_lt.mp hz
    simpa using Int32.le_iff_toInt_le.mp this
  show z.toInt = ((z.toInt.toNat : Nat) : Int)
  omega
section ECP
variable {G : GG} {d : Nat} {M : MI} {mc ms : Nat} {Q : Option Value → PH → Prop} {kc ks pc : Nat} {lv : List (Nat × Value)} {rest : List Value} {h : PH}
theorem ev_mmin {idx : Nat} {x y : Int32} (hlk : Cond.methodLink (moM M) idx Lib.Math.min.name ∈ TT) (hd : 1 ≤ d) (hW : (rest.map fun v => v.category).sum ≤ 8) (h1 : kc ≤ mc) (h2 : ks ≤ ms) (hdg : decode (mbM M) pc = .ok (.invokestatic idx, 3))
    (kk : Ev G d M mc ms Q kc ks (pc + 3) lv (.int (if y < x then y else x) :: rest) h) : Ev G d M mc ms Q kc ks pc lv (.int y :: .int x :: rest) h := by
  intro p l e s m args below meth c H locs ls X R L hl
  have hts : ∀ w ∈ TT, w.before args s = true := fun w hw => X.2.2.2.2.1 w (List.mem_cons_of_mem _ hw)
  refine va_mmin X.1 X.2.1 (X.2.2.1.trans hl.1.symm) X.2.2.2.1 (hts _ hlk) (hts _ tt_min.1) (hts _ tt_min.2.1) (hts _ tt_min.2.2) hd ?_ h1 h2 hdg (kk p l e s m args below meth c H locs ls X R L hl)
  show _ + 13 ≤ 64 * d
  omega
theorem ev_acopyI {idx a0 a n0 n1 : Nat} {sp dp n : Int32} (hs0 : h.2.1 a0 = some (10, n0)) (hs1 : h.2.1 a = some (10, n1)) (hlk : Cond.methodLink (moM M) idx arraycopyName ∈ TT) (hok : acOK sp dp n n0 n1) (hd : 1 ≤ d) (hW : (rest.map fun v => v.category).sum ≤ 8) (hdg : decode (mbM M) pc = .ok (.invokestatic idx, 3))
    (kk : Ev G d M mc ms Q kc ks (pc + 3) lv rest (h.1, h.2.1, h.2.2.1, updA h.2.2.2.1 a (va_cpy (h.2.2.2.1 a0) (h.2.2.2.1 a) sp.toNatClampNeg dp.toNatClampNeg n.toNatClampNeg), h.2.2.2.2)) : Ev G d M mc ms Q kc ks pc lv (.int n :: .int dp :: .ref a :: .int sp :: .ref a0 :: rest) h := by
  intro p l e s m args below meth c H locs ls X R L hl
  have hts : ∀ w ∈ TT, w.before args s = true := fun w hw => X.2.2.2.2.1 w (List.mem_cons_of_mem _ hw)
  obtain ⟨h1, h2, h3, h4, h5⟩ := hok
  intro T hT X0
  obtain ⟨-, hc0⟩ := R.ints hs0
  obtain ⟨hga, hc1⟩ := R.ints hs1
  have hty := (X.2.2.2.2.2.2.2.1.1.2 0 _ (tysG_at G (by decide))).1
  obtain ⟨-, k0, hk0, cm0, hkk0⟩ := hty n0 (fun j => .int (h.2.2.2.1 a0 j))
  obtain ⟨-, k1, hk1, cm1, hkk1⟩ := hty n1 (fun j => .int (h.2.2.2.1 a j))
  have hnf : nativeFrameWords "java/lang/System" "arraycopy" 5 + 11 ≤ 56 := by decide +kernel
  obtain ⟨vm', X', step⟩ := X0.arraycopy X.1 X.2.2.2.1 (hts _ hlk) (hts _ tt_acp.1) (hts _ tt_acp.2.1) (hts _ tt_acp.2.2) (src := a0) (dst := a) (cs := arrV (G.2.1 0) n0 (fun j => .int (h.2.2.2.1 a0 j))) (cd := arrV (G.2.1 0) n1 (fun j => .int (h.2.2.2.1 a j))) (srcPos := sp) (destPos := dp) (n := n) (by rw [hT]; exact hc0) (by rw [hT]; exact hc1)
    (fun _ h => by cases h) (fun _ h => by cases h) (fun h => by cases h) (fun h => by cases h) hk0 hk1 hkk0 hkk1 (by simp [atyG, refKind]) h1 h2 h3
    (by rw [toInt_nn h1, toInt_nn h3, arrV_size]; omega)
    (by rw [toInt_nn h2, toInt_nn h3, arrV_size]; omega)
    (fun vm₁ _ i hi => by
      have e : (arrV (G.2.1 0) n0 (fun j => .int (h.2.2.2.1 a0 j))).slots.getD (sp.toNatClampNeg + i) .null = .int (h.2.2.2.1 a0 (sp.toNatClampNeg + i)) := by
        rw [Array.getD_eq_getD_getElem?, arrV_read _ _ (by omega)]
        rfl
      refine ⟨?_, ?_⟩
      · rw [e]
        rfl
      · rw [e]
        exact trivial)
    (g := F0 m pc ls (.int n :: .int dp :: .ref a :: .int sp :: .ref a0 :: rest)) rfl (by rw [X.2.2.1]; exact hl.1) (rest := rest) rfl (by rw [X.2.1]; exact hdg) hd (by show 2 * 0 + _ + _ ≤ 64 * d; omega)
  have e1 : copied (arrV (G.2.1 0) n0 (fun j => .int (h.2.2.2.1 a0 j))) (arrV (G.2.1 0) n1 (fun j => .int (h.2.2.2.1 a j))) sp dp n = arrV (G.2.1 0) n1 (fun j => .int (va_cpy (h.2.2.2.1 a0) (h.2.2.2.1 a) sp.toNatClampNeg dp.toNatClampNeg n.toNatClampNeg j)) := va_copied (fun z => .int z) (G.2.1 0) (G.2.1 0) (h.2.2.2.1 a0) (h.2.2.2.1 a) h4
  rw [e1] at X' step
  have hl2 : a < H.size := (Array.getElem?_eq_some_iff.mp hc1).1
  have hheap : ((T.setVm vm').setCell a (arrV (G.2.1 0) n1 (fun j => .int (va_cpy (h.2.2.2.1 a0) (h.2.2.2.1 a) sp.toNatClampNeg dp.toNatClampNeg n.toNatClampNeg j)))).heap = H.setIfInBounds a (arrV (G.2.1 0) n1 (fun j => .int (va_cpy (h.2.2.2.1 a0) (h.2.2.2.1 a) sp.toNatClampNeg dp.toNatClampNeg n.toNatClampNeg j))) := by rw [← hT]; rfl
  have oq : ∀ q : Nat, q ≠ a → (H.setIfInBounds a (arrV (G.2.1 0) n1 (fun j => .int (va_cpy (h.2.2.2.1 a0) (h.2.2.2.1 a) sp.toNatClampNeg dp.toNatClampNeg n.toNatClampNeg j))))[q]? = H[q]? := fun q hq => by simp [Array.getElem?_setIfInBounds, Ne.symm hq]
  obtain ⟨t, a1, b1⟩ := kk p l e s m args below meth c _ _ ls X (R.write (P := h.2.2.1) (S := updA h.2.2.2.1 a (va_cpy (h.2.2.2.1 a0) (h.2.2.2.1 a) sp.toNatClampNeg dp.toNatClampNeg n.toNatClampNeg)) (LL := h.2.2.2.2) hs1 (by simp) oq (fun q _ => rfl) (fun q z => updA_ne z) (fun q _ => rfl) (by
      unfold cellG
      rw [if_neg (show ¬ (10 : Nat) < 7 by decide), if_pos rfl]
      simp only [updA_same]
      simp [Array.getElem?_setIfInBounds, hl2])) (fun q hq => by
      rcases List.mem_append.mp hq with z | z
      · exact L q z
      · obtain ⟨w, -, hw⟩ := List.mem_map.mp z
        rw [← hw]
        exact hga) hl _ hheap X'
  exact ⟨t, step t a1, b1⟩
theorem ev_acopyL {idx a0 a n0 n1 : Nat} {sp dp n : Int32} (hs0 : h.2.1 a0 = some (11, n0)) (hs1 : h.2.1 a = some (11, n1)) (hlk : Cond.methodLink (moM M) idx arraycopyName ∈ TT) (hok : acOK sp dp n n0 n1) (hd : 1 ≤ d) (hW : (rest.map fun v => v.category).sum ≤ 8) (hdg : decode (mbM M) pc = .ok (.invokestatic idx, 3))
    (kk : Ev G d M mc ms Q kc ks (pc + 3) lv rest (h.1, h.2.1, h.2.2.1, h.2.2.2.1, updA h.2.2.2.2 a (va_cpy (h.2.2.2.2 a0) (h.2.2.2.2 a) sp.toNatClampNeg dp.toNatClampNeg n.toNatClampNeg))) : Ev G d M mc ms Q kc ks pc lv (.int n :: .int dp :: .ref a :: .int sp :: .ref a0 :: rest) h := by
  intro p l e s m args below meth c H locs ls X R L hl
  have hts : ∀ w ∈ TT, w.before args s = true := fun w hw => X.2.2.2.2.1 w (List.mem_cons_of_mem _ hw)
  obtain ⟨h1, h2, h3, h4, h5⟩ := hok
  intro T hT X0
  obtain ⟨-, hc0⟩ := R.lngs hs0
  obtain ⟨hga, hc1⟩ := R.lngs hs1
  have hty := (X.2.2.2.2.2.2.2.1.1.2 1 _ (tysG_at G (by decide))).1
  obtain ⟨-, k0, hk0, cm0, hkk0⟩ := hty n0 (fun j => .long (h.2.2.2.2 a0 j))
  obtain ⟨-, k1, hk1, cm1, hkk1⟩ := hty n1 (fun j => .long (h.2.2.2.2 a j))
  have hnf : nativeFrameWords "java/lang/System" "arraycopy" 5 + 11 ≤ 56 := by decide +kernel
  obtain ⟨vm', X', step⟩ := X0.arraycopy X.1 X.2.2.2.1 (hts _ hlk) (hts _ tt_acp.1) (hts _ tt_acp.2.1) (hts _ tt_acp.2.2) (src := a0) (dst := a) (cs := arrV (G.2.1 1) n0 (fun j => .long (h.2.2.2.2 a0 j))) (cd := arrV (G.2.1 1) n1 (fun j => .long (h.2.2.2.2 a j))) (srcPos := sp) (destPos := dp) (n := n) (by rw [hT]; exact hc0) (by rw [hT]; exact hc1)
    (fun _ h => by cases h) (fun _ h => by cases h) (fun h => by cases h) (fun h => by cases h) hk0 hk1 hkk0 hkk1 (by simp [atyG, refKind]) h1 h2 h3
    (by rw [toInt_nn h1, toInt_nn h3, arrV_size]; omega)
    (by rw [toInt_nn h2, toInt_nn h3, arrV_size]; omega)
    (fun vm₁ _ i hi => by
      have e : (arrV (G.2.1 1) n0 (fun j => .long (h.2.2.2.2 a0 j))).slots.getD (sp.toNatClampNeg + i) .null = .long (h.2.2.2.2 a0 (sp.toNatClampNeg + i)) := by
        rw [Array.getD_eq_getD_getElem?, arrV_read _ _ (by omega)]
        rfl
      refine ⟨?_, ?_⟩
      · rw [e]
        rfl
      · rw [e]
        exact trivial)
    (g := F0 m pc ls (.int n :: .int dp :: .ref a :: .int sp :: .ref a0 :: rest)) rfl (by rw [X.2.2.1]; exact hl.1) (rest := rest) rfl (by rw [X.2.1]; exact hdg) hd (by show 2 * 0 + _ + _ ≤ 64 * d; omega)
  have e1 : copied (arrV (G.2.1 1) n0 (fun j => .long (h.2.2.2.2 a0 j))) (arrV (G.2.1 1) n1 (fun j => .long (h.2.2.2.2 a j))) sp dp n = arrV (G.2.1 1) n1 (fun j => .long (va_cpy (h.2.2.2.2 a0) (h.2.2.2.2 a) sp.toNatClampNeg dp.toNatClampNeg n.toNatClampNeg j)) := va_copied (fun z => .long z) (G.2.1 1) (G.2.1 1) (h.2.2.2.2 a0) (h.2.2.2.2 a) h4
  rw [e1] at X' step
  have hl2 : a < H.size := (Array.getElem?_eq_some_iff.mp hc1).1
  have hheap : ((T.setVm vm').setCell a (arrV (G.2.1 1) n1 (fun j => .long (va_cpy (h.2.2.2.2 a0) (h.2.2.2.2 a) sp.toNatClampNeg dp.toNatClampNeg n.toNatClampNeg j)))).heap = H.setIfInBounds a (arrV (G.2.1 1) n1 (fun j => .long (va_cpy (h.2.2.2.2 a0) (h.2.2.2.2 a) sp.toNatClampNeg dp.toNatClampNeg n.toNatClampNeg j))) := by rw [← hT]; rfl
  have oq : ∀ q : Nat, q ≠ a → (H.setIfInBounds a (arrV (G.2.1 1) n1 (fun j => .long (va_cpy (h.2.2.2.2 a0) (h.2.2.2.2 a) sp.toNatClampNeg dp.toNatClampNeg n.toNatClampNeg j))))[q]? = H[q]? := fun q hq => by simp [Array.getElem?_setIfInBounds, Ne.symm hq]
  obtain ⟨t, a1, b1⟩ := kk p l e s m args below meth c _ _ ls X (R.write (P := h.2.2.1) (S := h.2.2.2.1) (LL := updA h.2.2.2.2 a (va_cpy (h.2.2.2.2 a0) (h.2.2.2.2 a) sp.toNatClampNeg dp.toNatClampNeg n.toNatClampNeg)) hs1 (by simp) oq (fun q _ => rfl) (fun q _ => rfl) (fun q z => updA_ne z) (by
      unfold cellG
      rw [if_neg (show ¬ (11 : Nat) < 7 by decide), if_neg (show ¬ (11 : Nat) = 10 by decide), if_pos rfl]
      simp only [updA_same]
      simp [Array.getElem?_setIfInBounds, hl2])) (fun q hq => by
      rcases List.mem_append.mp hq with z | z
      · exact L q z
      · obtain ⟨w, -, hw⟩ := List.mem_map.mp z
        rw [← hw]
        exact hga) hl _ hheap X'
  exact ⟨t, step t a1, b1⟩
end ECP
section EFC
variable {G : GG} {d : Nat} {M : MI} {ly : LY} {pl : Nat → Nat} {h0 : PH} {ρ : Type} {rv : ρ → Option Value} {f : Option (ρ × SS)} {pc : Nat} {lv : List (Nat × Value)} {rest : List Value} {s : SS}
theorem ef_mmin {q idx : Nat} {x y : Int32} (hlk : Cond.methodLink (moM M) idx Lib.Math.min.name ∈ TT) (hd : 1 ≤ d) (hW : (rest.map fun v => v.category).sum ≤ 8) (hdg : decode (mbM M) pc = .ok (.invokestatic idx, 3)) (hq : pc + 3 = q) (kk : EvF G d M ly pl h0 rv f q lv (.int (if y < x then y else x) :: rest) s) : EvF G d M ly pl h0 rv f pc lv (.int y :: .int x :: rest) s := fun H r s' hf => by
  subst hq
  exact ev_mmin hlk hd hW (Nat.le_refl 0) (Nat.le_refl 0) hdg (kk H r s' hf)
theorem ef_acopyI {q idx k0 k1 n0 n1 : Nat} {r0 r1 : List (Nat × Nat)} {sp dp n : Int32} {g : Nat → Int32} (he0 : ly[k0]? = some ((10, n0), r0)) (he1 : ly[k1]? = some ((10, n1), r1)) (hlk : Cond.methodLink (moM M) idx arraycopyName ∈ TT) (hok : acOK sp dp n n0 n1) (hd : 1 ≤ d) (hW : (rest.map fun v => v.category).sum ≤ 8) (hdg : decode (mbM M) pc = .ok (.invokestatic idx, 3)) (hg : va_cpy (s.1 k0) (s.1 k1) sp.toNatClampNeg dp.toNatClampNeg n.toNatClampNeg = g) (hq : pc + 3 = q)
    (kk : EvF G d M ly pl h0 rv f q lv rest (wrA s k1 g)) : EvF G d M ly pl h0 rv f pc lv (.int n :: .int dp :: .ref (pl k1) :: .int sp :: .ref (pl k0) :: rest) s := fun H r s' hf => by
  subst hq
  have h1 := kk H r s' hf
  rw [LH_wrA H.1 (LayOK.lt he1)] at h1
  refine ev_acopyI (H.sh he0) (H.sh he1) hlk hok hd hW hdg ?_
  have e : va_cpy ((LH pl ly.length h0 s).2.2.2.1 (pl k0)) ((LH pl ly.length h0 s).2.2.2.1 (pl k1)) sp.toNatClampNeg dp.toNatClampNeg n.toNatClampNeg = g := by
    rw [← hg]
    show va_cpy (mrg pl ly.length h0.2.2.2.1 s.1 (pl k0)) (mrg pl ly.length h0.2.2.2.1 s.1 (pl k1)) _ _ _ = _
    rw [mrg_at H.1 (LayOK.lt he0), mrg_at H.1 (LayOK.lt he1)]
  rw [e]
  exact h1
theorem ef_acopyL {q idx k0 k1 n0 n1 : Nat} {r0 r1 : List (Nat × Nat)} {sp dp n : Int32} {g : Nat → Int64} (he0 : ly[k0]? = some ((11, n0), r0)) (he1 : ly[k1]? = some ((11, n1), r1)) (hlk : Cond.methodLink (moM M) idx arraycopyName ∈ TT) (hok : acOK sp dp n n0 n1) (hd : 1 ≤ d) (hW : (rest.map fun v => v.category).sum ≤ 8) (hdg : decode (mbM M) pc = .ok (.invokestatic idx, 3)) (hg : va_cpy (s.2 k0) (s.2 k1) sp.toNatClampNeg dp.toNatClampNeg n.toNatClampNeg = g) (hq : pc + 3 = q)
    (kk : EvF G d M ly pl h0 rv f q lv rest (wrAL s k1 g)) : EvF G d M ly pl h0 rv f pc lv (.int n :: .int dp :: .ref (pl k1) :: .int sp :: .ref (pl k0) :: rest) s := fun H r s' hf => by
  subst hq
  have h1 := kk H r s' hf
  rw [LH_wrAL H.1 (LayOK.lt he1)] at h1
  refine ev_acopyL (H.sh he0) (H.sh he1) hlk hok hd hW hdg ?_
  have e : va_cpy ((LH pl ly.length h0 s).2.2.2.2 (pl k0)) ((LH pl ly.length h0 s).2.2.2.2 (pl k1)) sp.toNatClampNeg dp.toNatClampNeg n.toNatClampNeg = g := by
    rw [← hg]
    show va_cpy (mrg pl ly.length h0.2.2.2.2 s.2 (pl k0)) (mrg pl ly.length h0.2.2.2.2 s.2 (pl k1)) _ _ _ = _
    rw [mrg_at H.1 (LayOK.lt he0), mrg_at H.1 (LayOK.lt he1)]
  rw [e]
  exact h1
end EFC
/-- the loops' fuel -/
def FU : Nat := 1000
end
section
def lyCC : LY := [((0, 0), [(12, 1), (13, 2), (14, 3), (15, 4)]), ((10, 3), []), ((10, 3), []), ((10, 24), []), ((10, 8), []), ((0, 0), [(12, 6), (13, 7), (14, 8), (15, 9)]), ((10, 3), []), ((10, 3), []), ((10, 24), []), ((10, 8), [])]
def lyC : LY := [((0, 0), [(12, 1), (13, 2), (14, 3), (15, 4)]), ((10, 3), []), ((10, 3), []), ((10, 24), []), ((10, 8), [])]
def ly : LY := []
def lyK : LY := [((1, 0), [(0, 1)]), ((10, 250), [])]
def lyKW : LY := [((1, 0), [(0, 1)]), ((10, 250), []), ((4, 0), [(0, 3), (1, 8), (2, 9), (4, 10)]), ((0, 0), [(12, 4), (13, 5), (14, 6), (15, 7)]), ((10, 3), []), ((10, 3), []), ((10, 24), []), ((10, 8), []), ((10, 4), []), ((10, 4), []), ((10, 20), [])]
def lyKC : LY := [((1, 0), [(0, 1)]), ((10, 250), []), ((0, 0), [(12, 3), (13, 4), (14, 5), (15, 6)]), ((10, 3), []), ((10, 3), []), ((10, 24), []), ((10, 8), [])]
def lyW : LY := [((4, 0), [(0, 1), (1, 6), (2, 7), (4, 8)]), ((0, 0), [(12, 2), (13, 3), (14, 4), (15, 5)]), ((10, 3), []), ((10, 3), []), ((10, 24), []), ((10, 8), []), ((10, 4), []), ((10, 4), []), ((10, 20), [])]
def lyDC : LY := [((2, 0), [(0, 1), (1, 2), (2, 3)]), ((13, 4), [(0, 4), (1, 9), (2, 14), (3, 19)]), ((10, 3), []), ((10, 3), []), ((0, 0), [(12, 5), (13, 6), (14, 7), (15, 8)]), ((10, 3), []), ((10, 3), []), ((10, 24), []), ((10, 8), []), ((0, 0), [(12, 10), (13, 11), (14, 12), (15, 13)]), ((10, 3), []), ((10, 3), []), ((10, 24), []), ((10, 8), []), ((0, 0), [(12, 15), (13, 16), (14, 17), (15, 18)]), ((10, 3), []), ((10, 3), []), ((10, 24), []), ((10, 8), []), ((0, 0), [(12, 20), (13, 21), (14, 22), (15, 23)]), ((10, 3), []), ((10, 3), []), ((10, 24), []), ((10, 8), []), ((0, 0), [(12, 25), (13, 26), (14, 27), (15, 28)]), ((10, 3), []), ((10, 3), []), ((10, 24), []), ((10, 8), [])]
theorem lyDC_t1 : ∀ j : Nat, j < 4 → ([(0, 4), (1, 9), (2, 14), (3, 19)] : List (Nat × Nat)).lookup j = some (4 + 5 * j) := by decide +kernel
theorem lyDC_f1_0 : ∀ j : Nat, j < 4 → lyDC[4 + 5 * j]? = some ((0, 0), [(12, 4 + 5 * j + 1), (13, 4 + 5 * j + 2), (14, 4 + 5 * j + 3), (15, 4 + 5 * j + 4)]) := by decide +kernel
theorem lyDC_f1_1 : ∀ j : Nat, j < 4 → lyDC[4 + 5 * j + 1]? = some ((10, 3), []) := by decide +kernel
theorem lyDC_f1_2 : ∀ j : Nat, j < 4 → lyDC[4 + 5 * j + 2]? = some ((10, 3), []) := by decide +kernel
theorem lyDC_f1_3 : ∀ j : Nat, j < 4 → lyDC[4 + 5 * j + 3]? = some ((10, 24), []) := by decide +kernel
theorem lyDC_f1_4 : ∀ j : Nat, j < 4 → lyDC[4 + 5 * j + 4]? = some ((10, 8), []) := by decide +kernel
def lyD : LY := [((2, 0), [(0, 1), (1, 2), (2, 3)]), ((13, 4), [(0, 4), (1, 9), (2, 14), (3, 19)]), ((10, 3), []), ((10, 3), []), ((0, 0), [(12, 5), (13, 6), (14, 7), (15, 8)]), ((10, 3), []), ((10, 3), []), ((10, 24), []), ((10, 8), []), ((0, 0), [(12, 10), (13, 11), (14, 12), (15, 13)]), ((10, 3), []), ((10, 3), []), ((10, 24), []), ((10, 8), []), ((0, 0), [(12, 15), (13, 16), (14, 17), (15, 18)]), ((10, 3), []), ((10, 3), []), ((10, 24), []), ((10, 8), []), ((0, 0), [(12, 20), (13, 21), (14, 22), (15, 23)]), ((10, 3), []), ((10, 3), []), ((10, 24), []), ((10, 8), [])]
theorem lyD_t1 : ∀ j : Nat, j < 4 → ([(0, 4), (1, 9), (2, 14), (3, 19)] : List (Nat × Nat)).lookup j = some (4 + 5 * j) := by decide +kernel
theorem lyD_f1_0 : ∀ j : Nat, j < 4 → lyD[4 + 5 * j]? = some ((0, 0), [(12, 4 + 5 * j + 1), (13, 4 + 5 * j + 2), (14, 4 + 5 * j + 3), (15, 4 + 5 * j + 4)]) := by decide +kernel
theorem lyD_f1_1 : ∀ j : Nat, j < 4 → lyD[4 + 5 * j + 1]? = some ((10, 3), []) := by decide +kernel
theorem lyD_f1_2 : ∀ j : Nat, j < 4 → lyD[4 + 5 * j + 2]? = some ((10, 3), []) := by decide +kernel
theorem lyD_f1_3 : ∀ j : Nat, j < 4 → lyD[4 + 5 * j + 3]? = some ((10, 24), []) := by decide +kernel
theorem lyD_f1_4 : ∀ j : Nat, j < 4 → lyD[4 + 5 * j + 4]? = some ((10, 8), []) := by decide +kernel
def lyS : LY := [((3, 0), [(2, 1)]), ((11, 40), [])]
def lyWW : LY := [((4, 0), [(0, 1), (1, 6), (2, 7), (4, 8)]), ((0, 0), [(12, 2), (13, 3), (14, 4), (15, 5)]), ((10, 3), []), ((10, 3), []), ((10, 24), []), ((10, 8), []), ((10, 4), []), ((10, 4), []), ((10, 20), []), ((4, 0), [(0, 10), (1, 15), (2, 16), (4, 17)]), ((0, 0), [(12, 11), (13, 12), (14, 13), (15, 14)]), ((10, 3), []), ((10, 3), []), ((10, 24), []), ((10, 8), []), ((10, 4), []), ((10, 4), []), ((10, 20), [])]
def lyM : LY := [((5, 0), [(0, 1), (1, 10), (2, 19), (3, 28), (4, 33), (5, 57), (6, 58), (7, 60)]), ((4, 0), [(0, 2), (1, 7), (2, 8), (4, 9)]), ((0, 0), [(12, 3), (13, 4), (14, 5), (15, 6)]), ((10, 3), []), ((10, 3), []), ((10, 24), []), ((10, 8), []), ((10, 4), []), ((10, 4), []), ((10, 20), []), ((4, 0), [(0, 11), (1, 16), (2, 17), (4, 18)]), ((0, 0), [(12, 12), (13, 13), (14, 14), (15, 15)]), ((10, 3), []), ((10, 3), []), ((10, 24), []), ((10, 8), []), ((10, 4), []), ((10, 4), []), ((10, 20), []), ((4, 0), [(0, 20), (1, 25), (2, 26), (4, 27)]), ((0, 0), [(12, 21), (13, 22), (14, 23), (15, 24)]), ((10, 3), []), ((10, 3), []), ((10, 24), []), ((10, 8), []), ((10, 4), []), ((10, 4), []), ((10, 20), []), ((0, 0), [(12, 29), (13, 30), (14, 31), (15, 32)]), ((10, 3), []), ((10, 3), []), ((10, 24), []), ((10, 8), []), ((2, 0), [(0, 34), (1, 35), (2, 36)]), ((13, 4), [(0, 37), (1, 42), (2, 47), (3, 52)]), ((10, 3), []), ((10, 3), []), ((0, 0), [(12, 38), (13, 39), (14, 40), (15, 41)]), ((10, 3), []), ((10, 3), []), ((10, 24), []), ((10, 8), []), ((0, 0), [(12, 43), (13, 44), (14, 45), (15, 46)]), ((10, 3), []), ((10, 3), []), ((10, 24), []), ((10, 8), []), ((0, 0), [(12, 48), (13, 49), (14, 50), (15, 51)]), ((10, 3), []), ((10, 3), []), ((10, 24), []), ((10, 8), []), ((0, 0), [(12, 53), (13, 54), (14, 55), (15, 56)]), ((10, 3), []), ((10, 3), []), ((10, 24), []), ((10, 8), []), ((12, 8), [(0, 61), (1, 63), (2, 65), (3, 67), (4, 69), (5, 71), (6, 73), (7, 75)]), ((1, 0), [(0, 59)]), ((10, 250), []), ((10, 7), []), ((3, 0), [(2, 62)]), ((11, 40), []), ((3, 0), [(2, 64)]), ((11, 40), []), ((3, 0), [(2, 66)]), ((11, 40), []), ((3, 0), [(2, 68)]), ((11, 40), []), ((3, 0), [(2, 70)]), ((11, 40), []), ((3, 0), [(2, 72)]), ((11, 40), []), ((3, 0), [(2, 74)]), ((11, 40), []), ((3, 0), [(2, 76)]), ((11, 40), [])]
theorem lyM_t57 : ∀ j : Nat, j < 8 → ([(0, 61), (1, 63), (2, 65), (3, 67), (4, 69), (5, 71), (6, 73), (7, 75)] : List (Nat × Nat)).lookup j = some (61 + 2 * j) := by decide +kernel
theorem lyM_f57_0 : ∀ j : Nat, j < 8 → lyM[61 + 2 * j]? = some ((3, 0), [(2, 61 + 2 * j + 1)]) := by decide +kernel
theorem lyM_f57_1 : ∀ j : Nat, j < 8 → lyM[61 + 2 * j + 1]? = some ((11, 40), []) := by decide +kernel
theorem lyM_t34 : ∀ j : Nat, j < 4 → ([(0, 37), (1, 42), (2, 47), (3, 52)] : List (Nat × Nat)).lookup j = some (37 + 5 * j) := by decide +kernel
theorem lyM_f34_0 : ∀ j : Nat, j < 4 → lyM[37 + 5 * j]? = some ((0, 0), [(12, 37 + 5 * j + 1), (13, 37 + 5 * j + 2), (14, 37 + 5 * j + 3), (15, 37 + 5 * j + 4)]) := by decide +kernel
theorem lyM_f34_1 : ∀ j : Nat, j < 4 → lyM[37 + 5 * j + 1]? = some ((10, 3), []) := by decide +kernel
theorem lyM_f34_2 : ∀ j : Nat, j < 4 → lyM[37 + 5 * j + 2]? = some ((10, 3), []) := by decide +kernel
theorem lyM_f34_3 : ∀ j : Nat, j < 4 → lyM[37 + 5 * j + 3]? = some ((10, 24), []) := by decide +kernel
theorem lyM_f34_4 : ∀ j : Nat, j < 4 → lyM[37 + 5 * j + 4]? = some ((10, 8), []) := by decide +kernel
def lyMC : LY := [((5, 0), [(0, 1), (1, 10), (2, 19), (3, 28), (4, 33), (5, 57), (6, 58), (7, 60)]), ((4, 0), [(0, 2), (1, 7), (2, 8), (4, 9)]), ((0, 0), [(12, 3), (13, 4), (14, 5), (15, 6)]), ((10, 3), []), ((10, 3), []), ((10, 24), []), ((10, 8), []), ((10, 4), []), ((10, 4), []), ((10, 20), []), ((4, 0), [(0, 11), (1, 16), (2, 17), (4, 18)]), ((0, 0), [(12, 12), (13, 13), (14, 14), (15, 15)]), ((10, 3), []), ((10, 3), []), ((10, 24), []), ((10, 8), []), ((10, 4), []), ((10, 4), []), ((10, 20), []), ((4, 0), [(0, 20), (1, 25), (2, 26), (4, 27)]), ((0, 0), [(12, 21), (13, 22), (14, 23), (15, 24)]), ((10, 3), []), ((10, 3), []), ((10, 24), []), ((10, 8), []), ((10, 4), []), ((10, 4), []), ((10, 20), []), ((0, 0), [(12, 29), (13, 30), (14, 31), (15, 32)]), ((10, 3), []), ((10, 3), []), ((10, 24), []), ((10, 8), []), ((2, 0), [(0, 34), (1, 35), (2, 36)]), ((13, 4), [(0, 37), (1, 42), (2, 47), (3, 52)]), ((10, 3), []), ((10, 3), []), ((0, 0), [(12, 38), (13, 39), (14, 40), (15, 41)]), ((10, 3), []), ((10, 3), []), ((10, 24), []), ((10, 8), []), ((0, 0), [(12, 43), (13, 44), (14, 45), (15, 46)]), ((10, 3), []), ((10, 3), []), ((10, 24), []), ((10, 8), []), ((0, 0), [(12, 48), (13, 49), (14, 50), (15, 51)]), ((10, 3), []), ((10, 3), []), ((10, 24), []), ((10, 8), []), ((0, 0), [(12, 53), (13, 54), (14, 55), (15, 56)]), ((10, 3), []), ((10, 3), []), ((10, 24), []), ((10, 8), []), ((12, 8), [(0, 61), (1, 63), (2, 65), (3, 67), (4, 69), (5, 71), (6, 73), (7, 75)]), ((1, 0), [(0, 59)]), ((10, 250), []), ((10, 7), []), ((3, 0), [(2, 62)]), ((11, 40), []), ((3, 0), [(2, 64)]), ((11, 40), []), ((3, 0), [(2, 66)]), ((11, 40), []), ((3, 0), [(2, 68)]), ((11, 40), []), ((3, 0), [(2, 70)]), ((11, 40), []), ((3, 0), [(2, 72)]), ((11, 40), []), ((3, 0), [(2, 74)]), ((11, 40), []), ((3, 0), [(2, 76)]), ((11, 40), []), ((0, 0), [(12, 78), (13, 79), (14, 80), (15, 81)]), ((10, 3), []), ((10, 3), []), ((10, 24), []), ((10, 8), [])]
theorem lyMC_t57 : ∀ j : Nat, j < 8 → ([(0, 61), (1, 63), (2, 65), (3, 67), (4, 69), (5, 71), (6, 73), (7, 75)] : List (Nat × Nat)).lookup j = some (61 + 2 * j) := by decide +kernel
theorem lyMC_f57_0 : ∀ j : Nat, j < 8 → lyMC[61 + 2 * j]? = some ((3, 0), [(2, 61 + 2 * j + 1)]) := by decide +kernel
theorem lyMC_f57_1 : ∀ j : Nat, j < 8 → lyMC[61 + 2 * j + 1]? = some ((11, 40), []) := by decide +kernel
theorem lyMC_t34 : ∀ j : Nat, j < 4 → ([(0, 37), (1, 42), (2, 47), (3, 52)] : List (Nat × Nat)).lookup j = some (37 + 5 * j) := by decide +kernel
theorem lyMC_f34_0 : ∀ j : Nat, j < 4 → lyMC[37 + 5 * j]? = some ((0, 0), [(12, 37 + 5 * j + 1), (13, 37 + 5 * j + 2), (14, 37 + 5 * j + 3), (15, 37 + 5 * j + 4)]) := by decide +kernel
theorem lyMC_f34_1 : ∀ j : Nat, j < 4 → lyMC[37 + 5 * j + 1]? = some ((10, 3), []) := by decide +kernel
theorem lyMC_f34_2 : ∀ j : Nat, j < 4 → lyMC[37 + 5 * j + 2]? = some ((10, 3), []) := by decide +kernel
theorem lyMC_f34_3 : ∀ j : Nat, j < 4 → lyMC[37 + 5 * j + 3]? = some ((10, 24), []) := by decide +kernel
theorem lyMC_f34_4 : ∀ j : Nat, j < 4 → lyMC[37 + 5 * j + 4]? = some ((10, 8), []) := by decide +kernel
def lyR : LY := [((6, 0), [(0, 1), (1, 2), (2, 3), (3, 4), (4, 13), (5, 14), (6, 15), (8, 16), (11, 17), (12, 18), (13, 19), (14, 23), (17, 24), (23, 25), (24, 26), (26, 27), (30, 28), (36, 29), (41, 30), (42, 31), (43, 32)]), ((10, 8), []), ((10, 8), []), ((10, 8), []), ((16, 8), [(0, 5), (1, 6), (2, 7), (3, 8), (4, 9), (5, 10), (6, 11), (7, 12)]), ((11, 40), []), ((11, 40), []), ((11, 40), []), ((11, 40), []), ((11, 40), []), ((11, 40), []), ((11, 40), []), ((11, 40), []), ((11, 40), []), ((10, 8), []), ((10, 250), []), ((10, 8), []), ((10, 3), []), ((10, 3), []), ((15, 3), [(0, 20), (1, 21), (2, 22)]), ((10, 8), []), ((10, 8), []), ((10, 8), []), ((10, 8), []), ((10, 4), []), ((10, 4), []), ((10, 4), []), ((10, 20), []), ((14, 4), []), ((10, 2), []), ((10, 3), []), ((10, 3), []), ((10, 3), [])]
theorem lyR_t4 : ∀ j : Nat, j < 8 → ([(0, 5), (1, 6), (2, 7), (3, 8), (4, 9), (5, 10), (6, 11), (7, 12)] : List (Nat × Nat)).lookup j = some (5 + j) := by decide +kernel
theorem lyR_f4_0 : ∀ j : Nat, j < 8 → lyR[5 + j]? = some ((11, 40), []) := by decide +kernel
theorem lyR_t19 : ∀ j : Nat, j < 3 → ([(0, 20), (1, 21), (2, 22)] : List (Nat × Nat)).lookup j = some (20 + j) := by decide +kernel
theorem lyR_f19_0 : ∀ j : Nat, j < 3 → lyR[20 + j]? = some ((10, 8), []) := by decide +kernel
def lyRR : LY := [((6, 0), [(0, 1), (1, 2), (2, 3), (3, 4), (4, 13), (5, 14), (6, 15), (8, 16), (11, 17), (12, 18), (13, 19), (14, 23), (17, 24), (23, 25), (24, 26), (26, 27), (30, 28), (36, 29), (41, 30), (42, 31), (43, 32)]), ((10, 8), []), ((10, 8), []), ((10, 8), []), ((16, 8), [(0, 5), (1, 6), (2, 7), (3, 8), (4, 9), (5, 10), (6, 11), (7, 12)]), ((11, 40), []), ((11, 40), []), ((11, 40), []), ((11, 40), []), ((11, 40), []), ((11, 40), []), ((11, 40), []), ((11, 40), []), ((11, 40), []), ((10, 8), []), ((10, 250), []), ((10, 8), []), ((10, 3), []), ((10, 3), []), ((15, 3), [(0, 20), (1, 21), (2, 22)]), ((10, 8), []), ((10, 8), []), ((10, 8), []), ((10, 8), []), ((10, 4), []), ((10, 4), []), ((10, 4), []), ((10, 20), []), ((14, 4), []), ((10, 2), []), ((10, 3), []), ((10, 3), []), ((10, 3), []), ((6, 0), [(0, 34), (1, 35), (2, 36), (3, 37), (4, 46), (5, 47), (6, 48), (8, 49), (11, 50), (12, 51), (13, 52), (14, 56), (17, 57), (23, 58), (24, 59), (26, 60), (30, 61), (36, 62), (41, 63), (42, 64), (43, 65)]), ((10, 8), []), ((10, 8), []), ((10, 8), []), ((16, 8), [(0, 38), (1, 39), (2, 40), (3, 41), (4, 42), (5, 43), (6, 44), (7, 45)]), ((11, 40), []), ((11, 40), []), ((11, 40), []), ((11, 40), []), ((11, 40), []), ((11, 40), []), ((11, 40), []), ((11, 40), []), ((11, 40), []), ((10, 8), []), ((10, 250), []), ((10, 8), []), ((10, 3), []), ((10, 3), []), ((15, 3), [(0, 53), (1, 54), (2, 55)]), ((10, 8), []), ((10, 8), []), ((10, 8), []), ((10, 8), []), ((10, 4), []), ((10, 4), []), ((10, 4), []), ((10, 20), []), ((14, 4), []), ((10, 2), []), ((10, 3), []), ((10, 3), []), ((10, 3), [])]
theorem lyRR_t4 : ∀ j : Nat, j < 8 → ([(0, 5), (1, 6), (2, 7), (3, 8), (4, 9), (5, 10), (6, 11), (7, 12)] : List (Nat × Nat)).lookup j = some (5 + j) := by decide +kernel
theorem lyRR_f4_0 : ∀ j : Nat, j < 8 → lyRR[5 + j]? = some ((11, 40), []) := by decide +kernel
theorem lyRR_t19 : ∀ j : Nat, j < 3 → ([(0, 20), (1, 21), (2, 22)] : List (Nat × Nat)).lookup j = some (20 + j) := by decide +kernel
theorem lyRR_f19_0 : ∀ j : Nat, j < 3 → lyRR[20 + j]? = some ((10, 8), []) := by decide +kernel
theorem lyRR_t37 : ∀ j : Nat, j < 8 → ([(0, 38), (1, 39), (2, 40), (3, 41), (4, 42), (5, 43), (6, 44), (7, 45)] : List (Nat × Nat)).lookup j = some (38 + j) := by decide +kernel
theorem lyRR_f37_0 : ∀ j : Nat, j < 8 → lyRR[38 + j]? = some ((11, 40), []) := by decide +kernel
theorem lyRR_t52 : ∀ j : Nat, j < 3 → ([(0, 53), (1, 54), (2, 55)] : List (Nat × Nat)).lookup j = some (53 + j) := by decide +kernel
theorem lyRR_f52_0 : ∀ j : Nat, j < 3 → lyRR[53 + j]? = some ((10, 8), []) := by decide +kernel
def lyI3I3 : LY := [((10, 3), []), ((10, 3), [])]
def lyI4I4 : LY := [((10, 4), []), ((10, 4), [])]
def lyI8I8 : LY := [((10, 8), []), ((10, 8), [])]
def lyI20I20 : LY := [((10, 20), []), ((10, 20), [])]
abbrev mX0_init : MI := (RX0, yX0_init, cX0_init, 1, none)
abbrev mX0_takeFrom : MI := (RX0, yX0_takeFrom, cX0_takeFrom, 2, none)
abbrev mX0_hasOrder : MI := (RX0, yX0_hasOrder, cX0_hasOrder, 3, (some .boolean))
abbrev mX0_scoopInOrder : MI := (RX0, yX0_scoopInOrder, cX0_scoopInOrder, 3, (some .int))
abbrev mX0_takeInOrder : MI := (RX0, yX0_takeInOrder, cX0_takeInOrder, 5, none)
abbrev mX0_changePlaces : MI := (RX0, yX0_changePlaces, cX0_changePlaces, 7, none)
abbrev mX0_becomeSides : MI := (RX0, yX0_becomeSides, cX0_becomeSides, 2, none)
abbrev mX0_becomeEmpty : MI := (RX0, yX0_becomeEmpty, cX0_becomeEmpty, 2, none)
abbrev mX0_putOnTop : MI := (RX0, yX0_putOnTop, cX0_putOnTop, 4, none)
abbrev mX0_allPlaces : MI := (RX0, yX0_allPlaces, cX0_allPlaces, 1, (some .int))
abbrev mX0_wetAt : MI := (RX0, yX0_wetAt, cX0_wetAt, 3, (some .int))
abbrev mX0_isSunny : MI := (RX0, yX0_isSunny, cX0_isSunny, 3, (some .boolean))
abbrev mX0_allWetOf : MI := (RX0, yX0_allWetOf, cX0_allWetOf, 4, (some .int))
abbrev mX0_left : MI := (RX0, yX0_left, cX0_left, 3, (some .int))
abbrev mX0_hasMeltedScoop : MI := (RX0, yX0_hasMeltedScoop, cX0_hasMeltedScoop, 2, (some .boolean))
abbrev mX0_wettestSide : MI := (RX0, yX0_wettestSide, cX0_wettestSide, 6, (some .int))
abbrev mX0_lowestWetSide : MI := (RX0, yX0_lowestWetSide, cX0_lowestWetSide, 3, (some .int))
abbrev mX0_isWetLower : MI := (RX0, yX0_isWetLower, cX0_isWetLower, 4, (some .boolean))
abbrev mX0_canDo : MI := (RX0, yX0_canDo, cX0_canDo, 2, (some .boolean))
abbrev mX0_isIdle : MI := (RX0, yX0_isIdle, cX0_isIdle, 2, (some .boolean))
abbrev mX0_pass : MI := (RX0, yX0_pass, cX0_pass, 2, none)
abbrev mX0_eat : MI := (RX0, yX0_eat, cX0_eat, 4, none)
abbrev mX0_melt : MI := (RX0, yX0_melt, cX0_melt, 5, none)
abbrev mX0_runDown : MI := (RX0, yX0_runDown, cX0_runDown, 5, none)
abbrev mX0_fallOff : MI := (RX0, yX0_fallOff, cX0_fallOff, 2, none)
abbrev mX1_init : MI := (RX1, yX1_init, cX1_init, 1, none)
abbrev mX1_append : MI := (RX1, yX1_append, cX1_append, 2, none)
abbrev mX1_readInto : MI := (RX1, yX1_readInto, cX1_readInto, 3, (some .int))
abbrev mX1_readStatement : MI := (RX1, yX1_readStatement, cX1_readStatement, 2, (some .boolean))
abbrev mX1_readSides : MI := (RX1, yX1_readSides, cX1_readSides, 2, (some .boolean))
abbrev mX1_readScoop : MI := (RX1, yX1_readScoop, cX1_readScoop, 3, (some .boolean))
abbrev mX1_readSun : MI := (RX1, yX1_readSun, cX1_readSun, 4, (some .boolean))
abbrev mX1_readHold : MI := (RX1, yX1_readHold, cX1_readHold, 2, (some .boolean))
abbrev mX1_readBrim : MI := (RX1, yX1_readBrim, cX1_readBrim, 2, (some .boolean))
abbrev mX1_readLicker : MI := (RX1, yX1_readLicker, cX1_readLicker, 3, (some .boolean))
abbrev mX1_readLick : MI := (RX1, yX1_readLick, cX1_readLick, 2, (some .boolean))
abbrev mX1_isNumber : MI := (RX1, yX1_isNumber, cX1_isNumber, 3, (some .boolean))
abbrev mX1_isWord : MI := (RX1, yX1_isWord, cX1_isWord, 3, (some .boolean))
abbrev mX1_advance : MI := (RX1, yX1_advance, cX1_advance, 1, none)
abbrev mX1_readNumber : MI := (RX1, yX1_readNumber, cX1_readNumber, 1, none)
abbrev mX1_byteAt : MI := (RX1, yX1_byteAt, cX1_byteAt, 2, (some .int))
abbrev mX1_isLetter : MI := (RX1, yX1_isLetter, cX1_isLetter, 1, (some .boolean))
abbrev mX1_isDigit : MI := (RX1, yX1_isDigit, cX1_isDigit, 1, (some .boolean))
abbrev mX2_init : MI := (RX2, yX2_init, cX2_init, 2, none)
abbrev mX2_choose : MI := (RX2, yX2_choose, cX2_choose, 4, (some .int))
abbrev mX2_goRound : MI := (RX2, yX2_goRound, cX2_goRound, 2, (some .int))
abbrev mX2_lickLowest : MI := (RX2, yX2_lickLowest, cX2_lickLowest, 2, (some .int))
abbrev mX2_lickWettest : MI := (RX2, yX2_lickWettest, cX2_lickWettest, 4, (some .int))
abbrev mX2_turnTo : MI := (RX2, yX2_turnTo, cX2_turnTo, 3, (some .int))
abbrev mX2_findPlan : MI := (RX2, yX2_findPlan, cX2_findPlan, 3, none)
abbrev mX2_deepen : MI := (RX2, yX2_deepen, cX2_deepen, 6, none)
abbrev mX2_weigh : MI := (RX2, yX2_weigh, cX2_weigh, 2, none)
abbrev mX3_init : MI := (RX3, yX3_init, cX3_init, 1, none)
abbrev mX3_clearAway : MI := (RX3, yX3_clearAway, cX3_clearAway, 1, none)
abbrev mX3_holdRow : MI := (RX3, yX3_holdRow, cX3_holdRow, 4, none)
abbrev mX3_holdLicker : MI := (RX3, yX3_holdLicker, cX3_holdLicker, 2, none)
abbrev mX3_holdsRow : MI := (RX3, yX3_holdsRow, cX3_holdsRow, 1, (some .boolean))
abbrev mX3_lickerNumber : MI := (RX3, yX3_lickerNumber, cX3_lickerNumber, 1, (some .int))
abbrev mX3_put : MI := (RX3, yX3_put, cX3_put, 4, none)
abbrev mX4_init : MI := (RX4, yX4_init, cX4_init, 1, none)
abbrev mX4_takeFrom : MI := (RX4, yX4_takeFrom, cX4_takeFrom, 2, none)
abbrev mX4_addLicker : MI := (RX4, yX4_addLicker, cX4_addLicker, 3, none)
abbrev mX4_actInTruth : MI := (RX4, yX4_actInTruth, cX4_actInTruth, 3, none)
abbrev mX4_drawByte : MI := (RX4, yX4_drawByte, cX4_drawByte, 1, (some .int))
abbrev mX5_init : MI := (RX5, yX5_init, cX5_init, 2, none)
abbrev mX5_row : MI := (RX5, yX5_row, cX5_row, 4, (some .int))
abbrev mX5_set : MI := (RX5, yX5_set, cX5_set, 6, (some .int))
abbrev mX5_copy : MI := (RX5, yX5_copy, cX5_copy, 9, (some .int))
abbrev mX5_element : MI := (RX5, yX5_element, cX5_element, 3, (some .long))
abbrev mX5_holds : MI := (RX5, yX5_holds, cX5_holds, 2, (some .int))
abbrev mX5_show : MI := (RX5, yX5_show, cX5_show, 3, (some .int))
abbrev mX5_says : MI := (RX5, yX5_says, cX5_says, 4, (some .int))
abbrev mX5_sides : MI := (RX5, yX5_sides, cX5_sides, 3, (some .int))
abbrev mX5_scoop : MI := (RX5, yX5_scoop, cX5_scoop, 3, (some .int))
abbrev mX5_sun : MI := (RX5, yX5_sun, cX5_sun, 3, (some .int))
abbrev mX5_ask : MI := (RX5, yX5_ask, cX5_ask, 5, (some .int))
abbrev mX5_licker : MI := (RX5, yX5_licker, cX5_licker, 3, (some .int))
abbrev mX5_feed : MI := (RX5, yX5_feed, cX5_feed, 2, (some .int))
abbrev mX5_wipe : MI := (RX5, yX5_wipe, cX5_wipe, 2, (some .int))
abbrev mX5_kerb : MI := (RX5, yX5_kerb, cX5_kerb, 2, (some .int))
abbrev mX5_scoopOf : MI := (RX5, yX5_scoopOf, cX5_scoopOf, 3, (some .int))
abbrev mX5_wet : MI := (RX5, yX5_wet, cX5_wet, 3, (some .int))
abbrev mX5_lickerOf : MI := (RX5, yX5_lickerOf, cX5_lickerOf, 3, (some .int))
abbrev mX5_sunny : MI := (RX5, yX5_sunny, cX5_sunny, 2, (some .int))
abbrev mX5_without : MI := (RX5, yX5_without, cX5_without, 2, (some .int))
abbrev mX5_spare : MI := (RX5, yX5_spare, cX5_spare, 2, (some .int))
abbrev mX5_run : MI := (RX5, yX5_run, cX5_run, 4, (some .int))
abbrev mX5_would : MI := (RX5, yX5_would, cX5_would, 2, (some .int))
abbrev mX5_plan : MI := (RX5, yX5_plan, cX5_plan, 3, (some .int))
abbrev mX5_best : MI := (RX5, yX5_best, cX5_best, 7, (some .int))
abbrev mX5_until : MI := (RX5, yX5_until, cX5_until, 3, (some .int))
abbrev mX5_spareBy : MI := (RX5, yX5_spareBy, cX5_spareBy, 3, (some .int))
abbrev mX5_both : MI := (RX5, yX5_both, cX5_both, 5, (some .int))
abbrev mX5_holdFor : MI := (RX5, yX5_holdFor, cX5_holdFor, 3, (some .int))
abbrev mX5_largest : MI := (RX5, yX5_largest, cX5_largest, 6, (some .int))
abbrev mX5_order : MI := (RX5, yX5_order, cX5_order, 7, (some .int))
abbrev mX5_shade : MI := (RX5, yX5_shade, cX5_shade, 6, (some .int))
abbrev mX5_gives : MI := (RX5, yX5_gives, cX5_gives, 2, (some .int))
abbrev mX5_wettest : MI := (RX5, yX5_wettest, cX5_wettest, 1, (some .int))
abbrev mX5_largestScoop : MI := (RX5, yX5_largestScoop, cX5_largestScoop, 3, (some .int))
abbrev mX5_melted : MI := (RX5, yX5_melted, cX5_melted, 2, (some .int))
abbrev mX5_judge : MI := (RX5, yX5_judge, cX5_judge, 4, (some .int))
abbrev mX5_behind : MI := (RX5, yX5_behind, cX5_behind, 6, (some .int))
abbrev mX5_done : MI := (RX5, yX5_done, cX5_done, 6, (some .int))
abbrev mX5_drop : MI := (RX5, yX5_drop, cX5_drop, 2, (some .int))
abbrev mX5_went : MI := (RX5, yX5_went, cX5_went, 6, (some .int))
abbrev mX5_act : MI := (RX5, yX5_act, cX5_act, 3, (some .int))
abbrev mX5_licks : MI := (RX5, yX5_licks, cX5_licks, 4, (some .int))
abbrev mX5_swap : MI := (RX5, yX5_swap, cX5_swap, 3, (some .int))
abbrev mX5_day : MI := (RX5, yX5_day, cX5_day, 4, (some .int))
abbrev mX5_anew : MI := (RX5, yX5_anew, cX5_anew, 2, (some .int))
abbrev mX5_seed : MI := (RX5, yX5_seed, cX5_seed, 3, (some .int))
abbrev mX5_image : MI := (RX5, yX5_image, cX5_image, 1, (some .int))
abbrev mX5_back : MI := (RX5, yX5_back, cX5_back, 2, (some .int))
abbrev mX5_status : MI := (RX5, yX5_status, cX5_status, 2, (some .int))
abbrev mX5_refuse : MI := (RX5, yX5_refuse, cX5_refuse, 2, (some .int))
abbrev mX5_isWithin : MI := (RX5, yX5_isWithin, cX5_isWithin, 3, (some .boolean))
abbrev mX5_isShelf : MI := (RX5, yX5_isShelf, cX5_isShelf, 1, (some .boolean))
abbrev mX5_isSpan : MI := (RX5, yX5_isSpan, cX5_isSpan, 1, (some .boolean))
abbrev mX5_isScoop : MI := (RX5, yX5_isScoop, cX5_isScoop, 2, (some .boolean))
abbrev mX5_isSide : MI := (RX5, yX5_isSide, cX5_isSide, 2, (some .boolean))
abbrev mX5_isLicker : MI := (RX5, yX5_isLicker, cX5_isLicker, 2, (some .boolean))
abbrev mX5_canAsk : MI := (RX5, yX5_canAsk, cX5_canAsk, 3, (some .boolean))
abbrev mX5_isUnder : MI := (RX5, yX5_isUnder, cX5_isUnder, 2, (some .boolean))
abbrev mX5_rowFault : MI := (RX5, yX5_rowFault, cX5_rowFault, 2, (some .int))
abbrev mX5_copyFault : MI := (RX5, yX5_copyFault, cX5_copyFault, 5, (some .int))
abbrev mX5_toldFault : MI := (RX5, yX5_toldFault, cX5_toldFault, 6, (some .int))
abbrev mX5_wrongTold : MI := (RX5, yX5_wrongTold, cX5_wrongTold, 6, (some .int))
abbrev mX5_wentAt : MI := (RX5, yX5_wentAt, cX5_wentAt, 8, (some .boolean))
abbrev mX5_shelvesInUse : MI := (RX5, yX5_shelvesInUse, cX5_shelvesInUse, 3, (some .int))
abbrev mX5_wouldIn : MI := (RX5, yX5_wouldIn, cX5_wouldIn, 3, (some .int))
abbrev mX5_lostIdling : MI := (RX5, yX5_lostIdling, cX5_lostIdling, 4, (some .int))
abbrev mX5_lostUnder : MI := (RX5, yX5_lostUnder, cX5_lostUnder, 4, (some .int))
abbrev mX5_thinkRun : MI := (RX5, yX5_thinkRun, cX5_thinkRun, 4, none)
abbrev mX5_thoughtResult : MI := (RX5, yX5_thoughtResult, cX5_thoughtResult, 2, (some .int))
abbrev mX5_lickInTruth : MI := (RX5, yX5_lickInTruth, cX5_lickInTruth, 4, none)
abbrev mX6_init : MI := (RX6, yX6_init, cX6_init, 1, none)
abbrev mX6_refuse : MI := (RX6, yX6_refuse, cX6_refuse, 2, (some .int))
abbrev mX6_in : MI := (RX6, yX6_in, cX6_in, 6, (some .boolean))
abbrev mX6_isLicker : MI := (RX6, yX6_isLicker, cX6_isLicker, 2, (some .boolean))
abbrev mX6_isScoop : MI := (RX6, yX6_isScoop, cX6_isScoop, 2, (some .boolean))
abbrev mX6_isSide : MI := (RX6, yX6_isSide, cX6_isSide, 2, (some .boolean))
abbrev mX6_row : MI := (RX6, yX6_row, cX6_row, 5, (some .int))
abbrev mX6_fit : MI := (RX6, yX6_fit, cX6_fit, 3, (some .long))
abbrev mX6_noRow : MI := (RX6, yX6_noRow, cX6_noRow, 2, (some .int))
abbrev mX6_set : MI := (RX6, yX6_set, cX6_set, 6, (some .int))
abbrev mX6_copy : MI := (RX6, yX6_copy, cX6_copy, 7, (some .int))
abbrev mX6_element : MI := (RX6, yX6_element, cX6_element, 3, (some .long))
abbrev mX6_holds : MI := (RX6, yX6_holds, cX6_holds, 2, (some .int))
abbrev mX6_show : MI := (RX6, yX6_show, cX6_show, 3, (some .int))
abbrev mX6_isUnder : MI := (RX6, yX6_isUnder, cX6_isUnder, 2, (some .boolean))
abbrev mX6_says : MI := (RX6, yX6_says, cX6_says, 3, (some .int))
abbrev mX6_becomeSides : MI := (RX6, yX6_becomeSides, cX6_becomeSides, 2, none)
abbrev mX6_sides : MI := (RX6, yX6_sides, cX6_sides, 3, (some .int))
abbrev mX6_addScoop : MI := (RX6, yX6_addScoop, cX6_addScoop, 4, none)
abbrev mX6_scoop : MI := (RX6, yX6_scoop, cX6_scoop, 3, (some .int))
abbrev mX6_sun : MI := (RX6, yX6_sun, cX6_sun, 3, (some .int))
abbrev mX6_mayAsk : MI := (RX6, yX6_mayAsk, cX6_mayAsk, 3, (some .boolean))
abbrev mX6_ask : MI := (RX6, yX6_ask, cX6_ask, 4, (some .int))
abbrev mX6_addLicker : MI := (RX6, yX6_addLicker, cX6_addLicker, 3, none)
abbrev mX6_licker : MI := (RX6, yX6_licker, cX6_licker, 3, (some .int))
abbrev mX6_feed : MI := (RX6, yX6_feed, cX6_feed, 2, (some .int))
abbrev mX6_wipe : MI := (RX6, yX6_wipe, cX6_wipe, 2, (some .int))
abbrev mX6_isLetter : MI := (RX6, yX6_isLetter, cX6_isLetter, 1, (some .boolean))
abbrev mX6_isDigit : MI := (RX6, yX6_isDigit, cX6_isDigit, 1, (some .boolean))
abbrev mX6_look : MI := (RX6, yX6_look, cX6_look, 1, none)
abbrev mX6_wrong : MI := (RX6, yX6_wrong, cX6_wrong, 1, (some .boolean))
abbrev mX6_isWord : MI := (RX6, yX6_isWord, cX6_isWord, 3, (some .boolean))
abbrev mX6_number : MI := (RX6, yX6_number, cX6_number, 4, (some .boolean))
abbrev mX6_tells : MI := (RX6, yX6_tells, cX6_tells, 3, (some .boolean))
abbrev mX6_sunTold : MI := (RX6, yX6_sunTold, cX6_sunTold, 2, (some .boolean))
abbrev mX6_lickTold : MI := (RX6, yX6_lickTold, cX6_lickTold, 1, (some .boolean))
abbrev mX6_statement : MI := (RX6, yX6_statement, cX6_statement, 2, (some .boolean))
abbrev mX6_readAll : MI := (RX6, yX6_readAll, cX6_readAll, 1, (some .boolean))
abbrev mX6_kerb : MI := (RX6, yX6_kerb, cX6_kerb, 3, (some .int))
abbrev mX6_wetOf : MI := (RX6, yX6_wetOf, cX6_wetOf, 4, (some .int))
abbrev mX6_scoopOf : MI := (RX6, yX6_scoopOf, cX6_scoopOf, 3, (some .int))
abbrev mX6_wet : MI := (RX6, yX6_wet, cX6_wet, 3, (some .int))
abbrev mX6_lickerOf : MI := (RX6, yX6_lickerOf, cX6_lickerOf, 3, (some .int))
abbrev mX6_isSunny : MI := (RX6, yX6_isSunny, cX6_isSunny, 2, (some .boolean))
abbrev mX6_sunny : MI := (RX6, yX6_sunny, cX6_sunny, 2, (some .int))
abbrev mX6_canAct : MI := (RX6, yX6_canAct, cX6_canAct, 3, (some .boolean))
abbrev mX6_lickedOf : MI := (RX6, yX6_lickedOf, cX6_lickedOf, 2, (some .int))
abbrev mX6_melts : MI := (RX6, yX6_melts, cX6_melts, 4, none)
abbrev mX6_runsDown : MI := (RX6, yX6_runsDown, cX6_runsDown, 4, none)
abbrev mX6_goes : MI := (RX6, yX6_goes, cX6_goes, 6, none)
abbrev mX6_leftNow : MI := (RX6, yX6_leftNow, cX6_leftNow, 3, (some .int))
abbrev mX6_roundAct : MI := (RX6, yX6_roundAct, cX6_roundAct, 2, (some .int))
abbrev mX6_allAt : MI := (RX6, yX6_allAt, cX6_allAt, 4, (some .int))
abbrev mX6_wettestSide : MI := (RX6, yX6_wettestSide, cX6_wettestSide, 3, (some .int))
abbrev mX6_turnTo : MI := (RX6, yX6_turnTo, cX6_turnTo, 3, (some .int))
abbrev mX6_wettestAct : MI := (RX6, yX6_wettestAct, cX6_wettestAct, 5, (some .int))
abbrev mX6_isMore : MI := (RX6, yX6_isMore, cX6_isMore, 4, (some .boolean))
abbrev mX6_lowestAct : MI := (RX6, yX6_lowestAct, cX6_lowestAct, 3, (some .int))
abbrev mX6_findPlan : MI := (RX6, yX6_findPlan, cX6_findPlan, 6, none)
abbrev mX6_wouldBe : MI := (RX6, yX6_wouldBe, cX6_wouldBe, 2, (some .int))
abbrev mX6_would : MI := (RX6, yX6_would, cX6_would, 2, (some .int))
abbrev mX6_plan : MI := (RX6, yX6_plan, cX6_plan, 3, (some .int))
abbrev mX6_fresh : MI := (RX6, yX6_fresh, cX6_fresh, 1, (some (.object "BeforeItDripsModel")))
abbrev mX6_stands : MI := (RX6, yX6_stands, cX6_stands, 3, none)
abbrev mX6_lickedBy : MI := (RX6, yX6_lickedBy, cX6_lickedBy, 4, none)
abbrev mX6_withoutNow : MI := (RX6, yX6_withoutNow, cX6_withoutNow, 3, (some .int))
abbrev mX6_without : MI := (RX6, yX6_without, cX6_without, 2, (some .int))
abbrev mX6_spare : MI := (RX6, yX6_spare, cX6_spare, 3, (some .int))
abbrev mX6_toldOf : MI := (RX6, yX6_toldOf, cX6_toldOf, 3, (some .int))
abbrev mX6_run : MI := (RX6, yX6_run, cX6_run, 5, (some .int))
abbrev mX6_best : MI := (RX6, yX6_best, cX6_best, 7, (some .int))
abbrev mX6_until : MI := (RX6, yX6_until, cX6_until, 4, (some .int))
abbrev mX6_spareBy : MI := (RX6, yX6_spareBy, cX6_spareBy, 4, (some .int))
abbrev mX6_both : MI := (RX6, yX6_both, cX6_both, 6, (some .int))
abbrev mX6_holdFor : MI := (RX6, yX6_holdFor, cX6_holdFor, 4, (some .int))
abbrev mX6_largest : MI := (RX6, yX6_largest, cX6_largest, 6, (some .int))
abbrev mX6_putFrom : MI := (RX6, yX6_putFrom, cX6_putFrom, 4, none)
abbrev mX6_seekOrder : MI := (RX6, yX6_seekOrder, cX6_seekOrder, 6, none)
abbrev mX6_order : MI := (RX6, yX6_order, cX6_order, 3, (some .int))
abbrev mX6_shade : MI := (RX6, yX6_shade, cX6_shade, 6, (some .int))
abbrev mX6_gives : MI := (RX6, yX6_gives, cX6_gives, 3, (some .int))
abbrev mX6_wettest : MI := (RX6, yX6_wettest, cX6_wettest, 1, (some .int))
abbrev mX6_largestScoop : MI := (RX6, yX6_largestScoop, cX6_largestScoop, 3, (some .int))
abbrev mX6_melted : MI := (RX6, yX6_melted, cX6_melted, 4, (some .int))
abbrev mX6_noActs : MI := (RX6, yX6_noActs, cX6_noActs, 4, (some .int))
abbrev mX6_wrongIn : MI := (RX6, yX6_wrongIn, cX6_wrongIn, 4, (some .int))
abbrev mX6_judge : MI := (RX6, yX6_judge, cX6_judge, 4, (some .int))
abbrev mX6_behind : MI := (RX6, yX6_behind, cX6_behind, 7, (some .int))
abbrev mX6_done : MI := (RX6, yX6_done, cX6_done, 6, (some .int))
abbrev mX6_drop : MI := (RX6, yX6_drop, cX6_drop, 2, (some .int))
abbrev mX6_went : MI := (RX6, yX6_went, cX6_went, 8, (some .int))
abbrev mX6_act : MI := (RX6, yX6_act, cX6_act, 3, (some .int))
abbrev mX6_licksTruly : MI := (RX6, yX6_licksTruly, cX6_licksTruly, 4, none)
abbrev mX6_licks : MI := (RX6, yX6_licks, cX6_licks, 4, (some .int))
abbrev mX6_swap : MI := (RX6, yX6_swap, cX6_swap, 4, (some .int))
abbrev mX6_below : MI := (RX6, yX6_below, cX6_below, 2, (some .int))
abbrev mX6_day : MI := (RX6, yX6_day, cX6_day, 4, (some .int))
abbrev mX6_anew : MI := (RX6, yX6_anew, cX6_anew, 3, (some .int))
abbrev mX6_seed : MI := (RX6, yX6_seed, cX6_seed, 3, (some .int))
abbrev mX6_copied : MI := (RX6, yX6_copied, cX6_copied, 3, none)
abbrev mX6_takeFrom : MI := (RX6, yX6_takeFrom, cX6_takeFrom, 3, none)
abbrev mX6_image : MI := (RX6, yX6_image, cX6_image, 1, (some .int))
abbrev mX6_back : MI := (RX6, yX6_back, cX6_back, 2, (some .int))
abbrev mX6_status : MI := (RX6, yX6_status, cX6_status, 4, (some .int))
theorem calX0_init : CalI mX0_init 0 := ⟨⟨TT_1 32 rfl rfl, TT_1 3 rfl rfl, ⟨by decide +kernel, by decide +kernel⟩, by decide⟩, TT_1 31 rfl rfl, rfl, rfl, by decide +kernel⟩
theorem calX0_takeFrom : CalV mX0_takeFrom 0 1 := ⟨⟨TT_2 132 rfl rfl, TT_1 3 rfl rfl, ⟨by decide +kernel, by decide +kernel⟩, by decide⟩, TT_2 130 rfl rfl, TT_2 131 rfl rfl, by decide, by decide +kernel⟩
theorem calX0_hasOrder : CalV mX0_hasOrder 0 1 := ⟨⟨TT_3 237 rfl rfl, TT_1 3 rfl rfl, ⟨by decide +kernel, by decide +kernel⟩, by decide⟩, TT_3 235 rfl rfl, TT_3 236 rfl rfl, by decide, by decide +kernel⟩
theorem calX0_scoopInOrder : CalS mX0_scoopInOrder 2 := ⟨⟨TT_4 0 rfl rfl, TT_1 3 rfl rfl, ⟨by decide +kernel, by decide +kernel⟩, by decide⟩, TT_3 239 rfl rfl, by decide +kernel⟩
theorem calX0_takeInOrder : CalV mX0_takeInOrder 0 2 := ⟨⟨TT_4 6 rfl rfl, TT_1 3 rfl rfl, ⟨by decide +kernel, by decide +kernel⟩, by decide⟩, TT_4 4 rfl rfl, TT_4 5 rfl rfl, by decide, by decide +kernel⟩
theorem calX0_changePlaces : CalV mX0_changePlaces 0 2 := ⟨⟨TT_4 88 rfl rfl, TT_1 3 rfl rfl, ⟨by decide +kernel, by decide +kernel⟩, by decide⟩, TT_4 86 rfl rfl, TT_4 87 rfl rfl, by decide, by decide +kernel⟩
theorem calX0_becomeSides : CalV mX0_becomeSides 0 1 := ⟨⟨TT_2 186 rfl rfl, TT_1 3 rfl rfl, ⟨by decide +kernel, by decide +kernel⟩, by decide⟩, TT_2 184 rfl rfl, TT_2 185 rfl rfl, by decide, by decide +kernel⟩
theorem calX0_becomeEmpty : CalV mX0_becomeEmpty 0 0 := ⟨⟨TT_4 105 rfl rfl, TT_1 3 rfl rfl, ⟨by decide +kernel, by decide +kernel⟩, by decide⟩, TT_4 103 rfl rfl, TT_4 104 rfl rfl, by decide, by decide +kernel⟩
theorem calX0_putOnTop : CalV mX0_putOnTop 0 2 := ⟨⟨TT_2 198 rfl rfl, TT_1 3 rfl rfl, ⟨by decide +kernel, by decide +kernel⟩, by decide⟩, TT_2 196 rfl rfl, TT_2 197 rfl rfl, by decide, by decide +kernel⟩
theorem calX0_allPlaces : CalV mX0_allPlaces 0 0 := ⟨⟨TT_2 190 rfl rfl, TT_1 3 rfl rfl, ⟨by decide +kernel, by decide +kernel⟩, by decide⟩, TT_2 188 rfl rfl, TT_2 189 rfl rfl, by decide, by decide +kernel⟩
theorem calX0_wetAt : CalV mX0_wetAt 0 2 := ⟨⟨TT_2 105 rfl rfl, TT_1 3 rfl rfl, ⟨by decide +kernel, by decide +kernel⟩, by decide⟩, TT_2 103 rfl rfl, TT_2 104 rfl rfl, by decide, by decide +kernel⟩
theorem calX0_isSunny : CalV mX0_isSunny 0 1 := ⟨⟨TT_2 170 rfl rfl, TT_1 3 rfl rfl, ⟨by decide +kernel, by decide +kernel⟩, by decide⟩, TT_2 168 rfl rfl, TT_2 169 rfl rfl, by decide, by decide +kernel⟩
theorem calX0_allWetOf : CalV mX0_allWetOf 0 1 := ⟨⟨TT_3 144 rfl rfl, TT_1 3 rfl rfl, ⟨by decide +kernel, by decide +kernel⟩, by decide⟩, TT_3 142 rfl rfl, TT_3 143 rfl rfl, by decide, by decide +kernel⟩
theorem calX0_left : CalV mX0_left 0 0 := ⟨⟨TT_3 191 rfl rfl, TT_1 3 rfl rfl, ⟨by decide +kernel, by decide +kernel⟩, by decide⟩, TT_3 189 rfl rfl, TT_3 190 rfl rfl, by decide, by decide +kernel⟩
theorem calX0_hasMeltedScoop : CalV mX0_hasMeltedScoop 0 0 := ⟨⟨TT_4 33 rfl rfl, TT_1 3 rfl rfl, ⟨by decide +kernel, by decide +kernel⟩, by decide⟩, TT_4 31 rfl rfl, TT_4 32 rfl rfl, by decide, by decide +kernel⟩
theorem calX0_wettestSide : CalV mX0_wettestSide 0 0 := ⟨⟨TT_2 109 rfl rfl, TT_1 3 rfl rfl, ⟨by decide +kernel, by decide +kernel⟩, by decide⟩, TT_2 107 rfl rfl, TT_2 108 rfl rfl, by decide, by decide +kernel⟩
theorem calX0_lowestWetSide : CalV mX0_lowestWetSide 0 0 := ⟨⟨TT_2 120 rfl rfl, TT_1 3 rfl rfl, ⟨by decide +kernel, by decide +kernel⟩, by decide⟩, TT_2 118 rfl rfl, TT_2 119 rfl rfl, by decide, by decide +kernel⟩
theorem calX0_isWetLower : CalV mX0_isWetLower 0 2 := ⟨⟨TT_2 124 rfl rfl, TT_1 3 rfl rfl, ⟨by decide +kernel, by decide +kernel⟩, by decide⟩, TT_2 123 rfl rfl, TP_1 5 rfl, by decide, by decide +kernel⟩
theorem calX0_canDo : CalV mX0_canDo 0 1 := ⟨⟨TT_2 150 rfl rfl, TT_1 3 rfl rfl, ⟨by decide +kernel, by decide +kernel⟩, by decide⟩, TT_2 148 rfl rfl, TT_2 149 rfl rfl, by decide, by decide +kernel⟩
theorem calX0_isIdle : CalV mX0_isIdle 0 1 := ⟨⟨TT_2 146 rfl rfl, TT_1 3 rfl rfl, ⟨by decide +kernel, by decide +kernel⟩, by decide⟩, TT_2 144 rfl rfl, TT_2 145 rfl rfl, by decide, by decide +kernel⟩
theorem calX0_pass : CalV mX0_pass 0 1 := ⟨⟨TT_2 154 rfl rfl, TT_1 3 rfl rfl, ⟨by decide +kernel, by decide +kernel⟩, by decide⟩, TT_2 152 rfl rfl, TT_2 153 rfl rfl, by decide, by decide +kernel⟩
theorem calX0_eat : CalV mX0_eat 0 1 := ⟨⟨TT_2 159 rfl rfl, TT_1 3 rfl rfl, ⟨by decide +kernel, by decide +kernel⟩, by decide⟩, TT_2 158 rfl rfl, TP_1 7 rfl, by decide, by decide +kernel⟩
theorem calX0_melt : CalV mX0_melt 0 0 := ⟨⟨TT_2 166 rfl rfl, TT_1 3 rfl rfl, ⟨by decide +kernel, by decide +kernel⟩, by decide⟩, TT_2 165 rfl rfl, TP_1 8 rfl, by decide, by decide +kernel⟩
theorem calX0_runDown : CalV mX0_runDown 0 0 := ⟨⟨TT_2 174 rfl rfl, TT_1 3 rfl rfl, ⟨by decide +kernel, by decide +kernel⟩, by decide⟩, TT_2 173 rfl rfl, TP_1 9 rfl, by decide, by decide +kernel⟩
theorem calX0_fallOff : CalV mX0_fallOff 0 0 := ⟨⟨TT_2 178 rfl rfl, TT_1 3 rfl rfl, ⟨by decide +kernel, by decide +kernel⟩, by decide⟩, TT_2 177 rfl rfl, TP_1 10 rfl, by decide, by decide +kernel⟩
theorem calX1_init : CalI mX1_init 0 := ⟨⟨TT_1 179 rfl rfl, TT_1 5 rfl rfl, ⟨by decide +kernel, by decide +kernel⟩, by decide⟩, TT_1 178 rfl rfl, rfl, rfl, by decide +kernel⟩
theorem calX1_append : CalV mX1_append 1 1 := ⟨⟨TT_2 231 rfl rfl, TT_1 5 rfl rfl, ⟨by decide +kernel, by decide +kernel⟩, by decide⟩, TT_2 229 rfl rfl, TT_2 230 rfl rfl, by decide, by decide +kernel⟩
theorem calX1_readInto : CalV mX1_readInto 1 1 := ⟨⟨TT_3 9 rfl rfl, TT_1 5 rfl rfl, ⟨by decide +kernel, by decide +kernel⟩, by decide⟩, TT_3 7 rfl rfl, TT_3 8 rfl rfl, by decide, by decide +kernel⟩
theorem calX1_readStatement : CalV mX1_readStatement 1 1 := ⟨⟨TT_3 31 rfl rfl, TT_1 5 rfl rfl, ⟨by decide +kernel, by decide +kernel⟩, by decide⟩, TT_3 30 rfl rfl, TP_2 0 rfl, by decide, by decide +kernel⟩
theorem calX1_readSides : CalV mX1_readSides 1 1 := ⟨⟨TT_3 88 rfl rfl, TT_1 5 rfl rfl, ⟨by decide +kernel, by decide +kernel⟩, by decide⟩, TT_3 87 rfl rfl, TP_2 2 rfl, by decide, by decide +kernel⟩
theorem calX1_readScoop : CalV mX1_readScoop 1 1 := ⟨⟨TT_3 98 rfl rfl, TT_1 5 rfl rfl, ⟨by decide +kernel, by decide +kernel⟩, by decide⟩, TT_3 97 rfl rfl, TP_2 4 rfl, by decide, by decide +kernel⟩
theorem calX1_readSun : CalV mX1_readSun 1 1 := ⟨⟨TT_3 104 rfl rfl, TT_1 5 rfl rfl, ⟨by decide +kernel, by decide +kernel⟩, by decide⟩, TT_3 103 rfl rfl, TP_2 5 rfl, by decide, by decide +kernel⟩
theorem calX1_readHold : CalV mX1_readHold 1 1 := ⟨⟨TT_3 109 rfl rfl, TT_1 5 rfl rfl, ⟨by decide +kernel, by decide +kernel⟩, by decide⟩, TT_3 108 rfl rfl, TP_2 6 rfl, by decide, by decide +kernel⟩
theorem calX1_readBrim : CalV mX1_readBrim 1 1 := ⟨⟨TT_3 114 rfl rfl, TT_1 5 rfl rfl, ⟨by decide +kernel, by decide +kernel⟩, by decide⟩, TT_3 113 rfl rfl, TP_2 7 rfl, by decide, by decide +kernel⟩
theorem calX1_readLicker : CalV mX1_readLicker 1 1 := ⟨⟨TT_3 119 rfl rfl, TT_1 5 rfl rfl, ⟨by decide +kernel, by decide +kernel⟩, by decide⟩, TT_3 118 rfl rfl, TP_2 8 rfl, by decide, by decide +kernel⟩
theorem calX1_readLick : CalV mX1_readLick 1 1 := ⟨⟨TT_3 125 rfl rfl, TT_1 5 rfl rfl, ⟨by decide +kernel, by decide +kernel⟩, by decide⟩, TT_3 124 rfl rfl, TP_2 9 rfl, by decide, by decide +kernel⟩
theorem calX1_isNumber : CalV mX1_isNumber 1 2 := ⟨⟨TT_3 92 rfl rfl, TT_1 5 rfl rfl, ⟨by decide +kernel, by decide +kernel⟩, by decide⟩, TT_3 91 rfl rfl, TP_2 3 rfl, by decide, by decide +kernel⟩
theorem calX1_isWord : CalV mX1_isWord 1 1 := ⟨⟨TT_3 36 rfl rfl, TT_1 5 rfl rfl, ⟨by decide +kernel, by decide +kernel⟩, by decide⟩, TT_3 35 rfl rfl, TP_2 1 rfl, by decide, by decide +kernel⟩
theorem calX1_advance : CalV mX1_advance 1 0 := ⟨⟨TT_3 13 rfl rfl, TT_1 5 rfl rfl, ⟨by decide +kernel, by decide +kernel⟩, by decide⟩, TT_3 12 rfl rfl, TP_1 13 rfl, by decide, by decide +kernel⟩
theorem calX1_readNumber : CalV mX1_readNumber 1 0 := ⟨⟨TT_3 27 rfl rfl, TT_1 5 rfl rfl, ⟨by decide +kernel, by decide +kernel⟩, by decide⟩, TT_3 26 rfl rfl, TP_1 15 rfl, by decide, by decide +kernel⟩
theorem calX1_byteAt : CalV mX1_byteAt 1 1 := ⟨⟨TT_3 17 rfl rfl, TT_1 5 rfl rfl, ⟨by decide +kernel, by decide +kernel⟩, by decide⟩, TT_3 16 rfl rfl, TP_1 14 rfl, by decide, by decide +kernel⟩
theorem calX1_isLetter : CalS mX1_isLetter 1 := ⟨⟨TT_3 20 rfl rfl, TT_1 5 rfl rfl, ⟨by decide +kernel, by decide +kernel⟩, by decide⟩, TT_3 19 rfl rfl, by decide +kernel⟩
theorem calX1_isDigit : CalS mX1_isDigit 1 := ⟨⟨TT_3 23 rfl rfl, TT_1 5 rfl rfl, ⟨by decide +kernel, by decide +kernel⟩, by decide⟩, TT_3 22 rfl rfl, by decide +kernel⟩
theorem calX2_init : CalI mX2_init 0 := ⟨⟨TT_1 150 rfl rfl, TT_1 4 rfl rfl, ⟨by decide +kernel, by decide +kernel⟩, by decide⟩, TT_1 149 rfl rfl, rfl, rfl, by decide +kernel⟩
theorem calX2_choose : CalV mX2_choose 2 3 := ⟨⟨TT_2 95 rfl rfl, TT_1 4 rfl rfl, ⟨by decide +kernel, by decide +kernel⟩, by decide⟩, TT_2 93 rfl rfl, TT_2 94 rfl rfl, by decide, by decide +kernel⟩
theorem calX2_goRound : CalS mX2_goRound 1 := ⟨⟨TT_2 98 rfl rfl, TT_1 4 rfl rfl, ⟨by decide +kernel, by decide +kernel⟩, by decide⟩, TT_2 97 rfl rfl, by decide +kernel⟩
theorem calX2_lickLowest : CalS mX2_lickLowest 1 := ⟨⟨TT_2 101 rfl rfl, TT_1 4 rfl rfl, ⟨by decide +kernel, by decide +kernel⟩, by decide⟩, TT_2 100 rfl rfl, by decide +kernel⟩
theorem calX2_lickWettest : CalS mX2_lickWettest 1 := ⟨⟨TT_2 113 rfl rfl, TT_1 4 rfl rfl, ⟨by decide +kernel, by decide +kernel⟩, by decide⟩, TT_2 112 rfl rfl, by decide +kernel⟩
theorem calX2_turnTo : CalS mX2_turnTo 2 := ⟨⟨TT_2 116 rfl rfl, TT_1 4 rfl rfl, ⟨by decide +kernel, by decide +kernel⟩, by decide⟩, TT_2 115 rfl rfl, by decide +kernel⟩
theorem calX2_findPlan : CalV mX2_findPlan 2 2 := ⟨⟨TT_2 128 rfl rfl, TT_1 4 rfl rfl, ⟨by decide +kernel, by decide +kernel⟩, by decide⟩, TT_2 126 rfl rfl, TT_2 127 rfl rfl, by decide, by decide +kernel⟩
theorem calX2_deepen : CalS mX2_deepen 3 := ⟨⟨TT_2 137 rfl rfl, TT_1 4 rfl rfl, ⟨by decide +kernel, by decide +kernel⟩, by decide⟩, TT_2 136 rfl rfl, by decide +kernel⟩
theorem calX2_weigh : CalV mX2_weigh 2 1 := ⟨⟨TT_2 141 rfl rfl, TT_1 4 rfl rfl, ⟨by decide +kernel, by decide +kernel⟩, by decide⟩, TT_2 140 rfl rfl, TP_1 6 rfl, by decide, by decide +kernel⟩
theorem calX3_init : CalI mX3_init 0 := ⟨⟨TT_1 204 rfl rfl, TT_1 6 rfl rfl, ⟨by decide +kernel, by decide +kernel⟩, by decide⟩, TT_1 203 rfl rfl, rfl, rfl, by decide +kernel⟩
theorem calX3_clearAway : CalV mX3_clearAway 3 0 := ⟨⟨TT_2 72 rfl rfl, TT_1 6 rfl rfl, ⟨by decide +kernel, by decide +kernel⟩, by decide⟩, TT_2 70 rfl rfl, TT_2 71 rfl rfl, by decide, by decide +kernel⟩
theorem calX3_holdRow : CalV mX3_holdRow 3 2 := ⟨⟨TT_2 25 rfl rfl, TT_1 6 rfl rfl, ⟨by decide +kernel, by decide +kernel⟩, by decide⟩, TT_2 23 rfl rfl, TT_2 24 rfl rfl, by decide, by decide +kernel⟩
theorem calX3_holdLicker : CalV mX3_holdLicker 3 1 := ⟨⟨TT_2 76 rfl rfl, TT_1 6 rfl rfl, ⟨by decide +kernel, by decide +kernel⟩, by decide⟩, TT_2 74 rfl rfl, TT_2 75 rfl rfl, by decide, by decide +kernel⟩
theorem calX3_holdsRow : CalV mX3_holdsRow 3 0 := ⟨⟨TT_2 37 rfl rfl, TT_1 6 rfl rfl, ⟨by decide +kernel, by decide +kernel⟩, by decide⟩, TT_2 35 rfl rfl, TT_2 36 rfl rfl, by decide, by decide +kernel⟩
theorem calX3_lickerNumber : CalV mX3_lickerNumber 3 0 := ⟨⟨TT_2 84 rfl rfl, TT_1 6 rfl rfl, ⟨by decide +kernel, by decide +kernel⟩, by decide⟩, TT_2 82 rfl rfl, TT_2 83 rfl rfl, by decide, by decide +kernel⟩
theorem calX3_put : CalV mX3_put 3 2 := ⟨⟨TT_2 41 rfl rfl, TT_1 6 rfl rfl, ⟨by decide +kernel, by decide +kernel⟩, by decide⟩, TT_2 39 rfl rfl, TT_2 40 rfl rfl, by decide, by decide +kernel⟩
theorem calX4_init : CalI mX4_init 0 := ⟨⟨TT_1 26 rfl rfl, TT_1 2 rfl rfl, ⟨by decide +kernel, by decide +kernel⟩, by decide⟩, TT_1 25 rfl rfl, rfl, rfl, by decide +kernel⟩
theorem calX4_takeFrom : CalV mX4_takeFrom 4 1 := ⟨⟨TT_3 3 rfl rfl, TT_1 2 rfl rfl, ⟨by decide +kernel, by decide +kernel⟩, by decide⟩, TT_3 1 rfl rfl, TT_3 2 rfl rfl, by decide, by decide +kernel⟩
theorem calX4_addLicker : CalV mX4_addLicker 4 2 := ⟨⟨TT_2 223 rfl rfl, TT_1 2 rfl rfl, ⟨by decide +kernel, by decide +kernel⟩, by decide⟩, TT_2 221 rfl rfl, TT_2 222 rfl rfl, by decide, by decide +kernel⟩
theorem calX4_actInTruth : CalV mX4_actInTruth 4 1 := ⟨⟨TT_3 130 rfl rfl, TT_1 2 rfl rfl, ⟨by decide +kernel, by decide +kernel⟩, by decide⟩, TT_3 128 rfl rfl, TT_3 129 rfl rfl, by decide, by decide +kernel⟩
theorem calX4_drawByte : CalV mX4_drawByte 4 0 := ⟨⟨TT_4 96 rfl rfl, TT_1 2 rfl rfl, ⟨by decide +kernel, by decide +kernel⟩, by decide⟩, TT_4 94 rfl rfl, TT_4 95 rfl rfl, by decide, by decide +kernel⟩
theorem calX5_init : CalI mX5_init 0 := ⟨⟨TT_1 18 rfl rfl, TT_1 1 rfl rfl, ⟨by decide +kernel, by decide +kernel⟩, by decide⟩, TT_1 17 rfl rfl, rfl, rfl, by decide +kernel⟩
theorem calX5_row : CalV mX5_row 5 3 := ⟨⟨TT_2 11 rfl rfl, TT_1 1 rfl rfl, ⟨by decide +kernel, by decide +kernel⟩, by decide⟩, TT_2 9 rfl rfl, TT_2 10 rfl rfl, by decide, by decide +kernel⟩
theorem calX5_set : CalV mX5_set 5 3 := ⟨⟨TT_2 29 rfl rfl, TT_1 1 rfl rfl, ⟨by decide +kernel, by decide +kernel⟩, by decide⟩, TT_2 27 rfl rfl, TT_2 28 rfl rfl, by decide, by decide +kernel⟩
theorem calX5_copy : CalV mX5_copy 5 5 := ⟨⟨TT_2 45 rfl rfl, TT_1 1 rfl rfl, ⟨by decide +kernel, by decide +kernel⟩, by decide⟩, TT_2 43 rfl rfl, TT_2 44 rfl rfl, by decide, by decide +kernel⟩
theorem calX5_element : CalV mX5_element 5 2 := ⟨⟨TT_2 56 rfl rfl, TT_1 1 rfl rfl, ⟨by decide +kernel, by decide +kernel⟩, by decide⟩, TT_2 54 rfl rfl, TT_2 55 rfl rfl, by decide, by decide +kernel⟩
theorem calX5_holds : CalV mX5_holds 5 1 := ⟨⟨TT_2 60 rfl rfl, TT_1 1 rfl rfl, ⟨by decide +kernel, by decide +kernel⟩, by decide⟩, TT_2 58 rfl rfl, TT_2 59 rfl rfl, by decide, by decide +kernel⟩
theorem calX5_show : CalV mX5_show 5 2 := ⟨⟨TT_2 64 rfl rfl, TT_1 1 rfl rfl, ⟨by decide +kernel, by decide +kernel⟩, by decide⟩, TT_2 62 rfl rfl, TT_2 63 rfl rfl, by decide, by decide +kernel⟩
theorem calX5_says : CalV mX5_says 5 2 := ⟨⟨TT_2 80 rfl rfl, TT_1 1 rfl rfl, ⟨by decide +kernel, by decide +kernel⟩, by decide⟩, TT_2 78 rfl rfl, TT_2 79 rfl rfl, by decide, by decide +kernel⟩
theorem calX5_sides : CalV mX5_sides 5 1 := ⟨⟨TT_2 182 rfl rfl, TT_1 1 rfl rfl, ⟨by decide +kernel, by decide +kernel⟩, by decide⟩, TT_2 180 rfl rfl, TT_2 181 rfl rfl, by decide, by decide +kernel⟩
theorem calX5_scoop : CalV mX5_scoop 5 2 := ⟨⟨TT_2 194 rfl rfl, TT_1 1 rfl rfl, ⟨by decide +kernel, by decide +kernel⟩, by decide⟩, TT_2 192 rfl rfl, TT_2 193 rfl rfl, by decide, by decide +kernel⟩
theorem calX5_sun : CalV mX5_sun 5 1 := ⟨⟨TT_2 202 rfl rfl, TT_1 1 rfl rfl, ⟨by decide +kernel, by decide +kernel⟩, by decide⟩, TT_2 200 rfl rfl, TT_2 201 rfl rfl, by decide, by decide +kernel⟩
theorem calX5_ask : CalV mX5_ask 5 2 := ⟨⟨TT_2 207 rfl rfl, TT_1 1 rfl rfl, ⟨by decide +kernel, by decide +kernel⟩, by decide⟩, TT_2 205 rfl rfl, TT_2 206 rfl rfl, by decide, by decide +kernel⟩
theorem calX5_licker : CalV mX5_licker 5 2 := ⟨⟨TT_2 219 rfl rfl, TT_1 1 rfl rfl, ⟨by decide +kernel, by decide +kernel⟩, by decide⟩, TT_2 217 rfl rfl, TT_2 218 rfl rfl, by decide, by decide +kernel⟩
theorem calX5_feed : CalV mX5_feed 5 1 := ⟨⟨TT_2 227 rfl rfl, TT_1 1 rfl rfl, ⟨by decide +kernel, by decide +kernel⟩, by decide⟩, TT_2 225 rfl rfl, TT_2 226 rfl rfl, by decide, by decide +kernel⟩
theorem calX5_wipe : CalV mX5_wipe 5 0 := ⟨⟨TT_2 235 rfl rfl, TT_1 1 rfl rfl, ⟨by decide +kernel, by decide +kernel⟩, by decide⟩, TT_2 233 rfl rfl, TT_2 234 rfl rfl, by decide, by decide +kernel⟩
theorem calX5_kerb : CalV mX5_kerb 5 0 := ⟨⟨TT_2 239 rfl rfl, TT_1 1 rfl rfl, ⟨by decide +kernel, by decide +kernel⟩, by decide⟩, TT_2 237 rfl rfl, TT_2 238 rfl rfl, by decide, by decide +kernel⟩
theorem calX5_scoopOf : CalV mX5_scoopOf 5 2 := ⟨⟨TT_3 136 rfl rfl, TT_1 1 rfl rfl, ⟨by decide +kernel, by decide +kernel⟩, by decide⟩, TT_3 134 rfl rfl, TT_3 135 rfl rfl, by decide, by decide +kernel⟩
theorem calX5_wet : CalV mX5_wet 5 2 := ⟨⟨TT_3 148 rfl rfl, TT_1 1 rfl rfl, ⟨by decide +kernel, by decide +kernel⟩, by decide⟩, TT_3 146 rfl rfl, TT_3 147 rfl rfl, by decide, by decide +kernel⟩
theorem calX5_lickerOf : CalV mX5_lickerOf 5 2 := ⟨⟨TT_3 153 rfl rfl, TT_1 1 rfl rfl, ⟨by decide +kernel, by decide +kernel⟩, by decide⟩, TT_3 151 rfl rfl, TT_3 152 rfl rfl, by decide, by decide +kernel⟩
theorem calX5_sunny : CalV mX5_sunny 5 1 := ⟨⟨TT_3 157 rfl rfl, TT_1 1 rfl rfl, ⟨by decide +kernel, by decide +kernel⟩, by decide⟩, TT_3 155 rfl rfl, TT_3 156 rfl rfl, by decide, by decide +kernel⟩
theorem calX5_without : CalV mX5_without 5 1 := ⟨⟨TT_3 162 rfl rfl, TT_1 1 rfl rfl, ⟨by decide +kernel, by decide +kernel⟩, by decide⟩, TT_3 160 rfl rfl, TT_3 161 rfl rfl, by decide, by decide +kernel⟩
theorem calX5_spare : CalV mX5_spare 5 0 := ⟨⟨TT_3 175 rfl rfl, TT_1 1 rfl rfl, ⟨by decide +kernel, by decide +kernel⟩, by decide⟩, TT_3 173 rfl rfl, TT_3 174 rfl rfl, by decide, by decide +kernel⟩
theorem calX5_run : CalV mX5_run 5 3 := ⟨⟨TT_3 179 rfl rfl, TT_1 1 rfl rfl, ⟨by decide +kernel, by decide +kernel⟩, by decide⟩, TT_3 177 rfl rfl, TT_3 178 rfl rfl, by decide, by decide +kernel⟩
theorem calX5_would : CalV mX5_would 5 1 := ⟨⟨TT_3 196 rfl rfl, TT_1 1 rfl rfl, ⟨by decide +kernel, by decide +kernel⟩, by decide⟩, TT_3 194 rfl rfl, TT_3 195 rfl rfl, by decide, by decide +kernel⟩
theorem calX5_plan : CalV mX5_plan 5 2 := ⟨⟨TT_3 200 rfl rfl, TT_1 1 rfl rfl, ⟨by decide +kernel, by decide +kernel⟩, by decide⟩, TT_3 198 rfl rfl, TT_3 199 rfl rfl, by decide, by decide +kernel⟩
theorem calX5_best : CalV mX5_best 5 1 := ⟨⟨TT_3 205 rfl rfl, TT_1 1 rfl rfl, ⟨by decide +kernel, by decide +kernel⟩, by decide⟩, TT_3 203 rfl rfl, TT_3 204 rfl rfl, by decide, by decide +kernel⟩
theorem calX5_until : CalV mX5_until 5 1 := ⟨⟨TT_3 209 rfl rfl, TT_1 1 rfl rfl, ⟨by decide +kernel, by decide +kernel⟩, by decide⟩, TT_3 207 rfl rfl, TT_3 208 rfl rfl, by decide, by decide +kernel⟩
theorem calX5_spareBy : CalV mX5_spareBy 5 1 := ⟨⟨TT_3 213 rfl rfl, TT_1 1 rfl rfl, ⟨by decide +kernel, by decide +kernel⟩, by decide⟩, TT_3 211 rfl rfl, TT_3 212 rfl rfl, by decide, by decide +kernel⟩
theorem calX5_both : CalV mX5_both 5 3 := ⟨⟨TT_3 217 rfl rfl, TT_1 1 rfl rfl, ⟨by decide +kernel, by decide +kernel⟩, by decide⟩, TT_3 215 rfl rfl, TT_3 216 rfl rfl, by decide, by decide +kernel⟩
theorem calX5_holdFor : CalV mX5_holdFor 5 1 := ⟨⟨TT_3 221 rfl rfl, TT_1 1 rfl rfl, ⟨by decide +kernel, by decide +kernel⟩, by decide⟩, TT_3 219 rfl rfl, TT_3 220 rfl rfl, by decide, by decide +kernel⟩
theorem calX5_largest : CalV mX5_largest 5 2 := ⟨⟨TT_3 225 rfl rfl, TT_1 1 rfl rfl, ⟨by decide +kernel, by decide +kernel⟩, by decide⟩, TT_3 223 rfl rfl, TT_3 224 rfl rfl, by decide, by decide +kernel⟩
theorem calX5_order : CalV mX5_order 5 2 := ⟨⟨TT_3 233 rfl rfl, TT_1 1 rfl rfl, ⟨by decide +kernel, by decide +kernel⟩, by decide⟩, TT_3 231 rfl rfl, TT_3 232 rfl rfl, by decide, by decide +kernel⟩
theorem calX5_shade : CalV mX5_shade 5 1 := ⟨⟨TT_4 12 rfl rfl, TT_1 1 rfl rfl, ⟨by decide +kernel, by decide +kernel⟩, by decide⟩, TT_4 10 rfl rfl, TT_4 11 rfl rfl, by decide, by decide +kernel⟩
theorem calX5_gives : CalV mX5_gives 5 0 := ⟨⟨TT_4 16 rfl rfl, TT_1 1 rfl rfl, ⟨by decide +kernel, by decide +kernel⟩, by decide⟩, TT_4 14 rfl rfl, TT_4 15 rfl rfl, by decide, by decide +kernel⟩
theorem calX5_wettest : CalV mX5_wettest 5 0 := ⟨⟨TT_4 20 rfl rfl, TT_1 1 rfl rfl, ⟨by decide +kernel, by decide +kernel⟩, by decide⟩, TT_4 18 rfl rfl, TT_4 19 rfl rfl, by decide, by decide +kernel⟩
theorem calX5_largestScoop : CalV mX5_largestScoop 5 0 := ⟨⟨TT_4 25 rfl rfl, TT_1 1 rfl rfl, ⟨by decide +kernel, by decide +kernel⟩, by decide⟩, TT_4 23 rfl rfl, TT_4 24 rfl rfl, by decide, by decide +kernel⟩
theorem calX5_melted : CalV mX5_melted 5 0 := ⟨⟨TT_4 29 rfl rfl, TT_1 1 rfl rfl, ⟨by decide +kernel, by decide +kernel⟩, by decide⟩, TT_4 27 rfl rfl, TT_4 28 rfl rfl, by decide, by decide +kernel⟩
theorem calX5_judge : CalV mX5_judge 5 2 := ⟨⟨TT_4 37 rfl rfl, TT_1 1 rfl rfl, ⟨by decide +kernel, by decide +kernel⟩, by decide⟩, TT_4 35 rfl rfl, TT_4 36 rfl rfl, by decide, by decide +kernel⟩
theorem calX5_behind : CalV mX5_behind 5 3 := ⟨⟨TT_4 51 rfl rfl, TT_1 1 rfl rfl, ⟨by decide +kernel, by decide +kernel⟩, by decide⟩, TT_4 49 rfl rfl, TT_4 50 rfl rfl, by decide, by decide +kernel⟩
theorem calX5_done : CalV mX5_done 5 2 := ⟨⟨TT_4 55 rfl rfl, TT_1 1 rfl rfl, ⟨by decide +kernel, by decide +kernel⟩, by decide⟩, TT_4 53 rfl rfl, TT_4 54 rfl rfl, by decide, by decide +kernel⟩
theorem calX5_drop : CalV mX5_drop 5 1 := ⟨⟨TT_4 60 rfl rfl, TT_1 1 rfl rfl, ⟨by decide +kernel, by decide +kernel⟩, by decide⟩, TT_4 58 rfl rfl, TT_4 59 rfl rfl, by decide, by decide +kernel⟩
theorem calX5_went : CalV mX5_went 5 2 := ⟨⟨TT_4 64 rfl rfl, TT_1 1 rfl rfl, ⟨by decide +kernel, by decide +kernel⟩, by decide⟩, TT_4 62 rfl rfl, TT_4 63 rfl rfl, by decide, by decide +kernel⟩
theorem calX5_act : CalV mX5_act 5 1 := ⟨⟨TT_4 72 rfl rfl, TT_1 1 rfl rfl, ⟨by decide +kernel, by decide +kernel⟩, by decide⟩, TT_4 70 rfl rfl, TT_4 71 rfl rfl, by decide, by decide +kernel⟩
theorem calX5_licks : CalV mX5_licks 5 2 := ⟨⟨TT_4 76 rfl rfl, TT_1 1 rfl rfl, ⟨by decide +kernel, by decide +kernel⟩, by decide⟩, TT_4 74 rfl rfl, TT_4 75 rfl rfl, by decide, by decide +kernel⟩
theorem calX5_swap : CalV mX5_swap 5 2 := ⟨⟨TT_4 84 rfl rfl, TT_1 1 rfl rfl, ⟨by decide +kernel, by decide +kernel⟩, by decide⟩, TT_4 82 rfl rfl, TT_4 83 rfl rfl, by decide, by decide +kernel⟩
theorem calX5_day : CalV mX5_day 5 2 := ⟨⟨TT_4 92 rfl rfl, TT_1 1 rfl rfl, ⟨by decide +kernel, by decide +kernel⟩, by decide⟩, TT_4 90 rfl rfl, TT_4 91 rfl rfl, by decide, by decide +kernel⟩
theorem calX5_anew : CalV mX5_anew 5 0 := ⟨⟨TT_4 101 rfl rfl, TT_1 1 rfl rfl, ⟨by decide +kernel, by decide +kernel⟩, by decide⟩, TT_4 99 rfl rfl, TT_4 100 rfl rfl, by decide, by decide +kernel⟩
theorem calX5_seed : CalV mX5_seed 5 1 := ⟨⟨TT_4 109 rfl rfl, TT_1 1 rfl rfl, ⟨by decide +kernel, by decide +kernel⟩, by decide⟩, TT_4 107 rfl rfl, TT_4 108 rfl rfl, by decide, by decide +kernel⟩
theorem calX5_image : CalV mX5_image 5 0 := ⟨⟨TT_4 113 rfl rfl, TT_1 1 rfl rfl, ⟨by decide +kernel, by decide +kernel⟩, by decide⟩, TT_4 111 rfl rfl, TT_4 112 rfl rfl, by decide, by decide +kernel⟩
theorem calX5_back : CalV mX5_back 5 0 := ⟨⟨TT_4 117 rfl rfl, TT_1 1 rfl rfl, ⟨by decide +kernel, by decide +kernel⟩, by decide⟩, TT_4 115 rfl rfl, TT_4 116 rfl rfl, by decide, by decide +kernel⟩
theorem calX5_status : CalV mX5_status 5 1 := ⟨⟨TT_4 121 rfl rfl, TT_1 1 rfl rfl, ⟨by decide +kernel, by decide +kernel⟩, by decide⟩, TT_4 119 rfl rfl, TT_4 120 rfl rfl, by decide, by decide +kernel⟩
theorem calX5_refuse : CalV mX5_refuse 5 1 := ⟨⟨TT_2 21 rfl rfl, TT_1 1 rfl rfl, ⟨by decide +kernel, by decide +kernel⟩, by decide⟩, TT_2 20 rfl rfl, TP_1 0 rfl, by decide, by decide +kernel⟩
theorem calX5_isWithin : CalS mX5_isWithin 3 := ⟨⟨TT_2 17 rfl rfl, TT_1 1 rfl rfl, ⟨by decide +kernel, by decide +kernel⟩, by decide⟩, TT_2 16 rfl rfl, by decide +kernel⟩
theorem calX5_isShelf : CalS mX5_isShelf 1 := ⟨⟨TT_2 14 rfl rfl, TT_1 1 rfl rfl, ⟨by decide +kernel, by decide +kernel⟩, by decide⟩, TT_2 13 rfl rfl, by decide +kernel⟩
theorem calX5_isSpan : CalS mX5_isSpan 1 := ⟨⟨TT_3 165 rfl rfl, TT_1 1 rfl rfl, ⟨by decide +kernel, by decide +kernel⟩, by decide⟩, TT_3 164 rfl rfl, by decide +kernel⟩
theorem calX5_isScoop : CalV mX5_isScoop 5 1 := ⟨⟨TT_3 140 rfl rfl, TT_1 1 rfl rfl, ⟨by decide +kernel, by decide +kernel⟩, by decide⟩, TT_3 139 rfl rfl, TP_2 10 rfl, by decide, by decide +kernel⟩
theorem calX5_isSide : CalV mX5_isSide 5 1 := ⟨⟨TT_2 215 rfl rfl, TT_1 1 rfl rfl, ⟨by decide +kernel, by decide +kernel⟩, by decide⟩, TT_2 214 rfl rfl, TP_1 12 rfl, by decide, by decide +kernel⟩
theorem calX5_isLicker : CalV mX5_isLicker 5 1 := ⟨⟨TT_2 68 rfl rfl, TT_1 1 rfl rfl, ⟨by decide +kernel, by decide +kernel⟩, by decide⟩, TT_2 67 rfl rfl, TP_1 3 rfl, by decide, by decide +kernel⟩
theorem calX5_canAsk : CalV mX5_canAsk 5 2 := ⟨⟨TT_2 211 rfl rfl, TT_1 1 rfl rfl, ⟨by decide +kernel, by decide +kernel⟩, by decide⟩, TT_2 210 rfl rfl, TP_1 11 rfl, by decide, by decide +kernel⟩
theorem calX5_isUnder : CalS mX5_isUnder 2 := ⟨⟨TT_2 87 rfl rfl, TT_1 1 rfl rfl, ⟨by decide +kernel, by decide +kernel⟩, by decide⟩, TT_2 86 rfl rfl, by decide +kernel⟩
theorem calX5_rowFault : CalV mX5_rowFault 5 1 := ⟨⟨TT_2 33 rfl rfl, TT_1 1 rfl rfl, ⟨by decide +kernel, by decide +kernel⟩, by decide⟩, TT_2 32 rfl rfl, TP_1 1 rfl, by decide, by decide +kernel⟩
theorem calX5_copyFault : CalV mX5_copyFault 5 2 := ⟨⟨TT_2 49 rfl rfl, TT_1 1 rfl rfl, ⟨by decide +kernel, by decide +kernel⟩, by decide⟩, TT_2 48 rfl rfl, TP_1 2 rfl, by decide, by decide +kernel⟩
theorem calX5_toldFault : CalV mX5_toldFault 5 4 := ⟨⟨TT_4 41 rfl rfl, TT_1 1 rfl rfl, ⟨by decide +kernel, by decide +kernel⟩, by decide⟩, TT_4 40 rfl rfl, TP_2 15 rfl, by decide, by decide +kernel⟩
theorem calX5_wrongTold : CalV mX5_wrongTold 5 2 := ⟨⟨TT_4 45 rfl rfl, TT_1 1 rfl rfl, ⟨by decide +kernel, by decide +kernel⟩, by decide⟩, TT_4 44 rfl rfl, TP_3 0 rfl, by decide, by decide +kernel⟩
theorem calX5_wentAt : CalV mX5_wentAt 5 3 := ⟨⟨TT_4 68 rfl rfl, TT_1 1 rfl rfl, ⟨by decide +kernel, by decide +kernel⟩, by decide⟩, TT_4 67 rfl rfl, TP_3 1 rfl, by decide, by decide +kernel⟩
theorem calX5_shelvesInUse : CalV mX5_shelvesInUse 5 0 := ⟨⟨TT_4 125 rfl rfl, TT_1 1 rfl rfl, ⟨by decide +kernel, by decide +kernel⟩, by decide⟩, TT_4 124 rfl rfl, TP_3 3 rfl, by decide, by decide +kernel⟩
theorem calX5_wouldIn : CalV mX5_wouldIn 5 2 := ⟨⟨TT_2 91 rfl rfl, TT_1 1 rfl rfl, ⟨by decide +kernel, by decide +kernel⟩, by decide⟩, TT_2 90 rfl rfl, TP_1 4 rfl, by decide, by decide +kernel⟩
theorem calX5_lostIdling : CalV mX5_lostIdling 5 1 := ⟨⟨TT_3 170 rfl rfl, TT_1 1 rfl rfl, ⟨by decide +kernel, by decide +kernel⟩, by decide⟩, TT_3 169 rfl rfl, TP_2 11 rfl, by decide, by decide +kernel⟩
theorem calX5_lostUnder : CalV mX5_lostUnder 5 3 := ⟨⟨TT_3 229 rfl rfl, TT_1 1 rfl rfl, ⟨by decide +kernel, by decide +kernel⟩, by decide⟩, TT_3 228 rfl rfl, TP_2 14 rfl, by decide, by decide +kernel⟩
theorem calX5_thinkRun : CalV mX5_thinkRun 5 2 := ⟨⟨TT_3 183 rfl rfl, TT_1 1 rfl rfl, ⟨by decide +kernel, by decide +kernel⟩, by decide⟩, TT_3 182 rfl rfl, TP_2 12 rfl, by decide, by decide +kernel⟩
theorem calX5_thoughtResult : CalV mX5_thoughtResult 5 1 := ⟨⟨TT_3 187 rfl rfl, TT_1 1 rfl rfl, ⟨by decide +kernel, by decide +kernel⟩, by decide⟩, TT_3 186 rfl rfl, TP_2 13 rfl, by decide, by decide +kernel⟩
theorem calX5_lickInTruth : CalV mX5_lickInTruth 5 2 := ⟨⟨TT_4 80 rfl rfl, TT_1 1 rfl rfl, ⟨by decide +kernel, by decide +kernel⟩, by decide⟩, TT_4 79 rfl rfl, TP_3 2 rfl, by decide, by decide +kernel⟩
theorem calX6_init : CalI mX6_init 0 := ⟨⟨TT_4 130 rfl rfl, TT_1 7 rfl rfl, ⟨by decide +kernel, by decide +kernel⟩, by decide⟩, TT_4 129 rfl rfl, rfl, rfl, by decide +kernel⟩
theorem calX6_refuse : CalV mX6_refuse 6 1 := ⟨⟨TT_5 47 rfl rfl, TT_1 7 rfl rfl, ⟨by decide +kernel, by decide +kernel⟩, by decide⟩, TT_5 46 rfl rfl, TP_3 4 rfl, by decide, by decide +kernel⟩
theorem calX6_in : CalS mX6_in 3 := ⟨⟨TT_5 41 rfl rfl, TT_1 7 rfl rfl, ⟨by decide +kernel, by decide +kernel⟩, by decide⟩, TT_5 40 rfl rfl, by decide +kernel⟩
theorem calX6_isLicker : CalV mX6_isLicker 6 1 := ⟨⟨TT_5 78 rfl rfl, TT_1 7 rfl rfl, ⟨by decide +kernel, by decide +kernel⟩, by decide⟩, TT_5 77 rfl rfl, TP_3 6 rfl, by decide, by decide +kernel⟩
theorem calX6_isScoop : CalV mX6_isScoop 6 1 := ⟨⟨TT_6 37 rfl rfl, TT_1 7 rfl rfl, ⟨by decide +kernel, by decide +kernel⟩, by decide⟩, TT_6 36 rfl rfl, TP_5 6 rfl, by decide, by decide +kernel⟩
theorem calX6_isSide : CalV mX6_isSide 6 1 := ⟨⟨TT_5 193 rfl rfl, TT_1 7 rfl rfl, ⟨by decide +kernel, by decide +kernel⟩, by decide⟩, TT_5 192 rfl rfl, TP_4 10 rfl, by decide, by decide +kernel⟩
theorem calX6_row : CalV mX6_row 6 3 := ⟨⟨TT_5 37 rfl rfl, TT_1 7 rfl rfl, ⟨by decide +kernel, by decide +kernel⟩, by decide⟩, TT_5 35 rfl rfl, TT_5 36 rfl rfl, by decide, by decide +kernel⟩
theorem calX6_fit : CalS mX6_fit 2 := ⟨⟨TT_5 58 rfl rfl, TT_1 7 rfl rfl, ⟨by decide +kernel, by decide +kernel⟩, by decide⟩, TT_5 57 rfl rfl, by decide +kernel⟩
theorem calX6_noRow : CalV mX6_noRow 6 1 := ⟨⟨TT_5 55 rfl rfl, TT_1 7 rfl rfl, ⟨by decide +kernel, by decide +kernel⟩, by decide⟩, TT_5 54 rfl rfl, TP_3 5 rfl, by decide, by decide +kernel⟩
theorem calX6_set : CalV mX6_set 6 3 := ⟨⟨TT_5 51 rfl rfl, TT_1 7 rfl rfl, ⟨by decide +kernel, by decide +kernel⟩, by decide⟩, TT_5 49 rfl rfl, TT_5 50 rfl rfl, by decide, by decide +kernel⟩
theorem calX6_copy : CalV mX6_copy 6 5 := ⟨⟨TT_5 62 rfl rfl, TT_1 7 rfl rfl, ⟨by decide +kernel, by decide +kernel⟩, by decide⟩, TT_5 60 rfl rfl, TT_5 61 rfl rfl, by decide, by decide +kernel⟩
theorem calX6_element : CalV mX6_element 6 2 := ⟨⟨TT_5 66 rfl rfl, TT_1 7 rfl rfl, ⟨by decide +kernel, by decide +kernel⟩, by decide⟩, TT_5 64 rfl rfl, TT_5 65 rfl rfl, by decide, by decide +kernel⟩
theorem calX6_holds : CalV mX6_holds 6 1 := ⟨⟨TT_5 70 rfl rfl, TT_1 7 rfl rfl, ⟨by decide +kernel, by decide +kernel⟩, by decide⟩, TT_5 68 rfl rfl, TT_5 69 rfl rfl, by decide, by decide +kernel⟩
theorem calX6_show : CalV mX6_show 6 2 := ⟨⟨TT_5 74 rfl rfl, TT_1 7 rfl rfl, ⟨by decide +kernel, by decide +kernel⟩, by decide⟩, TT_5 72 rfl rfl, TT_5 73 rfl rfl, by decide, by decide +kernel⟩
theorem calX6_isUnder : CalS mX6_isUnder 2 := ⟨⟨TT_5 86 rfl rfl, TT_1 7 rfl rfl, ⟨by decide +kernel, by decide +kernel⟩, by decide⟩, TT_5 85 rfl rfl, by decide +kernel⟩
theorem calX6_says : CalV mX6_says 6 2 := ⟨⟨TT_5 82 rfl rfl, TT_1 7 rfl rfl, ⟨by decide +kernel, by decide +kernel⟩, by decide⟩, TT_5 80 rfl rfl, TT_5 81 rfl rfl, by decide, by decide +kernel⟩
theorem calX6_becomeSides : CalV mX6_becomeSides 6 1 := ⟨⟨TT_5 165 rfl rfl, TT_1 7 rfl rfl, ⟨by decide +kernel, by decide +kernel⟩, by decide⟩, TT_5 164 rfl rfl, TP_4 7 rfl, by decide, by decide +kernel⟩
theorem calX6_sides : CalV mX6_sides 6 1 := ⟨⟨TT_5 160 rfl rfl, TT_1 7 rfl rfl, ⟨by decide +kernel, by decide +kernel⟩, by decide⟩, TT_5 158 rfl rfl, TT_5 159 rfl rfl, by decide, by decide +kernel⟩
theorem calX6_addScoop : CalV mX6_addScoop 6 2 := ⟨⟨TT_5 175 rfl rfl, TT_1 7 rfl rfl, ⟨by decide +kernel, by decide +kernel⟩, by decide⟩, TT_5 174 rfl rfl, TP_4 8 rfl, by decide, by decide +kernel⟩
theorem calX6_scoop : CalV mX6_scoop 6 2 := ⟨⟨TT_5 169 rfl rfl, TT_1 7 rfl rfl, ⟨by decide +kernel, by decide +kernel⟩, by decide⟩, TT_5 167 rfl rfl, TT_5 168 rfl rfl, by decide, by decide +kernel⟩
theorem calX6_sun : CalV mX6_sun 6 1 := ⟨⟨TT_5 179 rfl rfl, TT_1 7 rfl rfl, ⟨by decide +kernel, by decide +kernel⟩, by decide⟩, TT_5 177 rfl rfl, TT_5 178 rfl rfl, by decide, by decide +kernel⟩
theorem calX6_mayAsk : CalV mX6_mayAsk 6 2 := ⟨⟨TT_5 187 rfl rfl, TT_1 7 rfl rfl, ⟨by decide +kernel, by decide +kernel⟩, by decide⟩, TT_5 186 rfl rfl, TP_4 9 rfl, by decide, by decide +kernel⟩
theorem calX6_ask : CalV mX6_ask 6 2 := ⟨⟨TT_5 183 rfl rfl, TT_1 7 rfl rfl, ⟨by decide +kernel, by decide +kernel⟩, by decide⟩, TT_5 181 rfl rfl, TT_5 182 rfl rfl, by decide, by decide +kernel⟩
theorem calX6_addLicker : CalV mX6_addLicker 6 2 := ⟨⟨TT_5 201 rfl rfl, TT_1 7 rfl rfl, ⟨by decide +kernel, by decide +kernel⟩, by decide⟩, TT_5 200 rfl rfl, TP_4 11 rfl, by decide, by decide +kernel⟩
theorem calX6_licker : CalV mX6_licker 6 2 := ⟨⟨TT_5 197 rfl rfl, TT_1 7 rfl rfl, ⟨by decide +kernel, by decide +kernel⟩, by decide⟩, TT_5 195 rfl rfl, TT_5 196 rfl rfl, by decide, by decide +kernel⟩
theorem calX6_feed : CalV mX6_feed 6 1 := ⟨⟨TT_5 205 rfl rfl, TT_1 7 rfl rfl, ⟨by decide +kernel, by decide +kernel⟩, by decide⟩, TT_5 203 rfl rfl, TT_5 204 rfl rfl, by decide, by decide +kernel⟩
theorem calX6_wipe : CalV mX6_wipe 6 0 := ⟨⟨TT_5 210 rfl rfl, TT_1 7 rfl rfl, ⟨by decide +kernel, by decide +kernel⟩, by decide⟩, TT_5 208 rfl rfl, TT_5 209 rfl rfl, by decide, by decide +kernel⟩
theorem calX6_isLetter : CalS mX6_isLetter 1 := ⟨⟨TT_5 229 rfl rfl, TT_1 7 rfl rfl, ⟨by decide +kernel, by decide +kernel⟩, by decide⟩, TT_5 228 rfl rfl, by decide +kernel⟩
theorem calX6_isDigit : CalS mX6_isDigit 1 := ⟨⟨TT_5 232 rfl rfl, TT_1 7 rfl rfl, ⟨by decide +kernel, by decide +kernel⟩, by decide⟩, TT_5 231 rfl rfl, by decide +kernel⟩
theorem calX6_look : CalV mX6_look 6 0 := ⟨⟨TT_5 226 rfl rfl, TT_1 7 rfl rfl, ⟨by decide +kernel, by decide +kernel⟩, by decide⟩, TT_5 225 rfl rfl, TP_4 14 rfl, by decide, by decide +kernel⟩
theorem calX6_wrong : CalV mX6_wrong 6 0 := ⟨⟨TT_6 15 rfl rfl, TT_1 7 rfl rfl, ⟨by decide +kernel, by decide +kernel⟩, by decide⟩, TT_6 14 rfl rfl, TP_5 3 rfl, by decide, by decide +kernel⟩
theorem calX6_isWord : CalV mX6_isWord 6 1 := ⟨⟨TT_6 1 rfl rfl, TT_1 7 rfl rfl, ⟨by decide +kernel, by decide +kernel⟩, by decide⟩, TT_6 0 rfl rfl, TP_5 0 rfl, by decide, by decide +kernel⟩
theorem calX6_number : CalV mX6_number 6 3 := ⟨⟨TT_6 11 rfl rfl, TT_1 7 rfl rfl, ⟨by decide +kernel, by decide +kernel⟩, by decide⟩, TT_6 10 rfl rfl, TP_5 2 rfl, by decide, by decide +kernel⟩
theorem calX6_tells : CalV mX6_tells 6 2 := ⟨⟨TT_6 7 rfl rfl, TT_1 7 rfl rfl, ⟨by decide +kernel, by decide +kernel⟩, by decide⟩, TT_6 6 rfl rfl, TP_5 1 rfl, by decide, by decide +kernel⟩
theorem calX6_sunTold : CalV mX6_sunTold 6 0 := ⟨⟨TT_6 21 rfl rfl, TT_1 7 rfl rfl, ⟨by decide +kernel, by decide +kernel⟩, by decide⟩, TT_6 20 rfl rfl, TP_5 4 rfl, by decide, by decide +kernel⟩
theorem calX6_lickTold : CalV mX6_lickTold 6 0 := ⟨⟨TT_6 29 rfl rfl, TT_1 7 rfl rfl, ⟨by decide +kernel, by decide +kernel⟩, by decide⟩, TT_6 28 rfl rfl, TP_5 5 rfl, by decide, by decide +kernel⟩
theorem calX6_statement : CalV mX6_statement 6 0 := ⟨⟨TT_5 236 rfl rfl, TT_1 7 rfl rfl, ⟨by decide +kernel, by decide +kernel⟩, by decide⟩, TT_5 235 rfl rfl, TP_4 15 rfl, by decide, by decide +kernel⟩
theorem calX6_readAll : CalV mX6_readAll 6 0 := ⟨⟨TT_5 222 rfl rfl, TT_1 7 rfl rfl, ⟨by decide +kernel, by decide +kernel⟩, by decide⟩, TT_5 221 rfl rfl, TP_4 13 rfl, by decide, by decide +kernel⟩
theorem calX6_kerb : CalV mX6_kerb 6 0 := ⟨⟨TT_5 214 rfl rfl, TT_1 7 rfl rfl, ⟨by decide +kernel, by decide +kernel⟩, by decide⟩, TT_5 212 rfl rfl, TT_5 213 rfl rfl, by decide, by decide +kernel⟩
theorem calX6_wetOf : CalV mX6_wetOf 6 1 := ⟨⟨TT_6 42 rfl rfl, TT_1 7 rfl rfl, ⟨by decide +kernel, by decide +kernel⟩, by decide⟩, TT_6 41 rfl rfl, TP_5 7 rfl, by decide, by decide +kernel⟩
theorem calX6_scoopOf : CalV mX6_scoopOf 6 2 := ⟨⟨TT_6 33 rfl rfl, TT_1 7 rfl rfl, ⟨by decide +kernel, by decide +kernel⟩, by decide⟩, TT_6 31 rfl rfl, TT_6 32 rfl rfl, by decide, by decide +kernel⟩
theorem calX6_wet : CalV mX6_wet 6 2 := ⟨⟨TT_6 46 rfl rfl, TT_1 7 rfl rfl, ⟨by decide +kernel, by decide +kernel⟩, by decide⟩, TT_6 44 rfl rfl, TT_6 45 rfl rfl, by decide, by decide +kernel⟩
theorem calX6_lickerOf : CalV mX6_lickerOf 6 2 := ⟨⟨TT_6 50 rfl rfl, TT_1 7 rfl rfl, ⟨by decide +kernel, by decide +kernel⟩, by decide⟩, TT_6 48 rfl rfl, TT_6 49 rfl rfl, by decide, by decide +kernel⟩
theorem calX6_isSunny : CalV mX6_isSunny 6 1 := ⟨⟨TT_5 152 rfl rfl, TT_1 7 rfl rfl, ⟨by decide +kernel, by decide +kernel⟩, by decide⟩, TT_5 151 rfl rfl, TP_4 5 rfl, by decide, by decide +kernel⟩
theorem calX6_sunny : CalV mX6_sunny 6 1 := ⟨⟨TT_6 54 rfl rfl, TT_1 7 rfl rfl, ⟨by decide +kernel, by decide +kernel⟩, by decide⟩, TT_6 52 rfl rfl, TT_6 53 rfl rfl, by decide, by decide +kernel⟩
theorem calX6_canAct : CalV mX6_canAct 6 1 := ⟨⟨TT_5 127 rfl rfl, TT_1 7 rfl rfl, ⟨by decide +kernel, by decide +kernel⟩, by decide⟩, TT_5 126 rfl rfl, TP_4 0 rfl, by decide, by decide +kernel⟩
theorem calX6_lickedOf : CalV mX6_lickedOf 6 1 := ⟨⟨TT_5 144 rfl rfl, TT_1 7 rfl rfl, ⟨by decide +kernel, by decide +kernel⟩, by decide⟩, TT_5 143 rfl rfl, TP_4 3 rfl, by decide, by decide +kernel⟩
theorem calX6_melts : CalV mX6_melts 6 1 := ⟨⟨TT_5 148 rfl rfl, TT_1 7 rfl rfl, ⟨by decide +kernel, by decide +kernel⟩, by decide⟩, TT_5 147 rfl rfl, TP_4 4 rfl, by decide, by decide +kernel⟩
theorem calX6_runsDown : CalV mX6_runsDown 6 1 := ⟨⟨TT_5 156 rfl rfl, TT_1 7 rfl rfl, ⟨by decide +kernel, by decide +kernel⟩, by decide⟩, TT_5 155 rfl rfl, TP_4 6 rfl, by decide, by decide +kernel⟩
theorem calX6_goes : CalV mX6_goes 6 2 := ⟨⟨TT_5 140 rfl rfl, TT_1 7 rfl rfl, ⟨by decide +kernel, by decide +kernel⟩, by decide⟩, TT_5 139 rfl rfl, TP_4 2 rfl, by decide, by decide +kernel⟩
theorem calX6_leftNow : CalV mX6_leftNow 6 0 := ⟨⟨TT_6 96 rfl rfl, TT_1 7 rfl rfl, ⟨by decide +kernel, by decide +kernel⟩, by decide⟩, TT_6 95 rfl rfl, TP_5 12 rfl, by decide, by decide +kernel⟩
theorem calX6_roundAct : CalV mX6_roundAct 6 0 := ⟨⟨TT_5 94 rfl rfl, TT_1 7 rfl rfl, ⟨by decide +kernel, by decide +kernel⟩, by decide⟩, TT_5 93 rfl rfl, TP_3 8 rfl, by decide, by decide +kernel⟩
theorem calX6_allAt : CalV mX6_allAt 6 1 := ⟨⟨TT_5 106 rfl rfl, TT_1 7 rfl rfl, ⟨by decide +kernel, by decide +kernel⟩, by decide⟩, TT_5 105 rfl rfl, TP_3 11 rfl, by decide, by decide +kernel⟩
theorem calX6_wettestSide : CalV mX6_wettestSide 6 0 := ⟨⟨TT_5 102 rfl rfl, TT_1 7 rfl rfl, ⟨by decide +kernel, by decide +kernel⟩, by decide⟩, TT_5 101 rfl rfl, TP_3 10 rfl, by decide, by decide +kernel⟩
theorem calX6_turnTo : CalV mX6_turnTo 6 1 := ⟨⟨TT_5 110 rfl rfl, TT_1 7 rfl rfl, ⟨by decide +kernel, by decide +kernel⟩, by decide⟩, TT_5 109 rfl rfl, TP_3 12 rfl, by decide, by decide +kernel⟩
theorem calX6_wettestAct : CalV mX6_wettestAct 6 0 := ⟨⟨TT_5 98 rfl rfl, TT_1 7 rfl rfl, ⟨by decide +kernel, by decide +kernel⟩, by decide⟩, TT_5 97 rfl rfl, TP_3 9 rfl, by decide, by decide +kernel⟩
theorem calX6_isMore : CalV mX6_isMore 6 2 := ⟨⟨TT_5 118 rfl rfl, TT_1 7 rfl rfl, ⟨by decide +kernel, by decide +kernel⟩, by decide⟩, TT_5 117 rfl rfl, TP_3 14 rfl, by decide, by decide +kernel⟩
theorem calX6_lowestAct : CalV mX6_lowestAct 6 0 := ⟨⟨TT_5 114 rfl rfl, TT_1 7 rfl rfl, ⟨by decide +kernel, by decide +kernel⟩, by decide⟩, TT_5 113 rfl rfl, TP_3 13 rfl, by decide, by decide +kernel⟩
theorem calX6_findPlan : CalV mX6_findPlan 6 1 := ⟨⟨TT_5 122 rfl rfl, TT_1 7 rfl rfl, ⟨by decide +kernel, by decide +kernel⟩, by decide⟩, TT_5 121 rfl rfl, TP_3 15 rfl, by decide, by decide +kernel⟩
theorem calX6_wouldBe : CalV mX6_wouldBe 6 1 := ⟨⟨TT_5 90 rfl rfl, TT_1 7 rfl rfl, ⟨by decide +kernel, by decide +kernel⟩, by decide⟩, TT_5 89 rfl rfl, TP_3 7 rfl, by decide, by decide +kernel⟩
theorem calX6_would : CalV mX6_would 6 1 := ⟨⟨TT_6 58 rfl rfl, TT_1 7 rfl rfl, ⟨by decide +kernel, by decide +kernel⟩, by decide⟩, TT_6 56 rfl rfl, TT_6 57 rfl rfl, by decide, by decide +kernel⟩
theorem calX6_plan : CalV mX6_plan 6 2 := ⟨⟨TT_6 62 rfl rfl, TT_1 7 rfl rfl, ⟨by decide +kernel, by decide +kernel⟩, by decide⟩, TT_6 60 rfl rfl, TT_6 61 rfl rfl, by decide, by decide +kernel⟩
theorem calX6_fresh : CalV mX6_fresh 6 0 := ⟨⟨TT_5 218 rfl rfl, TT_1 7 rfl rfl, ⟨by decide +kernel, by decide +kernel⟩, by decide⟩, TT_5 217 rfl rfl, TP_4 12 rfl, by decide, by decide +kernel⟩
theorem calX6_stands : CalV mX6_stands 6 1 := ⟨⟨TT_6 76 rfl rfl, TT_1 7 rfl rfl, ⟨by decide +kernel, by decide +kernel⟩, by decide⟩, TT_6 75 rfl rfl, TP_5 9 rfl, by decide, by decide +kernel⟩
theorem calX6_lickedBy : CalV mX6_lickedBy 6 2 := ⟨⟨TT_6 88 rfl rfl, TT_1 7 rfl rfl, ⟨by decide +kernel, by decide +kernel⟩, by decide⟩, TT_6 87 rfl rfl, TP_5 10 rfl, by decide, by decide +kernel⟩
theorem calX6_withoutNow : CalV mX6_withoutNow 6 1 := ⟨⟨TT_6 72 rfl rfl, TT_1 7 rfl rfl, ⟨by decide +kernel, by decide +kernel⟩, by decide⟩, TT_6 71 rfl rfl, TP_5 8 rfl, by decide, by decide +kernel⟩
theorem calX6_without : CalV mX6_without 6 1 := ⟨⟨TT_6 67 rfl rfl, TT_1 7 rfl rfl, ⟨by decide +kernel, by decide +kernel⟩, by decide⟩, TT_6 65 rfl rfl, TT_6 66 rfl rfl, by decide, by decide +kernel⟩
theorem calX6_spare : CalV mX6_spare 6 0 := ⟨⟨TT_6 80 rfl rfl, TT_1 7 rfl rfl, ⟨by decide +kernel, by decide +kernel⟩, by decide⟩, TT_6 78 rfl rfl, TT_6 79 rfl rfl, by decide, by decide +kernel⟩
theorem calX6_toldOf : CalV mX6_toldOf 6 2 := ⟨⟨TT_6 92 rfl rfl, TT_1 7 rfl rfl, ⟨by decide +kernel, by decide +kernel⟩, by decide⟩, TT_6 91 rfl rfl, TP_5 11 rfl, by decide, by decide +kernel⟩
theorem calX6_run : CalV mX6_run 6 3 := ⟨⟨TT_6 84 rfl rfl, TT_1 7 rfl rfl, ⟨by decide +kernel, by decide +kernel⟩, by decide⟩, TT_6 82 rfl rfl, TT_6 83 rfl rfl, by decide, by decide +kernel⟩
theorem calX6_best : CalV mX6_best 6 1 := ⟨⟨TT_6 100 rfl rfl, TT_1 7 rfl rfl, ⟨by decide +kernel, by decide +kernel⟩, by decide⟩, TT_6 98 rfl rfl, TT_6 99 rfl rfl, by decide, by decide +kernel⟩
theorem calX6_until : CalV mX6_until 6 1 := ⟨⟨TT_6 104 rfl rfl, TT_1 7 rfl rfl, ⟨by decide +kernel, by decide +kernel⟩, by decide⟩, TT_6 102 rfl rfl, TT_6 103 rfl rfl, by decide, by decide +kernel⟩
theorem calX6_spareBy : CalV mX6_spareBy 6 1 := ⟨⟨TT_6 108 rfl rfl, TT_1 7 rfl rfl, ⟨by decide +kernel, by decide +kernel⟩, by decide⟩, TT_6 106 rfl rfl, TT_6 107 rfl rfl, by decide, by decide +kernel⟩
theorem calX6_both : CalV mX6_both 6 3 := ⟨⟨TT_6 112 rfl rfl, TT_1 7 rfl rfl, ⟨by decide +kernel, by decide +kernel⟩, by decide⟩, TT_6 110 rfl rfl, TT_6 111 rfl rfl, by decide, by decide +kernel⟩
theorem calX6_holdFor : CalV mX6_holdFor 6 1 := ⟨⟨TT_6 116 rfl rfl, TT_1 7 rfl rfl, ⟨by decide +kernel, by decide +kernel⟩, by decide⟩, TT_6 114 rfl rfl, TT_6 115 rfl rfl, by decide, by decide +kernel⟩
theorem calX6_largest : CalV mX6_largest 6 2 := ⟨⟨TT_6 120 rfl rfl, TT_1 7 rfl rfl, ⟨by decide +kernel, by decide +kernel⟩, by decide⟩, TT_6 118 rfl rfl, TT_6 119 rfl rfl, by decide, by decide +kernel⟩
theorem calX6_putFrom : CalV mX6_putFrom 6 3 := ⟨⟨TT_6 132 rfl rfl, TT_1 7 rfl rfl, ⟨by decide +kernel, by decide +kernel⟩, by decide⟩, TT_6 131 rfl rfl, TP_5 14 rfl, by decide, by decide +kernel⟩
theorem calX6_seekOrder : CalV mX6_seekOrder 6 3 := ⟨⟨TT_6 128 rfl rfl, TT_1 7 rfl rfl, ⟨by decide +kernel, by decide +kernel⟩, by decide⟩, TT_6 127 rfl rfl, TP_5 13 rfl, by decide, by decide +kernel⟩
theorem calX6_order : CalV mX6_order 6 2 := ⟨⟨TT_6 124 rfl rfl, TT_1 7 rfl rfl, ⟨by decide +kernel, by decide +kernel⟩, by decide⟩, TT_6 122 rfl rfl, TT_6 123 rfl rfl, by decide, by decide +kernel⟩
theorem calX6_shade : CalV mX6_shade 6 1 := ⟨⟨TT_6 136 rfl rfl, TT_1 7 rfl rfl, ⟨by decide +kernel, by decide +kernel⟩, by decide⟩, TT_6 134 rfl rfl, TT_6 135 rfl rfl, by decide, by decide +kernel⟩
theorem calX6_gives : CalV mX6_gives 6 0 := ⟨⟨TT_6 140 rfl rfl, TT_1 7 rfl rfl, ⟨by decide +kernel, by decide +kernel⟩, by decide⟩, TT_6 138 rfl rfl, TT_6 139 rfl rfl, by decide, by decide +kernel⟩
theorem calX6_wettest : CalV mX6_wettest 6 0 := ⟨⟨TT_6 144 rfl rfl, TT_1 7 rfl rfl, ⟨by decide +kernel, by decide +kernel⟩, by decide⟩, TT_6 142 rfl rfl, TT_6 143 rfl rfl, by decide, by decide +kernel⟩
theorem calX6_largestScoop : CalV mX6_largestScoop 6 0 := ⟨⟨TT_6 148 rfl rfl, TT_1 7 rfl rfl, ⟨by decide +kernel, by decide +kernel⟩, by decide⟩, TT_6 146 rfl rfl, TT_6 147 rfl rfl, by decide, by decide +kernel⟩
theorem calX6_melted : CalV mX6_melted 6 0 := ⟨⟨TT_6 152 rfl rfl, TT_1 7 rfl rfl, ⟨by decide +kernel, by decide +kernel⟩, by decide⟩, TT_6 150 rfl rfl, TT_6 151 rfl rfl, by decide, by decide +kernel⟩
theorem calX6_noActs : CalV mX6_noActs 6 2 := ⟨⟨TT_6 160 rfl rfl, TT_1 7 rfl rfl, ⟨by decide +kernel, by decide +kernel⟩, by decide⟩, TT_6 159 rfl rfl, TP_5 15 rfl, by decide, by decide +kernel⟩
theorem calX6_wrongIn : CalV mX6_wrongIn 6 2 := ⟨⟨TT_6 164 rfl rfl, TT_1 7 rfl rfl, ⟨by decide +kernel, by decide +kernel⟩, by decide⟩, TT_6 163 rfl rfl, TP_6 0 rfl, by decide, by decide +kernel⟩
theorem calX6_judge : CalV mX6_judge 6 2 := ⟨⟨TT_6 156 rfl rfl, TT_1 7 rfl rfl, ⟨by decide +kernel, by decide +kernel⟩, by decide⟩, TT_6 154 rfl rfl, TT_6 155 rfl rfl, by decide, by decide +kernel⟩
theorem calX6_behind : CalV mX6_behind 6 3 := ⟨⟨TT_6 168 rfl rfl, TT_1 7 rfl rfl, ⟨by decide +kernel, by decide +kernel⟩, by decide⟩, TT_6 166 rfl rfl, TT_6 167 rfl rfl, by decide, by decide +kernel⟩
theorem calX6_done : CalV mX6_done 6 2 := ⟨⟨TT_6 172 rfl rfl, TT_1 7 rfl rfl, ⟨by decide +kernel, by decide +kernel⟩, by decide⟩, TT_6 170 rfl rfl, TT_6 171 rfl rfl, by decide, by decide +kernel⟩
theorem calX6_drop : CalV mX6_drop 6 1 := ⟨⟨TT_6 176 rfl rfl, TT_1 7 rfl rfl, ⟨by decide +kernel, by decide +kernel⟩, by decide⟩, TT_6 174 rfl rfl, TT_6 175 rfl rfl, by decide, by decide +kernel⟩
theorem calX6_went : CalV mX6_went 6 2 := ⟨⟨TT_6 180 rfl rfl, TT_1 7 rfl rfl, ⟨by decide +kernel, by decide +kernel⟩, by decide⟩, TT_6 178 rfl rfl, TT_6 179 rfl rfl, by decide, by decide +kernel⟩
theorem calX6_act : CalV mX6_act 6 1 := ⟨⟨TT_6 184 rfl rfl, TT_1 7 rfl rfl, ⟨by decide +kernel, by decide +kernel⟩, by decide⟩, TT_6 182 rfl rfl, TT_6 183 rfl rfl, by decide, by decide +kernel⟩
theorem calX6_licksTruly : CalV mX6_licksTruly 6 2 := ⟨⟨TT_6 193 rfl rfl, TT_1 7 rfl rfl, ⟨by decide +kernel, by decide +kernel⟩, by decide⟩, TT_6 192 rfl rfl, TP_6 1 rfl, by decide, by decide +kernel⟩
theorem calX6_licks : CalV mX6_licks 6 2 := ⟨⟨TT_6 188 rfl rfl, TT_1 7 rfl rfl, ⟨by decide +kernel, by decide +kernel⟩, by decide⟩, TT_6 186 rfl rfl, TT_6 187 rfl rfl, by decide, by decide +kernel⟩
theorem calX6_swap : CalV mX6_swap 6 2 := ⟨⟨TT_6 197 rfl rfl, TT_1 7 rfl rfl, ⟨by decide +kernel, by decide +kernel⟩, by decide⟩, TT_6 195 rfl rfl, TT_6 196 rfl rfl, by decide, by decide +kernel⟩
theorem calX6_below : CalV mX6_below 6 1 := ⟨⟨TT_6 205 rfl rfl, TT_1 7 rfl rfl, ⟨by decide +kernel, by decide +kernel⟩, by decide⟩, TT_6 204 rfl rfl, TP_6 2 rfl, by decide, by decide +kernel⟩
theorem calX6_day : CalV mX6_day 6 2 := ⟨⟨TT_6 201 rfl rfl, TT_1 7 rfl rfl, ⟨by decide +kernel, by decide +kernel⟩, by decide⟩, TT_6 199 rfl rfl, TT_6 200 rfl rfl, by decide, by decide +kernel⟩
theorem calX6_anew : CalV mX6_anew 6 0 := ⟨⟨TT_6 210 rfl rfl, TT_1 7 rfl rfl, ⟨by decide +kernel, by decide +kernel⟩, by decide⟩, TT_6 208 rfl rfl, TT_6 209 rfl rfl, by decide, by decide +kernel⟩
theorem calX6_seed : CalV mX6_seed 6 1 := ⟨⟨TT_6 214 rfl rfl, TT_1 7 rfl rfl, ⟨by decide +kernel, by decide +kernel⟩, by decide⟩, TT_6 212 rfl rfl, TT_6 213 rfl rfl, by decide, by decide +kernel⟩
theorem calX6_copied : CalS mX6_copied 2 := ⟨⟨TT_5 136 rfl rfl, TT_1 7 rfl rfl, ⟨by decide +kernel, by decide +kernel⟩, by decide⟩, TT_5 135 rfl rfl, by decide +kernel⟩
theorem calX6_takeFrom : CalV mX6_takeFrom 6 1 := ⟨⟨TT_5 133 rfl rfl, TT_1 7 rfl rfl, ⟨by decide +kernel, by decide +kernel⟩, by decide⟩, TT_5 132 rfl rfl, TP_4 1 rfl, by decide, by decide +kernel⟩
theorem calX6_image : CalV mX6_image 6 0 := ⟨⟨TT_6 218 rfl rfl, TT_1 7 rfl rfl, ⟨by decide +kernel, by decide +kernel⟩, by decide⟩, TT_6 216 rfl rfl, TT_6 217 rfl rfl, by decide, by decide +kernel⟩
theorem calX6_back : CalV mX6_back 6 0 := ⟨⟨TT_6 222 rfl rfl, TT_1 7 rfl rfl, ⟨by decide +kernel, by decide +kernel⟩, by decide⟩, TT_6 220 rfl rfl, TT_6 221 rfl rfl, by decide, by decide +kernel⟩
theorem calX6_status : CalV mX6_status 6 1 := ⟨⟨TT_6 226 rfl rfl, TT_1 7 rfl rfl, ⟨by decide +kernel, by decide +kernel⟩, by decide⟩, TT_6 224 rfl rfl, TT_6 225 rfl rfl, by decide, by decide +kernel⟩
theorem fl5_10 : Cond.fieldLink RX5 10 (TXG 5 0).1 (TXG 5 0).2.1 (TXG 5 0).2.2.1 ∈ TT ∧ 5 < 7 ∧ 0 < nFG 5 := ⟨TT_1 220 rfl rfl, by decide, by decide⟩
theorem fl5_16 : Cond.fieldLink RX5 16 (TXG 5 1).1 (TXG 5 1).2.1 (TXG 5 1).2.2.1 ∈ TT ∧ 5 < 7 ∧ 1 < nFG 5 := ⟨TT_1 221 rfl rfl, by decide, by decide⟩
theorem fl5_19 : Cond.fieldLink RX5 19 (TXG 5 2).1 (TXG 5 2).2.1 (TXG 5 2).2.2.1 ∈ TT ∧ 5 < 7 ∧ 2 < nFG 5 := ⟨TT_1 222 rfl rfl, by decide, by decide⟩
theorem fl5_25 : Cond.fieldLink RX5 25 (TXG 5 3).1 (TXG 5 3).2.1 (TXG 5 3).2.2.1 ∈ TT ∧ 5 < 7 ∧ 3 < nFG 5 := ⟨TT_1 223 rfl rfl, by decide, by decide⟩
theorem fl5_32 : Cond.fieldLink RX5 32 (TXG 5 4).1 (TXG 5 4).2.1 (TXG 5 4).2.2.1 ∈ TT ∧ 5 < 7 ∧ 4 < nFG 5 := ⟨TT_1 224 rfl rfl, by decide, by decide⟩
theorem fl5_38 : Cond.fieldLink RX5 38 (TXG 5 5).1 (TXG 5 5).2.1 (TXG 5 5).2.2.1 ∈ TT ∧ 5 < 7 ∧ 5 < nFG 5 := ⟨TT_1 225 rfl rfl, by decide, by decide⟩
theorem fl5_45 : Cond.fieldLink RX5 45 (TXG 5 6).1 (TXG 5 6).2.1 (TXG 5 6).2.2.1 ∈ TT ∧ 5 < 7 ∧ 6 < nFG 5 := ⟨TT_1 226 rfl rfl, by decide, by decide⟩
theorem fl5_49 : Cond.fieldLink RX5 49 (TXG 5 7).1 (TXG 5 7).2.1 (TXG 5 7).2.2.1 ∈ TT ∧ 5 < 7 ∧ 7 < nFG 5 := ⟨TT_1 227 rfl rfl, by decide, by decide⟩
theorem fl5_53 : Cond.fieldLink RX5 53 (TXG 5 8).1 (TXG 5 8).2.1 (TXG 5 8).2.2.1 ∈ TT ∧ 5 < 7 ∧ 8 < nFG 5 := ⟨TT_1 228 rfl rfl, by decide, by decide⟩
theorem fl5_77 : Cond.fieldLink RX5 77 (TXG 3 1).1 (TXG 3 1).2.1 (TXG 3 1).2.2.1 ∈ TT ∧ 3 < 7 ∧ 1 < nFG 3 := ⟨TT_1 209 rfl rfl, by decide, by decide⟩
theorem fl5_89 : Cond.fieldLink RX5 89 (TXG 3 2).1 (TXG 3 2).2.1 (TXG 3 2).2.2.1 ∈ TT ∧ 3 < 7 ∧ 2 < nFG 3 := ⟨TT_1 211 rfl rfl, by decide, by decide⟩
theorem fl5_103 : Cond.fieldLink RX5 103 (TXG 3 0).1 (TXG 3 0).2.1 (TXG 3 0).2.2.1 ∈ TT ∧ 3 < 7 ∧ 0 < nFG 3 := ⟨TT_1 207 rfl rfl, by decide, by decide⟩
theorem fl5_120 : Cond.fieldLink RX5 120 (TXG 4 1).1 (TXG 4 1).2.1 (TXG 4 1).2.2.1 ∈ TT ∧ 4 < 7 ∧ 1 < nFG 4 := ⟨TT_1 117 rfl rfl, by decide, by decide⟩
theorem fl5_127 : Cond.fieldLink RX5 127 (TXG 4 2).1 (TXG 4 2).2.1 (TXG 4 2).2.2.1 ∈ TT ∧ 4 < 7 ∧ 2 < nFG 4 := ⟨TT_1 119 rfl rfl, by decide, by decide⟩
theorem fl5_130 : Cond.fieldLink RX5 130 (TXG 4 0).1 (TXG 4 0).2.1 (TXG 4 0).2.2.1 ∈ TT ∧ 4 < 7 ∧ 0 < nFG 4 := ⟨TT_1 115 rfl rfl, by decide, by decide⟩
theorem fl5_137 : Cond.fieldLink RX5 137 (TXG 0 11).1 (TXG 0 11).2.1 (TXG 0 11).2.2.1 ∈ TT ∧ 0 < 7 ∧ 11 < nFG 0 := ⟨TT_1 70 rfl rfl, by decide, by decide⟩
theorem fl5_140 : Cond.fieldLink RX5 140 (TXG 0 0).1 (TXG 0 0).2.1 (TXG 0 0).2.2.1 ∈ TT ∧ 0 < 7 ∧ 0 < nFG 0 := ⟨TT_1 37 rfl rfl, by decide, by decide⟩
theorem fl5_152 : Cond.fieldLink RX5 152 (TXG 0 2).1 (TXG 0 2).2.1 (TXG 0 2).2.2.1 ∈ TT ∧ 0 < 7 ∧ 2 < nFG 0 := ⟨TT_1 43 rfl rfl, by decide, by decide⟩
theorem fl5_158 : Cond.fieldLink RX5 158 (TXG 0 3).1 (TXG 0 3).2.1 (TXG 0 3).2.2.1 ∈ TT ∧ 0 < 7 ∧ 3 < nFG 0 := ⟨TT_1 46 rfl rfl, by decide, by decide⟩
theorem fl5_161 : Cond.fieldLink RX5 161 (TXG 0 4).1 (TXG 0 4).2.1 (TXG 0 4).2.2.1 ∈ TT ∧ 0 < 7 ∧ 4 < nFG 0 := ⟨TT_1 49 rfl rfl, by decide, by decide⟩
theorem fl5_164 : Cond.fieldLink RX5 164 (TXG 0 5).1 (TXG 0 5).2.1 (TXG 0 5).2.2.1 ∈ TT ∧ 0 < 7 ∧ 5 < nFG 0 := ⟨TT_1 51 rfl rfl, by decide, by decide⟩
theorem fl5_167 : Cond.fieldLink RX5 167 (TXG 0 6).1 (TXG 0 6).2.1 (TXG 0 6).2.2.1 ∈ TT ∧ 0 < 7 ∧ 6 < nFG 0 := ⟨TT_1 53 rfl rfl, by decide, by decide⟩
theorem fl5_170 : Cond.fieldLink RX5 170 (TXG 0 1).1 (TXG 0 1).2.1 (TXG 0 1).2.2.1 ∈ TT ∧ 0 < 7 ∧ 1 < nFG 0 := ⟨TT_1 40 rfl rfl, by decide, by decide⟩
theorem fl5_173 : Cond.fieldLink RX5 173 (TXG 4 3).1 (TXG 4 3).2.1 (TXG 4 3).2.2.1 ∈ TT ∧ 4 < 7 ∧ 3 < nFG 4 := ⟨TT_1 122 rfl rfl, by decide, by decide⟩
theorem fl5_179 : Cond.fieldLink RX5 179 (TXG 1 1).1 (TXG 1 1).2.1 (TXG 1 1).2.2.1 ∈ TT ∧ 1 < 7 ∧ 1 < nFG 1 := ⟨TT_1 183 rfl rfl, by decide, by decide⟩
theorem fl5_194 : Cond.fieldLink RX5 194 (TXG 0 12).1 (TXG 0 12).2.1 (TXG 0 12).2.2.1 ∈ TT ∧ 0 < 7 ∧ 12 < nFG 0 := ⟨TT_1 72 rfl rfl, by decide, by decide⟩
theorem fl5_197 : Cond.fieldLink RX5 197 (TXG 0 13).1 (TXG 0 13).2.1 (TXG 0 13).2.2.1 ∈ TT ∧ 0 < 7 ∧ 13 < nFG 0 := ⟨TT_1 74 rfl rfl, by decide, by decide⟩
theorem fl5_206 : Cond.fieldLink RX5 206 (TXG 0 15).1 (TXG 0 15).2.1 (TXG 0 15).2.2.1 ∈ TT ∧ 0 < 7 ∧ 15 < nFG 0 := ⟨TT_1 78 rfl rfl, by decide, by decide⟩
theorem fl5_227 : Cond.fieldLink RX5 227 (TXG 0 8).1 (TXG 0 8).2.1 (TXG 0 8).2.2.1 ∈ TT ∧ 0 < 7 ∧ 8 < nFG 0 := ⟨TT_1 61 rfl rfl, by decide, by decide⟩
theorem fl5_240 : Cond.fieldLink RX5 240 (TXG 2 3).1 (TXG 2 3).2.1 (TXG 2 3).2.2.1 ∈ TT ∧ 2 < 7 ∧ 3 < nFG 2 := ⟨TT_1 160 rfl rfl, by decide, by decide⟩
theorem fl5_243 : Cond.fieldLink RX5 243 (TXG 2 2).1 (TXG 2 2).2.1 (TXG 2 2).2.2.1 ∈ TT ∧ 2 < 7 ∧ 2 < nFG 2 := ⟨TT_1 158 rfl rfl, by decide, by decide⟩
theorem fl5_246 : Cond.fieldLink RX5 246 (TXG 0 9).1 (TXG 0 9).2.1 (TXG 0 9).2.2.1 ∈ TT ∧ 0 < 7 ∧ 9 < nFG 0 := ⟨TT_1 64 rfl rfl, by decide, by decide⟩
theorem fl5_265 : Cond.fieldLink RX5 265 (TXG 0 10).1 (TXG 0 10).2.1 (TXG 0 10).2.2.1 ∈ TT ∧ 0 < 7 ∧ 10 < nFG 0 := ⟨TT_1 66 rfl rfl, by decide, by decide⟩
theorem fl5_284 : Cond.fieldLink RX5 284 (TXG 4 5).1 (TXG 4 5).2.1 (TXG 4 5).2.2.1 ∈ TT ∧ 4 < 7 ∧ 5 < nFG 4 := ⟨TT_1 126 rfl rfl, by decide, by decide⟩
theorem fl5_287 : Cond.fieldLink RX5 287 (TXG 4 4).1 (TXG 4 4).2.1 (TXG 4 4).2.2.1 ∈ TT ∧ 4 < 7 ∧ 4 < nFG 4 := ⟨TT_1 124 rfl rfl, by decide, by decide⟩
theorem fl5_308 : Cond.fieldLink RX5 308 (TXG 4 6).1 (TXG 4 6).2.1 (TXG 4 6).2.2.1 ∈ TT ∧ 4 < 7 ∧ 6 < nFG 4 := ⟨TT_1 128 rfl rfl, by decide, by decide⟩
theorem fl5_311 : Cond.fieldLink RX5 311 (TXG 0 7).1 (TXG 0 7).2.1 (TXG 0 7).2.2.1 ∈ TT ∧ 0 < 7 ∧ 7 < nFG 0 := ⟨TT_1 57 rfl rfl, by decide, by decide⟩
theorem fl0_9 : Cond.fieldLink RX0 9 (TXG 0 0).1 (TXG 0 0).2.1 (TXG 0 0).2.2.1 ∈ TT ∧ 0 < 7 ∧ 0 < nFG 0 := ⟨TT_1 34 rfl rfl, by decide, by decide⟩
theorem fl0_15 : Cond.fieldLink RX0 15 (TXG 0 1).1 (TXG 0 1).2.1 (TXG 0 1).2.2.1 ∈ TT ∧ 0 < 7 ∧ 1 < nFG 0 := ⟨TT_1 38 rfl rfl, by decide, by decide⟩
theorem fl0_18 : Cond.fieldLink RX0 18 (TXG 0 2).1 (TXG 0 2).2.1 (TXG 0 2).2.2.1 ∈ TT ∧ 0 < 7 ∧ 2 < nFG 0 := ⟨TT_1 41 rfl rfl, by decide, by decide⟩
theorem fl0_21 : Cond.fieldLink RX0 21 (TXG 0 3).1 (TXG 0 3).2.1 (TXG 0 3).2.2.1 ∈ TT ∧ 0 < 7 ∧ 3 < nFG 0 := ⟨TT_1 44 rfl rfl, by decide, by decide⟩
theorem fl0_24 : Cond.fieldLink RX0 24 (TXG 0 4).1 (TXG 0 4).2.1 (TXG 0 4).2.2.1 ∈ TT ∧ 0 < 7 ∧ 4 < nFG 0 := ⟨TT_1 47 rfl rfl, by decide, by decide⟩
theorem fl0_27 : Cond.fieldLink RX0 27 (TXG 0 5).1 (TXG 0 5).2.1 (TXG 0 5).2.2.1 ∈ TT ∧ 0 < 7 ∧ 5 < nFG 0 := ⟨TT_1 50 rfl rfl, by decide, by decide⟩
theorem fl0_30 : Cond.fieldLink RX0 30 (TXG 0 6).1 (TXG 0 6).2.1 (TXG 0 6).2.2.1 ∈ TT ∧ 0 < 7 ∧ 6 < nFG 0 := ⟨TT_1 52 rfl rfl, by decide, by decide⟩
theorem fl0_33 : Cond.fieldLink RX0 33 (TXG 0 7).1 (TXG 0 7).2.1 (TXG 0 7).2.2.1 ∈ TT ∧ 0 < 7 ∧ 7 < nFG 0 := ⟨TT_1 54 rfl rfl, by decide, by decide⟩
theorem fl0_36 : Cond.fieldLink RX0 36 (TXG 0 8).1 (TXG 0 8).2.1 (TXG 0 8).2.2.1 ∈ TT ∧ 0 < 7 ∧ 8 < nFG 0 := ⟨TT_1 58 rfl rfl, by decide, by decide⟩
theorem fl0_39 : Cond.fieldLink RX0 39 (TXG 0 9).1 (TXG 0 9).2.1 (TXG 0 9).2.2.1 ∈ TT ∧ 0 < 7 ∧ 9 < nFG 0 := ⟨TT_1 62 rfl rfl, by decide, by decide⟩
theorem fl0_42 : Cond.fieldLink RX0 42 (TXG 0 10).1 (TXG 0 10).2.1 (TXG 0 10).2.2.1 ∈ TT ∧ 0 < 7 ∧ 10 < nFG 0 := ⟨TT_1 65 rfl rfl, by decide, by decide⟩
theorem fl0_45 : Cond.fieldLink RX0 45 (TXG 0 11).1 (TXG 0 11).2.1 (TXG 0 11).2.2.1 ∈ TT ∧ 0 < 7 ∧ 11 < nFG 0 := ⟨TT_1 67 rfl rfl, by decide, by decide⟩
theorem fl0_48 : Cond.fieldLink RX0 48 (TXG 0 12).1 (TXG 0 12).2.1 (TXG 0 12).2.2.1 ∈ TT ∧ 0 < 7 ∧ 12 < nFG 0 := ⟨TT_1 71 rfl rfl, by decide, by decide⟩
theorem fl0_52 : Cond.fieldLink RX0 52 (TXG 0 13).1 (TXG 0 13).2.1 (TXG 0 13).2.2.1 ∈ TT ∧ 0 < 7 ∧ 13 < nFG 0 := ⟨TT_1 73 rfl rfl, by decide, by decide⟩
theorem fl0_55 : Cond.fieldLink RX0 55 (TXG 0 14).1 (TXG 0 14).2.1 (TXG 0 14).2.2.1 ∈ TT ∧ 0 < 7 ∧ 14 < nFG 0 := ⟨TT_1 75 rfl rfl, by decide, by decide⟩
theorem fl0_58 : Cond.fieldLink RX0 58 (TXG 0 15).1 (TXG 0 15).2.1 (TXG 0 15).2.2.1 ∈ TT ∧ 0 < 7 ∧ 15 < nFG 0 := ⟨TT_1 76 rfl rfl, by decide, by decide⟩
theorem fo0_71 : Cond.fieldLink RX0 71 "BeforeItDrips$Cone" "ORDER_ROWS" "[I" ∈ TT := TT_4 1 rfl rfl
theorem fl1_11 : Cond.fieldLink RX1 11 (TXG 1 0).1 (TXG 1 0).2.1 (TXG 1 0).2.2.1 ∈ TT ∧ 1 < 7 ∧ 0 < nFG 1 := ⟨TT_1 181 rfl rfl, by decide, by decide⟩
theorem fl1_15 : Cond.fieldLink RX1 15 (TXG 1 1).1 (TXG 1 1).2.1 (TXG 1 1).2.2.1 ∈ TT ∧ 1 < 7 ∧ 1 < nFG 1 := ⟨TT_1 182 rfl rfl, by decide, by decide⟩
theorem fl1_19 : Cond.fieldLink RX1 19 (TXG 1 2).1 (TXG 1 2).2.1 (TXG 1 2).2.2.1 ∈ TT ∧ 1 < 7 ∧ 2 < nFG 1 := ⟨TT_1 184 rfl rfl, by decide, by decide⟩
theorem fl1_22 : Cond.fieldLink RX1 22 (TXG 1 3).1 (TXG 1 3).2.1 (TXG 1 3).2.2.1 ∈ TT ∧ 1 < 7 ∧ 3 < nFG 1 := ⟨TT_1 185 rfl rfl, by decide, by decide⟩
theorem fl1_25 : Cond.fieldLink RX1 25 (TXG 1 4).1 (TXG 1 4).2.1 (TXG 1 4).2.2.1 ∈ TT ∧ 1 < 7 ∧ 4 < nFG 1 := ⟨TT_1 186 rfl rfl, by decide, by decide⟩
theorem fl1_28 : Cond.fieldLink RX1 28 (TXG 1 5).1 (TXG 1 5).2.1 (TXG 1 5).2.2.1 ∈ TT ∧ 1 < 7 ∧ 5 < nFG 1 := ⟨TT_1 187 rfl rfl, by decide, by decide⟩
theorem fl1_44 : Cond.fieldLink RX1 44 (TXG 4 0).1 (TXG 4 0).2.1 (TXG 4 0).2.2.1 ∈ TT ∧ 4 < 7 ∧ 0 < nFG 4 := ⟨TT_1 114 rfl rfl, by decide, by decide⟩
theorem fl1_84 : Cond.fieldLink RX1 84 (TXG 0 11).1 (TXG 0 11).2.1 (TXG 0 11).2.2.1 ∈ TT ∧ 0 < 7 ∧ 11 < nFG 0 := ⟨TT_1 69 rfl rfl, by decide, by decide⟩
theorem fl1_101 : Cond.fieldLink RX1 101 (TXG 0 0).1 (TXG 0 0).2.1 (TXG 0 0).2.2.1 ∈ TT ∧ 0 < 7 ∧ 0 < nFG 0 := ⟨TT_1 36 rfl rfl, by decide, by decide⟩
theorem fl1_104 : Cond.fieldLink RX1 104 (TXG 0 2).1 (TXG 0 2).2.1 (TXG 0 2).2.2.1 ∈ TT ∧ 0 < 7 ∧ 2 < nFG 0 := ⟨TT_1 42 rfl rfl, by decide, by decide⟩
theorem fl1_107 : Cond.fieldLink RX1 107 (TXG 0 3).1 (TXG 0 3).2.1 (TXG 0 3).2.2.1 ∈ TT ∧ 0 < 7 ∧ 3 < nFG 0 := ⟨TT_1 45 rfl rfl, by decide, by decide⟩
theorem fl1_109 : Cond.fieldLink RX1 109 (TXG 0 4).1 (TXG 0 4).2.1 (TXG 0 4).2.2.1 ∈ TT ∧ 0 < 7 ∧ 4 < nFG 0 := ⟨TT_1 48 rfl rfl, by decide, by decide⟩
theorem fl1_111 : Cond.fieldLink RX1 111 (TXG 4 3).1 (TXG 4 3).2.1 (TXG 4 3).2.2.1 ∈ TT ∧ 4 < 7 ∧ 3 < nFG 4 := ⟨TT_1 121 rfl rfl, by decide, by decide⟩
theorem fl2_11 : Cond.fieldLink RX2 11 (TXG 2 0).1 (TXG 2 0).2.1 (TXG 2 0).2.2.1 ∈ TT ∧ 2 < 7 ∧ 0 < nFG 2 := ⟨TT_1 155 rfl rfl, by decide, by decide⟩
theorem fl2_17 : Cond.fieldLink RX2 17 (TXG 2 1).1 (TXG 2 1).2.1 (TXG 2 1).2.2.1 ∈ TT ∧ 2 < 7 ∧ 1 < nFG 2 := ⟨TT_1 156 rfl rfl, by decide, by decide⟩
theorem fl2_21 : Cond.fieldLink RX2 21 (TXG 2 2).1 (TXG 2 2).2.1 (TXG 2 2).2.2.1 ∈ TT ∧ 2 < 7 ∧ 2 < nFG 2 := ⟨TT_1 157 rfl rfl, by decide, by decide⟩
theorem fl2_24 : Cond.fieldLink RX2 24 (TXG 2 3).1 (TXG 2 3).2.1 (TXG 2 3).2.2.1 ∈ TT ∧ 2 < 7 ∧ 3 < nFG 2 := ⟨TT_1 159 rfl rfl, by decide, by decide⟩
theorem fl2_28 : Cond.fieldLink RX2 28 (TXG 2 4).1 (TXG 2 4).2.1 (TXG 2 4).2.2.1 ∈ TT ∧ 2 < 7 ∧ 4 < nFG 2 := ⟨TT_1 161 rfl rfl, by decide, by decide⟩
theorem fl2_32 : Cond.fieldLink RX2 32 (TXG 0 11).1 (TXG 0 11).2.1 (TXG 0 11).2.2.1 ∈ TT ∧ 0 < 7 ∧ 11 < nFG 0 := ⟨TT_1 68 rfl rfl, by decide, by decide⟩
theorem fl2_43 : Cond.fieldLink RX2 43 (TXG 0 1).1 (TXG 0 1).2.1 (TXG 0 1).2.2.1 ∈ TT ∧ 0 < 7 ∧ 1 < nFG 0 := ⟨TT_1 39 rfl rfl, by decide, by decide⟩
theorem fl2_59 : Cond.fieldLink RX2 59 (TXG 0 7).1 (TXG 0 7).2.1 (TXG 0 7).2.2.1 ∈ TT ∧ 0 < 7 ∧ 7 < nFG 0 := ⟨TT_1 55 rfl rfl, by decide, by decide⟩
theorem fl2_66 : Cond.fieldLink RX2 66 (TXG 0 15).1 (TXG 0 15).2.1 (TXG 0 15).2.2.1 ∈ TT ∧ 0 < 7 ∧ 15 < nFG 0 := ⟨TT_1 77 rfl rfl, by decide, by decide⟩
theorem fl2_73 : Cond.fieldLink RX2 73 (TXG 0 0).1 (TXG 0 0).2.1 (TXG 0 0).2.2.1 ∈ TT ∧ 0 < 7 ∧ 0 < nFG 0 := ⟨TT_1 35 rfl rfl, by decide, by decide⟩
theorem fl2_85 : Cond.fieldLink RX2 85 (TXG 0 8).1 (TXG 0 8).2.1 (TXG 0 8).2.2.1 ∈ TT ∧ 0 < 7 ∧ 8 < nFG 0 := ⟨TT_1 60 rfl rfl, by decide, by decide⟩
theorem fl2_99 : Cond.fieldLink RX2 99 (TXG 0 9).1 (TXG 0 9).2.1 (TXG 0 9).2.2.1 ∈ TT ∧ 0 < 7 ∧ 9 < nFG 0 := ⟨TT_1 63 rfl rfl, by decide, by decide⟩
theorem fl3_9 : Cond.fieldLink RX3 9 (TXG 3 0).1 (TXG 3 0).2.1 (TXG 3 0).2.2.1 ∈ TT ∧ 3 < 7 ∧ 0 < nFG 3 := ⟨TT_1 206 rfl rfl, by decide, by decide⟩
theorem fl3_15 : Cond.fieldLink RX3 15 (TXG 3 1).1 (TXG 3 1).2.1 (TXG 3 1).2.2.1 ∈ TT ∧ 3 < 7 ∧ 1 < nFG 3 := ⟨TT_1 208 rfl rfl, by decide, by decide⟩
theorem fl3_18 : Cond.fieldLink RX3 18 (TXG 3 2).1 (TXG 3 2).2.1 (TXG 3 2).2.2.1 ∈ TT ∧ 3 < 7 ∧ 2 < nFG 3 := ⟨TT_1 210 rfl rfl, by decide, by decide⟩
theorem fl4_12 : Cond.fieldLink RX4 12 (TXG 4 0).1 (TXG 4 0).2.1 (TXG 4 0).2.2.1 ∈ TT ∧ 4 < 7 ∧ 0 < nFG 4 := ⟨TT_1 113 rfl rfl, by decide, by decide⟩
theorem fl4_18 : Cond.fieldLink RX4 18 (TXG 4 1).1 (TXG 4 1).2.1 (TXG 4 1).2.2.1 ∈ TT ∧ 4 < 7 ∧ 1 < nFG 4 := ⟨TT_1 116 rfl rfl, by decide, by decide⟩
theorem fl4_22 : Cond.fieldLink RX4 22 (TXG 4 2).1 (TXG 4 2).2.1 (TXG 4 2).2.2.1 ∈ TT ∧ 4 < 7 ∧ 2 < nFG 4 := ⟨TT_1 118 rfl rfl, by decide, by decide⟩
theorem fl4_25 : Cond.fieldLink RX4 25 (TXG 4 3).1 (TXG 4 3).2.1 (TXG 4 3).2.2.1 ∈ TT ∧ 4 < 7 ∧ 3 < nFG 4 := ⟨TT_1 120 rfl rfl, by decide, by decide⟩
theorem fl4_29 : Cond.fieldLink RX4 29 (TXG 4 4).1 (TXG 4 4).2.1 (TXG 4 4).2.2.1 ∈ TT ∧ 4 < 7 ∧ 4 < nFG 4 := ⟨TT_1 123 rfl rfl, by decide, by decide⟩
theorem fl4_32 : Cond.fieldLink RX4 32 (TXG 4 5).1 (TXG 4 5).2.1 (TXG 4 5).2.2.1 ∈ TT ∧ 4 < 7 ∧ 5 < nFG 4 := ⟨TT_1 125 rfl rfl, by decide, by decide⟩
theorem fl4_35 : Cond.fieldLink RX4 35 (TXG 4 6).1 (TXG 4 6).2.1 (TXG 4 6).2.2.1 ∈ TT ∧ 4 < 7 ∧ 6 < nFG 4 := ⟨TT_1 127 rfl rfl, by decide, by decide⟩
theorem fl4_48 : Cond.fieldLink RX4 48 (TXG 0 8).1 (TXG 0 8).2.1 (TXG 0 8).2.2.1 ∈ TT ∧ 0 < 7 ∧ 8 < nFG 0 := ⟨TT_1 59 rfl rfl, by decide, by decide⟩
theorem fl4_55 : Cond.fieldLink RX4 55 (TXG 0 7).1 (TXG 0 7).2.1 (TXG 0 7).2.2.1 ∈ TT ∧ 0 < 7 ∧ 7 < nFG 0 := ⟨TT_1 56 rfl rfl, by decide, by decide⟩
theorem fl6_7 : Cond.fieldLink RX6 7 (TXG 6 0).1 (TXG 6 0).2.1 (TXG 6 0).2.2.1 ∈ TT ∧ 6 < 7 ∧ 0 < nFG 6 := ⟨TT_4 138 rfl rfl, by decide, by decide⟩
theorem fl6_13 : Cond.fieldLink RX6 13 (TXG 6 1).1 (TXG 6 1).2.1 (TXG 6 1).2.2.1 ∈ TT ∧ 6 < 7 ∧ 1 < nFG 6 := ⟨TT_4 139 rfl rfl, by decide, by decide⟩
theorem fl6_16 : Cond.fieldLink RX6 16 (TXG 6 2).1 (TXG 6 2).2.1 (TXG 6 2).2.2.1 ∈ TT ∧ 6 < 7 ∧ 2 < nFG 6 := ⟨TT_4 140 rfl rfl, by decide, by decide⟩
theorem fl6_21 : Cond.fieldLink RX6 21 (TXG 6 3).1 (TXG 6 3).2.1 (TXG 6 3).2.2.1 ∈ TT ∧ 6 < 7 ∧ 3 < nFG 6 := ⟨TT_4 141 rfl rfl, by decide, by decide⟩
theorem fl6_24 : Cond.fieldLink RX6 24 (TXG 6 4).1 (TXG 6 4).2.1 (TXG 6 4).2.2.1 ∈ TT ∧ 6 < 7 ∧ 4 < nFG 6 := ⟨TT_4 142 rfl rfl, by decide, by decide⟩
theorem fl6_28 : Cond.fieldLink RX6 28 (TXG 6 5).1 (TXG 6 5).2.1 (TXG 6 5).2.2.1 ∈ TT ∧ 6 < 7 ∧ 5 < nFG 6 := ⟨TT_4 143 rfl rfl, by decide, by decide⟩
theorem fl6_31 : Cond.fieldLink RX6 31 (TXG 6 6).1 (TXG 6 6).2.1 (TXG 6 6).2.2.1 ∈ TT ∧ 6 < 7 ∧ 6 < nFG 6 := ⟨TT_4 144 rfl rfl, by decide, by decide⟩
theorem fl6_34 : Cond.fieldLink RX6 34 (TXG 6 8).1 (TXG 6 8).2.1 (TXG 6 8).2.2.1 ∈ TT ∧ 6 < 7 ∧ 8 < nFG 6 := ⟨TT_4 146 rfl rfl, by decide, by decide⟩
theorem fl6_37 : Cond.fieldLink RX6 37 (TXG 6 9).1 (TXG 6 9).2.1 (TXG 6 9).2.2.1 ∈ TT ∧ 6 < 7 ∧ 9 < nFG 6 := ⟨TT_4 147 rfl rfl, by decide, by decide⟩
theorem fl6_41 : Cond.fieldLink RX6 41 (TXG 6 11).1 (TXG 6 11).2.1 (TXG 6 11).2.2.1 ∈ TT ∧ 6 < 7 ∧ 11 < nFG 6 := ⟨TT_4 149 rfl rfl, by decide, by decide⟩
theorem fl6_44 : Cond.fieldLink RX6 44 (TXG 6 12).1 (TXG 6 12).2.1 (TXG 6 12).2.2.1 ∈ TT ∧ 6 < 7 ∧ 12 < nFG 6 := ⟨TT_4 150 rfl rfl, by decide, by decide⟩
theorem fl6_49 : Cond.fieldLink RX6 49 (TXG 6 13).1 (TXG 6 13).2.1 (TXG 6 13).2.2.1 ∈ TT ∧ 6 < 7 ∧ 13 < nFG 6 := ⟨TT_4 151 rfl rfl, by decide, by decide⟩
theorem fl6_52 : Cond.fieldLink RX6 52 (TXG 6 14).1 (TXG 6 14).2.1 (TXG 6 14).2.2.1 ∈ TT ∧ 6 < 7 ∧ 14 < nFG 6 := ⟨TT_4 152 rfl rfl, by decide, by decide⟩
theorem fl6_55 : Cond.fieldLink RX6 55 (TXG 6 17).1 (TXG 6 17).2.1 (TXG 6 17).2.2.1 ∈ TT ∧ 6 < 7 ∧ 17 < nFG 6 := ⟨TT_4 155 rfl rfl, by decide, by decide⟩
theorem fl6_58 : Cond.fieldLink RX6 58 (TXG 6 23).1 (TXG 6 23).2.1 (TXG 6 23).2.2.1 ∈ TT ∧ 6 < 7 ∧ 23 < nFG 6 := ⟨TT_4 161 rfl rfl, by decide, by decide⟩
theorem fl6_61 : Cond.fieldLink RX6 61 (TXG 6 24).1 (TXG 6 24).2.1 (TXG 6 24).2.2.1 ∈ TT ∧ 6 < 7 ∧ 24 < nFG 6 := ⟨TT_4 162 rfl rfl, by decide, by decide⟩
theorem fl6_64 : Cond.fieldLink RX6 64 (TXG 6 26).1 (TXG 6 26).2.1 (TXG 6 26).2.2.1 ∈ TT ∧ 6 < 7 ∧ 26 < nFG 6 := ⟨TT_4 164 rfl rfl, by decide, by decide⟩
theorem fl6_67 : Cond.fieldLink RX6 67 (TXG 6 27).1 (TXG 6 27).2.1 (TXG 6 27).2.2.1 ∈ TT ∧ 6 < 7 ∧ 27 < nFG 6 := ⟨TT_4 165 rfl rfl, by decide, by decide⟩
theorem fl6_70 : Cond.fieldLink RX6 70 (TXG 6 30).1 (TXG 6 30).2.1 (TXG 6 30).2.2.1 ∈ TT ∧ 6 < 7 ∧ 30 < nFG 6 := ⟨TT_4 168 rfl rfl, by decide, by decide⟩
theorem fl6_74 : Cond.fieldLink RX6 74 (TXG 6 36).1 (TXG 6 36).2.1 (TXG 6 36).2.2.1 ∈ TT ∧ 6 < 7 ∧ 36 < nFG 6 := ⟨TT_4 174 rfl rfl, by decide, by decide⟩
theorem fl6_77 : Cond.fieldLink RX6 77 (TXG 6 41).1 (TXG 6 41).2.1 (TXG 6 41).2.2.1 ∈ TT ∧ 6 < 7 ∧ 41 < nFG 6 := ⟨TT_4 179 rfl rfl, by decide, by decide⟩
theorem fl6_80 : Cond.fieldLink RX6 80 (TXG 6 42).1 (TXG 6 42).2.1 (TXG 6 42).2.2.1 ∈ TT ∧ 6 < 7 ∧ 42 < nFG 6 := ⟨TT_4 180 rfl rfl, by decide, by decide⟩
theorem fl6_83 : Cond.fieldLink RX6 83 (TXG 6 43).1 (TXG 6 43).2.1 (TXG 6 43).2.2.1 ∈ TT ∧ 6 < 7 ∧ 43 < nFG 6 := ⟨TT_4 181 rfl rfl, by decide, by decide⟩
theorem fl6_86 : Cond.fieldLink RX6 86 (TXG 6 22).1 (TXG 6 22).2.1 (TXG 6 22).2.2.1 ∈ TT ∧ 6 < 7 ∧ 22 < nFG 6 := ⟨TT_4 160 rfl rfl, by decide, by decide⟩
theorem fl6_93 : Cond.fieldLink RX6 93 (TXG 6 10).1 (TXG 6 10).2.1 (TXG 6 10).2.2.1 ∈ TT ∧ 6 < 7 ∧ 10 < nFG 6 := ⟨TT_4 148 rfl rfl, by decide, by decide⟩
theorem fl6_126 : Cond.fieldLink RX6 126 (TXG 6 15).1 (TXG 6 15).2.1 (TXG 6 15).2.2.1 ∈ TT ∧ 6 < 7 ∧ 15 < nFG 6 := ⟨TT_4 153 rfl rfl, by decide, by decide⟩
theorem fl6_129 : Cond.fieldLink RX6 129 (TXG 6 16).1 (TXG 6 16).2.1 (TXG 6 16).2.2.1 ∈ TT ∧ 6 < 7 ∧ 16 < nFG 6 := ⟨TT_4 154 rfl rfl, by decide, by decide⟩
theorem fl6_163 : Cond.fieldLink RX6 163 (TXG 6 7).1 (TXG 6 7).2.1 (TXG 6 7).2.2.1 ∈ TT ∧ 6 < 7 ∧ 7 < nFG 6 := ⟨TT_4 145 rfl rfl, by decide, by decide⟩
theorem fl6_166 : Cond.fieldLink RX6 166 (TXG 6 31).1 (TXG 6 31).2.1 (TXG 6 31).2.2.1 ∈ TT ∧ 6 < 7 ∧ 31 < nFG 6 := ⟨TT_4 169 rfl rfl, by decide, by decide⟩
theorem fl6_169 : Cond.fieldLink RX6 169 (TXG 6 33).1 (TXG 6 33).2.1 (TXG 6 33).2.2.1 ∈ TT ∧ 6 < 7 ∧ 33 < nFG 6 := ⟨TT_4 171 rfl rfl, by decide, by decide⟩
theorem fl6_172 : Cond.fieldLink RX6 172 (TXG 6 34).1 (TXG 6 34).2.1 (TXG 6 34).2.2.1 ∈ TT ∧ 6 < 7 ∧ 34 < nFG 6 := ⟨TT_4 172 rfl rfl, by decide, by decide⟩
theorem fl6_175 : Cond.fieldLink RX6 175 (TXG 6 32).1 (TXG 6 32).2.1 (TXG 6 32).2.2.1 ∈ TT ∧ 6 < 7 ∧ 32 < nFG 6 := ⟨TT_4 170 rfl rfl, by decide, by decide⟩
theorem fl6_184 : Cond.fieldLink RX6 184 (TXG 6 35).1 (TXG 6 35).2.1 (TXG 6 35).2.2.1 ∈ TT ∧ 6 < 7 ∧ 35 < nFG 6 := ⟨TT_4 173 rfl rfl, by decide, by decide⟩
theorem fl6_241 : Cond.fieldLink RX6 241 (TXG 6 37).1 (TXG 6 37).2.1 (TXG 6 37).2.2.1 ∈ TT ∧ 6 < 7 ∧ 37 < nFG 6 := ⟨TT_4 175 rfl rfl, by decide, by decide⟩
theorem fl6_274 : Cond.fieldLink RX6 274 (TXG 6 20).1 (TXG 6 20).2.1 (TXG 6 20).2.2.1 ∈ TT ∧ 6 < 7 ∧ 20 < nFG 6 := ⟨TT_4 158 rfl rfl, by decide, by decide⟩
theorem fl6_283 : Cond.fieldLink RX6 283 (TXG 6 19).1 (TXG 6 19).2.1 (TXG 6 19).2.2.1 ∈ TT ∧ 6 < 7 ∧ 19 < nFG 6 := ⟨TT_4 157 rfl rfl, by decide, by decide⟩
theorem fl6_286 : Cond.fieldLink RX6 286 (TXG 6 21).1 (TXG 6 21).2.1 (TXG 6 21).2.2.1 ∈ TT ∧ 6 < 7 ∧ 21 < nFG 6 := ⟨TT_4 159 rfl rfl, by decide, by decide⟩
theorem fl6_289 : Cond.fieldLink RX6 289 (TXG 6 18).1 (TXG 6 18).2.1 (TXG 6 18).2.2.1 ∈ TT ∧ 6 < 7 ∧ 18 < nFG 6 := ⟨TT_4 156 rfl rfl, by decide, by decide⟩
theorem fl6_292 : Cond.fieldLink RX6 292 (TXG 6 25).1 (TXG 6 25).2.1 (TXG 6 25).2.2.1 ∈ TT ∧ 6 < 7 ∧ 25 < nFG 6 := ⟨TT_4 163 rfl rfl, by decide, by decide⟩
theorem fl6_310 : Cond.fieldLink RX6 310 (TXG 6 39).1 (TXG 6 39).2.1 (TXG 6 39).2.2.1 ∈ TT ∧ 6 < 7 ∧ 39 < nFG 6 := ⟨TT_4 177 rfl rfl, by decide, by decide⟩
theorem fl6_313 : Cond.fieldLink RX6 313 (TXG 6 40).1 (TXG 6 40).2.1 (TXG 6 40).2.2.1 ∈ TT ∧ 6 < 7 ∧ 40 < nFG 6 := ⟨TT_4 178 rfl rfl, by decide, by decide⟩
theorem fl6_317 : Cond.fieldLink RX6 317 (TXG 6 38).1 (TXG 6 38).2.1 (TXG 6 38).2.2.1 ∈ TT ∧ 6 < 7 ∧ 38 < nFG 6 := ⟨TT_4 176 rfl rfl, by decide, by decide⟩
theorem fl6_331 : Cond.fieldLink RX6 331 (TXG 6 29).1 (TXG 6 29).2.1 (TXG 6 29).2.2.1 ∈ TT ∧ 6 < 7 ∧ 29 < nFG 6 := ⟨TT_4 167 rfl rfl, by decide, by decide⟩
theorem fl6_361 : Cond.fieldLink RX6 361 (TXG 6 44).1 (TXG 6 44).2.1 (TXG 6 44).2.2.1 ∈ TT ∧ 6 < 7 ∧ 44 < nFG 6 := ⟨TT_4 182 rfl rfl, by decide, by decide⟩
theorem fl6_385 : Cond.fieldLink RX6 385 (TXG 6 28).1 (TXG 6 28).2.1 (TXG 6 28).2.2.1 ∈ TT ∧ 6 < 7 ∧ 28 < nFG 6 := ⟨TT_4 166 rfl rfl, by decide, by decide⟩
theorem ml5_31 : Cond.methodLink RX5 31 yX2_init ∈ TT := TT_1 148 rfl rfl
theorem ml5_58 : Cond.methodLink RX5 58 yX5_isShelf ∈ TT := TT_2 12 rfl rfl
theorem ml5_62 : Cond.methodLink RX5 62 yX5_isWithin ∈ TT := TT_2 15 rfl rfl
theorem ml5_66 : Cond.methodLink RX5 66 yX5_refuse ∈ TT := TT_2 18 rfl rfl
theorem ml5_70 : Cond.methodLink RX5 70 yX3_holdRow ∈ TT := TT_2 22 rfl rfl
theorem ml5_74 : Cond.methodLink RX5 74 yX5_rowFault ∈ TT := TT_2 30 rfl rfl
theorem ml5_81 : Cond.methodLink RX5 81 yX3_put ∈ TT := TT_2 38 rfl rfl
theorem ml5_85 : Cond.methodLink RX5 85 yX5_copyFault ∈ TT := TT_2 46 rfl rfl
theorem ml5_93 : Cond.methodLink RX5 93 arraycopyName ∈ TT := TT_2 50 rfl rfl
theorem ml5_99 : Cond.methodLink RX5 99 yX3_holdsRow ∈ TT := TT_2 34 rfl rfl
theorem ml5_106 : Cond.methodLink RX5 106 yX5_isLicker ∈ TT := TT_2 65 rfl rfl
theorem ml5_109 : Cond.methodLink RX5 109 yX3_clearAway ∈ TT := TT_2 69 rfl rfl
theorem ml5_112 : Cond.methodLink RX5 112 yX3_holdLicker ∈ TT := TT_2 73 rfl rfl
theorem ml5_116 : Cond.methodLink RX5 116 yX3_lickerNumber ∈ TT := TT_2 81 rfl rfl
theorem ml5_123 : Cond.methodLink RX5 123 yX5_isUnder ∈ TT := TT_2 85 rfl rfl
theorem ml5_133 : Cond.methodLink RX5 133 yX5_wouldIn ∈ TT := TT_2 88 rfl rfl
theorem ml5_143 : Cond.methodLink RX5 143 yX0_becomeSides ∈ TT := TT_2 183 rfl rfl
theorem ml5_146 : Cond.methodLink RX5 146 yX0_putOnTop ∈ TT := TT_2 195 rfl rfl
theorem ml5_149 : Cond.methodLink RX5 149 yX0_allPlaces ∈ TT := TT_2 203 rfl rfl
theorem ml5_155 : Cond.methodLink RX5 155 yX5_canAsk ∈ TT := TT_2 208 rfl rfl
theorem ml5_176 : Cond.methodLink RX5 176 yX4_addLicker ∈ TT := TT_2 220 rfl rfl
theorem ml5_180 : Cond.methodLink RX5 180 yX1_append ∈ TT := TT_2 228 rfl rfl
theorem ml5_183 : Cond.methodLink RX5 183 yX4_takeFrom ∈ TT := TT_3 0 rfl rfl
theorem ml5_187 : Cond.methodLink RX5 187 yX1_readInto ∈ TT := TT_3 6 rfl rfl
theorem ml5_191 : Cond.methodLink RX5 191 yX5_isScoop ∈ TT := TT_3 137 rfl rfl
theorem ml5_200 : Cond.methodLink RX5 200 yX0_allWetOf ∈ TT := TT_3 141 rfl rfl
theorem ml5_203 : Cond.methodLink RX5 203 yX5_isSide ∈ TT := TT_2 212 rfl rfl
theorem ml5_209 : Cond.methodLink RX5 209 yX0_wetAt ∈ TT := TT_3 149 rfl rfl
theorem ml5_212 : Cond.methodLink RX5 212 yX0_isSunny ∈ TT := TT_3 158 rfl rfl
theorem ml5_215 : Cond.methodLink RX5 215 yX5_isSpan ∈ TT := TT_3 163 rfl rfl
theorem ml5_218 : Cond.methodLink RX5 218 yX0_takeFrom ∈ TT := TT_3 166 rfl rfl
theorem ml5_221 : Cond.methodLink RX5 221 yX5_lostIdling ∈ TT := TT_3 167 rfl rfl
theorem ml5_224 : Cond.methodLink RX5 224 yX0_pass ∈ TT := TT_3 171 rfl rfl
theorem ml5_230 : Cond.methodLink RX5 230 yX5_thinkRun ∈ TT := TT_3 180 rfl rfl
theorem ml5_233 : Cond.methodLink RX5 233 yX5_thoughtResult ∈ TT := TT_3 184 rfl rfl
theorem ml5_236 : Cond.methodLink RX5 236 yX2_findPlan ∈ TT := TT_3 201 rfl rfl
theorem ml5_249 : Cond.methodLink RX5 249 yX0_left ∈ TT := TT_3 188 rfl rfl
theorem ml5_252 : Cond.methodLink RX5 252 yX5_lostUnder ∈ TT := TT_3 226 rfl rfl
theorem ml5_256 : Cond.methodLink RX5 256 yX0_hasOrder ∈ TT := TT_3 234 rfl rfl
theorem ml5_259 : Cond.methodLink RX5 259 yX0_takeInOrder ∈ TT := TT_4 3 rfl rfl
theorem ml5_262 : Cond.methodLink RX5 262 yX0_scoopInOrder ∈ TT := TT_4 8 rfl rfl
theorem ml5_268 : Cond.methodLink RX5 268 yX0_wettestSide ∈ TT := TT_4 21 rfl rfl
theorem ml5_271 : Cond.methodLink RX5 271 yX0_hasMeltedScoop ∈ TT := TT_4 30 rfl rfl
theorem ml5_274 : Cond.methodLink RX5 274 yX5_toldFault ∈ TT := TT_4 38 rfl rfl
theorem ml5_278 : Cond.methodLink RX5 278 yX5_wrongTold ∈ TT := TT_4 42 rfl rfl
theorem ml5_281 : Cond.methodLink RX5 281 yX4_actInTruth ∈ TT := TT_4 56 rfl rfl
theorem ml5_290 : Cond.methodLink RX5 290 yX5_wentAt ∈ TT := TT_4 65 rfl rfl
theorem ml5_293 : Cond.methodLink RX5 293 yX0_canDo ∈ TT := TT_4 47 rfl rfl
theorem ml5_296 : Cond.methodLink RX5 296 yX5_lickInTruth ∈ TT := TT_4 77 rfl rfl
theorem ml5_299 : Cond.methodLink RX5 299 yX0_changePlaces ∈ TT := TT_4 85 rfl rfl
theorem ml5_302 : Cond.methodLink RX5 302 yX4_drawByte ∈ TT := TT_4 93 rfl rfl
theorem ml5_305 : Cond.methodLink RX5 305 yX0_becomeEmpty ∈ TT := TT_4 102 rfl rfl
theorem ml5_314 : Cond.methodLink RX5 314 yX5_shelvesInUse ∈ TT := TT_4 122 rfl rfl
theorem ml5_319 : Cond.methodLink RX5 319 yX2_choose ∈ TT := TT_2 92 rfl rfl
theorem ml0_61 : Cond.methodLink RX0 61 arraycopyName ∈ TT := TT_2 133 rfl rfl
theorem ml0_67 : Cond.methodLink RX0 67 yX0_scoopInOrder ∈ TT := TT_3 238 rfl rfl
theorem ml0_74 : Cond.methodLink RX0 74 yX0_takeFrom ∈ TT := TT_4 7 rfl rfl
theorem ml0_78 : Cond.methodLink RX0 78 yX0_wetAt ∈ TT := TT_2 110 rfl rfl
theorem ml0_81 : Cond.methodLink RX0 81 yX0_allPlaces ∈ TT := TT_2 187 rfl rfl
theorem ml0_85 : Cond.methodLink RX0 85 yX0_allWetOf ∈ TT := TT_3 192 rfl rfl
theorem ml0_89 : Cond.methodLink RX0 89 yX0_isWetLower ∈ TT := TT_2 121 rfl rfl
theorem ml0_93 : Cond.methodLink RX0 93 yX0_canDo ∈ TT := TT_2 147 rfl rfl
theorem ml0_97 : Cond.methodLink RX0 97 yX0_isIdle ∈ TT := TT_2 155 rfl rfl
theorem ml0_100 : Cond.methodLink RX0 100 yX0_eat ∈ TT := TT_2 156 rfl rfl
theorem ml0_104 : Cond.methodLink RX0 104 yX0_melt ∈ TT := TT_2 163 rfl rfl
theorem ml0_107 : Cond.methodLink RX0 107 yX0_runDown ∈ TT := TT_2 171 rfl rfl
theorem ml0_110 : Cond.methodLink RX0 110 yX0_fallOff ∈ TT := TT_2 175 rfl rfl
theorem ml0_113 : Cond.methodLink RX0 113 Lib.Math.min.name ∈ TT := TT_2 160 rfl rfl
theorem ml0_118 : Cond.methodLink RX0 118 yX0_isSunny ∈ TT := TT_2 167 rfl rfl
theorem ml1_31 : Cond.methodLink RX1 31 yX1_advance ∈ TT := TT_3 10 rfl rfl
theorem ml1_34 : Cond.methodLink RX1 34 yX1_readStatement ∈ TT := TT_3 28 rfl rfl
theorem ml1_40 : Cond.methodLink RX1 40 yX1_isWord ∈ TT := TT_3 33 rfl rfl
theorem ml1_50 : Cond.methodLink RX1 50 yX1_readSides ∈ TT := TT_3 85 rfl rfl
theorem ml1_56 : Cond.methodLink RX1 56 yX1_readScoop ∈ TT := TT_3 95 rfl rfl
theorem ml1_61 : Cond.methodLink RX1 61 yX1_readSun ∈ TT := TT_3 101 rfl rfl
theorem ml1_66 : Cond.methodLink RX1 66 yX1_readHold ∈ TT := TT_3 106 rfl rfl
theorem ml1_71 : Cond.methodLink RX1 71 yX1_readBrim ∈ TT := TT_3 111 rfl rfl
theorem ml1_76 : Cond.methodLink RX1 76 yX1_readLicker ∈ TT := TT_3 116 rfl rfl
theorem ml1_81 : Cond.methodLink RX1 81 yX1_readLick ∈ TT := TT_3 122 rfl rfl
theorem ml1_89 : Cond.methodLink RX1 89 yX1_isNumber ∈ TT := TT_3 89 rfl rfl
theorem ml1_93 : Cond.methodLink RX1 93 yX0_becomeSides ∈ TT := TT_3 93 rfl rfl
theorem ml1_97 : Cond.methodLink RX1 97 yX0_putOnTop ∈ TT := TT_3 99 rfl rfl
theorem ml1_114 : Cond.methodLink RX1 114 yX4_addLicker ∈ TT := TT_3 120 rfl rfl
theorem ml1_117 : Cond.methodLink RX1 117 yX0_canDo ∈ TT := TT_3 126 rfl rfl
theorem ml1_121 : Cond.methodLink RX1 121 yX4_actInTruth ∈ TT := TT_3 127 rfl rfl
theorem ml1_130 : Cond.methodLink RX1 130 yX1_byteAt ∈ TT := TT_3 14 rfl rfl
theorem ml1_138 : Cond.methodLink RX1 138 yX1_isLetter ∈ TT := TT_3 18 rfl rfl
theorem ml1_141 : Cond.methodLink RX1 141 yX1_isDigit ∈ TT := TT_3 21 rfl rfl
theorem ml1_144 : Cond.methodLink RX1 144 yX1_readNumber ∈ TT := TT_3 24 rfl rfl
theorem ml2_35 : Cond.methodLink RX2 35 yX2_goRound ∈ TT := TT_2 96 rfl rfl
theorem ml2_39 : Cond.methodLink RX2 39 yX0_wettestSide ∈ TT := TT_2 106 rfl rfl
theorem ml2_46 : Cond.methodLink RX2 46 yX2_lickWettest ∈ TT := TT_2 111 rfl rfl
theorem ml2_49 : Cond.methodLink RX2 49 yX2_turnTo ∈ TT := TT_2 114 rfl rfl
theorem ml2_53 : Cond.methodLink RX2 53 yX0_lowestWetSide ∈ TT := TT_2 117 rfl rfl
theorem ml2_56 : Cond.methodLink RX2 56 yX2_lickLowest ∈ TT := TT_2 99 rfl rfl
theorem ml2_62 : Cond.methodLink RX2 62 yX2_findPlan ∈ TT := TT_2 125 rfl rfl
theorem ml2_69 : Cond.methodLink RX2 69 yX0_wetAt ∈ TT := TT_2 102 rfl rfl
theorem ml2_76 : Cond.methodLink RX2 76 yX0_takeFrom ∈ TT := TT_2 129 rfl rfl
theorem ml2_81 : Cond.methodLink RX2 81 yX2_deepen ∈ TT := TT_2 135 rfl rfl
theorem ml2_88 : Cond.methodLink RX2 88 yX2_weigh ∈ TT := TT_2 138 rfl rfl
theorem ml2_91 : Cond.methodLink RX2 91 yX0_isIdle ∈ TT := TT_2 143 rfl rfl
theorem ml2_95 : Cond.methodLink RX2 95 yX0_pass ∈ TT := TT_2 151 rfl rfl
theorem ml2_102 : Cond.methodLink RX2 102 arraycopyName ∈ TT := TT_2 142 rfl rfl
theorem ml4_38 : Cond.methodLink RX4 38 yX0_takeFrom ∈ TT := TT_3 4 rfl rfl
theorem ml4_42 : Cond.methodLink RX4 42 arraycopyName ∈ TT := TT_3 5 rfl rfl
theorem ml4_51 : Cond.methodLink RX4 51 yX0_pass ∈ TT := TT_3 131 rfl rfl
theorem ml6_89 : Cond.methodLink RX6 89 yX6_in ∈ TT := TT_5 39 rfl rfl
theorem ml6_102 : Cond.methodLink RX6 102 yX6_refuse ∈ TT := TT_5 44 rfl rfl
theorem ml6_106 : Cond.methodLink RX6 106 yX6_noRow ∈ TT := TT_5 52 rfl rfl
theorem ml6_109 : Cond.methodLink RX6 109 yX6_fit ∈ TT := TT_5 56 rfl rfl
theorem ml6_113 : Cond.methodLink RX6 113 yX6_isLicker ∈ TT := TT_5 75 rfl rfl
theorem ml6_119 : Cond.methodLink RX6 119 yX6_isUnder ∈ TT := TT_5 84 rfl rfl
theorem ml6_123 : Cond.methodLink RX6 123 yX6_wouldBe ∈ TT := TT_5 87 rfl rfl
theorem ml6_136 : Cond.methodLink RX6 136 yX6_becomeSides ∈ TT := TT_5 162 rfl rfl
theorem ml6_144 : Cond.methodLink RX6 144 yX6_addScoop ∈ TT := TT_5 172 rfl rfl
theorem ml6_152 : Cond.methodLink RX6 152 yX6_isSide ∈ TT := TT_5 190 rfl rfl
theorem ml6_155 : Cond.methodLink RX6 155 yX6_mayAsk ∈ TT := TT_5 184 rfl rfl
theorem ml6_158 : Cond.methodLink RX6 158 yX6_addLicker ∈ TT := TT_5 198 rfl rfl
theorem ml6_178 : Cond.methodLink RX6 178 yX6_isLetter ∈ TT := TT_5 227 rfl rfl
theorem ml6_181 : Cond.methodLink RX6 181 yX6_isDigit ∈ TT := TT_5 230 rfl rfl
theorem ml6_197 : Cond.methodLink RX6 197 yX6_wrong ∈ TT := TT_6 12 rfl rfl
theorem ml6_201 : Cond.methodLink RX6 201 yX6_look ∈ TT := TT_5 223 rfl rfl
theorem ml6_204 : Cond.methodLink RX6 204 yX6_number ∈ TT := TT_6 8 rfl rfl
theorem ml6_208 : Cond.methodLink RX6 208 yX6_canAct ∈ TT := TT_5 124 rfl rfl
theorem ml6_212 : Cond.methodLink RX6 212 yX6_goes ∈ TT := TT_5 137 rfl rfl
theorem ml6_217 : Cond.methodLink RX6 217 yX6_isWord ∈ TT := TT_5 238 rfl rfl
theorem ml6_221 : Cond.methodLink RX6 221 yX6_tells ∈ TT := TT_6 4 rfl rfl
theorem ml6_227 : Cond.methodLink RX6 227 yX6_sunTold ∈ TT := TT_6 18 rfl rfl
theorem ml6_238 : Cond.methodLink RX6 238 yX6_lickTold ∈ TT := TT_6 26 rfl rfl
theorem ml6_244 : Cond.methodLink RX6 244 yX6_statement ∈ TT := TT_5 233 rfl rfl
theorem ml6_247 : Cond.methodLink RX6 247 yX6_fresh ∈ TT := TT_5 215 rfl rfl
theorem ml6_251 : Cond.methodLink RX6 251 yX6_readAll ∈ TT := TT_5 219 rfl rfl
theorem ml6_254 : Cond.methodLink RX6 254 yX6_takeFrom ∈ TT := TT_5 130 rfl rfl
theorem ml6_258 : Cond.methodLink RX6 258 yX6_isScoop ∈ TT := TT_6 34 rfl rfl
theorem ml6_263 : Cond.methodLink RX6 263 yX6_wetOf ∈ TT := TT_6 39 rfl rfl
theorem ml6_266 : Cond.methodLink RX6 266 yX6_isSunny ∈ TT := TT_5 149 rfl rfl
theorem ml6_271 : Cond.methodLink RX6 271 yX6_lickedOf ∈ TT := TT_5 141 rfl rfl
theorem ml6_277 : Cond.methodLink RX6 277 yX6_melts ∈ TT := TT_5 145 rfl rfl
theorem ml6_280 : Cond.methodLink RX6 280 yX6_runsDown ∈ TT := TT_5 153 rfl rfl
theorem ml6_295 : Cond.methodLink RX6 295 yX6_allAt ∈ TT := TT_5 103 rfl rfl
theorem ml6_298 : Cond.methodLink RX6 298 yX6_wettestSide ∈ TT := TT_5 99 rfl rfl
theorem ml6_301 : Cond.methodLink RX6 301 yX6_turnTo ∈ TT := TT_5 107 rfl rfl
theorem ml6_304 : Cond.methodLink RX6 304 yX6_isMore ∈ TT := TT_5 115 rfl rfl
theorem ml6_307 : Cond.methodLink RX6 307 yX6_roundAct ∈ TT := TT_5 91 rfl rfl
theorem ml6_316 : Cond.methodLink RX6 316 yX6_init ∈ TT := TT_5 123 rfl rfl
theorem ml6_320 : Cond.methodLink RX6 320 yX6_findPlan ∈ TT := TT_5 119 rfl rfl
theorem ml6_323 : Cond.methodLink RX6 323 yX6_wettestAct ∈ TT := TT_5 95 rfl rfl
theorem ml6_326 : Cond.methodLink RX6 326 yX6_lowestAct ∈ TT := TT_5 111 rfl rfl
theorem ml6_335 : Cond.methodLink RX6 335 yX6_stands ∈ TT := TT_6 73 rfl rfl
theorem ml6_340 : Cond.methodLink RX6 340 yX6_withoutNow ∈ TT := TT_6 69 rfl rfl
theorem ml6_343 : Cond.methodLink RX6 343 yX6_leftNow ∈ TT := TT_6 93 rfl rfl
theorem ml6_346 : Cond.methodLink RX6 346 yX6_lickedBy ∈ TT := TT_6 85 rfl rfl
theorem ml6_349 : Cond.methodLink RX6 349 yX6_toldOf ∈ TT := TT_6 89 rfl rfl
theorem ml6_353 : Cond.methodLink RX6 353 yX6_copied ∈ TT := TT_5 134 rfl rfl
theorem ml6_357 : Cond.methodLink RX6 357 yX6_putFrom ∈ TT := TT_6 129 rfl rfl
theorem ml6_364 : Cond.methodLink RX6 364 yX6_seekOrder ∈ TT := TT_6 125 rfl rfl
theorem ml6_368 : Cond.methodLink RX6 368 yX6_noActs ∈ TT := TT_6 157 rfl rfl
theorem ml6_372 : Cond.methodLink RX6 372 yX6_wrongIn ∈ TT := TT_6 161 rfl rfl
theorem ml6_378 : Cond.methodLink RX6 378 yX6_licksTruly ∈ TT := TT_6 190 rfl rfl
theorem ml6_382 : Cond.methodLink RX6 382 yX6_below ∈ TT := TT_6 202 rfl rfl
theorem k5_317 : Cond.constantLong RX5 317 (6 : Int64) ∈ TT := TT_4 46 rfl rfl
theorem k2_80 : Cond.constant RX2 80 (2147483647 : Int32) ∈ TT := TT_2 134 rfl rfl
theorem k4_58 : Cond.constant RX4 58 (1103515245 : Int32) ∈ TT := TT_4 97 rfl rfl
theorem k6_96 : Cond.constantLong RX6 96 (7 : Int64) ∈ TT := TT_5 38 rfl rfl
theorem k6_98 : Cond.constantLong RX6 98 (4 : Int64) ∈ TT := TT_5 42 rfl rfl
theorem k6_100 : Cond.constantLong RX6 100 (40 : Int64) ∈ TT := TT_5 43 rfl rfl
theorem k6_117 : Cond.constantLong RX6 117 (5 : Int64) ∈ TT := TT_5 83 rfl rfl
theorem k6_132 : Cond.constantLong RX6 132 (3 : Int64) ∈ TT := TT_5 129 rfl rfl
theorem k6_134 : Cond.constantLong RX6 134 (8 : Int64) ∈ TT := TT_5 161 rfl rfl
theorem k6_140 : Cond.constantLong RX6 140 (9 : Int64) ∈ TT := TT_5 170 rfl rfl
theorem k6_142 : Cond.constantLong RX6 142 (99 : Int64) ∈ TT := TT_5 171 rfl rfl
theorem k6_148 : Cond.constantLong RX6 148 (20 : Int64) ∈ TT := TT_5 188 rfl rfl
theorem k6_150 : Cond.constantLong RX6 150 (999 : Int64) ∈ TT := TT_5 189 rfl rfl
theorem k6_161 : Cond.constantLong RX6 161 (255 : Int64) ∈ TT := TT_5 206 rfl rfl
theorem k6_261 : Cond.constantLong RX6 261 (2 : Int64) ∈ TT := TT_6 38 rfl rfl
theorem k6_269 : Cond.constantLong RX6 269 (6 : Int64) ∈ TT := TT_5 128 rfl rfl
theorem k6_329 : Cond.constantLong RX6 329 (-1 : Int64) ∈ TT := TT_6 63 rfl rfl
theorem k6_338 : Cond.constantLong RX6 338 (200 : Int64) ∈ TT := TT_6 68 rfl rfl
theorem k6_376 : Cond.constantLong RX6 376 (60 : Int64) ∈ TT := TT_6 189 rfl rfl
theorem k6_381 : Cond.constant RX6 381 (1103515245 : Int32) ∈ TT := TT_6 206 rfl rfl
theorem k6_388 : Cond.constantLong RX6 388 (12 : Int64) ∈ TT := TT_6 227 rfl rfl
theorem k6_390 : Cond.constantLong RX6 390 (16 : Int64) ∈ TT := TT_6 228 rfl rfl
theorem k6_392 : Cond.constantLong RX6 392 (18 : Int64) ∈ TT := TT_6 229 rfl rfl
theorem k6_394 : Cond.constantLong RX6 394 (21 : Int64) ∈ TT := TT_6 230 rfl rfl
theorem lm2_D_CC_s1_0_s1_0 : ∀ i : Nat, i < 4 → ∀ j : Nat, j < 4 → i ≠ j → layMap lyD lyCC (fun k => if k < 5 then 4 + 5 * i + k else 4 + 5 * j + (k - 5)) = true := by decide +kernel
theorem lm_D_C_s1_0 : ∀ j : Nat, j < 4 → layMap lyD lyC (fun k => 4 + 5 * j + k) = true := by decide +kernel
theorem lm_DC_CC_s1_0_24 : ∀ j : Nat, j < 4 → layMap lyDC lyCC (fun k => if k < 5 then 4 + 5 * j + k else 24 + (k - 5)) = true := by decide +kernel
theorem lm_M_S_s57_0 : ∀ j : Nat, j < 8 → layMap lyM lyS (fun k => 61 + 2 * j + k) = true := by decide +kernel
theorem lm2_RR_I8I8_s52_0_s19_0 : ∀ i : Nat, i < 3 → ∀ j : Nat, j < 3 → layMap lyRR lyI8I8 (fun k => if k < 1 then 53 + i + k else 20 + j + (k - 1)) = true := by decide +kernel
end
