section
-- ===== PART A: goes FIRST, ahead of the names: the tables' words, and 'selects' of the private methods out of them =====
/-- a private method of a class that the tables say can be made, by its rows of tables_1 -/
def lw_okq (q : MethodName × Nat) : Prop := (q.1.cls ≠ "java/lang/invoke/MethodHandle" ∧ q.1.cls ≠ "java/lang/invoke/VarHandle") ∧ Cond.instantiable q.1.cls q.2 ∈ tables_1 ∧ Cond.privateMethod q.1 ∈ tables_1 ∧ Cond.instanceMethod q.1 ∈ tables_1
theorem lw_p0 : lw_okq (⟨"BeforeItDrips", "refuse", "(I)I"⟩, 9) := ⟨⟨by decide +kernel, by decide +kernel⟩, List.mem_of_getElem? (i := 15) (by decide +kernel), List.mem_of_getElem? (i := 259) (by decide +kernel), List.mem_of_getElem? (i := 260) (by decide +kernel)⟩
theorem lw_p1 : lw_okq (⟨"BeforeItDrips", "rowFault", "(I)I"⟩, 9) := ⟨⟨by decide +kernel, by decide +kernel⟩, List.mem_of_getElem? (i := 15) (by decide +kernel), List.mem_of_getElem? (i := 271) (by decide +kernel), List.mem_of_getElem? (i := 272) (by decide +kernel)⟩
theorem lw_p2 : lw_okq (⟨"BeforeItDrips", "copyFault", "(II)I"⟩, 9) := ⟨⟨by decide +kernel, by decide +kernel⟩, List.mem_of_getElem? (i := 15) (by decide +kernel), List.mem_of_getElem? (i := 287) (by decide +kernel), List.mem_of_getElem? (i := 288) (by decide +kernel)⟩
theorem lw_p3 : lw_okq (⟨"BeforeItDrips", "isLicker", "(I)Z"⟩, 9) := ⟨⟨by decide +kernel, by decide +kernel⟩, List.mem_of_getElem? (i := 15) (by decide +kernel), List.mem_of_getElem? (i := 306) (by decide +kernel), List.mem_of_getElem? (i := 307) (by decide +kernel)⟩
theorem lw_p4 : lw_okq (⟨"BeforeItDrips", "wouldIn", "(LBeforeItDrips$Cone;I)I"⟩, 9) := ⟨⟨by decide +kernel, by decide +kernel⟩, List.mem_of_getElem? (i := 15) (by decide +kernel), List.mem_of_getElem? (i := 329) (by decide +kernel), List.mem_of_getElem? (i := 330) (by decide +kernel)⟩
theorem lw_p5 : lw_okq (⟨"BeforeItDrips$Cone", "isWetLower", "(II)Z"⟩, 16) := ⟨⟨by decide +kernel, by decide +kernel⟩, List.mem_of_getElem? (i := 29) (by decide +kernel), List.mem_of_getElem? (i := 362) (by decide +kernel), List.mem_of_getElem? (i := 363) (by decide +kernel)⟩
theorem lw_p6 : lw_okq (⟨"BeforeItDrips$Mind", "weigh", "(LBeforeItDrips$Cone;)V"⟩, 5) := ⟨⟨by decide +kernel, by decide +kernel⟩, List.mem_of_getElem? (i := 147) (by decide +kernel), List.mem_of_getElem? (i := 379) (by decide +kernel), List.mem_of_getElem? (i := 380) (by decide +kernel)⟩
theorem lw_p7 : lw_okq (⟨"BeforeItDrips$Cone", "eat", "(I)V"⟩, 16) := ⟨⟨by decide +kernel, by decide +kernel⟩, List.mem_of_getElem? (i := 29) (by decide +kernel), List.mem_of_getElem? (i := 397) (by decide +kernel), List.mem_of_getElem? (i := 398) (by decide +kernel)⟩
theorem lw_p8 : lw_okq (⟨"BeforeItDrips$Cone", "melt", "()V"⟩, 16) := ⟨⟨by decide +kernel, by decide +kernel⟩, List.mem_of_getElem? (i := 29) (by decide +kernel), List.mem_of_getElem? (i := 404) (by decide +kernel), List.mem_of_getElem? (i := 405) (by decide +kernel)⟩
theorem lw_p9 : lw_okq (⟨"BeforeItDrips$Cone", "runDown", "()V"⟩, 16) := ⟨⟨by decide +kernel, by decide +kernel⟩, List.mem_of_getElem? (i := 29) (by decide +kernel), List.mem_of_getElem? (i := 412) (by decide +kernel), List.mem_of_getElem? (i := 413) (by decide +kernel)⟩
theorem lw_p10 : lw_okq (⟨"BeforeItDrips$Cone", "fallOff", "()V"⟩, 16) := ⟨⟨by decide +kernel, by decide +kernel⟩, List.mem_of_getElem? (i := 29) (by decide +kernel), List.mem_of_getElem? (i := 416) (by decide +kernel), List.mem_of_getElem? (i := 417) (by decide +kernel)⟩
theorem lw_p11 : lw_okq (⟨"BeforeItDrips", "canAsk", "(II)Z"⟩, 9) := ⟨⟨by decide +kernel, by decide +kernel⟩, List.mem_of_getElem? (i := 15) (by decide +kernel), List.mem_of_getElem? (i := 449) (by decide +kernel), List.mem_of_getElem? (i := 450) (by decide +kernel)⟩
theorem lw_p12 : lw_okq (⟨"BeforeItDrips", "isSide", "(I)Z"⟩, 9) := ⟨⟨by decide +kernel, by decide +kernel⟩, List.mem_of_getElem? (i := 15) (by decide +kernel), List.mem_of_getElem? (i := 453) (by decide +kernel), List.mem_of_getElem? (i := 454) (by decide +kernel)⟩
theorem lw_p13 : lw_okq (⟨"BeforeItDrips$Kerb", "advance", "()V"⟩, 6) := ⟨⟨by decide +kernel, by decide +kernel⟩, List.mem_of_getElem? (i := 176) (by decide +kernel), List.mem_of_getElem? (i := 491) (by decide +kernel), List.mem_of_getElem? (i := 492) (by decide +kernel)⟩
theorem lw_p14 : lw_okq (⟨"BeforeItDrips$Kerb", "byteAt", "(I)I"⟩, 6) := ⟨⟨by decide +kernel, by decide +kernel⟩, List.mem_of_getElem? (i := 176) (by decide +kernel), List.mem_of_getElem? (i := 495) (by decide +kernel), List.mem_of_getElem? (i := 496) (by decide +kernel)⟩
theorem lw_p15 : lw_okq (⟨"BeforeItDrips$Kerb", "readNumber", "()V"⟩, 6) := ⟨⟨by decide +kernel, by decide +kernel⟩, List.mem_of_getElem? (i := 176) (by decide +kernel), List.mem_of_getElem? (i := 505) (by decide +kernel), List.mem_of_getElem? (i := 506) (by decide +kernel)⟩
def lw_privs_1 : List (MethodName × Nat) := [(⟨"BeforeItDrips", "refuse", "(I)I"⟩, 9), (⟨"BeforeItDrips", "rowFault", "(I)I"⟩, 9), (⟨"BeforeItDrips", "copyFault", "(II)I"⟩, 9), (⟨"BeforeItDrips", "isLicker", "(I)Z"⟩, 9), (⟨"BeforeItDrips", "wouldIn", "(LBeforeItDrips$Cone;I)I"⟩, 9), (⟨"BeforeItDrips$Cone", "isWetLower", "(II)Z"⟩, 16), (⟨"BeforeItDrips$Mind", "weigh", "(LBeforeItDrips$Cone;)V"⟩, 5), (⟨"BeforeItDrips$Cone", "eat", "(I)V"⟩, 16), (⟨"BeforeItDrips$Cone", "melt", "()V"⟩, 16), (⟨"BeforeItDrips$Cone", "runDown", "()V"⟩, 16), (⟨"BeforeItDrips$Cone", "fallOff", "()V"⟩, 16), (⟨"BeforeItDrips", "canAsk", "(II)Z"⟩, 9), (⟨"BeforeItDrips", "isSide", "(I)Z"⟩, 9), (⟨"BeforeItDrips$Kerb", "advance", "()V"⟩, 6), (⟨"BeforeItDrips$Kerb", "byteAt", "(I)I"⟩, 6), (⟨"BeforeItDrips$Kerb", "readNumber", "()V"⟩, 6)]
theorem lw_r1 : ∀ q ∈ lw_privs_1, lw_okq q := List.forall_mem_cons.mpr ⟨lw_p0, List.forall_mem_cons.mpr ⟨lw_p1, List.forall_mem_cons.mpr ⟨lw_p2, List.forall_mem_cons.mpr ⟨lw_p3, List.forall_mem_cons.mpr ⟨lw_p4, List.forall_mem_cons.mpr ⟨lw_p5, List.forall_mem_cons.mpr ⟨lw_p6, List.forall_mem_cons.mpr ⟨lw_p7, List.forall_mem_cons.mpr ⟨lw_p8, List.forall_mem_cons.mpr ⟨lw_p9, List.forall_mem_cons.mpr ⟨lw_p10, List.forall_mem_cons.mpr ⟨lw_p11, List.forall_mem_cons.mpr ⟨lw_p12, List.forall_mem_cons.mpr ⟨lw_p13, List.forall_mem_cons.mpr ⟨lw_p14, List.forall_mem_cons.mpr ⟨lw_p15, fun _ h => absurd h List.not_mem_nil⟩⟩⟩⟩⟩⟩⟩⟩⟩⟩⟩⟩⟩⟩⟩⟩
theorem lw_p16 : lw_okq (⟨"BeforeItDrips$Kerb", "readStatement", "(LBeforeItDrips$World;)Z"⟩, 6) := ⟨⟨by decide +kernel, by decide +kernel⟩, List.mem_of_getElem? (i := 176) (by decide +kernel), List.mem_of_getElem? (i := 509) (by decide +kernel), List.mem_of_getElem? (i := 510) (by decide +kernel)⟩
theorem lw_p17 : lw_okq (⟨"BeforeItDrips$Kerb", "isWord", "(Ljava/lang/String;)Z"⟩, 6) := ⟨⟨by decide +kernel, by decide +kernel⟩, List.mem_of_getElem? (i := 176) (by decide +kernel), List.mem_of_getElem? (i := 514) (by decide +kernel), List.mem_of_getElem? (i := 515) (by decide +kernel)⟩
theorem lw_p18 : lw_okq (⟨"BeforeItDrips$Kerb", "readSides", "(LBeforeItDrips$Cone;)Z"⟩, 6) := ⟨⟨by decide +kernel, by decide +kernel⟩, List.mem_of_getElem? (i := 176) (by decide +kernel), List.mem_of_getElem? (i := 566) (by decide +kernel), List.mem_of_getElem? (i := 567) (by decide +kernel)⟩
theorem lw_p19 : lw_okq (⟨"BeforeItDrips$Kerb", "isNumber", "(II)Z"⟩, 6) := ⟨⟨by decide +kernel, by decide +kernel⟩, List.mem_of_getElem? (i := 176) (by decide +kernel), List.mem_of_getElem? (i := 570) (by decide +kernel), List.mem_of_getElem? (i := 571) (by decide +kernel)⟩
theorem lw_p20 : lw_okq (⟨"BeforeItDrips$Kerb", "readScoop", "(LBeforeItDrips$Cone;)Z"⟩, 6) := ⟨⟨by decide +kernel, by decide +kernel⟩, List.mem_of_getElem? (i := 176) (by decide +kernel), List.mem_of_getElem? (i := 576) (by decide +kernel), List.mem_of_getElem? (i := 577) (by decide +kernel)⟩
theorem lw_p21 : lw_okq (⟨"BeforeItDrips$Kerb", "readSun", "(LBeforeItDrips$Cone;)Z"⟩, 6) := ⟨⟨by decide +kernel, by decide +kernel⟩, List.mem_of_getElem? (i := 176) (by decide +kernel), List.mem_of_getElem? (i := 582) (by decide +kernel), List.mem_of_getElem? (i := 583) (by decide +kernel)⟩
theorem lw_p22 : lw_okq (⟨"BeforeItDrips$Kerb", "readHold", "(LBeforeItDrips$Cone;)Z"⟩, 6) := ⟨⟨by decide +kernel, by decide +kernel⟩, List.mem_of_getElem? (i := 176) (by decide +kernel), List.mem_of_getElem? (i := 587) (by decide +kernel), List.mem_of_getElem? (i := 588) (by decide +kernel)⟩
theorem lw_p23 : lw_okq (⟨"BeforeItDrips$Kerb", "readBrim", "(LBeforeItDrips$Cone;)Z"⟩, 6) := ⟨⟨by decide +kernel, by decide +kernel⟩, List.mem_of_getElem? (i := 176) (by decide +kernel), List.mem_of_getElem? (i := 592) (by decide +kernel), List.mem_of_getElem? (i := 593) (by decide +kernel)⟩
theorem lw_p24 : lw_okq (⟨"BeforeItDrips$Kerb", "readLicker", "(LBeforeItDrips$World;)Z"⟩, 6) := ⟨⟨by decide +kernel, by decide +kernel⟩, List.mem_of_getElem? (i := 176) (by decide +kernel), List.mem_of_getElem? (i := 597) (by decide +kernel), List.mem_of_getElem? (i := 598) (by decide +kernel)⟩
theorem lw_p25 : lw_okq (⟨"BeforeItDrips$Kerb", "readLick", "(LBeforeItDrips$World;)Z"⟩, 6) := ⟨⟨by decide +kernel, by decide +kernel⟩, List.mem_of_getElem? (i := 176) (by decide +kernel), List.mem_of_getElem? (i := 603) (by decide +kernel), List.mem_of_getElem? (i := 604) (by decide +kernel)⟩
theorem lw_p26 : lw_okq (⟨"BeforeItDrips", "isScoop", "(I)Z"⟩, 9) := ⟨⟨by decide +kernel, by decide +kernel⟩, List.mem_of_getElem? (i := 15) (by decide +kernel), List.mem_of_getElem? (i := 618) (by decide +kernel), List.mem_of_getElem? (i := 619) (by decide +kernel)⟩
theorem lw_p27 : lw_okq (⟨"BeforeItDrips", "lostIdling", "(I)I"⟩, 9) := ⟨⟨by decide +kernel, by decide +kernel⟩, List.mem_of_getElem? (i := 15) (by decide +kernel), List.mem_of_getElem? (i := 648) (by decide +kernel), List.mem_of_getElem? (i := 649) (by decide +kernel)⟩
theorem lw_p28 : lw_okq (⟨"BeforeItDrips", "thinkRun", "(II)V"⟩, 9) := ⟨⟨by decide +kernel, by decide +kernel⟩, List.mem_of_getElem? (i := 15) (by decide +kernel), List.mem_of_getElem? (i := 661) (by decide +kernel), List.mem_of_getElem? (i := 662) (by decide +kernel)⟩
theorem lw_p29 : lw_okq (⟨"BeforeItDrips", "thoughtResult", "(I)I"⟩, 9) := ⟨⟨by decide +kernel, by decide +kernel⟩, List.mem_of_getElem? (i := 15) (by decide +kernel), List.mem_of_getElem? (i := 665) (by decide +kernel), List.mem_of_getElem? (i := 666) (by decide +kernel)⟩
theorem lw_p30 : lw_okq (⟨"BeforeItDrips", "lostUnder", "(III)I"⟩, 9) := ⟨⟨by decide +kernel, by decide +kernel⟩, List.mem_of_getElem? (i := 15) (by decide +kernel), List.mem_of_getElem? (i := 707) (by decide +kernel), List.mem_of_getElem? (i := 708) (by decide +kernel)⟩
theorem lw_p31 : lw_okq (⟨"BeforeItDrips", "toldFault", "(IIII)I"⟩, 9) := ⟨⟨by decide +kernel, by decide +kernel⟩, List.mem_of_getElem? (i := 15) (by decide +kernel), List.mem_of_getElem? (i := 759) (by decide +kernel), List.mem_of_getElem? (i := 760) (by decide +kernel)⟩
def lw_privs_2 : List (MethodName × Nat) := [(⟨"BeforeItDrips$Kerb", "readStatement", "(LBeforeItDrips$World;)Z"⟩, 6), (⟨"BeforeItDrips$Kerb", "isWord", "(Ljava/lang/String;)Z"⟩, 6), (⟨"BeforeItDrips$Kerb", "readSides", "(LBeforeItDrips$Cone;)Z"⟩, 6), (⟨"BeforeItDrips$Kerb", "isNumber", "(II)Z"⟩, 6), (⟨"BeforeItDrips$Kerb", "readScoop", "(LBeforeItDrips$Cone;)Z"⟩, 6), (⟨"BeforeItDrips$Kerb", "readSun", "(LBeforeItDrips$Cone;)Z"⟩, 6), (⟨"BeforeItDrips$Kerb", "readHold", "(LBeforeItDrips$Cone;)Z"⟩, 6), (⟨"BeforeItDrips$Kerb", "readBrim", "(LBeforeItDrips$Cone;)Z"⟩, 6), (⟨"BeforeItDrips$Kerb", "readLicker", "(LBeforeItDrips$World;)Z"⟩, 6), (⟨"BeforeItDrips$Kerb", "readLick", "(LBeforeItDrips$World;)Z"⟩, 6), (⟨"BeforeItDrips", "isScoop", "(I)Z"⟩, 9), (⟨"BeforeItDrips", "lostIdling", "(I)I"⟩, 9), (⟨"BeforeItDrips", "thinkRun", "(II)V"⟩, 9), (⟨"BeforeItDrips", "thoughtResult", "(I)I"⟩, 9), (⟨"BeforeItDrips", "lostUnder", "(III)I"⟩, 9), (⟨"BeforeItDrips", "toldFault", "(IIII)I"⟩, 9)]
theorem lw_r2 : ∀ q ∈ lw_privs_2, lw_okq q := List.forall_mem_cons.mpr ⟨lw_p16, List.forall_mem_cons.mpr ⟨lw_p17, List.forall_mem_cons.mpr ⟨lw_p18, List.forall_mem_cons.mpr ⟨lw_p19, List.forall_mem_cons.mpr ⟨lw_p20, List.forall_mem_cons.mpr ⟨lw_p21, List.forall_mem_cons.mpr ⟨lw_p22, List.forall_mem_cons.mpr ⟨lw_p23, List.forall_mem_cons.mpr ⟨lw_p24, List.forall_mem_cons.mpr ⟨lw_p25, List.forall_mem_cons.mpr ⟨lw_p26, List.forall_mem_cons.mpr ⟨lw_p27, List.forall_mem_cons.mpr ⟨lw_p28, List.forall_mem_cons.mpr ⟨lw_p29, List.forall_mem_cons.mpr ⟨lw_p30, List.forall_mem_cons.mpr ⟨lw_p31, fun _ h => absurd h List.not_mem_nil⟩⟩⟩⟩⟩⟩⟩⟩⟩⟩⟩⟩⟩⟩⟩⟩
theorem lw_p32 : lw_okq (⟨"BeforeItDrips", "wrongTold", "(II)I"⟩, 9) := ⟨⟨by decide +kernel, by decide +kernel⟩, List.mem_of_getElem? (i := 15) (by decide +kernel), List.mem_of_getElem? (i := 763) (by decide +kernel), List.mem_of_getElem? (i := 764) (by decide +kernel)⟩
theorem lw_p33 : lw_okq (⟨"BeforeItDrips", "wentAt", "(III)Z"⟩, 9) := ⟨⟨by decide +kernel, by decide +kernel⟩, List.mem_of_getElem? (i := 15) (by decide +kernel), List.mem_of_getElem? (i := 786) (by decide +kernel), List.mem_of_getElem? (i := 787) (by decide +kernel)⟩
theorem lw_p34 : lw_okq (⟨"BeforeItDrips", "lickInTruth", "(II)V"⟩, 9) := ⟨⟨by decide +kernel, by decide +kernel⟩, List.mem_of_getElem? (i := 15) (by decide +kernel), List.mem_of_getElem? (i := 798) (by decide +kernel), List.mem_of_getElem? (i := 799) (by decide +kernel)⟩
theorem lw_p35 : lw_okq (⟨"BeforeItDrips", "shelvesInUse", "()I"⟩, 9) := ⟨⟨by decide +kernel, by decide +kernel⟩, List.mem_of_getElem? (i := 15) (by decide +kernel), List.mem_of_getElem? (i := 843) (by decide +kernel), List.mem_of_getElem? (i := 844) (by decide +kernel)⟩
theorem lw_p36 : lw_okq (⟨"BeforeItDripsModel", "refuse", "(I)I"⟩, 45) := ⟨⟨by decide +kernel, by decide +kernel⟩, List.mem_of_getElem? (i := 847) (by decide +kernel), List.mem_of_getElem? (i := 1005) (by decide +kernel), List.mem_of_getElem? (i := 1006) (by decide +kernel)⟩
theorem lw_p37 : lw_okq (⟨"BeforeItDripsModel", "noRow", "(I)I"⟩, 45) := ⟨⟨by decide +kernel, by decide +kernel⟩, List.mem_of_getElem? (i := 847) (by decide +kernel), List.mem_of_getElem? (i := 1013) (by decide +kernel), List.mem_of_getElem? (i := 1014) (by decide +kernel)⟩
theorem lw_p38 : lw_okq (⟨"BeforeItDripsModel", "isLicker", "(I)Z"⟩, 45) := ⟨⟨by decide +kernel, by decide +kernel⟩, List.mem_of_getElem? (i := 847) (by decide +kernel), List.mem_of_getElem? (i := 1036) (by decide +kernel), List.mem_of_getElem? (i := 1037) (by decide +kernel)⟩
theorem lw_p39 : lw_okq (⟨"BeforeItDripsModel", "wouldBe", "(I)I"⟩, 45) := ⟨⟨by decide +kernel, by decide +kernel⟩, List.mem_of_getElem? (i := 847) (by decide +kernel), List.mem_of_getElem? (i := 1048) (by decide +kernel), List.mem_of_getElem? (i := 1049) (by decide +kernel)⟩
theorem lw_p40 : lw_okq (⟨"BeforeItDripsModel", "roundAct", "()I"⟩, 45) := ⟨⟨by decide +kernel, by decide +kernel⟩, List.mem_of_getElem? (i := 847) (by decide +kernel), List.mem_of_getElem? (i := 1052) (by decide +kernel), List.mem_of_getElem? (i := 1053) (by decide +kernel)⟩
theorem lw_p41 : lw_okq (⟨"BeforeItDripsModel", "wettestAct", "()I"⟩, 45) := ⟨⟨by decide +kernel, by decide +kernel⟩, List.mem_of_getElem? (i := 847) (by decide +kernel), List.mem_of_getElem? (i := 1056) (by decide +kernel), List.mem_of_getElem? (i := 1057) (by decide +kernel)⟩
theorem lw_p42 : lw_okq (⟨"BeforeItDripsModel", "wettestSide", "()I"⟩, 45) := ⟨⟨by decide +kernel, by decide +kernel⟩, List.mem_of_getElem? (i := 847) (by decide +kernel), List.mem_of_getElem? (i := 1060) (by decide +kernel), List.mem_of_getElem? (i := 1061) (by decide +kernel)⟩
theorem lw_p43 : lw_okq (⟨"BeforeItDripsModel", "allAt", "(I)I"⟩, 45) := ⟨⟨by decide +kernel, by decide +kernel⟩, List.mem_of_getElem? (i := 847) (by decide +kernel), List.mem_of_getElem? (i := 1064) (by decide +kernel), List.mem_of_getElem? (i := 1065) (by decide +kernel)⟩
theorem lw_p44 : lw_okq (⟨"BeforeItDripsModel", "turnTo", "(I)I"⟩, 45) := ⟨⟨by decide +kernel, by decide +kernel⟩, List.mem_of_getElem? (i := 847) (by decide +kernel), List.mem_of_getElem? (i := 1068) (by decide +kernel), List.mem_of_getElem? (i := 1069) (by decide +kernel)⟩
theorem lw_p45 : lw_okq (⟨"BeforeItDripsModel", "lowestAct", "()I"⟩, 45) := ⟨⟨by decide +kernel, by decide +kernel⟩, List.mem_of_getElem? (i := 847) (by decide +kernel), List.mem_of_getElem? (i := 1072) (by decide +kernel), List.mem_of_getElem? (i := 1073) (by decide +kernel)⟩
theorem lw_p46 : lw_okq (⟨"BeforeItDripsModel", "isMore", "(II)Z"⟩, 45) := ⟨⟨by decide +kernel, by decide +kernel⟩, List.mem_of_getElem? (i := 847) (by decide +kernel), List.mem_of_getElem? (i := 1076) (by decide +kernel), List.mem_of_getElem? (i := 1077) (by decide +kernel)⟩
theorem lw_p47 : lw_okq (⟨"BeforeItDripsModel", "findPlan", "(I)V"⟩, 45) := ⟨⟨by decide +kernel, by decide +kernel⟩, List.mem_of_getElem? (i := 847) (by decide +kernel), List.mem_of_getElem? (i := 1080) (by decide +kernel), List.mem_of_getElem? (i := 1081) (by decide +kernel)⟩
def lw_privs_3 : List (MethodName × Nat) := [(⟨"BeforeItDrips", "wrongTold", "(II)I"⟩, 9), (⟨"BeforeItDrips", "wentAt", "(III)Z"⟩, 9), (⟨"BeforeItDrips", "lickInTruth", "(II)V"⟩, 9), (⟨"BeforeItDrips", "shelvesInUse", "()I"⟩, 9), (⟨"BeforeItDripsModel", "refuse", "(I)I"⟩, 45), (⟨"BeforeItDripsModel", "noRow", "(I)I"⟩, 45), (⟨"BeforeItDripsModel", "isLicker", "(I)Z"⟩, 45), (⟨"BeforeItDripsModel", "wouldBe", "(I)I"⟩, 45), (⟨"BeforeItDripsModel", "roundAct", "()I"⟩, 45), (⟨"BeforeItDripsModel", "wettestAct", "()I"⟩, 45), (⟨"BeforeItDripsModel", "wettestSide", "()I"⟩, 45), (⟨"BeforeItDripsModel", "allAt", "(I)I"⟩, 45), (⟨"BeforeItDripsModel", "turnTo", "(I)I"⟩, 45), (⟨"BeforeItDripsModel", "lowestAct", "()I"⟩, 45), (⟨"BeforeItDripsModel", "isMore", "(II)Z"⟩, 45), (⟨"BeforeItDripsModel", "findPlan", "(I)V"⟩, 45)]
theorem lw_r3 : ∀ q ∈ lw_privs_3, lw_okq q := List.forall_mem_cons.mpr ⟨lw_p32, List.forall_mem_cons.mpr ⟨lw_p33, List.forall_mem_cons.mpr ⟨lw_p34, List.forall_mem_cons.mpr ⟨lw_p35, List.forall_mem_cons.mpr ⟨lw_p36, List.forall_mem_cons.mpr ⟨lw_p37, List.forall_mem_cons.mpr ⟨lw_p38, List.forall_mem_cons.mpr ⟨lw_p39, List.forall_mem_cons.mpr ⟨lw_p40, List.forall_mem_cons.mpr ⟨lw_p41, List.forall_mem_cons.mpr ⟨lw_p42, List.forall_mem_cons.mpr ⟨lw_p43, List.forall_mem_cons.mpr ⟨lw_p44, List.forall_mem_cons.mpr ⟨lw_p45, List.forall_mem_cons.mpr ⟨lw_p46, List.forall_mem_cons.mpr ⟨lw_p47, fun _ h => absurd h List.not_mem_nil⟩⟩⟩⟩⟩⟩⟩⟩⟩⟩⟩⟩⟩⟩⟩⟩
theorem lw_p48 : lw_okq (⟨"BeforeItDripsModel", "canAct", "(J)Z"⟩, 45) := ⟨⟨by decide +kernel, by decide +kernel⟩, List.mem_of_getElem? (i := 847) (by decide +kernel), List.mem_of_getElem? (i := 1085) (by decide +kernel), List.mem_of_getElem? (i := 1086) (by decide +kernel)⟩
theorem lw_p49 : lw_okq (⟨"BeforeItDripsModel", "takeFrom", "(LBeforeItDripsModel;)V"⟩, 45) := ⟨⟨by decide +kernel, by decide +kernel⟩, List.mem_of_getElem? (i := 847) (by decide +kernel), List.mem_of_getElem? (i := 1091) (by decide +kernel), List.mem_of_getElem? (i := 1092) (by decide +kernel)⟩
theorem lw_p50 : lw_okq (⟨"BeforeItDripsModel", "goes", "(IZ)V"⟩, 45) := ⟨⟨by decide +kernel, by decide +kernel⟩, List.mem_of_getElem? (i := 847) (by decide +kernel), List.mem_of_getElem? (i := 1098) (by decide +kernel), List.mem_of_getElem? (i := 1099) (by decide +kernel)⟩
theorem lw_p51 : lw_okq (⟨"BeforeItDripsModel", "lickedOf", "(I)I"⟩, 45) := ⟨⟨by decide +kernel, by decide +kernel⟩, List.mem_of_getElem? (i := 847) (by decide +kernel), List.mem_of_getElem? (i := 1102) (by decide +kernel), List.mem_of_getElem? (i := 1103) (by decide +kernel)⟩
theorem lw_p52 : lw_okq (⟨"BeforeItDripsModel", "melts", "(I)V"⟩, 45) := ⟨⟨by decide +kernel, by decide +kernel⟩, List.mem_of_getElem? (i := 847) (by decide +kernel), List.mem_of_getElem? (i := 1106) (by decide +kernel), List.mem_of_getElem? (i := 1107) (by decide +kernel)⟩
theorem lw_p53 : lw_okq (⟨"BeforeItDripsModel", "isSunny", "(I)Z"⟩, 45) := ⟨⟨by decide +kernel, by decide +kernel⟩, List.mem_of_getElem? (i := 847) (by decide +kernel), List.mem_of_getElem? (i := 1110) (by decide +kernel), List.mem_of_getElem? (i := 1111) (by decide +kernel)⟩
theorem lw_p54 : lw_okq (⟨"BeforeItDripsModel", "runsDown", "(I)V"⟩, 45) := ⟨⟨by decide +kernel, by decide +kernel⟩, List.mem_of_getElem? (i := 847) (by decide +kernel), List.mem_of_getElem? (i := 1114) (by decide +kernel), List.mem_of_getElem? (i := 1115) (by decide +kernel)⟩
theorem lw_p55 : lw_okq (⟨"BeforeItDripsModel", "becomeSides", "(I)V"⟩, 45) := ⟨⟨by decide +kernel, by decide +kernel⟩, List.mem_of_getElem? (i := 847) (by decide +kernel), List.mem_of_getElem? (i := 1123) (by decide +kernel), List.mem_of_getElem? (i := 1124) (by decide +kernel)⟩
theorem lw_p56 : lw_okq (⟨"BeforeItDripsModel", "addScoop", "(II)V"⟩, 45) := ⟨⟨by decide +kernel, by decide +kernel⟩, List.mem_of_getElem? (i := 847) (by decide +kernel), List.mem_of_getElem? (i := 1133) (by decide +kernel), List.mem_of_getElem? (i := 1134) (by decide +kernel)⟩
theorem lw_p57 : lw_okq (⟨"BeforeItDripsModel", "mayAsk", "(II)Z"⟩, 45) := ⟨⟨by decide +kernel, by decide +kernel⟩, List.mem_of_getElem? (i := 847) (by decide +kernel), List.mem_of_getElem? (i := 1145) (by decide +kernel), List.mem_of_getElem? (i := 1146) (by decide +kernel)⟩
theorem lw_p58 : lw_okq (⟨"BeforeItDripsModel", "isSide", "(I)Z"⟩, 45) := ⟨⟨by decide +kernel, by decide +kernel⟩, List.mem_of_getElem? (i := 847) (by decide +kernel), List.mem_of_getElem? (i := 1151) (by decide +kernel), List.mem_of_getElem? (i := 1152) (by decide +kernel)⟩
theorem lw_p59 : lw_okq (⟨"BeforeItDripsModel", "addLicker", "(II)V"⟩, 45) := ⟨⟨by decide +kernel, by decide +kernel⟩, List.mem_of_getElem? (i := 847) (by decide +kernel), List.mem_of_getElem? (i := 1159) (by decide +kernel), List.mem_of_getElem? (i := 1160) (by decide +kernel)⟩
theorem lw_p60 : lw_okq (⟨"BeforeItDripsModel", "fresh", "()LBeforeItDripsModel;"⟩, 45) := ⟨⟨by decide +kernel, by decide +kernel⟩, List.mem_of_getElem? (i := 847) (by decide +kernel), List.mem_of_getElem? (i := 1176) (by decide +kernel), List.mem_of_getElem? (i := 1177) (by decide +kernel)⟩
theorem lw_p61 : lw_okq (⟨"BeforeItDripsModel", "readAll", "()Z"⟩, 45) := ⟨⟨by decide +kernel, by decide +kernel⟩, List.mem_of_getElem? (i := 847) (by decide +kernel), List.mem_of_getElem? (i := 1180) (by decide +kernel), List.mem_of_getElem? (i := 1181) (by decide +kernel)⟩
theorem lw_p62 : lw_okq (⟨"BeforeItDripsModel", "look", "()V"⟩, 45) := ⟨⟨by decide +kernel, by decide +kernel⟩, List.mem_of_getElem? (i := 847) (by decide +kernel), List.mem_of_getElem? (i := 1184) (by decide +kernel), List.mem_of_getElem? (i := 1185) (by decide +kernel)⟩
theorem lw_p63 : lw_okq (⟨"BeforeItDripsModel", "statement", "()Z"⟩, 45) := ⟨⟨by decide +kernel, by decide +kernel⟩, List.mem_of_getElem? (i := 847) (by decide +kernel), List.mem_of_getElem? (i := 1194) (by decide +kernel), List.mem_of_getElem? (i := 1195) (by decide +kernel)⟩
def lw_privs_4 : List (MethodName × Nat) := [(⟨"BeforeItDripsModel", "canAct", "(J)Z"⟩, 45), (⟨"BeforeItDripsModel", "takeFrom", "(LBeforeItDripsModel;)V"⟩, 45), (⟨"BeforeItDripsModel", "goes", "(IZ)V"⟩, 45), (⟨"BeforeItDripsModel", "lickedOf", "(I)I"⟩, 45), (⟨"BeforeItDripsModel", "melts", "(I)V"⟩, 45), (⟨"BeforeItDripsModel", "isSunny", "(I)Z"⟩, 45), (⟨"BeforeItDripsModel", "runsDown", "(I)V"⟩, 45), (⟨"BeforeItDripsModel", "becomeSides", "(I)V"⟩, 45), (⟨"BeforeItDripsModel", "addScoop", "(II)V"⟩, 45), (⟨"BeforeItDripsModel", "mayAsk", "(II)Z"⟩, 45), (⟨"BeforeItDripsModel", "isSide", "(I)Z"⟩, 45), (⟨"BeforeItDripsModel", "addLicker", "(II)V"⟩, 45), (⟨"BeforeItDripsModel", "fresh", "()LBeforeItDripsModel;"⟩, 45), (⟨"BeforeItDripsModel", "readAll", "()Z"⟩, 45), (⟨"BeforeItDripsModel", "look", "()V"⟩, 45), (⟨"BeforeItDripsModel", "statement", "()Z"⟩, 45)]
theorem lw_r4 : ∀ q ∈ lw_privs_4, lw_okq q := List.forall_mem_cons.mpr ⟨lw_p48, List.forall_mem_cons.mpr ⟨lw_p49, List.forall_mem_cons.mpr ⟨lw_p50, List.forall_mem_cons.mpr ⟨lw_p51, List.forall_mem_cons.mpr ⟨lw_p52, List.forall_mem_cons.mpr ⟨lw_p53, List.forall_mem_cons.mpr ⟨lw_p54, List.forall_mem_cons.mpr ⟨lw_p55, List.forall_mem_cons.mpr ⟨lw_p56, List.forall_mem_cons.mpr ⟨lw_p57, List.forall_mem_cons.mpr ⟨lw_p58, List.forall_mem_cons.mpr ⟨lw_p59, List.forall_mem_cons.mpr ⟨lw_p60, List.forall_mem_cons.mpr ⟨lw_p61, List.forall_mem_cons.mpr ⟨lw_p62, List.forall_mem_cons.mpr ⟨lw_p63, fun _ h => absurd h List.not_mem_nil⟩⟩⟩⟩⟩⟩⟩⟩⟩⟩⟩⟩⟩⟩⟩⟩
theorem lw_p64 : lw_okq (⟨"BeforeItDripsModel", "isWord", "(Ljava/lang/String;)Z"⟩, 45) := ⟨⟨by decide +kernel, by decide +kernel⟩, List.mem_of_getElem? (i := 847) (by decide +kernel), List.mem_of_getElem? (i := 1199) (by decide +kernel), List.mem_of_getElem? (i := 1200) (by decide +kernel)⟩
theorem lw_p65 : lw_okq (⟨"BeforeItDripsModel", "tells", "(II)Z"⟩, 45) := ⟨⟨by decide +kernel, by decide +kernel⟩, List.mem_of_getElem? (i := 847) (by decide +kernel), List.mem_of_getElem? (i := 1205) (by decide +kernel), List.mem_of_getElem? (i := 1206) (by decide +kernel)⟩
theorem lw_p66 : lw_okq (⟨"BeforeItDripsModel", "number", "(III)Z"⟩, 45) := ⟨⟨by decide +kernel, by decide +kernel⟩, List.mem_of_getElem? (i := 847) (by decide +kernel), List.mem_of_getElem? (i := 1209) (by decide +kernel), List.mem_of_getElem? (i := 1210) (by decide +kernel)⟩
theorem lw_p67 : lw_okq (⟨"BeforeItDripsModel", "wrong", "()Z"⟩, 45) := ⟨⟨by decide +kernel, by decide +kernel⟩, List.mem_of_getElem? (i := 847) (by decide +kernel), List.mem_of_getElem? (i := 1213) (by decide +kernel), List.mem_of_getElem? (i := 1214) (by decide +kernel)⟩
theorem lw_p68 : lw_okq (⟨"BeforeItDripsModel", "sunTold", "()Z"⟩, 45) := ⟨⟨by decide +kernel, by decide +kernel⟩, List.mem_of_getElem? (i := 847) (by decide +kernel), List.mem_of_getElem? (i := 1219) (by decide +kernel), List.mem_of_getElem? (i := 1220) (by decide +kernel)⟩
theorem lw_p69 : lw_okq (⟨"BeforeItDripsModel", "lickTold", "()Z"⟩, 45) := ⟨⟨by decide +kernel, by decide +kernel⟩, List.mem_of_getElem? (i := 847) (by decide +kernel), List.mem_of_getElem? (i := 1227) (by decide +kernel), List.mem_of_getElem? (i := 1228) (by decide +kernel)⟩
theorem lw_p70 : lw_okq (⟨"BeforeItDripsModel", "isScoop", "(I)Z"⟩, 45) := ⟨⟨by decide +kernel, by decide +kernel⟩, List.mem_of_getElem? (i := 847) (by decide +kernel), List.mem_of_getElem? (i := 1235) (by decide +kernel), List.mem_of_getElem? (i := 1236) (by decide +kernel)⟩
theorem lw_p71 : lw_okq (⟨"BeforeItDripsModel", "wetOf", "(I)I"⟩, 45) := ⟨⟨by decide +kernel, by decide +kernel⟩, List.mem_of_getElem? (i := 847) (by decide +kernel), List.mem_of_getElem? (i := 1240) (by decide +kernel), List.mem_of_getElem? (i := 1241) (by decide +kernel)⟩
theorem lw_p72 : lw_okq (⟨"BeforeItDripsModel", "withoutNow", "(I)I"⟩, 45) := ⟨⟨by decide +kernel, by decide +kernel⟩, List.mem_of_getElem? (i := 847) (by decide +kernel), List.mem_of_getElem? (i := 1270) (by decide +kernel), List.mem_of_getElem? (i := 1271) (by decide +kernel)⟩
theorem lw_p73 : lw_okq (⟨"BeforeItDripsModel", "stands", "(I)V"⟩, 45) := ⟨⟨by decide +kernel, by decide +kernel⟩, List.mem_of_getElem? (i := 847) (by decide +kernel), List.mem_of_getElem? (i := 1274) (by decide +kernel), List.mem_of_getElem? (i := 1275) (by decide +kernel)⟩
theorem lw_p74 : lw_okq (⟨"BeforeItDripsModel", "lickedBy", "(II)V"⟩, 45) := ⟨⟨by decide +kernel, by decide +kernel⟩, List.mem_of_getElem? (i := 847) (by decide +kernel), List.mem_of_getElem? (i := 1286) (by decide +kernel), List.mem_of_getElem? (i := 1287) (by decide +kernel)⟩
theorem lw_p75 : lw_okq (⟨"BeforeItDripsModel", "toldOf", "(LBeforeItDripsModel;I)I"⟩, 45) := ⟨⟨by decide +kernel, by decide +kernel⟩, List.mem_of_getElem? (i := 847) (by decide +kernel), List.mem_of_getElem? (i := 1290) (by decide +kernel), List.mem_of_getElem? (i := 1291) (by decide +kernel)⟩
theorem lw_p76 : lw_okq (⟨"BeforeItDripsModel", "leftNow", "()I"⟩, 45) := ⟨⟨by decide +kernel, by decide +kernel⟩, List.mem_of_getElem? (i := 847) (by decide +kernel), List.mem_of_getElem? (i := 1294) (by decide +kernel), List.mem_of_getElem? (i := 1295) (by decide +kernel)⟩
theorem lw_p77 : lw_okq (⟨"BeforeItDripsModel", "seekOrder", "(III)V"⟩, 45) := ⟨⟨by decide +kernel, by decide +kernel⟩, List.mem_of_getElem? (i := 847) (by decide +kernel), List.mem_of_getElem? (i := 1326) (by decide +kernel), List.mem_of_getElem? (i := 1327) (by decide +kernel)⟩
theorem lw_p78 : lw_okq (⟨"BeforeItDripsModel", "putFrom", "(LBeforeItDripsModel;II)V"⟩, 45) := ⟨⟨by decide +kernel, by decide +kernel⟩, List.mem_of_getElem? (i := 847) (by decide +kernel), List.mem_of_getElem? (i := 1330) (by decide +kernel), List.mem_of_getElem? (i := 1331) (by decide +kernel)⟩
theorem lw_p79 : lw_okq (⟨"BeforeItDripsModel", "noActs", "(II)I"⟩, 45) := ⟨⟨by decide +kernel, by decide +kernel⟩, List.mem_of_getElem? (i := 847) (by decide +kernel), List.mem_of_getElem? (i := 1358) (by decide +kernel), List.mem_of_getElem? (i := 1359) (by decide +kernel)⟩
def lw_privs_5 : List (MethodName × Nat) := [(⟨"BeforeItDripsModel", "isWord", "(Ljava/lang/String;)Z"⟩, 45), (⟨"BeforeItDripsModel", "tells", "(II)Z"⟩, 45), (⟨"BeforeItDripsModel", "number", "(III)Z"⟩, 45), (⟨"BeforeItDripsModel", "wrong", "()Z"⟩, 45), (⟨"BeforeItDripsModel", "sunTold", "()Z"⟩, 45), (⟨"BeforeItDripsModel", "lickTold", "()Z"⟩, 45), (⟨"BeforeItDripsModel", "isScoop", "(I)Z"⟩, 45), (⟨"BeforeItDripsModel", "wetOf", "(I)I"⟩, 45), (⟨"BeforeItDripsModel", "withoutNow", "(I)I"⟩, 45), (⟨"BeforeItDripsModel", "stands", "(I)V"⟩, 45), (⟨"BeforeItDripsModel", "lickedBy", "(II)V"⟩, 45), (⟨"BeforeItDripsModel", "toldOf", "(LBeforeItDripsModel;I)I"⟩, 45), (⟨"BeforeItDripsModel", "leftNow", "()I"⟩, 45), (⟨"BeforeItDripsModel", "seekOrder", "(III)V"⟩, 45), (⟨"BeforeItDripsModel", "putFrom", "(LBeforeItDripsModel;II)V"⟩, 45), (⟨"BeforeItDripsModel", "noActs", "(II)I"⟩, 45)]
theorem lw_r5 : ∀ q ∈ lw_privs_5, lw_okq q := List.forall_mem_cons.mpr ⟨lw_p64, List.forall_mem_cons.mpr ⟨lw_p65, List.forall_mem_cons.mpr ⟨lw_p66, List.forall_mem_cons.mpr ⟨lw_p67, List.forall_mem_cons.mpr ⟨lw_p68, List.forall_mem_cons.mpr ⟨lw_p69, List.forall_mem_cons.mpr ⟨lw_p70, List.forall_mem_cons.mpr ⟨lw_p71, List.forall_mem_cons.mpr ⟨lw_p72, List.forall_mem_cons.mpr ⟨lw_p73, List.forall_mem_cons.mpr ⟨lw_p74, List.forall_mem_cons.mpr ⟨lw_p75, List.forall_mem_cons.mpr ⟨lw_p76, List.forall_mem_cons.mpr ⟨lw_p77, List.forall_mem_cons.mpr ⟨lw_p78, List.forall_mem_cons.mpr ⟨lw_p79, fun _ h => absurd h List.not_mem_nil⟩⟩⟩⟩⟩⟩⟩⟩⟩⟩⟩⟩⟩⟩⟩⟩
theorem lw_p80 : lw_okq (⟨"BeforeItDripsModel", "wrongIn", "([JI)I"⟩, 45) := ⟨⟨by decide +kernel, by decide +kernel⟩, List.mem_of_getElem? (i := 847) (by decide +kernel), List.mem_of_getElem? (i := 1362) (by decide +kernel), List.mem_of_getElem? (i := 1363) (by decide +kernel)⟩
theorem lw_p81 : lw_okq (⟨"BeforeItDripsModel", "licksTruly", "(II)V"⟩, 45) := ⟨⟨by decide +kernel, by decide +kernel⟩, List.mem_of_getElem? (i := 847) (by decide +kernel), List.mem_of_getElem? (i := 1391) (by decide +kernel), List.mem_of_getElem? (i := 1392) (by decide +kernel)⟩
theorem lw_p82 : lw_okq (⟨"BeforeItDripsModel", "below", "(I)I"⟩, 45) := ⟨⟨by decide +kernel, by decide +kernel⟩, List.mem_of_getElem? (i := 847) (by decide +kernel), List.mem_of_getElem? (i := 1403) (by decide +kernel), List.mem_of_getElem? (i := 1404) (by decide +kernel)⟩
def lw_privs_6 : List (MethodName × Nat) := [(⟨"BeforeItDripsModel", "wrongIn", "([JI)I"⟩, 45), (⟨"BeforeItDripsModel", "licksTruly", "(II)V"⟩, 45), (⟨"BeforeItDripsModel", "below", "(I)I"⟩, 45)]
theorem lw_r6 : ∀ q ∈ lw_privs_6, lw_okq q := List.forall_mem_cons.mpr ⟨lw_p80, List.forall_mem_cons.mpr ⟨lw_p81, List.forall_mem_cons.mpr ⟨lw_p82, fun _ h => absurd h List.not_mem_nil⟩⟩⟩
def lw_privs : List (MethodName × Nat) := lw_privs_1 ++ (lw_privs_2 ++ (lw_privs_3 ++ (lw_privs_4 ++ (lw_privs_5 ++ (lw_privs_6)))))
def lw_tbl : List Cond := k2_sels lw_privs ++ tables_1
theorem lw_privs_ok : ∀ q ∈ lw_privs, lw_okq q := by
  show ∀ q ∈ lw_privs_1 ++ (lw_privs_2 ++ (lw_privs_3 ++ (lw_privs_4 ++ (lw_privs_5 ++ (lw_privs_6))))), lw_okq q
  exact List.forall_mem_append.mpr ⟨lw_r1, List.forall_mem_append.mpr ⟨lw_r2, List.forall_mem_append.mpr ⟨lw_r3, List.forall_mem_append.mpr ⟨lw_r4, List.forall_mem_append.mpr ⟨lw_r5, lw_r6⟩⟩⟩⟩⟩
-- ===== end of PART A; then your names; then what follows =====
def RX0 : String := "BeforeItDrips$Cone"
def TX0 : u_T := fun k => match k with
  | 0 => ("BeforeItDrips$Cone", "sideCount", "I", false)
  | 1 => ("BeforeItDrips$Cone", "turn", "I", false)
  | 2 => ("BeforeItDrips$Cone", "sunBits", "I", false)
  | 3 => ("BeforeItDrips$Cone", "hold", "I", false)
  | 4 => ("BeforeItDrips$Cone", "brim", "I", false)
  | 5 => ("BeforeItDrips$Cone", "lickSize", "I", false)
  | 6 => ("BeforeItDrips$Cone", "give", "I", false)
  | 7 => ("BeforeItDrips$Cone", "seconds", "I", false)
  | 8 => ("BeforeItDrips$Cone", "lost", "I", false)
  | 9 => ("BeforeItDrips$Cone", "eaten", "I", false)
  | 10 => ("BeforeItDrips$Cone", "soak", "I", false)
  | 11 => ("BeforeItDrips$Cone", "scoopCount", "I", false)
  | 12 => ("BeforeItDrips$Cone", "sorts", "[I", true)
  | 13 => ("BeforeItDrips$Cone", "amounts", "[I", true)
  | 14 => ("BeforeItDrips$Cone", "wets", "[I", true)
  | _ => ("BeforeItDrips$Cone", "rims", "[I", true)
def tyX0 : Nat → FieldType := fun k => match k with
  | 0 => .int
  | 1 => .int
  | 2 => .int
  | 3 => .int
  | 4 => .int
  | 5 => .int
  | 6 => .int
  | 7 => .int
  | 8 => .int
  | 9 => .int
  | 10 => .int
  | 11 => .int
  | 12 => .array .int
  | 13 => .array .int
  | 14 => .array .int
  | _ => .array .int
abbrev wsX00 : List Cond := u_ws RX0 TX0 16
theorem nmX0 : ∀ a, a < 16 → ∀ b, b < 16 → a ≠ b → (TX0 a).2.1 ≠ (TX0 b).2.1 := by decide +kernel
theorem tyX0_ok : ∀ k, k < 16 → parseFieldDescriptor (TX0 k).2.2.1 = some (tyX0 k) := by decide +kernel
abbrev cX0_init : ByteArray := prog_2_method_1_code
def yX0_init : MethodName := ⟨RX0, "<init>", "()V"⟩
abbrev cX0_takeFrom : ByteArray := prog_2_method_2_code
def yX0_takeFrom : MethodName := ⟨RX0, "takeFrom", "(LBeforeItDrips$Cone;)V"⟩
abbrev cX0_hasOrder : ByteArray := prog_2_method_3_code
def yX0_hasOrder : MethodName := ⟨RX0, "hasOrder", "(I)Z"⟩
abbrev cX0_scoopInOrder : ByteArray := prog_2_method_4_code
def yX0_scoopInOrder : MethodName := ⟨RX0, "scoopInOrder", "(II)I"⟩
abbrev cX0_takeInOrder : ByteArray := prog_2_method_5_code
def yX0_takeInOrder : MethodName := ⟨RX0, "takeInOrder", "(LBeforeItDrips$Cone;I)V"⟩
abbrev cX0_changePlaces : ByteArray := prog_2_method_6_code
def yX0_changePlaces : MethodName := ⟨RX0, "changePlaces", "(II)V"⟩
abbrev cX0_becomeSides : ByteArray := prog_2_method_7_code
def yX0_becomeSides : MethodName := ⟨RX0, "becomeSides", "(I)V"⟩
abbrev cX0_becomeEmpty : ByteArray := prog_2_method_8_code
def yX0_becomeEmpty : MethodName := ⟨RX0, "becomeEmpty", "()V"⟩
abbrev cX0_putOnTop : ByteArray := prog_2_method_9_code
def yX0_putOnTop : MethodName := ⟨RX0, "putOnTop", "(II)V"⟩
abbrev cX0_allPlaces : ByteArray := prog_2_method_10_code
def yX0_allPlaces : MethodName := ⟨RX0, "allPlaces", "()I"⟩
abbrev cX0_wetAt : ByteArray := prog_2_method_11_code
def yX0_wetAt : MethodName := ⟨RX0, "wetAt", "(II)I"⟩
abbrev cX0_isSunny : ByteArray := prog_2_method_12_code
def yX0_isSunny : MethodName := ⟨RX0, "isSunny", "(I)Z"⟩
abbrev cX0_allWetOf : ByteArray := prog_2_method_13_code
def yX0_allWetOf : MethodName := ⟨RX0, "allWetOf", "(I)I"⟩
abbrev cX0_left : ByteArray := prog_2_method_14_code
def yX0_left : MethodName := ⟨RX0, "left", "()I"⟩
abbrev cX0_hasMeltedScoop : ByteArray := prog_2_method_15_code
def yX0_hasMeltedScoop : MethodName := ⟨RX0, "hasMeltedScoop", "()Z"⟩
abbrev cX0_wettestSide : ByteArray := prog_2_method_16_code
def yX0_wettestSide : MethodName := ⟨RX0, "wettestSide", "()I"⟩
abbrev cX0_lowestWetSide : ByteArray := prog_2_method_17_code
def yX0_lowestWetSide : MethodName := ⟨RX0, "lowestWetSide", "()I"⟩
abbrev cX0_isWetLower : ByteArray := prog_2_method_18_code
def yX0_isWetLower : MethodName := ⟨RX0, "isWetLower", "(II)Z"⟩
abbrev cX0_canDo : ByteArray := prog_2_method_19_code
def yX0_canDo : MethodName := ⟨RX0, "canDo", "(I)Z"⟩
abbrev cX0_isIdle : ByteArray := prog_2_method_20_code
def yX0_isIdle : MethodName := ⟨RX0, "isIdle", "(I)Z"⟩
abbrev cX0_pass : ByteArray := prog_2_method_21_code
def yX0_pass : MethodName := ⟨RX0, "pass", "(I)V"⟩
abbrev cX0_eat : ByteArray := prog_2_method_22_code
def yX0_eat : MethodName := ⟨RX0, "eat", "(I)V"⟩
abbrev cX0_melt : ByteArray := prog_2_method_23_code
def yX0_melt : MethodName := ⟨RX0, "melt", "()V"⟩
abbrev cX0_runDown : ByteArray := prog_2_method_24_code
def yX0_runDown : MethodName := ⟨RX0, "runDown", "()V"⟩
abbrev cX0_fallOff : ByteArray := prog_2_method_25_code
def yX0_fallOff : MethodName := ⟨RX0, "fallOff", "()V"⟩
def RX1 : String := "BeforeItDrips$Kerb"
def TX1 : u_T := fun k => match k with
  | 0 => ("BeforeItDrips$Kerb", "bytes", "[I", true)
  | 1 => ("BeforeItDrips$Kerb", "size", "I", false)
  | 2 => ("BeforeItDrips$Kerb", "token", "I", false)
  | 3 => ("BeforeItDrips$Kerb", "start", "I", false)
  | 4 => ("BeforeItDrips$Kerb", "end", "I", false)
  | _ => ("BeforeItDrips$Kerb", "value", "I", false)
def tyX1 : Nat → FieldType := fun k => match k with
  | 0 => .array .int
  | 1 => .int
  | 2 => .int
  | 3 => .int
  | 4 => .int
  | _ => .int
abbrev wsX10 : List Cond := u_ws RX1 TX1 6
theorem nmX1 : ∀ a, a < 6 → ∀ b, b < 6 → a ≠ b → (TX1 a).2.1 ≠ (TX1 b).2.1 := by decide +kernel
theorem tyX1_ok : ∀ k, k < 6 → parseFieldDescriptor (TX1 k).2.2.1 = some (tyX1 k) := by decide +kernel
abbrev cX1_init : ByteArray := prog_3_method_1_code
def yX1_init : MethodName := ⟨RX1, "<init>", "()V"⟩
abbrev cX1_append : ByteArray := prog_3_method_2_code
def yX1_append : MethodName := ⟨RX1, "append", "(I)V"⟩
abbrev cX1_readInto : ByteArray := prog_3_method_3_code
def yX1_readInto : MethodName := ⟨RX1, "readInto", "(LBeforeItDrips$World;)I"⟩
abbrev cX1_readStatement : ByteArray := prog_3_method_4_code
def yX1_readStatement : MethodName := ⟨RX1, "readStatement", "(LBeforeItDrips$World;)Z"⟩
abbrev cX1_readSides : ByteArray := prog_3_method_5_code
def yX1_readSides : MethodName := ⟨RX1, "readSides", "(LBeforeItDrips$Cone;)Z"⟩
abbrev cX1_readScoop : ByteArray := prog_3_method_6_code
def yX1_readScoop : MethodName := ⟨RX1, "readScoop", "(LBeforeItDrips$Cone;)Z"⟩
abbrev cX1_readSun : ByteArray := prog_3_method_7_code
def yX1_readSun : MethodName := ⟨RX1, "readSun", "(LBeforeItDrips$Cone;)Z"⟩
abbrev cX1_readHold : ByteArray := prog_3_method_8_code
def yX1_readHold : MethodName := ⟨RX1, "readHold", "(LBeforeItDrips$Cone;)Z"⟩
abbrev cX1_readBrim : ByteArray := prog_3_method_9_code
def yX1_readBrim : MethodName := ⟨RX1, "readBrim", "(LBeforeItDrips$Cone;)Z"⟩
abbrev cX1_readLicker : ByteArray := prog_3_method_10_code
def yX1_readLicker : MethodName := ⟨RX1, "readLicker", "(LBeforeItDrips$World;)Z"⟩
abbrev cX1_readLick : ByteArray := prog_3_method_11_code
def yX1_readLick : MethodName := ⟨RX1, "readLick", "(LBeforeItDrips$World;)Z"⟩
abbrev cX1_isNumber : ByteArray := prog_3_method_12_code
def yX1_isNumber : MethodName := ⟨RX1, "isNumber", "(II)Z"⟩
abbrev cX1_isWord : ByteArray := prog_3_method_13_code
def yX1_isWord : MethodName := ⟨RX1, "isWord", "(Ljava/lang/String;)Z"⟩
abbrev cX1_advance : ByteArray := prog_3_method_14_code
def yX1_advance : MethodName := ⟨RX1, "advance", "()V"⟩
abbrev cX1_readNumber : ByteArray := prog_3_method_15_code
def yX1_readNumber : MethodName := ⟨RX1, "readNumber", "()V"⟩
abbrev cX1_byteAt : ByteArray := prog_3_method_16_code
def yX1_byteAt : MethodName := ⟨RX1, "byteAt", "(I)I"⟩
abbrev cX1_isLetter : ByteArray := prog_3_method_17_code
def yX1_isLetter : MethodName := ⟨RX1, "isLetter", "(I)Z"⟩
abbrev cX1_isDigit : ByteArray := prog_3_method_18_code
def yX1_isDigit : MethodName := ⟨RX1, "isDigit", "(I)Z"⟩
def RX2 : String := "BeforeItDrips$Mind"
def TX2 : u_T := fun k => match k with
  | 0 => ("BeforeItDrips$Mind", "levels", "[LBeforeItDrips$Cone;", true)
  | 1 => ("BeforeItDrips$Mind", "tried", "[I", true)
  | 2 => ("BeforeItDrips$Mind", "found", "[I", true)
  | 3 => ("BeforeItDrips$Mind", "foundLost", "I", false)
  | _ => ("BeforeItDrips$Mind", "foundEaten", "I", false)
def tyX2 : Nat → FieldType := fun k => match k with
  | 0 => .array (.object "BeforeItDrips$Cone")
  | 1 => .array .int
  | 2 => .array .int
  | 3 => .int
  | _ => .int
abbrev wsX20 : List Cond := u_ws RX2 TX2 5
theorem nmX2 : ∀ a, a < 5 → ∀ b, b < 5 → a ≠ b → (TX2 a).2.1 ≠ (TX2 b).2.1 := by decide +kernel
theorem tyX2_ok : ∀ k, k < 5 → parseFieldDescriptor (TX2 k).2.2.1 = some (tyX2 k) := by decide +kernel
abbrev cX2_init : ByteArray := prog_4_method_1_code
def yX2_init : MethodName := ⟨RX2, "<init>", "()V"⟩
abbrev cX2_choose : ByteArray := prog_4_method_2_code
def yX2_choose : MethodName := ⟨RX2, "choose", "(LBeforeItDrips$Cone;II)I"⟩
abbrev cX2_goRound : ByteArray := prog_4_method_3_code
def yX2_goRound : MethodName := ⟨RX2, "goRound", "(LBeforeItDrips$Cone;)I"⟩
abbrev cX2_lickLowest : ByteArray := prog_4_method_4_code
def yX2_lickLowest : MethodName := ⟨RX2, "lickLowest", "(LBeforeItDrips$Cone;)I"⟩
abbrev cX2_lickWettest : ByteArray := prog_4_method_5_code
def yX2_lickWettest : MethodName := ⟨RX2, "lickWettest", "(LBeforeItDrips$Cone;)I"⟩
abbrev cX2_turnTo : ByteArray := prog_4_method_6_code
def yX2_turnTo : MethodName := ⟨RX2, "turnTo", "(LBeforeItDrips$Cone;I)I"⟩
abbrev cX2_findPlan : ByteArray := prog_4_method_7_code
def yX2_findPlan : MethodName := ⟨RX2, "findPlan", "(LBeforeItDrips$Cone;I)V"⟩
abbrev cX2_deepen : ByteArray := prog_4_method_8_code
def yX2_deepen : MethodName := ⟨RX2, "deepen", "(LBeforeItDrips$Mind;II)V"⟩
abbrev cX2_weigh : ByteArray := prog_4_method_9_code
def yX2_weigh : MethodName := ⟨RX2, "weigh", "(LBeforeItDrips$Cone;)V"⟩
def RX3 : String := "BeforeItDrips$Shelf"
def TX3 : u_T := fun k => match k with
  | 0 => ("BeforeItDrips$Shelf", "content", "I", false)
  | 1 => ("BeforeItDrips$Shelf", "size", "I", false)
  | _ => ("BeforeItDrips$Shelf", "elements", "[J", true)
def tyX3 : Nat → FieldType := fun k => match k with
  | 0 => .int
  | 1 => .int
  | _ => .array .long
abbrev wsX30 : List Cond := u_ws RX3 TX3 3
theorem nmX3 : ∀ a, a < 3 → ∀ b, b < 3 → a ≠ b → (TX3 a).2.1 ≠ (TX3 b).2.1 := by decide +kernel
theorem tyX3_ok : ∀ k, k < 3 → parseFieldDescriptor (TX3 k).2.2.1 = some (tyX3 k) := by decide +kernel
abbrev cX3_init : ByteArray := prog_5_method_1_code
def yX3_init : MethodName := ⟨RX3, "<init>", "()V"⟩
abbrev cX3_clearAway : ByteArray := prog_5_method_2_code
def yX3_clearAway : MethodName := ⟨RX3, "clearAway", "()V"⟩
abbrev cX3_holdRow : ByteArray := prog_5_method_3_code
def yX3_holdRow : MethodName := ⟨RX3, "holdRow", "(II)V"⟩
abbrev cX3_holdLicker : ByteArray := prog_5_method_4_code
def yX3_holdLicker : MethodName := ⟨RX3, "holdLicker", "(I)V"⟩
abbrev cX3_holdsRow : ByteArray := prog_5_method_5_code
def yX3_holdsRow : MethodName := ⟨RX3, "holdsRow", "()Z"⟩
abbrev cX3_lickerNumber : ByteArray := prog_5_method_6_code
def yX3_lickerNumber : MethodName := ⟨RX3, "lickerNumber", "()I"⟩
abbrev cX3_put : ByteArray := prog_5_method_7_code
def yX3_put : MethodName := ⟨RX3, "put", "(IJ)V"⟩
def RX4 : String := "BeforeItDrips$World"
def TX4 : u_T := fun k => match k with
  | 0 => ("BeforeItDrips$World", "cone", "LBeforeItDrips$Cone;", true)
  | 1 => ("BeforeItDrips$World", "kinds", "[I", true)
  | 2 => ("BeforeItDrips$World", "as", "[I", true)
  | 3 => ("BeforeItDrips$World", "lickerCount", "I", false)
  | 4 => ("BeforeItDrips$World", "drops", "[I", true)
  | 5 => ("BeforeItDrips$World", "dropCount", "I", false)
  | _ => ("BeforeItDrips$World", "seed", "I", false)
def tyX4 : Nat → FieldType := fun k => match k with
  | 0 => .object "BeforeItDrips$Cone"
  | 1 => .array .int
  | 2 => .array .int
  | 3 => .int
  | 4 => .array .int
  | 5 => .int
  | _ => .int
abbrev wsX40 : List Cond := u_ws RX4 TX4 7
theorem nmX4 : ∀ a, a < 7 → ∀ b, b < 7 → a ≠ b → (TX4 a).2.1 ≠ (TX4 b).2.1 := by decide +kernel
theorem tyX4_ok : ∀ k, k < 7 → parseFieldDescriptor (TX4 k).2.2.1 = some (tyX4 k) := by decide +kernel
abbrev cX4_init : ByteArray := prog_6_method_1_code
def yX4_init : MethodName := ⟨RX4, "<init>", "()V"⟩
abbrev cX4_takeFrom : ByteArray := prog_6_method_2_code
def yX4_takeFrom : MethodName := ⟨RX4, "takeFrom", "(LBeforeItDrips$World;)V"⟩
abbrev cX4_addLicker : ByteArray := prog_6_method_3_code
def yX4_addLicker : MethodName := ⟨RX4, "addLicker", "(II)V"⟩
abbrev cX4_actInTruth : ByteArray := prog_6_method_4_code
def yX4_actInTruth : MethodName := ⟨RX4, "actInTruth", "(I)V"⟩
abbrev cX4_drawByte : ByteArray := prog_6_method_5_code
def yX4_drawByte : MethodName := ⟨RX4, "drawByte", "()I"⟩
def RX5 : String := "BeforeItDrips"
def TX5 : u_T := fun k => match k with
  | 0 => ("BeforeItDrips", "truth", "LBeforeItDrips$World;", true)
  | 1 => ("BeforeItDrips", "kept", "LBeforeItDrips$World;", true)
  | 2 => ("BeforeItDrips", "aheadOfKerb", "LBeforeItDrips$World;", true)
  | 3 => ("BeforeItDrips", "thought", "LBeforeItDrips$Cone;", true)
  | 4 => ("BeforeItDrips", "mind", "LBeforeItDrips$Mind;", true)
  | 5 => ("BeforeItDrips", "shelves", "[LBeforeItDrips$Shelf;", true)
  | 6 => ("BeforeItDrips", "tape", "LBeforeItDrips$Kerb;", true)
  | 7 => ("BeforeItDrips", "refusals", "[I", true)
  | _ => ("BeforeItDrips", "somethingIsKept", "Z", false)
def tyX5 : Nat → FieldType := fun k => match k with
  | 0 => .object "BeforeItDrips$World"
  | 1 => .object "BeforeItDrips$World"
  | 2 => .object "BeforeItDrips$World"
  | 3 => .object "BeforeItDrips$Cone"
  | 4 => .object "BeforeItDrips$Mind"
  | 5 => .array (.object "BeforeItDrips$Shelf")
  | 6 => .object "BeforeItDrips$Kerb"
  | 7 => .array .int
  | _ => .boolean
abbrev wsX50 : List Cond := u_ws RX5 TX5 9
theorem nmX5 : ∀ a, a < 9 → ∀ b, b < 9 → a ≠ b → (TX5 a).2.1 ≠ (TX5 b).2.1 := by decide +kernel
theorem tyX5_ok : ∀ k, k < 9 → parseFieldDescriptor (TX5 k).2.2.1 = some (tyX5 k) := by decide +kernel
abbrev cX5_init : ByteArray := prog_1_method_1_code
def yX5_init : MethodName := ⟨RX5, "<init>", "()V"⟩
abbrev cX5_row : ByteArray := prog_1_method_2_code
def yX5_row : MethodName := ⟨RX5, "row", "(III)I"⟩
abbrev cX5_set : ByteArray := prog_1_method_3_code
def yX5_set : MethodName := ⟨RX5, "set", "(IIJ)I"⟩
abbrev cX5_copy : ByteArray := prog_1_method_4_code
def yX5_copy : MethodName := ⟨RX5, "copy", "(IIIII)I"⟩
abbrev cX5_element : ByteArray := prog_1_method_5_code
def yX5_element : MethodName := ⟨RX5, "element", "(II)J"⟩
abbrev cX5_holds : ByteArray := prog_1_method_6_code
def yX5_holds : MethodName := ⟨RX5, "holds", "(I)I"⟩
abbrev cX5_show : ByteArray := prog_1_method_7_code
def yX5_show : MethodName := ⟨RX5, "show", "(II)I"⟩
abbrev cX5_says : ByteArray := prog_1_method_8_code
def yX5_says : MethodName := ⟨RX5, "says", "(II)I"⟩
abbrev cX5_sides : ByteArray := prog_1_method_9_code
def yX5_sides : MethodName := ⟨RX5, "sides", "(I)I"⟩
abbrev cX5_scoop : ByteArray := prog_1_method_10_code
def yX5_scoop : MethodName := ⟨RX5, "scoop", "(II)I"⟩
abbrev cX5_sun : ByteArray := prog_1_method_11_code
def yX5_sun : MethodName := ⟨RX5, "sun", "(I)I"⟩
abbrev cX5_ask : ByteArray := prog_1_method_12_code
def yX5_ask : MethodName := ⟨RX5, "ask", "(II)I"⟩
abbrev cX5_licker : ByteArray := prog_1_method_13_code
def yX5_licker : MethodName := ⟨RX5, "licker", "(II)I"⟩
abbrev cX5_feed : ByteArray := prog_1_method_14_code
def yX5_feed : MethodName := ⟨RX5, "feed", "(I)I"⟩
abbrev cX5_wipe : ByteArray := prog_1_method_15_code
def yX5_wipe : MethodName := ⟨RX5, "wipe", "()I"⟩
abbrev cX5_kerb : ByteArray := prog_1_method_16_code
def yX5_kerb : MethodName := ⟨RX5, "kerb", "()I"⟩
abbrev cX5_scoopOf : ByteArray := prog_1_method_17_code
def yX5_scoopOf : MethodName := ⟨RX5, "scoopOf", "(II)I"⟩
abbrev cX5_wet : ByteArray := prog_1_method_18_code
def yX5_wet : MethodName := ⟨RX5, "wet", "(II)I"⟩
abbrev cX5_lickerOf : ByteArray := prog_1_method_19_code
def yX5_lickerOf : MethodName := ⟨RX5, "lickerOf", "(II)I"⟩
abbrev cX5_sunny : ByteArray := prog_1_method_20_code
def yX5_sunny : MethodName := ⟨RX5, "sunny", "(I)I"⟩
abbrev cX5_without : ByteArray := prog_1_method_21_code
def yX5_without : MethodName := ⟨RX5, "without", "(I)I"⟩
abbrev cX5_spare : ByteArray := prog_1_method_22_code
def yX5_spare : MethodName := ⟨RX5, "spare", "()I"⟩
abbrev cX5_run : ByteArray := prog_1_method_23_code
def yX5_run : MethodName := ⟨RX5, "run", "(III)I"⟩
abbrev cX5_would : ByteArray := prog_1_method_24_code
def yX5_would : MethodName := ⟨RX5, "would", "(I)I"⟩
abbrev cX5_plan : ByteArray := prog_1_method_25_code
def yX5_plan : MethodName := ⟨RX5, "plan", "(II)I"⟩
abbrev cX5_best : ByteArray := prog_1_method_26_code
def yX5_best : MethodName := ⟨RX5, "best", "(I)I"⟩
abbrev cX5_until : ByteArray := prog_1_method_27_code
def yX5_until : MethodName := ⟨RX5, "until", "(I)I"⟩
abbrev cX5_spareBy : ByteArray := prog_1_method_28_code
def yX5_spareBy : MethodName := ⟨RX5, "spareBy", "(I)I"⟩
abbrev cX5_both : ByteArray := prog_1_method_29_code
def yX5_both : MethodName := ⟨RX5, "both", "(III)I"⟩
abbrev cX5_holdFor : ByteArray := prog_1_method_30_code
def yX5_holdFor : MethodName := ⟨RX5, "holdFor", "(I)I"⟩
abbrev cX5_largest : ByteArray := prog_1_method_31_code
def yX5_largest : MethodName := ⟨RX5, "largest", "(II)I"⟩
abbrev cX5_order : ByteArray := prog_1_method_32_code
def yX5_order : MethodName := ⟨RX5, "order", "(II)I"⟩
abbrev cX5_shade : ByteArray := prog_1_method_33_code
def yX5_shade : MethodName := ⟨RX5, "shade", "(I)I"⟩
abbrev cX5_gives : ByteArray := prog_1_method_34_code
def yX5_gives : MethodName := ⟨RX5, "gives", "()I"⟩
abbrev cX5_wettest : ByteArray := prog_1_method_35_code
def yX5_wettest : MethodName := ⟨RX5, "wettest", "()I"⟩
abbrev cX5_largestScoop : ByteArray := prog_1_method_36_code
def yX5_largestScoop : MethodName := ⟨RX5, "largestScoop", "()I"⟩
abbrev cX5_melted : ByteArray := prog_1_method_37_code
def yX5_melted : MethodName := ⟨RX5, "melted", "()I"⟩
abbrev cX5_judge : ByteArray := prog_1_method_38_code
def yX5_judge : MethodName := ⟨RX5, "judge", "(II)I"⟩
abbrev cX5_behind : ByteArray := prog_1_method_39_code
def yX5_behind : MethodName := ⟨RX5, "behind", "(III)I"⟩
abbrev cX5_done : ByteArray := prog_1_method_40_code
def yX5_done : MethodName := ⟨RX5, "done", "(II)I"⟩
abbrev cX5_drop : ByteArray := prog_1_method_41_code
def yX5_drop : MethodName := ⟨RX5, "drop", "(I)I"⟩
abbrev cX5_went : ByteArray := prog_1_method_42_code
def yX5_went : MethodName := ⟨RX5, "went", "(II)I"⟩
abbrev cX5_act : ByteArray := prog_1_method_43_code
def yX5_act : MethodName := ⟨RX5, "act", "(I)I"⟩
abbrev cX5_licks : ByteArray := prog_1_method_44_code
def yX5_licks : MethodName := ⟨RX5, "licks", "(II)I"⟩
abbrev cX5_swap : ByteArray := prog_1_method_45_code
def yX5_swap : MethodName := ⟨RX5, "swap", "(II)I"⟩
abbrev cX5_day : ByteArray := prog_1_method_46_code
def yX5_day : MethodName := ⟨RX5, "day", "(II)I"⟩
abbrev cX5_anew : ByteArray := prog_1_method_47_code
def yX5_anew : MethodName := ⟨RX5, "anew", "()I"⟩
abbrev cX5_seed : ByteArray := prog_1_method_48_code
def yX5_seed : MethodName := ⟨RX5, "seed", "(I)I"⟩
abbrev cX5_image : ByteArray := prog_1_method_49_code
def yX5_image : MethodName := ⟨RX5, "image", "()I"⟩
abbrev cX5_back : ByteArray := prog_1_method_50_code
def yX5_back : MethodName := ⟨RX5, "back", "()I"⟩
abbrev cX5_status : ByteArray := prog_1_method_51_code
def yX5_status : MethodName := ⟨RX5, "status", "(I)I"⟩
abbrev cX5_refuse : ByteArray := prog_1_method_52_code
def yX5_refuse : MethodName := ⟨RX5, "refuse", "(I)I"⟩
abbrev cX5_isWithin : ByteArray := prog_1_method_53_code
def yX5_isWithin : MethodName := ⟨RX5, "isWithin", "(III)Z"⟩
abbrev cX5_isShelf : ByteArray := prog_1_method_54_code
def yX5_isShelf : MethodName := ⟨RX5, "isShelf", "(I)Z"⟩
abbrev cX5_isSpan : ByteArray := prog_1_method_55_code
def yX5_isSpan : MethodName := ⟨RX5, "isSpan", "(I)Z"⟩
abbrev cX5_isScoop : ByteArray := prog_1_method_56_code
def yX5_isScoop : MethodName := ⟨RX5, "isScoop", "(I)Z"⟩
abbrev cX5_isSide : ByteArray := prog_1_method_57_code
def yX5_isSide : MethodName := ⟨RX5, "isSide", "(I)Z"⟩
abbrev cX5_isLicker : ByteArray := prog_1_method_58_code
def yX5_isLicker : MethodName := ⟨RX5, "isLicker", "(I)Z"⟩
abbrev cX5_canAsk : ByteArray := prog_1_method_59_code
def yX5_canAsk : MethodName := ⟨RX5, "canAsk", "(II)Z"⟩
abbrev cX5_isUnder : ByteArray := prog_1_method_60_code
def yX5_isUnder : MethodName := ⟨RX5, "isUnder", "(II)Z"⟩
abbrev cX5_rowFault : ByteArray := prog_1_method_61_code
def yX5_rowFault : MethodName := ⟨RX5, "rowFault", "(I)I"⟩
abbrev cX5_copyFault : ByteArray := prog_1_method_62_code
def yX5_copyFault : MethodName := ⟨RX5, "copyFault", "(II)I"⟩
abbrev cX5_toldFault : ByteArray := prog_1_method_63_code
def yX5_toldFault : MethodName := ⟨RX5, "toldFault", "(IIII)I"⟩
abbrev cX5_wrongTold : ByteArray := prog_1_method_64_code
def yX5_wrongTold : MethodName := ⟨RX5, "wrongTold", "(II)I"⟩
abbrev cX5_wentAt : ByteArray := prog_1_method_65_code
def yX5_wentAt : MethodName := ⟨RX5, "wentAt", "(III)Z"⟩
abbrev cX5_shelvesInUse : ByteArray := prog_1_method_66_code
def yX5_shelvesInUse : MethodName := ⟨RX5, "shelvesInUse", "()I"⟩
abbrev cX5_wouldIn : ByteArray := prog_1_method_67_code
def yX5_wouldIn : MethodName := ⟨RX5, "wouldIn", "(LBeforeItDrips$Cone;I)I"⟩
abbrev cX5_lostIdling : ByteArray := prog_1_method_68_code
def yX5_lostIdling : MethodName := ⟨RX5, "lostIdling", "(I)I"⟩
abbrev cX5_lostUnder : ByteArray := prog_1_method_69_code
def yX5_lostUnder : MethodName := ⟨RX5, "lostUnder", "(III)I"⟩
abbrev cX5_thinkRun : ByteArray := prog_1_method_70_code
def yX5_thinkRun : MethodName := ⟨RX5, "thinkRun", "(II)V"⟩
abbrev cX5_thoughtResult : ByteArray := prog_1_method_71_code
def yX5_thoughtResult : MethodName := ⟨RX5, "thoughtResult", "(I)I"⟩
abbrev cX5_lickInTruth : ByteArray := prog_1_method_72_code
def yX5_lickInTruth : MethodName := ⟨RX5, "lickInTruth", "(II)V"⟩
def RX6 : String := "BeforeItDripsModel"
def TX6 : u_T := fun k => match k with
  | 0 => ("BeforeItDripsModel", "shelf", "[I", true)
  | 1 => ("BeforeItDripsModel", "rowSort", "[I", true)
  | 2 => ("BeforeItDripsModel", "rowSize", "[I", true)
  | 3 => ("BeforeItDripsModel", "rows", "[[J", true)
  | 4 => ("BeforeItDripsModel", "moved", "[J", true)
  | 5 => ("BeforeItDripsModel", "shown", "[I", true)
  | 6 => ("BeforeItDripsModel", "tape", "[I", true)
  | 7 => ("BeforeItDripsModel", "tapeSize", "I", false)
  | 8 => ("BeforeItDripsModel", "refused", "[I", true)
  | 9 => ("BeforeItDripsModel", "sides", "I", false)
  | 10 => ("BeforeItDripsModel", "scoops", "I", false)
  | 11 => ("BeforeItDripsModel", "sort", "[I", true)
  | 12 => ("BeforeItDripsModel", "amount", "[I", true)
  | 13 => ("BeforeItDripsModel", "wet", "[[I", true)
  | 14 => ("BeforeItDripsModel", "rim", "[I", true)
  | 15 => ("BeforeItDripsModel", "turn", "I", false)
  | 16 => ("BeforeItDripsModel", "sun", "I", false)
  | 17 => ("BeforeItDripsModel", "asked", "[I", true)
  | 18 => ("BeforeItDripsModel", "seconds", "I", false)
  | 19 => ("BeforeItDripsModel", "lost", "I", false)
  | 20 => ("BeforeItDripsModel", "eaten", "I", false)
  | 21 => ("BeforeItDripsModel", "soak", "I", false)
  | 22 => ("BeforeItDripsModel", "lickers", "I", false)
  | 23 => ("BeforeItDripsModel", "kind", "[I", true)
  | 24 => ("BeforeItDripsModel", "by", "[I", true)
  | 25 => ("BeforeItDripsModel", "drops", "I", false)
  | 26 => ("BeforeItDripsModel", "dropAt", "[I", true)
  | 27 => ("BeforeItDripsModel", "seed", "I", false)
  | 28 => ("BeforeItDripsModel", "kept", "LBeforeItDripsModel;", false)
  | 29 => ("BeforeItDripsModel", "tried", "LBeforeItDripsModel;", false)
  | 30 => ("BeforeItDripsModel", "ahead", "[LBeforeItDripsModel;", true)
  | 31 => ("BeforeItDripsModel", "at", "I", false)
  | 32 => ("BeforeItDripsModel", "token", "I", false)
  | 33 => ("BeforeItDripsModel", "from", "I", false)
  | 34 => ("BeforeItDripsModel", "figures", "I", false)
  | 35 => ("BeforeItDripsModel", "fault", "I", false)
  | 36 => ("BeforeItDripsModel", "told", "[I", true)
  | 37 => ("BeforeItDripsModel", "statements", "I", false)
  | 38 => ("BeforeItDripsModel", "planFirst", "I", false)
  | 39 => ("BeforeItDripsModel", "planLost", "I", false)
  | 40 => ("BeforeItDripsModel", "planEaten", "I", false)
  | 41 => ("BeforeItDripsModel", "planRow", "[I", true)
  | 42 => ("BeforeItDripsModel", "orderNow", "[I", true)
  | 43 => ("BeforeItDripsModel", "orderBest", "[I", true)
  | _ => ("BeforeItDripsModel", "orderLost", "I", false)
def tyX6 : Nat → FieldType := fun k => match k with
  | 0 => .array .int
  | 1 => .array .int
  | 2 => .array .int
  | 3 => .array (.array .long)
  | 4 => .array .long
  | 5 => .array .int
  | 6 => .array .int
  | 7 => .int
  | 8 => .array .int
  | 9 => .int
  | 10 => .int
  | 11 => .array .int
  | 12 => .array .int
  | 13 => .array (.array .int)
  | 14 => .array .int
  | 15 => .int
  | 16 => .int
  | 17 => .array .int
  | 18 => .int
  | 19 => .int
  | 20 => .int
  | 21 => .int
  | 22 => .int
  | 23 => .array .int
  | 24 => .array .int
  | 25 => .int
  | 26 => .array .int
  | 27 => .int
  | 28 => .object "BeforeItDripsModel"
  | 29 => .object "BeforeItDripsModel"
  | 30 => .array (.object "BeforeItDripsModel")
  | 31 => .int
  | 32 => .int
  | 33 => .int
  | 34 => .int
  | 35 => .int
  | 36 => .array .int
  | 37 => .int
  | 38 => .int
  | 39 => .int
  | 40 => .int
  | 41 => .array .int
  | 42 => .array .int
  | 43 => .array .int
  | _ => .int
abbrev wsX60 : List Cond := u_ws RX6 TX6 45
theorem nmX6 : ∀ a, a < 45 → ∀ b, b < 45 → a ≠ b → (TX6 a).2.1 ≠ (TX6 b).2.1 := by decide +kernel
theorem tyX6_ok : ∀ k, k < 45 → parseFieldDescriptor (TX6 k).2.2.1 = some (tyX6 k) := by decide +kernel
abbrev cX6_init : ByteArray := prog_8_method_1_code
def yX6_init : MethodName := ⟨RX6, "<init>", "()V"⟩
abbrev cX6_refuse : ByteArray := prog_8_method_2_code
def yX6_refuse : MethodName := ⟨RX6, "refuse", "(I)I"⟩
abbrev cX6_in : ByteArray := prog_8_method_3_code
def yX6_in : MethodName := ⟨RX6, "in", "(JJJ)Z"⟩
abbrev cX6_isLicker : ByteArray := prog_8_method_4_code
def yX6_isLicker : MethodName := ⟨RX6, "isLicker", "(I)Z"⟩
abbrev cX6_isScoop : ByteArray := prog_8_method_5_code
def yX6_isScoop : MethodName := ⟨RX6, "isScoop", "(I)Z"⟩
abbrev cX6_isSide : ByteArray := prog_8_method_6_code
def yX6_isSide : MethodName := ⟨RX6, "isSide", "(I)Z"⟩
abbrev cX6_row : ByteArray := prog_8_method_7_code
def yX6_row : MethodName := ⟨RX6, "row", "(III)I"⟩
abbrev cX6_fit : ByteArray := prog_8_method_8_code
def yX6_fit : MethodName := ⟨RX6, "fit", "(IJ)J"⟩
abbrev cX6_noRow : ByteArray := prog_8_method_9_code
def yX6_noRow : MethodName := ⟨RX6, "noRow", "(I)I"⟩
abbrev cX6_set : ByteArray := prog_8_method_10_code
def yX6_set : MethodName := ⟨RX6, "set", "(IIJ)I"⟩
abbrev cX6_copy : ByteArray := prog_8_method_11_code
def yX6_copy : MethodName := ⟨RX6, "copy", "(IIIII)I"⟩
abbrev cX6_element : ByteArray := prog_8_method_12_code
def yX6_element : MethodName := ⟨RX6, "element", "(II)J"⟩
abbrev cX6_holds : ByteArray := prog_8_method_13_code
def yX6_holds : MethodName := ⟨RX6, "holds", "(I)I"⟩
abbrev cX6_show : ByteArray := prog_8_method_14_code
def yX6_show : MethodName := ⟨RX6, "show", "(II)I"⟩
abbrev cX6_isUnder : ByteArray := prog_8_method_15_code
def yX6_isUnder : MethodName := ⟨RX6, "isUnder", "(II)Z"⟩
abbrev cX6_says : ByteArray := prog_8_method_16_code
def yX6_says : MethodName := ⟨RX6, "says", "(II)I"⟩
abbrev cX6_becomeSides : ByteArray := prog_8_method_17_code
def yX6_becomeSides : MethodName := ⟨RX6, "becomeSides", "(I)V"⟩
abbrev cX6_sides : ByteArray := prog_8_method_18_code
def yX6_sides : MethodName := ⟨RX6, "sides", "(I)I"⟩
abbrev cX6_addScoop : ByteArray := prog_8_method_19_code
def yX6_addScoop : MethodName := ⟨RX6, "addScoop", "(II)V"⟩
abbrev cX6_scoop : ByteArray := prog_8_method_20_code
def yX6_scoop : MethodName := ⟨RX6, "scoop", "(II)I"⟩
abbrev cX6_sun : ByteArray := prog_8_method_21_code
def yX6_sun : MethodName := ⟨RX6, "sun", "(I)I"⟩
abbrev cX6_mayAsk : ByteArray := prog_8_method_22_code
def yX6_mayAsk : MethodName := ⟨RX6, "mayAsk", "(II)Z"⟩
abbrev cX6_ask : ByteArray := prog_8_method_23_code
def yX6_ask : MethodName := ⟨RX6, "ask", "(II)I"⟩
abbrev cX6_addLicker : ByteArray := prog_8_method_24_code
def yX6_addLicker : MethodName := ⟨RX6, "addLicker", "(II)V"⟩
abbrev cX6_licker : ByteArray := prog_8_method_25_code
def yX6_licker : MethodName := ⟨RX6, "licker", "(II)I"⟩
abbrev cX6_feed : ByteArray := prog_8_method_26_code
def yX6_feed : MethodName := ⟨RX6, "feed", "(I)I"⟩
abbrev cX6_wipe : ByteArray := prog_8_method_27_code
def yX6_wipe : MethodName := ⟨RX6, "wipe", "()I"⟩
abbrev cX6_isLetter : ByteArray := prog_8_method_28_code
def yX6_isLetter : MethodName := ⟨RX6, "isLetter", "(I)Z"⟩
abbrev cX6_isDigit : ByteArray := prog_8_method_29_code
def yX6_isDigit : MethodName := ⟨RX6, "isDigit", "(I)Z"⟩
abbrev cX6_look : ByteArray := prog_8_method_30_code
def yX6_look : MethodName := ⟨RX6, "look", "()V"⟩
abbrev cX6_wrong : ByteArray := prog_8_method_31_code
def yX6_wrong : MethodName := ⟨RX6, "wrong", "()Z"⟩
abbrev cX6_isWord : ByteArray := prog_8_method_32_code
def yX6_isWord : MethodName := ⟨RX6, "isWord", "(Ljava/lang/String;)Z"⟩
abbrev cX6_number : ByteArray := prog_8_method_33_code
def yX6_number : MethodName := ⟨RX6, "number", "(III)Z"⟩
abbrev cX6_tells : ByteArray := prog_8_method_34_code
def yX6_tells : MethodName := ⟨RX6, "tells", "(II)Z"⟩
abbrev cX6_sunTold : ByteArray := prog_8_method_35_code
def yX6_sunTold : MethodName := ⟨RX6, "sunTold", "()Z"⟩
abbrev cX6_lickTold : ByteArray := prog_8_method_36_code
def yX6_lickTold : MethodName := ⟨RX6, "lickTold", "()Z"⟩
abbrev cX6_statement : ByteArray := prog_8_method_37_code
def yX6_statement : MethodName := ⟨RX6, "statement", "()Z"⟩
abbrev cX6_readAll : ByteArray := prog_8_method_38_code
def yX6_readAll : MethodName := ⟨RX6, "readAll", "()Z"⟩
abbrev cX6_kerb : ByteArray := prog_8_method_39_code
def yX6_kerb : MethodName := ⟨RX6, "kerb", "()I"⟩
abbrev cX6_wetOf : ByteArray := prog_8_method_40_code
def yX6_wetOf : MethodName := ⟨RX6, "wetOf", "(I)I"⟩
abbrev cX6_scoopOf : ByteArray := prog_8_method_41_code
def yX6_scoopOf : MethodName := ⟨RX6, "scoopOf", "(II)I"⟩
abbrev cX6_wet : ByteArray := prog_8_method_42_code
def yX6_wet : MethodName := ⟨RX6, "wet", "(II)I"⟩
abbrev cX6_lickerOf : ByteArray := prog_8_method_43_code
def yX6_lickerOf : MethodName := ⟨RX6, "lickerOf", "(II)I"⟩
abbrev cX6_isSunny : ByteArray := prog_8_method_44_code
def yX6_isSunny : MethodName := ⟨RX6, "isSunny", "(I)Z"⟩
abbrev cX6_sunny : ByteArray := prog_8_method_45_code
def yX6_sunny : MethodName := ⟨RX6, "sunny", "(I)I"⟩
abbrev cX6_canAct : ByteArray := prog_8_method_46_code
def yX6_canAct : MethodName := ⟨RX6, "canAct", "(J)Z"⟩
abbrev cX6_lickedOf : ByteArray := prog_8_method_47_code
def yX6_lickedOf : MethodName := ⟨RX6, "lickedOf", "(I)I"⟩
abbrev cX6_melts : ByteArray := prog_8_method_48_code
def yX6_melts : MethodName := ⟨RX6, "melts", "(I)V"⟩
abbrev cX6_runsDown : ByteArray := prog_8_method_49_code
def yX6_runsDown : MethodName := ⟨RX6, "runsDown", "(I)V"⟩
abbrev cX6_goes : ByteArray := prog_8_method_50_code
def yX6_goes : MethodName := ⟨RX6, "goes", "(IZ)V"⟩
abbrev cX6_leftNow : ByteArray := prog_8_method_51_code
def yX6_leftNow : MethodName := ⟨RX6, "leftNow", "()I"⟩
abbrev cX6_roundAct : ByteArray := prog_8_method_52_code
def yX6_roundAct : MethodName := ⟨RX6, "roundAct", "()I"⟩
abbrev cX6_allAt : ByteArray := prog_8_method_53_code
def yX6_allAt : MethodName := ⟨RX6, "allAt", "(I)I"⟩
abbrev cX6_wettestSide : ByteArray := prog_8_method_54_code
def yX6_wettestSide : MethodName := ⟨RX6, "wettestSide", "()I"⟩
abbrev cX6_turnTo : ByteArray := prog_8_method_55_code
def yX6_turnTo : MethodName := ⟨RX6, "turnTo", "(I)I"⟩
abbrev cX6_wettestAct : ByteArray := prog_8_method_56_code
def yX6_wettestAct : MethodName := ⟨RX6, "wettestAct", "()I"⟩
abbrev cX6_isMore : ByteArray := prog_8_method_57_code
def yX6_isMore : MethodName := ⟨RX6, "isMore", "(II)Z"⟩
abbrev cX6_lowestAct : ByteArray := prog_8_method_58_code
def yX6_lowestAct : MethodName := ⟨RX6, "lowestAct", "()I"⟩
abbrev cX6_findPlan : ByteArray := prog_8_method_59_code
def yX6_findPlan : MethodName := ⟨RX6, "findPlan", "(I)V"⟩
abbrev cX6_wouldBe : ByteArray := prog_8_method_60_code
def yX6_wouldBe : MethodName := ⟨RX6, "wouldBe", "(I)I"⟩
abbrev cX6_would : ByteArray := prog_8_method_61_code
def yX6_would : MethodName := ⟨RX6, "would", "(I)I"⟩
abbrev cX6_plan : ByteArray := prog_8_method_62_code
def yX6_plan : MethodName := ⟨RX6, "plan", "(II)I"⟩
abbrev cX6_fresh : ByteArray := prog_8_method_63_code
def yX6_fresh : MethodName := ⟨RX6, "fresh", "()LBeforeItDripsModel;"⟩
abbrev cX6_stands : ByteArray := prog_8_method_64_code
def yX6_stands : MethodName := ⟨RX6, "stands", "(I)V"⟩
abbrev cX6_lickedBy : ByteArray := prog_8_method_65_code
def yX6_lickedBy : MethodName := ⟨RX6, "lickedBy", "(II)V"⟩
abbrev cX6_withoutNow : ByteArray := prog_8_method_66_code
def yX6_withoutNow : MethodName := ⟨RX6, "withoutNow", "(I)I"⟩
abbrev cX6_without : ByteArray := prog_8_method_67_code
def yX6_without : MethodName := ⟨RX6, "without", "(I)I"⟩
abbrev cX6_spare : ByteArray := prog_8_method_68_code
def yX6_spare : MethodName := ⟨RX6, "spare", "()I"⟩
abbrev cX6_toldOf : ByteArray := prog_8_method_69_code
def yX6_toldOf : MethodName := ⟨RX6, "toldOf", "(LBeforeItDripsModel;I)I"⟩
abbrev cX6_run : ByteArray := prog_8_method_70_code
def yX6_run : MethodName := ⟨RX6, "run", "(III)I"⟩
abbrev cX6_best : ByteArray := prog_8_method_71_code
def yX6_best : MethodName := ⟨RX6, "best", "(I)I"⟩
abbrev cX6_until : ByteArray := prog_8_method_72_code
def yX6_until : MethodName := ⟨RX6, "until", "(I)I"⟩
abbrev cX6_spareBy : ByteArray := prog_8_method_73_code
def yX6_spareBy : MethodName := ⟨RX6, "spareBy", "(I)I"⟩
abbrev cX6_both : ByteArray := prog_8_method_74_code
def yX6_both : MethodName := ⟨RX6, "both", "(III)I"⟩
abbrev cX6_holdFor : ByteArray := prog_8_method_75_code
def yX6_holdFor : MethodName := ⟨RX6, "holdFor", "(I)I"⟩
abbrev cX6_largest : ByteArray := prog_8_method_76_code
def yX6_largest : MethodName := ⟨RX6, "largest", "(II)I"⟩
abbrev cX6_putFrom : ByteArray := prog_8_method_77_code
def yX6_putFrom : MethodName := ⟨RX6, "putFrom", "(LBeforeItDripsModel;II)V"⟩
abbrev cX6_seekOrder : ByteArray := prog_8_method_78_code
def yX6_seekOrder : MethodName := ⟨RX6, "seekOrder", "(III)V"⟩
abbrev cX6_order : ByteArray := prog_8_method_79_code
def yX6_order : MethodName := ⟨RX6, "order", "(II)I"⟩
abbrev cX6_shade : ByteArray := prog_8_method_80_code
def yX6_shade : MethodName := ⟨RX6, "shade", "(I)I"⟩
abbrev cX6_gives : ByteArray := prog_8_method_81_code
def yX6_gives : MethodName := ⟨RX6, "gives", "()I"⟩
abbrev cX6_wettest : ByteArray := prog_8_method_82_code
def yX6_wettest : MethodName := ⟨RX6, "wettest", "()I"⟩
abbrev cX6_largestScoop : ByteArray := prog_8_method_83_code
def yX6_largestScoop : MethodName := ⟨RX6, "largestScoop", "()I"⟩
abbrev cX6_melted : ByteArray := prog_8_method_84_code
def yX6_melted : MethodName := ⟨RX6, "melted", "()I"⟩
abbrev cX6_noActs : ByteArray := prog_8_method_85_code
def yX6_noActs : MethodName := ⟨RX6, "noActs", "(II)I"⟩
abbrev cX6_wrongIn : ByteArray := prog_8_method_86_code
def yX6_wrongIn : MethodName := ⟨RX6, "wrongIn", "([JI)I"⟩
abbrev cX6_judge : ByteArray := prog_8_method_87_code
def yX6_judge : MethodName := ⟨RX6, "judge", "(II)I"⟩
abbrev cX6_behind : ByteArray := prog_8_method_88_code
def yX6_behind : MethodName := ⟨RX6, "behind", "(III)I"⟩
abbrev cX6_done : ByteArray := prog_8_method_89_code
def yX6_done : MethodName := ⟨RX6, "done", "(II)I"⟩
abbrev cX6_drop : ByteArray := prog_8_method_90_code
def yX6_drop : MethodName := ⟨RX6, "drop", "(I)I"⟩
abbrev cX6_went : ByteArray := prog_8_method_91_code
def yX6_went : MethodName := ⟨RX6, "went", "(II)I"⟩
abbrev cX6_act : ByteArray := prog_8_method_92_code
def yX6_act : MethodName := ⟨RX6, "act", "(I)I"⟩
abbrev cX6_licksTruly : ByteArray := prog_8_method_93_code
def yX6_licksTruly : MethodName := ⟨RX6, "licksTruly", "(II)V"⟩
abbrev cX6_licks : ByteArray := prog_8_method_94_code
def yX6_licks : MethodName := ⟨RX6, "licks", "(II)I"⟩
abbrev cX6_swap : ByteArray := prog_8_method_95_code
def yX6_swap : MethodName := ⟨RX6, "swap", "(II)I"⟩
abbrev cX6_below : ByteArray := prog_8_method_96_code
def yX6_below : MethodName := ⟨RX6, "below", "(I)I"⟩
abbrev cX6_day : ByteArray := prog_8_method_97_code
def yX6_day : MethodName := ⟨RX6, "day", "(II)I"⟩
abbrev cX6_anew : ByteArray := prog_8_method_98_code
def yX6_anew : MethodName := ⟨RX6, "anew", "()I"⟩
abbrev cX6_seed : ByteArray := prog_8_method_99_code
def yX6_seed : MethodName := ⟨RX6, "seed", "(I)I"⟩
abbrev cX6_copied : ByteArray := prog_8_method_100_code
def yX6_copied : MethodName := ⟨RX6, "copied", "([I[I)V"⟩
abbrev cX6_takeFrom : ByteArray := prog_8_method_101_code
def yX6_takeFrom : MethodName := ⟨RX6, "takeFrom", "(LBeforeItDripsModel;)V"⟩
abbrev cX6_image : ByteArray := prog_8_method_102_code
def yX6_image : MethodName := ⟨RX6, "image", "()I"⟩
abbrev cX6_back : ByteArray := prog_8_method_103_code
def yX6_back : MethodName := ⟨RX6, "back", "()I"⟩
abbrev cX6_status : ByteArray := prog_8_method_104_code
def yX6_status : MethodName := ⟨RX6, "status", "(I)I"⟩
def RJ9 : String := "java/lang/Math"
def TJ9 : u_T := fun k => match k with
  | _ => ("", "", "", false)
def tyJ9 : Nat → FieldType := fun k => match k with
  | _ => .int
abbrev wsJ90 : List Cond := u_ws RJ9 TJ9 0
theorem nmJ9 : ∀ a, a < 0 → ∀ b, b < 0 → a ≠ b → (TJ9 a).2.1 ≠ (TJ9 b).2.1 := by decide +kernel
theorem tyJ9_ok : ∀ k, k < 0 → parseFieldDescriptor (TJ9 k).2.2.1 = some (tyJ9 k) := by decide +kernel
abbrev cJ9_min_7cf53 : ByteArray := prog_9_method_69_code
def yJ9_min_7cf53 : MethodName := ⟨RJ9, "min", "(II)I"⟩
def RJ0 : String := "java/lang/String"
def TJ0 : u_T := fun k => match k with
  | _ => ("", "", "", false)
def tyJ0 : Nat → FieldType := fun k => match k with
  | _ => .int
abbrev wsJ00 : List Cond := u_ws RJ0 TJ0 0
theorem nmJ0 : ∀ a, a < 0 → ∀ b, b < 0 → a ≠ b → (TJ0 a).2.1 ≠ (TJ0 b).2.1 := by decide +kernel
theorem tyJ0_ok : ∀ k, k < 0 → parseFieldDescriptor (TJ0 k).2.2.1 = some (tyJ0 k) := by decide +kernel
abbrev cJ0_length_8abf5 : ByteArray := prog_10_method_54_code
def yJ0_length_8abf5 : MethodName := ⟨RJ0, "length", "()I"⟩
abbrev cJ0_charAt_5068e : ByteArray := prog_10_method_56_code
def yJ0_charAt_5068e : MethodName := ⟨RJ0, "charAt", "(I)C"⟩
abbrev cJ0_coder_7d493 : ByteArray := prog_10_method_152_code
def yJ0_coder_7d493 : MethodName := ⟨RJ0, "coder", "()B"⟩
abbrev cJ0_isLatin1_aae02 : ByteArray := prog_10_method_154_code
def yJ0_isLatin1_aae02 : MethodName := ⟨RJ0, "isLatin1", "()Z"⟩
abbrev cJ0_checkIndex_df160 : ByteArray := prog_10_method_155_code
def yJ0_checkIndex_df160 : MethodName := ⟨RJ0, "checkIndex", "(II)V"⟩
def RJ1 : String := "java/lang/StringLatin1"
def TJ1 : u_T := fun k => match k with
  | _ => ("", "", "", false)
def tyJ1 : Nat → FieldType := fun k => match k with
  | _ => .int
abbrev wsJ10 : List Cond := u_ws RJ1 TJ1 0
theorem nmJ1 : ∀ a, a < 0 → ∀ b, b < 0 → a ≠ b → (TJ1 a).2.1 ≠ (TJ1 b).2.1 := by decide +kernel
theorem tyJ1_ok : ∀ k, k < 0 → parseFieldDescriptor (TJ1 k).2.2.1 = some (tyJ1 k) := by decide +kernel
abbrev cJ1_charAt_3b067 : ByteArray := prog_11_method_2_code
def yJ1_charAt_3b067 : MethodName := ⟨RJ1, "charAt", "([BI)C"⟩
def RJ2 : String := "java/lang/StringUTF16"
def TJ2 : u_T := fun k => match k with
  | _ => ("", "", "", false)
def tyJ2 : Nat → FieldType := fun k => match k with
  | _ => .int
abbrev wsJ20 : List Cond := u_ws RJ2 TJ2 0
theorem nmJ2 : ∀ a, a < 0 → ∀ b, b < 0 → a ≠ b → (TJ2 a).2.1 ≠ (TJ2 b).2.1 := by decide +kernel
theorem tyJ2_ok : ∀ k, k < 0 → parseFieldDescriptor (TJ2 k).2.2.1 = some (tyJ2 k) := by decide +kernel
abbrev cJ2_getChar_3b067 : ByteArray := prog_12_method_5_code
def yJ2_getChar_3b067 : MethodName := ⟨RJ2, "getChar", "([BI)C"⟩
abbrev cJ2_length_9d52b : ByteArray := prog_12_method_6_code
def yJ2_length_9d52b : MethodName := ⟨RJ2, "length", "([B)I"⟩
abbrev cJ2_charAt_3b067 : ByteArray := prog_12_method_83_code
def yJ2_charAt_3b067 : MethodName := ⟨RJ2, "charAt", "([BI)C"⟩
abbrev cJ2_checkIndex_2214a : ByteArray := prog_12_method_91_code
def yJ2_checkIndex_2214a : MethodName := ⟨RJ2, "checkIndex", "(I[B)V"⟩
def RJ10 : String := "java/lang/System"
def TJ10 : u_T := fun k => match k with
  | _ => ("", "", "", false)
def tyJ10 : Nat → FieldType := fun k => match k with
  | _ => .int
abbrev wsJ100 : List Cond := u_ws RJ10 TJ10 0
theorem nmJ10 : ∀ a, a < 0 → ∀ b, b < 0 → a ≠ b → (TJ10 a).2.1 ≠ (TJ10 b).2.1 := by decide +kernel
theorem tyJ10_ok : ∀ k, k < 0 → parseFieldDescriptor (TJ10 k).2.2.1 = some (tyJ10 k) := by decide +kernel
def RJ3 : String := "jdk/internal/util/Preconditions"
def TJ3 : u_T := fun k => match k with
  | _ => ("", "", "", false)
def tyJ3 : Nat → FieldType := fun k => match k with
  | _ => .int
abbrev wsJ30 : List Cond := u_ws RJ3 TJ3 0
theorem nmJ3 : ∀ a, a < 0 → ∀ b, b < 0 → a ≠ b → (TJ3 a).2.1 ≠ (TJ3 b).2.1 := by decide +kernel
theorem tyJ3_ok : ∀ k, k < 0 → parseFieldDescriptor (TJ3 k).2.2.1 = some (tyJ3 k) := by decide +kernel
abbrev cJ3_checkIndex_8e157 : ByteArray := prog_14_method_11_code
def yJ3_checkIndex_8e157 : MethodName := ⟨RJ3, "checkIndex", "(IILjava/util/function/BiFunction;)I"⟩
def RL : String := "BeforeItDripsLaw"
abbrev cL_law : ByteArray := code
def yL_law : MethodName := ⟨RL, "law", "([I)Z"⟩
abbrev vwCl : List vw_C := [(RX0, TX0, 16), (RX1, TX1, 6), (RX2, TX2, 5), (RX3, TX3, 3), (RX4, TX4, 7), (RX5, TX5, 9), (RX6, TX6, 45)]
end
section
/-! THE JUDGEMENT Ev: the machine's W, packaged: a method's run over a heap told by five planes (size, shapes, references, ints, longs), at real addresses. -/
def TT : List Cond := lw_tbl.filter goodWord
theorem TT_in {w : Cond} (h : w ∈ lw_tbl) (g : goodWord w = true) : w ∈ TT := List.mem_filter.mpr ⟨h, g⟩
theorem TT_at {w : Cond} (i : Nat) (h : lw_tbl[i]? = some w) (g : goodWord w = true) : w ∈ TT := TT_in (List.mem_of_getElem? h) g
theorem TT_tbl {w : Cond} (h : w ∈ TT) : w ∈ lw_tbl ∧ goodWord w = true := List.mem_filter.mp h
/-- a method: whose, its name, code, locals, what it returns -/
abbrev MI : Type := String × MethodName × ByteArray × Nat × Option FieldType
abbrev moM (M : MI) : String := M.1
abbrev myM (M : MI) : MethodName := M.2.1
abbrev mbM (M : MI) : ByteArray := M.2.2.1
abbrev mlM (M : MI) : Nat := M.2.2.2.1
abbrev mrM (M : MI) : Option FieldType := M.2.2.2.2
def wsM (M : MI) : List Cond := Cond.code (myM M) (mbM M) (mlM M) (mrM M) :: TT
theorem wsM_good {M N : MI} (h : Cond.code (myM N) (mbM N) (mlM N) (mrM N) ∈ TT) : GoodIn (wsM M) (wsM N) := by
  intro w hw
  rcases List.mem_cons.mp hw with rfl | hw
  · exact ⟨List.mem_cons_of_mem _ h, good_of_word (TT_tbl h).2⟩
  · exact ⟨List.mem_cons_of_mem _ hw, good_of_word (TT_tbl hw).2⟩
/-- the heap: its size, shapes (kind, length), references, ints, longs -/
abbrev PH : Type := Nat × (Nat → Option (Nat × Nat)) × (Nat → Nat → Value) × (Nat → Nat → Int32) × (Nat → Nat → Int64)
/-- classes' and slots' numbers; array classes; the heap at the law's entry; what lies there -/
abbrev GG : Type := va_G × (Nat → ClassId) × Heap × (Nat → Nat) × (Nat → Nat)
def atyG : Nat → FieldType := fun k => match k with
  | 0 => .int
  | 1 => .long
  | 2 => .object RX3
  | 3 => .object RX0
  | 4 => .object RX6
  | 5 => .array .int
  | _ => .array .long
def tysG (G : GG) : List (ClassId × FieldType) := (List.range 7).map (fun k => (G.2.1 k, atyG k))
theorem tysG_at (G : GG) {k : Nat} (hk : k < 7) : (tysG G)[k]? = some (G.2.1 k, atyG k) := by
  simp [tysG, hk]
def ftyG (ci k : Nat) : FieldType := match ci with
  | 0 => tyX0 k
  | 1 => tyX1 k
  | 2 => tyX2 k
  | 3 => tyX3 k
  | 4 => tyX4 k
  | 5 => tyX5 k
  | _ => tyX6 k
def TXG (ci : Nat) : u_T := match ci with
  | 0 => TX0
  | 1 => TX1
  | 2 => TX2
  | 3 => TX3
  | 4 => TX4
  | 5 => TX5
  | _ => TX6
def RXG (ci : Nat) : String := match ci with
  | 0 => RX0
  | 1 => RX1
  | 2 => RX2
  | 3 => RX3
  | 4 => RX4
  | 5 => RX5
  | _ => RX6
def nFG (ci : Nat) : Nat := match ci with
  | 0 => 16
  | 1 => 6
  | 2 => 5
  | 3 => 3
  | 4 => 7
  | 5 => 9
  | _ => 45
theorem vwCl_at {ci : Nat} (h : ci < 7) : vwCl[ci]? = some (RXG ci, TXG ci, nFG ci) := by
  rcases (show ci = 0 ∨ ci = 1 ∨ ci = 2 ∨ ci = 3 ∨ ci = 4 ∨ ci = 5 ∨ ci = 6 by omega) with rfl | rfl | rfl | rfl | rfl | rfl | rfl <;> rfl
def isRf (t : FieldType) : Bool := match t with
  | .object _ => true
  | .array _ => true
  | _ => false
def fvalG (h : PH) (ci q k : Nat) : Value := if isRf (ftyG ci k) = true then h.2.2.1 q k else .int (h.2.2.2.1 q k)
def cellG (G : GG) (h : PH) (q : Nat) (kn : Nat × Nat) (H : Heap) : Prop :=
  if kn.1 < 7 then t_OB q (G.1.1 kn.1) (nFG kn.1) (G.1.2 kn.1) H (fun j => fvalG h kn.1 q j)
  else if kn.1 = 10 then H[q]? = some (arrV (G.2.1 0) kn.2 (fun j => .int (h.2.2.2.1 q j)))
  else if kn.1 = 11 then H[q]? = some (arrV (G.2.1 1) kn.2 (fun j => .long (h.2.2.2.2 q j)))
  else kn.1 < 17 ∧ H[q]? = some (arrV (G.2.1 (kn.1 - 10)) kn.2 (fun j => h.2.2.1 q j))
def RelH (G : GG) (h : PH) (H : Heap) : Prop :=
  H.size = h.1 ∧ G.2.2.1.size ≤ H.size ∧ (∀ q : Nat, q < G.2.2.1.size → H[q]? = G.2.2.1[q]?) ∧
  ∀ (q : Nat) (kn : Nat × Nat), h.2.1 q = some kn → G.2.2.1.size ≤ q ∧ cellG G h q kn H
/-- the private constructors of nest mates -/
def nestW : List Cond := [Cond.methodLinkNest RX5 9 yX4_init "BeforeItDrips", Cond.methodLinkNest RX4 11 yX0_init "BeforeItDrips", Cond.methodLinkNest RX5 24 yX0_init "BeforeItDrips", Cond.methodLinkNest RX2 31 yX0_init "BeforeItDrips", Cond.methodLinkNest RX5 44 yX1_init "BeforeItDrips", Cond.methodLinkNest RX5 57 yX3_init "BeforeItDrips"]
def orderRows : List Int32 := [0, 1, 2, 0, 2, 1, 1, 0, 2, 1, 2, 0, 2, 0, 1, 2, 1, 0]
def strLen : List Nat := [5, 5, 3, 4, 4, 6, 4]
def strByt : List (List Int32) := [[115, 105, 100, 101, 115], [115, 99, 111, 111, 112], [115, 117, 110], [104, 111, 108, 100], [98, 114, 105, 109], [108, 105, 99, 107, 101, 114], [108, 105, 99, 107]]
def strOwn (i : Nat) : String := if i < 7 then RX1 else RX6
def strIdx (i : Nat) : Nat := ([38, 54, 59, 64, 69, 74, 79, 216, 224, 226, 230, 232, 234, 236] : List Nat).getD i 0
def strTxt (i : Nat) : String := (["sides", "scoop", "sun", "hold", "brim", "licker", "lick"] : List String).getD (i % 7) ""
/-- the old cells that the code reads: the table of orders, the words of kerbs -/
def KX (G : GG) (U : State) : Prop :=
  (va_Z "BeforeItDrips$Cone" "ORDER_ROWS" "[I" (.ref (G.2.2.2.1 20)) (fun q => G.2.2.1.size ≤ q) U G.2.2.1 ∧ va_T .int (G.2.2.2.1 20) 18 (fun j => .int (orderRows.getD j 0)) (fun q => G.2.2.1.size ≤ q) U G.2.2.1) ∧
  vk_S 7 strLen strByt G.2.2.2.1 G.2.2.2.2 (fun q => G.2.2.1.size ≤ q) U G.2.2.1 ∧ (∀ i : Nat, i < 14 → vk_R (strOwn i) (strIdx i) (strTxt i) (G.2.2.2.1 (i % 7)) U) ∧
  va_Z "java/lang/String" "COMPACT_STRINGS" "Z" (.int 1) (fun q => G.2.2.1.size ≤ q) U G.2.2.1
def aoW : List FieldType := [.object RX3, .object RX0, .object RX6, .array .int, .array .long]
def KK (G : GG) (U : State) : Prop := va_K G.1 vwCl (tysG G) U ∧ (∀ w ∈ nestW, va_Nw w U) ∧ KX G U ∧ ∀ C ∈ [RX3, RX0, RX6], va_AO C U
theorem KK.same {G : GG} {u U : State} (hv : u.vm = U.vm) (h : KK G u) : KK G U := by
  have ha : u.vm.Alike U.vm := by rw [hv]; exact Vm.Alike.refl _
  obtain ⟨h1, h2, ⟨⟨h3, h4⟩, h5, h6, h7⟩, h8⟩ := h
  refine ⟨h1.moved ha, fun w hw => va_Nw.same ?_ hv (h2 w hw), ⟨⟨h3.moved ha, h4.moved ha⟩, h5.moved ha, fun i hi => vk_R.same hv.symm (h6 i hi), h7.moved ha⟩, fun C hC => (h8 C hC).moved ha⟩
  have hall : nestW.all (fun w => w.onTables) = true := by decide +kernel
  exact List.all_eq_true.mp hall w hw
theorem KK.warm {G : GG} {s U : State} (hW : s.WarmedH U.vm) (h : KK G s) : KK G U := by
  have ha : s.vm.Alike U.vm := hW.alike
  obtain ⟨h1, h2, ⟨⟨h3, h4⟩, h5, h6, h7⟩, h8⟩ := h
  refine ⟨h1.moved ha, fun w hw => ?_, ⟨⟨h3.moved ha, h4.moved ha⟩, h5.moved ha, fun i hi => vk_R.warm hW (h6 i hi), h7.moved ha⟩, fun C hC => (h8 C hC).moved ha⟩
  have h9 := h2 w hw
  simp only [nestW, List.mem_cons, List.not_mem_nil, or_false] at hw
  rcases hw with rfl | rfl | rfl | rfl | rfl | rfl <;> exact va_Nw.warmM hW h9
def rmD (d mc ms : Nat) : Room := { frames := d, cells := mc, slots := ms, locals := 64 * d }
/-- the context of a method's run -/
def CX (G : GG) (M : MI) (p : Program) (s : State) (m : MethodId) (args : Array Value) (meth : Method) (c : Code) : Prop :=
  p.tables.exec = Jvm.exec ∧ c.code = mbM M ∧ c.maxLocals = mlM M ∧ s.vm.findClass (moM M) = some m.cls ∧ (∀ w ∈ wsM M, w.before args s = true) ∧ meth.sig.returnType = mrM M ∧ meth.locks = false ∧ KK G s ∧ meth.name = (myM M).name
def QcG (G : GG) (Q : Option Value → PH → Prop) : Array Value → State → Outcome → State → Prop := fun _ _ o t => ∃ (v : Option Value) (h : PH), o = .returned v ∧ Q v h ∧ RelH G h t.heap
def Ev (G : GG) (d : Nat) (M : MI) (mc ms : Nat) (Q : Option Value → PH → Prop) (kc ks pc : Nat) (lv : List (Nat × Value)) (st : List Value) (h : PH) : Prop :=
  ∀ (p : Program) (l : Launch) (e : Env) (s : State) (m : MethodId) (args : Array Value) (below : List Frame) (meth : Method) (c : Code) (H : Heap) (locs : List Loc) (ls : Array Slot),
    CX G M p s m args meth c → RelH G h H → (∀ x ∈ locs, G.2.2.1.size ≤ x.base) → lv_has ls (mlM M) lv →
    W p l e (rmD d mc ms) s m args below meth c H locs kc ks (MQ below (QcG G Q) args s mc ms (fun q => G.2.2.1.size ≤ q)) (F0 m pc ls st)
/-- a method's contract at given arguments and heap -/
def MtG (G : GG) (d : Nat) (M : MI) (mc ms : Nat) (av : List Value) (h : PH) (Q : Option Value → PH → Prop) : Prop :=
  ∀ l : Launch, Met l (myM M) (wsM M) (rmD d mc ms) (va_Pc av (fun U => KK G U ∧ RelH G h U.heap)) (QcG G Q) mc ms (fun q => G.2.2.1.size ≤ q)
def Mt (d : Nat) (M : MI) (mc ms : Nat) (av : GG → List Value) (h : PH) (Q : Option Value → PH → Prop) : Prop := ∀ G : GG, MtG G d M mc ms (av G) h Q
theorem MtG.of {G : GG} {d : Nat} {M : MI} {mc ms : Nat} {av : List Value} {h : PH} {Q : Option Value → PH → Prop} (hpl : plainName (myM M).cls = true) (ho : moM M = (myM M).cls) (hl : (lg_sl av).length ≤ mlM M)
    (body : Ev G d M mc ms Q 0 0 0 (lv_args 0 av) [] h) : MtG G d M mc ms av h Q := by
  intro l
  refine Met.ofW (cc := mbM M) (maxL := mlM M) (ret := mrM M) (ws' := TT) hpl rfl ?_
  intro p e s m args below meth c s₁ B hml hv
  obtain ⟨rfl, hK, hR⟩ := hv
  have hown : s.vm.findClass (moM M) = some m.cls := by rw [ho]; exact findClass_of_methodNamed B.named
  have hX : CX G M p s m av.toArray meth c := ⟨B.exec, B.bytes, hml, hown, atoms_spec (ws := wsM M) B.pre, B.returns, B.notSynchronized, hK, (name_of_methodNamed B.named B.method).1⟩
  have hle := lv_entry av (n := mlM M) hl
  rw [lg_entry_eq]
  exact body p l e s m _ below meth c s.heap [] _ hX hR (fun x hx => by cases hx) hle
section EV
variable {G : GG} {d : Nat} {M : MI} {mc ms : Nat} {Q : Option Value → PH → Prop} {kc ks pc : Nat} {lv : List (Nat × Value)} {rest : List Value} {h : PH}
theorem ev_iconst {n : Int} {v : Int32} (hdg : decode (mbM M) pc = .ok (.iconst n, 1)) (hv : Int32.ofInt n = v)     (k : Ev G d M mc ms Q kc ks (pc + 1) lv (.int v :: rest) h) : Ev G d M mc ms Q kc ks pc lv (rest) h := fun p l e s m args below meth c H locs ls X R L hl => lv_iconst X.1 X.2.1 hdg hv (k p l e s m args below meth c H locs ls X R L hl)
theorem ev_bipush {n : Int} {v : Int32} (hdg : decode (mbM M) pc = .ok (.bipush n, 2)) (hv : (Int8.ofInt n).toInt32 = v)     (k : Ev G d M mc ms Q kc ks (pc + 2) lv (.int v :: rest) h) : Ev G d M mc ms Q kc ks pc lv (rest) h := fun p l e s m args below meth c H locs ls X R L hl => lv_bipush X.1 X.2.1 hdg hv (k p l e s m args below meth c H locs ls X R L hl)
theorem ev_sipush {n : Int} {v : Int32} (hdg : decode (mbM M) pc = .ok (.sipush n, 3)) (hv : (Int16.ofInt n).toInt32 = v)     (k : Ev G d M mc ms Q kc ks (pc + 3) lv (.int v :: rest) h) : Ev G d M mc ms Q kc ks pc lv (rest) h := fun p l e s m args below meth c H locs ls X R L hl => lv_sipush X.1 X.2.1 hdg hv (k p l e s m args below meth c H locs ls X R L hl)
theorem ev_lconst {n : Fin 2} {v : Int64} (hdg : decode (mbM M) pc = .ok (.lconst n, 1)) (hv : Int64.ofNat (n : Nat) = v)     (k : Ev G d M mc ms Q kc ks (pc + 1) lv (.long v :: rest) h) : Ev G d M mc ms Q kc ks pc lv (rest) h := fun p l e s m args below meth c H locs ls X R L hl => lv_lconst X.1 X.2.1 hdg hv (k p l e s m args below meth c H locs ls X R L hl)
theorem ev_iadd {x y : Int32} (hdg : decode (mbM M) pc = .ok (.iadd, 1))      (k : Ev G d M mc ms Q kc ks (pc + 1) lv (.int (x + y) :: rest) h) : Ev G d M mc ms Q kc ks pc lv (.int y :: .int x :: rest) h := fun p l e s m args below meth c H locs ls X R L hl => lv_iadd X.1 X.2.1 hdg (k p l e s m args below meth c H locs ls X R L hl)
theorem ev_isub {x y : Int32} (hdg : decode (mbM M) pc = .ok (.isub, 1))      (k : Ev G d M mc ms Q kc ks (pc + 1) lv (.int (x - y) :: rest) h) : Ev G d M mc ms Q kc ks pc lv (.int y :: .int x :: rest) h := fun p l e s m args below meth c H locs ls X R L hl => lv_isub X.1 X.2.1 hdg (k p l e s m args below meth c H locs ls X R L hl)
theorem ev_imul {x y : Int32} (hdg : decode (mbM M) pc = .ok (.imul, 1))      (k : Ev G d M mc ms Q kc ks (pc + 1) lv (.int (x * y) :: rest) h) : Ev G d M mc ms Q kc ks pc lv (.int y :: .int x :: rest) h := fun p l e s m args below meth c H locs ls X R L hl => lv_imul X.1 X.2.1 hdg (k p l e s m args below meth c H locs ls X R L hl)
theorem ev_idiv {x y : Int32} (hdg : decode (mbM M) pc = .ok (.idiv, 1)) (hne : ¬ y = 0)     (k : Ev G d M mc ms Q kc ks (pc + 1) lv (.int (x / y) :: rest) h) : Ev G d M mc ms Q kc ks pc lv (.int y :: .int x :: rest) h := fun p l e s m args below meth c H locs ls X R L hl => lv_idiv X.1 X.2.1 hdg hne (k p l e s m args below meth c H locs ls X R L hl)
theorem ev_irem {x y : Int32} (hdg : decode (mbM M) pc = .ok (.irem, 1)) (hne : ¬ y = 0)     (k : Ev G d M mc ms Q kc ks (pc + 1) lv (.int (x - x / y * y) :: rest) h) : Ev G d M mc ms Q kc ks pc lv (.int y :: .int x :: rest) h := fun p l e s m args below meth c H locs ls X R L hl => lv_irem X.1 X.2.1 hdg hne (k p l e s m args below meth c H locs ls X R L hl)
theorem ev_ineg {x : Int32} (hdg : decode (mbM M) pc = .ok (.ineg, 1))      (k : Ev G d M mc ms Q kc ks (pc + 1) lv (.int (-x) :: rest) h) : Ev G d M mc ms Q kc ks pc lv (.int x :: rest) h := fun p l e s m args below meth c H locs ls X R L hl => lv_ineg X.1 X.2.1 hdg (k p l e s m args below meth c H locs ls X R L hl)
theorem ev_iand {x y : Int32} (hdg : decode (mbM M) pc = .ok (.iand, 1))      (k : Ev G d M mc ms Q kc ks (pc + 1) lv (.int (x &&& y) :: rest) h) : Ev G d M mc ms Q kc ks pc lv (.int y :: .int x :: rest) h := fun p l e s m args below meth c H locs ls X R L hl => lv_iand X.1 X.2.1 hdg (k p l e s m args below meth c H locs ls X R L hl)
theorem ev_ior {x y : Int32} (hdg : decode (mbM M) pc = .ok (.ior, 1))      (k : Ev G d M mc ms Q kc ks (pc + 1) lv (.int (x ||| y) :: rest) h) : Ev G d M mc ms Q kc ks pc lv (.int y :: .int x :: rest) h := fun p l e s m args below meth c H locs ls X R L hl => lv_ior X.1 X.2.1 hdg (k p l e s m args below meth c H locs ls X R L hl)
theorem ev_ixor {x y : Int32} (hdg : decode (mbM M) pc = .ok (.ixor, 1))      (k : Ev G d M mc ms Q kc ks (pc + 1) lv (.int (x ^^^ y) :: rest) h) : Ev G d M mc ms Q kc ks pc lv (.int y :: .int x :: rest) h := fun p l e s m args below meth c H locs ls X R L hl => lv_ixor X.1 X.2.1 hdg (k p l e s m args below meth c H locs ls X R L hl)
theorem ev_ishl {x y : Int32} (hdg : decode (mbM M) pc = .ok (.ishl, 1))      (k : Ev G d M mc ms Q kc ks (pc + 1) lv (.int (x <<< (y &&& 31)) :: rest) h) : Ev G d M mc ms Q kc ks pc lv (.int y :: .int x :: rest) h := fun p l e s m args below meth c H locs ls X R L hl => lv_ishl X.1 X.2.1 hdg (k p l e s m args below meth c H locs ls X R L hl)
theorem ev_ishr {x y : Int32} (hdg : decode (mbM M) pc = .ok (.ishr, 1))      (k : Ev G d M mc ms Q kc ks (pc + 1) lv (.int (x >>> (y &&& 31)) :: rest) h) : Ev G d M mc ms Q kc ks pc lv (.int y :: .int x :: rest) h := fun p l e s m args below meth c H locs ls X R L hl => lv_ishr X.1 X.2.1 hdg (k p l e s m args below meth c H locs ls X R L hl)
theorem ev_iushr {x y v : Int32} (hdg : decode (mbM M) pc = .ok (.iushr, 1)) (hv : (x.toUInt32 >>> (y.toUInt32 &&& Int32.toUInt32 31)).toInt32 = v)     (k : Ev G d M mc ms Q kc ks (pc + 1) lv (.int v :: rest) h) : Ev G d M mc ms Q kc ks pc lv (.int y :: .int x :: rest) h := fun p l e s m args below meth c H locs ls X R L hl => lv_iushr X.1 X.2.1 hdg hv (k p l e s m args below meth c H locs ls X R L hl)
theorem ev_ladd {x y : Int64} (hdg : decode (mbM M) pc = .ok (.ladd, 1))      (k : Ev G d M mc ms Q kc ks (pc + 1) lv (.long (x + y) :: rest) h) : Ev G d M mc ms Q kc ks pc lv (.long y :: .long x :: rest) h := fun p l e s m args below meth c H locs ls X R L hl => lv_ladd X.1 X.2.1 hdg (k p l e s m args below meth c H locs ls X R L hl)
theorem ev_lsub {x y : Int64} (hdg : decode (mbM M) pc = .ok (.lsub, 1))      (k : Ev G d M mc ms Q kc ks (pc + 1) lv (.long (x - y) :: rest) h) : Ev G d M mc ms Q kc ks pc lv (.long y :: .long x :: rest) h := fun p l e s m args below meth c H locs ls X R L hl => lv_lsub X.1 X.2.1 hdg (k p l e s m args below meth c H locs ls X R L hl)
theorem ev_lmul {x y : Int64} (hdg : decode (mbM M) pc = .ok (.lmul, 1))      (k : Ev G d M mc ms Q kc ks (pc + 1) lv (.long (x * y) :: rest) h) : Ev G d M mc ms Q kc ks pc lv (.long y :: .long x :: rest) h := fun p l e s m args below meth c H locs ls X R L hl => lv_lmul X.1 X.2.1 hdg (k p l e s m args below meth c H locs ls X R L hl)
theorem ev_land {x y : Int64} (hdg : decode (mbM M) pc = .ok (.land, 1))      (k : Ev G d M mc ms Q kc ks (pc + 1) lv (.long (x &&& y) :: rest) h) : Ev G d M mc ms Q kc ks pc lv (.long y :: .long x :: rest) h := fun p l e s m args below meth c H locs ls X R L hl => lv_land X.1 X.2.1 hdg (k p l e s m args below meth c H locs ls X R L hl)
theorem ev_lor {x y : Int64} (hdg : decode (mbM M) pc = .ok (.lor, 1))      (k : Ev G d M mc ms Q kc ks (pc + 1) lv (.long (x ||| y) :: rest) h) : Ev G d M mc ms Q kc ks pc lv (.long y :: .long x :: rest) h := fun p l e s m args below meth c H locs ls X R L hl => lv_lor X.1 X.2.1 hdg (k p l e s m args below meth c H locs ls X R L hl)
theorem ev_lshl {x v : Int64} {y : Int32} (hdg : decode (mbM M) pc = .ok (.lshl, 1)) (hv : x <<< (y.toInt64 &&& 63) = v)     (k : Ev G d M mc ms Q kc ks (pc + 1) lv (.long v :: rest) h) : Ev G d M mc ms Q kc ks pc lv (.int y :: .long x :: rest) h := fun p l e s m args below meth c H locs ls X R L hl => lv_lshl X.1 X.2.1 hdg hv (k p l e s m args below meth c H locs ls X R L hl)
theorem ev_i2l {x : Int32} {v : Int64} (hdg : decode (mbM M) pc = .ok (.i2l, 1)) (hv : x.toInt64 = v)     (k : Ev G d M mc ms Q kc ks (pc + 1) lv (.long v :: rest) h) : Ev G d M mc ms Q kc ks pc lv (.int x :: rest) h := fun p l e s m args below meth c H locs ls X R L hl => lv_i2l X.1 X.2.1 hdg hv (k p l e s m args below meth c H locs ls X R L hl)
theorem ev_l2i {x : Int64} {v : Int32} (hdg : decode (mbM M) pc = .ok (.l2i, 1)) (hv : x.toInt32 = v)     (k : Ev G d M mc ms Q kc ks (pc + 1) lv (.int v :: rest) h) : Ev G d M mc ms Q kc ks pc lv (.long x :: rest) h := fun p l e s m args below meth c H locs ls X R L hl => lv_l2i X.1 X.2.1 hdg hv (k p l e s m args below meth c H locs ls X R L hl)
theorem ev_i2b {x : Int32} {v : Int32} (hdg : decode (mbM M) pc = .ok (.i2b, 1)) (hv : x.toInt8.toInt32 = v)     (k : Ev G d M mc ms Q kc ks (pc + 1) lv (.int v :: rest) h) : Ev G d M mc ms Q kc ks pc lv (.int x :: rest) h := fun p l e s m args below meth c H locs ls X R L hl => lv_i2b X.1 X.2.1 hdg hv (k p l e s m args below meth c H locs ls X R L hl)
theorem ev_i2s {x : Int32} {v : Int32} (hdg : decode (mbM M) pc = .ok (.i2s, 1)) (hv : x.toInt16.toInt32 = v)     (k : Ev G d M mc ms Q kc ks (pc + 1) lv (.int v :: rest) h) : Ev G d M mc ms Q kc ks pc lv (.int x :: rest) h := fun p l e s m args below meth c H locs ls X R L hl => lv_i2s X.1 X.2.1 hdg hv (k p l e s m args below meth c H locs ls X R L hl)
theorem ev_dup {va : Value} (hdg : decode (mbM M) pc = .ok (.dup, 1)) (hva : va.category = 1)     (k : Ev G d M mc ms Q kc ks (pc + 1) lv (va :: va :: rest) h) : Ev G d M mc ms Q kc ks pc lv (va :: rest) h := fun p l e s m args below meth c H locs ls X R L hl => lv_dup X.1 X.2.1 hdg hva (k p l e s m args below meth c H locs ls X R L hl)
theorem ev_pop {va : Value} (hdg : decode (mbM M) pc = .ok (.pop, 1)) (hva : va.category = 1)     (k : Ev G d M mc ms Q kc ks (pc + 1) lv (rest) h) : Ev G d M mc ms Q kc ks pc lv (va :: rest) h := fun p l e s m args below meth c H locs ls X R L hl => lv_pop X.1 X.2.1 hdg hva (k p l e s m args below meth c H locs ls X R L hl)
theorem ev_dup_x1 {va vb : Value} (hdg : decode (mbM M) pc = .ok (.dup_x1, 1)) (hva : va.category = 1) (hvb : vb.category = 1)     (k : Ev G d M mc ms Q kc ks (pc + 1) lv (va :: vb :: va :: rest) h) : Ev G d M mc ms Q kc ks pc lv (va :: vb :: rest) h := fun p l e s m args below meth c H locs ls X R L hl => lv_dup_x1 X.1 X.2.1 hdg hva hvb (k p l e s m args below meth c H locs ls X R L hl)
theorem ev_dup_x2 {va vb vd : Value} (hdg : decode (mbM M) pc = .ok (.dup_x2, 1)) (hva : va.category = 1) (hvb : vb.category = 1) (hvd : vd.category = 1)     (k : Ev G d M mc ms Q kc ks (pc + 1) lv (va :: vb :: vd :: va :: rest) h) : Ev G d M mc ms Q kc ks pc lv (va :: vb :: vd :: rest) h := fun p l e s m args below meth c H locs ls X R L hl => lv_dup_x2 X.1 X.2.1 hdg hva hvb hvd (k p l e s m args below meth c H locs ls X R L hl)
theorem ev_dup2_11 {va vb : Value} (hdg : decode (mbM M) pc = .ok (.dup2, 1)) (hva : va.category = 1) (hvb : vb.category = 1)     (k : Ev G d M mc ms Q kc ks (pc + 1) lv (va :: vb :: va :: vb :: rest) h) : Ev G d M mc ms Q kc ks pc lv (va :: vb :: rest) h := fun p l e s m args below meth c H locs ls X R L hl => lv_dup2_11 X.1 X.2.1 hdg hva hvb (k p l e s m args below meth c H locs ls X R L hl)
theorem ev_if_eq {x : Int32} {off : Int} {tgt : Nat} (hdg : decode (mbM M) pc = .ok (.ifCond .eq off, 3)) (ht : (pc : Int) + off = (tgt : Int))     (kt : x = 0 → Ev G d M mc ms Q kc ks tgt lv rest h) (kf : ¬ x = 0 → Ev G d M mc ms Q kc ks (pc + 3) lv rest h) : Ev G d M mc ms Q kc ks pc lv (.int x :: rest) h := fun p l e s m args below meth c H locs ls X R L hl => lv_if_eq X.1 X.2.1 hdg ht (fun z => kt z p l e s m args below meth c H locs ls X R L hl) (fun z => kf z p l e s m args below meth c H locs ls X R L hl)
theorem ev_if_ne {x : Int32} {off : Int} {tgt : Nat} (hdg : decode (mbM M) pc = .ok (.ifCond .ne off, 3)) (ht : (pc : Int) + off = (tgt : Int))     (kt : ¬ x = 0 → Ev G d M mc ms Q kc ks tgt lv rest h) (kf : x = 0 → Ev G d M mc ms Q kc ks (pc + 3) lv rest h) : Ev G d M mc ms Q kc ks pc lv (.int x :: rest) h := fun p l e s m args below meth c H locs ls X R L hl => lv_if_ne X.1 X.2.1 hdg ht (fun z => kt z p l e s m args below meth c H locs ls X R L hl) (fun z => kf z p l e s m args below meth c H locs ls X R L hl)
theorem ev_if_lt {x : Int32} {off : Int} {tgt : Nat} (hdg : decode (mbM M) pc = .ok (.ifCond .lt off, 3)) (ht : (pc : Int) + off = (tgt : Int))     (kt : x < 0 → Ev G d M mc ms Q kc ks tgt lv rest h) (kf : ¬ x < 0 → Ev G d M mc ms Q kc ks (pc + 3) lv rest h) : Ev G d M mc ms Q kc ks pc lv (.int x :: rest) h := fun p l e s m args below meth c H locs ls X R L hl => lv_if_lt X.1 X.2.1 hdg ht (fun z => kt z p l e s m args below meth c H locs ls X R L hl) (fun z => kf z p l e s m args below meth c H locs ls X R L hl)
theorem ev_if_ge {x : Int32} {off : Int} {tgt : Nat} (hdg : decode (mbM M) pc = .ok (.ifCond .ge off, 3)) (ht : (pc : Int) + off = (tgt : Int))     (kt : 0 ≤ x → Ev G d M mc ms Q kc ks tgt lv rest h) (kf : ¬ 0 ≤ x → Ev G d M mc ms Q kc ks (pc + 3) lv rest h) : Ev G d M mc ms Q kc ks pc lv (.int x :: rest) h := fun p l e s m args below meth c H locs ls X R L hl => lv_if_ge X.1 X.2.1 hdg ht (fun z => kt z p l e s m args below meth c H locs ls X R L hl) (fun z => kf z p l e s m args below meth c H locs ls X R L hl)
theorem ev_if_gt {x : Int32} {off : Int} {tgt : Nat} (hdg : decode (mbM M) pc = .ok (.ifCond .gt off, 3)) (ht : (pc : Int) + off = (tgt : Int))     (kt : 0 < x → Ev G d M mc ms Q kc ks tgt lv rest h) (kf : ¬ 0 < x → Ev G d M mc ms Q kc ks (pc + 3) lv rest h) : Ev G d M mc ms Q kc ks pc lv (.int x :: rest) h := fun p l e s m args below meth c H locs ls X R L hl => lv_if_gt X.1 X.2.1 hdg ht (fun z => kt z p l e s m args below meth c H locs ls X R L hl) (fun z => kf z p l e s m args below meth c H locs ls X R L hl)
theorem ev_if_le {x : Int32} {off : Int} {tgt : Nat} (hdg : decode (mbM M) pc = .ok (.ifCond .le off, 3)) (ht : (pc : Int) + off = (tgt : Int))     (kt : x ≤ 0 → Ev G d M mc ms Q kc ks tgt lv rest h) (kf : ¬ x ≤ 0 → Ev G d M mc ms Q kc ks (pc + 3) lv rest h) : Ev G d M mc ms Q kc ks pc lv (.int x :: rest) h := fun p l e s m args below meth c H locs ls X R L hl => lv_if_le X.1 X.2.1 hdg ht (fun z => kt z p l e s m args below meth c H locs ls X R L hl) (fun z => kf z p l e s m args below meth c H locs ls X R L hl)
theorem ev_icmp_eq {x y : Int32} {off : Int} {tgt : Nat} (hdg : decode (mbM M) pc = .ok (.if_icmp .eq off, 3)) (ht : (pc : Int) + off = (tgt : Int))     (kt : x = y → Ev G d M mc ms Q kc ks tgt lv rest h) (kf : ¬ x = y → Ev G d M mc ms Q kc ks (pc + 3) lv rest h) : Ev G d M mc ms Q kc ks pc lv (.int y :: .int x :: rest) h := fun p l e s m args below meth c H locs ls X R L hl => lv_icmp_eq X.1 X.2.1 hdg ht (fun z => kt z p l e s m args below meth c H locs ls X R L hl) (fun z => kf z p l e s m args below meth c H locs ls X R L hl)
theorem ev_icmp_ne {x y : Int32} {off : Int} {tgt : Nat} (hdg : decode (mbM M) pc = .ok (.if_icmp .ne off, 3)) (ht : (pc : Int) + off = (tgt : Int))     (kt : ¬ x = y → Ev G d M mc ms Q kc ks tgt lv rest h) (kf : x = y → Ev G d M mc ms Q kc ks (pc + 3) lv rest h) : Ev G d M mc ms Q kc ks pc lv (.int y :: .int x :: rest) h := fun p l e s m args below meth c H locs ls X R L hl => lv_icmp_ne X.1 X.2.1 hdg ht (fun z => kt z p l e s m args below meth c H locs ls X R L hl) (fun z => kf z p l e s m args below meth c H locs ls X R L hl)
theorem ev_icmp_lt {x y : Int32} {off : Int} {tgt : Nat} (hdg : decode (mbM M) pc = .ok (.if_icmp .lt off, 3)) (ht : (pc : Int) + off = (tgt : Int))     (kt : x < y → Ev G d M mc ms Q kc ks tgt lv rest h) (kf : ¬ x < y → Ev G d M mc ms Q kc ks (pc + 3) lv rest h) : Ev G d M mc ms Q kc ks pc lv (.int y :: .int x :: rest) h := fun p l e s m args below meth c H locs ls X R L hl => lv_icmp_lt X.1 X.2.1 hdg ht (fun z => kt z p l e s m args below meth c H locs ls X R L hl) (fun z => kf z p l e s m args below meth c H locs ls X R L hl)
theorem ev_icmp_ge {x y : Int32} {off : Int} {tgt : Nat} (hdg : decode (mbM M) pc = .ok (.if_icmp .ge off, 3)) (ht : (pc : Int) + off = (tgt : Int))     (kt : y ≤ x → Ev G d M mc ms Q kc ks tgt lv rest h) (kf : ¬ y ≤ x → Ev G d M mc ms Q kc ks (pc + 3) lv rest h) : Ev G d M mc ms Q kc ks pc lv (.int y :: .int x :: rest) h := fun p l e s m args below meth c H locs ls X R L hl => lv_icmp_ge X.1 X.2.1 hdg ht (fun z => kt z p l e s m args below meth c H locs ls X R L hl) (fun z => kf z p l e s m args below meth c H locs ls X R L hl)
theorem ev_icmp_gt {x y : Int32} {off : Int} {tgt : Nat} (hdg : decode (mbM M) pc = .ok (.if_icmp .gt off, 3)) (ht : (pc : Int) + off = (tgt : Int))     (kt : y < x → Ev G d M mc ms Q kc ks tgt lv rest h) (kf : ¬ y < x → Ev G d M mc ms Q kc ks (pc + 3) lv rest h) : Ev G d M mc ms Q kc ks pc lv (.int y :: .int x :: rest) h := fun p l e s m args below meth c H locs ls X R L hl => lv_icmp_gt X.1 X.2.1 hdg ht (fun z => kt z p l e s m args below meth c H locs ls X R L hl) (fun z => kf z p l e s m args below meth c H locs ls X R L hl)
theorem ev_icmp_le {x y : Int32} {off : Int} {tgt : Nat} (hdg : decode (mbM M) pc = .ok (.if_icmp .le off, 3)) (ht : (pc : Int) + off = (tgt : Int))     (kt : x ≤ y → Ev G d M mc ms Q kc ks tgt lv rest h) (kf : ¬ x ≤ y → Ev G d M mc ms Q kc ks (pc + 3) lv rest h) : Ev G d M mc ms Q kc ks pc lv (.int y :: .int x :: rest) h := fun p l e s m args below meth c H locs ls X R L hl => lv_icmp_le X.1 X.2.1 hdg ht (fun z => kt z p l e s m args below meth c H locs ls X R L hl) (fun z => kf z p l e s m args below meth c H locs ls X R L hl)
theorem ev_goto {off : Int} {tgt : Nat} (hdg : decode (mbM M) pc = .ok (.goto off, 3)) (ht : (pc : Int) + off = (tgt : Int)) (k : Ev G d M mc ms Q kc ks tgt lv rest h) : Ev G d M mc ms Q kc ks pc lv rest h := fun p l e s m args below meth c H locs ls X R L hl => lv_goto X.1 X.2.1 hdg ht (k p l e s m args below meth c H locs ls X R L hl)
theorem ev_tableIn {dflt lo hi : Int} {offs : Array Int} {len : Nat} {x : Int32} {off : Int} {tgt : Nat} (hdg : decode (mbM M) pc = .ok (.tableswitch dflt lo hi offs, len)) (h1 : ¬ x.toInt < lo) (h2 : ¬ hi < x.toInt) (ho : offs[(x.toInt - lo).toNat]? = some off) (ht : (pc : Int) + off = (tgt : Int))     (k : Ev G d M mc ms Q kc ks tgt lv rest h) : Ev G d M mc ms Q kc ks pc lv (.int x :: rest) h := fun p l e s m args below meth c H locs ls X R L hl => lv_tableIn X.1 X.2.1 hdg h1 h2 ho ht (k p l e s m args below meth c H locs ls X R L hl)
theorem ev_tableOut {dflt lo hi : Int} {offs : Array Int} {len : Nat} {x : Int32} {tgt : Nat} (hdg : decode (mbM M) pc = .ok (.tableswitch dflt lo hi offs, len)) (hx : x.toInt < lo ∨ hi < x.toInt) (ht : (pc : Int) + dflt = (tgt : Int))     (k : Ev G d M mc ms Q kc ks tgt lv rest h) : Ev G d M mc ms Q kc ks pc lv (.int x :: rest) h := fun p l e s m args below meth c H locs ls X R L hl => lv_tableOut X.1 X.2.1 hdg hx ht (k p l e s m args below meth c H locs ls X R L hl)
theorem ev_ifnull {x : Nat} {off : Int} (hdg : decode (mbM M) pc = .ok (.ifnull off, 3)) (k : Ev G d M mc ms Q kc ks (pc + 3) lv rest h) : Ev G d M mc ms Q kc ks pc lv (.ref x :: rest) h := fun p l e s m args below meth c H locs ls X R L hl => lv_ifnull X.1 X.2.1 hdg (k p l e s m args below meth c H locs ls X R L hl)
theorem ev_ifnonnull {x : Nat} {off : Int} {tgt : Nat} (hdg : decode (mbM M) pc = .ok (.ifnonnull off, 3)) (ht : (pc : Int) + off = (tgt : Int)) (k : Ev G d M mc ms Q kc ks tgt lv rest h) : Ev G d M mc ms Q kc ks pc lv (.ref x :: rest) h := fun p l e s m args below meth c H locs ls X R L hl => lv_ifnonnull X.1 X.2.1 hdg ht (k p l e s m args below meth c H locs ls X R L hl)
theorem ev_ifnullN {off : Int} {tgt : Nat} (hdg : decode (mbM M) pc = .ok (.ifnull off, 3)) (ht : (pc : Int) + off = (tgt : Int)) (k : Ev G d M mc ms Q kc ks tgt lv rest h) : Ev G d M mc ms Q kc ks pc lv (.null :: rest) h := fun p l e s m args below meth c H locs ls X R L hl => lv_ifnullN X.1 X.2.1 hdg ht (k p l e s m args below meth c H locs ls X R L hl)
theorem ev_ifnonnullN {off : Int} (hdg : decode (mbM M) pc = .ok (.ifnonnull off, 3)) (k : Ev G d M mc ms Q kc ks (pc + 3) lv rest h) : Ev G d M mc ms Q kc ks pc lv (.null :: rest) h := fun p l e s m args below meth c H locs ls X R L hl => lv_ifnonnullN X.1 X.2.1 hdg (k p l e s m args below meth c H locs ls X R L hl)
theorem ev_null (hdg : decode (mbM M) pc = .ok (.aconst_null, 1)) (k : Ev G d M mc ms Q kc ks (pc + 1) lv (.null :: rest) h) : Ev G d M mc ms Q kc ks pc lv rest h := fun p l e s m args below meth c H locs ls X R L hl => lv_null X.1 X.2.1 hdg (k p l e s m args below meth c H locs ls X R L hl)
theorem ev_iload_n {k : Fin 4} {i : Nat} {x : Int32} (j : Nat) (hdg : decode (mbM M) pc = .ok (.iload_n k, 1)) (hi : (k : Nat) = i) (hj : lv[j]? = some (i, .int x)) (kk : Ev G d M mc ms Q kc ks (pc + 1) lv (.int x :: rest) h) : Ev G d M mc ms Q kc ks pc lv rest h := fun p l e s m args below meth c H locs ls X R L hl => lv_iload_n X.1 X.2.1 hdg hi (lv_at hl j hj) (kk p l e s m args below meth c H locs ls X R L hl)
theorem ev_iload {i : Nat} {x : Int32} (j : Nat) (hdg : decode (mbM M) pc = .ok (.iload i, 2)) (hj : lv[j]? = some (i, .int x)) (kk : Ev G d M mc ms Q kc ks (pc + 2) lv (.int x :: rest) h) : Ev G d M mc ms Q kc ks pc lv rest h := fun p l e s m args below meth c H locs ls X R L hl => lv_iload X.1 X.2.1 hdg (lv_at hl j hj) (kk p l e s m args below meth c H locs ls X R L hl)
theorem ev_lload_n {k : Fin 4} {i : Nat} {x : Int64} (j : Nat) (hdg : decode (mbM M) pc = .ok (.lload_n k, 1)) (hi : (k : Nat) = i) (hj : lv[j]? = some (i, .long x)) (kk : Ev G d M mc ms Q kc ks (pc + 1) lv (.long x :: rest) h) : Ev G d M mc ms Q kc ks pc lv rest h := fun p l e s m args below meth c H locs ls X R L hl => lv_lload_n X.1 X.2.1 hdg hi (lv_at hl j hj) (kk p l e s m args below meth c H locs ls X R L hl)
theorem ev_lload {i : Nat} {x : Int64} (j : Nat) (hdg : decode (mbM M) pc = .ok (.lload i, 2)) (hj : lv[j]? = some (i, .long x)) (kk : Ev G d M mc ms Q kc ks (pc + 2) lv (.long x :: rest) h) : Ev G d M mc ms Q kc ks pc lv rest h := fun p l e s m args below meth c H locs ls X R L hl => lv_lload X.1 X.2.1 hdg (lv_at hl j hj) (kk p l e s m args below meth c H locs ls X R L hl)
theorem ev_aload_n {k : Fin 4} {i x : Nat} (j : Nat) (hdg : decode (mbM M) pc = .ok (.aload_n k, 1)) (hi : (k : Nat) = i) (hj : lv[j]? = some (i, .ref x)) (kk : Ev G d M mc ms Q kc ks (pc + 1) lv (.ref x :: rest) h) : Ev G d M mc ms Q kc ks pc lv rest h := fun p l e s m args below meth c H locs ls X R L hl => lv_aload_n X.1 X.2.1 hdg hi (lv_at hl j hj) (kk p l e s m args below meth c H locs ls X R L hl)
theorem ev_aload {i x : Nat} (j : Nat) (hdg : decode (mbM M) pc = .ok (.aload i, 2)) (hj : lv[j]? = some (i, .ref x)) (kk : Ev G d M mc ms Q kc ks (pc + 2) lv (.ref x :: rest) h) : Ev G d M mc ms Q kc ks pc lv rest h := fun p l e s m args below meth c H locs ls X R L hl => lv_aload X.1 X.2.1 hdg (lv_at hl j hj) (kk p l e s m args below meth c H locs ls X R L hl)
theorem ev_istore_n {k : Fin 4} {i : Nat} {x : Int32} {lv' : List (Nat × Value)} (hdg : decode (mbM M) pc = .ok (.istore_n k, 1)) (hi : (k : Nat) = i) (hn : i < mlM M) (hl' : (i, Value.int x) :: lv.filter (fun q => !(q.1 == i) && !(q.1 + 1 == i && q.2.category == 2)) = lv') (kk : Ev G d M mc ms Q kc ks (pc + 1) lv' rest h) : Ev G d M mc ms Q kc ks pc lv (.int x :: rest) h := fun p l e s m args below meth c H locs ls X R L hl => lv_istore_n X.1 X.2.1 hdg hi hl hn hl' (fun ls' hl2 => kk p l e s m args below meth c H locs ls' X R L hl2)
theorem ev_istore {i : Nat} {x : Int32} {lv' : List (Nat × Value)} (hdg : decode (mbM M) pc = .ok (.istore i, 2)) (hn : i < mlM M) (hl' : (i, Value.int x) :: lv.filter (fun q => !(q.1 == i) && !(q.1 + 1 == i && q.2.category == 2)) = lv') (kk : Ev G d M mc ms Q kc ks (pc + 2) lv' rest h) : Ev G d M mc ms Q kc ks pc lv (.int x :: rest) h := fun p l e s m args below meth c H locs ls X R L hl => lv_istore X.1 X.2.1 hdg hl hn hl' (fun ls' hl2 => kk p l e s m args below meth c H locs ls' X R L hl2)
theorem ev_lstore_n {k : Fin 4} {i : Nat} {x : Int64} {lv' : List (Nat × Value)} (hdg : decode (mbM M) pc = .ok (.lstore_n k, 1)) (hi : (k : Nat) = i) (hn : i + 1 < mlM M) (hl' : (i, Value.long x) :: lv.filter (fun q => !(q.1 == i) && (!(q.1 == i + 1) && !(q.1 + 1 == i && q.2.category == 2))) = lv') (kk : Ev G d M mc ms Q kc ks (pc + 1) lv' rest h) : Ev G d M mc ms Q kc ks pc lv (.long x :: rest) h := fun p l e s m args below meth c H locs ls X R L hl => lv_lstore_n X.1 X.2.1 hdg hi hl hn hl' (fun ls' hl2 => kk p l e s m args below meth c H locs ls' X R L hl2)
theorem ev_lstore {i : Nat} {x : Int64} {lv' : List (Nat × Value)} (hdg : decode (mbM M) pc = .ok (.lstore i, 2)) (hn : i + 1 < mlM M) (hl' : (i, Value.long x) :: lv.filter (fun q => !(q.1 == i) && (!(q.1 == i + 1) && !(q.1 + 1 == i && q.2.category == 2))) = lv') (kk : Ev G d M mc ms Q kc ks (pc + 2) lv' rest h) : Ev G d M mc ms Q kc ks pc lv (.long x :: rest) h := fun p l e s m args below meth c H locs ls X R L hl => lv_lstore X.1 X.2.1 hdg hl hn hl' (fun ls' hl2 => kk p l e s m args below meth c H locs ls' X R L hl2)
theorem ev_astore_n {k : Fin 4} {i x : Nat} {lv' : List (Nat × Value)} (hdg : decode (mbM M) pc = .ok (.astore_n k, 1)) (hi : (k : Nat) = i) (hn : i < mlM M) (hl' : (i, Value.ref x) :: lv.filter (fun q => !(q.1 == i) && !(q.1 + 1 == i && q.2.category == 2)) = lv') (kk : Ev G d M mc ms Q kc ks (pc + 1) lv' rest h) : Ev G d M mc ms Q kc ks pc lv (.ref x :: rest) h := fun p l e s m args below meth c H locs ls X R L hl => lv_astore_n X.1 X.2.1 hdg hi hl hn hl' (fun ls' hl2 => kk p l e s m args below meth c H locs ls' X R L hl2)
theorem ev_astore {i x : Nat} {lv' : List (Nat × Value)} (hdg : decode (mbM M) pc = .ok (.astore i, 2)) (hn : i < mlM M) (hl' : (i, Value.ref x) :: lv.filter (fun q => !(q.1 == i) && !(q.1 + 1 == i && q.2.category == 2)) = lv') (kk : Ev G d M mc ms Q kc ks (pc + 2) lv' rest h) : Ev G d M mc ms Q kc ks pc lv (.ref x :: rest) h := fun p l e s m args below meth c H locs ls X R L hl => lv_astore X.1 X.2.1 hdg hl hn hl' (fun ls' hl2 => kk p l e s m args below meth c H locs ls' X R L hl2)
theorem ev_iinc {i : Nat} {n : Int} {x v : Int32} {lv' : List (Nat × Value)} (j : Nat) (hdg : decode (mbM M) pc = .ok (.iinc i n, 3)) (hj : lv[j]? = some (i, .int x)) (hv : x + Int32.ofInt n = v) (hn : i < mlM M) (hl' : (i, Value.int v) :: lv.filter (fun q => !(q.1 == i) && !(q.1 + 1 == i && q.2.category == 2)) = lv') (kk : Ev G d M mc ms Q kc ks (pc + 3) lv' rest h) : Ev G d M mc ms Q kc ks pc lv rest h := fun p l e s m args below meth c H locs ls X R L hl => lv_iinc (k := j) X.1 X.2.1 hdg hl hj hv hn hl' (fun ls' hl2 => kk p l e s m args below meth c H locs ls' X R L hl2)
/-- fewer locals, in any order -/
theorem ev_sub {lv' : List (Nat × Value)} (js : List Nat) (hj : lv_pick lv js = lv') (kk : Ev G d M mc ms Q kc ks pc lv' rest h) : Ev G d M mc ms Q kc ks pc lv rest h := fun p l e s m args below meth c H locs ls X R L hl => kk p l e s m args below meth c H locs ls X R L (lv_sub hl js hj)
theorem ev_lcmp {x y : Int64} (hdg : decode (mbM M) pc = .ok (.lcmp, 1)) (kk : Ev G d M mc ms Q kc ks (pc + 1) lv (.int (lg_cmp x y) :: rest) h) : Ev G d M mc ms Q kc ks pc lv (.long y :: .long x :: rest) h := fun p l e s m args below meth c H locs ls X R L hl => W.lcmp X.1 X.2.1 hdg (kk p l e s m args below meth c H locs ls X R L hl)
theorem ev_ldc {index : Nat} {v : Int32} (hc : Cond.constant (moM M) index v ∈ TT) (hdg : decode (mbM M) pc = .ok (.ldc index, 2)) (kk : Ev G d M mc ms Q kc ks (pc + 2) lv (.int v :: rest) h) : Ev G d M mc ms Q kc ks pc lv rest h := fun p l e s m args below meth c H locs ls X R L hl => lv_ldc X.1 X.2.1 X.2.2.2.1 (X.2.2.2.2.1 _ (List.mem_cons_of_mem _ hc)) hdg (kk p l e s m args below meth c H locs ls X R L hl)
theorem ev_ldc2 {index : Nat} {v : Int64} (hc : Cond.constantLong (moM M) index v ∈ TT) (hdg : decode (mbM M) pc = .ok (.ldc2_w index, 3)) (kk : Ev G d M mc ms Q kc ks (pc + 3) lv (.long v :: rest) h) : Ev G d M mc ms Q kc ks pc lv rest h := fun p l e s m args below meth c H locs ls X R L hl => lv_ldc2 X.1 X.2.1 X.2.2.2.1 (X.2.2.2.2.1 _ (List.mem_cons_of_mem _ hc)) hdg (kk p l e s m args below meth c H locs ls X R L hl)
/-- a field's link, at the code of M -/
def FL (M : MI) (idx ci j : Nat) : Prop := Cond.fieldLink (moM M) idx (TXG ci j).1 (TXG ci j).2.1 (TXG ci j).2.2.1 ∈ TT ∧ ci < 7 ∧ j < nFG ci
theorem RelH.obj {H : Heap} (R : RelH G h H) {q ci n : Nat} (hs : h.2.1 q = some (ci, n)) (hc : ci < 7) : G.2.2.1.size ≤ q ∧ t_OB q (G.1.1 ci) (nFG ci) (G.1.2 ci) H (fun j => fvalG h ci q j) := by
  obtain ⟨a, b⟩ := R.2.2.2 q _ hs
  unfold cellG at b
  rw [if_pos hc] at b
  exact ⟨a, b⟩
theorem RelH.ints {H : Heap} (R : RelH G h H) {q n : Nat} (hs : h.2.1 q = some (10, n)) : G.2.2.1.size ≤ q ∧ H[q]? = some (arrV (G.2.1 0) n (fun j => .int (h.2.2.2.1 q j))) := by
  obtain ⟨a, b⟩ := R.2.2.2 q _ hs
  unfold cellG at b
  rw [if_neg (show ¬ (10 : Nat) < 7 by decide), if_pos rfl] at b
  exact ⟨a, b⟩
theorem RelH.lngs {H : Heap} (R : RelH G h H) {q n : Nat} (hs : h.2.1 q = some (11, n)) : G.2.2.1.size ≤ q ∧ H[q]? = some (arrV (G.2.1 1) n (fun j => .long (h.2.2.2.2 q j))) := by
  obtain ⟨a, b⟩ := R.2.2.2 q _ hs
  unfold cellG at b
  rw [if_neg (show ¬ (11 : Nat) < 7 by decide), if_neg (show ¬ (11 : Nat) = 10 by decide), if_pos rfl] at b
  exact ⟨a, b⟩
theorem RelH.refs {H : Heap} (R : RelH G h H) {q k n : Nat} (hs : h.2.1 q = some (k, n)) (h1 : 12 ≤ k) : G.2.2.1.size ≤ q ∧ k < 17 ∧ H[q]? = some (arrV (G.2.1 (k - 10)) n (fun j => h.2.2.1 q j)) := by
  obtain ⟨a, b⟩ := R.2.2.2 q _ hs
  unfold cellG at b
  rw [if_neg (by show ¬ k < 7; omega), if_neg (by show ¬ k = 10; omega), if_neg (by show ¬ k = 11; omega)] at b
  exact ⟨a, b⟩
theorem u_wsG {ci : Nat} (hc : ci < 7) : ∀ w ∈ u_ws (RXG ci) (TXG ci) (nFG ci), w ∈ TT := by
  have h0 : (List.range 7).all (fun c => (u_ws (RXG c) (TXG c) (nFG c)).all (fun w => lw_tbl.contains w && goodWord w)) = true := by decide +kernel
  intro w hw
  have h1 := List.all_eq_true.mp (List.all_eq_true.mp h0 ci (List.mem_range.mpr hc)) w hw
  simp only [Bool.and_eq_true, List.contains_iff_mem] at h1
  exact TT_in h1.1 h1.2
theorem ftyG_ok {ci k : Nat} (hc : ci < 7) (hk : k < nFG ci) : parseFieldDescriptor (TXG ci k).2.2.1 = some (ftyG ci k) := by
  rcases (show ci = 0 ∨ ci = 1 ∨ ci = 2 ∨ ci = 3 ∨ ci = 4 ∨ ci = 5 ∨ ci = 6 by omega) with rfl | rfl | rfl | rfl | rfl | rfl | rfl
  · exact tyX0_ok k hk
  · exact tyX1_ok k hk
  · exact tyX2_ok k hk
  · exact tyX3_ok k hk
  · exact tyX4_ok k hk
  · exact tyX5_ok k hk
  · exact tyX6_ok k hk
theorem nmG_ok {ci : Nat} (hc : ci < 7) : ∀ a, a < nFG ci → ∀ b, b < nFG ci → a ≠ b → (TXG ci a).2.1 ≠ (TXG ci b).2.1 := by
  rcases (show ci = 0 ∨ ci = 1 ∨ ci = 2 ∨ ci = 3 ∨ ci = 4 ∨ ci = 5 ∨ ci = 6 by omega) with rfl | rfl | rfl | rfl | rfl | rfl | rfl
  · exact nmX0
  · exact nmX1
  · exact nmX2
  · exact nmX3
  · exact nmX4
  · exact nmX5
  · exact nmX6
theorem ev_getf {idx ci j n a : Nat} {v : Value} (hs : h.2.1 a = some (ci, n)) (hF : FL M idx ci j) (hv : fvalG h ci a j = v) (hdg : decode (mbM M) pc = .ok (.getfield idx, 3)) (kk : Ev G d M mc ms Q kc ks (pc + 3) lv (v :: rest) h) : Ev G d M mc ms Q kc ks pc lv (.ref a :: rest) h := by
  intro p l e s m args below meth c H locs ls X R L hl
  obtain ⟨hlk, hc, hj⟩ := hF
  have hts : ∀ w ∈ TT, w.before args s = true := fun w hw => X.2.2.2.2.1 w (List.mem_cons_of_mem _ hw)
  obtain ⟨-, cell, q1, q2, q3, q4⟩ := R.obj hs hc
  obtain ⟨hS, hfc, kC, hkC, hkind⟩ := X.2.2.2.2.2.2.2.1.1.1 ci _ (vwCl_at hc)
  obtain ⟨cf, kf, fi, f, hi, hsl⟩ := hS j hj
  refine W.getf X.1 X.2.1 X.2.2.2.1 (hts _ hlk) hi (u_facts hfc hkC (u_lays hts (u_wsG hc) hj) hi).1 q1 (by rw [q3]; exact fun z => by cases z) (v := v) ?_ rfl rfl hdg (kk p l e s m args below meth c H locs ls X R L hl)
  rw [hsl]
  exact (q4 j hj).trans (congrArg some hv)
/-- one more int at a place -/
def upd2 {α : Type} (S : Nat → Nat → α) (a i : Nat) (v : α) : Nat → Nat → α := fun q => if q = a then (fun j => if j = i then v else S q j) else S q
theorem upd2_same {α : Type} {S : Nat → Nat → α} {a i j : Nat} {v : α} : upd2 S a i v a j = if j = i then v else S a j := by simp [upd2]
theorem upd2_ne {α : Type} {S : Nat → Nat → α} {a i q : Nat} {v : α} (z : q ≠ a) : upd2 S a i v q = S q := by simp [upd2, z]
theorem RelH.write {H H1 : Heap} (R : RelH G h H) {a : Nat} {kn : Nat × Nat} {P : Nat → Nat → Value} {S : Nat → Nat → Int32} {LL : Nat → Nat → Int64} (hs : h.2.1 a = some kn) (hz : H1.size = H.size) (oq : ∀ q : Nat, q ≠ a → H1[q]? = H[q]?)
    (hP : ∀ q : Nat, q ≠ a → P q = h.2.2.1 q) (hS : ∀ q : Nat, q ≠ a → S q = h.2.2.2.1 q) (hL : ∀ q : Nat, q ≠ a → LL q = h.2.2.2.2 q) (hc : cellG G (h.1, h.2.1, P, S, LL) a kn H1) : RelH G (h.1, h.2.1, P, S, LL) H1 := by
  have ha := (R.2.2.2 a kn hs).1
  refine ⟨hz.trans R.1, by rw [hz]; exact R.2.1, fun q hq => ?_, fun q kq hq => ?_⟩
  · rw [oq q (by omega)]
    exact R.2.2.1 q hq
  · by_cases z : q = a
    · subst z
      have e : kq = kn := Option.some.inj (hq.symm.trans hs)
      subst e
      exact ⟨ha, hc⟩
    · obtain ⟨g1, g2⟩ := R.2.2.2 q kq hq
      refine ⟨g1, ?_⟩
      unfold cellG at g2 ⊢
      split at g2
      · rename_i y
        rw [if_pos y]
        refine (g2.kept (oq q z)).to (fun k _ => ?_)
        simp only [fvalG, hP q z, hS q z]
      · rename_i y
        rw [if_neg y]
        split at g2
        · rename_i y
          rw [if_pos y, oq q z, g2]
          simp only [hS q z]
        · rename_i y
          rw [if_neg y]
          split at g2
          · rename_i y
            rw [if_pos y, oq q z, g2]
            simp only [hL q z]
          · rename_i y
            rw [if_neg y]
            refine ⟨g2.1, ?_⟩
            rw [oq q z, g2.2]
            simp only [hP q z]
theorem locs_app {G : GG} {locs : List Loc} {a k : Nat} (L : ∀ x ∈ locs, G.2.2.1.size ≤ x.base) (ha : G.2.2.1.size ≤ a) : ∀ x ∈ locs ++ [(⟨a, k⟩ : Loc)], G.2.2.1.size ≤ x.base := by
  intro x hx
  rcases List.mem_append.mp hx with q | q
  · exact L x q
  · rw [List.mem_singleton.mp q]
    exact ha
theorem ev_putI {idx ci j n a : Nat} {x : Int32} (hs : h.2.1 a = some (ci, n)) (hF : FL M idx ci j) (hfin : (TXG ci j).2.2.2 = false) (hrf : isRf (ftyG ci j) = false) (hn : narrow (ftyG ci j) (.int x) = .int x) (hfit : fits (ftyG ci j) (.int x) = true) (hdg : decode (mbM M) pc = .ok (.putfield idx, 3))
    (kk : Ev G d M mc ms Q kc ks (pc + 3) lv rest (h.1, h.2.1, h.2.2.1, upd2 h.2.2.2.1 a j x, h.2.2.2.2)) : Ev G d M mc ms Q kc ks pc lv (.int x :: .ref a :: rest) h := by
  intro p l e s m args below meth c H locs ls X R L hl
  obtain ⟨hlk, hc, hj⟩ := hF
  have hts : ∀ w ∈ TT, w.before args s = true := fun w hw => X.2.2.2.2.1 w (List.mem_cons_of_mem _ hw)
  obtain ⟨hga, cell, q1, q2, q3, q4⟩ := R.obj hs hc
  have hK := X.2.2.2.2.2.2.2.1.1
  have hap := va_apart (own := moM M) hts (u_wsG hc) (ftyG ci) (fun k hk => ftyG_ok hc hk) (nmG_ok hc) hK (vwCl_at hc)
  obtain ⟨hS, hfc, kC, hkC, hkind⟩ := hK.1 ci _ (vwCl_at hc)
  obtain ⟨cf, kf, fi, f, hi, hsl⟩ := hS j hj
  have hlay := hts _ (u_wsG hc _ (u_in_lay hj))
  unfold u_lay at hlay
  rw [if_neg (by rw [hfin]; decide)] at hlay
  have hst := (u_facts hfc hkC (u_lays hts (u_wsG hc) hj) hi).1
  have h6 := u_store hfc hkC hkind hlay hi (ftyG_ok hc hj) hn hfit
  refine W.putK X.1 X.2.1 (f := f) ⟨X.2.2.2.1, hts _ hlk, ⟨_, _, _, hi⟩, hst⟩ (by rw [q2]; exact h6) q1 q3 (by rw [hsl]; exact k2_hasslot (q4 j hj)) rfl rfl hdg fun H' e1 e2 e3 => ?_
  rw [hsl] at e1 ⊢
  refine kk p l e s m args below meth c H' _ ls X (R.write hs e2 e3 (fun q _ => rfl) (fun q z => upd2_ne z) (fun q _ => rfl) ?_) (locs_app L hga) hl
  unfold cellG
  rw [if_pos hc]
  refine t_OB.to (V := updV (fun k => fvalG h ci a k) j (.int x)) ⟨_, e1, q2, q3, t_set q4 hap hj (.int x)⟩ (fun k hk => ?_)
  unfold updV fvalG
  by_cases z : k = j
  · subst z
    simp [hrf, upd2_same]
  · simp [z, upd2_same]
theorem ev_putR {idx ci j n a : Nat} {v : Value} (hs : h.2.1 a = some (ci, n)) (hF : FL M idx ci j) (hfin : (TXG ci j).2.2.2 = false) (hrf : isRf (ftyG ci j) = true) (hn : narrow (ftyG ci j) v = v) (hfit : fits (ftyG ci j) v = true) (hdg : decode (mbM M) pc = .ok (.putfield idx, 3))
    (kk : Ev G d M mc ms Q kc ks (pc + 3) lv rest (h.1, h.2.1, upd2 h.2.2.1 a j v, h.2.2.2.1, h.2.2.2.2)) : Ev G d M mc ms Q kc ks pc lv (v :: .ref a :: rest) h := by
  intro p l e s m args below meth c H locs ls X R L hl
  obtain ⟨hlk, hc, hj⟩ := hF
  have hts : ∀ w ∈ TT, w.before args s = true := fun w hw => X.2.2.2.2.1 w (List.mem_cons_of_mem _ hw)
  obtain ⟨hga, cell, q1, q2, q3, q4⟩ := R.obj hs hc
  have hK := X.2.2.2.2.2.2.2.1.1
  have hap := va_apart (own := moM M) hts (u_wsG hc) (ftyG ci) (fun k hk => ftyG_ok hc hk) (nmG_ok hc) hK (vwCl_at hc)
  obtain ⟨hS, hfc, kC, hkC, hkind⟩ := hK.1 ci _ (vwCl_at hc)
  obtain ⟨cf, kf, fi, f, hi, hsl⟩ := hS j hj
  have hlay := hts _ (u_wsG hc _ (u_in_lay hj))
  unfold u_lay at hlay
  rw [if_neg (by rw [hfin]; decide)] at hlay
  have hst := (u_facts hfc hkC (u_lays hts (u_wsG hc) hj) hi).1
  have h6 := u_store hfc hkC hkind hlay hi (ftyG_ok hc hj) hn hfit
  refine W.putK X.1 X.2.1 (f := f) ⟨X.2.2.2.1, hts _ hlk, ⟨_, _, _, hi⟩, hst⟩ (by rw [q2]; exact h6) q1 q3 (by rw [hsl]; exact k2_hasslot (q4 j hj)) rfl rfl hdg fun H' e1 e2 e3 => ?_
  rw [hsl] at e1 ⊢
  refine kk p l e s m args below meth c H' _ ls X (R.write hs e2 e3 (fun q z => upd2_ne z) (fun q _ => rfl) (fun q _ => rfl) ?_) (locs_app L hga) hl
  unfold cellG
  rw [if_pos hc]
  refine t_OB.to (V := updV (fun k => fvalG h ci a k) j v) ⟨_, e1, q2, q3, t_set q4 hap hj v⟩ (fun k hk => ?_)
  unfold updV fvalG
  by_cases z : k = j
  · subst z
    simp [hrf, upd2_same]
  · simp [z, upd2_same]
/-- a final field, in its class's constructor -/
theorem ev_putF {idx ci j n a : Nat} {v : Value} (hs : h.2.1 a = some (ci, n)) (hF : FL M idx ci j) (hfin : (TXG ci j).2.2.2 = true) (hin : (myM M).name = "<init>") (hdecl : (TXG ci j).1 = moM M) (hrf : isRf (ftyG ci j) = true) (hn : narrow (ftyG ci j) v = v) (hfit : fits (ftyG ci j) v = true) (hdg : decode (mbM M) pc = .ok (.putfield idx, 3))
    (kk : Ev G d M mc ms Q kc ks (pc + 3) lv rest (h.1, h.2.1, upd2 h.2.2.1 a j v, h.2.2.2.1, h.2.2.2.2)) : Ev G d M mc ms Q kc ks pc lv (v :: .ref a :: rest) h := by
  intro p l e s m args below meth c H locs ls X R L hl
  obtain ⟨hlk, hc, hj⟩ := hF
  have hts : ∀ w ∈ TT, w.before args s = true := fun w hw => X.2.2.2.2.1 w (List.mem_cons_of_mem _ hw)
  obtain ⟨hga, cell, q1, q2, q3, q4⟩ := R.obj hs hc
  have hK := X.2.2.2.2.2.2.2.1.1
  have hap := va_apart (own := moM M) hts (u_wsG hc) (ftyG ci) (fun k hk => ftyG_ok hc hk) (nmG_ok hc) hK (vwCl_at hc)
  obtain ⟨hS, hfc, kC, hkC, hkind⟩ := hK.1 ci _ (vwCl_at hc)
  obtain ⟨cf, kf, fi, f, hi, hsl⟩ := hS j hj
  have hlay := hts _ (u_wsG hc _ (u_in_lay hj))
  unfold u_lay at hlay
  rw [if_pos hfin] at hlay
  have hst := (u_facts hfc hkC (u_lays hts (u_wsG hc) hj) hi).1
  have hcf : m.cls = cf := by
    obtain ⟨_, _, c', _, _, _, -, -, hf', -, -, -, hown2, -⟩ := Cond.laysFinal_spec hlay
    have e1 : c' = cf := by have := hi.symm.trans hf'; simp at this; exact this.1.symm
    rw [hdecl] at hown2
    rw [← e1]; exact Option.some.inj (X.2.2.2.1.symm.trans hown2)
  have h6 := u_fits hfc hkC hkind (Or.inr hlay) hi (ftyG_ok hc hj) hn hfit
  refine W.putFinK X.1 X.2.1 X.2.2.2.1 (hts _ hlk) hi hst hcf (X.2.2.2.2.2.2.2.2.trans hin) (by rw [q2]; exact h6) q1 q3 (by rw [hsl]; exact k2_hasslot (q4 j hj)) rfl rfl hdg fun H' e1 e2 e3 => ?_
  rw [hsl] at e1 ⊢
  refine kk p l e s m args below meth c H' _ ls X (R.write hs e2 e3 (fun q z => upd2_ne z) (fun q _ => rfl) (fun q _ => rfl) ?_) (locs_app L hga) hl
  unfold cellG
  rw [if_pos hc]
  refine t_OB.to (V := updV (fun k => fvalG h ci a k) j v) ⟨_, e1, q2, q3, t_set q4 hap hj v⟩ (fun k hk => ?_)
  unfold updV fvalG
  by_cases z : k = j
  · subst z
    simp [hrf, upd2_same]
  · simp [z, upd2_same]
theorem ev_iaload {a n : Nat} {i : Int32} (hs : h.2.1 a = some (10, n)) (hin : vp_in i n) (hdg : decode (mbM M) pc = .ok (.iaload, 1)) (kk : Ev G d M mc ms Q kc ks (pc + 1) lv (.int (h.2.2.2.1 a i.toNatClampNeg) :: rest) h) : Ev G d M mc ms Q kc ks pc lv (.int i :: .ref a :: rest) h := by
  intro p l e s m args below meth c H locs ls X R L hl
  obtain ⟨-, hcell⟩ := R.ints hs
  have hlt : i.toNatClampNeg < n := Nat.not_le.mp fun q => hin (Or.inr q)
  exact W.iald (v := .int (h.2.2.2.1 a i.toNatClampNeg)) X.1 X.2.1 hcell ((X.2.2.2.2.2.2.2.1.1.2 0 _ (tysG_at G (by decide))).1 n (fun j => .int (h.2.2.2.1 a j))) (fun q => by cases q) (by rw [arrV_size]; exact hin) (by rw [arrV_read _ _ hlt]) rfl rfl hdg (kk p l e s m args below meth c H locs ls X R L hl)
theorem ev_laload {a n : Nat} {i : Int32} (hs : h.2.1 a = some (11, n)) (hin : vp_in i n) (hdg : decode (mbM M) pc = .ok (.laload, 1)) (kk : Ev G d M mc ms Q kc ks (pc + 1) lv (.long (h.2.2.2.2 a i.toNatClampNeg) :: rest) h) : Ev G d M mc ms Q kc ks pc lv (.int i :: .ref a :: rest) h := by
  intro p l e s m args below meth c H locs ls X R L hl
  obtain ⟨-, hcell⟩ := R.lngs hs
  have hlt : i.toNatClampNeg < n := Nat.not_le.mp fun q => hin (Or.inr q)
  exact W.lald (v := .long (h.2.2.2.2 a i.toNatClampNeg)) X.1 X.2.1 hcell ((X.2.2.2.2.2.2.2.1.1.2 1 _ (tysG_at G (by decide))).1 n (fun j => .long (h.2.2.2.2 a j))) (fun q => by cases q) (by rw [arrV_size]; exact hin) (by rw [arrV_read _ _ hlt]) rfl rfl hdg (kk p l e s m args below meth c H locs ls X R L hl)
theorem atyG_ref {k : Nat} (h2 : 2 ≤ k) : (atyG k).isReference = true := by
  unfold atyG
  split <;> first | omega | rfl
theorem ev_aaload {a n t : Nat} {i : Int32} {v : Value} (hs : h.2.1 a = some (t, n)) (ht : 12 ≤ t) (hin : vp_in i n) (hv : h.2.2.1 a i.toNatClampNeg = v) (hdg : decode (mbM M) pc = .ok (.aaload, 1)) (kk : Ev G d M mc ms Q kc ks (pc + 1) lv (v :: rest) h) : Ev G d M mc ms Q kc ks pc lv (.int i :: .ref a :: rest) h := by
  intro p l e s m args below meth c H locs ls X R L hl
  obtain ⟨-, ht2, hcell⟩ := R.refs hs ht
  have hlt : i.toNatClampNeg < n := Nat.not_le.mp fun q => hin (Or.inr q)
  exact W.aald (v := v) (ty := atyG (t - 10)) X.1 X.2.1 hcell ((X.2.2.2.2.2.2.2.1.1.2 (t - 10) _ (tysG_at G (by omega))).1 n (fun j => h.2.2.1 a j)) (atyG_ref (by omega)) (fun q => by cases q) (by rw [arrV_size]; exact hin) (by rw [arrV_read _ _ hlt, hv]) rfl rfl hdg (kk p l e s m args below meth c H locs ls X R L hl)
theorem ev_iastore {a n : Nat} {i x : Int32} (hs : h.2.1 a = some (10, n)) (hin : vp_in i n) (hdg : decode (mbM M) pc = .ok (.iastore, 1)) (kk : Ev G d M mc ms Q kc ks (pc + 1) lv rest (h.1, h.2.1, h.2.2.1, upd2 h.2.2.2.1 a i.toNatClampNeg x, h.2.2.2.2)) : Ev G d M mc ms Q kc ks pc lv (.int x :: .int i :: .ref a :: rest) h := by
  intro p l e s m args below meth c H locs ls X R L hl
  obtain ⟨hga, hcell⟩ := R.ints hs
  refine W.iast X.1 X.2.1 hcell ((X.2.2.2.2.2.2.2.1.1.2 0 _ (tysG_at G (by decide))).1 n (fun j => .int (h.2.2.2.1 a j))) (fun q => by cases q) (by rw [arrV_size]; exact hin) rfl rfl hdg fun H1 e1 z oq => ?_
  refine kk p l e s m args below meth c H1 _ ls X (R.write hs z oq (fun q _ => rfl) (fun q z => upd2_ne z) (fun q _ => rfl) ?_) (locs_app L hga) hl
  unfold cellG
  rw [if_neg (show ¬ (10 : Nat) < 7 by decide), if_pos rfl, e1, arrV_store]
  congr 2
  funext q
  by_cases hq : q = i.toNatClampNeg <;> simp [updV, upd2_same, hq]
theorem ev_lastore {a n : Nat} {i : Int32} {x : Int64} (hs : h.2.1 a = some (11, n)) (hin : vp_in i n) (hdg : decode (mbM M) pc = .ok (.lastore, 1)) (kk : Ev G d M mc ms Q kc ks (pc + 1) lv rest (h.1, h.2.1, h.2.2.1, h.2.2.2.1, upd2 h.2.2.2.2 a i.toNatClampNeg x)) : Ev G d M mc ms Q kc ks pc lv (.long x :: .int i :: .ref a :: rest) h := by
  intro p l e s m args below meth c H locs ls X R L hl
  obtain ⟨hga, hcell⟩ := R.lngs hs
  refine W.last X.1 X.2.1 hcell ((X.2.2.2.2.2.2.2.1.1.2 1 _ (tysG_at G (by decide))).1 n (fun j => .long (h.2.2.2.2 a j))) (fun q => by cases q) (by rw [arrV_size]; exact hin) rfl rfl hdg fun H1 e1 z oq => ?_
  refine kk p l e s m args below meth c H1 _ ls X (R.write hs z oq (fun q _ => rfl) (fun q _ => rfl) (fun q z => upd2_ne z) ?_) (locs_app L hga) hl
  unfold cellG
  rw [if_neg (show ¬ (11 : Nat) < 7 by decide), if_neg (show ¬ (11 : Nat) = 10 by decide), if_pos rfl, e1, arrV_store]
  congr 2
  funext q
  by_cases hq : q = i.toNatClampNeg <;> simp [updV, upd2_same, hq]
theorem ev_alenI {a n : Nat} {v : Int32} (hs : h.2.1 a = some (10, n)) (hv : Int32.ofNat n = v) (hdg : decode (mbM M) pc = .ok (.arraylength, 1)) (kk : Ev G d M mc ms Q kc ks (pc + 1) lv (.int v :: rest) h) : Ev G d M mc ms Q kc ks pc lv (.ref a :: rest) h := by
  intro p l e s m args below meth c H locs ls X R L hl
  obtain ⟨-, hcell⟩ := R.ints hs
  exact W.alen (n := v) X.1 X.2.1 hcell ((X.2.2.2.2.2.2.2.1.1.2 0 _ (tysG_at G (by decide))).1 n (fun j => .int (h.2.2.2.1 a j))) (by rw [arrV_size]; exact hv) rfl rfl hdg (kk p l e s m args below meth c H locs ls X R L hl)
/-- the returns -/
theorem ev_iret {x : Int32} (hr : mrM M = some .int) (hq : Q (some (.int x)) h) (h1 : kc ≤ mc) (h2 : ks ≤ ms) (hdg : decode (mbM M) pc = .ok (.ireturn, 1)) : Ev G d M mc ms Q kc ks pc lv [.int x] h := by
  intro p l e s m args below meth c H locs ls X R L hl
  refine W.widen h1 h2 ?_
  exact W.iret X.1 X.2.1 (X.2.2.2.2.2.1.trans hr) (fun t ht _ => ⟨_, h, rfl, hq, by rw [ht]; exact R⟩) L hdg X.2.2.2.2.2.2.1
theorem ev_lret {x : Int64} (hr : mrM M = some .long) (hq : Q (some (.long x)) h) (h1 : kc ≤ mc) (h2 : ks ≤ ms) (hdg : decode (mbM M) pc = .ok (.lreturn, 1)) : Ev G d M mc ms Q kc ks pc lv [.long x] h := by
  intro p l e s m args below meth c H locs ls X R L hl
  refine W.widen h1 h2 ?_
  exact W.lret X.1 X.2.1 (X.2.2.2.2.2.1.trans hr) (fun t ht _ => ⟨_, h, rfl, hq, by rw [ht]; exact R⟩) L hdg X.2.2.2.2.2.2.1
theorem ev_vret (hr : mrM M = none) (hq : Q none h) (h1 : kc ≤ mc) (h2 : ks ≤ ms) (hdg : decode (mbM M) pc = .ok (.return_, 1)) : Ev G d M mc ms Q kc ks pc lv [] h := by
  intro p l e s m args below meth c H locs ls X R L hl
  refine W.widen h1 h2 ?_
  exact W.vret X.1 X.2.1 (X.2.2.2.2.2.1.trans hr) (fun t ht _ => ⟨_, h, rfl, hq, by rw [ht]; exact R⟩) L hdg X.2.2.2.2.2.2.1
theorem ev_aret {x : Nat} {C : String} (hr : mrM M = some (.object C)) (hq : Q (some (.ref x)) h) (h1 : kc ≤ mc) (h2 : ks ≤ ms) (hdg : decode (mbM M) pc = .ok (.areturn, 1)) : Ev G d M mc ms Q kc ks pc lv [.ref x] h := by
  intro p l e s m args below meth c H locs ls X R L hl
  refine W.widen h1 h2 ?_
  exact W.aret X.1 X.2.1 (X.2.2.2.2.2.1.trans hr) (Or.inl ⟨C, rfl⟩) (Or.inr ⟨x, rfl⟩) (fun t ht _ => ⟨_, h, rfl, hq, by rw [ht]; exact R⟩) L hdg X.2.2.2.2.2.2.1
/-- what a boolean's return keeps of an int -/
def nbZ (x : Int32) : Int32 := vp_nar .boolean x
theorem nbZ_eq (x : Int32) : narrow .boolean (.int x) = .int (nbZ x) := by
  unfold nbZ vp_nar
  simp [narrow]
theorem ev_zret {x : Int32} (hr : mrM M = some .boolean) (hq : Q (some (.int (nbZ x))) h) (h1 : kc ≤ mc) (h2 : ks ≤ ms) (hdg : decode (mbM M) pc = .ok (.ireturn, 1)) : Ev G d M mc ms Q kc ks pc lv [.int x] h := by
  intro p l e s m args below meth c H locs ls X R L hl
  refine W.widen h1 h2 ?_
  intro T hT X0
  obtain ⟨fs, hret, hrun, hended, hW, hframe⟩ := X0.leave (v := some (.int (nbZ x))) (hlocks := X.2.2.2.2.2.2.1) (fun z => by rw [X.2.2.2.2.2.1, hr] at z; cases z)
  have hmeth' : T.vm.method? m = some meth := X0.method'
  refine ⟨T.setFrames fs, ?_, .returned (some (.int (nbZ x))), hrun, hended, ⟨_, h, rfl, hq, by rw [show (T.setFrames fs).heap = T.heap from rfl, hT]; exact R⟩, locs, ⟨⟨_, rfl⟩, hW, hframe⟩, L⟩
  jvm_step X0.here [X0.here.top, X.1, X.2.1, hdg, hmeth', X.2.2.2.2.2.1, hr, nbZ_eq]
  (try refine ⟨rfl, ?_⟩); (try refine ⟨rfl, ?_⟩)
  first | (intro acts; rw [hret _ acts rfl rfl rfl]) | rw [hret _ _ rfl rfl rfl]
  exact Steps.refl _
/-- the table of orders -/
theorem ev_getsO {idx : Nat} (hlk : Cond.fieldLink (moM M) idx "BeforeItDrips$Cone" "ORDER_ROWS" "[I" ∈ TT) (hdg : decode (mbM M) pc = .ok (.getstatic idx, 3)) (kk : Ev G d M mc ms Q kc ks (pc + 3) lv (.ref (G.2.2.2.1 20) :: rest) h) : Ev G d M mc ms Q kc ks pc lv rest h := by
  intro p l e s m args below meth c H locs ls X R L hl
  have hts : ∀ w ∈ TT, w.before args s = true := fun w hw => X.2.2.2.2.1 w (List.mem_cons_of_mem _ hw)
  obtain ⟨cf, kf, fi, f, a, cell, h1, h2, h3, h4, h5, h6, h7, h8⟩ := X.2.2.2.2.2.2.2.1.2.2.1.1.1
  exact W.gets X.1 X.2.1 X.2.2.2.1 (hts _ hlk) h1 h2 h3 h4 (by rw [R.2.2.1 a (Array.getElem?_eq_some_iff.mp h5).1]; exact h5) (fun e => by rw [e] at h6; cases h6) h7 rfl hdg (kk p l e s m args below meth c H locs ls X R L hl)
theorem ev_oaload {i x : Int32} (hin : vp_in i 18) (hx : orderRows.getD i.toNatClampNeg 0 = x) (hdg : decode (mbM M) pc = .ok (.iaload, 1)) (kk : Ev G d M mc ms Q kc ks (pc + 1) lv (.int x :: rest) h) : Ev G d M mc ms Q kc ks pc lv (.int i :: .ref (G.2.2.2.1 20) :: rest) h := by
  intro p l e s m args below meth c H locs ls X R L hl
  obtain ⟨cell, h1, h2, h3, h4, h5, h6, h7⟩ := X.2.2.2.2.2.2.2.1.2.2.1.1.2
  have hlt : i.toNatClampNeg < 18 := Nat.not_le.mp fun q => hin (Or.inr q)
  have hin' : ¬ (i < 0 ∨ cell.slots.size ≤ i.toNatClampNeg) := by
    intro q
    rcases q with q | q
    · exact hin (Or.inl q)
    · omega
  exact W.iald (v := .int x) X.1 X.2.1 (by rw [R.2.2.1 _ (Array.getElem?_eq_some_iff.mp h1).1]; exact h1) h2 h3 hin' (by rw [h6 _ hlt]; exact congrArg (fun z => some (Value.int z)) hx) rfl rfl hdg (kk p l e s m args below meth c H locs ls X R L hl)
theorem ev_oalen {v : Int32} (hv : Int32.ofNat 18 = v) (hdg : decode (mbM M) pc = .ok (.arraylength, 1)) (kk : Ev G d M mc ms Q kc ks (pc + 1) lv (.int v :: rest) h) : Ev G d M mc ms Q kc ks pc lv (.ref (G.2.2.2.1 20) :: rest) h := by
  intro p l e s m args below meth c H locs ls X R L hl
  subst hv
  obtain ⟨cell, h1, h2, h3, h4, h5, h6, h7⟩ := X.2.2.2.2.2.2.2.1.2.2.1.1.2
  exact W.alen (n := Int32.ofNat 18) X.1 X.2.1 (by rw [R.2.2.1 _ (Array.getElem?_eq_some_iff.mp h1).1]; exact h1) h2 h5 rfl rfl hdg (kk p l e s m args below meth c H locs ls X R L hl)
/-- what the tables say of a callee -/
def CalF (N : MI) : Prop := Cond.code (myM N) (mbM N) (mlM N) (mrM N) ∈ TT ∧ Cond.initialized (myM N).cls ∈ TT ∧ ((myM N).cls ≠ "java/lang/invoke/MethodHandle" ∧ (myM N).cls ≠ "java/lang/invoke/VarHandle") ∧ mlM N ≤ 45
def CalV (N : MI) (ci n : Nat) : Prop := CalF N ∧ Cond.instanceMethod (myM N) ∈ TT ∧ Cond.selects (RXG ci) (myM N) (myM N) ∈ TT ∧ ci < 7 ∧ (parseMethodDescriptor (myM N).desc).map (fun z => z.parameters.length) = some n
def CalS (N : MI) (n : Nat) : Prop := CalF N ∧ Cond.static (myM N) ∈ TT ∧ (parseMethodDescriptor (myM N).desc).map (fun z => z.parameters.length) = some n
def CalI (N : MI) (n : Nat) : Prop := CalF N ∧ Cond.instanceMethod (myM N) ∈ TT ∧ (myM N).name = "<init>" ∧ mrM N = none ∧ (parseMethodDescriptor (myM N).desc).map (fun z => z.parameters.length) = some n
theorem blindG {G : GG} {av : List Value} {h : PH} : FrameBlind (va_Pc av (fun U => KK G U ∧ RelH G h U.heap)) := fun _ U g mk q => ⟨q.1, KK.same (u := U) (U := U.calling g mk _) rfl q.2.1, q.2.2⟩
theorem preG {G : GG} {h : PH} {H : Heap} {s : State} (hK : KK G s) (R : RelH G h H) (av : List Value) : ∀ U : State, U.heap = H → s.WarmedH U.vm → va_Pc av (fun U => KK G U ∧ RelH G h U.heap) av.toArray U := fun U hU hW => ⟨rfl, hK.warm hW, by rw [hU]; exact R⟩
theorem ev_run {N : MI} {idx d' mc' ms' : Nat} {Q' : Option Value → PH → Prop} {p : Program} {l : Launch} {e : Env} {s : State} {m : MethodId} {args a : Array Value} {below : List Frame} {meth : Method} {c : Code} {H : Heap} {locs : List Loc} {ls : Array Slot} {st : List Value} {QQ : State → Prop}
    (hr : va_Run p l e (rmD d mc ms) s m args below meth c H locs kc ks mc' ms' (F0 m pc ls st) rest (QcG G Q' a) (fun q => G.2.2.1.size ≤ q)) (L : ∀ x ∈ locs, G.2.2.1.size ≤ x.base)
    (kk : ∀ (v : Option Value) (h' : PH) (H1 : Heap) (locs1 : List Loc), Q' v h' → RelH G h' H1 → (∀ x ∈ locs1, G.2.2.1.size ≤ x.base) → W p l e (rmD d mc ms) s m args below meth c H1 locs1 (kc + mc') (ks + ms') QQ (F0 m (pc + 3) ls (v.toList ++ rest))) :
    W p l e (rmD d mc ms) s m args below meth c H locs kc ks QQ (F0 m pc ls st) := by
  intro T hT X
  obtain ⟨v, st₀, t, T', LL, h0, X', hL, e1, e2, ⟨v', h', hv, hq, hR⟩, st2⟩ := hr T hT X
  cases hv
  obtain ⟨t2, a1, b1⟩ := kk v h' T'.heap (locs ++ LL) hq (by rw [e1]; exact hR) (fun x hx => by
    rcases List.mem_append.mp hx with z | z
    · exact L x z
    · exact hL x z) T' rfl X'
  exact ⟨t2, st2 t2 a1, b1⟩
theorem ev_invV {N : MI} {idx d' mc' ms' ci n k0 b : Nat} {As st : List Value} {Q' : Option Value → PH → Prop} (hM : MtG G d' N mc' ms' (.ref b :: As) h Q') (hC : CalV N ci n) (hlk : Cond.methodLink (moM M) idx (myM N) ∈ TT) (hd : d' + 1 ≤ d) (hs : h.2.1 b = some (ci, k0)) (hst : st = As.reverse ++ .ref b :: rest) (hn : As.length = n) (hW : (rest.map fun v => v.category).sum ≤ 8) (h1 : kc + mc' ≤ mc) (h2 : ks + ms' ≤ ms) (hdg : decode (mbM M) pc = .ok (.invokevirtual idx, 3))
    (kk : ∀ (v : Option Value) (h' : PH), Q' v h' → Ev G d M mc ms Q (kc + mc') (ks + ms') (pc + 3) lv (v.toList ++ rest) h') : Ev G d M mc ms Q kc ks pc lv st h := by
  intro p l e s m args below meth c H locs ls X R L hl
  obtain ⟨⟨c1, c2, c3, c4⟩, c5, c6, c7, c8⟩ := hC
  have hts : ∀ w ∈ TT, w.before args s = true := fun w hw => X.2.2.2.2.1 w (List.mem_cons_of_mem _ hw)
  obtain ⟨-, cell, q1, q2, q3, q4⟩ := R.obj hs c7
  have hcls := (X.2.2.2.2.2.2.2.1.1.1 ci _ (vwCl_at c7)).2.1
  refine ev_run (N := N) (idx := idx) (d' := d') (G := G) (Q' := Q') (va_runV (C := RXG ci) (own := moM M) (index := idx) (y := myM N) (bytes := mbM N) (maxL := mlM N) (ret := mrM N) (ws := wsM N) (rm := rmD d' mc' ms') (n := n) ⟨X.1, X.2.1, X.2.2.1, X.2.2.2.1, X.2.2.2.2.1⟩ (hM l) ⟨?_, hts _ c5, hts _ c6⟩ ⟨blindG, ⟨cell, q1, by rw [q3]; rfl, by rw [q2]; exact hcls⟩, preG X.2.2.2.2.2.2.2.1 R _⟩ rfl hn hl.1 hst (lv_room hW) hdg ⟨h1, h2⟩) L (fun v h' H1 locs1 hq hR L1 => kk v h' hq p l e s m args below meth c H1 locs1 ls X hR L1 hl)
  refine callB_of (ws' := TT) n X.2.2.2.2.1 (wsM_good c1) rfl rfl rfl (hts _ c2) (hts _ hlk) ⟨c3.1, c3.2, c8⟩ ⟨hd, ?_⟩
  show 8 + (mlM N + 11) + 64 * d' ≤ 64 * d
  omega
theorem ev_invS {N : MI} {idx d' mc' ms' n : Nat} {As st : List Value} {Q' : Option Value → PH → Prop} (hM : MtG G d' N mc' ms' As h Q') (hC : CalS N n) (hlk : Cond.methodLink (moM M) idx (myM N) ∈ TT) (hd : d' + 1 ≤ d) (hst : st = As.reverse ++ rest) (hn : As.length = n) (hW : (rest.map fun v => v.category).sum ≤ 8) (h1 : kc + mc' ≤ mc) (h2 : ks + ms' ≤ ms) (hdg : decode (mbM M) pc = .ok (.invokestatic idx, 3))
    (kk : ∀ (v : Option Value) (h' : PH), Q' v h' → Ev G d M mc ms Q (kc + mc') (ks + ms') (pc + 3) lv (v.toList ++ rest) h') : Ev G d M mc ms Q kc ks pc lv st h := by
  intro p l e s m args below meth c H locs ls X R L hl
  obtain ⟨⟨c1, c2, c3, c4⟩, c5, c8⟩ := hC
  have hts : ∀ w ∈ TT, w.before args s = true := fun w hw => X.2.2.2.2.1 w (List.mem_cons_of_mem _ hw)
  refine ev_run (N := N) (idx := idx) (d' := d') (G := G) (Q' := Q') (va_runS (own := moM M) (index := idx) (y := myM N) (bytes := mbM N) (maxL := mlM N) (ret := mrM N) (ws := wsM N) (rm := rmD d' mc' ms') (n := n) ⟨X.1, X.2.1, X.2.2.1, X.2.2.2.1, X.2.2.2.2.1⟩ (hM l) ⟨?_, hts _ c5⟩ ⟨blindG, preG X.2.2.2.2.2.2.2.1 R _⟩ rfl hn hl.1 hst (lv_room hW) hdg ⟨h1, h2⟩) L (fun v h' H1 locs1 hq hR L1 => kk v h' hq p l e s m args below meth c H1 locs1 ls X hR L1 hl)
  refine callB_of (ws' := TT) n X.2.2.2.2.1 (wsM_good c1) rfl rfl rfl (hts _ c2) (hts _ hlk) ⟨c3.1, c3.2, c8⟩ ⟨hd, ?_⟩
  show 8 + (mlM N + 11) + 64 * d' ≤ 64 * d
  omega
theorem ev_invI {N : MI} {idx d' mc' ms' n b : Nat} {As st : List Value} {Q' : Option Value → PH → Prop} (hM : MtG G d' N mc' ms' (.ref b :: As) h Q') (hC : CalI N n) (hlk : Cond.methodLink (moM M) idx (myM N) ∈ TT) (hd : d' + 1 ≤ d) (hst : st = As.reverse ++ .ref b :: rest) (hn : As.length = n) (hW : (rest.map fun v => v.category).sum ≤ 8) (h1 : kc + mc' ≤ mc) (h2 : ks + ms' ≤ ms) (hdg : decode (mbM M) pc = .ok (.invokespecial idx, 3))
    (kk : ∀ (v : Option Value) (h' : PH), Q' v h' → Ev G d M mc ms Q (kc + mc') (ks + ms') (pc + 3) lv (v.toList ++ rest) h') : Ev G d M mc ms Q kc ks pc lv st h := by
  intro p l e s m args below meth c H locs ls X R L hl
  obtain ⟨⟨c1, c2, c3, c4⟩, c5, c6, c7, c8⟩ := hC
  have hts : ∀ w ∈ TT, w.before args s = true := fun w hw => X.2.2.2.2.1 w (List.mem_cons_of_mem _ hw)
  have hw0 : wsM N = Cond.code (myM N) (mbM N) (mlM N) none :: TT := by unfold wsM; rw [c7]
  have hG0 : GoodIn (wsM M) (wsM N) := wsM_good c1
  refine ev_run (N := N) (idx := idx) (d' := d') (G := G) (Q' := Q') (va_runI (own := moM M) (index := idx) (y := myM N) (bytes := mbM N) (maxL := mlM N) (ws := wsM N) (rm := rmD d' mc' ms') (n := n) ⟨X.1, X.2.1, X.2.2.1, X.2.2.2.1, X.2.2.2.2.1⟩ (hM l) ⟨?_, c6, hts _ c5⟩ ⟨blindG, preG X.2.2.2.2.2.2.2.1 R _⟩ rfl hn hl.1 hst (lv_room hW) hdg ⟨h1, h2⟩) L (fun v h' H1 locs1 hq hR L1 => kk v h' hq p l e s m args below meth c H1 locs1 ls X hR L1 hl)
  refine callB_of (ws' := TT) n X.2.2.2.2.1 hG0 hw0 rfl rfl (hts _ c2) (hts _ hlk) ⟨c3.1, c3.2, c8⟩ ⟨hd, ?_⟩
  show 8 + (mlM N + 11) + 64 * d' ≤ 64 * d
  omega
theorem ev_invIN {N : MI} {host : String} {idx d' mc' ms' n b : Nat} {As st : List Value} {Q' : Option Value → PH → Prop} (hM : MtG G d' N mc' ms' (.ref b :: As) h Q') (hC : CalI N n) (hlk : Cond.methodLinkNest (moM M) idx (myM N) host ∈ nestW) (hd : d' + 1 ≤ d) (hst : st = As.reverse ++ .ref b :: rest) (hn : As.length = n) (hW : (rest.map fun v => v.category).sum ≤ 8) (h1 : kc + mc' ≤ mc) (h2 : ks + ms' ≤ ms) (hdg : decode (mbM M) pc = .ok (.invokespecial idx, 3))
    (kk : ∀ (v : Option Value) (h' : PH), Q' v h' → Ev G d M mc ms Q (kc + mc') (ks + ms') (pc + 3) lv (v.toList ++ rest) h') : Ev G d M mc ms Q kc ks pc lv st h := by
  intro p l e s m args below meth c H locs ls X R L hl
  obtain ⟨⟨c1, c2, c3, c4⟩, c5, c6, c7, c8⟩ := hC
  have hts : ∀ w ∈ TT, w.before args s = true := fun w hw => X.2.2.2.2.1 w (List.mem_cons_of_mem _ hw)
  have hw0 : wsM N = Cond.code (myM N) (mbM N) (mlM N) none :: TT := by unfold wsM; rw [c7]
  have hG0 : GoodIn (wsM M) (wsM N) := wsM_good c1
  refine ev_run (N := N) (idx := idx) (d' := d') (G := G) (Q' := Q') (va_runIN (own := moM M) (index := idx) (y := myM N) (bytes := mbM N) (maxL := mlM N) (ws := wsM N) (rm := rmD d' mc' ms') (n := n) (host := host) ⟨X.1, X.2.1, X.2.2.1, X.2.2.2.1, X.2.2.2.2.1⟩ (hM l) ⟨?_, c6, hts _ c5⟩ ⟨blindG, preG X.2.2.2.2.2.2.2.1 R _⟩ rfl hn hl.1 hst (lv_room hW) hdg ⟨h1, h2⟩) L (fun v h' H1 locs1 hq hR L1 => kk v h' hq p l e s m args below meth c H1 locs1 ls X hR L1 hl)
  refine va_cnB (ws' := TT) n X.2.2.2.2.1 hG0 hw0 rfl rfl (X.2.2.2.2.2.2.2.1.2.1 _ hlk) (hts _ c2) ⟨c3.1, c3.2, c8⟩ ⟨hd, ?_⟩
  show 8 + (mlM N + 11) + 64 * d' ≤ 64 * d
  omega
end EV
end
section
/-! THE LOCAL LAYER EvF: a method sees places 0 .. n-1, at addresses pl 0 .. pl (n-1); its state is two functions of (place, index): ints and longs. -/
abbrev SS : Type := (Nat → Nat → Int32) × (Nat → Nat → Int64)
/-- S, but at the addresses pl 0 .. pl (n-1) what C holds at the places -/
def mrg {α : Type} (pl : Nat → Nat) : Nat → (Nat → Nat → α) → (Nat → Nat → α) → Nat → Nat → α
  | 0, S, _ => S
  | n + 1, S, C => fun q => if q = pl n then C n else mrg pl n S C q
def injN (pl : Nat → Nat) (n : Nat) : Prop := ∀ i j : Nat, i < n → j < n → pl i = pl j → i = j
theorem mrg_at {α : Type} {pl : Nat → Nat} {S C : Nat → Nat → α} : ∀ {n : Nat}, injN pl n → ∀ {k : Nat}, k < n → mrg pl n S C (pl k) = C k
  | 0, _, _, hk => absurd hk (Nat.not_lt_zero _)
  | n + 1, hi, k, hk => by
    show (if pl k = pl n then C n else mrg pl n S C (pl k)) = C k
    by_cases z : k = n
    · subst z
      rw [if_pos rfl]
    · rw [if_neg (fun e => z (hi k n hk (Nat.lt_succ_self n) e))]
      exact mrg_at (fun i j h1 h2 e => hi i j (Nat.lt_succ_of_lt h1) (Nat.lt_succ_of_lt h2) e) (by omega)
theorem mrg_off {α : Type} {pl : Nat → Nat} {S C : Nat → Nat → α} {q : Nat} : ∀ {n : Nat}, (∀ k : Nat, k < n → q ≠ pl k) → mrg pl n S C q = S q
  | 0, _ => rfl
  | n + 1, h => by
    show (if q = pl n then C n else mrg pl n S C q) = S q
    rw [if_neg (h n (Nat.lt_succ_self n))]
    exact mrg_off (fun k hk => h k (Nat.lt_succ_of_lt hk))
theorem mrg_cases {pl : Nat → Nat} (n q : Nat) : (∃ k : Nat, k < n ∧ q = pl k) ∨ (∀ k : Nat, k < n → q ≠ pl k) := by
  by_cases h : ∃ k : Nat, k < n ∧ q = pl k
  · exact Or.inl h
  · exact Or.inr (fun k hk e => h ⟨k, hk, e⟩)
theorem mrg_set {α : Type} {pl : Nat → Nat} {S C : Nat → Nat → α} {n k i : Nat} {v : α} (hi : injN pl n) (hk : k < n) : upd2 (mrg pl n S C) (pl k) i v = mrg pl n S (upd2 C k i v) := by
  funext q
  rcases mrg_cases (pl := pl) n q with ⟨j, hj, rfl⟩ | hq
  · rw [mrg_at hi hj]
    by_cases z : j = k
    · subst z
      funext w
      rw [upd2_same, upd2_same, mrg_at hi hj]
    · rw [upd2_ne (fun e => z (hi j k hj hk e)), upd2_ne z, mrg_at hi hj]
  · rw [mrg_off hq, upd2_ne (hq k hk), mrg_off hq]
theorem mrg_id {α : Type} {pl : Nat → Nat} {S : Nat → Nat → α} {n : Nat} (hi : injN pl n) : mrg pl n S (fun k => S (pl k)) = S := by
  funext q
  rcases mrg_cases (pl := pl) n q with ⟨j, hj, rfl⟩ | hq
  · rw [mrg_at hi hj]
  · rw [mrg_off hq]
theorem mrg_comp {α : Type} {pl π : Nat → Nat} {S C D : Nat → Nat → α} {n n' : Nat} (hi : injN pl n) (hp : injN π n') (hn : ∀ k : Nat, k < n' → π k < n) : mrg (fun k => pl (π k)) n' (mrg pl n S C) D = mrg pl n S (mrg π n' C D) := by
  funext q
  have hip : injN (fun k => pl (π k)) n' := fun i j h1 h2 e => hp i j h1 h2 (hi _ _ (hn i h1) (hn j h2) e)
  rcases mrg_cases (pl := fun k => pl (π k)) n' q with ⟨j, hj, rfl⟩ | hq
  · rw [mrg_at hip hj]
    show D j = mrg pl n S (mrg π n' C D) (pl (π j))
    rw [mrg_at hi (hn j hj), mrg_at hp hj]
  · rw [mrg_off hq]
    rcases mrg_cases (pl := pl) n q with ⟨j, hj, rfl⟩ | hq2
    · rw [mrg_at hi hj, mrg_at hi hj, mrg_off (fun k hk e => hq k hk (by rw [e]))]
    · rw [mrg_off hq2, mrg_off hq2]
theorem mrg_congr {α : Type} {pl : Nat → Nat} {S C D : Nat → Nat → α} {n : Nat} (hi : injN pl n) (h : ∀ k : Nat, k < n → C k = D k) : mrg pl n S C = mrg pl n S D := by
  funext q
  rcases mrg_cases (pl := pl) n q with ⟨j, hj, rfl⟩ | hq
  · rw [mrg_at hi hj, mrg_at hi hj, h j hj]
  · rw [mrg_off hq, mrg_off hq]
/-- a layout: of each place its shape, and which place each of its references names -/
abbrev LY : Type := List ((Nat × Nat) × List (Nat × Nat))
def LayOK (ly : LY) (pl : Nat → Nat) (h : PH) : Prop := injN pl ly.length ∧ ∀ (k : Nat) (e : (Nat × Nat) × List (Nat × Nat)), ly[k]? = some e → h.2.1 (pl k) = some e.1 ∧ ∀ j t : Nat, e.2.lookup j = some t → h.2.2.1 (pl k) j = .ref (pl t)
def layMap (ly ly' : LY) (π : Nat → Nat) : Bool :=
  (List.range ly'.length).all (fun k => match ly[π k]?, ly'[k]? with
    | some e, some e' => decide (e.1 = e'.1) && e'.2.all (fun q => decide (e.2.lookup q.1 = some (π q.2)))
    | _, _ => false) &&
  (List.range ly'.length).all (fun i => decide (π i < ly.length) && (List.range ly'.length).all (fun j => decide (i = j) || decide (π i ≠ π j)))
theorem lookup_mem {l : List (Nat × Nat)} {j t : Nat} (h : l.lookup j = some t) : (j, t) ∈ l := by
  induction l with
  | nil => cases h
  | cons a l ih =>
    obtain ⟨x, y⟩ := a
    rw [List.lookup_cons] at h
    by_cases z : j == x
    · simp only [z] at h
      have : j = x := by simpa using z
      subst this
      cases h
      exact List.mem_cons_self
    · simp only [z] at h
      exact List.mem_cons_of_mem _ (ih h)
theorem layMap_spec {ly ly' : LY} {π : Nat → Nat} (h : layMap ly ly' π = true) : injN π ly'.length ∧ (∀ k : Nat, k < ly'.length → π k < ly.length) ∧ ∀ (k : Nat) (e' : (Nat × Nat) × List (Nat × Nat)), ly'[k]? = some e' → ∃ e, ly[π k]? = some e ∧ e.1 = e'.1 ∧ ∀ j t : Nat, e'.2.lookup j = some t → e.2.lookup j = some (π t) := by
  unfold layMap at h
  simp only [Bool.and_eq_true, List.all_eq_true, List.mem_range] at h
  obtain ⟨h1, h2⟩ := h
  refine ⟨fun i j hi hj e => ?_, fun k hk => by simpa using (h2 k hk).1, fun k e' hk => ?_⟩
  · have := (h2 i hi).2 j hj
    simp only [Bool.or_eq_true, decide_eq_true_eq] at this
    rcases this with z | z
    · exact z
    · exact absurd e z
  · have hl : k < ly'.length := (List.getElem?_eq_some_iff.mp hk).1
    have h3 := h1 k hl
    rw [hk] at h3
    cases hp : ly[π k]? with
    | none => rw [hp] at h3; cases h3
    | some e =>
      rw [hp] at h3
      simp only [Bool.and_eq_true, decide_eq_true_eq, List.all_eq_true] at h3
      exact ⟨e, rfl, h3.1, fun j t ht => h3.2 (j, t) (lookup_mem ht)⟩
theorem LayOK.sub {ly ly' : LY} {pl : Nat → Nat} {h : PH} {π : Nat → Nat} (H : LayOK ly pl h) (hm : layMap ly ly' π = true) : LayOK ly' (fun k => pl (π k)) h := by
  obtain ⟨m1, m2, m3⟩ := layMap_spec hm
  refine ⟨fun i j hi hj e => m1 i j hi hj (H.1 _ _ (m2 i hi) (m2 j hj) e), fun k e' hk => ?_⟩
  obtain ⟨e, g1, g2, g3⟩ := m3 k e' hk
  obtain ⟨w1, w2⟩ := H.2 _ e g1
  exact ⟨by rw [w1, g2], fun j t ht => w2 j (π t) (g3 j t ht)⟩
/-- the heap h0, but at the places of pl what s holds -/
def LH (pl : Nat → Nat) (n : Nat) (h0 : PH) (s : SS) : PH := (h0.1, h0.2.1, h0.2.2.1, mrg pl n h0.2.2.2.1 s.1, mrg pl n h0.2.2.2.2 s.2)
def selS (π : Nat → Nat) (s : SS) : SS := (fun k => s.1 (π k), fun k => s.2 (π k))
def mrgS (π : Nat → Nat) (n : Nat) (s t : SS) : SS := (mrg π n s.1 t.1, mrg π n s.2 t.2)
def wrI (s : SS) (k i : Nat) (v : Int32) : SS := (upd2 s.1 k i v, s.2)
def wrL (s : SS) (k i : Nat) (v : Int64) : SS := (s.1, upd2 s.2 k i v)
theorem LH_id {pl : Nat → Nat} {n : Nat} {h : PH} (hi : injN pl n) : LH pl n h (fun k => h.2.2.2.1 (pl k), fun k => h.2.2.2.2 (pl k)) = h := by
  unfold LH
  simp only [mrg_id hi]
theorem LH_wrI {pl : Nat → Nat} {n : Nat} {h0 : PH} {s : SS} {k i : Nat} {v : Int32} (hi : injN pl n) (hk : k < n) : LH pl n h0 (wrI s k i v) = (h0.1, h0.2.1, h0.2.2.1, upd2 (LH pl n h0 s).2.2.2.1 (pl k) i v, (LH pl n h0 s).2.2.2.2) := by
  unfold LH wrI
  simp only [mrg_set hi hk]
theorem LH_wrL {pl : Nat → Nat} {n : Nat} {h0 : PH} {s : SS} {k i : Nat} {v : Int64} (hi : injN pl n) (hk : k < n) : LH pl n h0 (wrL s k i v) = (h0.1, h0.2.1, h0.2.2.1, (LH pl n h0 s).2.2.2.1, upd2 (LH pl n h0 s).2.2.2.2 (pl k) i v) := by
  unfold LH wrL
  simp only [mrg_set hi hk]
theorem LH_call {pl π : Nat → Nat} {n n' : Nat} {h0 : PH} {s t : SS} (hi : injN pl n) (hp : injN π n') (hn : ∀ k : Nat, k < n' → π k < n) : LH (fun k => pl (π k)) n' (LH pl n h0 s) t = LH pl n h0 (mrgS π n' s t) := by
  unfold LH mrgS
  simp only [mrg_comp hi hp hn]
theorem LH_sel {pl π : Nat → Nat} {n n' : Nat} {h0 : PH} {s : SS} (hi : injN pl n) (hp : injN π n') (hn : ∀ k : Nat, k < n' → π k < n) : LH (fun k => pl (π k)) n' (LH pl n h0 s) (selS π s) = LH pl n h0 s := by
  have hip : injN (fun k => pl (π k)) n' := fun i j h1 h2 e => hp i j h1 h2 (hi _ _ (hn i h1) (hn j h2) e)
  have e1 := LH_id (n := n') (h := LH pl n h0 s) hip
  refine Eq.trans ?_ e1
  unfold LH selS
  congr 4
  · exact mrg_congr hip (fun k hk => (mrg_at hi (hn k hk)).symm)
  · exact mrg_congr hip (fun k hk => (mrg_at hi (hn k hk)).symm)
def Qf {ρ : Type} (rv : ρ → Option Value) (pl : Nat → Nat) (n : Nat) (h0 : PH) (r : ρ) (s' : SS) : Option Value → PH → Prop := fun v h' => v = rv r ∧ h' = LH pl n h0 s'
/-- where f ends with r and s', the machine returns r and the heap holds s' -/
def EvF (G : GG) (d : Nat) (M : MI) (ly : LY) (pl : Nat → Nat) (h0 : PH) {ρ : Type} (rv : ρ → Option Value) (f : Option (ρ × SS)) (pc : Nat) (lv : List (Nat × Value)) (st : List Value) (s : SS) : Prop :=
  LayOK ly pl h0 → ∀ (r : ρ) (s' : SS), f = some (r, s') → Ev G d M 0 0 (Qf rv pl ly.length h0 r s') 0 0 pc lv st (LH pl ly.length h0 s)
/-- a method's contract by its function -/
def MtF (d : Nat) (M : MI) (ly : LY) {ρ : Type} (rv : ρ → Option Value) (av : GG → (Nat → Nat) → List Value) (f : SS → Option (ρ × SS)) : Prop :=
  ∀ (pl : Nat → Nat) (h0 : PH), LayOK ly pl h0 → ∀ (s : SS) (r : ρ) (s' : SS), f s = some (r, s') → Mt d M 0 0 (fun G => av G pl) (LH pl ly.length h0 s) (Qf rv pl ly.length h0 r s')
def rvU (_ : Unit) : Option Value := none
def rvI (x : Int32) : Option Value := some (.int x)
def rvL (x : Int64) : Option Value := some (.long x)
theorem MtF.of {d : Nat} {M : MI} {ly : LY} {ρ : Type} {rv : ρ → Option Value} {av : GG → (Nat → Nat) → List Value} {f : SS → Option (ρ × SS)} (hpl : plainName (myM M).cls = true) (ho : moM M = (myM M).cls) (hl : ∀ (G : GG) (pl : Nat → Nat), (lg_sl (av G pl)).length ≤ mlM M)
    (body : ∀ (G : GG) (pl : Nat → Nat) (h0 : PH) (s : SS), EvF G d M ly pl h0 rv (f s) 0 (lv_args 0 (av G pl)) [] s) : MtF d M ly rv av f := by
  intro pl h0 hL s r s' hf G
  exact MtG.of hpl ho (hl G pl) (body G pl h0 s hL r s' hf)
section EVF
variable {G : GG} {d : Nat} {M : MI} {ly : LY} {pl : Nat → Nat} {h0 : PH} {ρ : Type} {rv : ρ → Option Value} {f : Option (ρ × SS)} {pc : Nat} {lv : List (Nat × Value)} {rest : List Value} {s : SS}
theorem LayOK.LH {s : SS} {n : Nat} (H : LayOK ly pl h0) : LayOK ly pl (LH pl n h0 s) := H
theorem LayOK.sh {k : Nat} {e : (Nat × Nat) × List (Nat × Nat)} (H : LayOK ly pl h0) (he : ly[k]? = some e) : h0.2.1 (pl k) = some e.1 := (H.2 k e he).1
theorem LayOK.lt {k : Nat} {e : (Nat × Nat) × List (Nat × Nat)} (he : ly[k]? = some e) : k < ly.length := (List.getElem?_eq_some_iff.mp he).1
theorem ef_getI {q idx ci j k m0 : Nat} {rs : List (Nat × Nat)} {x : Int32} (he : ly[k]? = some ((ci, m0), rs)) (hF : FL M idx ci j) (hr : isRf (ftyG ci j) = false) (hx : s.1 k j = x) (hdg : decode (mbM M) pc = .ok (.getfield idx, 3)) (hq : pc + 3 = q) (kk : EvF G d M ly pl h0 rv f q lv (.int x :: rest) s) : EvF G d M ly pl h0 rv f pc lv (.ref (pl k) :: rest) s := fun H r s' hf => by
  subst hq
  refine ev_getf (H.sh he) hF ?_ hdg (kk H r s' hf)
  unfold fvalG
  rw [if_neg (by rw [hr]; decide)]
  show Value.int (mrg pl ly.length h0.2.2.2.1 s.1 (pl k) j) = _
  rw [mrg_at H.1 (LayOK.lt he), hx]
theorem ef_getR {q idx ci j k m0 t : Nat} {rs : List (Nat × Nat)} (he : ly[k]? = some ((ci, m0), rs)) (hF : FL M idx ci j) (hr : isRf (ftyG ci j) = true) (ht : rs.lookup j = some t) (hdg : decode (mbM M) pc = .ok (.getfield idx, 3)) (hq : pc + 3 = q) (kk : EvF G d M ly pl h0 rv f q lv (.ref (pl t) :: rest) s) : EvF G d M ly pl h0 rv f pc lv (.ref (pl k) :: rest) s := fun H r s' hf => by
  subst hq
  refine ev_getf (H.sh he) hF ?_ hdg (kk H r s' hf)
  unfold fvalG
  rw [if_pos hr]
  exact (H.2 k _ he).2 j t ht
theorem ef_putI {q idx ci j k m0 : Nat} {rs : List (Nat × Nat)} {x : Int32} (he : ly[k]? = some ((ci, m0), rs)) (hF : FL M idx ci j) (hfin : (TXG ci j).2.2.2 = false) (hty : ftyG ci j = .int) (hdg : decode (mbM M) pc = .ok (.putfield idx, 3)) (hq : pc + 3 = q) (kk : EvF G d M ly pl h0 rv f q lv rest (wrI s k j x)) : EvF G d M ly pl h0 rv f pc lv (.int x :: .ref (pl k) :: rest) s := fun H r s' hf => by
  subst hq
  have h1 := kk H r s' hf
  rw [LH_wrI H.1 (LayOK.lt he)] at h1
  exact ev_putI (H.sh he) hF hfin (by rw [hty]; rfl) (by rw [hty]; rfl) (by rw [hty]; rfl) hdg h1
theorem ef_putZ {q idx ci j k m0 : Nat} {rs : List (Nat × Nat)} {x : Int32} (he : ly[k]? = some ((ci, m0), rs)) (hF : FL M idx ci j) (hfin : (TXG ci j).2.2.2 = false) (hty : ftyG ci j = .boolean) (hn : narrow .boolean (.int x) = .int x) (hfit : fits .boolean (.int x) = true) (hdg : decode (mbM M) pc = .ok (.putfield idx, 3)) (hq : pc + 3 = q) (kk : EvF G d M ly pl h0 rv f q lv rest (wrI s k j x)) : EvF G d M ly pl h0 rv f pc lv (.int x :: .ref (pl k) :: rest) s := fun H r s' hf => by
  subst hq
  have h1 := kk H r s' hf
  rw [LH_wrI H.1 (LayOK.lt he)] at h1
  exact ev_putI (H.sh he) hF hfin (by rw [hty]; rfl) (by rw [hty]; exact hn) (by rw [hty]; exact hfit) hdg h1
/-- an index within a row of n -/
abbrev ixB (i : Int32) (n : Nat) : Prop := ¬ (i < 0 ∨ n ≤ i.toNatClampNeg)
theorem ixB_lt {i : Int32} {n : Nat} (h : ixB i n) : i.toNatClampNeg < n := Nat.not_le.mp fun q => h (Or.inr q)
theorem ef_iaload {q k n : Nat} {rs : List (Nat × Nat)} {i x : Int32} (he : ly[k]? = some ((10, n), rs)) (hi : ixB i n) (hdg : decode (mbM M) pc = .ok (.iaload, 1)) (hx : s.1 k i.toNatClampNeg = x) (hq : pc + 1 = q) (kk : EvF G d M ly pl h0 rv f q lv (.int x :: rest) s) : EvF G d M ly pl h0 rv f pc lv (.int i :: .ref (pl k) :: rest) s := fun H r s' hf => by
  subst hq
  refine ev_iaload (H.sh he) hi hdg ?_
  have e : (LH pl ly.length h0 s).2.2.2.1 (pl k) i.toNatClampNeg = x := by
    show mrg pl ly.length h0.2.2.2.1 s.1 (pl k) i.toNatClampNeg = _
    rw [mrg_at H.1 (LayOK.lt he), hx]
  rw [e]
  exact kk H r s' hf
theorem ef_laload {q k n : Nat} {rs : List (Nat × Nat)} {i : Int32} {x : Int64} (he : ly[k]? = some ((11, n), rs)) (hi : ixB i n) (hdg : decode (mbM M) pc = .ok (.laload, 1)) (hx : s.2 k i.toNatClampNeg = x) (hq : pc + 1 = q) (kk : EvF G d M ly pl h0 rv f q lv (.long x :: rest) s) : EvF G d M ly pl h0 rv f pc lv (.int i :: .ref (pl k) :: rest) s := fun H r s' hf => by
  subst hq
  refine ev_laload (H.sh he) hi hdg ?_
  have e : (LH pl ly.length h0 s).2.2.2.2 (pl k) i.toNatClampNeg = x := by
    show mrg pl ly.length h0.2.2.2.2 s.2 (pl k) i.toNatClampNeg = _
    rw [mrg_at H.1 (LayOK.lt he), hx]
  rw [e]
  exact kk H r s' hf
theorem ef_aaload {q k n t t0 : Nat} {rs : List (Nat × Nat)} {tf : Nat → Nat} {i : Int32} (he : ly[k]? = some ((t, n), rs)) (h12 : 12 ≤ t) (htf : ∀ j : Nat, j < n → rs.lookup j = some (tf j)) (hi : ixB i n) (hdg : decode (mbM M) pc = .ok (.aaload, 1)) (ht : tf i.toNatClampNeg = t0) (hq : pc + 1 = q) (kk : EvF G d M ly pl h0 rv f q lv (.ref (pl t0) :: rest) s) : EvF G d M ly pl h0 rv f pc lv (.int i :: .ref (pl k) :: rest) s := fun H r s' hf => by
  subst hq
  subst ht
  exact ev_aaload (H.sh he) h12 hi ((H.2 k _ he).2 _ _ (htf _ (ixB_lt hi))) hdg (kk H r s' hf)
theorem ef_iastore {q k n j : Nat} {rs : List (Nat × Nat)} {i x : Int32} (he : ly[k]? = some ((10, n), rs)) (hi : ixB i n) (hdg : decode (mbM M) pc = .ok (.iastore, 1)) (hj : i.toNatClampNeg = j) (hq : pc + 1 = q) (kk : EvF G d M ly pl h0 rv f q lv rest (wrI s k j x)) : EvF G d M ly pl h0 rv f pc lv (.int x :: .int i :: .ref (pl k) :: rest) s := fun H r s' hf => by
  subst hq
  subst hj
  have h1 := kk H r s' hf
  rw [LH_wrI H.1 (LayOK.lt he)] at h1
  exact ev_iastore (H.sh he) hi hdg h1
theorem ef_lastore {q k n j : Nat} {rs : List (Nat × Nat)} {i : Int32} {x : Int64} (he : ly[k]? = some ((11, n), rs)) (hi : ixB i n) (hdg : decode (mbM M) pc = .ok (.lastore, 1)) (hj : i.toNatClampNeg = j) (hq : pc + 1 = q) (kk : EvF G d M ly pl h0 rv f q lv rest (wrL s k j x)) : EvF G d M ly pl h0 rv f pc lv (.long x :: .int i :: .ref (pl k) :: rest) s := fun H r s' hf => by
  subst hq
  subst hj
  have h1 := kk H r s' hf
  rw [LH_wrL H.1 (LayOK.lt he)] at h1
  exact ev_lastore (H.sh he) hi hdg h1
theorem ef_alenI {q k n : Nat} {rs : List (Nat × Nat)} {v : Int32} (he : ly[k]? = some ((10, n), rs)) (hv : Int32.ofNat n = v) (hdg : decode (mbM M) pc = .ok (.arraylength, 1)) (hq : pc + 1 = q) (kk : EvF G d M ly pl h0 rv f q lv (.int v :: rest) s) : EvF G d M ly pl h0 rv f pc lv (.ref (pl k) :: rest) s := fun H r s' hf => by
  subst hq
  exact ev_alenI (H.sh he) hv hdg (kk H r s' hf)
theorem ef_getsO {q idx : Nat} (hlk : Cond.fieldLink (moM M) idx "BeforeItDrips$Cone" "ORDER_ROWS" "[I" ∈ TT) (hdg : decode (mbM M) pc = .ok (.getstatic idx, 3)) (hq : pc + 3 = q) (kk : EvF G d M ly pl h0 rv f q lv (.ref (G.2.2.2.1 20) :: rest) s) : EvF G d M ly pl h0 rv f pc lv rest s := fun H r s' hf => by
  subst hq
  exact ev_getsO hlk hdg (kk H r s' hf)
theorem ef_oaload {q : Nat} {i x : Int32} (hi : ixB i 18) (hdg : decode (mbM M) pc = .ok (.iaload, 1)) (hx : orderRows.getD i.toNatClampNeg 0 = x) (hq : pc + 1 = q) (kk : EvF G d M ly pl h0 rv f q lv (.int x :: rest) s) : EvF G d M ly pl h0 rv f pc lv (.int i :: .ref (G.2.2.2.1 20) :: rest) s := fun H r s' hf => by
  subst hq
  exact ev_oaload hi hx hdg (kk H r s' hf)
theorem ef_oalen {q : Nat} {v : Int32} (hv : Int32.ofNat 18 = v) (hdg : decode (mbM M) pc = .ok (.arraylength, 1)) (hq : pc + 1 = q) (kk : EvF G d M ly pl h0 rv f q lv (.int v :: rest) s) : EvF G d M ly pl h0 rv f pc lv (.ref (G.2.2.2.1 20) :: rest) s := fun H r s' hf => by
  subst hq
  exact ev_oalen hv hdg (kk H r s' hf)
/-- f's guard: an index is within, a divisor isn't 0 -/
theorem ef_guard {c : Prop} [Decidable c] {A : Option (ρ × SS)} {st : List Value} (kk : c → EvF G d M ly pl h0 rv A pc lv st s) : EvF G d M ly pl h0 rv (if c then A else none) pc lv st s := fun H r s' hf => by
  by_cases z : c
  · rw [if_pos z] at hf
    exact kk z H r s' hf
  · rw [if_neg z] at hf
    cases hf
theorem ef_if {c : Prop} [Decidable c] {A B : Option (ρ × SS)} {pt pf : Nat} {st0 st : List Value} (rule : ∀ (r : ρ) (s' : SS), (c → Ev G d M 0 0 (Qf rv pl ly.length h0 r s') 0 0 pt lv st (LH pl ly.length h0 s)) → (¬ c → Ev G d M 0 0 (Qf rv pl ly.length h0 r s') 0 0 pf lv st (LH pl ly.length h0 s)) → Ev G d M 0 0 (Qf rv pl ly.length h0 r s') 0 0 pc lv st0 (LH pl ly.length h0 s))
    (kt : c → EvF G d M ly pl h0 rv A pt lv st s) (kf : ¬ c → EvF G d M ly pl h0 rv B pf lv st s) : EvF G d M ly pl h0 rv (if c then A else B) pc lv st0 s := fun H r s' hf =>
  rule r s' (fun z => kt z H r s' (by rw [if_pos z] at hf; exact hf)) (fun z => kf z H r s' (by rw [if_neg z] at hf; exact hf))
theorem ef_eq {g : Option (ρ × SS)} {st : List Value} (e : f = g) (kk : EvF G d M ly pl h0 rv g pc lv st s) : EvF G d M ly pl h0 rv f pc lv st s := e ▸ kk
theorem ef_st {s1 : SS} {st : List Value} (e : s = s1) (kk : EvF G d M ly pl h0 rv f pc lv st s1) : EvF G d M ly pl h0 rv f pc lv st s := e ▸ kk
/-- calls: f binds the callee's function -/
theorem ef_invVI {N : MI} {q idx d' ci n k m0 : Nat} {π : Nat → Nat} {ly' : LY} {As st : List Value} {av : GG → (Nat → Nat) → List Value} {fc : SS → Option (Int32 × SS)} {A : Int32 × SS → Option (ρ × SS)} {rs : List (Nat × Nat)} {rest : List Value} {nn : Nat} (hM : MtF d' N ly' rvI av fc) (hm : layMap ly ly' π = true) (ha : av G (fun k => pl (π k)) = .ref (pl k) :: As) (hC : CalV N ci n) (hlk : Cond.methodLink (moM M) idx (myM N) ∈ TT) (hd : d' + 1 ≤ d) (he : ly[k]? = some ((ci, m0), rs)) (hst : st = As.reverse ++ .ref (pl k) :: rest) (hn : As.length = n) (hW : (rest.map fun v => v.category).sum ≤ 8) (hdg : decode (mbM M) pc = .ok (.invokevirtual idx, 3)) (hq : pc + 3 = q) (hnn : ly'.length = nn)
    (kk : ∀ x : Int32 × SS, EvF G d M ly pl h0 rv (A x) q lv (.int x.1 :: rest) (mrgS π nn s x.2)) : EvF G d M ly pl h0 rv ((fc (selS π s)).bind A) pc lv st s := fun H r s' hf => by
  subst hq
  obtain ⟨⟨r1, t1⟩, g1, g2⟩ := Option.bind_eq_some_iff.mp hf
  subst hnn
  obtain ⟨m1, m2, -⟩ := layMap_spec hm
  have hMt : MtG G d' N 0 0 (av G (fun k => pl (π k))) (LH (fun k => pl (π k)) ly'.length (LH pl ly.length h0 s) (selS π s)) (Qf rvI (fun k => pl (π k)) ly'.length (LH pl ly.length h0 s) r1 t1) := hM (fun k => pl (π k)) (LH pl ly.length h0 s) ((H.LH).sub hm) (selS π s) r1 t1 g1 G
  rw [LH_sel H.1 m1 m2, ha] at hMt
  refine ev_invV (mc' := 0) (ms' := 0) hMt hC hlk hd (H.sh he) hst hn hW (Nat.le_refl 0) (Nat.le_refl 0) hdg (fun v h' hq => ?_)
  obtain ⟨e1, e2⟩ := hq
  subst e1
  subst e2
  rw [LH_call H.1 m1 m2]
  exact kk (r1, t1) H r s' g2
theorem ef_invVI0 {N : MI} {q idx d' ci n k m0 : Nat} {π : Nat → Nat} {ly' : LY} {As st : List Value} {av : GG → (Nat → Nat) → List Value} {fc : SS → Option (Int32 × SS)} {A : Int32 × SS → Option (ρ × SS)} {rs : List (Nat × Nat)} {rest : List Value} (hM : MtF d' N ly rvI av fc) (ha : av G pl = .ref (pl k) :: As) (hC : CalV N ci n) (hlk : Cond.methodLink (moM M) idx (myM N) ∈ TT) (hd : d' + 1 ≤ d) (he : ly[k]? = some ((ci, m0), rs)) (hst : st = As.reverse ++ .ref (pl k) :: rest) (hn : As.length = n) (hW : (rest.map fun v => v.category).sum ≤ 8) (hdg : decode (mbM M) pc = .ok (.invokevirtual idx, 3)) (hq : pc + 3 = q)
    (kk : ∀ x : Int32 × SS, EvF G d M ly pl h0 rv (A x) q lv (.int x.1 :: rest) (x.2)) : EvF G d M ly pl h0 rv ((fc s).bind A) pc lv st s := fun H r s' hf => by
  subst hq
  obtain ⟨⟨r1, t1⟩, g1, g2⟩ := Option.bind_eq_some_iff.mp hf
  have hMt : MtG G d' N 0 0 (av G pl) (LH pl ly.length h0 s) (Qf rvI pl ly.length h0 r1 t1) := hM pl h0 H s r1 t1 g1 G
  rw [ha] at hMt
  refine ev_invV (mc' := 0) (ms' := 0) hMt hC hlk hd (H.sh he) hst hn hW (Nat.le_refl 0) (Nat.le_refl 0) hdg (fun v h' hq => ?_)
  obtain ⟨e1, e2⟩ := hq
  subst e1
  subst e2
  exact kk (r1, t1) H r s' g2
theorem ef_invSI {N : MI} {q idx d' ci n k m0 : Nat} {π : Nat → Nat} {ly' : LY} {As st : List Value} {av : GG → (Nat → Nat) → List Value} {fc : SS → Option (Int32 × SS)} {A : Int32 × SS → Option (ρ × SS)} {rs : List (Nat × Nat)} {rest : List Value} {nn : Nat} (hM : MtF d' N ly' rvI av fc) (hm : layMap ly ly' π = true) (ha : av G (fun k => pl (π k)) = As) (hC : CalS N n) (hlk : Cond.methodLink (moM M) idx (myM N) ∈ TT) (hd : d' + 1 ≤ d) (hst : st = As.reverse ++ rest) (hn : As.length = n) (hW : (rest.map fun v => v.category).sum ≤ 8) (hdg : decode (mbM M) pc = .ok (.invokestatic idx, 3)) (hq : pc + 3 = q) (hnn : ly'.length = nn)
    (kk : ∀ x : Int32 × SS, EvF G d M ly pl h0 rv (A x) q lv (.int x.1 :: rest) (mrgS π nn s x.2)) : EvF G d M ly pl h0 rv ((fc (selS π s)).bind A) pc lv st s := fun H r s' hf => by
  subst hq
  obtain ⟨⟨r1, t1⟩, g1, g2⟩ := Option.bind_eq_some_iff.mp hf
  subst hnn
  obtain ⟨m1, m2, -⟩ := layMap_spec hm
  have hMt : MtG G d' N 0 0 (av G (fun k => pl (π k))) (LH (fun k => pl (π k)) ly'.length (LH pl ly.length h0 s) (selS π s)) (Qf rvI (fun k => pl (π k)) ly'.length (LH pl ly.length h0 s) r1 t1) := hM (fun k => pl (π k)) (LH pl ly.length h0 s) ((H.LH).sub hm) (selS π s) r1 t1 g1 G
  rw [LH_sel H.1 m1 m2, ha] at hMt
  refine ev_invS (mc' := 0) (ms' := 0) hMt hC hlk hd hst hn hW (Nat.le_refl 0) (Nat.le_refl 0) hdg (fun v h' hq => ?_)
  obtain ⟨e1, e2⟩ := hq
  subst e1
  subst e2
  rw [LH_call H.1 m1 m2]
  exact kk (r1, t1) H r s' g2
theorem ef_invSI0 {N : MI} {q idx d' ci n k m0 : Nat} {π : Nat → Nat} {ly' : LY} {As st : List Value} {av : GG → (Nat → Nat) → List Value} {fc : SS → Option (Int32 × SS)} {A : Int32 × SS → Option (ρ × SS)} {rs : List (Nat × Nat)} {rest : List Value} (hM : MtF d' N ly rvI av fc) (ha : av G pl = As) (hC : CalS N n) (hlk : Cond.methodLink (moM M) idx (myM N) ∈ TT) (hd : d' + 1 ≤ d) (hst : st = As.reverse ++ rest) (hn : As.length = n) (hW : (rest.map fun v => v.category).sum ≤ 8) (hdg : decode (mbM M) pc = .ok (.invokestatic idx, 3)) (hq : pc + 3 = q)
    (kk : ∀ x : Int32 × SS, EvF G d M ly pl h0 rv (A x) q lv (.int x.1 :: rest) (x.2)) : EvF G d M ly pl h0 rv ((fc s).bind A) pc lv st s := fun H r s' hf => by
  subst hq
  obtain ⟨⟨r1, t1⟩, g1, g2⟩ := Option.bind_eq_some_iff.mp hf
  have hMt : MtG G d' N 0 0 (av G pl) (LH pl ly.length h0 s) (Qf rvI pl ly.length h0 r1 t1) := hM pl h0 H s r1 t1 g1 G
  rw [ha] at hMt
  refine ev_invS (mc' := 0) (ms' := 0) hMt hC hlk hd hst hn hW (Nat.le_refl 0) (Nat.le_refl 0) hdg (fun v h' hq => ?_)
  obtain ⟨e1, e2⟩ := hq
  subst e1
  subst e2
  exact kk (r1, t1) H r s' g2
theorem ef_invPI0 {N : MI} {q idx d' ci n k m0 : Nat} {π : Nat → Nat} {ly' : LY} {As st : List Value} {av : GG → (Nat → Nat) → List Value} {fc : SS → Option (Int32 × SS)} {A : Int32 × SS → Option (ρ × SS)} {rs : List (Nat × Nat)} {rest : List Value} (hM : MtF d' N [] rvI av fc) (ha : av G pl = As) (hC : CalS N n) (hlk : Cond.methodLink (moM M) idx (myM N) ∈ TT) (hd : d' + 1 ≤ d) (hst : st = As.reverse ++ rest) (hn : As.length = n) (hW : (rest.map fun v => v.category).sum ≤ 8) (hdg : decode (mbM M) pc = .ok (.invokestatic idx, 3)) (hq : pc + 3 = q)
    (kk : ∀ x : Int32 × SS, EvF G d M ly pl h0 rv (A x) q lv (.int x.1 :: rest) (s)) : EvF G d M ly pl h0 rv ((fc s).bind A) pc lv st s := fun H r s' hf => by
  subst hq
  obtain ⟨⟨r1, t1⟩, g1, g2⟩ := Option.bind_eq_some_iff.mp hf
  have hMt : MtG G d' N 0 0 (av G pl) (LH pl ly.length h0 s) (Qf rvI pl 0 (LH pl ly.length h0 s) r1 t1) := hM pl (LH pl ly.length h0 s) ⟨fun i j hi => absurd hi (Nat.not_lt_zero i), fun k e hk => by simp at hk⟩ s r1 t1 g1 G
  rw [ha] at hMt
  refine ev_invS (mc' := 0) (ms' := 0) hMt hC hlk hd hst hn hW (Nat.le_refl 0) (Nat.le_refl 0) hdg (fun v h' hq => ?_)
  obtain ⟨e1, e2⟩ := hq
  subst e1
  subst e2
  exact kk (r1, t1) H r s' g2
theorem ef_invVU {N : MI} {q idx d' ci n k m0 : Nat} {π : Nat → Nat} {ly' : LY} {As st : List Value} {av : GG → (Nat → Nat) → List Value} {fc : SS → Option (Unit × SS)} {A : Unit × SS → Option (ρ × SS)} {rs : List (Nat × Nat)} {rest : List Value} {nn : Nat} (hM : MtF d' N ly' rvU av fc) (hm : layMap ly ly' π = true) (ha : av G (fun k => pl (π k)) = .ref (pl k) :: As) (hC : CalV N ci n) (hlk : Cond.methodLink (moM M) idx (myM N) ∈ TT) (hd : d' + 1 ≤ d) (he : ly[k]? = some ((ci, m0), rs)) (hst : st = As.reverse ++ .ref (pl k) :: rest) (hn : As.length = n) (hW : (rest.map fun v => v.category).sum ≤ 8) (hdg : decode (mbM M) pc = .ok (.invokevirtual idx, 3)) (hq : pc + 3 = q) (hnn : ly'.length = nn)
    (kk : ∀ x : Unit × SS, EvF G d M ly pl h0 rv (A x) q lv (rest) (mrgS π nn s x.2)) : EvF G d M ly pl h0 rv ((fc (selS π s)).bind A) pc lv st s := fun H r s' hf => by
  subst hq
  obtain ⟨⟨r1, t1⟩, g1, g2⟩ := Option.bind_eq_some_iff.mp hf
  subst hnn
  obtain ⟨m1, m2, -⟩ := layMap_spec hm
  have hMt : MtG G d' N 0 0 (av G (fun k => pl (π k))) (LH (fun k => pl (π k)) ly'.length (LH pl ly.length h0 s) (selS π s)) (Qf rvU (fun k => pl (π k)) ly'.length (LH pl ly.length h0 s) r1 t1) := hM (fun k => pl (π k)) (LH pl ly.length h0 s) ((H.LH).sub hm) (selS π s) r1 t1 g1 G
  rw [LH_sel H.1 m1 m2, ha] at hMt
  refine ev_invV (mc' := 0) (ms' := 0) hMt hC hlk hd (H.sh he) hst hn hW (Nat.le_refl 0) (Nat.le_refl 0) hdg (fun v h' hq => ?_)
  obtain ⟨e1, e2⟩ := hq
  subst e1
  subst e2
  rw [LH_call H.1 m1 m2]
  exact kk (r1, t1) H r s' g2
theorem ef_invVU0 {N : MI} {q idx d' ci n k m0 : Nat} {π : Nat → Nat} {ly' : LY} {As st : List Value} {av : GG → (Nat → Nat) → List Value} {fc : SS → Option (Unit × SS)} {A : Unit × SS → Option (ρ × SS)} {rs : List (Nat × Nat)} {rest : List Value} (hM : MtF d' N ly rvU av fc) (ha : av G pl = .ref (pl k) :: As) (hC : CalV N ci n) (hlk : Cond.methodLink (moM M) idx (myM N) ∈ TT) (hd : d' + 1 ≤ d) (he : ly[k]? = some ((ci, m0), rs)) (hst : st = As.reverse ++ .ref (pl k) :: rest) (hn : As.length = n) (hW : (rest.map fun v => v.category).sum ≤ 8) (hdg : decode (mbM M) pc = .ok (.invokevirtual idx, 3)) (hq : pc + 3 = q)
    (kk : ∀ x : Unit × SS, EvF G d M ly pl h0 rv (A x) q lv (rest) (x.2)) : EvF G d M ly pl h0 rv ((fc s).bind A) pc lv st s := fun H r s' hf => by
  subst hq
  obtain ⟨⟨r1, t1⟩, g1, g2⟩ := Option.bind_eq_some_iff.mp hf
  have hMt : MtG G d' N 0 0 (av G pl) (LH pl ly.length h0 s) (Qf rvU pl ly.length h0 r1 t1) := hM pl h0 H s r1 t1 g1 G
  rw [ha] at hMt
  refine ev_invV (mc' := 0) (ms' := 0) hMt hC hlk hd (H.sh he) hst hn hW (Nat.le_refl 0) (Nat.le_refl 0) hdg (fun v h' hq => ?_)
  obtain ⟨e1, e2⟩ := hq
  subst e1
  subst e2
  exact kk (r1, t1) H r s' g2
theorem ef_invSU {N : MI} {q idx d' ci n k m0 : Nat} {π : Nat → Nat} {ly' : LY} {As st : List Value} {av : GG → (Nat → Nat) → List Value} {fc : SS → Option (Unit × SS)} {A : Unit × SS → Option (ρ × SS)} {rs : List (Nat × Nat)} {rest : List Value} {nn : Nat} (hM : MtF d' N ly' rvU av fc) (hm : layMap ly ly' π = true) (ha : av G (fun k => pl (π k)) = As) (hC : CalS N n) (hlk : Cond.methodLink (moM M) idx (myM N) ∈ TT) (hd : d' + 1 ≤ d) (hst : st = As.reverse ++ rest) (hn : As.length = n) (hW : (rest.map fun v => v.category).sum ≤ 8) (hdg : decode (mbM M) pc = .ok (.invokestatic idx, 3)) (hq : pc + 3 = q) (hnn : ly'.length = nn)
    (kk : ∀ x : Unit × SS, EvF G d M ly pl h0 rv (A x) q lv (rest) (mrgS π nn s x.2)) : EvF G d M ly pl h0 rv ((fc (selS π s)).bind A) pc lv st s := fun H r s' hf => by
  subst hq
  obtain ⟨⟨r1, t1⟩, g1, g2⟩ := Option.bind_eq_some_iff.mp hf
  subst hnn
  obtain ⟨m1, m2, -⟩ := layMap_spec hm
  have hMt : MtG G d' N 0 0 (av G (fun k => pl (π k))) (LH (fun k => pl (π k)) ly'.length (LH pl ly.length h0 s) (selS π s)) (Qf rvU (fun k => pl (π k)) ly'.length (LH pl ly.length h0 s) r1 t1) := hM (fun k => pl (π k)) (LH pl ly.length h0 s) ((H.LH).sub hm) (selS π s) r1 t1 g1 G
  rw [LH_sel H.1 m1 m2, ha] at hMt
  refine ev_invS (mc' := 0) (ms' := 0) hMt hC hlk hd hst hn hW (Nat.le_refl 0) (Nat.le_refl 0) hdg (fun v h' hq => ?_)
  obtain ⟨e1, e2⟩ := hq
  subst e1
  subst e2
  rw [LH_call H.1 m1 m2]
  exact kk (r1, t1) H r s' g2
theorem ef_invSU0 {N : MI} {q idx d' ci n k m0 : Nat} {π : Nat → Nat} {ly' : LY} {As st : List Value} {av : GG → (Nat → Nat) → List Value} {fc : SS → Option (Unit × SS)} {A : Unit × SS → Option (ρ × SS)} {rs : List (Nat × Nat)} {rest : List Value} (hM : MtF d' N ly rvU av fc) (ha : av G pl = As) (hC : CalS N n) (hlk : Cond.methodLink (moM M) idx (myM N) ∈ TT) (hd : d' + 1 ≤ d) (hst : st = As.reverse ++ rest) (hn : As.length = n) (hW : (rest.map fun v => v.category).sum ≤ 8) (hdg : decode (mbM M) pc = .ok (.invokestatic idx, 3)) (hq : pc + 3 = q)
    (kk : ∀ x : Unit × SS, EvF G d M ly pl h0 rv (A x) q lv (rest) (x.2)) : EvF G d M ly pl h0 rv ((fc s).bind A) pc lv st s := fun H r s' hf => by
  subst hq
  obtain ⟨⟨r1, t1⟩, g1, g2⟩ := Option.bind_eq_some_iff.mp hf
  have hMt : MtG G d' N 0 0 (av G pl) (LH pl ly.length h0 s) (Qf rvU pl ly.length h0 r1 t1) := hM pl h0 H s r1 t1 g1 G
  rw [ha] at hMt
  refine ev_invS (mc' := 0) (ms' := 0) hMt hC hlk hd hst hn hW (Nat.le_refl 0) (Nat.le_refl 0) hdg (fun v h' hq => ?_)
  obtain ⟨e1, e2⟩ := hq
  subst e1
  subst e2
  exact kk (r1, t1) H r s' g2
theorem ef_invPU0 {N : MI} {q idx d' ci n k m0 : Nat} {π : Nat → Nat} {ly' : LY} {As st : List Value} {av : GG → (Nat → Nat) → List Value} {fc : SS → Option (Unit × SS)} {A : Unit × SS → Option (ρ × SS)} {rs : List (Nat × Nat)} {rest : List Value} (hM : MtF d' N [] rvU av fc) (ha : av G pl = As) (hC : CalS N n) (hlk : Cond.methodLink (moM M) idx (myM N) ∈ TT) (hd : d' + 1 ≤ d) (hst : st = As.reverse ++ rest) (hn : As.length = n) (hW : (rest.map fun v => v.category).sum ≤ 8) (hdg : decode (mbM M) pc = .ok (.invokestatic idx, 3)) (hq : pc + 3 = q)
    (kk : ∀ x : Unit × SS, EvF G d M ly pl h0 rv (A x) q lv (rest) (s)) : EvF G d M ly pl h0 rv ((fc s).bind A) pc lv st s := fun H r s' hf => by
  subst hq
  obtain ⟨⟨r1, t1⟩, g1, g2⟩ := Option.bind_eq_some_iff.mp hf
  have hMt : MtG G d' N 0 0 (av G pl) (LH pl ly.length h0 s) (Qf rvU pl 0 (LH pl ly.length h0 s) r1 t1) := hM pl (LH pl ly.length h0 s) ⟨fun i j hi => absurd hi (Nat.not_lt_zero i), fun k e hk => by simp at hk⟩ s r1 t1 g1 G
  rw [ha] at hMt
  refine ev_invS (mc' := 0) (ms' := 0) hMt hC hlk hd hst hn hW (Nat.le_refl 0) (Nat.le_refl 0) hdg (fun v h' hq => ?_)
  obtain ⟨e1, e2⟩ := hq
  subst e1
  subst e2
  exact kk (r1, t1) H r s' g2
theorem ef_invVL {N : MI} {q idx d' ci n k m0 : Nat} {π : Nat → Nat} {ly' : LY} {As st : List Value} {av : GG → (Nat → Nat) → List Value} {fc : SS → Option (Int64 × SS)} {A : Int64 × SS → Option (ρ × SS)} {rs : List (Nat × Nat)} {rest : List Value} {nn : Nat} (hM : MtF d' N ly' rvL av fc) (hm : layMap ly ly' π = true) (ha : av G (fun k => pl (π k)) = .ref (pl k) :: As) (hC : CalV N ci n) (hlk : Cond.methodLink (moM M) idx (myM N) ∈ TT) (hd : d' + 1 ≤ d) (he : ly[k]? = some ((ci, m0), rs)) (hst : st = As.reverse ++ .ref (pl k) :: rest) (hn : As.length = n) (hW : (rest.map fun v => v.category).sum ≤ 8) (hdg : decode (mbM M) pc = .ok (.invokevirtual idx, 3)) (hq : pc + 3 = q) (hnn : ly'.length = nn)
    (kk : ∀ x : Int64 × SS, EvF G d M ly pl h0 rv (A x) q lv (.long x.1 :: rest) (mrgS π nn s x.2)) : EvF G d M ly pl h0 rv ((fc (selS π s)).bind A) pc lv st s := fun H r s' hf => by
  subst hq
  obtain ⟨⟨r1, t1⟩, g1, g2⟩ := Option.bind_eq_some_iff.mp hf
  subst hnn
  obtain ⟨m1, m2, -⟩ := layMap_spec hm
  have hMt : MtG G d' N 0 0 (av G (fun k => pl (π k))) (LH (fun k => pl (π k)) ly'.length (LH pl ly.length h0 s) (selS π s)) (Qf rvL (fun k => pl (π k)) ly'.length (LH pl ly.length h0 s) r1 t1) := hM (fun k => pl (π k)) (LH pl ly.length h0 s) ((H.LH).sub hm) (selS π s) r1 t1 g1 G
  rw [LH_sel H.1 m1 m2, ha] at hMt
  refine ev_invV (mc' := 0) (ms' := 0) hMt hC hlk hd (H.sh he) hst hn hW (Nat.le_refl 0) (Nat.le_refl 0) hdg (fun v h' hq => ?_)
  obtain ⟨e1, e2⟩ := hq
  subst e1
  subst e2
  rw [LH_call H.1 m1 m2]
  exact kk (r1, t1) H r s' g2
theorem ef_invVL0 {N : MI} {q idx d' ci n k m0 : Nat} {π : Nat → Nat} {ly' : LY} {As st : List Value} {av : GG → (Nat → Nat) → List Value} {fc : SS → Option (Int64 × SS)} {A : Int64 × SS → Option (ρ × SS)} {rs : List (Nat × Nat)} {rest : List Value} (hM : MtF d' N ly rvL av fc) (ha : av G pl = .ref (pl k) :: As) (hC : CalV N ci n) (hlk : Cond.methodLink (moM M) idx (myM N) ∈ TT) (hd : d' + 1 ≤ d) (he : ly[k]? = some ((ci, m0), rs)) (hst : st = As.reverse ++ .ref (pl k) :: rest) (hn : As.length = n) (hW : (rest.map fun v => v.category).sum ≤ 8) (hdg : decode (mbM M) pc = .ok (.invokevirtual idx, 3)) (hq : pc + 3 = q)
    (kk : ∀ x : Int64 × SS, EvF G d M ly pl h0 rv (A x) q lv (.long x.1 :: rest) (x.2)) : EvF G d M ly pl h0 rv ((fc s).bind A) pc lv st s := fun H r s' hf => by
  subst hq
  obtain ⟨⟨r1, t1⟩, g1, g2⟩ := Option.bind_eq_some_iff.mp hf
  have hMt : MtG G d' N 0 0 (av G pl) (LH pl ly.length h0 s) (Qf rvL pl ly.length h0 r1 t1) := hM pl h0 H s r1 t1 g1 G
  rw [ha] at hMt
  refine ev_invV (mc' := 0) (ms' := 0) hMt hC hlk hd (H.sh he) hst hn hW (Nat.le_refl 0) (Nat.le_refl 0) hdg (fun v h' hq => ?_)
  obtain ⟨e1, e2⟩ := hq
  subst e1
  subst e2
  exact kk (r1, t1) H r s' g2
theorem ef_invSL {N : MI} {q idx d' ci n k m0 : Nat} {π : Nat → Nat} {ly' : LY} {As st : List Value} {av : GG → (Nat → Nat) → List Value} {fc : SS → Option (Int64 × SS)} {A : Int64 × SS → Option (ρ × SS)} {rs : List (Nat × Nat)} {rest : List Value} {nn : Nat} (hM : MtF d' N ly' rvL av fc) (hm : layMap ly ly' π = true) (ha : av G (fun k => pl (π k)) = As) (hC : CalS N n) (hlk : Cond.methodLink (moM M) idx (myM N) ∈ TT) (hd : d' + 1 ≤ d) (hst : st = As.reverse ++ rest) (hn : As.length = n) (hW : (rest.map fun v => v.category).sum ≤ 8) (hdg : decode (mbM M) pc = .ok (.invokestatic idx, 3)) (hq : pc + 3 = q) (hnn : ly'.length = nn)
    (kk : ∀ x : Int64 × SS, EvF G d M ly pl h0 rv (A x) q lv (.long x.1 :: rest) (mrgS π nn s x.2)) : EvF G d M ly pl h0 rv ((fc (selS π s)).bind A) pc lv st s := fun H r s' hf => by
  subst hq
  obtain ⟨⟨r1, t1⟩, g1, g2⟩ := Option.bind_eq_some_iff.mp hf
  subst hnn
  obtain ⟨m1, m2, -⟩ := layMap_spec hm
  have hMt : MtG G d' N 0 0 (av G (fun k => pl (π k))) (LH (fun k => pl (π k)) ly'.length (LH pl ly.length h0 s) (selS π s)) (Qf rvL (fun k => pl (π k)) ly'.length (LH pl ly.length h0 s) r1 t1) := hM (fun k => pl (π k)) (LH pl ly.length h0 s) ((H.LH).sub hm) (selS π s) r1 t1 g1 G
  rw [LH_sel H.1 m1 m2, ha] at hMt
  refine ev_invS (mc' := 0) (ms' := 0) hMt hC hlk hd hst hn hW (Nat.le_refl 0) (Nat.le_refl 0) hdg (fun v h' hq => ?_)
  obtain ⟨e1, e2⟩ := hq
  subst e1
  subst e2
  rw [LH_call H.1 m1 m2]
  exact kk (r1, t1) H r s' g2
theorem ef_invSL0 {N : MI} {q idx d' ci n k m0 : Nat} {π : Nat → Nat} {ly' : LY} {As st : List Value} {av : GG → (Nat → Nat) → List Value} {fc : SS → Option (Int64 × SS)} {A : Int64 × SS → Option (ρ × SS)} {rs : List (Nat × Nat)} {rest : List Value} (hM : MtF d' N ly rvL av fc) (ha : av G pl = As) (hC : CalS N n) (hlk : Cond.methodLink (moM M) idx (myM N) ∈ TT) (hd : d' + 1 ≤ d) (hst : st = As.reverse ++ rest) (hn : As.length = n) (hW : (rest.map fun v => v.category).sum ≤ 8) (hdg : decode (mbM M) pc = .ok (.invokestatic idx, 3)) (hq : pc + 3 = q)
    (kk : ∀ x : Int64 × SS, EvF G d M ly pl h0 rv (A x) q lv (.long x.1 :: rest) (x.2)) : EvF G d M ly pl h0 rv ((fc s).bind A) pc lv st s := fun H r s' hf => by
  subst hq
  obtain ⟨⟨r1, t1⟩, g1, g2⟩ := Option.bind_eq_some_iff.mp hf
  have hMt : MtG G d' N 0 0 (av G pl) (LH pl ly.length h0 s) (Qf rvL pl ly.length h0 r1 t1) := hM pl h0 H s r1 t1 g1 G
  rw [ha] at hMt
  refine ev_invS (mc' := 0) (ms' := 0) hMt hC hlk hd hst hn hW (Nat.le_refl 0) (Nat.le_refl 0) hdg (fun v h' hq => ?_)
  obtain ⟨e1, e2⟩ := hq
  subst e1
  subst e2
  exact kk (r1, t1) H r s' g2
theorem ef_invPL0 {N : MI} {q idx d' ci n k m0 : Nat} {π : Nat → Nat} {ly' : LY} {As st : List Value} {av : GG → (Nat → Nat) → List Value} {fc : SS → Option (Int64 × SS)} {A : Int64 × SS → Option (ρ × SS)} {rs : List (Nat × Nat)} {rest : List Value} (hM : MtF d' N [] rvL av fc) (ha : av G pl = As) (hC : CalS N n) (hlk : Cond.methodLink (moM M) idx (myM N) ∈ TT) (hd : d' + 1 ≤ d) (hst : st = As.reverse ++ rest) (hn : As.length = n) (hW : (rest.map fun v => v.category).sum ≤ 8) (hdg : decode (mbM M) pc = .ok (.invokestatic idx, 3)) (hq : pc + 3 = q)
    (kk : ∀ x : Int64 × SS, EvF G d M ly pl h0 rv (A x) q lv (.long x.1 :: rest) (s)) : EvF G d M ly pl h0 rv ((fc s).bind A) pc lv st s := fun H r s' hf => by
  subst hq
  obtain ⟨⟨r1, t1⟩, g1, g2⟩ := Option.bind_eq_some_iff.mp hf
  have hMt : MtG G d' N 0 0 (av G pl) (LH pl ly.length h0 s) (Qf rvL pl 0 (LH pl ly.length h0 s) r1 t1) := hM pl (LH pl ly.length h0 s) ⟨fun i j hi => absurd hi (Nat.not_lt_zero i), fun k e hk => by simp at hk⟩ s r1 t1 g1 G
  rw [ha] at hMt
  refine ev_invS (mc' := 0) (ms' := 0) hMt hC hlk hd hst hn hW (Nat.le_refl 0) (Nat.le_refl 0) hdg (fun v h' hq => ?_)
  obtain ⟨e1, e2⟩ := hq
  subst e1
  subst e2
  exact kk (r1, t1) H r s' g2
/-- the ends -/
theorem ef_iret {x : Int32} (hr : mrM M = some .int) (hdg : decode (mbM M) pc = .ok (.ireturn, 1)) : EvF G d M ly pl h0 rvI (some (x, s)) pc lv [.int x] s := fun H r s' hf => by
  cases hf
  exact ev_iret hr ⟨rfl, rfl⟩ (Nat.le_refl 0) (Nat.le_refl 0) hdg
theorem ef_zret {x : Int32} (hr : mrM M = some .boolean) (hdg : decode (mbM M) pc = .ok (.ireturn, 1)) : EvF G d M ly pl h0 rvI (some (nbZ x, s)) pc lv [.int x] s := fun H r s' hf => by
  cases hf
  exact ev_zret hr ⟨rfl, rfl⟩ (Nat.le_refl 0) (Nat.le_refl 0) hdg
theorem ef_zretc {x : Int32} (hx : nbZ x = x) (hr : mrM M = some .boolean) (hdg : decode (mbM M) pc = .ok (.ireturn, 1)) : EvF G d M ly pl h0 rvI (some (x, s)) pc lv [.int x] s := fun H r s' hf => by
  cases hf
  exact ev_zret hr ⟨by rw [hx]; rfl, rfl⟩ (Nat.le_refl 0) (Nat.le_refl 0) hdg
theorem ef_dec {c : Prop} [Decidable c] {A B : Option (ρ × SS)} {st : List Value} (kt : c → EvF G d M ly pl h0 rv A pc lv st s) (kf : ¬ c → EvF G d M ly pl h0 rv B pc lv st s) : EvF G d M ly pl h0 rv (if c then A else B) pc lv st s := fun H r s' hf => by
  by_cases z : c
  · exact kt z H r s' (by rw [if_pos z] at hf; exact hf)
  · exact kf z H r s' (by rw [if_neg z] at hf; exact hf)
theorem ne_toI {x c : Int32} {k : Int} (h : ¬ x = c) (hc : c.toInt = k) : x.toInt ≠ k := fun e => h (Int32.toInt_inj.mp (e.trans hc.symm))
theorem ef_lret {x : Int64} (hr : mrM M = some .long) (hdg : decode (mbM M) pc = .ok (.lreturn, 1)) : EvF G d M ly pl h0 rvL (some (x, s)) pc lv [.long x] s := fun H r s' hf => by
  cases hf
  exact ev_lret hr ⟨rfl, rfl⟩ (Nat.le_refl 0) (Nat.le_refl 0) hdg
theorem ef_vret (hr : mrM M = none) (hdg : decode (mbM M) pc = .ok (.return_, 1)) : EvF G d M ly pl h0 rvU (some ((), s)) pc lv [] s := fun H r s' hf => by
  cases hf
  exact ev_vret hr ⟨rfl, rfl⟩ (Nat.le_refl 0) (Nat.le_refl 0) hdg
theorem ef_none {st : List Value} : EvF G d M ly pl h0 rv none pc lv st s := fun H r s' hf => by cases hf
/-- a straight instruction's rule, lifted -/
theorem ef_of {pc2 : Nat} {lv2 : List (Nat × Value)} {st st2 : List Value} (rule : ∀ (r : ρ) (s' : SS), Ev G d M 0 0 (Qf rv pl ly.length h0 r s') 0 0 pc2 lv2 st2 (LH pl ly.length h0 s) → Ev G d M 0 0 (Qf rv pl ly.length h0 r s') 0 0 pc lv st (LH pl ly.length h0 s)) (kk : EvF G d M ly pl h0 rv f pc2 lv2 st2 s) : EvF G d M ly pl h0 rv f pc lv st s := fun H r s' hf => rule r s' (kk H r s' hf)
end EVF
section EFL
variable {G : GG} {d : Nat} {M : MI} {ly : LY} {pl : Nat → Nat} {h0 : PH} {ρ : Type} {rv : ρ → Option Value} {f : Option (ρ × SS)} {pc : Nat} {lv : List (Nat × Value)} {rest : List Value} {s : SS}
theorem ef_iconst {q : Nat} {n : Int} {v : Int32} (hdg : decode (mbM M) pc = .ok (.iconst n, 1)) (hv : Int32.ofInt n = v) (hq : pc + 1 = q) (kk : EvF G d M ly pl h0 rv f q lv (.int v :: rest) s) : EvF G d M ly pl h0 rv f pc lv (rest) s := fun H r s' hf => by subst hq; exact ev_iconst hdg hv (kk H r s' hf)
theorem ef_bipush {q : Nat} {n : Int} {v : Int32} (hdg : decode (mbM M) pc = .ok (.bipush n, 2)) (hv : (Int8.ofInt n).toInt32 = v) (hq : pc + 2 = q) (kk : EvF G d M ly pl h0 rv f q lv (.int v :: rest) s) : EvF G d M ly pl h0 rv f pc lv (rest) s := fun H r s' hf => by subst hq; exact ev_bipush hdg hv (kk H r s' hf)
theorem ef_sipush {q : Nat} {n : Int} {v : Int32} (hdg : decode (mbM M) pc = .ok (.sipush n, 3)) (hv : (Int16.ofInt n).toInt32 = v) (hq : pc + 3 = q) (kk : EvF G d M ly pl h0 rv f q lv (.int v :: rest) s) : EvF G d M ly pl h0 rv f pc lv (rest) s := fun H r s' hf => by subst hq; exact ev_sipush hdg hv (kk H r s' hf)
theorem ef_lconst {q : Nat} {n : Fin 2} {v : Int64} (hdg : decode (mbM M) pc = .ok (.lconst n, 1)) (hv : Int64.ofNat (n : Nat) = v) (hq : pc + 1 = q) (kk : EvF G d M ly pl h0 rv f q lv (.long v :: rest) s) : EvF G d M ly pl h0 rv f pc lv (rest) s := fun H r s' hf => by subst hq; exact ev_lconst hdg hv (kk H r s' hf)
theorem ef_iadd {q : Nat} {x y : Int32} (hdg : decode (mbM M) pc = .ok (.iadd, 1)) (hq : pc + 1 = q) (kk : EvF G d M ly pl h0 rv f q lv (.int (x + y) :: rest) s) : EvF G d M ly pl h0 rv f pc lv (.int y :: .int x :: rest) s := fun H r s' hf => by subst hq; exact ev_iadd hdg (kk H r s' hf)
theorem ef_isub {q : Nat} {x y : Int32} (hdg : decode (mbM M) pc = .ok (.isub, 1)) (hq : pc + 1 = q) (kk : EvF G d M ly pl h0 rv f q lv (.int (x - y) :: rest) s) : EvF G d M ly pl h0 rv f pc lv (.int y :: .int x :: rest) s := fun H r s' hf => by subst hq; exact ev_isub hdg (kk H r s' hf)
theorem ef_imul {q : Nat} {x y : Int32} (hdg : decode (mbM M) pc = .ok (.imul, 1)) (hq : pc + 1 = q) (kk : EvF G d M ly pl h0 rv f q lv (.int (x * y) :: rest) s) : EvF G d M ly pl h0 rv f pc lv (.int y :: .int x :: rest) s := fun H r s' hf => by subst hq; exact ev_imul hdg (kk H r s' hf)
theorem ef_idiv {q : Nat} {x y : Int32} (hdg : decode (mbM M) pc = .ok (.idiv, 1)) (hne : ¬ y = 0) (hq : pc + 1 = q) (kk : EvF G d M ly pl h0 rv f q lv (.int (x / y) :: rest) s) : EvF G d M ly pl h0 rv f pc lv (.int y :: .int x :: rest) s := fun H r s' hf => by subst hq; exact ev_idiv hdg hne (kk H r s' hf)
theorem ef_irem {q : Nat} {x y : Int32} (hdg : decode (mbM M) pc = .ok (.irem, 1)) (hne : ¬ y = 0) (hq : pc + 1 = q) (kk : EvF G d M ly pl h0 rv f q lv (.int (x - x / y * y) :: rest) s) : EvF G d M ly pl h0 rv f pc lv (.int y :: .int x :: rest) s := fun H r s' hf => by subst hq; exact ev_irem hdg hne (kk H r s' hf)
theorem ef_ineg {q : Nat} {x : Int32} (hdg : decode (mbM M) pc = .ok (.ineg, 1)) (hq : pc + 1 = q) (kk : EvF G d M ly pl h0 rv f q lv (.int (-x) :: rest) s) : EvF G d M ly pl h0 rv f pc lv (.int x :: rest) s := fun H r s' hf => by subst hq; exact ev_ineg hdg (kk H r s' hf)
theorem ef_iand {q : Nat} {x y : Int32} (hdg : decode (mbM M) pc = .ok (.iand, 1)) (hq : pc + 1 = q) (kk : EvF G d M ly pl h0 rv f q lv (.int (x &&& y) :: rest) s) : EvF G d M ly pl h0 rv f pc lv (.int y :: .int x :: rest) s := fun H r s' hf => by subst hq; exact ev_iand hdg (kk H r s' hf)
theorem ef_ior {q : Nat} {x y : Int32} (hdg : decode (mbM M) pc = .ok (.ior, 1)) (hq : pc + 1 = q) (kk : EvF G d M ly pl h0 rv f q lv (.int (x ||| y) :: rest) s) : EvF G d M ly pl h0 rv f pc lv (.int y :: .int x :: rest) s := fun H r s' hf => by subst hq; exact ev_ior hdg (kk H r s' hf)
theorem ef_ixor {q : Nat} {x y : Int32} (hdg : decode (mbM M) pc = .ok (.ixor, 1)) (hq : pc + 1 = q) (kk : EvF G d M ly pl h0 rv f q lv (.int (x ^^^ y) :: rest) s) : EvF G d M ly pl h0 rv f pc lv (.int y :: .int x :: rest) s := fun H r s' hf => by subst hq; exact ev_ixor hdg (kk H r s' hf)
theorem ef_ishl {q : Nat} {x y : Int32} (hdg : decode (mbM M) pc = .ok (.ishl, 1)) (hq : pc + 1 = q) (kk : EvF G d M ly pl h0 rv f q lv (.int (x <<< (y &&& 31)) :: rest) s) : EvF G d M ly pl h0 rv f pc lv (.int y :: .int x :: rest) s := fun H r s' hf => by subst hq; exact ev_ishl hdg (kk H r s' hf)
theorem ef_ishr {q : Nat} {x y : Int32} (hdg : decode (mbM M) pc = .ok (.ishr, 1)) (hq : pc + 1 = q) (kk : EvF G d M ly pl h0 rv f q lv (.int (x >>> (y &&& 31)) :: rest) s) : EvF G d M ly pl h0 rv f pc lv (.int y :: .int x :: rest) s := fun H r s' hf => by subst hq; exact ev_ishr hdg (kk H r s' hf)
theorem ef_iushr {q : Nat} {x y v : Int32} (hdg : decode (mbM M) pc = .ok (.iushr, 1)) (hv : (x.toUInt32 >>> (y.toUInt32 &&& Int32.toUInt32 31)).toInt32 = v) (hq : pc + 1 = q) (kk : EvF G d M ly pl h0 rv f q lv (.int v :: rest) s) : EvF G d M ly pl h0 rv f pc lv (.int y :: .int x :: rest) s := fun H r s' hf => by subst hq; exact ev_iushr hdg hv (kk H r s' hf)
theorem ef_ladd {q : Nat} {x y : Int64} (hdg : decode (mbM M) pc = .ok (.ladd, 1)) (hq : pc + 1 = q) (kk : EvF G d M ly pl h0 rv f q lv (.long (x + y) :: rest) s) : EvF G d M ly pl h0 rv f pc lv (.long y :: .long x :: rest) s := fun H r s' hf => by subst hq; exact ev_ladd hdg (kk H r s' hf)
theorem ef_lsub {q : Nat} {x y : Int64} (hdg : decode (mbM M) pc = .ok (.lsub, 1)) (hq : pc + 1 = q) (kk : EvF G d M ly pl h0 rv f q lv (.long (x - y) :: rest) s) : EvF G d M ly pl h0 rv f pc lv (.long y :: .long x :: rest) s := fun H r s' hf => by subst hq; exact ev_lsub hdg (kk H r s' hf)
theorem ef_lmul {q : Nat} {x y : Int64} (hdg : decode (mbM M) pc = .ok (.lmul, 1)) (hq : pc + 1 = q) (kk : EvF G d M ly pl h0 rv f q lv (.long (x * y) :: rest) s) : EvF G d M ly pl h0 rv f pc lv (.long y :: .long x :: rest) s := fun H r s' hf => by subst hq; exact ev_lmul hdg (kk H r s' hf)
theorem ef_land {q : Nat} {x y : Int64} (hdg : decode (mbM M) pc = .ok (.land, 1)) (hq : pc + 1 = q) (kk : EvF G d M ly pl h0 rv f q lv (.long (x &&& y) :: rest) s) : EvF G d M ly pl h0 rv f pc lv (.long y :: .long x :: rest) s := fun H r s' hf => by subst hq; exact ev_land hdg (kk H r s' hf)
theorem ef_lor {q : Nat} {x y : Int64} (hdg : decode (mbM M) pc = .ok (.lor, 1)) (hq : pc + 1 = q) (kk : EvF G d M ly pl h0 rv f q lv (.long (x ||| y) :: rest) s) : EvF G d M ly pl h0 rv f pc lv (.long y :: .long x :: rest) s := fun H r s' hf => by subst hq; exact ev_lor hdg (kk H r s' hf)
theorem ef_lshl {q : Nat} {x v : Int64} {y : Int32} (hdg : decode (mbM M) pc = .ok (.lshl, 1)) (hv : x <<< (y.toInt64 &&& 63) = v) (hq : pc + 1 = q) (kk : EvF G d M ly pl h0 rv f q lv (.long v :: rest) s) : EvF G d M ly pl h0 rv f pc lv (.int y :: .long x :: rest) s := fun H r s' hf => by subst hq; exact ev_lshl hdg hv (kk H r s' hf)
theorem ef_i2l {q : Nat} {x : Int32} {v : Int64} (hdg : decode (mbM M) pc = .ok (.i2l, 1)) (hv : x.toInt64 = v) (hq : pc + 1 = q) (kk : EvF G d M ly pl h0 rv f q lv (.long v :: rest) s) : EvF G d M ly pl h0 rv f pc lv (.int x :: rest) s := fun H r s' hf => by subst hq; exact ev_i2l hdg hv (kk H r s' hf)
theorem ef_l2i {q : Nat} {x : Int64} {v : Int32} (hdg : decode (mbM M) pc = .ok (.l2i, 1)) (hv : x.toInt32 = v) (hq : pc + 1 = q) (kk : EvF G d M ly pl h0 rv f q lv (.int v :: rest) s) : EvF G d M ly pl h0 rv f pc lv (.long x :: rest) s := fun H r s' hf => by subst hq; exact ev_l2i hdg hv (kk H r s' hf)
theorem ef_i2b {q : Nat} {x : Int32} {v : Int32} (hdg : decode (mbM M) pc = .ok (.i2b, 1)) (hv : x.toInt8.toInt32 = v) (hq : pc + 1 = q) (kk : EvF G d M ly pl h0 rv f q lv (.int v :: rest) s) : EvF G d M ly pl h0 rv f pc lv (.int x :: rest) s := fun H r s' hf => by subst hq; exact ev_i2b hdg hv (kk H r s' hf)
theorem ef_i2s {q : Nat} {x : Int32} {v : Int32} (hdg : decode (mbM M) pc = .ok (.i2s, 1)) (hv : x.toInt16.toInt32 = v) (hq : pc + 1 = q) (kk : EvF G d M ly pl h0 rv f q lv (.int v :: rest) s) : EvF G d M ly pl h0 rv f pc lv (.int x :: rest) s := fun H r s' hf => by subst hq; exact ev_i2s hdg hv (kk H r s' hf)
theorem ef_dup {q : Nat} {va : Value} (hdg : decode (mbM M) pc = .ok (.dup, 1)) (hva : va.category = 1) (hq : pc + 1 = q) (kk : EvF G d M ly pl h0 rv f q lv (va :: va :: rest) s) : EvF G d M ly pl h0 rv f pc lv (va :: rest) s := fun H r s' hf => by subst hq; exact ev_dup hdg hva (kk H r s' hf)
theorem ef_pop {q : Nat} {va : Value} (hdg : decode (mbM M) pc = .ok (.pop, 1)) (hva : va.category = 1) (hq : pc + 1 = q) (kk : EvF G d M ly pl h0 rv f q lv (rest) s) : EvF G d M ly pl h0 rv f pc lv (va :: rest) s := fun H r s' hf => by subst hq; exact ev_pop hdg hva (kk H r s' hf)
theorem ef_dup_x1 {q : Nat} {va vb : Value} (hdg : decode (mbM M) pc = .ok (.dup_x1, 1)) (hva : va.category = 1) (hvb : vb.category = 1) (hq : pc + 1 = q) (kk : EvF G d M ly pl h0 rv f q lv (va :: vb :: va :: rest) s) : EvF G d M ly pl h0 rv f pc lv (va :: vb :: rest) s := fun H r s' hf => by subst hq; exact ev_dup_x1 hdg hva hvb (kk H r s' hf)
theorem ef_dup_x2 {q : Nat} {va vb vd : Value} (hdg : decode (mbM M) pc = .ok (.dup_x2, 1)) (hva : va.category = 1) (hvb : vb.category = 1) (hvd : vd.category = 1) (hq : pc + 1 = q) (kk : EvF G d M ly pl h0 rv f q lv (va :: vb :: vd :: va :: rest) s) : EvF G d M ly pl h0 rv f pc lv (va :: vb :: vd :: rest) s := fun H r s' hf => by subst hq; exact ev_dup_x2 hdg hva hvb hvd (kk H r s' hf)
theorem ef_dup2_11 {q : Nat} {va vb : Value} (hdg : decode (mbM M) pc = .ok (.dup2, 1)) (hva : va.category = 1) (hvb : vb.category = 1) (hq : pc + 1 = q) (kk : EvF G d M ly pl h0 rv f q lv (va :: vb :: va :: vb :: rest) s) : EvF G d M ly pl h0 rv f pc lv (va :: vb :: rest) s := fun H r s' hf => by subst hq; exact ev_dup2_11 hdg hva hvb (kk H r s' hf)
theorem ef_goto {off : Int} {tgt : Nat} (hdg : decode (mbM M) pc = .ok (.goto off, 3)) (ht : (pc : Int) + off = (tgt : Int)) (kk : EvF G d M ly pl h0 rv f tgt lv rest s) : EvF G d M ly pl h0 rv f pc lv rest s := fun H r s' hf => ev_goto hdg ht (kk H r s' hf)
theorem ef_iload_n {q : Nat} {k : Fin 4} {i : Nat} {x : Int32} (j : Nat) (hdg : decode (mbM M) pc = .ok (.iload_n k, 1)) (hi : (k : Nat) = i) (hj : lv[j]? = some (i, .int x)) (hq : pc + 1 = q) (kk : EvF G d M ly pl h0 rv f q lv (.int x :: rest) s) : EvF G d M ly pl h0 rv f pc lv rest s := fun H r s' hf => by subst hq; exact ev_iload_n j hdg hi hj (kk H r s' hf)
theorem ef_iload {q : Nat} {i : Nat} {x : Int32} (j : Nat) (hdg : decode (mbM M) pc = .ok (.iload i, 2)) (hj : lv[j]? = some (i, .int x)) (hq : pc + 2 = q) (kk : EvF G d M ly pl h0 rv f q lv (.int x :: rest) s) : EvF G d M ly pl h0 rv f pc lv rest s := fun H r s' hf => by subst hq; exact ev_iload j hdg hj (kk H r s' hf)
theorem ef_lload_n {q : Nat} {k : Fin 4} {i : Nat} {x : Int64} (j : Nat) (hdg : decode (mbM M) pc = .ok (.lload_n k, 1)) (hi : (k : Nat) = i) (hj : lv[j]? = some (i, .long x)) (hq : pc + 1 = q) (kk : EvF G d M ly pl h0 rv f q lv (.long x :: rest) s) : EvF G d M ly pl h0 rv f pc lv rest s := fun H r s' hf => by subst hq; exact ev_lload_n j hdg hi hj (kk H r s' hf)
theorem ef_lload {q : Nat} {i : Nat} {x : Int64} (j : Nat) (hdg : decode (mbM M) pc = .ok (.lload i, 2)) (hj : lv[j]? = some (i, .long x)) (hq : pc + 2 = q) (kk : EvF G d M ly pl h0 rv f q lv (.long x :: rest) s) : EvF G d M ly pl h0 rv f pc lv rest s := fun H r s' hf => by subst hq; exact ev_lload j hdg hj (kk H r s' hf)
theorem ef_aload_n {q : Nat} {k : Fin 4} {i x : Nat} (j : Nat) (hdg : decode (mbM M) pc = .ok (.aload_n k, 1)) (hi : (k : Nat) = i) (hj : lv[j]? = some (i, .ref x)) (hq : pc + 1 = q) (kk : EvF G d M ly pl h0 rv f q lv (.ref x :: rest) s) : EvF G d M ly pl h0 rv f pc lv rest s := fun H r s' hf => by subst hq; exact ev_aload_n j hdg hi hj (kk H r s' hf)
theorem ef_aload {q : Nat} {i x : Nat} (j : Nat) (hdg : decode (mbM M) pc = .ok (.aload i, 2)) (hj : lv[j]? = some (i, .ref x)) (hq : pc + 2 = q) (kk : EvF G d M ly pl h0 rv f q lv (.ref x :: rest) s) : EvF G d M ly pl h0 rv f pc lv rest s := fun H r s' hf => by subst hq; exact ev_aload j hdg hj (kk H r s' hf)
theorem ef_istore_n {q : Nat} {k : Fin 4} {i : Nat} {x : Int32} {lv' : List (Nat × Value)} (hdg : decode (mbM M) pc = .ok (.istore_n k, 1)) (hi : (k : Nat) = i) (hn : i < mlM M) (hl' : (i, Value.int x) :: lv.filter (fun q => !(q.1 == i) && !(q.1 + 1 == i && q.2.category == 2)) = lv') (hq : pc + 1 = q) (kk : EvF G d M ly pl h0 rv f q lv' rest s) : EvF G d M ly pl h0 rv f pc lv (.int x :: rest) s := fun H r s' hf => by subst hq; exact ev_istore_n hdg hi hn hl' (kk H r s' hf)
theorem ef_istore {q : Nat} {i : Nat} {x : Int32} {lv' : List (Nat × Value)} (hdg : decode (mbM M) pc = .ok (.istore i, 2)) (hn : i < mlM M) (hl' : (i, Value.int x) :: lv.filter (fun q => !(q.1 == i) && !(q.1 + 1 == i && q.2.category == 2)) = lv') (hq : pc + 2 = q) (kk : EvF G d M ly pl h0 rv f q lv' rest s) : EvF G d M ly pl h0 rv f pc lv (.int x :: rest) s := fun H r s' hf => by subst hq; exact ev_istore hdg hn hl' (kk H r s' hf)
theorem ef_lstore_n {q : Nat} {k : Fin 4} {i : Nat} {x : Int64} {lv' : List (Nat × Value)} (hdg : decode (mbM M) pc = .ok (.lstore_n k, 1)) (hi : (k : Nat) = i) (hn : i + 1 < mlM M) (hl' : (i, Value.long x) :: lv.filter (fun q => !(q.1 == i) && (!(q.1 == i + 1) && !(q.1 + 1 == i && q.2.category == 2))) = lv') (hq : pc + 1 = q) (kk : EvF G d M ly pl h0 rv f q lv' rest s) : EvF G d M ly pl h0 rv f pc lv (.long x :: rest) s := fun H r s' hf => by subst hq; exact ev_lstore_n hdg hi hn hl' (kk H r s' hf)
theorem ef_lstore {q : Nat} {i : Nat} {x : Int64} {lv' : List (Nat × Value)} (hdg : decode (mbM M) pc = .ok (.lstore i, 2)) (hn : i + 1 < mlM M) (hl' : (i, Value.long x) :: lv.filter (fun q => !(q.1 == i) && (!(q.1 == i + 1) && !(q.1 + 1 == i && q.2.category == 2))) = lv') (hq : pc + 2 = q) (kk : EvF G d M ly pl h0 rv f q lv' rest s) : EvF G d M ly pl h0 rv f pc lv (.long x :: rest) s := fun H r s' hf => by subst hq; exact ev_lstore hdg hn hl' (kk H r s' hf)
theorem ef_astore_n {q : Nat} {k : Fin 4} {i x : Nat} {lv' : List (Nat × Value)} (hdg : decode (mbM M) pc = .ok (.astore_n k, 1)) (hi : (k : Nat) = i) (hn : i < mlM M) (hl' : (i, Value.ref x) :: lv.filter (fun q => !(q.1 == i) && !(q.1 + 1 == i && q.2.category == 2)) = lv') (hq : pc + 1 = q) (kk : EvF G d M ly pl h0 rv f q lv' rest s) : EvF G d M ly pl h0 rv f pc lv (.ref x :: rest) s := fun H r s' hf => by subst hq; exact ev_astore_n hdg hi hn hl' (kk H r s' hf)
theorem ef_astore {q : Nat} {i x : Nat} {lv' : List (Nat × Value)} (hdg : decode (mbM M) pc = .ok (.astore i, 2)) (hn : i < mlM M) (hl' : (i, Value.ref x) :: lv.filter (fun q => !(q.1 == i) && !(q.1 + 1 == i && q.2.category == 2)) = lv') (hq : pc + 2 = q) (kk : EvF G d M ly pl h0 rv f q lv' rest s) : EvF G d M ly pl h0 rv f pc lv (.ref x :: rest) s := fun H r s' hf => by subst hq; exact ev_astore hdg hn hl' (kk H r s' hf)
theorem ef_iinc {q : Nat} {i : Nat} {n : Int} {x v : Int32} {lv' : List (Nat × Value)} (j : Nat) (hdg : decode (mbM M) pc = .ok (.iinc i n, 3)) (hj : lv[j]? = some (i, .int x)) (hv : x + Int32.ofInt n = v) (hn : i < mlM M) (hl' : (i, Value.int v) :: lv.filter (fun q => !(q.1 == i) && !(q.1 + 1 == i && q.2.category == 2)) = lv') (hq : pc + 3 = q) (kk : EvF G d M ly pl h0 rv f q lv' rest s) : EvF G d M ly pl h0 rv f pc lv rest s := fun H r s' hf => by subst hq; exact ev_iinc j hdg hj hv hn hl' (kk H r s' hf)
theorem ef_sub {lv' : List (Nat × Value)} (js : List Nat) (hj : lv_pick lv js = lv') (kk : EvF G d M ly pl h0 rv f pc lv' rest s) : EvF G d M ly pl h0 rv f pc lv rest s := fun H r s' hf => ev_sub js hj (kk H r s' hf)
theorem ef_lcmp {q : Nat} {x y : Int64} (hdg : decode (mbM M) pc = .ok (.lcmp, 1)) (hq : pc + 1 = q) (kk : EvF G d M ly pl h0 rv f q lv (.int (lg_cmp x y) :: rest) s) : EvF G d M ly pl h0 rv f pc lv (.long y :: .long x :: rest) s := fun H r s' hf => by subst hq; exact ev_lcmp hdg (kk H r s' hf)
theorem ef_ldc {q : Nat} {index : Nat} {v : Int32} (hc : Cond.constant (moM M) index v ∈ TT) (hdg : decode (mbM M) pc = .ok (.ldc index, 2)) (hq : pc + 2 = q) (kk : EvF G d M ly pl h0 rv f q lv (.int v :: rest) s) : EvF G d M ly pl h0 rv f pc lv rest s := fun H r s' hf => by subst hq; exact ev_ldc hc hdg (kk H r s' hf)
theorem ef_ldc2 {q : Nat} {index : Nat} {v : Int64} (hc : Cond.constantLong (moM M) index v ∈ TT) (hdg : decode (mbM M) pc = .ok (.ldc2_w index, 3)) (hq : pc + 3 = q) (kk : EvF G d M ly pl h0 rv f q lv (.long v :: rest) s) : EvF G d M ly pl h0 rv f pc lv rest s := fun H r s' hf => by subst hq; exact ev_ldc2 hc hdg (kk H r s' hf)
end EFL
end
section
/-! Math.min and System.arraycopy -/
def updA {α : Type} (S : Nat → Nat → α) (a : Nat) (g : Nat → α) : Nat → Nat → α := fun q => if q = a then g else S q
theorem updA_same {α : Type} {S : Nat → Nat → α} {a : Nat} {g : Nat → α} : updA S a g a = g := by simp [updA]
theorem updA_ne {α : Type} {S : Nat → Nat → α} {a q : Nat} {g : Nat → α} (z : q ≠ a) : updA S a g q = S q := by simp [updA, z]
theorem mrg_setA {α : Type} {pl : Nat → Nat} {S C : Nat → Nat → α} {n k : Nat} {g : Nat → α} (hi : injN pl n) (hk : k < n) : updA (mrg pl n S C) (pl k) g = mrg pl n S (updA C k g) := by
  funext q
  rcases mrg_cases (pl := pl) n q with ⟨j, hj, rfl⟩ | hq
  · rw [mrg_at hi hj]
    by_cases z : j = k
    · subst z
      rw [updA_same, updA_same]
    · rw [updA_ne (fun e => z (hi j k hj hk e)), updA_ne z, mrg_at hi hj]
  · rw [mrg_off hq, updA_ne (hq k hk), mrg_off hq]
def wrA (s : SS) (k : Nat) (g : Nat → Int32) : SS := (updA s.1 k g, s.2)
def wrAL (s : SS) (k : Nat) (g : Nat → Int64) : SS := (s.1, updA s.2 k g)
theorem LH_wrA {pl : Nat → Nat} {n : Nat} {h0 : PH} {s : SS} {k : Nat} {g : Nat → Int32} (hi : injN pl n) (hk : k < n) : LH pl n h0 (wrA s k g) = (h0.1, h0.2.1, h0.2.2.1, updA (LH pl n h0 s).2.2.2.1 (pl k) g, (LH pl n h0 s).2.2.2.2) := by
  unfold LH wrA
  simp only [mrg_setA hi hk]
theorem LH_wrAL {pl : Nat → Nat} {n : Nat} {h0 : PH} {s : SS} {k : Nat} {g : Nat → Int64} (hi : injN pl n) (hk : k < n) : LH pl n h0 (wrAL s k g) = (h0.1, h0.2.1, h0.2.2.1, (LH pl n h0 s).2.2.2.1, updA (LH pl n h0 s).2.2.2.2 (pl k) g) := by
  unfold LH wrAL
  simp only [mrg_setA hi hk]
abbrev acOK (sp dp n : Int32) (n0 n1 : Nat) : Prop := ¬ sp < 0 ∧ ¬ dp < 0 ∧ ¬ n < 0 ∧ sp.toNatClampNeg + n.toNatClampNeg ≤ n0 ∧ dp.toNatClampNeg + n.toNatClampNeg ≤ n1
theorem tt_min : Cond.static Lib.Math.min.name ∈ TT ∧ Cond.initialized "java/lang/Math" ∈ TT ∧ Cond.code Lib.Math.min.name Lib.Math.min.code 2 (some .int) ∈ TT := ⟨TT_in (by decide +kernel) rfl, TT_in (by decide +kernel) rfl, TT_in (by decide +kernel) rfl⟩
theorem tt_acp : Cond.native arraycopyName ∈ TT ∧ Cond.static arraycopyName ∈ TT ∧ Cond.initialized "java/lang/System" ∈ TT := ⟨TT_in (by decide +kernel) rfl, TT_in (by decide +kernel) rfl, TT_in (by decide +kernel) rfl⟩
theorem toInt_nn {z : Int32} (hz : ¬ z < 0) : z.toInt = (z.toNatClampNeg : Int) := by
  have hz0 : (0 : Int) ≤ z.toInt := by
    have := Int32.not_lt.mp hz
    simpa using Int32.le_iff_toInt_le.mp this
  show z.toInt = ((z.toInt.toNat : Nat) : Int)
  omega
section ECP
variable {G : GG} {d : Nat} {M : MI} {mc ms : Nat} {Q : Option Value → PH → Prop} {kc ks pc : Nat} {lv : List (Nat × Value)} {rest : List Value} {h : PH}
theorem ev_mmin {idx : Nat} {x y : Int32} (hlk : Cond.methodLink (moM M) idx Lib.Math.min.name ∈ TT) (hd : 1 ≤ d) (hW : (rest.map fun v => v.category).sum ≤ 8) (h1 : kc ≤ mc) (h2 : ks ≤ ms) (hdg : decode (mbM M) pc = .ok (.invokestatic idx, 3))
    (kk : Ev G d M mc ms Q kc ks (pc + 3) lv (.int (if y < x then y else x) :: rest) h) : Ev G d M mc ms Q kc ks pc lv (.int y :: .int x :: rest) h := by
  intro p l e s m args below meth c H locs ls X R L hl
  have hts : ∀ w ∈ TT, w.before args s = true := fun w hw => X.2.2.2.2.1 w (List.mem_cons_of_mem _ hw)
  refine va_mmin X.1 X.2.1 (X.2.2.1.trans hl.1.symm) X.2.2.2.1 (hts _ hlk) (hts _ tt_min.1) (hts _ tt_min.2.1) (hts _ tt_min.2.2) hd ?_ h1 h2 hdg (kk p l e s m args below meth c H locs ls X R L hl)
  show _ + 13 ≤ 64 * d
  omega
theorem ev_acopyI {idx a0 a n0 n1 : Nat} {sp dp n : Int32} (hs0 : h.2.1 a0 = some (10, n0)) (hs1 : h.2.1 a = some (10, n1)) (hlk : Cond.methodLink (moM M) idx arraycopyName ∈ TT) (hok : acOK sp dp n n0 n1) (hd : 1 ≤ d) (hW : (rest.map fun v => v.category).sum ≤ 8) (hdg : decode (mbM M) pc = .ok (.invokestatic idx, 3))
    (kk : Ev G d M mc ms Q kc ks (pc + 3) lv rest (h.1, h.2.1, h.2.2.1, updA h.2.2.2.1 a (va_cpy (h.2.2.2.1 a0) (h.2.2.2.1 a) sp.toNatClampNeg dp.toNatClampNeg n.toNatClampNeg), h.2.2.2.2)) : Ev G d M mc ms Q kc ks pc lv (.int n :: .int dp :: .ref a :: .int sp :: .ref a0 :: rest) h := by
  intro p l e s m args below meth c H locs ls X R L hl
  have hts : ∀ w ∈ TT, w.before args s = true := fun w hw => X.2.2.2.2.1 w (List.mem_cons_of_mem _ hw)
  obtain ⟨h1, h2, h3, h4, h5⟩ := hok
  intro T hT X0
  obtain ⟨-, hc0⟩ := R.ints hs0
  obtain ⟨hga, hc1⟩ := R.ints hs1
  have hty := (X.2.2.2.2.2.2.2.1.1.2 0 _ (tysG_at G (by decide))).1
  obtain ⟨-, k0, hk0, cm0, hkk0⟩ := hty n0 (fun j => .int (h.2.2.2.1 a0 j))
  obtain ⟨-, k1, hk1, cm1, hkk1⟩ := hty n1 (fun j => .int (h.2.2.2.1 a j))
  have hnf : nativeFrameWords "java/lang/System" "arraycopy" 5 + 11 ≤ 56 := by decide +kernel
  obtain ⟨vm', X', step⟩ := X0.arraycopy X.1 X.2.2.2.1 (hts _ hlk) (hts _ tt_acp.1) (hts _ tt_acp.2.1) (hts _ tt_acp.2.2) (src := a0) (dst := a) (cs := arrV (G.2.1 0) n0 (fun j => .int (h.2.2.2.1 a0 j))) (cd := arrV (G.2.1 0) n1 (fun j => .int (h.2.2.2.1 a j))) (srcPos := sp) (destPos := dp) (n := n) (by rw [hT]; exact hc0) (by rw [hT]; exact hc1)
    (fun _ h => by cases h) (fun _ h => by cases h) (fun h => by cases h) (fun h => by cases h) hk0 hk1 hkk0 hkk1 (by simp [atyG, refKind]) h1 h2 h3
    (by rw [toInt_nn h1, toInt_nn h3, arrV_size]; omega)
    (by rw [toInt_nn h2, toInt_nn h3, arrV_size]; omega)
    (fun vm₁ _ i hi => by
      have e : (arrV (G.2.1 0) n0 (fun j => .int (h.2.2.2.1 a0 j))).slots.getD (sp.toNatClampNeg + i) .null = .int (h.2.2.2.1 a0 (sp.toNatClampNeg + i)) := by
        rw [Array.getD_eq_getD_getElem?, arrV_read _ _ (by omega)]
        rfl
      refine ⟨?_, ?_⟩
      · rw [e]
        rfl
      · rw [e]
        exact trivial)
    (g := F0 m pc ls (.int n :: .int dp :: .ref a :: .int sp :: .ref a0 :: rest)) rfl (by rw [X.2.2.1]; exact hl.1) (rest := rest) rfl (by rw [X.2.1]; exact hdg) hd (by show 2 * 0 + _ + _ ≤ 64 * d; omega)
  have e1 : copied (arrV (G.2.1 0) n0 (fun j => .int (h.2.2.2.1 a0 j))) (arrV (G.2.1 0) n1 (fun j => .int (h.2.2.2.1 a j))) sp dp n = arrV (G.2.1 0) n1 (fun j => .int (va_cpy (h.2.2.2.1 a0) (h.2.2.2.1 a) sp.toNatClampNeg dp.toNatClampNeg n.toNatClampNeg j)) := va_copied (fun z => .int z) (G.2.1 0) (G.2.1 0) (h.2.2.2.1 a0) (h.2.2.2.1 a) h4
  rw [e1] at X' step
  have hl2 : a < H.size := (Array.getElem?_eq_some_iff.mp hc1).1
  have hheap : ((T.setVm vm').setCell a (arrV (G.2.1 0) n1 (fun j => .int (va_cpy (h.2.2.2.1 a0) (h.2.2.2.1 a) sp.toNatClampNeg dp.toNatClampNeg n.toNatClampNeg j)))).heap = H.setIfInBounds a (arrV (G.2.1 0) n1 (fun j => .int (va_cpy (h.2.2.2.1 a0) (h.2.2.2.1 a) sp.toNatClampNeg dp.toNatClampNeg n.toNatClampNeg j))) := by rw [← hT]; rfl
  have oq : ∀ q : Nat, q ≠ a → (H.setIfInBounds a (arrV (G.2.1 0) n1 (fun j => .int (va_cpy (h.2.2.2.1 a0) (h.2.2.2.1 a) sp.toNatClampNeg dp.toNatClampNeg n.toNatClampNeg j))))[q]? = H[q]? := fun q hq => by simp [Array.getElem?_setIfInBounds, Ne.symm hq]
  obtain ⟨t, a1, b1⟩ := kk p l e s m args below meth c _ _ ls X (R.write (P := h.2.2.1) (S := updA h.2.2.2.1 a (va_cpy (h.2.2.2.1 a0) (h.2.2.2.1 a) sp.toNatClampNeg dp.toNatClampNeg n.toNatClampNeg)) (LL := h.2.2.2.2) hs1 (by simp) oq (fun q _ => rfl) (fun q z => updA_ne z) (fun q _ => rfl) (by
      unfold cellG
      rw [if_neg (show ¬ (10 : Nat) < 7 by decide), if_pos rfl]
      simp only [updA_same]
      simp [Array.getElem?_setIfInBounds, hl2])) (fun q hq => by
      rcases List.mem_append.mp hq with z | z
      · exact L q z
      · obtain ⟨w, -, hw⟩ := List.mem_map.mp z
        rw [← hw]
        exact hga) hl _ hheap X'
  exact ⟨t, step t a1, b1⟩
theorem ev_acopyL {idx a0 a n0 n1 : Nat} {sp dp n : Int32} (hs0 : h.2.1 a0 = some (11, n0)) (hs1 : h.2.1 a = some (11, n1)) (hlk : Cond.methodLink (moM M) idx arraycopyName ∈ TT) (hok : acOK sp dp n n0 n1) (hd : 1 ≤ d) (hW : (rest.map fun v => v.category).sum ≤ 8) (hdg : decode (mbM M) pc = .ok (.invokestatic idx, 3))
    (kk : Ev G d M mc ms Q kc ks (pc + 3) lv rest (h.1, h.2.1, h.2.2.1, h.2.2.2.1, updA h.2.2.2.2 a (va_cpy (h.2.2.2.2 a0) (h.2.2.2.2 a) sp.toNatClampNeg dp.toNatClampNeg n.toNatClampNeg))) : Ev G d M mc ms Q kc ks pc lv (.int n :: .int dp :: .ref a :: .int sp :: .ref a0 :: rest) h := by
  intro p l e s m args below meth c H locs ls X R L hl
  have hts : ∀ w ∈ TT, w.before args s = true := fun w hw => X.2.2.2.2.1 w (List.mem_cons_of_mem _ hw)
  obtain ⟨h1, h2, h3, h4, h5⟩ := hok
  intro T hT X0
  obtain ⟨-, hc0⟩ := R.lngs hs0
  obtain ⟨hga, hc1⟩ := R.lngs hs1
  have hty := (X.2.2.2.2.2.2.2.1.1.2 1 _ (tysG_at G (by decide))).1
  obtain ⟨-, k0, hk0, cm0, hkk0⟩ := hty n0 (fun j => .long (h.2.2.2.2 a0 j))
  obtain ⟨-, k1, hk1, cm1, hkk1⟩ := hty n1 (fun j => .long (h.2.2.2.2 a j))
  have hnf : nativeFrameWords "java/lang/System" "arraycopy" 5 + 11 ≤ 56 := by decide +kernel
  obtain ⟨vm', X', step⟩ := X0.arraycopy X.1 X.2.2.2.1 (hts _ hlk) (hts _ tt_acp.1) (hts _ tt_acp.2.1) (hts _ tt_acp.2.2) (src := a0) (dst := a) (cs := arrV (G.2.1 1) n0 (fun j => .long (h.2.2.2.2 a0 j))) (cd := arrV (G.2.1 1) n1 (fun j => .long (h.2.2.2.2 a j))) (srcPos := sp) (destPos := dp) (n := n) (by rw [hT]; exact hc0) (by rw [hT]; exact hc1)
    (fun _ h => by cases h) (fun _ h => by cases h) (fun h => by cases h) (fun h => by cases h) hk0 hk1 hkk0 hkk1 (by simp [atyG, refKind]) h1 h2 h3
    (by rw [toInt_nn h1, toInt_nn h3, arrV_size]; omega)
    (by rw [toInt_nn h2, toInt_nn h3, arrV_size]; omega)
    (fun vm₁ _ i hi => by
      have e : (arrV (G.2.1 1) n0 (fun j => .long (h.2.2.2.2 a0 j))).slots.getD (sp.toNatClampNeg + i) .null = .long (h.2.2.2.2 a0 (sp.toNatClampNeg + i)) := by
        rw [Array.getD_eq_getD_getElem?, arrV_read _ _ (by omega)]
        rfl
      refine ⟨?_, ?_⟩
      · rw [e]
        rfl
      · rw [e]
        exact trivial)
    (g := F0 m pc ls (.int n :: .int dp :: .ref a :: .int sp :: .ref a0 :: rest)) rfl (by rw [X.2.2.1]; exact hl.1) (rest := rest) rfl (by rw [X.2.1]; exact hdg) hd (by show 2 * 0 + _ + _ ≤ 64 * d; omega)
  have e1 : copied (arrV (G.2.1 1) n0 (fun j => .long (h.2.2.2.2 a0 j))) (arrV (G.2.1 1) n1 (fun j => .long (h.2.2.2.2 a j))) sp dp n = arrV (G.2.1 1) n1 (fun j => .long (va_cpy (h.2.2.2.2 a0) (h.2.2.2.2 a) sp.toNatClampNeg dp.toNatClampNeg n.toNatClampNeg j)) := va_copied (fun z => .long z) (G.2.1 1) (G.2.1 1) (h.2.2.2.2 a0) (h.2.2.2.2 a) h4
  rw [e1] at X' step
  have hl2 : a < H.size := (Array.getElem?_eq_some_iff.mp hc1).1
  have hheap : ((T.setVm vm').setCell a (arrV (G.2.1 1) n1 (fun j => .long (va_cpy (h.2.2.2.2 a0) (h.2.2.2.2 a) sp.toNatClampNeg dp.toNatClampNeg n.toNatClampNeg j)))).heap = H.setIfInBounds a (arrV (G.2.1 1) n1 (fun j => .long (va_cpy (h.2.2.2.2 a0) (h.2.2.2.2 a) sp.toNatClampNeg dp.toNatClampNeg n.toNatClampNeg j))) := by rw [← hT]; rfl
  have oq : ∀ q : Nat, q ≠ a → (H.setIfInBounds a (arrV (G.2.1 1) n1 (fun j => .long (va_cpy (h.2.2.2.2 a0) (h.2.2.2.2 a) sp.toNatClampNeg dp.toNatClampNeg n.toNatClampNeg j))))[q]? = H[q]? := fun q hq => by simp [Array.getElem?_setIfInBounds, Ne.symm hq]
  obtain ⟨t, a1, b1⟩ := kk p l e s m args below meth c _ _ ls X (R.write (P := h.2.2.1) (S := h.2.2.2.1) (LL := updA h.2.2.2.2 a (va_cpy (h.2.2.2.2 a0) (h.2.2.2.2 a) sp.toNatClampNeg dp.toNatClampNeg n.toNatClampNeg)) hs1 (by simp) oq (fun q _ => rfl) (fun q _ => rfl) (fun q z => updA_ne z) (by
      unfold cellG
      rw [if_neg (show ¬ (11 : Nat) < 7 by decide), if_neg (show ¬ (11 : Nat) = 10 by decide), if_pos rfl]
      simp only [updA_same]
      simp [Array.getElem?_setIfInBounds, hl2])) (fun q hq => by
      rcases List.mem_append.mp hq with z | z
      · exact L q z
      · obtain ⟨w, -, hw⟩ := List.mem_map.mp z
        rw [← hw]
        exact hga) hl _ hheap X'
  exact ⟨t, step t a1, b1⟩
end ECP
section EFC
variable {G : GG} {d : Nat} {M : MI} {ly : LY} {pl : Nat → Nat} {h0 : PH} {ρ : Type} {rv : ρ → Option Value} {f : Option (ρ × SS)} {pc : Nat} {lv : List (Nat × Value)} {rest : List Value} {s : SS}
theorem ef_mmin {q idx : Nat} {x y : Int32} (hlk : Cond.methodLink (moM M) idx Lib.Math.min.name ∈ TT) (hd : 1 ≤ d) (hW : (rest.map fun v => v.category).sum ≤ 8) (hdg : decode (mbM M) pc = .ok (.invokestatic idx, 3)) (hq : pc + 3 = q) (kk : EvF G d M ly pl h0 rv f q lv (.int (if y < x then y else x) :: rest) s) : EvF G d M ly pl h0 rv f pc lv (.int y :: .int x :: rest) s := fun H r s' hf => by
  subst hq
  exact ev_mmin hlk hd hW (Nat.le_refl 0) (Nat.le_refl 0) hdg (kk H r s' hf)
theorem ef_acopyI {q idx k0 k1 n0 n1 : Nat} {r0 r1 : List (Nat × Nat)} {sp dp n : Int32} {g : Nat → Int32} (he0 : ly[k0]? = some ((10, n0), r0)) (he1 : ly[k1]? = some ((10, n1), r1)) (hlk : Cond.methodLink (moM M) idx arraycopyName ∈ TT) (hok : acOK sp dp n n0 n1) (hd : 1 ≤ d) (hW : (rest.map fun v => v.category).sum ≤ 8) (hdg : decode (mbM M) pc = .ok (.invokestatic idx, 3)) (hg : va_cpy (s.1 k0) (s.1 k1) sp.toNatClampNeg dp.toNatClampNeg n.toNatClampNeg = g) (hq : pc + 3 = q)
    (kk : EvF G d M ly pl h0 rv f q lv rest (wrA s k1 g)) : EvF G d M ly pl h0 rv f pc lv (.int n :: .int dp :: .ref (pl k1) :: .int sp :: .ref (pl k0) :: rest) s := fun H r s' hf => by
  subst hq
  have h1 := kk H r s' hf
  rw [LH_wrA H.1 (LayOK.lt he1)] at h1
  refine ev_acopyI (H.sh he0) (H.sh he1) hlk hok hd hW hdg ?_
  have e : va_cpy ((LH pl ly.length h0 s).2.2.2.1 (pl k0)) ((LH pl ly.length h0 s).2.2.2.1 (pl k1)) sp.toNatClampNeg dp.toNatClampNeg n.toNatClampNeg = g := by
    rw [← hg]
    show va_cpy (mrg pl ly.length h0.2.2.2.1 s.1 (pl k0)) (mrg pl ly.length h0.2.2.2.1 s.1 (pl k1)) _ _ _ = _
    rw [mrg_at H.1 (LayOK.lt he0), mrg_at H.1 (LayOK.lt he1)]
  rw [e]
  exact h1
theorem ef_acopyL {q idx k0 k1 n0 n1 : Nat} {r0 r1 : List (Nat × Nat)} {sp dp n : Int32} {g : Nat → Int64} (he0 : ly[k0]? = some ((11, n0), r0)) (he1 : ly[k1]? = some ((11, n1), r1)) (hlk : Cond.methodLink (moM M) idx arraycopyName ∈ TT) (hok : acOK sp dp n n0 n1) (hd : 1 ≤ d) (hW : (rest.map fun v => v.category).sum ≤ 8) (hdg : decode (mbM M) pc = .ok (.invokestatic idx, 3)) (hg : va_cpy (s.2 k0) (s.2 k1) sp.toNatClampNeg dp.toNatClampNeg n.toNatClampNeg = g) (hq : pc + 3 = q)
    (kk : EvF G d M ly pl h0 rv f q lv rest (wrAL s k1 g)) : EvF G d M ly pl h0 rv f pc lv (.int n :: .int dp :: .ref (pl k1) :: .int sp :: .ref (pl k0) :: rest) s := fun H r s' hf => by
  subst hq
  have h1 := kk H r s' hf
  rw [LH_wrAL H.1 (LayOK.lt he1)] at h1
  refine ev_acopyL (H.sh he0) (H.sh he1) hlk hok hd hW hdg ?_
  have e : va_cpy ((LH pl ly.length h0 s).2.2.2.2 (pl k0)) ((LH pl ly.length h0 s).2.2.2.2 (pl k1)) sp.toNatClampNeg dp.toNatClampNeg n.toNatClampNeg = g := by
    rw [← hg]
    show va_cpy (mrg pl ly.length h0.2.2.2.2 s.2 (pl k0)) (mrg pl ly.length h0.2.2.2.2 s.2 (pl k1)) _ _ _ = _
    rw [mrg_at H.1 (LayOK.lt he0), mrg_at H.1 (LayOK.lt he1)]
  rw [e]
  exact h1
end EFC
/-- the loops' fuel -/
def FU : Nat := 1000
end
section
def lyC : LY := [((0, 0), [(12, 1), (13, 2), (14, 3), (15, 4)]), ((10, 3), []), ((10, 3), []), ((10, 24), []), ((10, 8), [])]
def lyCC : LY := [((0, 0), [(12, 1), (13, 2), (14, 3), (15, 4)]), ((10, 3), []), ((10, 3), []), ((10, 24), []), ((10, 8), []), ((0, 0), [(12, 6), (13, 7), (14, 8), (15, 9)]), ((10, 3), []), ((10, 3), []), ((10, 24), []), ((10, 8), [])]
def ly : LY := []
abbrev mX0_init : MI := (RX0, yX0_init, cX0_init, 1, none)
abbrev mX0_takeFrom : MI := (RX0, yX0_takeFrom, cX0_takeFrom, 2, none)
abbrev mX0_hasOrder : MI := (RX0, yX0_hasOrder, cX0_hasOrder, 3, (some .boolean))
abbrev mX0_scoopInOrder : MI := (RX0, yX0_scoopInOrder, cX0_scoopInOrder, 3, (some .int))
abbrev mX0_takeInOrder : MI := (RX0, yX0_takeInOrder, cX0_takeInOrder, 5, none)
abbrev mX0_changePlaces : MI := (RX0, yX0_changePlaces, cX0_changePlaces, 7, none)
abbrev mX0_becomeSides : MI := (RX0, yX0_becomeSides, cX0_becomeSides, 2, none)
abbrev mX0_becomeEmpty : MI := (RX0, yX0_becomeEmpty, cX0_becomeEmpty, 2, none)
abbrev mX0_putOnTop : MI := (RX0, yX0_putOnTop, cX0_putOnTop, 4, none)
abbrev mX0_allPlaces : MI := (RX0, yX0_allPlaces, cX0_allPlaces, 1, (some .int))
abbrev mX0_wetAt : MI := (RX0, yX0_wetAt, cX0_wetAt, 3, (some .int))
abbrev mX0_isSunny : MI := (RX0, yX0_isSunny, cX0_isSunny, 3, (some .boolean))
abbrev mX0_allWetOf : MI := (RX0, yX0_allWetOf, cX0_allWetOf, 4, (some .int))
abbrev mX0_left : MI := (RX0, yX0_left, cX0_left, 3, (some .int))
abbrev mX0_hasMeltedScoop : MI := (RX0, yX0_hasMeltedScoop, cX0_hasMeltedScoop, 2, (some .boolean))
abbrev mX0_wettestSide : MI := (RX0, yX0_wettestSide, cX0_wettestSide, 6, (some .int))
abbrev mX0_lowestWetSide : MI := (RX0, yX0_lowestWetSide, cX0_lowestWetSide, 3, (some .int))
abbrev mX0_isWetLower : MI := (RX0, yX0_isWetLower, cX0_isWetLower, 4, (some .boolean))
abbrev mX0_canDo : MI := (RX0, yX0_canDo, cX0_canDo, 2, (some .boolean))
abbrev mX0_isIdle : MI := (RX0, yX0_isIdle, cX0_isIdle, 2, (some .boolean))
abbrev mX0_pass : MI := (RX0, yX0_pass, cX0_pass, 2, none)
abbrev mX0_eat : MI := (RX0, yX0_eat, cX0_eat, 4, none)
abbrev mX0_melt : MI := (RX0, yX0_melt, cX0_melt, 5, none)
abbrev mX0_runDown : MI := (RX0, yX0_runDown, cX0_runDown, 5, none)
abbrev mX0_fallOff : MI := (RX0, yX0_fallOff, cX0_fallOff, 2, none)
theorem calX0_init : CalI mX0_init 0 := ⟨⟨TT_at 115 (by decide +kernel) rfl, TT_at 86 (by decide +kernel) rfl, ⟨by decide +kernel, by decide +kernel⟩, by decide⟩, TT_at 114 (by decide +kernel) rfl, rfl, rfl, by decide +kernel⟩
theorem calX0_takeFrom : CalV mX0_takeFrom 0 1 := ⟨⟨TT_at 455 (by decide +kernel) rfl, TT_at 86 (by decide +kernel) rfl, ⟨by decide +kernel, by decide +kernel⟩, by decide⟩, TT_at 453 (by decide +kernel) rfl, TT_at 454 (by decide +kernel) rfl, by decide, by decide +kernel⟩
theorem calX0_hasOrder : CalV mX0_hasOrder 0 1 := ⟨⟨TT_at 800 (by decide +kernel) rfl, TT_at 86 (by decide +kernel) rfl, ⟨by decide +kernel, by decide +kernel⟩, by decide⟩, TT_at 798 (by decide +kernel) rfl, TT_at 799 (by decide +kernel) rfl, by decide, by decide +kernel⟩
theorem calX0_scoopInOrder : CalS mX0_scoopInOrder 2 := ⟨⟨TT_at 803 (by decide +kernel) rfl, TT_at 86 (by decide +kernel) rfl, ⟨by decide +kernel, by decide +kernel⟩, by decide⟩, TT_at 802 (by decide +kernel) rfl, by decide +kernel⟩
theorem calX0_takeInOrder : CalV mX0_takeInOrder 0 2 := ⟨⟨TT_at 809 (by decide +kernel) rfl, TT_at 86 (by decide +kernel) rfl, ⟨by decide +kernel, by decide +kernel⟩, by decide⟩, TT_at 807 (by decide +kernel) rfl, TT_at 808 (by decide +kernel) rfl, by decide, by decide +kernel⟩
theorem calX0_changePlaces : CalV mX0_changePlaces 0 2 := ⟨⟨TT_at 891 (by decide +kernel) rfl, TT_at 86 (by decide +kernel) rfl, ⟨by decide +kernel, by decide +kernel⟩, by decide⟩, TT_at 889 (by decide +kernel) rfl, TT_at 890 (by decide +kernel) rfl, by decide, by decide +kernel⟩
theorem calX0_becomeSides : CalV mX0_becomeSides 0 1 := ⟨⟨TT_at 509 (by decide +kernel) rfl, TT_at 86 (by decide +kernel) rfl, ⟨by decide +kernel, by decide +kernel⟩, by decide⟩, TT_at 507 (by decide +kernel) rfl, TT_at 508 (by decide +kernel) rfl, by decide, by decide +kernel⟩
theorem calX0_becomeEmpty : CalV mX0_becomeEmpty 0 0 := ⟨⟨TT_at 908 (by decide +kernel) rfl, TT_at 86 (by decide +kernel) rfl, ⟨by decide +kernel, by decide +kernel⟩, by decide⟩, TT_at 906 (by decide +kernel) rfl, TT_at 907 (by decide +kernel) rfl, by decide, by decide +kernel⟩
theorem calX0_putOnTop : CalV mX0_putOnTop 0 2 := ⟨⟨TT_at 521 (by decide +kernel) rfl, TT_at 86 (by decide +kernel) rfl, ⟨by decide +kernel, by decide +kernel⟩, by decide⟩, TT_at 519 (by decide +kernel) rfl, TT_at 520 (by decide +kernel) rfl, by decide, by decide +kernel⟩
theorem calX0_allPlaces : CalV mX0_allPlaces 0 0 := ⟨⟨TT_at 513 (by decide +kernel) rfl, TT_at 86 (by decide +kernel) rfl, ⟨by decide +kernel, by decide +kernel⟩, by decide⟩, TT_at 511 (by decide +kernel) rfl, TT_at 512 (by decide +kernel) rfl, by decide, by decide +kernel⟩
theorem calX0_wetAt : CalV mX0_wetAt 0 2 := ⟨⟨TT_at 428 (by decide +kernel) rfl, TT_at 86 (by decide +kernel) rfl, ⟨by decide +kernel, by decide +kernel⟩, by decide⟩, TT_at 426 (by decide +kernel) rfl, TT_at 427 (by decide +kernel) rfl, by decide, by decide +kernel⟩
theorem calX0_isSunny : CalV mX0_isSunny 0 1 := ⟨⟨TT_at 493 (by decide +kernel) rfl, TT_at 86 (by decide +kernel) rfl, ⟨by decide +kernel, by decide +kernel⟩, by decide⟩, TT_at 491 (by decide +kernel) rfl, TT_at 492 (by decide +kernel) rfl, by decide, by decide +kernel⟩
theorem calX0_allWetOf : CalV mX0_allWetOf 0 1 := ⟨⟨TT_at 707 (by decide +kernel) rfl, TT_at 86 (by decide +kernel) rfl, ⟨by decide +kernel, by decide +kernel⟩, by decide⟩, TT_at 705 (by decide +kernel) rfl, TT_at 706 (by decide +kernel) rfl, by decide, by decide +kernel⟩
theorem calX0_left : CalV mX0_left 0 0 := ⟨⟨TT_at 754 (by decide +kernel) rfl, TT_at 86 (by decide +kernel) rfl, ⟨by decide +kernel, by decide +kernel⟩, by decide⟩, TT_at 752 (by decide +kernel) rfl, TT_at 753 (by decide +kernel) rfl, by decide, by decide +kernel⟩
theorem calX0_hasMeltedScoop : CalV mX0_hasMeltedScoop 0 0 := ⟨⟨TT_at 836 (by decide +kernel) rfl, TT_at 86 (by decide +kernel) rfl, ⟨by decide +kernel, by decide +kernel⟩, by decide⟩, TT_at 834 (by decide +kernel) rfl, TT_at 835 (by decide +kernel) rfl, by decide, by decide +kernel⟩
theorem calX0_wettestSide : CalV mX0_wettestSide 0 0 := ⟨⟨TT_at 432 (by decide +kernel) rfl, TT_at 86 (by decide +kernel) rfl, ⟨by decide +kernel, by decide +kernel⟩, by decide⟩, TT_at 430 (by decide +kernel) rfl, TT_at 431 (by decide +kernel) rfl, by decide, by decide +kernel⟩
theorem calX0_lowestWetSide : CalV mX0_lowestWetSide 0 0 := ⟨⟨TT_at 443 (by decide +kernel) rfl, TT_at 86 (by decide +kernel) rfl, ⟨by decide +kernel, by decide +kernel⟩, by decide⟩, TT_at 441 (by decide +kernel) rfl, TT_at 442 (by decide +kernel) rfl, by decide, by decide +kernel⟩
theorem calX0_isWetLower : CalV mX0_isWetLower 0 2 := ⟨⟨TT_at 447 (by decide +kernel) rfl, TT_at 86 (by decide +kernel) rfl, ⟨by decide +kernel, by decide +kernel⟩, by decide⟩, TT_at 446 (by decide +kernel) rfl, TT_at 5 (by decide +kernel) rfl, by decide, by decide +kernel⟩
theorem calX0_canDo : CalV mX0_canDo 0 1 := ⟨⟨TT_at 473 (by decide +kernel) rfl, TT_at 86 (by decide +kernel) rfl, ⟨by decide +kernel, by decide +kernel⟩, by decide⟩, TT_at 471 (by decide +kernel) rfl, TT_at 472 (by decide +kernel) rfl, by decide, by decide +kernel⟩
theorem calX0_isIdle : CalV mX0_isIdle 0 1 := ⟨⟨TT_at 469 (by decide +kernel) rfl, TT_at 86 (by decide +kernel) rfl, ⟨by decide +kernel, by decide +kernel⟩, by decide⟩, TT_at 467 (by decide +kernel) rfl, TT_at 468 (by decide +kernel) rfl, by decide, by decide +kernel⟩
theorem calX0_pass : CalV mX0_pass 0 1 := ⟨⟨TT_at 477 (by decide +kernel) rfl, TT_at 86 (by decide +kernel) rfl, ⟨by decide +kernel, by decide +kernel⟩, by decide⟩, TT_at 475 (by decide +kernel) rfl, TT_at 476 (by decide +kernel) rfl, by decide, by decide +kernel⟩
theorem calX0_eat : CalV mX0_eat 0 1 := ⟨⟨TT_at 482 (by decide +kernel) rfl, TT_at 86 (by decide +kernel) rfl, ⟨by decide +kernel, by decide +kernel⟩, by decide⟩, TT_at 481 (by decide +kernel) rfl, TT_at 7 (by decide +kernel) rfl, by decide, by decide +kernel⟩
theorem calX0_melt : CalV mX0_melt 0 0 := ⟨⟨TT_at 489 (by decide +kernel) rfl, TT_at 86 (by decide +kernel) rfl, ⟨by decide +kernel, by decide +kernel⟩, by decide⟩, TT_at 488 (by decide +kernel) rfl, TT_at 8 (by decide +kernel) rfl, by decide, by decide +kernel⟩
theorem calX0_runDown : CalV mX0_runDown 0 0 := ⟨⟨TT_at 497 (by decide +kernel) rfl, TT_at 86 (by decide +kernel) rfl, ⟨by decide +kernel, by decide +kernel⟩, by decide⟩, TT_at 496 (by decide +kernel) rfl, TT_at 9 (by decide +kernel) rfl, by decide, by decide +kernel⟩
theorem calX0_fallOff : CalV mX0_fallOff 0 0 := ⟨⟨TT_at 501 (by decide +kernel) rfl, TT_at 86 (by decide +kernel) rfl, ⟨by decide +kernel, by decide +kernel⟩, by decide⟩, TT_at 500 (by decide +kernel) rfl, TT_at 10 (by decide +kernel) rfl, by decide, by decide +kernel⟩
theorem fl0_9 : Cond.fieldLink RX0 9 (TXG 0 0).1 (TXG 0 0).2.1 (TXG 0 0).2.2.1 ∈ TT ∧ 0 < 7 ∧ 0 < nFG 0 := ⟨TT_at 117 (by decide +kernel) rfl, by decide, by decide⟩
theorem fl0_15 : Cond.fieldLink RX0 15 (TXG 0 1).1 (TXG 0 1).2.1 (TXG 0 1).2.2.1 ∈ TT ∧ 0 < 7 ∧ 1 < nFG 0 := ⟨TT_at 121 (by decide +kernel) rfl, by decide, by decide⟩
theorem fl0_18 : Cond.fieldLink RX0 18 (TXG 0 2).1 (TXG 0 2).2.1 (TXG 0 2).2.2.1 ∈ TT ∧ 0 < 7 ∧ 2 < nFG 0 := ⟨TT_at 124 (by decide +kernel) rfl, by decide, by decide⟩
theorem fl0_21 : Cond.fieldLink RX0 21 (TXG 0 3).1 (TXG 0 3).2.1 (TXG 0 3).2.2.1 ∈ TT ∧ 0 < 7 ∧ 3 < nFG 0 := ⟨TT_at 127 (by decide +kernel) rfl, by decide, by decide⟩
theorem fl0_24 : Cond.fieldLink RX0 24 (TXG 0 4).1 (TXG 0 4).2.1 (TXG 0 4).2.2.1 ∈ TT ∧ 0 < 7 ∧ 4 < nFG 0 := ⟨TT_at 130 (by decide +kernel) rfl, by decide, by decide⟩
theorem fl0_27 : Cond.fieldLink RX0 27 (TXG 0 5).1 (TXG 0 5).2.1 (TXG 0 5).2.2.1 ∈ TT ∧ 0 < 7 ∧ 5 < nFG 0 := ⟨TT_at 133 (by decide +kernel) rfl, by decide, by decide⟩
theorem fl0_30 : Cond.fieldLink RX0 30 (TXG 0 6).1 (TXG 0 6).2.1 (TXG 0 6).2.2.1 ∈ TT ∧ 0 < 7 ∧ 6 < nFG 0 := ⟨TT_at 135 (by decide +kernel) rfl, by decide, by decide⟩
theorem fl0_33 : Cond.fieldLink RX0 33 (TXG 0 7).1 (TXG 0 7).2.1 (TXG 0 7).2.2.1 ∈ TT ∧ 0 < 7 ∧ 7 < nFG 0 := ⟨TT_at 137 (by decide +kernel) rfl, by decide, by decide⟩
theorem fl0_36 : Cond.fieldLink RX0 36 (TXG 0 8).1 (TXG 0 8).2.1 (TXG 0 8).2.2.1 ∈ TT ∧ 0 < 7 ∧ 8 < nFG 0 := ⟨TT_at 141 (by decide +kernel) rfl, by decide, by decide⟩
theorem fl0_39 : Cond.fieldLink RX0 39 (TXG 0 9).1 (TXG 0 9).2.1 (TXG 0 9).2.2.1 ∈ TT ∧ 0 < 7 ∧ 9 < nFG 0 := ⟨TT_at 145 (by decide +kernel) rfl, by decide, by decide⟩
theorem fl0_42 : Cond.fieldLink RX0 42 (TXG 0 10).1 (TXG 0 10).2.1 (TXG 0 10).2.2.1 ∈ TT ∧ 0 < 7 ∧ 10 < nFG 0 := ⟨TT_at 148 (by decide +kernel) rfl, by decide, by decide⟩
theorem fl0_45 : Cond.fieldLink RX0 45 (TXG 0 11).1 (TXG 0 11).2.1 (TXG 0 11).2.2.1 ∈ TT ∧ 0 < 7 ∧ 11 < nFG 0 := ⟨TT_at 150 (by decide +kernel) rfl, by decide, by decide⟩
theorem fl0_48 : Cond.fieldLink RX0 48 (TXG 0 12).1 (TXG 0 12).2.1 (TXG 0 12).2.2.1 ∈ TT ∧ 0 < 7 ∧ 12 < nFG 0 := ⟨TT_at 154 (by decide +kernel) rfl, by decide, by decide⟩
theorem fl0_52 : Cond.fieldLink RX0 52 (TXG 0 13).1 (TXG 0 13).2.1 (TXG 0 13).2.2.1 ∈ TT ∧ 0 < 7 ∧ 13 < nFG 0 := ⟨TT_at 156 (by decide +kernel) rfl, by decide, by decide⟩
theorem fl0_55 : Cond.fieldLink RX0 55 (TXG 0 14).1 (TXG 0 14).2.1 (TXG 0 14).2.2.1 ∈ TT ∧ 0 < 7 ∧ 14 < nFG 0 := ⟨TT_at 158 (by decide +kernel) rfl, by decide, by decide⟩
theorem fl0_58 : Cond.fieldLink RX0 58 (TXG 0 15).1 (TXG 0 15).2.1 (TXG 0 15).2.2.1 ∈ TT ∧ 0 < 7 ∧ 15 < nFG 0 := ⟨TT_at 159 (by decide +kernel) rfl, by decide, by decide⟩
theorem ml0_61 : Cond.methodLink RX0 61 arraycopyName ∈ TT := TT_at 456 (by decide +kernel) rfl
theorem ml0_67 : Cond.methodLink RX0 67 yX0_scoopInOrder ∈ TT := TT_at 801 (by decide +kernel) rfl
theorem ml0_74 : Cond.methodLink RX0 74 yX0_takeFrom ∈ TT := TT_at 810 (by decide +kernel) rfl
theorem ml0_78 : Cond.methodLink RX0 78 yX0_wetAt ∈ TT := TT_at 433 (by decide +kernel) rfl
theorem ml0_81 : Cond.methodLink RX0 81 yX0_allPlaces ∈ TT := TT_at 510 (by decide +kernel) rfl
theorem ml0_85 : Cond.methodLink RX0 85 yX0_allWetOf ∈ TT := TT_at 755 (by decide +kernel) rfl
theorem ml0_89 : Cond.methodLink RX0 89 yX0_isWetLower ∈ TT := TT_at 444 (by decide +kernel) rfl
theorem ml0_93 : Cond.methodLink RX0 93 yX0_canDo ∈ TT := TT_at 470 (by decide +kernel) rfl
theorem ml0_97 : Cond.methodLink RX0 97 yX0_isIdle ∈ TT := TT_at 478 (by decide +kernel) rfl
theorem ml0_100 : Cond.methodLink RX0 100 yX0_eat ∈ TT := TT_at 479 (by decide +kernel) rfl
theorem ml0_104 : Cond.methodLink RX0 104 yX0_melt ∈ TT := TT_at 486 (by decide +kernel) rfl
theorem ml0_107 : Cond.methodLink RX0 107 yX0_runDown ∈ TT := TT_at 494 (by decide +kernel) rfl
theorem ml0_110 : Cond.methodLink RX0 110 yX0_fallOff ∈ TT := TT_at 498 (by decide +kernel) rfl
theorem ml0_113 : Cond.methodLink RX0 113 Lib.Math.min.name ∈ TT := TT_at 483 (by decide +kernel) rfl
theorem ml0_118 : Cond.methodLink RX0 118 yX0_isSunny ∈ TT := TT_at 490 (by decide +kernel) rfl

-- X0_takeFrom
theorem dX0_takeFrom_0 : decode cX0_takeFrom 0 = .ok (.aload_n 0, 1) := by decide +kernel
theorem dX0_takeFrom_1 : decode cX0_takeFrom 1 = .ok (.aload_n 1, 1) := by decide +kernel
theorem dX0_takeFrom_2 : decode cX0_takeFrom 2 = .ok (.getfield 9, 3) := by decide +kernel
theorem dX0_takeFrom_5 : decode cX0_takeFrom 5 = .ok (.putfield 9, 3) := by decide +kernel
theorem dX0_takeFrom_8 : decode cX0_takeFrom 8 = .ok (.aload_n 0, 1) := by decide +kernel
theorem dX0_takeFrom_9 : decode cX0_takeFrom 9 = .ok (.aload_n 1, 1) := by decide +kernel
theorem dX0_takeFrom_10 : decode cX0_takeFrom 10 = .ok (.getfield 15, 3) := by decide +kernel
theorem dX0_takeFrom_13 : decode cX0_takeFrom 13 = .ok (.putfield 15, 3) := by decide +kernel
theorem dX0_takeFrom_16 : decode cX0_takeFrom 16 = .ok (.aload_n 0, 1) := by decide +kernel
theorem dX0_takeFrom_17 : decode cX0_takeFrom 17 = .ok (.aload_n 1, 1) := by decide +kernel
theorem dX0_takeFrom_18 : decode cX0_takeFrom 18 = .ok (.getfield 18, 3) := by decide +kernel
theorem dX0_takeFrom_21 : decode cX0_takeFrom 21 = .ok (.putfield 18, 3) := by decide +kernel
theorem dX0_takeFrom_24 : decode cX0_takeFrom 24 = .ok (.aload_n 0, 1) := by decide +kernel
theorem dX0_takeFrom_25 : decode cX0_takeFrom 25 = .ok (.aload_n 1, 1) := by decide +kernel
theorem dX0_takeFrom_26 : decode cX0_takeFrom 26 = .ok (.getfield 21, 3) := by decide +kernel
theorem dX0_takeFrom_29 : decode cX0_takeFrom 29 = .ok (.putfield 21, 3) := by decide +kernel
theorem dX0_takeFrom_32 : decode cX0_takeFrom 32 = .ok (.aload_n 0, 1) := by decide +kernel
theorem dX0_takeFrom_33 : decode cX0_takeFrom 33 = .ok (.aload_n 1, 1) := by decide +kernel
theorem dX0_takeFrom_34 : decode cX0_takeFrom 34 = .ok (.getfield 24, 3) := by decide +kernel
theorem dX0_takeFrom_37 : decode cX0_takeFrom 37 = .ok (.putfield 24, 3) := by decide +kernel
theorem dX0_takeFrom_40 : decode cX0_takeFrom 40 = .ok (.aload_n 0, 1) := by decide +kernel
theorem dX0_takeFrom_41 : decode cX0_takeFrom 41 = .ok (.aload_n 1, 1) := by decide +kernel
theorem dX0_takeFrom_42 : decode cX0_takeFrom 42 = .ok (.getfield 27, 3) := by decide +kernel
theorem dX0_takeFrom_45 : decode cX0_takeFrom 45 = .ok (.putfield 27, 3) := by decide +kernel
theorem dX0_takeFrom_48 : decode cX0_takeFrom 48 = .ok (.aload_n 0, 1) := by decide +kernel
theorem dX0_takeFrom_49 : decode cX0_takeFrom 49 = .ok (.aload_n 1, 1) := by decide +kernel
theorem dX0_takeFrom_50 : decode cX0_takeFrom 50 = .ok (.getfield 30, 3) := by decide +kernel
theorem dX0_takeFrom_53 : decode cX0_takeFrom 53 = .ok (.putfield 30, 3) := by decide +kernel
theorem dX0_takeFrom_56 : decode cX0_takeFrom 56 = .ok (.aload_n 0, 1) := by decide +kernel
theorem dX0_takeFrom_57 : decode cX0_takeFrom 57 = .ok (.aload_n 1, 1) := by decide +kernel
theorem dX0_takeFrom_58 : decode cX0_takeFrom 58 = .ok (.getfield 33, 3) := by decide +kernel
theorem dX0_takeFrom_61 : decode cX0_takeFrom 61 = .ok (.putfield 33, 3) := by decide +kernel
theorem dX0_takeFrom_64 : decode cX0_takeFrom 64 = .ok (.aload_n 0, 1) := by decide +kernel
theorem dX0_takeFrom_65 : decode cX0_takeFrom 65 = .ok (.aload_n 1, 1) := by decide +kernel
theorem dX0_takeFrom_66 : decode cX0_takeFrom 66 = .ok (.getfield 36, 3) := by decide +kernel
theorem dX0_takeFrom_69 : decode cX0_takeFrom 69 = .ok (.putfield 36, 3) := by decide +kernel
theorem dX0_takeFrom_72 : decode cX0_takeFrom 72 = .ok (.aload_n 0, 1) := by decide +kernel
theorem dX0_takeFrom_73 : decode cX0_takeFrom 73 = .ok (.aload_n 1, 1) := by decide +kernel
theorem dX0_takeFrom_74 : decode cX0_takeFrom 74 = .ok (.getfield 39, 3) := by decide +kernel
theorem dX0_takeFrom_77 : decode cX0_takeFrom 77 = .ok (.putfield 39, 3) := by decide +kernel
theorem dX0_takeFrom_80 : decode cX0_takeFrom 80 = .ok (.aload_n 0, 1) := by decide +kernel
theorem dX0_takeFrom_81 : decode cX0_takeFrom 81 = .ok (.aload_n 1, 1) := by decide +kernel
theorem dX0_takeFrom_82 : decode cX0_takeFrom 82 = .ok (.getfield 42, 3) := by decide +kernel
theorem dX0_takeFrom_85 : decode cX0_takeFrom 85 = .ok (.putfield 42, 3) := by decide +kernel
theorem dX0_takeFrom_88 : decode cX0_takeFrom 88 = .ok (.aload_n 0, 1) := by decide +kernel
theorem dX0_takeFrom_89 : decode cX0_takeFrom 89 = .ok (.aload_n 1, 1) := by decide +kernel
theorem dX0_takeFrom_90 : decode cX0_takeFrom 90 = .ok (.getfield 45, 3) := by decide +kernel
theorem dX0_takeFrom_93 : decode cX0_takeFrom 93 = .ok (.putfield 45, 3) := by decide +kernel
theorem dX0_takeFrom_96 : decode cX0_takeFrom 96 = .ok (.aload_n 1, 1) := by decide +kernel
theorem dX0_takeFrom_97 : decode cX0_takeFrom 97 = .ok (.getfield 48, 3) := by decide +kernel
theorem dX0_takeFrom_100 : decode cX0_takeFrom 100 = .ok (.iconst 0, 1) := by decide +kernel
theorem dX0_takeFrom_101 : decode cX0_takeFrom 101 = .ok (.aload_n 0, 1) := by decide +kernel
theorem dX0_takeFrom_102 : decode cX0_takeFrom 102 = .ok (.getfield 48, 3) := by decide +kernel
theorem dX0_takeFrom_105 : decode cX0_takeFrom 105 = .ok (.iconst 0, 1) := by decide +kernel
theorem dX0_takeFrom_106 : decode cX0_takeFrom 106 = .ok (.iconst 3, 1) := by decide +kernel
theorem dX0_takeFrom_107 : decode cX0_takeFrom 107 = .ok (.invokestatic 61, 3) := by decide +kernel
theorem dX0_takeFrom_110 : decode cX0_takeFrom 110 = .ok (.aload_n 1, 1) := by decide +kernel
theorem dX0_takeFrom_111 : decode cX0_takeFrom 111 = .ok (.getfield 52, 3) := by decide +kernel
theorem dX0_takeFrom_114 : decode cX0_takeFrom 114 = .ok (.iconst 0, 1) := by decide +kernel
theorem dX0_takeFrom_115 : decode cX0_takeFrom 115 = .ok (.aload_n 0, 1) := by decide +kernel
theorem dX0_takeFrom_116 : decode cX0_takeFrom 116 = .ok (.getfield 52, 3) := by decide +kernel
theorem dX0_takeFrom_119 : decode cX0_takeFrom 119 = .ok (.iconst 0, 1) := by decide +kernel
theorem dX0_takeFrom_120 : decode cX0_takeFrom 120 = .ok (.iconst 3, 1) := by decide +kernel
theorem dX0_takeFrom_121 : decode cX0_takeFrom 121 = .ok (.invokestatic 61, 3) := by decide +kernel
theorem dX0_takeFrom_124 : decode cX0_takeFrom 124 = .ok (.aload_n 1, 1) := by decide +kernel
theorem dX0_takeFrom_125 : decode cX0_takeFrom 125 = .ok (.getfield 55, 3) := by decide +kernel
theorem dX0_takeFrom_128 : decode cX0_takeFrom 128 = .ok (.iconst 0, 1) := by decide +kernel
theorem dX0_takeFrom_129 : decode cX0_takeFrom 129 = .ok (.aload_n 0, 1) := by decide +kernel
theorem dX0_takeFrom_130 : decode cX0_takeFrom 130 = .ok (.getfield 55, 3) := by decide +kernel
theorem dX0_takeFrom_133 : decode cX0_takeFrom 133 = .ok (.iconst 0, 1) := by decide +kernel
theorem dX0_takeFrom_134 : decode cX0_takeFrom 134 = .ok (.bipush 24, 2) := by decide +kernel
theorem dX0_takeFrom_136 : decode cX0_takeFrom 136 = .ok (.invokestatic 61, 3) := by decide +kernel
theorem dX0_takeFrom_139 : decode cX0_takeFrom 139 = .ok (.aload_n 1, 1) := by decide +kernel
theorem dX0_takeFrom_140 : decode cX0_takeFrom 140 = .ok (.getfield 58, 3) := by decide +kernel
theorem dX0_takeFrom_143 : decode cX0_takeFrom 143 = .ok (.iconst 0, 1) := by decide +kernel
theorem dX0_takeFrom_144 : decode cX0_takeFrom 144 = .ok (.aload_n 0, 1) := by decide +kernel
theorem dX0_takeFrom_145 : decode cX0_takeFrom 145 = .ok (.getfield 58, 3) := by decide +kernel
theorem dX0_takeFrom_148 : decode cX0_takeFrom 148 = .ok (.iconst 0, 1) := by decide +kernel
theorem dX0_takeFrom_149 : decode cX0_takeFrom 149 = .ok (.bipush 8, 2) := by decide +kernel
theorem dX0_takeFrom_151 : decode cX0_takeFrom 151 = .ok (.invokestatic 61, 3) := by decide +kernel
theorem dX0_takeFrom_154 : decode cX0_takeFrom 154 = .ok (.return_, 1) := by decide +kernel
def fX0_takeFrom_0 (s : SS) : Option (Unit × SS) := if acOK (0 : Int32) (0 : Int32) (3 : Int32) 3 3 then (if acOK (0 : Int32) (0 : Int32) (3 : Int32) 3 3 then (if acOK (0 : Int32) (0 : Int32) (24 : Int32) 24 24 then (if acOK (0 : Int32) (0 : Int32) (8 : Int32) 8 8 then (some ((), wrA (wrA (wrA (wrA (wrI (wrI (wrI (wrI (wrI (wrI (wrI (wrI (wrI (wrI (wrI (wrI s 0 0 (s.1 5 0)) 0 1 (s.1 5 1)) 0 2 (s.1 5 2)) 0 3 (s.1 5 3)) 0 4 (s.1 5 4)) 0 5 (s.1 5 5)) 0 6 (s.1 5 6)) 0 7 (s.1 5 7)) 0 8 (s.1 5 8)) 0 9 (s.1 5 9)) 0 10 (s.1 5 10)) 0 11 (s.1 5 11)) 1  (va_cpy (s.1 6 ()) (s.1 1 ()) (0 : Int32).toNatClampNeg (0 : Int32).toNatClampNeg (3 : Int32).toNatClampNeg)) 2  (va_cpy (s.1 7 ()) (s.1 2 ()) (0 : Int32).toNatClampNeg (0 : Int32).toNatClampNeg (3 : Int32).toNatClampNeg)) 3  (va_cpy (s.1 8 ()) (s.1 3 ()) (0 : Int32).toNatClampNeg (0 : Int32).toNatClampNeg (24 : Int32).toNatClampNeg)) 4  (va_cpy (s.1 9 ()) (s.1 4 ()) (0 : Int32).toNatClampNeg (0 : Int32).toNatClampNeg (8 : Int32).toNatClampNeg))) else none) else none) else none) else none
def fX0_takeFrom (s : SS) : Option (Unit × SS) := fX0_takeFrom_0 s
set_option maxRecDepth 100000 in
set_option maxHeartbeats 4000000 in
theorem okX0_takeFrom_0 {G : GG} {pl : Nat → Nat} {h0 : PH} (s : SS) : EvF G 1 mX0_takeFrom lyCC pl h0 rvU (fX0_takeFrom_0 s) 0 [(0, .ref (pl 0)), (1, .ref (pl 5))] [] s := by
  unfold fX0_takeFrom_0
  refine ef_aload_n (q := 1) 0 dX0_takeFrom_0 rfl rfl rfl ?_
  refine ef_aload_n (q := 2) 1 dX0_takeFrom_1 rfl rfl rfl ?_
  refine ef_getI (x := s.1 5 0) (q := 5) rfl fl0_9 rfl rfl dX0_takeFrom_2 rfl ?_
  refine ef_putI (q := 8) rfl fl0_9 rfl rfl dX0_takeFrom_5 rfl ?_
  refine ef_aload_n (q := 9) 0 dX0_takeFrom_8 rfl rfl rfl ?_
  refine ef_aload_n (q := 10) 1 dX0_takeFrom_9 rfl rfl rfl ?_
  refine ef_getI (x := s.1 5 1) (q := 13) rfl fl0_15 rfl rfl dX0_takeFrom_10 rfl ?_
  refine ef_putI (q := 16) rfl fl0_15 rfl rfl dX0_takeFrom_13 rfl ?_
  refine ef_aload_n (q := 17) 0 dX0_takeFrom_16 rfl rfl rfl ?_
  refine ef_aload_n (q := 18) 1 dX0_takeFrom_17 rfl rfl rfl ?_
  refine ef_getI (x := s.1 5 2) (q := 21) rfl fl0_18 rfl rfl dX0_takeFrom_18 rfl ?_
  refine ef_putI (q := 24) rfl fl0_18 rfl rfl dX0_takeFrom_21 rfl ?_
  refine ef_aload_n (q := 25) 0 dX0_takeFrom_24 rfl rfl rfl ?_
  refine ef_aload_n (q := 26) 1 dX0_takeFrom_25 rfl rfl rfl ?_
  refine ef_getI (x := s.1 5 3) (q := 29) rfl fl0_21 rfl rfl dX0_takeFrom_26 rfl ?_
  refine ef_putI (q := 32) rfl fl0_21 rfl rfl dX0_takeFrom_29 rfl ?_
  refine ef_aload_n (q := 33) 0 dX0_takeFrom_32 rfl rfl rfl ?_
  refine ef_aload_n (q := 34) 1 dX0_takeFrom_33 rfl rfl rfl ?_
  refine ef_getI (x := s.1 5 4) (q := 37) rfl fl0_24 rfl rfl dX0_takeFrom_34 rfl ?_
  refine ef_putI (q := 40) rfl fl0_24 rfl rfl dX0_takeFrom_37 rfl ?_
  refine ef_aload_n (q := 41) 0 dX0_takeFrom_40 rfl rfl rfl ?_
  refine ef_aload_n (q := 42) 1 dX0_takeFrom_41 rfl rfl rfl ?_
  refine ef_getI (x := s.1 5 5) (q := 45) rfl fl0_27 rfl rfl dX0_takeFrom_42 rfl ?_
  refine ef_putI (q := 48) rfl fl0_27 rfl rfl dX0_takeFrom_45 rfl ?_
  refine ef_aload_n (q := 49) 0 dX0_takeFrom_48 rfl rfl rfl ?_
  refine ef_aload_n (q := 50) 1 dX0_takeFrom_49 rfl rfl rfl ?_
  refine ef_getI (x := s.1 5 6) (q := 53) rfl fl0_30 rfl rfl dX0_takeFrom_50 rfl ?_
  refine ef_putI (q := 56) rfl fl0_30 rfl rfl dX0_takeFrom_53 rfl ?_
  refine ef_aload_n (q := 57) 0 dX0_takeFrom_56 rfl rfl rfl ?_
  refine ef_aload_n (q := 58) 1 dX0_takeFrom_57 rfl rfl rfl ?_
  refine ef_getI (x := s.1 5 7) (q := 61) rfl fl0_33 rfl rfl dX0_takeFrom_58 rfl ?_
  refine ef_putI (q := 64) rfl fl0_33 rfl rfl dX0_takeFrom_61 rfl ?_
  refine ef_aload_n (q := 65) 0 dX0_takeFrom_64 rfl rfl rfl ?_
  refine ef_aload_n (q := 66) 1 dX0_takeFrom_65 rfl rfl rfl ?_
  refine ef_getI (x := s.1 5 8) (q := 69) rfl fl0_36 rfl rfl dX0_takeFrom_66 rfl ?_
  refine ef_putI (q := 72) rfl fl0_36 rfl rfl dX0_takeFrom_69 rfl ?_
  refine ef_aload_n (q := 73) 0 dX0_takeFrom_72 rfl rfl rfl ?_
  refine ef_aload_n (q := 74) 1 dX0_takeFrom_73 rfl rfl rfl ?_
  refine ef_getI (x := s.1 5 9) (q := 77) rfl fl0_39 rfl rfl dX0_takeFrom_74 rfl ?_
  refine ef_putI (q := 80) rfl fl0_39 rfl rfl dX0_takeFrom_77 rfl ?_
  refine ef_aload_n (q := 81) 0 dX0_takeFrom_80 rfl rfl rfl ?_
  refine ef_aload_n (q := 82) 1 dX0_takeFrom_81 rfl rfl rfl ?_
  refine ef_getI (x := s.1 5 10) (q := 85) rfl fl0_42 rfl rfl dX0_takeFrom_82 rfl ?_
  refine ef_putI (q := 88) rfl fl0_42 rfl rfl dX0_takeFrom_85 rfl ?_
  refine ef_aload_n (q := 89) 0 dX0_takeFrom_88 rfl rfl rfl ?_
  refine ef_aload_n (q := 90) 1 dX0_takeFrom_89 rfl rfl rfl ?_
  refine ef_getI (x := s.1 5 11) (q := 93) rfl fl0_45 rfl rfl dX0_takeFrom_90 rfl ?_
  refine ef_putI (q := 96) rfl fl0_45 rfl rfl dX0_takeFrom_93 rfl ?_
  refine ef_aload_n (q := 97) 1 dX0_takeFrom_96 rfl rfl rfl ?_
  refine ef_getR (t := 6) (q := 100) rfl fl0_48 rfl rfl dX0_takeFrom_97 rfl ?_
  refine ef_iconst (v := (0 : Int32)) (q := 101) dX0_takeFrom_100 (by decide) rfl ?_
  refine ef_aload_n (q := 102) 0 dX0_takeFrom_101 rfl rfl rfl ?_
  refine ef_getR (t := 1) (q := 105) rfl fl0_48 rfl rfl dX0_takeFrom_102 rfl ?_
  refine ef_iconst (v := (0 : Int32)) (q := 106) dX0_takeFrom_105 (by decide) rfl ?_
  refine ef_iconst (v := (3 : Int32)) (q := 107) dX0_takeFrom_106 (by decide) rfl ?_
  refine ef_guard (fun g1 => ?_)
  refine ef_acopyI (k0 := 6) (k1 := 1) (q := 110) rfl rfl ml0_61 g1 (by decide) (Nat.le_of_ble_eq_true rfl) dX0_takeFrom_107 rfl rfl ?_
  refine ef_aload_n (q := 111) 1 dX0_takeFrom_110 rfl rfl rfl ?_
  refine ef_getR (t := 7) (q := 114) rfl fl0_52 rfl rfl dX0_takeFrom_111 rfl ?_
  refine ef_iconst (v := (0 : Int32)) (q := 115) dX0_takeFrom_114 (by decide) rfl ?_
  refine ef_aload_n (q := 116) 0 dX0_takeFrom_115 rfl rfl rfl ?_
  refine ef_getR (t := 2) (q := 119) rfl fl0_52 rfl rfl dX0_takeFrom_116 rfl ?_
  refine ef_iconst (v := (0 : Int32)) (q := 120) dX0_takeFrom_119 (by decide) rfl ?_
  refine ef_iconst (v := (3 : Int32)) (q := 121) dX0_takeFrom_120 (by decide) rfl ?_
  refine ef_guard (fun g2 => ?_)
  refine ef_acopyI (k0 := 7) (k1 := 2) (q := 124) rfl rfl ml0_61 g2 (by decide) (Nat.le_of_ble_eq_true rfl) dX0_takeFrom_121 rfl rfl ?_
  refine ef_aload_n (q := 125) 1 dX0_takeFrom_124 rfl rfl rfl ?_
  refine ef_getR (t := 8) (q := 128) rfl fl0_55 rfl rfl dX0_takeFrom_125 rfl ?_
  refine ef_iconst (v := (0 : Int32)) (q := 129) dX0_takeFrom_128 (by decide) rfl ?_
  refine ef_aload_n (q := 130) 0 dX0_takeFrom_129 rfl rfl rfl ?_
  refine ef_getR (t := 3) (q := 133) rfl fl0_55 rfl rfl dX0_takeFrom_130 rfl ?_
  refine ef_iconst (v := (0 : Int32)) (q := 134) dX0_takeFrom_133 (by decide) rfl ?_
  refine ef_bipush (v := (24 : Int32)) (q := 136) dX0_takeFrom_134 (by decide) rfl ?_
  refine ef_guard (fun g3 => ?_)
  refine ef_acopyI (k0 := 8) (k1 := 3) (q := 139) rfl rfl ml0_61 g3 (by decide) (Nat.le_of_ble_eq_true rfl) dX0_takeFrom_136 rfl rfl ?_
  refine ef_aload_n (q := 140) 1 dX0_takeFrom_139 rfl rfl rfl ?_
  refine ef_getR (t := 9) (q := 143) rfl fl0_58 rfl rfl dX0_takeFrom_140 rfl ?_
  refine ef_iconst (v := (0 : Int32)) (q := 144) dX0_takeFrom_143 (by decide) rfl ?_
  refine ef_aload_n (q := 145) 0 dX0_takeFrom_144 rfl rfl rfl ?_
  refine ef_getR (t := 4) (q := 148) rfl fl0_58 rfl rfl dX0_takeFrom_145 rfl ?_
  refine ef_iconst (v := (0 : Int32)) (q := 149) dX0_takeFrom_148 (by decide) rfl ?_
  refine ef_bipush (v := (8 : Int32)) (q := 151) dX0_takeFrom_149 (by decide) rfl ?_
  refine ef_guard (fun g4 => ?_)
  refine ef_acopyI (k0 := 9) (k1 := 4) (q := 154) rfl rfl ml0_61 g4 (by decide) (Nat.le_of_ble_eq_true rfl) dX0_takeFrom_151 rfl rfl ?_
  exact ef_vret rfl dX0_takeFrom_154
theorem okX0_takeFrom : MtF 1 mX0_takeFrom lyCC rvU (fun _ pl => [.ref (pl 0), .ref (pl 5)]) (fX0_takeFrom) := by
  refine MtF.of (by decide +kernel) rfl (fun _ pl => Nat.le_of_ble_eq_true rfl) (fun G pl h0 s => ?_)
  refine ef_sub (lv := [(0, .ref (pl 0)), (1, .ref (pl 5))]) (lv' := [(0, .ref (pl 0)), (1, .ref (pl 5))]) [0, 1] rfl ?_
  exact okX0_takeFrom_0  s
-- X0_scoopInOrder
theorem dX0_scoopInOrder_0 : decode cX0_scoopInOrder 0 = .ok (.iload_n 0, 1) := by decide +kernel
theorem dX0_scoopInOrder_1 : decode cX0_scoopInOrder 1 = .ok (.iconst 3, 1) := by decide +kernel
theorem dX0_scoopInOrder_2 : decode cX0_scoopInOrder 2 = .ok (.imul, 1) := by decide +kernel
theorem dX0_scoopInOrder_3 : decode cX0_scoopInOrder 3 = .ok (.iload_n 1, 1) := by decide +kernel
theorem dX0_scoopInOrder_4 : decode cX0_scoopInOrder 4 = .ok (.iadd, 1) := by decide +kernel
theorem dX0_scoopInOrder_5 : decode cX0_scoopInOrder 5 = .ok (.istore_n 2, 1) := by decide +kernel
theorem dX0_scoopInOrder_6 : decode cX0_scoopInOrder 6 = .ok (.iload_n 2, 1) := by decide +kernel
theorem dX0_scoopInOrder_7 : decode cX0_scoopInOrder 7 = .ok (.ifCond .lt 19, 3) := by decide +kernel
theorem dX0_scoopInOrder_10 : decode cX0_scoopInOrder 10 = .ok (.iload_n 2, 1) := by decide +kernel
theorem dX0_scoopInOrder_11 : decode cX0_scoopInOrder 11 = .ok (.getstatic 71, 3) := by decide +kernel
theorem dX0_scoopInOrder_14 : decode cX0_scoopInOrder 14 = .ok (.arraylength, 1) := by decide +kernel
theorem dX0_scoopInOrder_15 : decode cX0_scoopInOrder 15 = .ok (.if_icmp .ge 11, 3) := by decide +kernel
theorem dX0_scoopInOrder_18 : decode cX0_scoopInOrder 18 = .ok (.getstatic 71, 3) := by decide +kernel
theorem dX0_scoopInOrder_21 : decode cX0_scoopInOrder 21 = .ok (.iload_n 2, 1) := by decide +kernel
theorem dX0_scoopInOrder_22 : decode cX0_scoopInOrder 22 = .ok (.iaload, 1) := by decide +kernel
theorem dX0_scoopInOrder_23 : decode cX0_scoopInOrder 23 = .ok (.goto 4, 3) := by decide +kernel
theorem dX0_scoopInOrder_26 : decode cX0_scoopInOrder 26 = .ok (.iconst 0, 1) := by decide +kernel
theorem dX0_scoopInOrder_27 : decode cX0_scoopInOrder 27 = .ok (.ireturn, 1) := by decide +kernel
def fX0_scoopInOrder_0 (x0 : Int32) (x1 : Int32) (s : SS) : Option (Int32 × SS) := if ((x0 * (3 : Int32)) + x1) < 0 then (some ((0 : Int32), s)) else (if (18 : Int32) ≤ ((x0 * (3 : Int32)) + x1) then (some ((0 : Int32), s)) else (if ixB ((x0 * (3 : Int32)) + x1) 18 then (some (orderRows.getD ((x0 * (3 : Int32)) + x1).toNatClampNeg 0, s)) else none))
def fX0_scoopInOrder (x0 : Int32) (x1 : Int32) (s : SS) : Option (Int32 × SS) := fX0_scoopInOrder_0 x0 x1 s
set_option maxRecDepth 100000 in
set_option maxHeartbeats 4000000 in
theorem okX0_scoopInOrder_0 {G : GG} {pl : Nat → Nat} {h0 : PH} (x0 : Int32) (x1 : Int32) (s : SS) : EvF G 0 mX0_scoopInOrder ly pl h0 rvI (fX0_scoopInOrder_0 x0 x1 s) 0 [(0, .int x0), (1, .int x1)] [] s := by
  unfold fX0_scoopInOrder_0
  refine ef_iload_n (q := 1) 0 dX0_scoopInOrder_0 rfl rfl rfl ?_
  refine ef_iconst (v := (3 : Int32)) (q := 2) dX0_scoopInOrder_1 (by decide) rfl ?_
  refine ef_imul (q := 3) dX0_scoopInOrder_2 rfl ?_
  refine ef_iload_n (q := 4) 1 dX0_scoopInOrder_3 rfl rfl rfl ?_
  refine ef_iadd (q := 5) dX0_scoopInOrder_4 rfl ?_
  refine ef_istore_n (lv' := [(2, .int ((x0 * (3 : Int32)) + x1)), (0, .int x0), (1, .int x1)]) (q := 6) dX0_scoopInOrder_5 rfl (by decide) rfl rfl ?_
  refine ef_iload_n (q := 7) 0 dX0_scoopInOrder_6 rfl rfl rfl ?_
  refine ef_if (pt := 26) (pf := 10) (fun _ _ => ev_if_lt (tgt := 26) dX0_scoopInOrder_7 (by decide)) (fun h1 => ?_) (fun h1 => ?_)
  · refine ef_iconst (v := (0 : Int32)) (q := 27) dX0_scoopInOrder_26 (by decide) rfl ?_
    exact ef_iret rfl dX0_scoopInOrder_27
  · refine ef_iload_n (q := 11) 0 dX0_scoopInOrder_10 rfl rfl rfl ?_
    refine ef_getsO (q := 14) fo0_71 dX0_scoopInOrder_11 rfl ?_
    refine ef_oalen (v := (18 : Int32)) (q := 15) (by decide) dX0_scoopInOrder_14 rfl ?_
    refine ef_if (pt := 26) (pf := 18) (fun _ _ => ev_icmp_ge (tgt := 26) dX0_scoopInOrder_15 (by decide)) (fun h2 => ?_) (fun h2 => ?_)
    · refine ef_iconst (v := (0 : Int32)) (q := 27) dX0_scoopInOrder_26 (by decide) rfl ?_
      exact ef_iret rfl dX0_scoopInOrder_27
    · refine ef_getsO (q := 21) fo0_71 dX0_scoopInOrder_18 rfl ?_
      refine ef_iload_n (q := 22) 0 dX0_scoopInOrder_21 rfl rfl rfl ?_
      refine ef_guard (fun g3 => ?_)
      refine ef_oaload (x := orderRows.getD ((x0 * (3 : Int32)) + x1).toNatClampNeg 0) (q := 23) g3 dX0_scoopInOrder_22 rfl rfl ?_
      refine ef_goto (tgt := 27) dX0_scoopInOrder_23 (by decide) ?_
      exact ef_iret rfl dX0_scoopInOrder_27
theorem okX0_scoopInOrder (x0 : Int32) (x1 : Int32) : MtF 0 mX0_scoopInOrder ly rvI (fun _ pl => [.int x0, .int x1]) (fX0_scoopInOrder x0 x1) := by
  refine MtF.of (by decide +kernel) rfl (fun _ pl => Nat.le_of_ble_eq_true rfl) (fun G pl h0 s => ?_)
  refine ef_sub (lv := [(0, .int x0), (1, .int x1)]) (lv' := [(0, .int x0), (1, .int x1)]) [0, 1] rfl ?_
  exact okX0_scoopInOrder_0  x0 x1 s
-- X0_hasOrder
theorem dX0_hasOrder_0 : decode cX0_hasOrder 0 = .ok (.aload_n 0, 1) := by decide +kernel
theorem dX0_hasOrder_1 : decode cX0_hasOrder 1 = .ok (.getfield 45, 3) := by decide +kernel
theorem dX0_hasOrder_4 : decode cX0_hasOrder 4 = .ok (.istore_n 2, 1) := by decide +kernel
theorem dX0_hasOrder_5 : decode cX0_hasOrder 5 = .ok (.iload_n 2, 1) := by decide +kernel
theorem dX0_hasOrder_6 : decode cX0_hasOrder 6 = .ok (.iconst 3, 1) := by decide +kernel
theorem dX0_hasOrder_7 : decode cX0_hasOrder 7 = .ok (.if_icmp .ge 20, 3) := by decide +kernel
theorem dX0_hasOrder_10 : decode cX0_hasOrder 10 = .ok (.iload_n 1, 1) := by decide +kernel
theorem dX0_hasOrder_11 : decode cX0_hasOrder 11 = .ok (.iload_n 2, 1) := by decide +kernel
theorem dX0_hasOrder_12 : decode cX0_hasOrder 12 = .ok (.invokestatic 67, 3) := by decide +kernel
theorem dX0_hasOrder_15 : decode cX0_hasOrder 15 = .ok (.iload_n 2, 1) := by decide +kernel
theorem dX0_hasOrder_16 : decode cX0_hasOrder 16 = .ok (.if_icmp .eq 5, 3) := by decide +kernel
theorem dX0_hasOrder_19 : decode cX0_hasOrder 19 = .ok (.iconst 0, 1) := by decide +kernel
theorem dX0_hasOrder_20 : decode cX0_hasOrder 20 = .ok (.ireturn, 1) := by decide +kernel
theorem dX0_hasOrder_21 : decode cX0_hasOrder 21 = .ok (.iinc 2 1, 3) := by decide +kernel
theorem dX0_hasOrder_24 : decode cX0_hasOrder 24 = .ok (.goto (-19), 3) := by decide +kernel
theorem dX0_hasOrder_27 : decode cX0_hasOrder 27 = .ok (.iconst 1, 1) := by decide +kernel
theorem dX0_hasOrder_28 : decode cX0_hasOrder 28 = .ok (.ireturn, 1) := by decide +kernel
def fX0_hasOrder_5 : Nat → Int32 → Int32 → SS → Option (Int32 × SS)
  | 0, _, _, _ => none
  | n + 1, x1, x2, s => if (3 : Int32) ≤ x2 then (some ((1 : Int32), s)) else (((fX0_scoopInOrder x1 x2 s).bind fun x2 => if x2.1 = x2 then (fX0_hasOrder_5 n x1 (x2 + (1 : Int32)) s) else (some ((0 : Int32), s))))
def fX0_hasOrder_0 (x1 : Int32) (s : SS) : Option (Int32 × SS) := fX0_hasOrder_5 FU x1 (s.1 0 11) s
def fX0_hasOrder (x1 : Int32) (s : SS) : Option (Int32 × SS) := fX0_hasOrder_0 x1 s
set_option maxRecDepth 100000 in
set_option maxHeartbeats 4000000 in
theorem okX0_hasOrder_5 {G : GG} {pl : Nat → Nat} {h0 : PH} : ∀ (n : Nat) (x1 : Int32) (x2 : Int32) (s : SS), EvF G 1 mX0_hasOrder lyC pl h0 rvZ (fX0_hasOrder_5 n x1 x2 s) 5 [(1, .int x1), (2, .int x2)] [] s := by
  intro n
  induction n with
  | zero => intro x1 x2 s; rw [fX0_hasOrder_5]; exact ef_none
  | succ n ih =>
    intro x1 x2 s
    rw [fX0_hasOrder_5]
    refine ef_iload_n (q := 6) 1 dX0_hasOrder_5 rfl rfl rfl ?_
    refine ef_iconst (v := (3 : Int32)) (q := 7) dX0_hasOrder_6 (by decide) rfl ?_
    refine ef_if (pt := 27) (pf := 10) (fun _ _ => ev_icmp_ge (tgt := 27) dX0_hasOrder_7 (by decide)) (fun h1 => ?_) (fun h1 => ?_)
    · refine ef_iconst (v := (1 : Int32)) (q := 28) dX0_hasOrder_27 (by decide) rfl ?_
      exact ef_zretc (x := (1 : Int32)) (by decide) rfl dX0_hasOrder_28
    · refine ef_iload_n (q := 11) 0 dX0_hasOrder_10 rfl rfl rfl ?_
      refine ef_iload_n (q := 12) 1 dX0_hasOrder_11 rfl rfl rfl ?_
      refine ef_invPI (As := [.int x1, .int x2]) (rest := []) (q := 15) (okX0_scoopInOrder x1 x2) calX0_scoopInOrder ml0_67 (by decide) rfl rfl (Nat.le_of_ble_eq_true rfl) dX0_hasOrder_12 rfl (fun x2 => ?_)
      refine ef_iload_n (q := 16) 1 dX0_hasOrder_15 rfl rfl rfl ?_
      refine ef_if (pt := 21) (pf := 19) (fun _ _ => ev_icmp_eq (tgt := 21) dX0_hasOrder_16 (by decide)) (fun h3 => ?_) (fun h3 => ?_)
      · refine ef_iinc (v := x2 + (1 : Int32)) (lv' := [(2, .int (x2 + (1 : Int32))), (1, .int x1)]) (q := 24) 1 dX0_hasOrder_21 rfl rfl (by decide) rfl rfl ?_
        refine ef_goto (tgt := 5) dX0_hasOrder_24 (by decide) ?_
        refine ef_sub (lv' := [(1, .int x1), (2, .int (x2 + (1 : Int32)))]) [1, 0] rfl ?_
        exact ih x1 (x2 + (1 : Int32)) s
      · refine ef_iconst (v := (0 : Int32)) (q := 20) dX0_hasOrder_19 (by decide) rfl ?_
        exact ef_zretc (x := (0 : Int32)) (by decide) rfl dX0_hasOrder_20
set_option maxRecDepth 100000 in
set_option maxHeartbeats 4000000 in
theorem okX0_hasOrder_0 {G : GG} {pl : Nat → Nat} {h0 : PH} (x1 : Int32) (s : SS) : EvF G 1 mX0_hasOrder lyC pl h0 rvZ (fX0_hasOrder_0 x1 s) 0 [(0, .ref (pl 0)), (1, .int x1)] [] s := by
  unfold fX0_hasOrder_0
  refine ef_aload_n (q := 1) 0 dX0_hasOrder_0 rfl rfl rfl ?_
  refine ef_getI (x := s.1 0 11) (q := 4) rfl fl0_45 rfl rfl dX0_hasOrder_1 rfl ?_
  refine ef_istore_n (lv' := [(2, .int (s.1 0 11)), (0, .ref (pl 0)), (1, .int x1)]) (q := 5) dX0_hasOrder_4 rfl (by decide) rfl rfl ?_
  refine ef_sub (lv' := [(1, .int x1), (2, .int (s.1 0 11))]) [2, 0] rfl ?_
  exact okX0_hasOrder_5 FU x1 (s.1 0 11) s
theorem okX0_hasOrder (x1 : Int32) : MtF 1 mX0_hasOrder lyC rvZ (fun _ pl => [.ref (pl 0), .int x1]) (fX0_hasOrder x1) := by
  refine MtF.of (by decide +kernel) rfl (fun _ pl => Nat.le_of_ble_eq_true rfl) (fun G pl h0 s => ?_)
  refine ef_sub (lv := [(0, .ref (pl 0)), (1, .int x1)]) (lv' := [(0, .ref (pl 0)), (1, .int x1)]) [0, 1] rfl ?_
  exact okX0_hasOrder_0  x1 s
-- X0_takeInOrder
theorem dX0_takeInOrder_0 : decode cX0_takeInOrder 0 = .ok (.aload_n 0, 1) := by decide +kernel
theorem dX0_takeInOrder_1 : decode cX0_takeInOrder 1 = .ok (.aload_n 1, 1) := by decide +kernel
theorem dX0_takeInOrder_2 : decode cX0_takeInOrder 2 = .ok (.invokevirtual 74, 3) := by decide +kernel
theorem dX0_takeInOrder_5 : decode cX0_takeInOrder 5 = .ok (.iconst 0, 1) := by decide +kernel
theorem dX0_takeInOrder_6 : decode cX0_takeInOrder 6 = .ok (.istore_n 3, 1) := by decide +kernel
theorem dX0_takeInOrder_7 : decode cX0_takeInOrder 7 = .ok (.iload_n 3, 1) := by decide +kernel
theorem dX0_takeInOrder_8 : decode cX0_takeInOrder 8 = .ok (.aload_n 0, 1) := by decide +kernel
theorem dX0_takeInOrder_9 : decode cX0_takeInOrder 9 = .ok (.getfield 45, 3) := by decide +kernel
theorem dX0_takeInOrder_12 : decode cX0_takeInOrder 12 = .ok (.if_icmp .ge 64, 3) := by decide +kernel
theorem dX0_takeInOrder_15 : decode cX0_takeInOrder 15 = .ok (.iload_n 2, 1) := by decide +kernel
theorem dX0_takeInOrder_16 : decode cX0_takeInOrder 16 = .ok (.iload_n 3, 1) := by decide +kernel
theorem dX0_takeInOrder_17 : decode cX0_takeInOrder 17 = .ok (.invokestatic 67, 3) := by decide +kernel
theorem dX0_takeInOrder_20 : decode cX0_takeInOrder 20 = .ok (.istore 4, 2) := by decide +kernel
theorem dX0_takeInOrder_22 : decode cX0_takeInOrder 22 = .ok (.aload_n 0, 1) := by decide +kernel
theorem dX0_takeInOrder_23 : decode cX0_takeInOrder 23 = .ok (.getfield 48, 3) := by decide +kernel
theorem dX0_takeInOrder_26 : decode cX0_takeInOrder 26 = .ok (.iload_n 3, 1) := by decide +kernel
theorem dX0_takeInOrder_27 : decode cX0_takeInOrder 27 = .ok (.aload_n 1, 1) := by decide +kernel
theorem dX0_takeInOrder_28 : decode cX0_takeInOrder 28 = .ok (.getfield 48, 3) := by decide +kernel
theorem dX0_takeInOrder_31 : decode cX0_takeInOrder 31 = .ok (.iload 4, 2) := by decide +kernel
theorem dX0_takeInOrder_33 : decode cX0_takeInOrder 33 = .ok (.iaload, 1) := by decide +kernel
theorem dX0_takeInOrder_34 : decode cX0_takeInOrder 34 = .ok (.iastore, 1) := by decide +kernel
theorem dX0_takeInOrder_35 : decode cX0_takeInOrder 35 = .ok (.aload_n 0, 1) := by decide +kernel
theorem dX0_takeInOrder_36 : decode cX0_takeInOrder 36 = .ok (.getfield 52, 3) := by decide +kernel
theorem dX0_takeInOrder_39 : decode cX0_takeInOrder 39 = .ok (.iload_n 3, 1) := by decide +kernel
theorem dX0_takeInOrder_40 : decode cX0_takeInOrder 40 = .ok (.aload_n 1, 1) := by decide +kernel
theorem dX0_takeInOrder_41 : decode cX0_takeInOrder 41 = .ok (.getfield 52, 3) := by decide +kernel
theorem dX0_takeInOrder_44 : decode cX0_takeInOrder 44 = .ok (.iload 4, 2) := by decide +kernel
theorem dX0_takeInOrder_46 : decode cX0_takeInOrder 46 = .ok (.iaload, 1) := by decide +kernel
theorem dX0_takeInOrder_47 : decode cX0_takeInOrder 47 = .ok (.iastore, 1) := by decide +kernel
theorem dX0_takeInOrder_48 : decode cX0_takeInOrder 48 = .ok (.aload_n 1, 1) := by decide +kernel
theorem dX0_takeInOrder_49 : decode cX0_takeInOrder 49 = .ok (.getfield 55, 3) := by decide +kernel
theorem dX0_takeInOrder_52 : decode cX0_takeInOrder 52 = .ok (.iload 4, 2) := by decide +kernel
theorem dX0_takeInOrder_54 : decode cX0_takeInOrder 54 = .ok (.bipush 8, 2) := by decide +kernel
theorem dX0_takeInOrder_56 : decode cX0_takeInOrder 56 = .ok (.imul, 1) := by decide +kernel
theorem dX0_takeInOrder_57 : decode cX0_takeInOrder 57 = .ok (.aload_n 0, 1) := by decide +kernel
theorem dX0_takeInOrder_58 : decode cX0_takeInOrder 58 = .ok (.getfield 55, 3) := by decide +kernel
theorem dX0_takeInOrder_61 : decode cX0_takeInOrder 61 = .ok (.iload_n 3, 1) := by decide +kernel
theorem dX0_takeInOrder_62 : decode cX0_takeInOrder 62 = .ok (.bipush 8, 2) := by decide +kernel
theorem dX0_takeInOrder_64 : decode cX0_takeInOrder 64 = .ok (.imul, 1) := by decide +kernel
theorem dX0_takeInOrder_65 : decode cX0_takeInOrder 65 = .ok (.bipush 8, 2) := by decide +kernel
theorem dX0_takeInOrder_67 : decode cX0_takeInOrder 67 = .ok (.invokestatic 61, 3) := by decide +kernel
theorem dX0_takeInOrder_70 : decode cX0_takeInOrder 70 = .ok (.iinc 3 1, 3) := by decide +kernel
theorem dX0_takeInOrder_73 : decode cX0_takeInOrder 73 = .ok (.goto (-66), 3) := by decide +kernel
theorem dX0_takeInOrder_76 : decode cX0_takeInOrder 76 = .ok (.return_, 1) := by decide +kernel
def fX0_takeInOrder_7 : Nat → Int32 → Int32 → SS → Option (Unit × SS)
  | 0, _, _, _ => none
  | n + 1, x2, x3, s => if (s.1 0 11) ≤ x3 then (some ((), s)) else (((fX0_scoopInOrder x2 x3 s).bind fun x2 => if ixB x2.1 3 then (if ixB x3 3 then (if ixB x2.1 3 then (if ixB x3 3 then (if acOK (x2.1 * (8 : Int32)) (x3 * (8 : Int32)) (8 : Int32) 24 24 then (fX0_takeInOrder_7 n x2 (x3 + (1 : Int32)) (wrA (wrI (wrI s 1 x3.toNatClampNeg (s.1 6 x2.1.toNatClampNeg)) 2 x3.toNatClampNeg (s.1 7 x2.1.toNatClampNeg)) 3  (va_cpy (s.1 8 ()) (s.1 3 ()) (x2.1 * (8 : Int32)).toNatClampNeg (x3 * (8 : Int32)).toNatClampNeg (8 : Int32).toNatClampNeg))) else none) else none) else none) else none) else none))
def fX0_takeInOrder_0 (x2 : Int32) (s : SS) : Option (Unit × SS) := ((fX0_takeFrom s).bind fun x1 => fX0_takeInOrder_7 FU x2 (0 : Int32) x1.2)
def fX0_takeInOrder (x2 : Int32) (s : SS) : Option (Unit × SS) := fX0_takeInOrder_0 x2 s
set_option maxRecDepth 100000 in
set_option maxHeartbeats 4000000 in
theorem okX0_takeInOrder_7 {G : GG} {pl : Nat → Nat} {h0 : PH} : ∀ (n : Nat) (x2 : Int32) (x3 : Int32) (s : SS), EvF G 2 mX0_takeInOrder lyCC pl h0 rvU (fX0_takeInOrder_7 n x2 x3 s) 7 [(0, .ref (pl 0)), (1, .ref (pl 5)), (2, .int x2), (3, .int x3)] [] s := by
  intro n
  induction n with
  | zero => intro x2 x3 s; rw [fX0_takeInOrder_7]; exact ef_none
  | succ n ih =>
    intro x2 x3 s
    rw [fX0_takeInOrder_7]
    refine ef_iload_n (q := 8) 3 dX0_takeInOrder_7 rfl rfl rfl ?_
    refine ef_aload_n (q := 9) 0 dX0_takeInOrder_8 rfl rfl rfl ?_
    refine ef_getI (x := s.1 0 11) (q := 12) rfl fl0_45 rfl rfl dX0_takeInOrder_9 rfl ?_
    refine ef_if (pt := 76) (pf := 15) (fun _ _ => ev_icmp_ge (tgt := 76) dX0_takeInOrder_12 (by decide)) (fun h1 => ?_) (fun h1 => ?_)
    · exact ef_vret rfl dX0_takeInOrder_76
    · refine ef_iload_n (q := 16) 2 dX0_takeInOrder_15 rfl rfl rfl ?_
      refine ef_iload_n (q := 17) 3 dX0_takeInOrder_16 rfl rfl rfl ?_
      refine ef_invPI (As := [.int x2, .int x3]) (rest := []) (q := 20) (okX0_scoopInOrder x2 x3) calX0_scoopInOrder ml0_67 (by decide) rfl rfl (Nat.le_of_ble_eq_true rfl) dX0_takeInOrder_17 rfl (fun x2 => ?_)
      refine ef_istore (lv' := [(4, .int x2.1), (0, .ref (pl 0)), (1, .ref (pl 5)), (2, .int x2), (3, .int x3)]) (q := 22) dX0_takeInOrder_20 (by decide) rfl rfl ?_
      refine ef_aload_n (q := 23) 1 dX0_takeInOrder_22 rfl rfl rfl ?_
      refine ef_getR (t := 1) (q := 26) rfl fl0_48 rfl rfl dX0_takeInOrder_23 rfl ?_
      refine ef_iload_n (q := 27) 4 dX0_takeInOrder_26 rfl rfl rfl ?_
      refine ef_aload_n (q := 28) 2 dX0_takeInOrder_27 rfl rfl rfl ?_
      refine ef_getR (t := 6) (q := 31) rfl fl0_48 rfl rfl dX0_takeInOrder_28 rfl ?_
      refine ef_iload (q := 33) 0 dX0_takeInOrder_31 rfl rfl ?_
      refine ef_guard (fun g3 => ?_)
      refine ef_iaload (x := s.1 6 x2.1.toNatClampNeg) (q := 34) rfl g3 dX0_takeInOrder_33 rfl rfl ?_
      refine ef_guard (fun g4 => ?_)
      refine ef_iastore (j := x3.toNatClampNeg) (q := 35) rfl g4 dX0_takeInOrder_34 rfl rfl ?_
      refine ef_aload_n (q := 36) 1 dX0_takeInOrder_35 rfl rfl rfl ?_
      refine ef_getR (t := 2) (q := 39) rfl fl0_52 rfl rfl dX0_takeInOrder_36 rfl ?_
      refine ef_iload_n (q := 40) 4 dX0_takeInOrder_39 rfl rfl rfl ?_
      refine ef_aload_n (q := 41) 2 dX0_takeInOrder_40 rfl rfl rfl ?_
      refine ef_getR (t := 7) (q := 44) rfl fl0_52 rfl rfl dX0_takeInOrder_41 rfl ?_
      refine ef_iload (q := 46) 0 dX0_takeInOrder_44 rfl rfl ?_
      refine ef_guard (fun g5 => ?_)
      refine ef_iaload (x := s.1 7 x2.1.toNatClampNeg) (q := 47) rfl g5 dX0_takeInOrder_46 rfl rfl ?_
      refine ef_guard (fun g6 => ?_)
      refine ef_iastore (j := x3.toNatClampNeg) (q := 48) rfl g6 dX0_takeInOrder_47 rfl rfl ?_
      refine ef_aload_n (q := 49) 2 dX0_takeInOrder_48 rfl rfl rfl ?_
      refine ef_getR (t := 8) (q := 52) rfl fl0_55 rfl rfl dX0_takeInOrder_49 rfl ?_
      refine ef_iload (q := 54) 0 dX0_takeInOrder_52 rfl rfl ?_
      refine ef_bipush (v := (8 : Int32)) (q := 56) dX0_takeInOrder_54 (by decide) rfl ?_
      refine ef_imul (q := 57) dX0_takeInOrder_56 rfl ?_
      refine ef_aload_n (q := 58) 1 dX0_takeInOrder_57 rfl rfl rfl ?_
      refine ef_getR (t := 3) (q := 61) rfl fl0_55 rfl rfl dX0_takeInOrder_58 rfl ?_
      refine ef_iload_n (q := 62) 4 dX0_takeInOrder_61 rfl rfl rfl ?_
      refine ef_bipush (v := (8 : Int32)) (q := 64) dX0_takeInOrder_62 (by decide) rfl ?_
      refine ef_imul (q := 65) dX0_takeInOrder_64 rfl ?_
      refine ef_bipush (v := (8 : Int32)) (q := 67) dX0_takeInOrder_65 (by decide) rfl ?_
      refine ef_guard (fun g7 => ?_)
      refine ef_acopyI (k0 := 8) (k1 := 3) (q := 70) rfl rfl ml0_61 g7 (by decide) (Nat.le_of_ble_eq_true rfl) dX0_takeInOrder_67 rfl rfl ?_
      refine ef_iinc (v := x3 + (1 : Int32)) (lv' := [(3, .int (x3 + (1 : Int32))), (4, .int x2.1), (0, .ref (pl 0)), (1, .ref (pl 5)), (2, .int x2)]) (q := 73) 4 dX0_takeInOrder_70 rfl rfl (by decide) rfl rfl ?_
      refine ef_goto (tgt := 7) dX0_takeInOrder_73 (by decide) ?_
      refine ef_sub (lv' := [(0, .ref (pl 0)), (1, .ref (pl 5)), (2, .int x2), (3, .int (x3 + (1 : Int32)))]) [2, 3, 4, 0] rfl ?_
      exact ih x2 (x3 + (1 : Int32)) (wrA (wrI (wrI s 1 x3.toNatClampNeg (s.1 6 x2.1.toNatClampNeg)) 2 x3.toNatClampNeg (s.1 7 x2.1.toNatClampNeg)) 3  (va_cpy (s.1 8 ()) (s.1 3 ()) (x2.1 * (8 : Int32)).toNatClampNeg (x3 * (8 : Int32)).toNatClampNeg (8 : Int32).toNatClampNeg))
set_option maxRecDepth 100000 in
set_option maxHeartbeats 4000000 in
theorem okX0_takeInOrder_0 {G : GG} {pl : Nat → Nat} {h0 : PH} (x2 : Int32) (s : SS) : EvF G 2 mX0_takeInOrder lyCC pl h0 rvU (fX0_takeInOrder_0 x2 s) 0 [(0, .ref (pl 0)), (1, .ref (pl 5)), (2, .int x2)] [] s := by
  unfold fX0_takeInOrder_0
  refine ef_aload_n (q := 1) 0 dX0_takeInOrder_0 rfl rfl rfl ?_
  refine ef_aload_n (q := 2) 1 dX0_takeInOrder_1 rfl rfl rfl ?_
  refine ef_invVU0 (k := 0) (As := [.ref (pl 5)]) (rest := []) (q := 5) (okX0_takeFrom) rfl calX0_takeFrom ml0_74 (by decide) rfl rfl rfl (Nat.le_of_ble_eq_true rfl) dX0_takeInOrder_2 rfl (fun x1 => ?_)
  refine ef_iconst (v := (0 : Int32)) (q := 6) dX0_takeInOrder_5 (by decide) rfl ?_
  refine ef_istore_n (lv' := [(3, .int (0 : Int32)), (0, .ref (pl 0)), (1, .ref (pl 5)), (2, .int x2)]) (q := 7) dX0_takeInOrder_6 rfl (by decide) rfl rfl ?_
  refine ef_sub (lv' := [(0, .ref (pl 0)), (1, .ref (pl 5)), (2, .int x2), (3, .int (0 : Int32))]) [1, 2, 3, 0] rfl ?_
  exact okX0_takeInOrder_7 FU x2 (0 : Int32) x1.2
theorem okX0_takeInOrder (x2 : Int32) : MtF 2 mX0_takeInOrder lyCC rvU (fun _ pl => [.ref (pl 0), .ref (pl 5), .int x2]) (fX0_takeInOrder x2) := by
  refine MtF.of (by decide +kernel) rfl (fun _ pl => Nat.le_of_ble_eq_true rfl) (fun G pl h0 s => ?_)
  refine ef_sub (lv := [(0, .ref (pl 0)), (1, .ref (pl 5)), (2, .int x2)]) (lv' := [(0, .ref (pl 0)), (1, .ref (pl 5)), (2, .int x2)]) [0, 1, 2] rfl ?_
  exact okX0_takeInOrder_0  x2 s
-- X0_wetAt
theorem dX0_wetAt_0 : decode cX0_wetAt 0 = .ok (.aload_n 0, 1) := by decide +kernel
theorem dX0_wetAt_1 : decode cX0_wetAt 1 = .ok (.getfield 55, 3) := by decide +kernel
theorem dX0_wetAt_4 : decode cX0_wetAt 4 = .ok (.iload_n 1, 1) := by decide +kernel
theorem dX0_wetAt_5 : decode cX0_wetAt 5 = .ok (.bipush 8, 2) := by decide +kernel
theorem dX0_wetAt_7 : decode cX0_wetAt 7 = .ok (.imul, 1) := by decide +kernel
theorem dX0_wetAt_8 : decode cX0_wetAt 8 = .ok (.iload_n 2, 1) := by decide +kernel
theorem dX0_wetAt_9 : decode cX0_wetAt 9 = .ok (.iadd, 1) := by decide +kernel
theorem dX0_wetAt_10 : decode cX0_wetAt 10 = .ok (.iaload, 1) := by decide +kernel
theorem dX0_wetAt_11 : decode cX0_wetAt 11 = .ok (.ireturn, 1) := by decide +kernel
def fX0_wetAt_0 (x1 : Int32) (x2 : Int32) (s : SS) : Option (Int32 × SS) := if ixB ((x1 * (8 : Int32)) + x2) 24 then (some (s.1 3 (((x1 * (8 : Int32)) + x2).toNatClampNeg), s)) else none
def fX0_wetAt (x1 : Int32) (x2 : Int32) (s : SS) : Option (Int32 × SS) := fX0_wetAt_0 x1 x2 s
set_option maxRecDepth 100000 in
set_option maxHeartbeats 4000000 in
theorem okX0_wetAt_0 {G : GG} {pl : Nat → Nat} {h0 : PH} (x1 : Int32) (x2 : Int32) (s : SS) : EvF G 0 mX0_wetAt lyC pl h0 rvI (fX0_wetAt_0 x1 x2 s) 0 [(0, .ref (pl 0)), (1, .int x1), (2, .int x2)] [] s := by
  unfold fX0_wetAt_0
  refine ef_aload_n (q := 1) 0 dX0_wetAt_0 rfl rfl rfl ?_
  refine ef_getR (t := 3) (q := 4) rfl fl0_55 rfl rfl dX0_wetAt_1 rfl ?_
  refine ef_iload_n (q := 5) 1 dX0_wetAt_4 rfl rfl rfl ?_
  refine ef_bipush (v := (8 : Int32)) (q := 7) dX0_wetAt_5 (by decide) rfl ?_
  refine ef_imul (q := 8) dX0_wetAt_7 rfl ?_
  refine ef_iload_n (q := 9) 2 dX0_wetAt_8 rfl rfl rfl ?_
  refine ef_iadd (q := 10) dX0_wetAt_9 rfl ?_
  refine ef_guard (fun g1 => ?_)
  refine ef_iaload (x := s.1 3 (((x1 * (8 : Int32)) + x2).toNatClampNeg)) (q := 11) rfl g1 dX0_wetAt_10 rfl rfl ?_
  exact ef_iret rfl dX0_wetAt_11
theorem okX0_wetAt (x1 : Int32) (x2 : Int32) : MtF 0 mX0_wetAt lyC rvI (fun _ pl => [.ref (pl 0), .int x1, .int x2]) (fX0_wetAt x1 x2) := by
  refine MtF.of (by decide +kernel) rfl (fun _ pl => Nat.le_of_ble_eq_true rfl) (fun G pl h0 s => ?_)
  refine ef_sub (lv := [(0, .ref (pl 0)), (1, .int x1), (2, .int x2)]) (lv' := [(0, .ref (pl 0)), (1, .int x1), (2, .int x2)]) [0, 1, 2] rfl ?_
  exact okX0_wetAt_0  x1 x2 s
-- X0_changePlaces
theorem dX0_changePlaces_0 : decode cX0_changePlaces 0 = .ok (.aload_n 0, 1) := by decide +kernel
theorem dX0_changePlaces_1 : decode cX0_changePlaces 1 = .ok (.getfield 48, 3) := by decide +kernel
theorem dX0_changePlaces_4 : decode cX0_changePlaces 4 = .ok (.iload_n 1, 1) := by decide +kernel
theorem dX0_changePlaces_5 : decode cX0_changePlaces 5 = .ok (.iaload, 1) := by decide +kernel
theorem dX0_changePlaces_6 : decode cX0_changePlaces 6 = .ok (.istore_n 3, 1) := by decide +kernel
theorem dX0_changePlaces_7 : decode cX0_changePlaces 7 = .ok (.aload_n 0, 1) := by decide +kernel
theorem dX0_changePlaces_8 : decode cX0_changePlaces 8 = .ok (.getfield 48, 3) := by decide +kernel
theorem dX0_changePlaces_11 : decode cX0_changePlaces 11 = .ok (.iload_n 1, 1) := by decide +kernel
theorem dX0_changePlaces_12 : decode cX0_changePlaces 12 = .ok (.aload_n 0, 1) := by decide +kernel
theorem dX0_changePlaces_13 : decode cX0_changePlaces 13 = .ok (.getfield 48, 3) := by decide +kernel
theorem dX0_changePlaces_16 : decode cX0_changePlaces 16 = .ok (.iload_n 2, 1) := by decide +kernel
theorem dX0_changePlaces_17 : decode cX0_changePlaces 17 = .ok (.iaload, 1) := by decide +kernel
theorem dX0_changePlaces_18 : decode cX0_changePlaces 18 = .ok (.iastore, 1) := by decide +kernel
theorem dX0_changePlaces_19 : decode cX0_changePlaces 19 = .ok (.aload_n 0, 1) := by decide +kernel
theorem dX0_changePlaces_20 : decode cX0_changePlaces 20 = .ok (.getfield 48, 3) := by decide +kernel
theorem dX0_changePlaces_23 : decode cX0_changePlaces 23 = .ok (.iload_n 2, 1) := by decide +kernel
theorem dX0_changePlaces_24 : decode cX0_changePlaces 24 = .ok (.iload_n 3, 1) := by decide +kernel
theorem dX0_changePlaces_25 : decode cX0_changePlaces 25 = .ok (.iastore, 1) := by decide +kernel
theorem dX0_changePlaces_26 : decode cX0_changePlaces 26 = .ok (.aload_n 0, 1) := by decide +kernel
theorem dX0_changePlaces_27 : decode cX0_changePlaces 27 = .ok (.getfield 52, 3) := by decide +kernel
theorem dX0_changePlaces_30 : decode cX0_changePlaces 30 = .ok (.iload_n 1, 1) := by decide +kernel
theorem dX0_changePlaces_31 : decode cX0_changePlaces 31 = .ok (.iaload, 1) := by decide +kernel
theorem dX0_changePlaces_32 : decode cX0_changePlaces 32 = .ok (.istore 4, 2) := by decide +kernel
theorem dX0_changePlaces_34 : decode cX0_changePlaces 34 = .ok (.aload_n 0, 1) := by decide +kernel
theorem dX0_changePlaces_35 : decode cX0_changePlaces 35 = .ok (.getfield 52, 3) := by decide +kernel
theorem dX0_changePlaces_38 : decode cX0_changePlaces 38 = .ok (.iload_n 1, 1) := by decide +kernel
theorem dX0_changePlaces_39 : decode cX0_changePlaces 39 = .ok (.aload_n 0, 1) := by decide +kernel
theorem dX0_changePlaces_40 : decode cX0_changePlaces 40 = .ok (.getfield 52, 3) := by decide +kernel
theorem dX0_changePlaces_43 : decode cX0_changePlaces 43 = .ok (.iload_n 2, 1) := by decide +kernel
theorem dX0_changePlaces_44 : decode cX0_changePlaces 44 = .ok (.iaload, 1) := by decide +kernel
theorem dX0_changePlaces_45 : decode cX0_changePlaces 45 = .ok (.iastore, 1) := by decide +kernel
theorem dX0_changePlaces_46 : decode cX0_changePlaces 46 = .ok (.aload_n 0, 1) := by decide +kernel
theorem dX0_changePlaces_47 : decode cX0_changePlaces 47 = .ok (.getfield 52, 3) := by decide +kernel
theorem dX0_changePlaces_50 : decode cX0_changePlaces 50 = .ok (.iload_n 2, 1) := by decide +kernel
theorem dX0_changePlaces_51 : decode cX0_changePlaces 51 = .ok (.iload 4, 2) := by decide +kernel
theorem dX0_changePlaces_53 : decode cX0_changePlaces 53 = .ok (.iastore, 1) := by decide +kernel
theorem dX0_changePlaces_54 : decode cX0_changePlaces 54 = .ok (.iconst 0, 1) := by decide +kernel
theorem dX0_changePlaces_55 : decode cX0_changePlaces 55 = .ok (.istore 5, 2) := by decide +kernel
theorem dX0_changePlaces_57 : decode cX0_changePlaces 57 = .ok (.iload 5, 2) := by decide +kernel
theorem dX0_changePlaces_59 : decode cX0_changePlaces 59 = .ok (.bipush 8, 2) := by decide +kernel
theorem dX0_changePlaces_61 : decode cX0_changePlaces 61 = .ok (.if_icmp .ge 51, 3) := by decide +kernel
theorem dX0_changePlaces_64 : decode cX0_changePlaces 64 = .ok (.aload_n 0, 1) := by decide +kernel
theorem dX0_changePlaces_65 : decode cX0_changePlaces 65 = .ok (.iload_n 1, 1) := by decide +kernel
theorem dX0_changePlaces_66 : decode cX0_changePlaces 66 = .ok (.iload 5, 2) := by decide +kernel
theorem dX0_changePlaces_68 : decode cX0_changePlaces 68 = .ok (.invokevirtual 78, 3) := by decide +kernel
theorem dX0_changePlaces_71 : decode cX0_changePlaces 71 = .ok (.istore 6, 2) := by decide +kernel
theorem dX0_changePlaces_73 : decode cX0_changePlaces 73 = .ok (.aload_n 0, 1) := by decide +kernel
theorem dX0_changePlaces_74 : decode cX0_changePlaces 74 = .ok (.getfield 55, 3) := by decide +kernel
theorem dX0_changePlaces_77 : decode cX0_changePlaces 77 = .ok (.iload_n 1, 1) := by decide +kernel
theorem dX0_changePlaces_78 : decode cX0_changePlaces 78 = .ok (.bipush 8, 2) := by decide +kernel
theorem dX0_changePlaces_80 : decode cX0_changePlaces 80 = .ok (.imul, 1) := by decide +kernel
theorem dX0_changePlaces_81 : decode cX0_changePlaces 81 = .ok (.iload 5, 2) := by decide +kernel
theorem dX0_changePlaces_83 : decode cX0_changePlaces 83 = .ok (.iadd, 1) := by decide +kernel
theorem dX0_changePlaces_84 : decode cX0_changePlaces 84 = .ok (.aload_n 0, 1) := by decide +kernel
theorem dX0_changePlaces_85 : decode cX0_changePlaces 85 = .ok (.iload_n 2, 1) := by decide +kernel
theorem dX0_changePlaces_86 : decode cX0_changePlaces 86 = .ok (.iload 5, 2) := by decide +kernel
theorem dX0_changePlaces_88 : decode cX0_changePlaces 88 = .ok (.invokevirtual 78, 3) := by decide +kernel
theorem dX0_changePlaces_91 : decode cX0_changePlaces 91 = .ok (.iastore, 1) := by decide +kernel
theorem dX0_changePlaces_92 : decode cX0_changePlaces 92 = .ok (.aload_n 0, 1) := by decide +kernel
theorem dX0_changePlaces_93 : decode cX0_changePlaces 93 = .ok (.getfield 55, 3) := by decide +kernel
theorem dX0_changePlaces_96 : decode cX0_changePlaces 96 = .ok (.iload_n 2, 1) := by decide +kernel
theorem dX0_changePlaces_97 : decode cX0_changePlaces 97 = .ok (.bipush 8, 2) := by decide +kernel
theorem dX0_changePlaces_99 : decode cX0_changePlaces 99 = .ok (.imul, 1) := by decide +kernel
theorem dX0_changePlaces_100 : decode cX0_changePlaces 100 = .ok (.iload 5, 2) := by decide +kernel
theorem dX0_changePlaces_102 : decode cX0_changePlaces 102 = .ok (.iadd, 1) := by decide +kernel
theorem dX0_changePlaces_103 : decode cX0_changePlaces 103 = .ok (.iload 6, 2) := by decide +kernel
theorem dX0_changePlaces_105 : decode cX0_changePlaces 105 = .ok (.iastore, 1) := by decide +kernel
theorem dX0_changePlaces_106 : decode cX0_changePlaces 106 = .ok (.iinc 5 1, 3) := by decide +kernel
theorem dX0_changePlaces_109 : decode cX0_changePlaces 109 = .ok (.goto (-52), 3) := by decide +kernel
theorem dX0_changePlaces_112 : decode cX0_changePlaces 112 = .ok (.return_, 1) := by decide +kernel
def fX0_changePlaces_57 : Nat → Int32 → Int32 → Int32 → SS → Option (Unit × SS)
  | 0, _, _, _, _ => none
  | n + 1, x1, x2, x5, s => if (8 : Int32) ≤ x5 then (some ((), s)) else (((fX0_wetAt x1 x5 s).bind fun x2 => ((fX0_wetAt x2 x5 x2.2).bind fun x3 => if ixB ((x1 * (8 : Int32)) + x5) 24 then (if ixB ((x2 * (8 : Int32)) + x5) 24 then (fX0_changePlaces_57 n x1 x2 (x5 + (1 : Int32)) (wrI (wrI x3.2 3 (((x1 * (8 : Int32)) + x5).toNatClampNeg) x3.1) 3 (((x2 * (8 : Int32)) + x5).toNatClampNeg) x2.1)) else none) else none)))
def fX0_changePlaces_0 (x1 : Int32) (x2 : Int32) (s : SS) : Option (Unit × SS) := if ixB x1 3 then (if ixB x2 3 then (if ixB x1 3 then (if ixB x2 3 then (if ixB x1 3 then (if ixB x2 3 then (if ixB x1 3 then (if ixB x2 3 then (fX0_changePlaces_57 FU x1 x2 (0 : Int32) (wrI (wrI (wrI (wrI s 1 x1.toNatClampNeg (s.1 1 x2.toNatClampNeg)) 1 x2.toNatClampNeg (s.1 1 x1.toNatClampNeg)) 2 x1.toNatClampNeg (s.1 2 x2.toNatClampNeg)) 2 x2.toNatClampNeg (s.1 2 x1.toNatClampNeg))) else none) else none) else none) else none) else none) else none) else none) else none
def fX0_changePlaces (x1 : Int32) (x2 : Int32) (s : SS) : Option (Unit × SS) := fX0_changePlaces_0 x1 x2 s
set_option maxRecDepth 100000 in
set_option maxHeartbeats 4000000 in
theorem okX0_changePlaces_57 {G : GG} {pl : Nat → Nat} {h0 : PH} : ∀ (n : Nat) (x1 : Int32) (x2 : Int32) (x5 : Int32) (s : SS), EvF G 1 mX0_changePlaces lyC pl h0 rvU (fX0_changePlaces_57 n x1 x2 x5 s) 57 [(0, .ref (pl 0)), (1, .int x1), (2, .int x2), (5, .int x5)] [] s := by
  intro n
  induction n with
  | zero => intro x1 x2 x5 s; rw [fX0_changePlaces_57]; exact ef_none
  | succ n ih =>
    intro x1 x2 x5 s
    rw [fX0_changePlaces_57]
    refine ef_iload (q := 59) 3 dX0_changePlaces_57 rfl rfl ?_
    refine ef_bipush (v := (8 : Int32)) (q := 61) dX0_changePlaces_59 (by decide) rfl ?_
    refine ef_if (pt := 112) (pf := 64) (fun _ _ => ev_icmp_ge (tgt := 112) dX0_changePlaces_61 (by decide)) (fun h1 => ?_) (fun h1 => ?_)
    · exact ef_vret rfl dX0_changePlaces_112
    · refine ef_aload_n (q := 65) 0 dX0_changePlaces_64 rfl rfl rfl ?_
      refine ef_iload_n (q := 66) 1 dX0_changePlaces_65 rfl rfl rfl ?_
      refine ef_iload (q := 68) 3 dX0_changePlaces_66 rfl rfl ?_
      refine ef_invVI0 (k := 0) (As := [.int x1, .int x5]) (rest := []) (q := 71) (okX0_wetAt x1 x5) rfl calX0_wetAt ml0_78 (by decide) rfl rfl rfl (Nat.le_of_ble_eq_true rfl) dX0_changePlaces_68 rfl (fun x2 => ?_)
      refine ef_istore (lv' := [(6, .int x2.1), (0, .ref (pl 0)), (1, .int x1), (2, .int x2), (5, .int x5)]) (q := 73) dX0_changePlaces_71 (by decide) rfl rfl ?_
      refine ef_aload_n (q := 74) 1 dX0_changePlaces_73 rfl rfl rfl ?_
      refine ef_getR (t := 3) (q := 77) rfl fl0_55 rfl rfl dX0_changePlaces_74 rfl ?_
      refine ef_iload_n (q := 78) 2 dX0_changePlaces_77 rfl rfl rfl ?_
      refine ef_bipush (v := (8 : Int32)) (q := 80) dX0_changePlaces_78 (by decide) rfl ?_
      refine ef_imul (q := 81) dX0_changePlaces_80 rfl ?_
      refine ef_iload (q := 83) 4 dX0_changePlaces_81 rfl rfl ?_
      refine ef_iadd (q := 84) dX0_changePlaces_83 rfl ?_
      refine ef_aload_n (q := 85) 1 dX0_changePlaces_84 rfl rfl rfl ?_
      refine ef_iload_n (q := 86) 3 dX0_changePlaces_85 rfl rfl rfl ?_
      refine ef_iload (q := 88) 4 dX0_changePlaces_86 rfl rfl ?_
      refine ef_invVI0 (k := 0) (As := [.int x2, .int x5]) (rest := [.int ((x1 * (8 : Int32)) + x5), .ref (pl 3)]) (q := 91) (okX0_wetAt x2 x5) rfl calX0_wetAt ml0_78 (by decide) rfl rfl rfl (Nat.le_of_ble_eq_true rfl) dX0_changePlaces_88 rfl (fun x3 => ?_)
      refine ef_guard (fun g4 => ?_)
      refine ef_iastore (j := ((x1 * (8 : Int32)) + x5).toNatClampNeg) (q := 92) rfl g4 dX0_changePlaces_91 rfl rfl ?_
      refine ef_aload_n (q := 93) 1 dX0_changePlaces_92 rfl rfl rfl ?_
      refine ef_getR (t := 3) (q := 96) rfl fl0_55 rfl rfl dX0_changePlaces_93 rfl ?_
      refine ef_iload_n (q := 97) 3 dX0_changePlaces_96 rfl rfl rfl ?_
      refine ef_bipush (v := (8 : Int32)) (q := 99) dX0_changePlaces_97 (by decide) rfl ?_
      refine ef_imul (q := 100) dX0_changePlaces_99 rfl ?_
      refine ef_iload (q := 102) 4 dX0_changePlaces_100 rfl rfl ?_
      refine ef_iadd (q := 103) dX0_changePlaces_102 rfl ?_
      refine ef_iload (q := 105) 0 dX0_changePlaces_103 rfl rfl ?_
      refine ef_guard (fun g5 => ?_)
      refine ef_iastore (j := ((x2 * (8 : Int32)) + x5).toNatClampNeg) (q := 106) rfl g5 dX0_changePlaces_105 rfl rfl ?_
      refine ef_iinc (v := x5 + (1 : Int32)) (lv' := [(5, .int (x5 + (1 : Int32))), (6, .int x2.1), (0, .ref (pl 0)), (1, .int x1), (2, .int x2)]) (q := 109) 4 dX0_changePlaces_106 rfl rfl (by decide) rfl rfl ?_
      refine ef_goto (tgt := 57) dX0_changePlaces_109 (by decide) ?_
      refine ef_sub (lv' := [(0, .ref (pl 0)), (1, .int x1), (2, .int x2), (5, .int (x5 + (1 : Int32)))]) [2, 3, 4, 0] rfl ?_
      exact ih x1 x2 (x5 + (1 : Int32)) (wrI (wrI x3.2 3 (((x1 * (8 : Int32)) + x5).toNatClampNeg) x3.1) 3 (((x2 * (8 : Int32)) + x5).toNatClampNeg) x2.1)
set_option maxRecDepth 100000 in
set_option maxHeartbeats 4000000 in
theorem okX0_changePlaces_0 {G : GG} {pl : Nat → Nat} {h0 : PH} (x1 : Int32) (x2 : Int32) (s : SS) : EvF G 1 mX0_changePlaces lyC pl h0 rvU (fX0_changePlaces_0 x1 x2 s) 0 [(0, .ref (pl 0)), (1, .int x1), (2, .int x2)] [] s := by
  unfold fX0_changePlaces_0
  refine ef_aload_n (q := 1) 0 dX0_changePlaces_0 rfl rfl rfl ?_
  refine ef_getR (t := 1) (q := 4) rfl fl0_48 rfl rfl dX0_changePlaces_1 rfl ?_
  refine ef_iload_n (q := 5) 1 dX0_changePlaces_4 rfl rfl rfl ?_
  refine ef_guard (fun g1 => ?_)
  refine ef_iaload (x := s.1 1 x1.toNatClampNeg) (q := 6) rfl g1 dX0_changePlaces_5 rfl rfl ?_
  refine ef_istore_n (lv' := [(3, .int (s.1 1 x1.toNatClampNeg)), (0, .ref (pl 0)), (1, .int x1), (2, .int x2)]) (q := 7) dX0_changePlaces_6 rfl (by decide) rfl rfl ?_
  refine ef_aload_n (q := 8) 1 dX0_changePlaces_7 rfl rfl rfl ?_
  refine ef_getR (t := 1) (q := 11) rfl fl0_48 rfl rfl dX0_changePlaces_8 rfl ?_
  refine ef_iload_n (q := 12) 2 dX0_changePlaces_11 rfl rfl rfl ?_
  refine ef_aload_n (q := 13) 1 dX0_changePlaces_12 rfl rfl rfl ?_
  refine ef_getR (t := 1) (q := 16) rfl fl0_48 rfl rfl dX0_changePlaces_13 rfl ?_
  refine ef_iload_n (q := 17) 3 dX0_changePlaces_16 rfl rfl rfl ?_
  refine ef_guard (fun g2 => ?_)
  refine ef_iaload (x := s.1 1 x2.toNatClampNeg) (q := 18) rfl g2 dX0_changePlaces_17 rfl rfl ?_
  refine ef_guard (fun g3 => ?_)
  refine ef_iastore (j := x1.toNatClampNeg) (q := 19) rfl g3 dX0_changePlaces_18 rfl rfl ?_
  refine ef_aload_n (q := 20) 1 dX0_changePlaces_19 rfl rfl rfl ?_
  refine ef_getR (t := 1) (q := 23) rfl fl0_48 rfl rfl dX0_changePlaces_20 rfl ?_
  refine ef_iload_n (q := 24) 3 dX0_changePlaces_23 rfl rfl rfl ?_
  refine ef_iload_n (q := 25) 0 dX0_changePlaces_24 rfl rfl rfl ?_
  refine ef_guard (fun g4 => ?_)
  refine ef_iastore (j := x2.toNatClampNeg) (q := 26) rfl g4 dX0_changePlaces_25 rfl rfl ?_
  refine ef_aload_n (q := 27) 1 dX0_changePlaces_26 rfl rfl rfl ?_
  refine ef_getR (t := 2) (q := 30) rfl fl0_52 rfl rfl dX0_changePlaces_27 rfl ?_
  refine ef_iload_n (q := 31) 2 dX0_changePlaces_30 rfl rfl rfl ?_
  refine ef_guard (fun g5 => ?_)
  refine ef_iaload (x := s.1 2 x1.toNatClampNeg) (q := 32) rfl g5 dX0_changePlaces_31 rfl rfl ?_
  refine ef_istore (lv' := [(4, .int (s.1 2 x1.toNatClampNeg)), (3, .int (s.1 1 x1.toNatClampNeg)), (0, .ref (pl 0)), (1, .int x1), (2, .int x2)]) (q := 34) dX0_changePlaces_32 (by decide) rfl rfl ?_
  refine ef_aload_n (q := 35) 2 dX0_changePlaces_34 rfl rfl rfl ?_
  refine ef_getR (t := 2) (q := 38) rfl fl0_52 rfl rfl dX0_changePlaces_35 rfl ?_
  refine ef_iload_n (q := 39) 3 dX0_changePlaces_38 rfl rfl rfl ?_
  refine ef_aload_n (q := 40) 2 dX0_changePlaces_39 rfl rfl rfl ?_
  refine ef_getR (t := 2) (q := 43) rfl fl0_52 rfl rfl dX0_changePlaces_40 rfl ?_
  refine ef_iload_n (q := 44) 4 dX0_changePlaces_43 rfl rfl rfl ?_
  refine ef_guard (fun g6 => ?_)
  refine ef_iaload (x := s.1 2 x2.toNatClampNeg) (q := 45) rfl g6 dX0_changePlaces_44 rfl rfl ?_
  refine ef_guard (fun g7 => ?_)
  refine ef_iastore (j := x1.toNatClampNeg) (q := 46) rfl g7 dX0_changePlaces_45 rfl rfl ?_
  refine ef_aload_n (q := 47) 2 dX0_changePlaces_46 rfl rfl rfl ?_
  refine ef_getR (t := 2) (q := 50) rfl fl0_52 rfl rfl dX0_changePlaces_47 rfl ?_
  refine ef_iload_n (q := 51) 4 dX0_changePlaces_50 rfl rfl rfl ?_
  refine ef_iload (q := 53) 0 dX0_changePlaces_51 rfl rfl ?_
  refine ef_guard (fun g8 => ?_)
  refine ef_iastore (j := x2.toNatClampNeg) (q := 54) rfl g8 dX0_changePlaces_53 rfl rfl ?_
  refine ef_iconst (v := (0 : Int32)) (q := 55) dX0_changePlaces_54 (by decide) rfl ?_
  refine ef_istore (lv' := [(5, .int (0 : Int32)), (4, .int (s.1 2 x1.toNatClampNeg)), (3, .int (s.1 1 x1.toNatClampNeg)), (0, .ref (pl 0)), (1, .int x1), (2, .int x2)]) (q := 57) dX0_changePlaces_55 (by decide) rfl rfl ?_
  refine ef_sub (lv' := [(0, .ref (pl 0)), (1, .int x1), (2, .int x2), (5, .int (0 : Int32))]) [3, 4, 5, 0] rfl ?_
  exact okX0_changePlaces_57 FU x1 x2 (0 : Int32) (wrI (wrI (wrI (wrI s 1 x1.toNatClampNeg (s.1 1 x2.toNatClampNeg)) 1 x2.toNatClampNeg (s.1 1 x1.toNatClampNeg)) 2 x1.toNatClampNeg (s.1 2 x2.toNatClampNeg)) 2 x2.toNatClampNeg (s.1 2 x1.toNatClampNeg))
theorem okX0_changePlaces (x1 : Int32) (x2 : Int32) : MtF 1 mX0_changePlaces lyC rvU (fun _ pl => [.ref (pl 0), .int x1, .int x2]) (fX0_changePlaces x1 x2) := by
  refine MtF.of (by decide +kernel) rfl (fun _ pl => Nat.le_of_ble_eq_true rfl) (fun G pl h0 s => ?_)
  refine ef_sub (lv := [(0, .ref (pl 0)), (1, .int x1), (2, .int x2)]) (lv' := [(0, .ref (pl 0)), (1, .int x1), (2, .int x2)]) [0, 1, 2] rfl ?_
  exact okX0_changePlaces_0  x1 x2 s
-- X0_allPlaces
theorem dX0_allPlaces_0 : decode cX0_allPlaces 0 = .ok (.iconst 1, 1) := by decide +kernel
theorem dX0_allPlaces_1 : decode cX0_allPlaces 1 = .ok (.aload_n 0, 1) := by decide +kernel
theorem dX0_allPlaces_2 : decode cX0_allPlaces 2 = .ok (.getfield 9, 3) := by decide +kernel
theorem dX0_allPlaces_5 : decode cX0_allPlaces 5 = .ok (.ishl, 1) := by decide +kernel
theorem dX0_allPlaces_6 : decode cX0_allPlaces 6 = .ok (.iconst 1, 1) := by decide +kernel
theorem dX0_allPlaces_7 : decode cX0_allPlaces 7 = .ok (.isub, 1) := by decide +kernel
theorem dX0_allPlaces_8 : decode cX0_allPlaces 8 = .ok (.ireturn, 1) := by decide +kernel
def fX0_allPlaces_0 (s : SS) : Option (Int32 × SS) := some (((1 : Int32) <<< ((s.1 0 0) &&& 31)) - (1 : Int32), s)
def fX0_allPlaces (s : SS) : Option (Int32 × SS) := fX0_allPlaces_0 s
set_option maxRecDepth 100000 in
set_option maxHeartbeats 4000000 in
theorem okX0_allPlaces_0 {G : GG} {pl : Nat → Nat} {h0 : PH} (s : SS) : EvF G 0 mX0_allPlaces lyC pl h0 rvI (fX0_allPlaces_0 s) 0 [(0, .ref (pl 0))] [] s := by
  unfold fX0_allPlaces_0
  refine ef_iconst (v := (1 : Int32)) (q := 1) dX0_allPlaces_0 (by decide) rfl ?_
  refine ef_aload_n (q := 2) 0 dX0_allPlaces_1 rfl rfl rfl ?_
  refine ef_getI (x := s.1 0 0) (q := 5) rfl fl0_9 rfl rfl dX0_allPlaces_2 rfl ?_
  refine ef_ishl (q := 6) dX0_allPlaces_5 rfl ?_
  refine ef_iconst (v := (1 : Int32)) (q := 7) dX0_allPlaces_6 (by decide) rfl ?_
  refine ef_isub (q := 8) dX0_allPlaces_7 rfl ?_
  exact ef_iret rfl dX0_allPlaces_8
theorem okX0_allPlaces : MtF 0 mX0_allPlaces lyC rvI (fun _ pl => [.ref (pl 0)]) (fX0_allPlaces) := by
  refine MtF.of (by decide +kernel) rfl (fun _ pl => Nat.le_of_ble_eq_true rfl) (fun G pl h0 s => ?_)
  refine ef_sub (lv := [(0, .ref (pl 0))]) (lv' := [(0, .ref (pl 0))]) [0] rfl ?_
  exact okX0_allPlaces_0  s
-- X0_becomeSides
theorem dX0_becomeSides_0 : decode cX0_becomeSides 0 = .ok (.aload_n 0, 1) := by decide +kernel
theorem dX0_becomeSides_1 : decode cX0_becomeSides 1 = .ok (.iload_n 1, 1) := by decide +kernel
theorem dX0_becomeSides_2 : decode cX0_becomeSides 2 = .ok (.putfield 9, 3) := by decide +kernel
theorem dX0_becomeSides_5 : decode cX0_becomeSides 5 = .ok (.aload_n 0, 1) := by decide +kernel
theorem dX0_becomeSides_6 : decode cX0_becomeSides 6 = .ok (.iconst 0, 1) := by decide +kernel
theorem dX0_becomeSides_7 : decode cX0_becomeSides 7 = .ok (.putfield 15, 3) := by decide +kernel
theorem dX0_becomeSides_10 : decode cX0_becomeSides 10 = .ok (.aload_n 0, 1) := by decide +kernel
theorem dX0_becomeSides_11 : decode cX0_becomeSides 11 = .ok (.dup, 1) := by decide +kernel
theorem dX0_becomeSides_12 : decode cX0_becomeSides 12 = .ok (.getfield 18, 3) := by decide +kernel
theorem dX0_becomeSides_15 : decode cX0_becomeSides 15 = .ok (.aload_n 0, 1) := by decide +kernel
theorem dX0_becomeSides_16 : decode cX0_becomeSides 16 = .ok (.invokevirtual 81, 3) := by decide +kernel
theorem dX0_becomeSides_19 : decode cX0_becomeSides 19 = .ok (.iand, 1) := by decide +kernel
theorem dX0_becomeSides_20 : decode cX0_becomeSides 20 = .ok (.putfield 18, 3) := by decide +kernel
theorem dX0_becomeSides_23 : decode cX0_becomeSides 23 = .ok (.return_, 1) := by decide +kernel
def fX0_becomeSides_0 (x1 : Int32) (s : SS) : Option (Unit × SS) := ((fX0_allPlaces (wrI (wrI s 0 0 x1) 0 1 (0 : Int32))).bind fun x1 => some ((), wrI x1.2 0 2 ((s.1 0 2) &&& x1.1)))
def fX0_becomeSides (x1 : Int32) (s : SS) : Option (Unit × SS) := fX0_becomeSides_0 x1 s
set_option maxRecDepth 100000 in
set_option maxHeartbeats 4000000 in
theorem okX0_becomeSides_0 {G : GG} {pl : Nat → Nat} {h0 : PH} (x1 : Int32) (s : SS) : EvF G 1 mX0_becomeSides lyC pl h0 rvU (fX0_becomeSides_0 x1 s) 0 [(0, .ref (pl 0)), (1, .int x1)] [] s := by
  unfold fX0_becomeSides_0
  refine ef_aload_n (q := 1) 0 dX0_becomeSides_0 rfl rfl rfl ?_
  refine ef_iload_n (q := 2) 1 dX0_becomeSides_1 rfl rfl rfl ?_
  refine ef_putI (q := 5) rfl fl0_9 rfl rfl dX0_becomeSides_2 rfl ?_
  refine ef_aload_n (q := 6) 0 dX0_becomeSides_5 rfl rfl rfl ?_
  refine ef_iconst (v := (0 : Int32)) (q := 7) dX0_becomeSides_6 (by decide) rfl ?_
  refine ef_putI (q := 10) rfl fl0_15 rfl rfl dX0_becomeSides_7 rfl ?_
  refine ef_aload_n (q := 11) 0 dX0_becomeSides_10 rfl rfl rfl ?_
  refine ef_dup (q := 12) dX0_becomeSides_11 rfl rfl ?_
  refine ef_getI (x := s.1 0 2) (q := 15) rfl fl0_18 rfl rfl dX0_becomeSides_12 rfl ?_
  refine ef_aload_n (q := 16) 0 dX0_becomeSides_15 rfl rfl rfl ?_
  refine ef_invVI0 (k := 0) (As := []) (rest := [.int (s.1 0 2), .ref (pl 0)]) (q := 19) (okX0_allPlaces) rfl calX0_allPlaces ml0_81 (by decide) rfl rfl rfl (Nat.le_of_ble_eq_true rfl) dX0_becomeSides_16 rfl (fun x1 => ?_)
  refine ef_iand (q := 20) dX0_becomeSides_19 rfl ?_
  refine ef_putI (q := 23) rfl fl0_18 rfl rfl dX0_becomeSides_20 rfl ?_
  exact ef_vret rfl dX0_becomeSides_23
theorem okX0_becomeSides (x1 : Int32) : MtF 1 mX0_becomeSides lyC rvU (fun _ pl => [.ref (pl 0), .int x1]) (fX0_becomeSides x1) := by
  refine MtF.of (by decide +kernel) rfl (fun _ pl => Nat.le_of_ble_eq_true rfl) (fun G pl h0 s => ?_)
  refine ef_sub (lv := [(0, .ref (pl 0)), (1, .int x1)]) (lv' := [(0, .ref (pl 0)), (1, .int x1)]) [0, 1] rfl ?_
  exact okX0_becomeSides_0  x1 s
-- X0_becomeEmpty
theorem dX0_becomeEmpty_0 : decode cX0_becomeEmpty 0 = .ok (.aload_n 0, 1) := by decide +kernel
theorem dX0_becomeEmpty_1 : decode cX0_becomeEmpty 1 = .ok (.iconst 0, 1) := by decide +kernel
theorem dX0_becomeEmpty_2 : decode cX0_becomeEmpty 2 = .ok (.putfield 45, 3) := by decide +kernel
theorem dX0_becomeEmpty_5 : decode cX0_becomeEmpty 5 = .ok (.aload_n 0, 1) := by decide +kernel
theorem dX0_becomeEmpty_6 : decode cX0_becomeEmpty 6 = .ok (.iconst 0, 1) := by decide +kernel
theorem dX0_becomeEmpty_7 : decode cX0_becomeEmpty 7 = .ok (.putfield 42, 3) := by decide +kernel
theorem dX0_becomeEmpty_10 : decode cX0_becomeEmpty 10 = .ok (.iconst 0, 1) := by decide +kernel
theorem dX0_becomeEmpty_11 : decode cX0_becomeEmpty 11 = .ok (.istore_n 1, 1) := by decide +kernel
theorem dX0_becomeEmpty_12 : decode cX0_becomeEmpty 12 = .ok (.iload_n 1, 1) := by decide +kernel
theorem dX0_becomeEmpty_13 : decode cX0_becomeEmpty 13 = .ok (.bipush 8, 2) := by decide +kernel
theorem dX0_becomeEmpty_15 : decode cX0_becomeEmpty 15 = .ok (.if_icmp .ge 16, 3) := by decide +kernel
theorem dX0_becomeEmpty_18 : decode cX0_becomeEmpty 18 = .ok (.aload_n 0, 1) := by decide +kernel
theorem dX0_becomeEmpty_19 : decode cX0_becomeEmpty 19 = .ok (.getfield 58, 3) := by decide +kernel
theorem dX0_becomeEmpty_22 : decode cX0_becomeEmpty 22 = .ok (.iload_n 1, 1) := by decide +kernel
theorem dX0_becomeEmpty_23 : decode cX0_becomeEmpty 23 = .ok (.iconst 0, 1) := by decide +kernel
theorem dX0_becomeEmpty_24 : decode cX0_becomeEmpty 24 = .ok (.iastore, 1) := by decide +kernel
theorem dX0_becomeEmpty_25 : decode cX0_becomeEmpty 25 = .ok (.iinc 1 1, 3) := by decide +kernel
theorem dX0_becomeEmpty_28 : decode cX0_becomeEmpty 28 = .ok (.goto (-16), 3) := by decide +kernel
theorem dX0_becomeEmpty_31 : decode cX0_becomeEmpty 31 = .ok (.return_, 1) := by decide +kernel
def fX0_becomeEmpty_12 : Nat → Int32 → SS → Option (Unit × SS)
  | 0, _, _ => none
  | n + 1, x1, s => if (8 : Int32) ≤ x1 then (some ((), s)) else (if ixB x1 8 then (fX0_becomeEmpty_12 n (x1 + (1 : Int32)) (wrI s 4 x1.toNatClampNeg (0 : Int32))) else none)
def fX0_becomeEmpty_0 (s : SS) : Option (Unit × SS) := fX0_becomeEmpty_12 FU (0 : Int32) (wrI (wrI s 0 11 (0 : Int32)) 0 10 (0 : Int32))
def fX0_becomeEmpty (s : SS) : Option (Unit × SS) := fX0_becomeEmpty_0 s
set_option maxRecDepth 100000 in
set_option maxHeartbeats 4000000 in
theorem okX0_becomeEmpty_12 {G : GG} {pl : Nat → Nat} {h0 : PH} : ∀ (n : Nat) (x1 : Int32) (s : SS), EvF G 0 mX0_becomeEmpty lyC pl h0 rvU (fX0_becomeEmpty_12 n x1 s) 12 [(0, .ref (pl 0)), (1, .int x1)] [] s := by
  intro n
  induction n with
  | zero => intro x1 s; rw [fX0_becomeEmpty_12]; exact ef_none
  | succ n ih =>
    intro x1 s
    rw [fX0_becomeEmpty_12]
    refine ef_iload_n (q := 13) 1 dX0_becomeEmpty_12 rfl rfl rfl ?_
    refine ef_bipush (v := (8 : Int32)) (q := 15) dX0_becomeEmpty_13 (by decide) rfl ?_
    refine ef_if (pt := 31) (pf := 18) (fun _ _ => ev_icmp_ge (tgt := 31) dX0_becomeEmpty_15 (by decide)) (fun h1 => ?_) (fun h1 => ?_)
    · exact ef_vret rfl dX0_becomeEmpty_31
    · refine ef_aload_n (q := 19) 0 dX0_becomeEmpty_18 rfl rfl rfl ?_
      refine ef_getR (t := 4) (q := 22) rfl fl0_58 rfl rfl dX0_becomeEmpty_19 rfl ?_
      refine ef_iload_n (q := 23) 1 dX0_becomeEmpty_22 rfl rfl rfl ?_
      refine ef_iconst (v := (0 : Int32)) (q := 24) dX0_becomeEmpty_23 (by decide) rfl ?_
      refine ef_guard (fun g2 => ?_)
      refine ef_iastore (j := x1.toNatClampNeg) (q := 25) rfl g2 dX0_becomeEmpty_24 rfl rfl ?_
      refine ef_iinc (v := x1 + (1 : Int32)) (lv' := [(1, .int (x1 + (1 : Int32))), (0, .ref (pl 0))]) (q := 28) 1 dX0_becomeEmpty_25 rfl rfl (by decide) rfl rfl ?_
      refine ef_goto (tgt := 12) dX0_becomeEmpty_28 (by decide) ?_
      refine ef_sub (lv' := [(0, .ref (pl 0)), (1, .int (x1 + (1 : Int32)))]) [1, 0] rfl ?_
      exact ih (x1 + (1 : Int32)) (wrI s 4 x1.toNatClampNeg (0 : Int32))
set_option maxRecDepth 100000 in
set_option maxHeartbeats 4000000 in
theorem okX0_becomeEmpty_0 {G : GG} {pl : Nat → Nat} {h0 : PH} (s : SS) : EvF G 0 mX0_becomeEmpty lyC pl h0 rvU (fX0_becomeEmpty_0 s) 0 [(0, .ref (pl 0))] [] s := by
  unfold fX0_becomeEmpty_0
  refine ef_aload_n (q := 1) 0 dX0_becomeEmpty_0 rfl rfl rfl ?_
  refine ef_iconst (v := (0 : Int32)) (q := 2) dX0_becomeEmpty_1 (by decide) rfl ?_
  refine ef_putI (q := 5) rfl fl0_45 rfl rfl dX0_becomeEmpty_2 rfl ?_
  refine ef_aload_n (q := 6) 0 dX0_becomeEmpty_5 rfl rfl rfl ?_
  refine ef_iconst (v := (0 : Int32)) (q := 7) dX0_becomeEmpty_6 (by decide) rfl ?_
  refine ef_putI (q := 10) rfl fl0_42 rfl rfl dX0_becomeEmpty_7 rfl ?_
  refine ef_iconst (v := (0 : Int32)) (q := 11) dX0_becomeEmpty_10 (by decide) rfl ?_
  refine ef_istore_n (lv' := [(1, .int (0 : Int32)), (0, .ref (pl 0))]) (q := 12) dX0_becomeEmpty_11 rfl (by decide) rfl rfl ?_
  refine ef_sub (lv' := [(0, .ref (pl 0)), (1, .int (0 : Int32))]) [1, 0] rfl ?_
  exact okX0_becomeEmpty_12 FU (0 : Int32) (wrI (wrI s 0 11 (0 : Int32)) 0 10 (0 : Int32))
theorem okX0_becomeEmpty : MtF 0 mX0_becomeEmpty lyC rvU (fun _ pl => [.ref (pl 0)]) (fX0_becomeEmpty) := by
  refine MtF.of (by decide +kernel) rfl (fun _ pl => Nat.le_of_ble_eq_true rfl) (fun G pl h0 s => ?_)
  refine ef_sub (lv := [(0, .ref (pl 0))]) (lv' := [(0, .ref (pl 0))]) [0] rfl ?_
  exact okX0_becomeEmpty_0  s
-- X0_putOnTop
theorem dX0_putOnTop_0 : decode cX0_putOnTop 0 = .ok (.aload_n 0, 1) := by decide +kernel
theorem dX0_putOnTop_1 : decode cX0_putOnTop 1 = .ok (.getfield 45, 3) := by decide +kernel
theorem dX0_putOnTop_4 : decode cX0_putOnTop 4 = .ok (.iconst 3, 1) := by decide +kernel
theorem dX0_putOnTop_5 : decode cX0_putOnTop 5 = .ok (.if_icmp .lt 4, 3) := by decide +kernel
theorem dX0_putOnTop_8 : decode cX0_putOnTop 8 = .ok (.return_, 1) := by decide +kernel
theorem dX0_putOnTop_9 : decode cX0_putOnTop 9 = .ok (.aload_n 0, 1) := by decide +kernel
theorem dX0_putOnTop_10 : decode cX0_putOnTop 10 = .ok (.getfield 48, 3) := by decide +kernel
theorem dX0_putOnTop_13 : decode cX0_putOnTop 13 = .ok (.aload_n 0, 1) := by decide +kernel
theorem dX0_putOnTop_14 : decode cX0_putOnTop 14 = .ok (.getfield 45, 3) := by decide +kernel
theorem dX0_putOnTop_17 : decode cX0_putOnTop 17 = .ok (.iload_n 1, 1) := by decide +kernel
theorem dX0_putOnTop_18 : decode cX0_putOnTop 18 = .ok (.iastore, 1) := by decide +kernel
theorem dX0_putOnTop_19 : decode cX0_putOnTop 19 = .ok (.aload_n 0, 1) := by decide +kernel
theorem dX0_putOnTop_20 : decode cX0_putOnTop 20 = .ok (.getfield 52, 3) := by decide +kernel
theorem dX0_putOnTop_23 : decode cX0_putOnTop 23 = .ok (.aload_n 0, 1) := by decide +kernel
theorem dX0_putOnTop_24 : decode cX0_putOnTop 24 = .ok (.getfield 45, 3) := by decide +kernel
theorem dX0_putOnTop_27 : decode cX0_putOnTop 27 = .ok (.iload_n 2, 1) := by decide +kernel
theorem dX0_putOnTop_28 : decode cX0_putOnTop 28 = .ok (.iastore, 1) := by decide +kernel
theorem dX0_putOnTop_29 : decode cX0_putOnTop 29 = .ok (.iconst 0, 1) := by decide +kernel
theorem dX0_putOnTop_30 : decode cX0_putOnTop 30 = .ok (.istore_n 3, 1) := by decide +kernel
theorem dX0_putOnTop_31 : decode cX0_putOnTop 31 = .ok (.iload_n 3, 1) := by decide +kernel
theorem dX0_putOnTop_32 : decode cX0_putOnTop 32 = .ok (.bipush 8, 2) := by decide +kernel
theorem dX0_putOnTop_34 : decode cX0_putOnTop 34 = .ok (.if_icmp .ge 24, 3) := by decide +kernel
theorem dX0_putOnTop_37 : decode cX0_putOnTop 37 = .ok (.aload_n 0, 1) := by decide +kernel
theorem dX0_putOnTop_38 : decode cX0_putOnTop 38 = .ok (.getfield 55, 3) := by decide +kernel
theorem dX0_putOnTop_41 : decode cX0_putOnTop 41 = .ok (.aload_n 0, 1) := by decide +kernel
theorem dX0_putOnTop_42 : decode cX0_putOnTop 42 = .ok (.getfield 45, 3) := by decide +kernel
theorem dX0_putOnTop_45 : decode cX0_putOnTop 45 = .ok (.bipush 8, 2) := by decide +kernel
theorem dX0_putOnTop_47 : decode cX0_putOnTop 47 = .ok (.imul, 1) := by decide +kernel
theorem dX0_putOnTop_48 : decode cX0_putOnTop 48 = .ok (.iload_n 3, 1) := by decide +kernel
theorem dX0_putOnTop_49 : decode cX0_putOnTop 49 = .ok (.iadd, 1) := by decide +kernel
theorem dX0_putOnTop_50 : decode cX0_putOnTop 50 = .ok (.iconst 0, 1) := by decide +kernel
theorem dX0_putOnTop_51 : decode cX0_putOnTop 51 = .ok (.iastore, 1) := by decide +kernel
theorem dX0_putOnTop_52 : decode cX0_putOnTop 52 = .ok (.iinc 3 1, 3) := by decide +kernel
theorem dX0_putOnTop_55 : decode cX0_putOnTop 55 = .ok (.goto (-24), 3) := by decide +kernel
theorem dX0_putOnTop_58 : decode cX0_putOnTop 58 = .ok (.aload_n 0, 1) := by decide +kernel
theorem dX0_putOnTop_59 : decode cX0_putOnTop 59 = .ok (.dup, 1) := by decide +kernel
theorem dX0_putOnTop_60 : decode cX0_putOnTop 60 = .ok (.getfield 45, 3) := by decide +kernel
theorem dX0_putOnTop_63 : decode cX0_putOnTop 63 = .ok (.iconst 1, 1) := by decide +kernel
theorem dX0_putOnTop_64 : decode cX0_putOnTop 64 = .ok (.iadd, 1) := by decide +kernel
theorem dX0_putOnTop_65 : decode cX0_putOnTop 65 = .ok (.putfield 45, 3) := by decide +kernel
theorem dX0_putOnTop_68 : decode cX0_putOnTop 68 = .ok (.return_, 1) := by decide +kernel
def fX0_putOnTop_31 : Nat → Int32 → SS → Option (Unit × SS)
  | 0, _, _ => none
  | n + 1, x3, s => if (8 : Int32) ≤ x3 then (some ((), wrI s 0 11 ((s.1 0 11) + (1 : Int32)))) else (if ixB (((s.1 0 11) * (8 : Int32)) + x3) 24 then (fX0_putOnTop_31 n (x3 + (1 : Int32)) (wrI s 3 ((((s.1 0 11) * (8 : Int32)) + x3).toNatClampNeg) (0 : Int32))) else none)
def fX0_putOnTop_0 (x1 : Int32) (x2 : Int32) (s : SS) : Option (Unit × SS) := if (s.1 0 11) < (3 : Int32) then (if ixB (s.1 0 11) 3 then (if ixB (s.1 0 11) 3 then (fX0_putOnTop_31 FU (0 : Int32) (wrI (wrI s 1 ((s.1 0 11).toNatClampNeg) x1) 2 ((s.1 0 11).toNatClampNeg) x2)) else none) else none) else (some ((), s))
def fX0_putOnTop (x1 : Int32) (x2 : Int32) (s : SS) : Option (Unit × SS) := fX0_putOnTop_0 x1 x2 s
set_option maxRecDepth 100000 in
set_option maxHeartbeats 4000000 in
theorem okX0_putOnTop_31 {G : GG} {pl : Nat → Nat} {h0 : PH} : ∀ (n : Nat) (x3 : Int32) (s : SS), EvF G 0 mX0_putOnTop lyC pl h0 rvU (fX0_putOnTop_31 n x3 s) 31 [(0, .ref (pl 0)), (3, .int x3)] [] s := by
  intro n
  induction n with
  | zero => intro x3 s; rw [fX0_putOnTop_31]; exact ef_none
  | succ n ih =>
    intro x3 s
    rw [fX0_putOnTop_31]
    refine ef_iload_n (q := 32) 1 dX0_putOnTop_31 rfl rfl rfl ?_
    refine ef_bipush (v := (8 : Int32)) (q := 34) dX0_putOnTop_32 (by decide) rfl ?_
    refine ef_if (pt := 58) (pf := 37) (fun _ _ => ev_icmp_ge (tgt := 58) dX0_putOnTop_34 (by decide)) (fun h1 => ?_) (fun h1 => ?_)
    · refine ef_aload_n (q := 59) 0 dX0_putOnTop_58 rfl rfl rfl ?_
      refine ef_dup (q := 60) dX0_putOnTop_59 rfl rfl ?_
      refine ef_getI (x := s.1 0 11) (q := 63) rfl fl0_45 rfl rfl dX0_putOnTop_60 rfl ?_
      refine ef_iconst (v := (1 : Int32)) (q := 64) dX0_putOnTop_63 (by decide) rfl ?_
      refine ef_iadd (q := 65) dX0_putOnTop_64 rfl ?_
      refine ef_putI (q := 68) rfl fl0_45 rfl rfl dX0_putOnTop_65 rfl ?_
      exact ef_vret rfl dX0_putOnTop_68
    · refine ef_aload_n (q := 38) 0 dX0_putOnTop_37 rfl rfl rfl ?_
      refine ef_getR (t := 3) (q := 41) rfl fl0_55 rfl rfl dX0_putOnTop_38 rfl ?_
      refine ef_aload_n (q := 42) 0 dX0_putOnTop_41 rfl rfl rfl ?_
      refine ef_getI (x := s.1 0 11) (q := 45) rfl fl0_45 rfl rfl dX0_putOnTop_42 rfl ?_
      refine ef_bipush (v := (8 : Int32)) (q := 47) dX0_putOnTop_45 (by decide) rfl ?_
      refine ef_imul (q := 48) dX0_putOnTop_47 rfl ?_
      refine ef_iload_n (q := 49) 1 dX0_putOnTop_48 rfl rfl rfl ?_
      refine ef_iadd (q := 50) dX0_putOnTop_49 rfl ?_
      refine ef_iconst (v := (0 : Int32)) (q := 51) dX0_putOnTop_50 (by decide) rfl ?_
      refine ef_guard (fun g2 => ?_)
      refine ef_iastore (j := (((s.1 0 11) * (8 : Int32)) + x3).toNatClampNeg) (q := 52) rfl g2 dX0_putOnTop_51 rfl rfl ?_
      refine ef_iinc (v := x3 + (1 : Int32)) (lv' := [(3, .int (x3 + (1 : Int32))), (0, .ref (pl 0))]) (q := 55) 1 dX0_putOnTop_52 rfl rfl (by decide) rfl rfl ?_
      refine ef_goto (tgt := 31) dX0_putOnTop_55 (by decide) ?_
      refine ef_sub (lv' := [(0, .ref (pl 0)), (3, .int (x3 + (1 : Int32)))]) [1, 0] rfl ?_
      exact ih (x3 + (1 : Int32)) (wrI s 3 ((((s.1 0 11) * (8 : Int32)) + x3).toNatClampNeg) (0 : Int32))
set_option maxRecDepth 100000 in
set_option maxHeartbeats 4000000 in
theorem okX0_putOnTop_0 {G : GG} {pl : Nat → Nat} {h0 : PH} (x1 : Int32) (x2 : Int32) (s : SS) : EvF G 0 mX0_putOnTop lyC pl h0 rvU (fX0_putOnTop_0 x1 x2 s) 0 [(0, .ref (pl 0)), (1, .int x1), (2, .int x2)] [] s := by
  unfold fX0_putOnTop_0
  refine ef_aload_n (q := 1) 0 dX0_putOnTop_0 rfl rfl rfl ?_
  refine ef_getI (x := s.1 0 11) (q := 4) rfl fl0_45 rfl rfl dX0_putOnTop_1 rfl ?_
  refine ef_iconst (v := (3 : Int32)) (q := 5) dX0_putOnTop_4 (by decide) rfl ?_
  refine ef_if (pt := 9) (pf := 8) (fun _ _ => ev_icmp_lt (tgt := 9) dX0_putOnTop_5 (by decide)) (fun h1 => ?_) (fun h1 => ?_)
  · refine ef_aload_n (q := 10) 0 dX0_putOnTop_9 rfl rfl rfl ?_
    refine ef_getR (t := 1) (q := 13) rfl fl0_48 rfl rfl dX0_putOnTop_10 rfl ?_
    refine ef_aload_n (q := 14) 0 dX0_putOnTop_13 rfl rfl rfl ?_
    refine ef_getI (x := s.1 0 11) (q := 17) rfl fl0_45 rfl rfl dX0_putOnTop_14 rfl ?_
    refine ef_iload_n (q := 18) 1 dX0_putOnTop_17 rfl rfl rfl ?_
    refine ef_guard (fun g2 => ?_)
    refine ef_iastore (j := (s.1 0 11).toNatClampNeg) (q := 19) rfl g2 dX0_putOnTop_18 rfl rfl ?_
    refine ef_aload_n (q := 20) 0 dX0_putOnTop_19 rfl rfl rfl ?_
    refine ef_getR (t := 2) (q := 23) rfl fl0_52 rfl rfl dX0_putOnTop_20 rfl ?_
    refine ef_aload_n (q := 24) 0 dX0_putOnTop_23 rfl rfl rfl ?_
    refine ef_getI (x := s.1 0 11) (q := 27) rfl fl0_45 rfl rfl dX0_putOnTop_24 rfl ?_
    refine ef_iload_n (q := 28) 2 dX0_putOnTop_27 rfl rfl rfl ?_
    refine ef_guard (fun g3 => ?_)
    refine ef_iastore (j := (s.1 0 11).toNatClampNeg) (q := 29) rfl g3 dX0_putOnTop_28 rfl rfl ?_
    refine ef_iconst (v := (0 : Int32)) (q := 30) dX0_putOnTop_29 (by decide) rfl ?_
    refine ef_istore_n (lv' := [(3, .int (0 : Int32)), (0, .ref (pl 0)), (1, .int x1), (2, .int x2)]) (q := 31) dX0_putOnTop_30 rfl (by decide) rfl rfl ?_
    refine ef_sub (lv' := [(0, .ref (pl 0)), (3, .int (0 : Int32))]) [1, 0] rfl ?_
    exact okX0_putOnTop_31 FU (0 : Int32) (wrI (wrI s 1 ((s.1 0 11).toNatClampNeg) x1) 2 ((s.1 0 11).toNatClampNeg) x2)
  · exact ef_vret rfl dX0_putOnTop_8
theorem okX0_putOnTop (x1 : Int32) (x2 : Int32) : MtF 0 mX0_putOnTop lyC rvU (fun _ pl => [.ref (pl 0), .int x1, .int x2]) (fX0_putOnTop x1 x2) := by
  refine MtF.of (by decide +kernel) rfl (fun _ pl => Nat.le_of_ble_eq_true rfl) (fun G pl h0 s => ?_)
  refine ef_sub (lv := [(0, .ref (pl 0)), (1, .int x1), (2, .int x2)]) (lv' := [(0, .ref (pl 0)), (1, .int x1), (2, .int x2)]) [0, 1, 2] rfl ?_
  exact okX0_putOnTop_0  x1 x2 s
-- X0_isSunny
theorem dX0_isSunny_0 : decode cX0_isSunny 0 = .ok (.iload_n 1, 1) := by decide +kernel
theorem dX0_isSunny_1 : decode cX0_isSunny 1 = .ok (.aload_n 0, 1) := by decide +kernel
theorem dX0_isSunny_2 : decode cX0_isSunny 2 = .ok (.getfield 15, 3) := by decide +kernel
theorem dX0_isSunny_5 : decode cX0_isSunny 5 = .ok (.isub, 1) := by decide +kernel
theorem dX0_isSunny_6 : decode cX0_isSunny 6 = .ok (.istore_n 2, 1) := by decide +kernel
theorem dX0_isSunny_7 : decode cX0_isSunny 7 = .ok (.iload_n 2, 1) := by decide +kernel
theorem dX0_isSunny_8 : decode cX0_isSunny 8 = .ok (.ifCond .ge 10, 3) := by decide +kernel
theorem dX0_isSunny_11 : decode cX0_isSunny 11 = .ok (.iload_n 2, 1) := by decide +kernel
theorem dX0_isSunny_12 : decode cX0_isSunny 12 = .ok (.aload_n 0, 1) := by decide +kernel
theorem dX0_isSunny_13 : decode cX0_isSunny 13 = .ok (.getfield 9, 3) := by decide +kernel
theorem dX0_isSunny_16 : decode cX0_isSunny 16 = .ok (.iadd, 1) := by decide +kernel
theorem dX0_isSunny_17 : decode cX0_isSunny 17 = .ok (.istore_n 2, 1) := by decide +kernel
theorem dX0_isSunny_18 : decode cX0_isSunny 18 = .ok (.aload_n 0, 1) := by decide +kernel
theorem dX0_isSunny_19 : decode cX0_isSunny 19 = .ok (.getfield 18, 3) := by decide +kernel
theorem dX0_isSunny_22 : decode cX0_isSunny 22 = .ok (.iload_n 2, 1) := by decide +kernel
theorem dX0_isSunny_23 : decode cX0_isSunny 23 = .ok (.ishr, 1) := by decide +kernel
theorem dX0_isSunny_24 : decode cX0_isSunny 24 = .ok (.iconst 1, 1) := by decide +kernel
theorem dX0_isSunny_25 : decode cX0_isSunny 25 = .ok (.iand, 1) := by decide +kernel
theorem dX0_isSunny_26 : decode cX0_isSunny 26 = .ok (.ifCond .eq 7, 3) := by decide +kernel
theorem dX0_isSunny_29 : decode cX0_isSunny 29 = .ok (.iconst 1, 1) := by decide +kernel
theorem dX0_isSunny_30 : decode cX0_isSunny 30 = .ok (.goto 4, 3) := by decide +kernel
theorem dX0_isSunny_33 : decode cX0_isSunny 33 = .ok (.iconst 0, 1) := by decide +kernel
theorem dX0_isSunny_34 : decode cX0_isSunny 34 = .ok (.ireturn, 1) := by decide +kernel
def fX0_isSunny_18 (x2 : Int32) (s : SS) : Option (Int32 × SS) := if (((s.1 0 2) >>> (x2 &&& 31)) &&& (1 : Int32)) = 0 then (some ((0 : Int32), s)) else (some ((1 : Int32), s))
def fX0_isSunny_0 (x1 : Int32) (s : SS) : Option (Int32 × SS) := if 0 ≤ (x1 - (s.1 0 1)) then (fX0_isSunny_18 (x1 - (s.1 0 1)) s) else (fX0_isSunny_18 ((x1 - (s.1 0 1)) + (s.1 0 0)) s)
def fX0_isSunny (x1 : Int32) (s : SS) : Option (Int32 × SS) := fX0_isSunny_0 x1 s
set_option maxRecDepth 100000 in
set_option maxHeartbeats 4000000 in
theorem okX0_isSunny_18 {G : GG} {pl : Nat → Nat} {h0 : PH} (x2 : Int32) (s : SS) : EvF G 0 mX0_isSunny lyC pl h0 rvZ (fX0_isSunny_18 x2 s) 18 [(0, .ref (pl 0)), (2, .int x2)] [] s := by
  unfold fX0_isSunny_18
  refine ef_aload_n (q := 19) 0 dX0_isSunny_18 rfl rfl rfl ?_
  refine ef_getI (x := s.1 0 2) (q := 22) rfl fl0_18 rfl rfl dX0_isSunny_19 rfl ?_
  refine ef_iload_n (q := 23) 1 dX0_isSunny_22 rfl rfl rfl ?_
  refine ef_ishr (q := 24) dX0_isSunny_23 rfl ?_
  refine ef_iconst (v := (1 : Int32)) (q := 25) dX0_isSunny_24 (by decide) rfl ?_
  refine ef_iand (q := 26) dX0_isSunny_25 rfl ?_
  refine ef_if (pt := 33) (pf := 29) (fun _ _ => ev_if_eq (tgt := 33) dX0_isSunny_26 (by decide)) (fun h1 => ?_) (fun h1 => ?_)
  · refine ef_iconst (v := (0 : Int32)) (q := 34) dX0_isSunny_33 (by decide) rfl ?_
    exact ef_zretc (x := (0 : Int32)) (by decide) rfl dX0_isSunny_34
  · refine ef_iconst (v := (1 : Int32)) (q := 30) dX0_isSunny_29 (by decide) rfl ?_
    refine ef_goto (tgt := 34) dX0_isSunny_30 (by decide) ?_
    exact ef_zretc (x := (1 : Int32)) (by decide) rfl dX0_isSunny_34
set_option maxRecDepth 100000 in
set_option maxHeartbeats 4000000 in
theorem okX0_isSunny_0 {G : GG} {pl : Nat → Nat} {h0 : PH} (x1 : Int32) (s : SS) : EvF G 0 mX0_isSunny lyC pl h0 rvZ (fX0_isSunny_0 x1 s) 0 [(0, .ref (pl 0)), (1, .int x1)] [] s := by
  unfold fX0_isSunny_0
  refine ef_iload_n (q := 1) 1 dX0_isSunny_0 rfl rfl rfl ?_
  refine ef_aload_n (q := 2) 0 dX0_isSunny_1 rfl rfl rfl ?_
  refine ef_getI (x := s.1 0 1) (q := 5) rfl fl0_15 rfl rfl dX0_isSunny_2 rfl ?_
  refine ef_isub (q := 6) dX0_isSunny_5 rfl ?_
  refine ef_istore_n (lv' := [(2, .int (x1 - (s.1 0 1))), (0, .ref (pl 0)), (1, .int x1)]) (q := 7) dX0_isSunny_6 rfl (by decide) rfl rfl ?_
  refine ef_iload_n (q := 8) 0 dX0_isSunny_7 rfl rfl rfl ?_
  refine ef_if (pt := 18) (pf := 11) (fun _ _ => ev_if_ge (tgt := 18) dX0_isSunny_8 (by decide)) (fun h1 => ?_) (fun h1 => ?_)
  · refine ef_sub (lv' := [(0, .ref (pl 0)), (2, .int (x1 - (s.1 0 1)))]) [1, 0] rfl ?_
    exact okX0_isSunny_18 (x1 - (s.1 0 1)) s
  · refine ef_iload_n (q := 12) 0 dX0_isSunny_11 rfl rfl rfl ?_
    refine ef_aload_n (q := 13) 1 dX0_isSunny_12 rfl rfl rfl ?_
    refine ef_getI (x := s.1 0 0) (q := 16) rfl fl0_9 rfl rfl dX0_isSunny_13 rfl ?_
    refine ef_iadd (q := 17) dX0_isSunny_16 rfl ?_
    refine ef_istore_n (lv' := [(2, .int ((x1 - (s.1 0 1)) + (s.1 0 0))), (0, .ref (pl 0)), (1, .int x1)]) (q := 18) dX0_isSunny_17 rfl (by decide) rfl rfl ?_
    refine ef_sub (lv' := [(0, .ref (pl 0)), (2, .int ((x1 - (s.1 0 1)) + (s.1 0 0)))]) [1, 0] rfl ?_
    exact okX0_isSunny_18 ((x1 - (s.1 0 1)) + (s.1 0 0)) s
theorem okX0_isSunny (x1 : Int32) : MtF 0 mX0_isSunny lyC rvZ (fun _ pl => [.ref (pl 0), .int x1]) (fX0_isSunny x1) := by
  refine MtF.of (by decide +kernel) rfl (fun _ pl => Nat.le_of_ble_eq_true rfl) (fun G pl h0 s => ?_)
  refine ef_sub (lv := [(0, .ref (pl 0)), (1, .int x1)]) (lv' := [(0, .ref (pl 0)), (1, .int x1)]) [0, 1] rfl ?_
  exact okX0_isSunny_0  x1 s
-- X0_allWetOf
theorem dX0_allWetOf_0 : decode cX0_allWetOf 0 = .ok (.iconst 0, 1) := by decide +kernel
theorem dX0_allWetOf_1 : decode cX0_allWetOf 1 = .ok (.istore_n 2, 1) := by decide +kernel
theorem dX0_allWetOf_2 : decode cX0_allWetOf 2 = .ok (.iconst 0, 1) := by decide +kernel
theorem dX0_allWetOf_3 : decode cX0_allWetOf 3 = .ok (.istore_n 3, 1) := by decide +kernel
theorem dX0_allWetOf_4 : decode cX0_allWetOf 4 = .ok (.iload_n 3, 1) := by decide +kernel
theorem dX0_allWetOf_5 : decode cX0_allWetOf 5 = .ok (.aload_n 0, 1) := by decide +kernel
theorem dX0_allWetOf_6 : decode cX0_allWetOf 6 = .ok (.getfield 9, 3) := by decide +kernel
theorem dX0_allWetOf_9 : decode cX0_allWetOf 9 = .ok (.if_icmp .ge 18, 3) := by decide +kernel
theorem dX0_allWetOf_12 : decode cX0_allWetOf 12 = .ok (.iload_n 2, 1) := by decide +kernel
theorem dX0_allWetOf_13 : decode cX0_allWetOf 13 = .ok (.aload_n 0, 1) := by decide +kernel
theorem dX0_allWetOf_14 : decode cX0_allWetOf 14 = .ok (.iload_n 1, 1) := by decide +kernel
theorem dX0_allWetOf_15 : decode cX0_allWetOf 15 = .ok (.iload_n 3, 1) := by decide +kernel
theorem dX0_allWetOf_16 : decode cX0_allWetOf 16 = .ok (.invokevirtual 78, 3) := by decide +kernel
theorem dX0_allWetOf_19 : decode cX0_allWetOf 19 = .ok (.iadd, 1) := by decide +kernel
theorem dX0_allWetOf_20 : decode cX0_allWetOf 20 = .ok (.istore_n 2, 1) := by decide +kernel
theorem dX0_allWetOf_21 : decode cX0_allWetOf 21 = .ok (.iinc 3 1, 3) := by decide +kernel
theorem dX0_allWetOf_24 : decode cX0_allWetOf 24 = .ok (.goto (-20), 3) := by decide +kernel
theorem dX0_allWetOf_27 : decode cX0_allWetOf 27 = .ok (.iload_n 2, 1) := by decide +kernel
theorem dX0_allWetOf_28 : decode cX0_allWetOf 28 = .ok (.ireturn, 1) := by decide +kernel
def fX0_allWetOf_4 : Nat → Int32 → Int32 → Int32 → SS → Option (Int32 × SS)
  | 0, _, _, _, _ => none
  | n + 1, x1, x2, x3, s => if (s.1 0 0) ≤ x3 then (some (x2, s)) else (((fX0_wetAt x1 x3 s).bind fun x2 => fX0_allWetOf_4 n x1 (x2 + x2.1) (x3 + (1 : Int32)) x2.2))
def fX0_allWetOf_0 (x1 : Int32) (s : SS) : Option (Int32 × SS) := fX0_allWetOf_4 FU x1 (0 : Int32) (0 : Int32) s
def fX0_allWetOf (x1 : Int32) (s : SS) : Option (Int32 × SS) := fX0_allWetOf_0 x1 s
set_option maxRecDepth 100000 in
set_option maxHeartbeats 4000000 in
theorem okX0_allWetOf_4 {G : GG} {pl : Nat → Nat} {h0 : PH} : ∀ (n : Nat) (x1 : Int32) (x2 : Int32) (x3 : Int32) (s : SS), EvF G 1 mX0_allWetOf lyC pl h0 rvI (fX0_allWetOf_4 n x1 x2 x3 s) 4 [(0, .ref (pl 0)), (1, .int x1), (2, .int x2), (3, .int x3)] [] s := by
  intro n
  induction n with
  | zero => intro x1 x2 x3 s; rw [fX0_allWetOf_4]; exact ef_none
  | succ n ih =>
    intro x1 x2 x3 s
    rw [fX0_allWetOf_4]
    refine ef_iload_n (q := 5) 3 dX0_allWetOf_4 rfl rfl rfl ?_
    refine ef_aload_n (q := 6) 0 dX0_allWetOf_5 rfl rfl rfl ?_
    refine ef_getI (x := s.1 0 0) (q := 9) rfl fl0_9 rfl rfl dX0_allWetOf_6 rfl ?_
    refine ef_if (pt := 27) (pf := 12) (fun _ _ => ev_icmp_ge (tgt := 27) dX0_allWetOf_9 (by decide)) (fun h1 => ?_) (fun h1 => ?_)
    · refine ef_iload_n (q := 28) 2 dX0_allWetOf_27 rfl rfl rfl ?_
      exact ef_iret rfl dX0_allWetOf_28
    · refine ef_iload_n (q := 13) 2 dX0_allWetOf_12 rfl rfl rfl ?_
      refine ef_aload_n (q := 14) 0 dX0_allWetOf_13 rfl rfl rfl ?_
      refine ef_iload_n (q := 15) 1 dX0_allWetOf_14 rfl rfl rfl ?_
      refine ef_iload_n (q := 16) 3 dX0_allWetOf_15 rfl rfl rfl ?_
      refine ef_invVI0 (k := 0) (As := [.int x1, .int x3]) (rest := [.int x2]) (q := 19) (okX0_wetAt x1 x3) rfl calX0_wetAt ml0_78 (by decide) rfl rfl rfl (Nat.le_of_ble_eq_true rfl) dX0_allWetOf_16 rfl (fun x2 => ?_)
      refine ef_iadd (q := 20) dX0_allWetOf_19 rfl ?_
      refine ef_istore_n (lv' := [(2, .int (x2 + x2.1)), (0, .ref (pl 0)), (1, .int x1), (3, .int x3)]) (q := 21) dX0_allWetOf_20 rfl (by decide) rfl rfl ?_
      refine ef_iinc (v := x3 + (1 : Int32)) (lv' := [(3, .int (x3 + (1 : Int32))), (2, .int (x2 + x2.1)), (0, .ref (pl 0)), (1, .int x1)]) (q := 24) 3 dX0_allWetOf_21 rfl rfl (by decide) rfl rfl ?_
      refine ef_goto (tgt := 4) dX0_allWetOf_24 (by decide) ?_
      refine ef_sub (lv' := [(0, .ref (pl 0)), (1, .int x1), (2, .int (x2 + x2.1)), (3, .int (x3 + (1 : Int32)))]) [2, 3, 1, 0] rfl ?_
      exact ih x1 (x2 + x2.1) (x3 + (1 : Int32)) x2.2
set_option maxRecDepth 100000 in
set_option maxHeartbeats 4000000 in
theorem okX0_allWetOf_0 {G : GG} {pl : Nat → Nat} {h0 : PH} (x1 : Int32) (s : SS) : EvF G 1 mX0_allWetOf lyC pl h0 rvI (fX0_allWetOf_0 x1 s) 0 [(0, .ref (pl 0)), (1, .int x1)] [] s := by
  unfold fX0_allWetOf_0
  refine ef_iconst (v := (0 : Int32)) (q := 1) dX0_allWetOf_0 (by decide) rfl ?_
  refine ef_istore_n (lv' := [(2, .int (0 : Int32)), (0, .ref (pl 0)), (1, .int x1)]) (q := 2) dX0_allWetOf_1 rfl (by decide) rfl rfl ?_
  refine ef_iconst (v := (0 : Int32)) (q := 3) dX0_allWetOf_2 (by decide) rfl ?_
  refine ef_istore_n (lv' := [(3, .int (0 : Int32)), (2, .int (0 : Int32)), (0, .ref (pl 0)), (1, .int x1)]) (q := 4) dX0_allWetOf_3 rfl (by decide) rfl rfl ?_
  refine ef_sub (lv' := [(0, .ref (pl 0)), (1, .int x1), (2, .int (0 : Int32)), (3, .int (0 : Int32))]) [2, 3, 1, 0] rfl ?_
  exact okX0_allWetOf_4 FU x1 (0 : Int32) (0 : Int32) s
theorem okX0_allWetOf (x1 : Int32) : MtF 1 mX0_allWetOf lyC rvI (fun _ pl => [.ref (pl 0), .int x1]) (fX0_allWetOf x1) := by
  refine MtF.of (by decide +kernel) rfl (fun _ pl => Nat.le_of_ble_eq_true rfl) (fun G pl h0 s => ?_)
  refine ef_sub (lv := [(0, .ref (pl 0)), (1, .int x1)]) (lv' := [(0, .ref (pl 0)), (1, .int x1)]) [0, 1] rfl ?_
  exact okX0_allWetOf_0  x1 s
-- X0_left
theorem dX0_left_0 : decode cX0_left 0 = .ok (.iconst 0, 1) := by decide +kernel
theorem dX0_left_1 : decode cX0_left 1 = .ok (.istore_n 1, 1) := by decide +kernel
theorem dX0_left_2 : decode cX0_left 2 = .ok (.iconst 0, 1) := by decide +kernel
theorem dX0_left_3 : decode cX0_left 3 = .ok (.istore_n 2, 1) := by decide +kernel
theorem dX0_left_4 : decode cX0_left 4 = .ok (.iload_n 2, 1) := by decide +kernel
theorem dX0_left_5 : decode cX0_left 5 = .ok (.aload_n 0, 1) := by decide +kernel
theorem dX0_left_6 : decode cX0_left 6 = .ok (.getfield 45, 3) := by decide +kernel
theorem dX0_left_9 : decode cX0_left 9 = .ok (.if_icmp .ge 24, 3) := by decide +kernel
theorem dX0_left_12 : decode cX0_left 12 = .ok (.iload_n 1, 1) := by decide +kernel
theorem dX0_left_13 : decode cX0_left 13 = .ok (.aload_n 0, 1) := by decide +kernel
theorem dX0_left_14 : decode cX0_left 14 = .ok (.getfield 52, 3) := by decide +kernel
theorem dX0_left_17 : decode cX0_left 17 = .ok (.iload_n 2, 1) := by decide +kernel
theorem dX0_left_18 : decode cX0_left 18 = .ok (.iaload, 1) := by decide +kernel
theorem dX0_left_19 : decode cX0_left 19 = .ok (.aload_n 0, 1) := by decide +kernel
theorem dX0_left_20 : decode cX0_left 20 = .ok (.iload_n 2, 1) := by decide +kernel
theorem dX0_left_21 : decode cX0_left 21 = .ok (.invokevirtual 85, 3) := by decide +kernel
theorem dX0_left_24 : decode cX0_left 24 = .ok (.iadd, 1) := by decide +kernel
theorem dX0_left_25 : decode cX0_left 25 = .ok (.iadd, 1) := by decide +kernel
theorem dX0_left_26 : decode cX0_left 26 = .ok (.istore_n 1, 1) := by decide +kernel
theorem dX0_left_27 : decode cX0_left 27 = .ok (.iinc 2 1, 3) := by decide +kernel
theorem dX0_left_30 : decode cX0_left 30 = .ok (.goto (-26), 3) := by decide +kernel
theorem dX0_left_33 : decode cX0_left 33 = .ok (.iconst 0, 1) := by decide +kernel
theorem dX0_left_34 : decode cX0_left 34 = .ok (.istore_n 2, 1) := by decide +kernel
theorem dX0_left_35 : decode cX0_left 35 = .ok (.iload_n 2, 1) := by decide +kernel
theorem dX0_left_36 : decode cX0_left 36 = .ok (.aload_n 0, 1) := by decide +kernel
theorem dX0_left_37 : decode cX0_left 37 = .ok (.getfield 9, 3) := by decide +kernel
theorem dX0_left_40 : decode cX0_left 40 = .ok (.if_icmp .ge 18, 3) := by decide +kernel
theorem dX0_left_43 : decode cX0_left 43 = .ok (.iload_n 1, 1) := by decide +kernel
theorem dX0_left_44 : decode cX0_left 44 = .ok (.aload_n 0, 1) := by decide +kernel
theorem dX0_left_45 : decode cX0_left 45 = .ok (.getfield 58, 3) := by decide +kernel
theorem dX0_left_48 : decode cX0_left 48 = .ok (.iload_n 2, 1) := by decide +kernel
theorem dX0_left_49 : decode cX0_left 49 = .ok (.iaload, 1) := by decide +kernel
theorem dX0_left_50 : decode cX0_left 50 = .ok (.iadd, 1) := by decide +kernel
theorem dX0_left_51 : decode cX0_left 51 = .ok (.istore_n 1, 1) := by decide +kernel
theorem dX0_left_52 : decode cX0_left 52 = .ok (.iinc 2 1, 3) := by decide +kernel
theorem dX0_left_55 : decode cX0_left 55 = .ok (.goto (-20), 3) := by decide +kernel
theorem dX0_left_58 : decode cX0_left 58 = .ok (.iload_n 1, 1) := by decide +kernel
theorem dX0_left_59 : decode cX0_left 59 = .ok (.ireturn, 1) := by decide +kernel
def fX0_left_35 : Nat → Int32 → Int32 → SS → Option (Int32 × SS)
  | 0, _, _, _ => none
  | n + 1, x1, x2, s => if (s.1 0 0) ≤ x2 then (some (x1, s)) else (if ixB x2 8 then (fX0_left_35 n (x1 + (s.1 4 x2.toNatClampNeg)) (x2 + (1 : Int32)) s) else none)
def fX0_left_4 : Nat → Int32 → Int32 → SS → Option (Int32 × SS)
  | 0, _, _, _ => none
  | n + 1, x1, x2, s => if (s.1 0 11) ≤ x2 then (fX0_left_35 FU x1 (0 : Int32) s) else (if ixB x2 3 then (((fX0_allWetOf x2 s).bind fun x3 => fX0_left_4 n (x1 + ((s.1 2 x2.toNatClampNeg) + x3.1)) (x2 + (1 : Int32)) x3.2)) else none)
def fX0_left_0 (s : SS) : Option (Int32 × SS) := fX0_left_4 FU (0 : Int32) (0 : Int32) s
def fX0_left (s : SS) : Option (Int32 × SS) := fX0_left_0 s
set_option maxRecDepth 100000 in
set_option maxHeartbeats 4000000 in
theorem okX0_left_35 {G : GG} {pl : Nat → Nat} {h0 : PH} : ∀ (n : Nat) (x1 : Int32) (x2 : Int32) (s : SS), EvF G 2 mX0_left lyC pl h0 rvI (fX0_left_35 n x1 x2 s) 35 [(0, .ref (pl 0)), (1, .int x1), (2, .int x2)] [] s := by
  intro n
  induction n with
  | zero => intro x1 x2 s; rw [fX0_left_35]; exact ef_none
  | succ n ih =>
    intro x1 x2 s
    rw [fX0_left_35]
    refine ef_iload_n (q := 36) 2 dX0_left_35 rfl rfl rfl ?_
    refine ef_aload_n (q := 37) 0 dX0_left_36 rfl rfl rfl ?_
    refine ef_getI (x := s.1 0 0) (q := 40) rfl fl0_9 rfl rfl dX0_left_37 rfl ?_
    refine ef_if (pt := 58) (pf := 43) (fun _ _ => ev_icmp_ge (tgt := 58) dX0_left_40 (by decide)) (fun h1 => ?_) (fun h1 => ?_)
    · refine ef_iload_n (q := 59) 1 dX0_left_58 rfl rfl rfl ?_
      exact ef_iret rfl dX0_left_59
    · refine ef_iload_n (q := 44) 1 dX0_left_43 rfl rfl rfl ?_
      refine ef_aload_n (q := 45) 0 dX0_left_44 rfl rfl rfl ?_
      refine ef_getR (t := 4) (q := 48) rfl fl0_58 rfl rfl dX0_left_45 rfl ?_
      refine ef_iload_n (q := 49) 2 dX0_left_48 rfl rfl rfl ?_
      refine ef_guard (fun g2 => ?_)
      refine ef_iaload (x := s.1 4 x2.toNatClampNeg) (q := 50) rfl g2 dX0_left_49 rfl rfl ?_
      refine ef_iadd (q := 51) dX0_left_50 rfl ?_
      refine ef_istore_n (lv' := [(1, .int (x1 + (s.1 4 x2.toNatClampNeg))), (0, .ref (pl 0)), (2, .int x2)]) (q := 52) dX0_left_51 rfl (by decide) rfl rfl ?_
      refine ef_iinc (v := x2 + (1 : Int32)) (lv' := [(2, .int (x2 + (1 : Int32))), (1, .int (x1 + (s.1 4 x2.toNatClampNeg))), (0, .ref (pl 0))]) (q := 55) 2 dX0_left_52 rfl rfl (by decide) rfl rfl ?_
      refine ef_goto (tgt := 35) dX0_left_55 (by decide) ?_
      refine ef_sub (lv' := [(0, .ref (pl 0)), (1, .int (x1 + (s.1 4 x2.toNatClampNeg))), (2, .int (x2 + (1 : Int32)))]) [2, 1, 0] rfl ?_
      exact ih (x1 + (s.1 4 x2.toNatClampNeg)) (x2 + (1 : Int32)) s
set_option maxRecDepth 100000 in
set_option maxHeartbeats 4000000 in
theorem okX0_left_4 {G : GG} {pl : Nat → Nat} {h0 : PH} : ∀ (n : Nat) (x1 : Int32) (x2 : Int32) (s : SS), EvF G 2 mX0_left lyC pl h0 rvI (fX0_left_4 n x1 x2 s) 4 [(0, .ref (pl 0)), (1, .int x1), (2, .int x2)] [] s := by
  intro n
  induction n with
  | zero => intro x1 x2 s; rw [fX0_left_4]; exact ef_none
  | succ n ih =>
    intro x1 x2 s
    rw [fX0_left_4]
    refine ef_iload_n (q := 5) 2 dX0_left_4 rfl rfl rfl ?_
    refine ef_aload_n (q := 6) 0 dX0_left_5 rfl rfl rfl ?_
    refine ef_getI (x := s.1 0 11) (q := 9) rfl fl0_45 rfl rfl dX0_left_6 rfl ?_
    refine ef_if (pt := 33) (pf := 12) (fun _ _ => ev_icmp_ge (tgt := 33) dX0_left_9 (by decide)) (fun h1 => ?_) (fun h1 => ?_)
    · refine ef_iconst (v := (0 : Int32)) (q := 34) dX0_left_33 (by decide) rfl ?_
      refine ef_istore_n (lv' := [(2, .int (0 : Int32)), (0, .ref (pl 0)), (1, .int x1)]) (q := 35) dX0_left_34 rfl (by decide) rfl rfl ?_
      refine ef_sub (lv' := [(0, .ref (pl 0)), (1, .int x1), (2, .int (0 : Int32))]) [1, 2, 0] rfl ?_
      exact okX0_left_35 FU x1 (0 : Int32) s
    · refine ef_iload_n (q := 13) 1 dX0_left_12 rfl rfl rfl ?_
      refine ef_aload_n (q := 14) 0 dX0_left_13 rfl rfl rfl ?_
      refine ef_getR (t := 2) (q := 17) rfl fl0_52 rfl rfl dX0_left_14 rfl ?_
      refine ef_iload_n (q := 18) 2 dX0_left_17 rfl rfl rfl ?_
      refine ef_guard (fun g2 => ?_)
      refine ef_iaload (x := s.1 2 x2.toNatClampNeg) (q := 19) rfl g2 dX0_left_18 rfl rfl ?_
      refine ef_aload_n (q := 20) 0 dX0_left_19 rfl rfl rfl ?_
      refine ef_iload_n (q := 21) 2 dX0_left_20 rfl rfl rfl ?_
      refine ef_invVI0 (k := 0) (As := [.int x2]) (rest := [.int (s.1 2 x2.toNatClampNeg), .int x1]) (q := 24) (okX0_allWetOf x2) rfl calX0_allWetOf ml0_85 (by decide) rfl rfl rfl (Nat.le_of_ble_eq_true rfl) dX0_left_21 rfl (fun x3 => ?_)
      refine ef_iadd (q := 25) dX0_left_24 rfl ?_
      refine ef_iadd (q := 26) dX0_left_25 rfl ?_
      refine ef_istore_n (lv' := [(1, .int (x1 + ((s.1 2 x2.toNatClampNeg) + x3.1))), (0, .ref (pl 0)), (2, .int x2)]) (q := 27) dX0_left_26 rfl (by decide) rfl rfl ?_
      refine ef_iinc (v := x2 + (1 : Int32)) (lv' := [(2, .int (x2 + (1 : Int32))), (1, .int (x1 + ((s.1 2 x2.toNatClampNeg) + x3.1))), (0, .ref (pl 0))]) (q := 30) 2 dX0_left_27 rfl rfl (by decide) rfl rfl ?_
      refine ef_goto (tgt := 4) dX0_left_30 (by decide) ?_
      refine ef_sub (lv' := [(0, .ref (pl 0)), (1, .int (x1 + ((s.1 2 x2.toNatClampNeg) + x3.1))), (2, .int (x2 + (1 : Int32)))]) [2, 1, 0] rfl ?_
      exact ih (x1 + ((s.1 2 x2.toNatClampNeg) + x3.1)) (x2 + (1 : Int32)) x3.2
set_option maxRecDepth 100000 in
set_option maxHeartbeats 4000000 in
theorem okX0_left_0 {G : GG} {pl : Nat → Nat} {h0 : PH} (s : SS) : EvF G 2 mX0_left lyC pl h0 rvI (fX0_left_0 s) 0 [(0, .ref (pl 0))] [] s := by
  unfold fX0_left_0
  refine ef_iconst (v := (0 : Int32)) (q := 1) dX0_left_0 (by decide) rfl ?_
  refine ef_istore_n (lv' := [(1, .int (0 : Int32)), (0, .ref (pl 0))]) (q := 2) dX0_left_1 rfl (by decide) rfl rfl ?_
  refine ef_iconst (v := (0 : Int32)) (q := 3) dX0_left_2 (by decide) rfl ?_
  refine ef_istore_n (lv' := [(2, .int (0 : Int32)), (1, .int (0 : Int32)), (0, .ref (pl 0))]) (q := 4) dX0_left_3 rfl (by decide) rfl rfl ?_
  refine ef_sub (lv' := [(0, .ref (pl 0)), (1, .int (0 : Int32)), (2, .int (0 : Int32))]) [2, 1, 0] rfl ?_
  exact okX0_left_4 FU (0 : Int32) (0 : Int32) s
theorem okX0_left : MtF 2 mX0_left lyC rvI (fun _ pl => [.ref (pl 0)]) (fX0_left) := by
  refine MtF.of (by decide +kernel) rfl (fun _ pl => Nat.le_of_ble_eq_true rfl) (fun G pl h0 s => ?_)
  refine ef_sub (lv := [(0, .ref (pl 0))]) (lv' := [(0, .ref (pl 0))]) [0] rfl ?_
  exact okX0_left_0  s
-- X0_hasMeltedScoop
theorem dX0_hasMeltedScoop_0 : decode cX0_hasMeltedScoop 0 = .ok (.iconst 0, 1) := by decide +kernel
theorem dX0_hasMeltedScoop_1 : decode cX0_hasMeltedScoop 1 = .ok (.istore_n 1, 1) := by decide +kernel
theorem dX0_hasMeltedScoop_2 : decode cX0_hasMeltedScoop 2 = .ok (.iload_n 1, 1) := by decide +kernel
theorem dX0_hasMeltedScoop_3 : decode cX0_hasMeltedScoop 3 = .ok (.aload_n 0, 1) := by decide +kernel
theorem dX0_hasMeltedScoop_4 : decode cX0_hasMeltedScoop 4 = .ok (.getfield 45, 3) := by decide +kernel
theorem dX0_hasMeltedScoop_7 : decode cX0_hasMeltedScoop 7 = .ok (.if_icmp .ge 20, 3) := by decide +kernel
theorem dX0_hasMeltedScoop_10 : decode cX0_hasMeltedScoop 10 = .ok (.aload_n 0, 1) := by decide +kernel
theorem dX0_hasMeltedScoop_11 : decode cX0_hasMeltedScoop 11 = .ok (.getfield 52, 3) := by decide +kernel
theorem dX0_hasMeltedScoop_14 : decode cX0_hasMeltedScoop 14 = .ok (.iload_n 1, 1) := by decide +kernel
theorem dX0_hasMeltedScoop_15 : decode cX0_hasMeltedScoop 15 = .ok (.iaload, 1) := by decide +kernel
theorem dX0_hasMeltedScoop_16 : decode cX0_hasMeltedScoop 16 = .ok (.ifCond .ne 5, 3) := by decide +kernel
theorem dX0_hasMeltedScoop_19 : decode cX0_hasMeltedScoop 19 = .ok (.iconst 1, 1) := by decide +kernel
theorem dX0_hasMeltedScoop_20 : decode cX0_hasMeltedScoop 20 = .ok (.ireturn, 1) := by decide +kernel
theorem dX0_hasMeltedScoop_21 : decode cX0_hasMeltedScoop 21 = .ok (.iinc 1 1, 3) := by decide +kernel
theorem dX0_hasMeltedScoop_24 : decode cX0_hasMeltedScoop 24 = .ok (.goto (-22), 3) := by decide +kernel
theorem dX0_hasMeltedScoop_27 : decode cX0_hasMeltedScoop 27 = .ok (.iconst 0, 1) := by decide +kernel
theorem dX0_hasMeltedScoop_28 : decode cX0_hasMeltedScoop 28 = .ok (.ireturn, 1) := by decide +kernel
def fX0_hasMeltedScoop_2 : Nat → Int32 → SS → Option (Int32 × SS)
  | 0, _, _ => none
  | n + 1, x1, s => if (s.1 0 11) ≤ x1 then (some ((0 : Int32), s)) else (if ixB x1 3 then (if ¬ (s.1 2 x1.toNatClampNeg) = 0 then (fX0_hasMeltedScoop_2 n (x1 + (1 : Int32)) s) else (some ((1 : Int32), s))) else none)
def fX0_hasMeltedScoop_0 (s : SS) : Option (Int32 × SS) := fX0_hasMeltedScoop_2 FU (0 : Int32) s
def fX0_hasMeltedScoop (s : SS) : Option (Int32 × SS) := fX0_hasMeltedScoop_0 s
set_option maxRecDepth 100000 in
set_option maxHeartbeats 4000000 in
theorem okX0_hasMeltedScoop_2 {G : GG} {pl : Nat → Nat} {h0 : PH} : ∀ (n : Nat) (x1 : Int32) (s : SS), EvF G 0 mX0_hasMeltedScoop lyC pl h0 rvZ (fX0_hasMeltedScoop_2 n x1 s) 2 [(0, .ref (pl 0)), (1, .int x1)] [] s := by
  intro n
  induction n with
  | zero => intro x1 s; rw [fX0_hasMeltedScoop_2]; exact ef_none
  | succ n ih =>
    intro x1 s
    rw [fX0_hasMeltedScoop_2]
    refine ef_iload_n (q := 3) 1 dX0_hasMeltedScoop_2 rfl rfl rfl ?_
    refine ef_aload_n (q := 4) 0 dX0_hasMeltedScoop_3 rfl rfl rfl ?_
    refine ef_getI (x := s.1 0 11) (q := 7) rfl fl0_45 rfl rfl dX0_hasMeltedScoop_4 rfl ?_
    refine ef_if (pt := 27) (pf := 10) (fun _ _ => ev_icmp_ge (tgt := 27) dX0_hasMeltedScoop_7 (by decide)) (fun h1 => ?_) (fun h1 => ?_)
    · refine ef_iconst (v := (0 : Int32)) (q := 28) dX0_hasMeltedScoop_27 (by decide) rfl ?_
      exact ef_zretc (x := (0 : Int32)) (by decide) rfl dX0_hasMeltedScoop_28
    · refine ef_aload_n (q := 11) 0 dX0_hasMeltedScoop_10 rfl rfl rfl ?_
      refine ef_getR (t := 2) (q := 14) rfl fl0_52 rfl rfl dX0_hasMeltedScoop_11 rfl ?_
      refine ef_iload_n (q := 15) 1 dX0_hasMeltedScoop_14 rfl rfl rfl ?_
      refine ef_guard (fun g2 => ?_)
      refine ef_iaload (x := s.1 2 x1.toNatClampNeg) (q := 16) rfl g2 dX0_hasMeltedScoop_15 rfl rfl ?_
      refine ef_if (pt := 21) (pf := 19) (fun _ _ => ev_if_ne (tgt := 21) dX0_hasMeltedScoop_16 (by decide)) (fun h3 => ?_) (fun h3 => ?_)
      · refine ef_iinc (v := x1 + (1 : Int32)) (lv' := [(1, .int (x1 + (1 : Int32))), (0, .ref (pl 0))]) (q := 24) 1 dX0_hasMeltedScoop_21 rfl rfl (by decide) rfl rfl ?_
        refine ef_goto (tgt := 2) dX0_hasMeltedScoop_24 (by decide) ?_
        refine ef_sub (lv' := [(0, .ref (pl 0)), (1, .int (x1 + (1 : Int32)))]) [1, 0] rfl ?_
        exact ih (x1 + (1 : Int32)) s
      · refine ef_iconst (v := (1 : Int32)) (q := 20) dX0_hasMeltedScoop_19 (by decide) rfl ?_
        exact ef_zretc (x := (1 : Int32)) (by decide) rfl dX0_hasMeltedScoop_20
set_option maxRecDepth 100000 in
set_option maxHeartbeats 4000000 in
theorem okX0_hasMeltedScoop_0 {G : GG} {pl : Nat → Nat} {h0 : PH} (s : SS) : EvF G 0 mX0_hasMeltedScoop lyC pl h0 rvZ (fX0_hasMeltedScoop_0 s) 0 [(0, .ref (pl 0))] [] s := by
  unfold fX0_hasMeltedScoop_0
  refine ef_iconst (v := (0 : Int32)) (q := 1) dX0_hasMeltedScoop_0 (by decide) rfl ?_
  refine ef_istore_n (lv' := [(1, .int (0 : Int32)), (0, .ref (pl 0))]) (q := 2) dX0_hasMeltedScoop_1 rfl (by decide) rfl rfl ?_
  refine ef_sub (lv' := [(0, .ref (pl 0)), (1, .int (0 : Int32))]) [1, 0] rfl ?_
  exact okX0_hasMeltedScoop_2 FU (0 : Int32) s
theorem okX0_hasMeltedScoop : MtF 0 mX0_hasMeltedScoop lyC rvZ (fun _ pl => [.ref (pl 0)]) (fX0_hasMeltedScoop) := by
  refine MtF.of (by decide +kernel) rfl (fun _ pl => Nat.le_of_ble_eq_true rfl) (fun G pl h0 s => ?_)
  refine ef_sub (lv := [(0, .ref (pl 0))]) (lv' := [(0, .ref (pl 0))]) [0] rfl ?_
  exact okX0_hasMeltedScoop_0  s
-- X0_wettestSide
theorem dX0_wettestSide_0 : decode cX0_wettestSide 0 = .ok (.iconst 0, 1) := by decide +kernel
theorem dX0_wettestSide_1 : decode cX0_wettestSide 1 = .ok (.istore_n 1, 1) := by decide +kernel
theorem dX0_wettestSide_2 : decode cX0_wettestSide 2 = .ok (.iconst 0, 1) := by decide +kernel
theorem dX0_wettestSide_3 : decode cX0_wettestSide 3 = .ok (.istore_n 2, 1) := by decide +kernel
theorem dX0_wettestSide_4 : decode cX0_wettestSide 4 = .ok (.iconst 0, 1) := by decide +kernel
theorem dX0_wettestSide_5 : decode cX0_wettestSide 5 = .ok (.istore_n 3, 1) := by decide +kernel
theorem dX0_wettestSide_6 : decode cX0_wettestSide 6 = .ok (.iload_n 3, 1) := by decide +kernel
theorem dX0_wettestSide_7 : decode cX0_wettestSide 7 = .ok (.aload_n 0, 1) := by decide +kernel
theorem dX0_wettestSide_8 : decode cX0_wettestSide 8 = .ok (.getfield 9, 3) := by decide +kernel
theorem dX0_wettestSide_11 : decode cX0_wettestSide 11 = .ok (.if_icmp .ge 58, 3) := by decide +kernel
theorem dX0_wettestSide_14 : decode cX0_wettestSide 14 = .ok (.aload_n 0, 1) := by decide +kernel
theorem dX0_wettestSide_15 : decode cX0_wettestSide 15 = .ok (.getfield 58, 3) := by decide +kernel
theorem dX0_wettestSide_18 : decode cX0_wettestSide 18 = .ok (.iload_n 3, 1) := by decide +kernel
theorem dX0_wettestSide_19 : decode cX0_wettestSide 19 = .ok (.iaload, 1) := by decide +kernel
theorem dX0_wettestSide_20 : decode cX0_wettestSide 20 = .ok (.istore 4, 2) := by decide +kernel
theorem dX0_wettestSide_22 : decode cX0_wettestSide 22 = .ok (.iconst 0, 1) := by decide +kernel
theorem dX0_wettestSide_23 : decode cX0_wettestSide 23 = .ok (.istore 5, 2) := by decide +kernel
theorem dX0_wettestSide_25 : decode cX0_wettestSide 25 = .ok (.iload 5, 2) := by decide +kernel
theorem dX0_wettestSide_27 : decode cX0_wettestSide 27 = .ok (.aload_n 0, 1) := by decide +kernel
theorem dX0_wettestSide_28 : decode cX0_wettestSide 28 = .ok (.getfield 45, 3) := by decide +kernel
theorem dX0_wettestSide_31 : decode cX0_wettestSide 31 = .ok (.if_icmp .ge 21, 3) := by decide +kernel
theorem dX0_wettestSide_34 : decode cX0_wettestSide 34 = .ok (.iload 4, 2) := by decide +kernel
theorem dX0_wettestSide_36 : decode cX0_wettestSide 36 = .ok (.aload_n 0, 1) := by decide +kernel
theorem dX0_wettestSide_37 : decode cX0_wettestSide 37 = .ok (.iload 5, 2) := by decide +kernel
theorem dX0_wettestSide_39 : decode cX0_wettestSide 39 = .ok (.iload_n 3, 1) := by decide +kernel
theorem dX0_wettestSide_40 : decode cX0_wettestSide 40 = .ok (.invokevirtual 78, 3) := by decide +kernel
theorem dX0_wettestSide_43 : decode cX0_wettestSide 43 = .ok (.iadd, 1) := by decide +kernel
theorem dX0_wettestSide_44 : decode cX0_wettestSide 44 = .ok (.istore 4, 2) := by decide +kernel
theorem dX0_wettestSide_46 : decode cX0_wettestSide 46 = .ok (.iinc 5 1, 3) := by decide +kernel
theorem dX0_wettestSide_49 : decode cX0_wettestSide 49 = .ok (.goto (-24), 3) := by decide +kernel
theorem dX0_wettestSide_52 : decode cX0_wettestSide 52 = .ok (.iload 4, 2) := by decide +kernel
theorem dX0_wettestSide_54 : decode cX0_wettestSide 54 = .ok (.iload_n 2, 1) := by decide +kernel
theorem dX0_wettestSide_55 : decode cX0_wettestSide 55 = .ok (.if_icmp .le 8, 3) := by decide +kernel
theorem dX0_wettestSide_58 : decode cX0_wettestSide 58 = .ok (.iload_n 3, 1) := by decide +kernel
theorem dX0_wettestSide_59 : decode cX0_wettestSide 59 = .ok (.istore_n 1, 1) := by decide +kernel
theorem dX0_wettestSide_60 : decode cX0_wettestSide 60 = .ok (.iload 4, 2) := by decide +kernel
theorem dX0_wettestSide_62 : decode cX0_wettestSide 62 = .ok (.istore_n 2, 1) := by decide +kernel
theorem dX0_wettestSide_63 : decode cX0_wettestSide 63 = .ok (.iinc 3 1, 3) := by decide +kernel
theorem dX0_wettestSide_66 : decode cX0_wettestSide 66 = .ok (.goto (-60), 3) := by decide +kernel
theorem dX0_wettestSide_69 : decode cX0_wettestSide 69 = .ok (.iload_n 1, 1) := by decide +kernel
theorem dX0_wettestSide_70 : decode cX0_wettestSide 70 = .ok (.ireturn, 1) := by decide +kernel
def fX0_wettestSide_25 (rec_6 : Int32 → Int32 → Int32 → SS → Option (Int32 × SS)) : Nat → Int32 → Int32 → Int32 → Int32 → Int32 → SS → Option (Int32 × SS)
  | 0, _, _, _, _, _, _ => none
  | n + 1, x1, x2, x3, x4, x5, s => if (s.1 0 11) ≤ x5 then (if x4 ≤ x2 then (rec_6 x1 x2 (x3 + (1 : Int32)) s) else (rec_6 x3 x4 (x3 + (1 : Int32)) s)) else (((fX0_wetAt x5 x3 s).bind fun x3 => fX0_wettestSide_25 rec_6 n x1 x2 x3 (x4 + x3.1) (x5 + (1 : Int32)) x3.2))
def fX0_wettestSide_6 : Nat → Int32 → Int32 → Int32 → SS → Option (Int32 × SS)
  | 0, _, _, _, _ => none
  | n + 1, x1, x2, x3, s => if (s.1 0 0) ≤ x3 then (some (x1, s)) else (if ixB x3 8 then (fX0_wettestSide_25 (fX0_wettestSide_6 n) FU x1 x2 x3 (s.1 4 x3.toNatClampNeg) (0 : Int32) s) else none)
def fX0_wettestSide_0 (s : SS) : Option (Int32 × SS) := fX0_wettestSide_6 FU (0 : Int32) (0 : Int32) (0 : Int32) s
def fX0_wettestSide (s : SS) : Option (Int32 × SS) := fX0_wettestSide_0 s
set_option maxRecDepth 100000 in
set_option maxHeartbeats 4000000 in
theorem okX0_wettestSide_25 {G : GG} {pl : Nat → Nat} {h0 : PH} (rec_6 : Int32 → Int32 → Int32 → SS → Option (Int32 × SS)) (hrec_6 : ∀ (x1 : Int32) (x2 : Int32) (x3 : Int32) (s : SS), EvF G 1 mX0_wettestSide lyC pl h0 rvI (rec_6 x1 x2 x3 s) 6 [(0, .ref (pl 0)), (1, .int x1), (2, .int x2), (3, .int x3)] [] s) : ∀ (n : Nat) (x1 : Int32) (x2 : Int32) (x3 : Int32) (x4 : Int32) (x5 : Int32) (s : SS), EvF G 1 mX0_wettestSide lyC pl h0 rvI (fX0_wettestSide_25 rec_6 n x1 x2 x3 x4 x5 s) 25 [(0, .ref (pl 0)), (1, .int x1), (2, .int x2), (3, .int x3), (4, .int x4), (5, .int x5)] [] s := by
  intro n
  induction n with
  | zero => intro x1 x2 x3 x4 x5 s; rw [fX0_wettestSide_25]; exact ef_none
  | succ n ih =>
    intro x1 x2 x3 x4 x5 s
    rw [fX0_wettestSide_25]
    refine ef_iload (q := 27) 5 dX0_wettestSide_25 rfl rfl ?_
    refine ef_aload_n (q := 28) 0 dX0_wettestSide_27 rfl rfl rfl ?_
    refine ef_getI (x := s.1 0 11) (q := 31) rfl fl0_45 rfl rfl dX0_wettestSide_28 rfl ?_
    refine ef_if (pt := 52) (pf := 34) (fun _ _ => ev_icmp_ge (tgt := 52) dX0_wettestSide_31 (by decide)) (fun h1 => ?_) (fun h1 => ?_)
    · refine ef_iload (q := 54) 4 dX0_wettestSide_52 rfl rfl ?_
      refine ef_iload_n (q := 55) 2 dX0_wettestSide_54 rfl rfl rfl ?_
      refine ef_if (pt := 63) (pf := 58) (fun _ _ => ev_icmp_le (tgt := 63) dX0_wettestSide_55 (by decide)) (fun h2 => ?_) (fun h2 => ?_)
      · refine ef_iinc (v := x3 + (1 : Int32)) (lv' := [(3, .int (x3 + (1 : Int32))), (0, .ref (pl 0)), (1, .int x1), (2, .int x2), (4, .int x4), (5, .int x5)]) (q := 66) 3 dX0_wettestSide_63 rfl rfl (by decide) rfl rfl ?_
        refine ef_goto (tgt := 6) dX0_wettestSide_66 (by decide) ?_
        refine ef_sub (lv' := [(0, .ref (pl 0)), (1, .int x1), (2, .int x2), (3, .int (x3 + (1 : Int32)))]) [1, 2, 3, 0] rfl ?_
        exact hrec_6 x1 x2 (x3 + (1 : Int32)) s
      · refine ef_iload_n (q := 59) 3 dX0_wettestSide_58 rfl rfl rfl ?_
        refine ef_istore_n (lv' := [(1, .int x3), (0, .ref (pl 0)), (2, .int x2), (3, .int x3), (4, .int x4), (5, .int x5)]) (q := 60) dX0_wettestSide_59 rfl (by decide) rfl rfl ?_
        refine ef_iload (q := 62) 4 dX0_wettestSide_60 rfl rfl ?_
        refine ef_istore_n (lv' := [(2, .int x4), (1, .int x3), (0, .ref (pl 0)), (3, .int x3), (4, .int x4), (5, .int x5)]) (q := 63) dX0_wettestSide_62 rfl (by decide) rfl rfl ?_
        refine ef_iinc (v := x3 + (1 : Int32)) (lv' := [(3, .int (x3 + (1 : Int32))), (2, .int x4), (1, .int x3), (0, .ref (pl 0)), (4, .int x4), (5, .int x5)]) (q := 66) 3 dX0_wettestSide_63 rfl rfl (by decide) rfl rfl ?_
        refine ef_goto (tgt := 6) dX0_wettestSide_66 (by decide) ?_
        refine ef_sub (lv' := [(0, .ref (pl 0)), (1, .int x3), (2, .int x4), (3, .int (x3 + (1 : Int32)))]) [3, 2, 1, 0] rfl ?_
        exact hrec_6 x3 x4 (x3 + (1 : Int32)) s
    · refine ef_iload (q := 36) 4 dX0_wettestSide_34 rfl rfl ?_
      refine ef_aload_n (q := 37) 0 dX0_wettestSide_36 rfl rfl rfl ?_
      refine ef_iload (q := 39) 5 dX0_wettestSide_37 rfl rfl ?_
      refine ef_iload_n (q := 40) 3 dX0_wettestSide_39 rfl rfl rfl ?_
      refine ef_invVI0 (k := 0) (As := [.int x5, .int x3]) (rest := [.int x4]) (q := 43) (okX0_wetAt x5 x3) rfl calX0_wetAt ml0_78 (by decide) rfl rfl rfl (Nat.le_of_ble_eq_true rfl) dX0_wettestSide_40 rfl (fun x3 => ?_)
      refine ef_iadd (q := 44) dX0_wettestSide_43 rfl ?_
      refine ef_istore (lv' := [(4, .int (x4 + x3.1)), (0, .ref (pl 0)), (1, .int x1), (2, .int x2), (3, .int x3), (5, .int x5)]) (q := 46) dX0_wettestSide_44 (by decide) rfl rfl ?_
      refine ef_iinc (v := x5 + (1 : Int32)) (lv' := [(5, .int (x5 + (1 : Int32))), (4, .int (x4 + x3.1)), (0, .ref (pl 0)), (1, .int x1), (2, .int x2), (3, .int x3)]) (q := 49) 5 dX0_wettestSide_46 rfl rfl (by decide) rfl rfl ?_
      refine ef_goto (tgt := 25) dX0_wettestSide_49 (by decide) ?_
      refine ef_sub (lv' := [(0, .ref (pl 0)), (1, .int x1), (2, .int x2), (3, .int x3), (4, .int (x4 + x3.1)), (5, .int (x5 + (1 : Int32)))]) [2, 3, 4, 5, 1, 0] rfl ?_
      exact ih x1 x2 x3 (x4 + x3.1) (x5 + (1 : Int32)) x3.2
set_option maxRecDepth 100000 in
set_option maxHeartbeats 4000000 in
theorem okX0_wettestSide_6 {G : GG} {pl : Nat → Nat} {h0 : PH} : ∀ (n : Nat) (x1 : Int32) (x2 : Int32) (x3 : Int32) (s : SS), EvF G 1 mX0_wettestSide lyC pl h0 rvI (fX0_wettestSide_6 n x1 x2 x3 s) 6 [(0, .ref (pl 0)), (1, .int x1), (2, .int x2), (3, .int x3)] [] s := by
  intro n
  induction n with
  | zero => intro x1 x2 x3 s; rw [fX0_wettestSide_6]; exact ef_none
  | succ n ih =>
    intro x1 x2 x3 s
    rw [fX0_wettestSide_6]
    refine ef_iload_n (q := 7) 3 dX0_wettestSide_6 rfl rfl rfl ?_
    refine ef_aload_n (q := 8) 0 dX0_wettestSide_7 rfl rfl rfl ?_
    refine ef_getI (x := s.1 0 0) (q := 11) rfl fl0_9 rfl rfl dX0_wettestSide_8 rfl ?_
    refine ef_if (pt := 69) (pf := 14) (fun _ _ => ev_icmp_ge (tgt := 69) dX0_wettestSide_11 (by decide)) (fun h1 => ?_) (fun h1 => ?_)
    · refine ef_iload_n (q := 70) 1 dX0_wettestSide_69 rfl rfl rfl ?_
      exact ef_iret rfl dX0_wettestSide_70
    · refine ef_aload_n (q := 15) 0 dX0_wettestSide_14 rfl rfl rfl ?_
      refine ef_getR (t := 4) (q := 18) rfl fl0_58 rfl rfl dX0_wettestSide_15 rfl ?_
      refine ef_iload_n (q := 19) 3 dX0_wettestSide_18 rfl rfl rfl ?_
      refine ef_guard (fun g2 => ?_)
      refine ef_iaload (x := s.1 4 x3.toNatClampNeg) (q := 20) rfl g2 dX0_wettestSide_19 rfl rfl ?_
      refine ef_istore (lv' := [(4, .int (s.1 4 x3.toNatClampNeg)), (0, .ref (pl 0)), (1, .int x1), (2, .int x2), (3, .int x3)]) (q := 22) dX0_wettestSide_20 (by decide) rfl rfl ?_
      refine ef_iconst (v := (0 : Int32)) (q := 23) dX0_wettestSide_22 (by decide) rfl ?_
      refine ef_istore (lv' := [(5, .int (0 : Int32)), (4, .int (s.1 4 x3.toNatClampNeg)), (0, .ref (pl 0)), (1, .int x1), (2, .int x2), (3, .int x3)]) (q := 25) dX0_wettestSide_23 (by decide) rfl rfl ?_
      refine ef_sub (lv' := [(0, .ref (pl 0)), (1, .int x1), (2, .int x2), (3, .int x3), (4, .int (s.1 4 x3.toNatClampNeg)), (5, .int (0 : Int32))]) [2, 3, 4, 5, 1, 0] rfl ?_
      exact okX0_wettestSide_25 (fX0_wettestSide_6 n) ih FU x1 x2 x3 (s.1 4 x3.toNatClampNeg) (0 : Int32) s
set_option maxRecDepth 100000 in
set_option maxHeartbeats 4000000 in
theorem okX0_wettestSide_0 {G : GG} {pl : Nat → Nat} {h0 : PH} (s : SS) : EvF G 1 mX0_wettestSide lyC pl h0 rvI (fX0_wettestSide_0 s) 0 [(0, .ref (pl 0))] [] s := by
  unfold fX0_wettestSide_0
  refine ef_iconst (v := (0 : Int32)) (q := 1) dX0_wettestSide_0 (by decide) rfl ?_
  refine ef_istore_n (lv' := [(1, .int (0 : Int32)), (0, .ref (pl 0))]) (q := 2) dX0_wettestSide_1 rfl (by decide) rfl rfl ?_
  refine ef_iconst (v := (0 : Int32)) (q := 3) dX0_wettestSide_2 (by decide) rfl ?_
  refine ef_istore_n (lv' := [(2, .int (0 : Int32)), (1, .int (0 : Int32)), (0, .ref (pl 0))]) (q := 4) dX0_wettestSide_3 rfl (by decide) rfl rfl ?_
  refine ef_iconst (v := (0 : Int32)) (q := 5) dX0_wettestSide_4 (by decide) rfl ?_
  refine ef_istore_n (lv' := [(3, .int (0 : Int32)), (2, .int (0 : Int32)), (1, .int (0 : Int32)), (0, .ref (pl 0))]) (q := 6) dX0_wettestSide_5 rfl (by decide) rfl rfl ?_
  refine ef_sub (lv' := [(0, .ref (pl 0)), (1, .int (0 : Int32)), (2, .int (0 : Int32)), (3, .int (0 : Int32))]) [3, 2, 1, 0] rfl ?_
  exact okX0_wettestSide_6 FU (0 : Int32) (0 : Int32) (0 : Int32) s
theorem okX0_wettestSide : MtF 1 mX0_wettestSide lyC rvI (fun _ pl => [.ref (pl 0)]) (fX0_wettestSide) := by
  refine MtF.of (by decide +kernel) rfl (fun _ pl => Nat.le_of_ble_eq_true rfl) (fun G pl h0 s => ?_)
  refine ef_sub (lv := [(0, .ref (pl 0))]) (lv' := [(0, .ref (pl 0))]) [0] rfl ?_
  exact okX0_wettestSide_0  s
-- X0_isWetLower
theorem dX0_isWetLower_0 : decode cX0_isWetLower 0 = .ok (.aload_n 0, 1) := by decide +kernel
theorem dX0_isWetLower_1 : decode cX0_isWetLower 1 = .ok (.getfield 58, 3) := by decide +kernel
theorem dX0_isWetLower_4 : decode cX0_isWetLower 4 = .ok (.iload_n 1, 1) := by decide +kernel
theorem dX0_isWetLower_5 : decode cX0_isWetLower 5 = .ok (.iaload, 1) := by decide +kernel
theorem dX0_isWetLower_6 : decode cX0_isWetLower 6 = .ok (.aload_n 0, 1) := by decide +kernel
theorem dX0_isWetLower_7 : decode cX0_isWetLower 7 = .ok (.getfield 58, 3) := by decide +kernel
theorem dX0_isWetLower_10 : decode cX0_isWetLower 10 = .ok (.iload_n 2, 1) := by decide +kernel
theorem dX0_isWetLower_11 : decode cX0_isWetLower 11 = .ok (.iaload, 1) := by decide +kernel
theorem dX0_isWetLower_12 : decode cX0_isWetLower 12 = .ok (.if_icmp .eq 24, 3) := by decide +kernel
theorem dX0_isWetLower_15 : decode cX0_isWetLower 15 = .ok (.aload_n 0, 1) := by decide +kernel
theorem dX0_isWetLower_16 : decode cX0_isWetLower 16 = .ok (.getfield 58, 3) := by decide +kernel
theorem dX0_isWetLower_19 : decode cX0_isWetLower 19 = .ok (.iload_n 1, 1) := by decide +kernel
theorem dX0_isWetLower_20 : decode cX0_isWetLower 20 = .ok (.iaload, 1) := by decide +kernel
theorem dX0_isWetLower_21 : decode cX0_isWetLower 21 = .ok (.aload_n 0, 1) := by decide +kernel
theorem dX0_isWetLower_22 : decode cX0_isWetLower 22 = .ok (.getfield 58, 3) := by decide +kernel
theorem dX0_isWetLower_25 : decode cX0_isWetLower 25 = .ok (.iload_n 2, 1) := by decide +kernel
theorem dX0_isWetLower_26 : decode cX0_isWetLower 26 = .ok (.iaload, 1) := by decide +kernel
theorem dX0_isWetLower_27 : decode cX0_isWetLower 27 = .ok (.if_icmp .le 7, 3) := by decide +kernel
theorem dX0_isWetLower_30 : decode cX0_isWetLower 30 = .ok (.iconst 1, 1) := by decide +kernel
theorem dX0_isWetLower_31 : decode cX0_isWetLower 31 = .ok (.goto 4, 3) := by decide +kernel
theorem dX0_isWetLower_34 : decode cX0_isWetLower 34 = .ok (.iconst 0, 1) := by decide +kernel
theorem dX0_isWetLower_35 : decode cX0_isWetLower 35 = .ok (.ireturn, 1) := by decide +kernel
theorem dX0_isWetLower_36 : decode cX0_isWetLower 36 = .ok (.iconst 0, 1) := by decide +kernel
theorem dX0_isWetLower_37 : decode cX0_isWetLower 37 = .ok (.istore_n 3, 1) := by decide +kernel
theorem dX0_isWetLower_38 : decode cX0_isWetLower 38 = .ok (.iload_n 3, 1) := by decide +kernel
theorem dX0_isWetLower_39 : decode cX0_isWetLower 39 = .ok (.aload_n 0, 1) := by decide +kernel
theorem dX0_isWetLower_40 : decode cX0_isWetLower 40 = .ok (.getfield 45, 3) := by decide +kernel
theorem dX0_isWetLower_43 : decode cX0_isWetLower 43 = .ok (.if_icmp .ge 45, 3) := by decide +kernel
theorem dX0_isWetLower_46 : decode cX0_isWetLower 46 = .ok (.aload_n 0, 1) := by decide +kernel
theorem dX0_isWetLower_47 : decode cX0_isWetLower 47 = .ok (.iload_n 3, 1) := by decide +kernel
theorem dX0_isWetLower_48 : decode cX0_isWetLower 48 = .ok (.iload_n 1, 1) := by decide +kernel
theorem dX0_isWetLower_49 : decode cX0_isWetLower 49 = .ok (.invokevirtual 78, 3) := by decide +kernel
theorem dX0_isWetLower_52 : decode cX0_isWetLower 52 = .ok (.aload_n 0, 1) := by decide +kernel
theorem dX0_isWetLower_53 : decode cX0_isWetLower 53 = .ok (.iload_n 3, 1) := by decide +kernel
theorem dX0_isWetLower_54 : decode cX0_isWetLower 54 = .ok (.iload_n 2, 1) := by decide +kernel
theorem dX0_isWetLower_55 : decode cX0_isWetLower 55 = .ok (.invokevirtual 78, 3) := by decide +kernel
theorem dX0_isWetLower_58 : decode cX0_isWetLower 58 = .ok (.if_icmp .eq 24, 3) := by decide +kernel
theorem dX0_isWetLower_61 : decode cX0_isWetLower 61 = .ok (.aload_n 0, 1) := by decide +kernel
theorem dX0_isWetLower_62 : decode cX0_isWetLower 62 = .ok (.iload_n 3, 1) := by decide +kernel
theorem dX0_isWetLower_63 : decode cX0_isWetLower 63 = .ok (.iload_n 1, 1) := by decide +kernel
theorem dX0_isWetLower_64 : decode cX0_isWetLower 64 = .ok (.invokevirtual 78, 3) := by decide +kernel
theorem dX0_isWetLower_67 : decode cX0_isWetLower 67 = .ok (.aload_n 0, 1) := by decide +kernel
theorem dX0_isWetLower_68 : decode cX0_isWetLower 68 = .ok (.iload_n 3, 1) := by decide +kernel
theorem dX0_isWetLower_69 : decode cX0_isWetLower 69 = .ok (.iload_n 2, 1) := by decide +kernel
theorem dX0_isWetLower_70 : decode cX0_isWetLower 70 = .ok (.invokevirtual 78, 3) := by decide +kernel
theorem dX0_isWetLower_73 : decode cX0_isWetLower 73 = .ok (.if_icmp .le 7, 3) := by decide +kernel
theorem dX0_isWetLower_76 : decode cX0_isWetLower 76 = .ok (.iconst 1, 1) := by decide +kernel
theorem dX0_isWetLower_77 : decode cX0_isWetLower 77 = .ok (.goto 4, 3) := by decide +kernel
theorem dX0_isWetLower_80 : decode cX0_isWetLower 80 = .ok (.iconst 0, 1) := by decide +kernel
theorem dX0_isWetLower_81 : decode cX0_isWetLower 81 = .ok (.ireturn, 1) := by decide +kernel
theorem dX0_isWetLower_82 : decode cX0_isWetLower 82 = .ok (.iinc 3 1, 3) := by decide +kernel
theorem dX0_isWetLower_85 : decode cX0_isWetLower 85 = .ok (.goto (-47), 3) := by decide +kernel
theorem dX0_isWetLower_88 : decode cX0_isWetLower 88 = .ok (.iconst 0, 1) := by decide +kernel
theorem dX0_isWetLower_89 : decode cX0_isWetLower 89 = .ok (.ireturn, 1) := by decide +kernel
def fX0_isWetLower_38 : Nat → Int32 → Int32 → Int32 → SS → Option (Int32 × SS)
  | 0, _, _, _, _ => none
  | n + 1, x1, x2, x3, s => if (s.1 0 11) ≤ x3 then (some ((0 : Int32), s)) else (((fX0_wetAt x3 x1 s).bind fun x2 => ((fX0_wetAt x3 x2 x2.2).bind fun x3 => if x2.1 = x3.1 then (fX0_isWetLower_38 n x1 x2 (x3 + (1 : Int32)) x3.2) else (((fX0_wetAt x3 x1 x3.2).bind fun x5 => ((fX0_wetAt x3 x2 x5.2).bind fun x6 => if x5.1 ≤ x6.1 then (some ((0 : Int32), x6.2)) else (some ((1 : Int32), x6.2))))))))
def fX0_isWetLower_0 (x1 : Int32) (x2 : Int32) (s : SS) : Option (Int32 × SS) := if ixB x1 8 then (if ixB x2 8 then (if (s.1 4 x1.toNatClampNeg) = (s.1 4 x2.toNatClampNeg) then (fX0_isWetLower_38 FU x1 x2 (0 : Int32) s) else (if ixB x1 8 then (if ixB x2 8 then (if (s.1 4 x1.toNatClampNeg) ≤ (s.1 4 x2.toNatClampNeg) then (some ((0 : Int32), s)) else (some ((1 : Int32), s))) else none) else none)) else none) else none
def fX0_isWetLower (x1 : Int32) (x2 : Int32) (s : SS) : Option (Int32 × SS) := fX0_isWetLower_0 x1 x2 s
set_option maxRecDepth 100000 in
set_option maxHeartbeats 4000000 in
theorem okX0_isWetLower_38 {G : GG} {pl : Nat → Nat} {h0 : PH} : ∀ (n : Nat) (x1 : Int32) (x2 : Int32) (x3 : Int32) (s : SS), EvF G 1 mX0_isWetLower lyC pl h0 rvZ (fX0_isWetLower_38 n x1 x2 x3 s) 38 [(0, .ref (pl 0)), (1, .int x1), (2, .int x2), (3, .int x3)] [] s := by
  intro n
  induction n with
  | zero => intro x1 x2 x3 s; rw [fX0_isWetLower_38]; exact ef_none
  | succ n ih =>
    intro x1 x2 x3 s
    rw [fX0_isWetLower_38]
    refine ef_iload_n (q := 39) 3 dX0_isWetLower_38 rfl rfl rfl ?_
    refine ef_aload_n (q := 40) 0 dX0_isWetLower_39 rfl rfl rfl ?_
    refine ef_getI (x := s.1 0 11) (q := 43) rfl fl0_45 rfl rfl dX0_isWetLower_40 rfl ?_
    refine ef_if (pt := 88) (pf := 46) (fun _ _ => ev_icmp_ge (tgt := 88) dX0_isWetLower_43 (by decide)) (fun h1 => ?_) (fun h1 => ?_)
    · refine ef_iconst (v := (0 : Int32)) (q := 89) dX0_isWetLower_88 (by decide) rfl ?_
      exact ef_zretc (x := (0 : Int32)) (by decide) rfl dX0_isWetLower_89
    · refine ef_aload_n (q := 47) 0 dX0_isWetLower_46 rfl rfl rfl ?_
      refine ef_iload_n (q := 48) 3 dX0_isWetLower_47 rfl rfl rfl ?_
      refine ef_iload_n (q := 49) 1 dX0_isWetLower_48 rfl rfl rfl ?_
      refine ef_invVI0 (k := 0) (As := [.int x3, .int x1]) (rest := []) (q := 52) (okX0_wetAt x3 x1) rfl calX0_wetAt ml0_78 (by decide) rfl rfl rfl (Nat.le_of_ble_eq_true rfl) dX0_isWetLower_49 rfl (fun x2 => ?_)
      refine ef_aload_n (q := 53) 0 dX0_isWetLower_52 rfl rfl rfl ?_
      refine ef_iload_n (q := 54) 3 dX0_isWetLower_53 rfl rfl rfl ?_
      refine ef_iload_n (q := 55) 2 dX0_isWetLower_54 rfl rfl rfl ?_
      refine ef_invVI0 (k := 0) (As := [.int x3, .int x2]) (rest := [.int x2.1]) (q := 58) (okX0_wetAt x3 x2) rfl calX0_wetAt ml0_78 (by decide) rfl rfl rfl (Nat.le_of_ble_eq_true rfl) dX0_isWetLower_55 rfl (fun x3 => ?_)
      refine ef_if (pt := 82) (pf := 61) (fun _ _ => ev_icmp_eq (tgt := 82) dX0_isWetLower_58 (by decide)) (fun h4 => ?_) (fun h4 => ?_)
      · refine ef_iinc (v := x3 + (1 : Int32)) (lv' := [(3, .int (x3 + (1 : Int32))), (0, .ref (pl 0)), (1, .int x1), (2, .int x2)]) (q := 85) 3 dX0_isWetLower_82 rfl rfl (by decide) rfl rfl ?_
        refine ef_goto (tgt := 38) dX0_isWetLower_85 (by decide) ?_
        refine ef_sub (lv' := [(0, .ref (pl 0)), (1, .int x1), (2, .int x2), (3, .int (x3 + (1 : Int32)))]) [1, 2, 3, 0] rfl ?_
        exact ih x1 x2 (x3 + (1 : Int32)) x3.2
      · refine ef_aload_n (q := 62) 0 dX0_isWetLower_61 rfl rfl rfl ?_
        refine ef_iload_n (q := 63) 3 dX0_isWetLower_62 rfl rfl rfl ?_
        refine ef_iload_n (q := 64) 1 dX0_isWetLower_63 rfl rfl rfl ?_
        refine ef_invVI0 (k := 0) (As := [.int x3, .int x1]) (rest := []) (q := 67) (okX0_wetAt x3 x1) rfl calX0_wetAt ml0_78 (by decide) rfl rfl rfl (Nat.le_of_ble_eq_true rfl) dX0_isWetLower_64 rfl (fun x5 => ?_)
        refine ef_aload_n (q := 68) 0 dX0_isWetLower_67 rfl rfl rfl ?_
        refine ef_iload_n (q := 69) 3 dX0_isWetLower_68 rfl rfl rfl ?_
        refine ef_iload_n (q := 70) 2 dX0_isWetLower_69 rfl rfl rfl ?_
        refine ef_invVI0 (k := 0) (As := [.int x3, .int x2]) (rest := [.int x5.1]) (q := 73) (okX0_wetAt x3 x2) rfl calX0_wetAt ml0_78 (by decide) rfl rfl rfl (Nat.le_of_ble_eq_true rfl) dX0_isWetLower_70 rfl (fun x6 => ?_)
        refine ef_if (pt := 80) (pf := 76) (fun _ _ => ev_icmp_le (tgt := 80) dX0_isWetLower_73 (by decide)) (fun h7 => ?_) (fun h7 => ?_)
        · refine ef_iconst (v := (0 : Int32)) (q := 81) dX0_isWetLower_80 (by decide) rfl ?_
          exact ef_zretc (x := (0 : Int32)) (by decide) rfl dX0_isWetLower_81
        · refine ef_iconst (v := (1 : Int32)) (q := 77) dX0_isWetLower_76 (by decide) rfl ?_
          refine ef_goto (tgt := 81) dX0_isWetLower_77 (by decide) ?_
          exact ef_zretc (x := (1 : Int32)) (by decide) rfl dX0_isWetLower_81
set_option maxRecDepth 100000 in
set_option maxHeartbeats 4000000 in
theorem okX0_isWetLower_0 {G : GG} {pl : Nat → Nat} {h0 : PH} (x1 : Int32) (x2 : Int32) (s : SS) : EvF G 1 mX0_isWetLower lyC pl h0 rvZ (fX0_isWetLower_0 x1 x2 s) 0 [(0, .ref (pl 0)), (1, .int x1), (2, .int x2)] [] s := by
  unfold fX0_isWetLower_0
  refine ef_aload_n (q := 1) 0 dX0_isWetLower_0 rfl rfl rfl ?_
  refine ef_getR (t := 4) (q := 4) rfl fl0_58 rfl rfl dX0_isWetLower_1 rfl ?_
  refine ef_iload_n (q := 5) 1 dX0_isWetLower_4 rfl rfl rfl ?_
  refine ef_guard (fun g1 => ?_)
  refine ef_iaload (x := s.1 4 x1.toNatClampNeg) (q := 6) rfl g1 dX0_isWetLower_5 rfl rfl ?_
  refine ef_aload_n (q := 7) 0 dX0_isWetLower_6 rfl rfl rfl ?_
  refine ef_getR (t := 4) (q := 10) rfl fl0_58 rfl rfl dX0_isWetLower_7 rfl ?_
  refine ef_iload_n (q := 11) 2 dX0_isWetLower_10 rfl rfl rfl ?_
  refine ef_guard (fun g2 => ?_)
  refine ef_iaload (x := s.1 4 x2.toNatClampNeg) (q := 12) rfl g2 dX0_isWetLower_11 rfl rfl ?_
  refine ef_if (pt := 36) (pf := 15) (fun _ _ => ev_icmp_eq (tgt := 36) dX0_isWetLower_12 (by decide)) (fun h3 => ?_) (fun h3 => ?_)
  · refine ef_iconst (v := (0 : Int32)) (q := 37) dX0_isWetLower_36 (by decide) rfl ?_
    refine ef_istore_n (lv' := [(3, .int (0 : Int32)), (0, .ref (pl 0)), (1, .int x1), (2, .int x2)]) (q := 38) dX0_isWetLower_37 rfl (by decide) rfl rfl ?_
    refine ef_sub (lv' := [(0, .ref (pl 0)), (1, .int x1), (2, .int x2), (3, .int (0 : Int32))]) [1, 2, 3, 0] rfl ?_
    exact okX0_isWetLower_38 FU x1 x2 (0 : Int32) s
  · refine ef_aload_n (q := 16) 0 dX0_isWetLower_15 rfl rfl rfl ?_
    refine ef_getR (t := 4) (q := 19) rfl fl0_58 rfl rfl dX0_isWetLower_16 rfl ?_
    refine ef_iload_n (q := 20) 1 dX0_isWetLower_19 rfl rfl rfl ?_
    refine ef_guard (fun g4 => ?_)
    refine ef_iaload (x := s.1 4 x1.toNatClampNeg) (q := 21) rfl g4 dX0_isWetLower_20 rfl rfl ?_
    refine ef_aload_n (q := 22) 0 dX0_isWetLower_21 rfl rfl rfl ?_
    refine ef_getR (t := 4) (q := 25) rfl fl0_58 rfl rfl dX0_isWetLower_22 rfl ?_
    refine ef_iload_n (q := 26) 2 dX0_isWetLower_25 rfl rfl rfl ?_
    refine ef_guard (fun g5 => ?_)
    refine ef_iaload (x := s.1 4 x2.toNatClampNeg) (q := 27) rfl g5 dX0_isWetLower_26 rfl rfl ?_
    refine ef_if (pt := 34) (pf := 30) (fun _ _ => ev_icmp_le (tgt := 34) dX0_isWetLower_27 (by decide)) (fun h6 => ?_) (fun h6 => ?_)
    · refine ef_iconst (v := (0 : Int32)) (q := 35) dX0_isWetLower_34 (by decide) rfl ?_
      exact ef_zretc (x := (0 : Int32)) (by decide) rfl dX0_isWetLower_35
    · refine ef_iconst (v := (1 : Int32)) (q := 31) dX0_isWetLower_30 (by decide) rfl ?_
      refine ef_goto (tgt := 35) dX0_isWetLower_31 (by decide) ?_
      exact ef_zretc (x := (1 : Int32)) (by decide) rfl dX0_isWetLower_35
theorem okX0_isWetLower (x1 : Int32) (x2 : Int32) : MtF 1 mX0_isWetLower lyC rvZ (fun _ pl => [.ref (pl 0), .int x1, .int x2]) (fX0_isWetLower x1 x2) := by
  refine MtF.of (by decide +kernel) rfl (fun _ pl => Nat.le_of_ble_eq_true rfl) (fun G pl h0 s => ?_)
  refine ef_sub (lv := [(0, .ref (pl 0)), (1, .int x1), (2, .int x2)]) (lv' := [(0, .ref (pl 0)), (1, .int x1), (2, .int x2)]) [0, 1, 2] rfl ?_
  exact okX0_isWetLower_0  x1 x2 s
-- X0_lowestWetSide
theorem dX0_lowestWetSide_0 : decode cX0_lowestWetSide 0 = .ok (.iconst 0, 1) := by decide +kernel
theorem dX0_lowestWetSide_1 : decode cX0_lowestWetSide 1 = .ok (.istore_n 1, 1) := by decide +kernel
theorem dX0_lowestWetSide_2 : decode cX0_lowestWetSide 2 = .ok (.iconst 1, 1) := by decide +kernel
theorem dX0_lowestWetSide_3 : decode cX0_lowestWetSide 3 = .ok (.istore_n 2, 1) := by decide +kernel
theorem dX0_lowestWetSide_4 : decode cX0_lowestWetSide 4 = .ok (.iload_n 2, 1) := by decide +kernel
theorem dX0_lowestWetSide_5 : decode cX0_lowestWetSide 5 = .ok (.aload_n 0, 1) := by decide +kernel
theorem dX0_lowestWetSide_6 : decode cX0_lowestWetSide 6 = .ok (.getfield 9, 3) := by decide +kernel
theorem dX0_lowestWetSide_9 : decode cX0_lowestWetSide 9 = .ok (.if_icmp .ge 20, 3) := by decide +kernel
theorem dX0_lowestWetSide_12 : decode cX0_lowestWetSide 12 = .ok (.aload_n 0, 1) := by decide +kernel
theorem dX0_lowestWetSide_13 : decode cX0_lowestWetSide 13 = .ok (.iload_n 2, 1) := by decide +kernel
theorem dX0_lowestWetSide_14 : decode cX0_lowestWetSide 14 = .ok (.iload_n 1, 1) := by decide +kernel
theorem dX0_lowestWetSide_15 : decode cX0_lowestWetSide 15 = .ok (.invokevirtual 89, 3) := by decide +kernel
theorem dX0_lowestWetSide_18 : decode cX0_lowestWetSide 18 = .ok (.ifCond .eq 5, 3) := by decide +kernel
theorem dX0_lowestWetSide_21 : decode cX0_lowestWetSide 21 = .ok (.iload_n 2, 1) := by decide +kernel
theorem dX0_lowestWetSide_22 : decode cX0_lowestWetSide 22 = .ok (.istore_n 1, 1) := by decide +kernel
theorem dX0_lowestWetSide_23 : decode cX0_lowestWetSide 23 = .ok (.iinc 2 1, 3) := by decide +kernel
theorem dX0_lowestWetSide_26 : decode cX0_lowestWetSide 26 = .ok (.goto (-22), 3) := by decide +kernel
theorem dX0_lowestWetSide_29 : decode cX0_lowestWetSide 29 = .ok (.iload_n 1, 1) := by decide +kernel
theorem dX0_lowestWetSide_30 : decode cX0_lowestWetSide 30 = .ok (.ireturn, 1) := by decide +kernel
def fX0_lowestWetSide_4 : Nat → Int32 → Int32 → SS → Option (Int32 × SS)
  | 0, _, _, _ => none
  | n + 1, x1, x2, s => if (s.1 0 0) ≤ x2 then (some (x1, s)) else (((fX0_isWetLower x2 x1 s).bind fun x2 => if x2.1 = 0 then (fX0_lowestWetSide_4 n x1 (x2 + (1 : Int32)) x2.2) else (fX0_lowestWetSide_4 n x2 (x2 + (1 : Int32)) x2.2)))
def fX0_lowestWetSide_0 (s : SS) : Option (Int32 × SS) := fX0_lowestWetSide_4 FU (0 : Int32) (1 : Int32) s
def fX0_lowestWetSide (s : SS) : Option (Int32 × SS) := fX0_lowestWetSide_0 s
set_option maxRecDepth 100000 in
set_option maxHeartbeats 4000000 in
theorem okX0_lowestWetSide_4 {G : GG} {pl : Nat → Nat} {h0 : PH} : ∀ (n : Nat) (x1 : Int32) (x2 : Int32) (s : SS), EvF G 2 mX0_lowestWetSide lyC pl h0 rvI (fX0_lowestWetSide_4 n x1 x2 s) 4 [(0, .ref (pl 0)), (1, .int x1), (2, .int x2)] [] s := by
  intro n
  induction n with
  | zero => intro x1 x2 s; rw [fX0_lowestWetSide_4]; exact ef_none
  | succ n ih =>
    intro x1 x2 s
    rw [fX0_lowestWetSide_4]
    refine ef_iload_n (q := 5) 2 dX0_lowestWetSide_4 rfl rfl rfl ?_
    refine ef_aload_n (q := 6) 0 dX0_lowestWetSide_5 rfl rfl rfl ?_
    refine ef_getI (x := s.1 0 0) (q := 9) rfl fl0_9 rfl rfl dX0_lowestWetSide_6 rfl ?_
    refine ef_if (pt := 29) (pf := 12) (fun _ _ => ev_icmp_ge (tgt := 29) dX0_lowestWetSide_9 (by decide)) (fun h1 => ?_) (fun h1 => ?_)
    · refine ef_iload_n (q := 30) 1 dX0_lowestWetSide_29 rfl rfl rfl ?_
      exact ef_iret rfl dX0_lowestWetSide_30
    · refine ef_aload_n (q := 13) 0 dX0_lowestWetSide_12 rfl rfl rfl ?_
      refine ef_iload_n (q := 14) 2 dX0_lowestWetSide_13 rfl rfl rfl ?_
      refine ef_iload_n (q := 15) 1 dX0_lowestWetSide_14 rfl rfl rfl ?_
      refine ef_invVI0 (k := 0) (As := [.int x2, .int x1]) (rest := []) (q := 18) (okX0_isWetLower x2 x1) rfl calX0_isWetLower ml0_89 (by decide) rfl rfl rfl (Nat.le_of_ble_eq_true rfl) dX0_lowestWetSide_15 rfl (fun x2 => ?_)
      refine ef_if (pt := 23) (pf := 21) (fun _ _ => ev_if_eq (tgt := 23) dX0_lowestWetSide_18 (by decide)) (fun h3 => ?_) (fun h3 => ?_)
      · refine ef_iinc (v := x2 + (1 : Int32)) (lv' := [(2, .int (x2 + (1 : Int32))), (0, .ref (pl 0)), (1, .int x1)]) (q := 26) 2 dX0_lowestWetSide_23 rfl rfl (by decide) rfl rfl ?_
        refine ef_goto (tgt := 4) dX0_lowestWetSide_26 (by decide) ?_
        refine ef_sub (lv' := [(0, .ref (pl 0)), (1, .int x1), (2, .int (x2 + (1 : Int32)))]) [1, 2, 0] rfl ?_
        exact ih x1 (x2 + (1 : Int32)) x2.2
      · refine ef_iload_n (q := 22) 2 dX0_lowestWetSide_21 rfl rfl rfl ?_
        refine ef_istore_n (lv' := [(1, .int x2), (0, .ref (pl 0)), (2, .int x2)]) (q := 23) dX0_lowestWetSide_22 rfl (by decide) rfl rfl ?_
        refine ef_iinc (v := x2 + (1 : Int32)) (lv' := [(2, .int (x2 + (1 : Int32))), (1, .int x2), (0, .ref (pl 0))]) (q := 26) 2 dX0_lowestWetSide_23 rfl rfl (by decide) rfl rfl ?_
        refine ef_goto (tgt := 4) dX0_lowestWetSide_26 (by decide) ?_
        refine ef_sub (lv' := [(0, .ref (pl 0)), (1, .int x2), (2, .int (x2 + (1 : Int32)))]) [2, 1, 0] rfl ?_
        exact ih x2 (x2 + (1 : Int32)) x2.2
set_option maxRecDepth 100000 in
set_option maxHeartbeats 4000000 in
theorem okX0_lowestWetSide_0 {G : GG} {pl : Nat → Nat} {h0 : PH} (s : SS) : EvF G 2 mX0_lowestWetSide lyC pl h0 rvI (fX0_lowestWetSide_0 s) 0 [(0, .ref (pl 0))] [] s := by
  unfold fX0_lowestWetSide_0
  refine ef_iconst (v := (0 : Int32)) (q := 1) dX0_lowestWetSide_0 (by decide) rfl ?_
  refine ef_istore_n (lv' := [(1, .int (0 : Int32)), (0, .ref (pl 0))]) (q := 2) dX0_lowestWetSide_1 rfl (by decide) rfl rfl ?_
  refine ef_iconst (v := (1 : Int32)) (q := 3) dX0_lowestWetSide_2 (by decide) rfl ?_
  refine ef_istore_n (lv' := [(2, .int (1 : Int32)), (1, .int (0 : Int32)), (0, .ref (pl 0))]) (q := 4) dX0_lowestWetSide_3 rfl (by decide) rfl rfl ?_
  refine ef_sub (lv' := [(0, .ref (pl 0)), (1, .int (0 : Int32)), (2, .int (1 : Int32))]) [2, 1, 0] rfl ?_
  exact okX0_lowestWetSide_4 FU (0 : Int32) (1 : Int32) s
theorem okX0_lowestWetSide : MtF 2 mX0_lowestWetSide lyC rvI (fun _ pl => [.ref (pl 0)]) (fX0_lowestWetSide) := by
  refine MtF.of (by decide +kernel) rfl (fun _ pl => Nat.le_of_ble_eq_true rfl) (fun G pl h0 s => ?_)
  refine ef_sub (lv := [(0, .ref (pl 0))]) (lv' := [(0, .ref (pl 0))]) [0] rfl ?_
  exact okX0_lowestWetSide_0  s
-- X0_canDo
theorem dX0_canDo_0 : decode cX0_canDo 0 = .ok (.iload_n 1, 1) := by decide +kernel
theorem dX0_canDo_1 : decode cX0_canDo 1 = .ok (.iconst 1, 1) := by decide +kernel
theorem dX0_canDo_2 : decode cX0_canDo 2 = .ok (.if_icmp .lt 18, 3) := by decide +kernel
theorem dX0_canDo_5 : decode cX0_canDo 5 = .ok (.iload_n 1, 1) := by decide +kernel
theorem dX0_canDo_6 : decode cX0_canDo 6 = .ok (.iconst 4, 1) := by decide +kernel
theorem dX0_canDo_7 : decode cX0_canDo 7 = .ok (.if_icmp .ge 13, 3) := by decide +kernel
theorem dX0_canDo_10 : decode cX0_canDo 10 = .ok (.iload_n 1, 1) := by decide +kernel
theorem dX0_canDo_11 : decode cX0_canDo 11 = .ok (.iconst 1, 1) := by decide +kernel
theorem dX0_canDo_12 : decode cX0_canDo 12 = .ok (.isub, 1) := by decide +kernel
theorem dX0_canDo_13 : decode cX0_canDo 13 = .ok (.aload_n 0, 1) := by decide +kernel
theorem dX0_canDo_14 : decode cX0_canDo 14 = .ok (.getfield 45, 3) := by decide +kernel
theorem dX0_canDo_17 : decode cX0_canDo 17 = .ok (.if_icmp .ge 7, 3) := by decide +kernel
theorem dX0_canDo_20 : decode cX0_canDo 20 = .ok (.iconst 1, 1) := by decide +kernel
theorem dX0_canDo_21 : decode cX0_canDo 21 = .ok (.goto 4, 3) := by decide +kernel
theorem dX0_canDo_24 : decode cX0_canDo 24 = .ok (.iconst 0, 1) := by decide +kernel
theorem dX0_canDo_25 : decode cX0_canDo 25 = .ok (.ireturn, 1) := by decide +kernel
def fX0_canDo_0 (x1 : Int32) (s : SS) : Option (Int32 × SS) := if x1 < (1 : Int32) then (some ((1 : Int32), s)) else (if (4 : Int32) ≤ x1 then (some ((1 : Int32), s)) else (if (s.1 0 11) ≤ (x1 - (1 : Int32)) then (some ((0 : Int32), s)) else (some ((1 : Int32), s))))
def fX0_canDo (x1 : Int32) (s : SS) : Option (Int32 × SS) := fX0_canDo_0 x1 s
set_option maxRecDepth 100000 in
set_option maxHeartbeats 4000000 in
theorem okX0_canDo_0 {G : GG} {pl : Nat → Nat} {h0 : PH} (x1 : Int32) (s : SS) : EvF G 0 mX0_canDo lyC pl h0 rvZ (fX0_canDo_0 x1 s) 0 [(0, .ref (pl 0)), (1, .int x1)] [] s := by
  unfold fX0_canDo_0
  refine ef_iload_n (q := 1) 1 dX0_canDo_0 rfl rfl rfl ?_
  refine ef_iconst (v := (1 : Int32)) (q := 2) dX0_canDo_1 (by decide) rfl ?_
  refine ef_if (pt := 20) (pf := 5) (fun _ _ => ev_icmp_lt (tgt := 20) dX0_canDo_2 (by decide)) (fun h1 => ?_) (fun h1 => ?_)
  · refine ef_iconst (v := (1 : Int32)) (q := 21) dX0_canDo_20 (by decide) rfl ?_
    refine ef_goto (tgt := 25) dX0_canDo_21 (by decide) ?_
    exact ef_zretc (x := (1 : Int32)) (by decide) rfl dX0_canDo_25
  · refine ef_iload_n (q := 6) 1 dX0_canDo_5 rfl rfl rfl ?_
    refine ef_iconst (v := (4 : Int32)) (q := 7) dX0_canDo_6 (by decide) rfl ?_
    refine ef_if (pt := 20) (pf := 10) (fun _ _ => ev_icmp_ge (tgt := 20) dX0_canDo_7 (by decide)) (fun h2 => ?_) (fun h2 => ?_)
    · refine ef_iconst (v := (1 : Int32)) (q := 21) dX0_canDo_20 (by decide) rfl ?_
      refine ef_goto (tgt := 25) dX0_canDo_21 (by decide) ?_
      exact ef_zretc (x := (1 : Int32)) (by decide) rfl dX0_canDo_25
    · refine ef_iload_n (q := 11) 1 dX0_canDo_10 rfl rfl rfl ?_
      refine ef_iconst (v := (1 : Int32)) (q := 12) dX0_canDo_11 (by decide) rfl ?_
      refine ef_isub (q := 13) dX0_canDo_12 rfl ?_
      refine ef_aload_n (q := 14) 0 dX0_canDo_13 rfl rfl rfl ?_
      refine ef_getI (x := s.1 0 11) (q := 17) rfl fl0_45 rfl rfl dX0_canDo_14 rfl ?_
      refine ef_if (pt := 24) (pf := 20) (fun _ _ => ev_icmp_ge (tgt := 24) dX0_canDo_17 (by decide)) (fun h3 => ?_) (fun h3 => ?_)
      · refine ef_iconst (v := (0 : Int32)) (q := 25) dX0_canDo_24 (by decide) rfl ?_
        exact ef_zretc (x := (0 : Int32)) (by decide) rfl dX0_canDo_25
      · refine ef_iconst (v := (1 : Int32)) (q := 21) dX0_canDo_20 (by decide) rfl ?_
        refine ef_goto (tgt := 25) dX0_canDo_21 (by decide) ?_
        exact ef_zretc (x := (1 : Int32)) (by decide) rfl dX0_canDo_25
theorem okX0_canDo (x1 : Int32) : MtF 0 mX0_canDo lyC rvZ (fun _ pl => [.ref (pl 0), .int x1]) (fX0_canDo x1) := by
  refine MtF.of (by decide +kernel) rfl (fun _ pl => Nat.le_of_ble_eq_true rfl) (fun G pl h0 s => ?_)
  refine ef_sub (lv := [(0, .ref (pl 0)), (1, .int x1)]) (lv' := [(0, .ref (pl 0)), (1, .int x1)]) [0, 1] rfl ?_
  exact okX0_canDo_0  x1 s
-- X0_isIdle
theorem dX0_isIdle_0 : decode cX0_isIdle 0 = .ok (.iload_n 1, 1) := by decide +kernel
theorem dX0_isIdle_1 : decode cX0_isIdle 1 = .ok (.iconst 1, 1) := by decide +kernel
theorem dX0_isIdle_2 : decode cX0_isIdle 2 = .ok (.if_icmp .lt 8, 3) := by decide +kernel
theorem dX0_isIdle_5 : decode cX0_isIdle 5 = .ok (.iload_n 1, 1) := by decide +kernel
theorem dX0_isIdle_6 : decode cX0_isIdle 6 = .ok (.iconst 4, 1) := by decide +kernel
theorem dX0_isIdle_7 : decode cX0_isIdle 7 = .ok (.if_icmp .le 13, 3) := by decide +kernel
theorem dX0_isIdle_10 : decode cX0_isIdle 10 = .ok (.iload_n 1, 1) := by decide +kernel
theorem dX0_isIdle_11 : decode cX0_isIdle 11 = .ok (.ifCond .ne 7, 3) := by decide +kernel
theorem dX0_isIdle_14 : decode cX0_isIdle 14 = .ok (.iconst 1, 1) := by decide +kernel
theorem dX0_isIdle_15 : decode cX0_isIdle 15 = .ok (.goto 4, 3) := by decide +kernel
theorem dX0_isIdle_18 : decode cX0_isIdle 18 = .ok (.iconst 0, 1) := by decide +kernel
theorem dX0_isIdle_19 : decode cX0_isIdle 19 = .ok (.ireturn, 1) := by decide +kernel
theorem dX0_isIdle_20 : decode cX0_isIdle 20 = .ok (.iload_n 1, 1) := by decide +kernel
theorem dX0_isIdle_21 : decode cX0_isIdle 21 = .ok (.iconst 4, 1) := by decide +kernel
theorem dX0_isIdle_22 : decode cX0_isIdle 22 = .ok (.if_icmp .ne 21, 3) := by decide +kernel
theorem dX0_isIdle_25 : decode cX0_isIdle 25 = .ok (.aload_n 0, 1) := by decide +kernel
theorem dX0_isIdle_26 : decode cX0_isIdle 26 = .ok (.getfield 58, 3) := by decide +kernel
theorem dX0_isIdle_29 : decode cX0_isIdle 29 = .ok (.aload_n 0, 1) := by decide +kernel
theorem dX0_isIdle_30 : decode cX0_isIdle 30 = .ok (.getfield 15, 3) := by decide +kernel
theorem dX0_isIdle_33 : decode cX0_isIdle 33 = .ok (.iaload, 1) := by decide +kernel
theorem dX0_isIdle_34 : decode cX0_isIdle 34 = .ok (.ifCond .ne 7, 3) := by decide +kernel
theorem dX0_isIdle_37 : decode cX0_isIdle 37 = .ok (.iconst 1, 1) := by decide +kernel
theorem dX0_isIdle_38 : decode cX0_isIdle 38 = .ok (.goto 4, 3) := by decide +kernel
theorem dX0_isIdle_41 : decode cX0_isIdle 41 = .ok (.iconst 0, 1) := by decide +kernel
theorem dX0_isIdle_42 : decode cX0_isIdle 42 = .ok (.ireturn, 1) := by decide +kernel
theorem dX0_isIdle_43 : decode cX0_isIdle 43 = .ok (.aload_n 0, 1) := by decide +kernel
theorem dX0_isIdle_44 : decode cX0_isIdle 44 = .ok (.iload_n 1, 1) := by decide +kernel
theorem dX0_isIdle_45 : decode cX0_isIdle 45 = .ok (.invokevirtual 93, 3) := by decide +kernel
theorem dX0_isIdle_48 : decode cX0_isIdle 48 = .ok (.ifCond .eq 17, 3) := by decide +kernel
theorem dX0_isIdle_51 : decode cX0_isIdle 51 = .ok (.aload_n 0, 1) := by decide +kernel
theorem dX0_isIdle_52 : decode cX0_isIdle 52 = .ok (.iload_n 1, 1) := by decide +kernel
theorem dX0_isIdle_53 : decode cX0_isIdle 53 = .ok (.iconst 1, 1) := by decide +kernel
theorem dX0_isIdle_54 : decode cX0_isIdle 54 = .ok (.isub, 1) := by decide +kernel
theorem dX0_isIdle_55 : decode cX0_isIdle 55 = .ok (.aload_n 0, 1) := by decide +kernel
theorem dX0_isIdle_56 : decode cX0_isIdle 56 = .ok (.getfield 15, 3) := by decide +kernel
theorem dX0_isIdle_59 : decode cX0_isIdle 59 = .ok (.invokevirtual 78, 3) := by decide +kernel
theorem dX0_isIdle_62 : decode cX0_isIdle 62 = .ok (.ifCond .ne 7, 3) := by decide +kernel
theorem dX0_isIdle_65 : decode cX0_isIdle 65 = .ok (.iconst 1, 1) := by decide +kernel
theorem dX0_isIdle_66 : decode cX0_isIdle 66 = .ok (.goto 4, 3) := by decide +kernel
theorem dX0_isIdle_69 : decode cX0_isIdle 69 = .ok (.iconst 0, 1) := by decide +kernel
theorem dX0_isIdle_70 : decode cX0_isIdle 70 = .ok (.ireturn, 1) := by decide +kernel
def fX0_isIdle_10 (x1 : Int32) (s : SS) : Option (Int32 × SS) := if ¬ x1 = 0 then (some ((0 : Int32), s)) else (some ((1 : Int32), s))
def fX0_isIdle_0 (x1 : Int32) (s : SS) : Option (Int32 × SS) := if x1 < (1 : Int32) then (fX0_isIdle_10 x1 s) else (if x1 ≤ (4 : Int32) then (if ¬ x1 = (4 : Int32) then (((fX0_canDo x1 s).bind fun x4 => if x4.1 = 0 then (some ((1 : Int32), x4.2)) else (((fX0_wetAt (x1 - (1 : Int32)) (x4.2.1 0 1) x4.2).bind fun x6 => if ¬ x6.1 = 0 then (some ((0 : Int32), x6.2)) else (some ((1 : Int32), x6.2)))))) else (if ixB (s.1 0 1) 8 then (if ¬ (s.1 4 ((s.1 0 1).toNatClampNeg)) = 0 then (some ((0 : Int32), s)) else (some ((1 : Int32), s))) else none)) else (fX0_isIdle_10 x1 s))
def fX0_isIdle (x1 : Int32) (s : SS) : Option (Int32 × SS) := fX0_isIdle_0 x1 s
set_option maxRecDepth 100000 in
set_option maxHeartbeats 4000000 in
theorem okX0_isIdle_10 {G : GG} {pl : Nat → Nat} {h0 : PH} (x1 : Int32) (s : SS) : EvF G 1 mX0_isIdle lyC pl h0 rvZ (fX0_isIdle_10 x1 s) 10 [(1, .int x1)] [] s := by
  unfold fX0_isIdle_10
  refine ef_iload_n (q := 11) 0 dX0_isIdle_10 rfl rfl rfl ?_
  refine ef_if (pt := 18) (pf := 14) (fun _ _ => ev_if_ne (tgt := 18) dX0_isIdle_11 (by decide)) (fun h1 => ?_) (fun h1 => ?_)
  · refine ef_iconst (v := (0 : Int32)) (q := 19) dX0_isIdle_18 (by decide) rfl ?_
    exact ef_zretc (x := (0 : Int32)) (by decide) rfl dX0_isIdle_19
  · refine ef_iconst (v := (1 : Int32)) (q := 15) dX0_isIdle_14 (by decide) rfl ?_
    refine ef_goto (tgt := 19) dX0_isIdle_15 (by decide) ?_
    exact ef_zretc (x := (1 : Int32)) (by decide) rfl dX0_isIdle_19
set_option maxRecDepth 100000 in
set_option maxHeartbeats 4000000 in
theorem okX0_isIdle_0 {G : GG} {pl : Nat → Nat} {h0 : PH} (x1 : Int32) (s : SS) : EvF G 1 mX0_isIdle lyC pl h0 rvZ (fX0_isIdle_0 x1 s) 0 [(0, .ref (pl 0)), (1, .int x1)] [] s := by
  unfold fX0_isIdle_0
  refine ef_iload_n (q := 1) 1 dX0_isIdle_0 rfl rfl rfl ?_
  refine ef_iconst (v := (1 : Int32)) (q := 2) dX0_isIdle_1 (by decide) rfl ?_
  refine ef_if (pt := 10) (pf := 5) (fun _ _ => ev_icmp_lt (tgt := 10) dX0_isIdle_2 (by decide)) (fun h1 => ?_) (fun h1 => ?_)
  · refine ef_sub (lv' := [(1, .int x1)]) [1] rfl ?_
    exact okX0_isIdle_10 x1 s
  · refine ef_iload_n (q := 6) 1 dX0_isIdle_5 rfl rfl rfl ?_
    refine ef_iconst (v := (4 : Int32)) (q := 7) dX0_isIdle_6 (by decide) rfl ?_
    refine ef_if (pt := 20) (pf := 10) (fun _ _ => ev_icmp_le (tgt := 20) dX0_isIdle_7 (by decide)) (fun h2 => ?_) (fun h2 => ?_)
    · refine ef_iload_n (q := 21) 1 dX0_isIdle_20 rfl rfl rfl ?_
      refine ef_iconst (v := (4 : Int32)) (q := 22) dX0_isIdle_21 (by decide) rfl ?_
      refine ef_if (pt := 43) (pf := 25) (fun _ _ => ev_icmp_ne (tgt := 43) dX0_isIdle_22 (by decide)) (fun h3 => ?_) (fun h3 => ?_)
      · refine ef_aload_n (q := 44) 0 dX0_isIdle_43 rfl rfl rfl ?_
        refine ef_iload_n (q := 45) 1 dX0_isIdle_44 rfl rfl rfl ?_
        refine ef_invVI0 (k := 0) (As := [.int x1]) (rest := []) (q := 48) (okX0_canDo x1) rfl calX0_canDo ml0_93 (by decide) rfl rfl rfl (Nat.le_of_ble_eq_true rfl) dX0_isIdle_45 rfl (fun x4 => ?_)
        refine ef_if (pt := 65) (pf := 51) (fun _ _ => ev_if_eq (tgt := 65) dX0_isIdle_48 (by decide)) (fun h5 => ?_) (fun h5 => ?_)
        · refine ef_iconst (v := (1 : Int32)) (q := 66) dX0_isIdle_65 (by decide) rfl ?_
          refine ef_goto (tgt := 70) dX0_isIdle_66 (by decide) ?_
          exact ef_zretc (x := (1 : Int32)) (by decide) rfl dX0_isIdle_70
        · refine ef_aload_n (q := 52) 0 dX0_isIdle_51 rfl rfl rfl ?_
          refine ef_iload_n (q := 53) 1 dX0_isIdle_52 rfl rfl rfl ?_
          refine ef_iconst (v := (1 : Int32)) (q := 54) dX0_isIdle_53 (by decide) rfl ?_
          refine ef_isub (q := 55) dX0_isIdle_54 rfl ?_
          refine ef_aload_n (q := 56) 0 dX0_isIdle_55 rfl rfl rfl ?_
          refine ef_getI (x := x4.2.1 0 1) (q := 59) rfl fl0_15 rfl rfl dX0_isIdle_56 rfl ?_
          refine ef_invVI0 (k := 0) (As := [.int (x1 - (1 : Int32)), .int (x4.2.1 0 1)]) (rest := []) (q := 62) (okX0_wetAt (x1 - (1 : Int32)) (x4.2.1 0 1)) rfl calX0_wetAt ml0_78 (by decide) rfl rfl rfl (Nat.le_of_ble_eq_true rfl) dX0_isIdle_59 rfl (fun x6 => ?_)
          refine ef_if (pt := 69) (pf := 65) (fun _ _ => ev_if_ne (tgt := 69) dX0_isIdle_62 (by decide)) (fun h7 => ?_) (fun h7 => ?_)
          · refine ef_iconst (v := (0 : Int32)) (q := 70) dX0_isIdle_69 (by decide) rfl ?_
            exact ef_zretc (x := (0 : Int32)) (by decide) rfl dX0_isIdle_70
          · refine ef_iconst (v := (1 : Int32)) (q := 66) dX0_isIdle_65 (by decide) rfl ?_
            refine ef_goto (tgt := 70) dX0_isIdle_66 (by decide) ?_
            exact ef_zretc (x := (1 : Int32)) (by decide) rfl dX0_isIdle_70
      · refine ef_aload_n (q := 26) 0 dX0_isIdle_25 rfl rfl rfl ?_
        refine ef_getR (t := 4) (q := 29) rfl fl0_58 rfl rfl dX0_isIdle_26 rfl ?_
        refine ef_aload_n (q := 30) 0 dX0_isIdle_29 rfl rfl rfl ?_
        refine ef_getI (x := s.1 0 1) (q := 33) rfl fl0_15 rfl rfl dX0_isIdle_30 rfl ?_
        refine ef_guard (fun g8 => ?_)
        refine ef_iaload (x := s.1 4 ((s.1 0 1).toNatClampNeg)) (q := 34) rfl g8 dX0_isIdle_33 rfl rfl ?_
        refine ef_if (pt := 41) (pf := 37) (fun _ _ => ev_if_ne (tgt := 41) dX0_isIdle_34 (by decide)) (fun h9 => ?_) (fun h9 => ?_)
        · refine ef_iconst (v := (0 : Int32)) (q := 42) dX0_isIdle_41 (by decide) rfl ?_
          exact ef_zretc (x := (0 : Int32)) (by decide) rfl dX0_isIdle_42
        · refine ef_iconst (v := (1 : Int32)) (q := 38) dX0_isIdle_37 (by decide) rfl ?_
          refine ef_goto (tgt := 42) dX0_isIdle_38 (by decide) ?_
          exact ef_zretc (x := (1 : Int32)) (by decide) rfl dX0_isIdle_42
    · refine ef_sub (lv' := [(1, .int x1)]) [1] rfl ?_
      exact okX0_isIdle_10 x1 s
theorem okX0_isIdle (x1 : Int32) : MtF 1 mX0_isIdle lyC rvZ (fun _ pl => [.ref (pl 0), .int x1]) (fX0_isIdle x1) := by
  refine MtF.of (by decide +kernel) rfl (fun _ pl => Nat.le_of_ble_eq_true rfl) (fun G pl h0 s => ?_)
  refine ef_sub (lv := [(0, .ref (pl 0)), (1, .int x1)]) (lv' := [(0, .ref (pl 0)), (1, .int x1)]) [0, 1] rfl ?_
  exact okX0_isIdle_0  x1 s
-- X0_eat
theorem dX0_eat_0 : decode cX0_eat 0 = .ok (.iload_n 1, 1) := by decide +kernel
theorem dX0_eat_1 : decode cX0_eat 1 = .ok (.iconst 4, 1) := by decide +kernel
theorem dX0_eat_2 : decode cX0_eat 2 = .ok (.if_icmp .ne 46, 3) := by decide +kernel
theorem dX0_eat_5 : decode cX0_eat 5 = .ok (.aload_n 0, 1) := by decide +kernel
theorem dX0_eat_6 : decode cX0_eat 6 = .ok (.getfield 27, 3) := by decide +kernel
theorem dX0_eat_9 : decode cX0_eat 9 = .ok (.aload_n 0, 1) := by decide +kernel
theorem dX0_eat_10 : decode cX0_eat 10 = .ok (.getfield 58, 3) := by decide +kernel
theorem dX0_eat_13 : decode cX0_eat 13 = .ok (.aload_n 0, 1) := by decide +kernel
theorem dX0_eat_14 : decode cX0_eat 14 = .ok (.getfield 15, 3) := by decide +kernel
theorem dX0_eat_17 : decode cX0_eat 17 = .ok (.iaload, 1) := by decide +kernel
theorem dX0_eat_18 : decode cX0_eat 18 = .ok (.invokestatic 113, 3) := by decide +kernel
theorem dX0_eat_21 : decode cX0_eat 21 = .ok (.istore_n 2, 1) := by decide +kernel
theorem dX0_eat_22 : decode cX0_eat 22 = .ok (.aload_n 0, 1) := by decide +kernel
theorem dX0_eat_23 : decode cX0_eat 23 = .ok (.getfield 58, 3) := by decide +kernel
theorem dX0_eat_26 : decode cX0_eat 26 = .ok (.aload_n 0, 1) := by decide +kernel
theorem dX0_eat_27 : decode cX0_eat 27 = .ok (.getfield 15, 3) := by decide +kernel
theorem dX0_eat_30 : decode cX0_eat 30 = .ok (.dup2, 1) := by decide +kernel
theorem dX0_eat_31 : decode cX0_eat 31 = .ok (.iaload, 1) := by decide +kernel
theorem dX0_eat_32 : decode cX0_eat 32 = .ok (.iload_n 2, 1) := by decide +kernel
theorem dX0_eat_33 : decode cX0_eat 33 = .ok (.isub, 1) := by decide +kernel
theorem dX0_eat_34 : decode cX0_eat 34 = .ok (.iastore, 1) := by decide +kernel
theorem dX0_eat_35 : decode cX0_eat 35 = .ok (.aload_n 0, 1) := by decide +kernel
theorem dX0_eat_36 : decode cX0_eat 36 = .ok (.dup, 1) := by decide +kernel
theorem dX0_eat_37 : decode cX0_eat 37 = .ok (.getfield 39, 3) := by decide +kernel
theorem dX0_eat_40 : decode cX0_eat 40 = .ok (.iload_n 2, 1) := by decide +kernel
theorem dX0_eat_41 : decode cX0_eat 41 = .ok (.iadd, 1) := by decide +kernel
theorem dX0_eat_42 : decode cX0_eat 42 = .ok (.putfield 39, 3) := by decide +kernel
theorem dX0_eat_45 : decode cX0_eat 45 = .ok (.goto 49, 3) := by decide +kernel
theorem dX0_eat_48 : decode cX0_eat 48 = .ok (.iload_n 1, 1) := by decide +kernel
theorem dX0_eat_49 : decode cX0_eat 49 = .ok (.iconst 1, 1) := by decide +kernel
theorem dX0_eat_50 : decode cX0_eat 50 = .ok (.isub, 1) := by decide +kernel
theorem dX0_eat_51 : decode cX0_eat 51 = .ok (.bipush 8, 2) := by decide +kernel
theorem dX0_eat_53 : decode cX0_eat 53 = .ok (.imul, 1) := by decide +kernel
theorem dX0_eat_54 : decode cX0_eat 54 = .ok (.aload_n 0, 1) := by decide +kernel
theorem dX0_eat_55 : decode cX0_eat 55 = .ok (.getfield 15, 3) := by decide +kernel
theorem dX0_eat_58 : decode cX0_eat 58 = .ok (.iadd, 1) := by decide +kernel
theorem dX0_eat_59 : decode cX0_eat 59 = .ok (.istore_n 2, 1) := by decide +kernel
theorem dX0_eat_60 : decode cX0_eat 60 = .ok (.aload_n 0, 1) := by decide +kernel
theorem dX0_eat_61 : decode cX0_eat 61 = .ok (.getfield 27, 3) := by decide +kernel
theorem dX0_eat_64 : decode cX0_eat 64 = .ok (.aload_n 0, 1) := by decide +kernel
theorem dX0_eat_65 : decode cX0_eat 65 = .ok (.getfield 55, 3) := by decide +kernel
theorem dX0_eat_68 : decode cX0_eat 68 = .ok (.iload_n 2, 1) := by decide +kernel
theorem dX0_eat_69 : decode cX0_eat 69 = .ok (.iaload, 1) := by decide +kernel
theorem dX0_eat_70 : decode cX0_eat 70 = .ok (.invokestatic 113, 3) := by decide +kernel
theorem dX0_eat_73 : decode cX0_eat 73 = .ok (.istore_n 3, 1) := by decide +kernel
theorem dX0_eat_74 : decode cX0_eat 74 = .ok (.aload_n 0, 1) := by decide +kernel
theorem dX0_eat_75 : decode cX0_eat 75 = .ok (.getfield 55, 3) := by decide +kernel
theorem dX0_eat_78 : decode cX0_eat 78 = .ok (.iload_n 2, 1) := by decide +kernel
theorem dX0_eat_79 : decode cX0_eat 79 = .ok (.dup2, 1) := by decide +kernel
theorem dX0_eat_80 : decode cX0_eat 80 = .ok (.iaload, 1) := by decide +kernel
theorem dX0_eat_81 : decode cX0_eat 81 = .ok (.iload_n 3, 1) := by decide +kernel
theorem dX0_eat_82 : decode cX0_eat 82 = .ok (.isub, 1) := by decide +kernel
theorem dX0_eat_83 : decode cX0_eat 83 = .ok (.iastore, 1) := by decide +kernel
theorem dX0_eat_84 : decode cX0_eat 84 = .ok (.aload_n 0, 1) := by decide +kernel
theorem dX0_eat_85 : decode cX0_eat 85 = .ok (.dup, 1) := by decide +kernel
theorem dX0_eat_86 : decode cX0_eat 86 = .ok (.getfield 39, 3) := by decide +kernel
theorem dX0_eat_89 : decode cX0_eat 89 = .ok (.iload_n 3, 1) := by decide +kernel
theorem dX0_eat_90 : decode cX0_eat 90 = .ok (.iadd, 1) := by decide +kernel
theorem dX0_eat_91 : decode cX0_eat 91 = .ok (.putfield 39, 3) := by decide +kernel
theorem dX0_eat_94 : decode cX0_eat 94 = .ok (.return_, 1) := by decide +kernel
def fX0_eat_0 (x1 : Int32) (s : SS) : Option (Unit × SS) := if ¬ x1 = (4 : Int32) then (if ixB (((x1 - (1 : Int32)) * (8 : Int32)) + (s.1 0 1)) 24 then (if ixB (((x1 - (1 : Int32)) * (8 : Int32)) + (s.1 0 1)) 24 then (if ixB (((x1 - (1 : Int32)) * (8 : Int32)) + (s.1 0 1)) 24 then (some ((), wrI (wrI s 3 ((((x1 - (1 : Int32)) * (8 : Int32)) + (s.1 0 1)).toNatClampNeg) ((s.1 3 ((((x1 - (1 : Int32)) * (8 : Int32)) + (s.1 0 1)).toNatClampNeg)) - (if (s.1 3 ((((x1 - (1 : Int32)) * (8 : Int32)) + (s.1 0 1)).toNatClampNeg)) < (s.1 0 5) then (s.1 3 ((((x1 - (1 : Int32)) * (8 : Int32)) + (s.1 0 1)).toNatClampNeg)) else (s.1 0 5)))) 0 9 ((s.1 0 9) + (if (s.1 3 ((((x1 - (1 : Int32)) * (8 : Int32)) + (s.1 0 1)).toNatClampNeg)) < (s.1 0 5) then (s.1 3 ((((x1 - (1 : Int32)) * (8 : Int32)) + (s.1 0 1)).toNatClampNeg)) else (s.1 0 5))))) else none) else none) else none) else (if ixB (s.1 0 1) 8 then (if ixB (s.1 0 1) 8 then (if ixB (s.1 0 1) 8 then (some ((), wrI (wrI s 4 ((s.1 0 1).toNatClampNeg) ((s.1 4 ((s.1 0 1).toNatClampNeg)) - (if (s.1 4 ((s.1 0 1).toNatClampNeg)) < (s.1 0 5) then (s.1 4 ((s.1 0 1).toNatClampNeg)) else (s.1 0 5)))) 0 9 ((s.1 0 9) + (if (s.1 4 ((s.1 0 1).toNatClampNeg)) < (s.1 0 5) then (s.1 4 ((s.1 0 1).toNatClampNeg)) else (s.1 0 5))))) else none) else none) else none)
def fX0_eat (x1 : Int32) (s : SS) : Option (Unit × SS) := fX0_eat_0 x1 s
set_option maxRecDepth 100000 in
set_option maxHeartbeats 4000000 in
theorem okX0_eat_0 {G : GG} {pl : Nat → Nat} {h0 : PH} (x1 : Int32) (s : SS) : EvF G 1 mX0_eat lyC pl h0 rvU (fX0_eat_0 x1 s) 0 [(0, .ref (pl 0)), (1, .int x1)] [] s := by
  unfold fX0_eat_0
  refine ef_iload_n (q := 1) 1 dX0_eat_0 rfl rfl rfl ?_
  refine ef_iconst (v := (4 : Int32)) (q := 2) dX0_eat_1 (by decide) rfl ?_
  refine ef_if (pt := 48) (pf := 5) (fun _ _ => ev_icmp_ne (tgt := 48) dX0_eat_2 (by decide)) (fun h1 => ?_) (fun h1 => ?_)
  · refine ef_iload_n (q := 49) 1 dX0_eat_48 rfl rfl rfl ?_
    refine ef_iconst (v := (1 : Int32)) (q := 50) dX0_eat_49 (by decide) rfl ?_
    refine ef_isub (q := 51) dX0_eat_50 rfl ?_
    refine ef_bipush (v := (8 : Int32)) (q := 53) dX0_eat_51 (by decide) rfl ?_
    refine ef_imul (q := 54) dX0_eat_53 rfl ?_
    refine ef_aload_n (q := 55) 0 dX0_eat_54 rfl rfl rfl ?_
    refine ef_getI (x := s.1 0 1) (q := 58) rfl fl0_15 rfl rfl dX0_eat_55 rfl ?_
    refine ef_iadd (q := 59) dX0_eat_58 rfl ?_
    refine ef_istore_n (lv' := [(2, .int (((x1 - (1 : Int32)) * (8 : Int32)) + (s.1 0 1))), (0, .ref (pl 0)), (1, .int x1)]) (q := 60) dX0_eat_59 rfl (by decide) rfl rfl ?_
    refine ef_aload_n (q := 61) 1 dX0_eat_60 rfl rfl rfl ?_
    refine ef_getI (x := s.1 0 5) (q := 64) rfl fl0_27 rfl rfl dX0_eat_61 rfl ?_
    refine ef_aload_n (q := 65) 1 dX0_eat_64 rfl rfl rfl ?_
    refine ef_getR (t := 3) (q := 68) rfl fl0_55 rfl rfl dX0_eat_65 rfl ?_
    refine ef_iload_n (q := 69) 0 dX0_eat_68 rfl rfl rfl ?_
    refine ef_guard (fun g2 => ?_)
    refine ef_iaload (x := s.1 3 ((((x1 - (1 : Int32)) * (8 : Int32)) + (s.1 0 1)).toNatClampNeg)) (q := 70) rfl g2 dX0_eat_69 rfl rfl ?_
    refine ef_mmin (q := 73) ml0_113 (by decide) (Nat.le_of_ble_eq_true rfl) dX0_eat_70 rfl ?_
    refine ef_istore_n (lv' := [(3, .int (if (s.1 3 ((((x1 - (1 : Int32)) * (8 : Int32)) + (s.1 0 1)).toNatClampNeg)) < (s.1 0 5) then (s.1 3 ((((x1 - (1 : Int32)) * (8 : Int32)) + (s.1 0 1)).toNatClampNeg)) else (s.1 0 5))), (2, .int (((x1 - (1 : Int32)) * (8 : Int32)) + (s.1 0 1))), (0, .ref (pl 0)), (1, .int x1)]) (q := 74) dX0_eat_73 rfl (by decide) rfl rfl ?_
    refine ef_aload_n (q := 75) 2 dX0_eat_74 rfl rfl rfl ?_
    refine ef_getR (t := 3) (q := 78) rfl fl0_55 rfl rfl dX0_eat_75 rfl ?_
    refine ef_iload_n (q := 79) 1 dX0_eat_78 rfl rfl rfl ?_
    refine ef_dup2_11 (q := 80) dX0_eat_79 rfl rfl rfl ?_
    refine ef_guard (fun g3 => ?_)
    refine ef_iaload (x := s.1 3 ((((x1 - (1 : Int32)) * (8 : Int32)) + (s.1 0 1)).toNatClampNeg)) (q := 81) rfl g3 dX0_eat_80 rfl rfl ?_
    refine ef_iload_n (q := 82) 0 dX0_eat_81 rfl rfl rfl ?_
    refine ef_isub (q := 83) dX0_eat_82 rfl ?_
    refine ef_guard (fun g4 => ?_)
    refine ef_iastore (j := (((x1 - (1 : Int32)) * (8 : Int32)) + (s.1 0 1)).toNatClampNeg) (q := 84) rfl g4 dX0_eat_83 rfl rfl ?_
    refine ef_aload_n (q := 85) 2 dX0_eat_84 rfl rfl rfl ?_
    refine ef_dup (q := 86) dX0_eat_85 rfl rfl ?_
    refine ef_getI (x := s.1 0 9) (q := 89) rfl fl0_39 rfl rfl dX0_eat_86 rfl ?_
    refine ef_iload_n (q := 90) 0 dX0_eat_89 rfl rfl rfl ?_
    refine ef_iadd (q := 91) dX0_eat_90 rfl ?_
    refine ef_putI (q := 94) rfl fl0_39 rfl rfl dX0_eat_91 rfl ?_
    exact ef_vret rfl dX0_eat_94
  · refine ef_aload_n (q := 6) 0 dX0_eat_5 rfl rfl rfl ?_
    refine ef_getI (x := s.1 0 5) (q := 9) rfl fl0_27 rfl rfl dX0_eat_6 rfl ?_
    refine ef_aload_n (q := 10) 0 dX0_eat_9 rfl rfl rfl ?_
    refine ef_getR (t := 4) (q := 13) rfl fl0_58 rfl rfl dX0_eat_10 rfl ?_
    refine ef_aload_n (q := 14) 0 dX0_eat_13 rfl rfl rfl ?_
    refine ef_getI (x := s.1 0 1) (q := 17) rfl fl0_15 rfl rfl dX0_eat_14 rfl ?_
    refine ef_guard (fun g5 => ?_)
    refine ef_iaload (x := s.1 4 ((s.1 0 1).toNatClampNeg)) (q := 18) rfl g5 dX0_eat_17 rfl rfl ?_
    refine ef_mmin (q := 21) ml0_113 (by decide) (Nat.le_of_ble_eq_true rfl) dX0_eat_18 rfl ?_
    refine ef_istore_n (lv' := [(2, .int (if (s.1 4 ((s.1 0 1).toNatClampNeg)) < (s.1 0 5) then (s.1 4 ((s.1 0 1).toNatClampNeg)) else (s.1 0 5))), (0, .ref (pl 0)), (1, .int x1)]) (q := 22) dX0_eat_21 rfl (by decide) rfl rfl ?_
    refine ef_aload_n (q := 23) 1 dX0_eat_22 rfl rfl rfl ?_
    refine ef_getR (t := 4) (q := 26) rfl fl0_58 rfl rfl dX0_eat_23 rfl ?_
    refine ef_aload_n (q := 27) 1 dX0_eat_26 rfl rfl rfl ?_
    refine ef_getI (x := s.1 0 1) (q := 30) rfl fl0_15 rfl rfl dX0_eat_27 rfl ?_
    refine ef_dup2_11 (q := 31) dX0_eat_30 rfl rfl rfl ?_
    refine ef_guard (fun g6 => ?_)
    refine ef_iaload (x := s.1 4 ((s.1 0 1).toNatClampNeg)) (q := 32) rfl g6 dX0_eat_31 rfl rfl ?_
    refine ef_iload_n (q := 33) 0 dX0_eat_32 rfl rfl rfl ?_
    refine ef_isub (q := 34) dX0_eat_33 rfl ?_
    refine ef_guard (fun g7 => ?_)
    refine ef_iastore (j := (s.1 0 1).toNatClampNeg) (q := 35) rfl g7 dX0_eat_34 rfl rfl ?_
    refine ef_aload_n (q := 36) 1 dX0_eat_35 rfl rfl rfl ?_
    refine ef_dup (q := 37) dX0_eat_36 rfl rfl ?_
    refine ef_getI (x := s.1 0 9) (q := 40) rfl fl0_39 rfl rfl dX0_eat_37 rfl ?_
    refine ef_iload_n (q := 41) 0 dX0_eat_40 rfl rfl rfl ?_
    refine ef_iadd (q := 42) dX0_eat_41 rfl ?_
    refine ef_putI (q := 45) rfl fl0_39 rfl rfl dX0_eat_42 rfl ?_
    refine ef_goto (tgt := 94) dX0_eat_45 (by decide) ?_
    exact ef_vret rfl dX0_eat_94
theorem okX0_eat (x1 : Int32) : MtF 1 mX0_eat lyC rvU (fun _ pl => [.ref (pl 0), .int x1]) (fX0_eat x1) := by
  refine MtF.of (by decide +kernel) rfl (fun _ pl => Nat.le_of_ble_eq_true rfl) (fun G pl h0 s => ?_)
  refine ef_sub (lv := [(0, .ref (pl 0)), (1, .int x1)]) (lv' := [(0, .ref (pl 0)), (1, .int x1)]) [0, 1] rfl ?_
  exact okX0_eat_0  x1 s
-- X0_melt
theorem dX0_melt_0 : decode cX0_melt 0 = .ok (.iconst 0, 1) := by decide +kernel
theorem dX0_melt_1 : decode cX0_melt 1 = .ok (.istore_n 1, 1) := by decide +kernel
theorem dX0_melt_2 : decode cX0_melt 2 = .ok (.iload_n 1, 1) := by decide +kernel
theorem dX0_melt_3 : decode cX0_melt 3 = .ok (.aload_n 0, 1) := by decide +kernel
theorem dX0_melt_4 : decode cX0_melt 4 = .ok (.getfield 45, 3) := by decide +kernel
theorem dX0_melt_7 : decode cX0_melt 7 = .ok (.if_icmp .ge 99, 3) := by decide +kernel
theorem dX0_melt_10 : decode cX0_melt 10 = .ok (.aload_n 0, 1) := by decide +kernel
theorem dX0_melt_11 : decode cX0_melt 11 = .ok (.getfield 48, 3) := by decide +kernel
theorem dX0_melt_14 : decode cX0_melt 14 = .ok (.iload_n 1, 1) := by decide +kernel
theorem dX0_melt_15 : decode cX0_melt 15 = .ok (.iaload, 1) := by decide +kernel
theorem dX0_melt_16 : decode cX0_melt 16 = .ok (.iconst 2, 1) := by decide +kernel
theorem dX0_melt_17 : decode cX0_melt 17 = .ok (.idiv, 1) := by decide +kernel
theorem dX0_melt_18 : decode cX0_melt 18 = .ok (.istore_n 2, 1) := by decide +kernel
theorem dX0_melt_19 : decode cX0_melt 19 = .ok (.iconst 0, 1) := by decide +kernel
theorem dX0_melt_20 : decode cX0_melt 20 = .ok (.istore_n 3, 1) := by decide +kernel
theorem dX0_melt_21 : decode cX0_melt 21 = .ok (.iload_n 3, 1) := by decide +kernel
theorem dX0_melt_22 : decode cX0_melt 22 = .ok (.aload_n 0, 1) := by decide +kernel
theorem dX0_melt_23 : decode cX0_melt 23 = .ok (.getfield 9, 3) := by decide +kernel
theorem dX0_melt_26 : decode cX0_melt 26 = .ok (.if_icmp .ge 74, 3) := by decide +kernel
theorem dX0_melt_29 : decode cX0_melt 29 = .ok (.aload_n 0, 1) := by decide +kernel
theorem dX0_melt_30 : decode cX0_melt 30 = .ok (.getfield 52, 3) := by decide +kernel
theorem dX0_melt_33 : decode cX0_melt 33 = .ok (.iload_n 1, 1) := by decide +kernel
theorem dX0_melt_34 : decode cX0_melt 34 = .ok (.iaload, 1) := by decide +kernel
theorem dX0_melt_35 : decode cX0_melt 35 = .ok (.ifCond .le 65, 3) := by decide +kernel
theorem dX0_melt_38 : decode cX0_melt 38 = .ok (.aload_n 0, 1) := by decide +kernel
theorem dX0_melt_39 : decode cX0_melt 39 = .ok (.iload_n 3, 1) := by decide +kernel
theorem dX0_melt_40 : decode cX0_melt 40 = .ok (.invokevirtual 118, 3) := by decide +kernel
theorem dX0_melt_43 : decode cX0_melt 43 = .ok (.ifCond .eq 12, 3) := by decide +kernel
theorem dX0_melt_46 : decode cX0_melt 46 = .ok (.aload_n 0, 1) := by decide +kernel
theorem dX0_melt_47 : decode cX0_melt 47 = .ok (.getfield 48, 3) := by decide +kernel
theorem dX0_melt_50 : decode cX0_melt 50 = .ok (.iload_n 1, 1) := by decide +kernel
theorem dX0_melt_51 : decode cX0_melt 51 = .ok (.iaload, 1) := by decide +kernel
theorem dX0_melt_52 : decode cX0_melt 52 = .ok (.goto 4, 3) := by decide +kernel
theorem dX0_melt_55 : decode cX0_melt 55 = .ok (.iload_n 2, 1) := by decide +kernel
theorem dX0_melt_56 : decode cX0_melt 56 = .ok (.aload_n 0, 1) := by decide +kernel
theorem dX0_melt_57 : decode cX0_melt 57 = .ok (.getfield 52, 3) := by decide +kernel
theorem dX0_melt_60 : decode cX0_melt 60 = .ok (.iload_n 1, 1) := by decide +kernel
theorem dX0_melt_61 : decode cX0_melt 61 = .ok (.iaload, 1) := by decide +kernel
theorem dX0_melt_62 : decode cX0_melt 62 = .ok (.invokestatic 113, 3) := by decide +kernel
theorem dX0_melt_65 : decode cX0_melt 65 = .ok (.istore 4, 2) := by decide +kernel
theorem dX0_melt_67 : decode cX0_melt 67 = .ok (.aload_n 0, 1) := by decide +kernel
theorem dX0_melt_68 : decode cX0_melt 68 = .ok (.getfield 52, 3) := by decide +kernel
theorem dX0_melt_71 : decode cX0_melt 71 = .ok (.iload_n 1, 1) := by decide +kernel
theorem dX0_melt_72 : decode cX0_melt 72 = .ok (.dup2, 1) := by decide +kernel
theorem dX0_melt_73 : decode cX0_melt 73 = .ok (.iaload, 1) := by decide +kernel
theorem dX0_melt_74 : decode cX0_melt 74 = .ok (.iload 4, 2) := by decide +kernel
theorem dX0_melt_76 : decode cX0_melt 76 = .ok (.isub, 1) := by decide +kernel
theorem dX0_melt_77 : decode cX0_melt 77 = .ok (.iastore, 1) := by decide +kernel
theorem dX0_melt_78 : decode cX0_melt 78 = .ok (.aload_n 0, 1) := by decide +kernel
theorem dX0_melt_79 : decode cX0_melt 79 = .ok (.getfield 55, 3) := by decide +kernel
theorem dX0_melt_82 : decode cX0_melt 82 = .ok (.iload_n 1, 1) := by decide +kernel
theorem dX0_melt_83 : decode cX0_melt 83 = .ok (.bipush 8, 2) := by decide +kernel
theorem dX0_melt_85 : decode cX0_melt 85 = .ok (.imul, 1) := by decide +kernel
theorem dX0_melt_86 : decode cX0_melt 86 = .ok (.iload_n 3, 1) := by decide +kernel
theorem dX0_melt_87 : decode cX0_melt 87 = .ok (.iadd, 1) := by decide +kernel
theorem dX0_melt_88 : decode cX0_melt 88 = .ok (.dup2, 1) := by decide +kernel
theorem dX0_melt_89 : decode cX0_melt 89 = .ok (.iaload, 1) := by decide +kernel
theorem dX0_melt_90 : decode cX0_melt 90 = .ok (.iload 4, 2) := by decide +kernel
theorem dX0_melt_92 : decode cX0_melt 92 = .ok (.iadd, 1) := by decide +kernel
theorem dX0_melt_93 : decode cX0_melt 93 = .ok (.iastore, 1) := by decide +kernel
theorem dX0_melt_94 : decode cX0_melt 94 = .ok (.iinc 3 1, 3) := by decide +kernel
theorem dX0_melt_97 : decode cX0_melt 97 = .ok (.goto (-76), 3) := by decide +kernel
theorem dX0_melt_100 : decode cX0_melt 100 = .ok (.iinc 1 1, 3) := by decide +kernel
theorem dX0_melt_103 : decode cX0_melt 103 = .ok (.goto (-101), 3) := by decide +kernel
theorem dX0_melt_106 : decode cX0_melt 106 = .ok (.return_, 1) := by decide +kernel
def fX0_melt_56 (rec_2 : Int32 → SS → Option (Unit × SS)) (rec_21 : Int32 → Int32 → Int32 → SS → Option (Unit × SS)) (x1 : Int32) (x2 : Int32) (x3 : Int32) (y0 : Int32) (s : SS) : Option (Unit × SS) := if ixB x1 3 then (if ixB x1 3 then (if ixB x1 3 then (if ixB ((x1 * (8 : Int32)) + x3) 24 then (if ixB ((x1 * (8 : Int32)) + x3) 24 then (rec_21 x1 x2 (x3 + (1 : Int32)) (wrI (wrI s 2 x1.toNatClampNeg ((s.1 2 x1.toNatClampNeg) - (if (s.1 2 x1.toNatClampNeg) < y0 then (s.1 2 x1.toNatClampNeg) else y0))) 3 (((x1 * (8 : Int32)) + x3).toNatClampNeg) ((s.1 3 (((x1 * (8 : Int32)) + x3).toNatClampNeg)) + (if (s.1 2 x1.toNatClampNeg) < y0 then (s.1 2 x1.toNatClampNeg) else y0)))) else none) else none) else none) else none) else none
def fX0_melt_21 (rec_2 : Int32 → SS → Option (Unit × SS)) : Nat → Int32 → Int32 → Int32 → SS → Option (Unit × SS)
  | 0, _, _, _, _ => none
  | n + 1, x1, x2, x3, s => if (s.1 0 0) ≤ x3 then (rec_2 (x1 + (1 : Int32)) s) else (if ixB x1 3 then (if (s.1 2 x1.toNatClampNeg) ≤ 0 then (rec_2 (x1 + (1 : Int32)) s) else (((fX0_isSunny x3 s).bind fun x4 => if x4.1 = 0 then (fX0_melt_56 rec_2 (fX0_melt_21 rec_2 n) x1 x2 x3 x2 x4.2) else (if ixB x1 3 then (fX0_melt_56 rec_2 (fX0_melt_21 rec_2 n) x1 x2 x3 (x4.2.1 1 x1.toNatClampNeg) x4.2) else none)))) else none)
def fX0_melt_2 : Nat → Int32 → SS → Option (Unit × SS)
  | 0, _, _ => none
  | n + 1, x1, s => if (s.1 0 11) ≤ x1 then (some ((), s)) else (if ixB x1 3 then (fX0_melt_21 (fX0_melt_2 n) FU x1 ((s.1 1 x1.toNatClampNeg) / (2 : Int32)) (0 : Int32) s) else none)
def fX0_melt_0 (s : SS) : Option (Unit × SS) := fX0_melt_2 FU (0 : Int32) s
def fX0_melt (s : SS) : Option (Unit × SS) := fX0_melt_0 s
set_option maxRecDepth 100000 in
set_option maxHeartbeats 4000000 in
theorem okX0_melt_56 {G : GG} {pl : Nat → Nat} {h0 : PH} (rec_2 : Int32 → SS → Option (Unit × SS)) (hrec_2 : ∀ (x1 : Int32) (s : SS), EvF G 1 mX0_melt lyC pl h0 rvU (rec_2 x1 s) 2 [(0, .ref (pl 0)), (1, .int x1)] [] s) (rec_21 : Int32 → Int32 → Int32 → SS → Option (Unit × SS)) (hrec_21 : ∀ (x1 : Int32) (x2 : Int32) (x3 : Int32) (s : SS), EvF G 1 mX0_melt lyC pl h0 rvU (rec_21 x1 x2 x3 s) 21 [(0, .ref (pl 0)), (1, .int x1), (2, .int x2), (3, .int x3)] [] s) (x1 : Int32) (x2 : Int32) (x3 : Int32) (y0 : Int32) (s : SS) : EvF G 1 mX0_melt lyC pl h0 rvU (fX0_melt_56 rec_2 rec_21 x1 x2 x3 y0 s) 56 [(0, .ref (pl 0)), (1, .int x1), (2, .int x2), (3, .int x3)] [.int y0] s := by
  unfold fX0_melt_56
  refine ef_aload_n (q := 57) 0 dX0_melt_56 rfl rfl rfl ?_
  refine ef_getR (t := 2) (q := 60) rfl fl0_52 rfl rfl dX0_melt_57 rfl ?_
  refine ef_iload_n (q := 61) 1 dX0_melt_60 rfl rfl rfl ?_
  refine ef_guard (fun g1 => ?_)
  refine ef_iaload (x := s.1 2 x1.toNatClampNeg) (q := 62) rfl g1 dX0_melt_61 rfl rfl ?_
  refine ef_mmin (q := 65) ml0_113 (by decide) (Nat.le_of_ble_eq_true rfl) dX0_melt_62 rfl ?_
  refine ef_istore (lv' := [(4, .int (if (s.1 2 x1.toNatClampNeg) < y0 then (s.1 2 x1.toNatClampNeg) else y0)), (0, .ref (pl 0)), (1, .int x1), (2, .int x2), (3, .int x3)]) (q := 67) dX0_melt_65 (by decide) rfl rfl ?_
  refine ef_aload_n (q := 68) 1 dX0_melt_67 rfl rfl rfl ?_
  refine ef_getR (t := 2) (q := 71) rfl fl0_52 rfl rfl dX0_melt_68 rfl ?_
  refine ef_iload_n (q := 72) 2 dX0_melt_71 rfl rfl rfl ?_
  refine ef_dup2_11 (q := 73) dX0_melt_72 rfl rfl rfl ?_
  refine ef_guard (fun g2 => ?_)
  refine ef_iaload (x := s.1 2 x1.toNatClampNeg) (q := 74) rfl g2 dX0_melt_73 rfl rfl ?_
  refine ef_iload (q := 76) 0 dX0_melt_74 rfl rfl ?_
  refine ef_isub (q := 77) dX0_melt_76 rfl ?_
  refine ef_guard (fun g3 => ?_)
  refine ef_iastore (j := x1.toNatClampNeg) (q := 78) rfl g3 dX0_melt_77 rfl rfl ?_
  refine ef_aload_n (q := 79) 1 dX0_melt_78 rfl rfl rfl ?_
  refine ef_getR (t := 3) (q := 82) rfl fl0_55 rfl rfl dX0_melt_79 rfl ?_
  refine ef_iload_n (q := 83) 2 dX0_melt_82 rfl rfl rfl ?_
  refine ef_bipush (v := (8 : Int32)) (q := 85) dX0_melt_83 (by decide) rfl ?_
  refine ef_imul (q := 86) dX0_melt_85 rfl ?_
  refine ef_iload_n (q := 87) 4 dX0_melt_86 rfl rfl rfl ?_
  refine ef_iadd (q := 88) dX0_melt_87 rfl ?_
  refine ef_dup2_11 (q := 89) dX0_melt_88 rfl rfl rfl ?_
  refine ef_guard (fun g4 => ?_)
  refine ef_iaload (x := s.1 3 (((x1 * (8 : Int32)) + x3).toNatClampNeg)) (q := 90) rfl g4 dX0_melt_89 rfl rfl ?_
  refine ef_iload (q := 92) 0 dX0_melt_90 rfl rfl ?_
  refine ef_iadd (q := 93) dX0_melt_92 rfl ?_
  refine ef_guard (fun g5 => ?_)
  refine ef_iastore (j := ((x1 * (8 : Int32)) + x3).toNatClampNeg) (q := 94) rfl g5 dX0_melt_93 rfl rfl ?_
  refine ef_iinc (v := x3 + (1 : Int32)) (lv' := [(3, .int (x3 + (1 : Int32))), (4, .int (if (s.1 2 x1.toNatClampNeg) < y0 then (s.1 2 x1.toNatClampNeg) else y0)), (0, .ref (pl 0)), (1, .int x1), (2, .int x2)]) (q := 97) 4 dX0_melt_94 rfl rfl (by decide) rfl rfl ?_
  refine ef_goto (tgt := 21) dX0_melt_97 (by decide) ?_
  refine ef_sub (lv' := [(0, .ref (pl 0)), (1, .int x1), (2, .int x2), (3, .int (x3 + (1 : Int32)))]) [2, 3, 4, 0] rfl ?_
  exact hrec_21 x1 x2 (x3 + (1 : Int32)) (wrI (wrI s 2 x1.toNatClampNeg ((s.1 2 x1.toNatClampNeg) - (if (s.1 2 x1.toNatClampNeg) < y0 then (s.1 2 x1.toNatClampNeg) else y0))) 3 (((x1 * (8 : Int32)) + x3).toNatClampNeg) ((s.1 3 (((x1 * (8 : Int32)) + x3).toNatClampNeg)) + (if (s.1 2 x1.toNatClampNeg) < y0 then (s.1 2 x1.toNatClampNeg) else y0)))
set_option maxRecDepth 100000 in
set_option maxHeartbeats 4000000 in
theorem okX0_melt_21 {G : GG} {pl : Nat → Nat} {h0 : PH} (rec_2 : Int32 → SS → Option (Unit × SS)) (hrec_2 : ∀ (x1 : Int32) (s : SS), EvF G 1 mX0_melt lyC pl h0 rvU (rec_2 x1 s) 2 [(0, .ref (pl 0)), (1, .int x1)] [] s) : ∀ (n : Nat) (x1 : Int32) (x2 : Int32) (x3 : Int32) (s : SS), EvF G 1 mX0_melt lyC pl h0 rvU (fX0_melt_21 rec_2 n x1 x2 x3 s) 21 [(0, .ref (pl 0)), (1, .int x1), (2, .int x2), (3, .int x3)] [] s := by
  intro n
  induction n with
  | zero => intro x1 x2 x3 s; rw [fX0_melt_21]; exact ef_none
  | succ n ih =>
    intro x1 x2 x3 s
    rw [fX0_melt_21]
    refine ef_iload_n (q := 22) 3 dX0_melt_21 rfl rfl rfl ?_
    refine ef_aload_n (q := 23) 0 dX0_melt_22 rfl rfl rfl ?_
    refine ef_getI (x := s.1 0 0) (q := 26) rfl fl0_9 rfl rfl dX0_melt_23 rfl ?_
    refine ef_if (pt := 100) (pf := 29) (fun _ _ => ev_icmp_ge (tgt := 100) dX0_melt_26 (by decide)) (fun h1 => ?_) (fun h1 => ?_)
    · refine ef_iinc (v := x1 + (1 : Int32)) (lv' := [(1, .int (x1 + (1 : Int32))), (0, .ref (pl 0)), (2, .int x2), (3, .int x3)]) (q := 103) 1 dX0_melt_100 rfl rfl (by decide) rfl rfl ?_
      refine ef_goto (tgt := 2) dX0_melt_103 (by decide) ?_
      refine ef_sub (lv' := [(0, .ref (pl 0)), (1, .int (x1 + (1 : Int32)))]) [1, 0] rfl ?_
      exact hrec_2 (x1 + (1 : Int32)) s
    · refine ef_aload_n (q := 30) 0 dX0_melt_29 rfl rfl rfl ?_
      refine ef_getR (t := 2) (q := 33) rfl fl0_52 rfl rfl dX0_melt_30 rfl ?_
      refine ef_iload_n (q := 34) 1 dX0_melt_33 rfl rfl rfl ?_
      refine ef_guard (fun g2 => ?_)
      refine ef_iaload (x := s.1 2 x1.toNatClampNeg) (q := 35) rfl g2 dX0_melt_34 rfl rfl ?_
      refine ef_if (pt := 100) (pf := 38) (fun _ _ => ev_if_le (tgt := 100) dX0_melt_35 (by decide)) (fun h3 => ?_) (fun h3 => ?_)
      · refine ef_iinc (v := x1 + (1 : Int32)) (lv' := [(1, .int (x1 + (1 : Int32))), (0, .ref (pl 0)), (2, .int x2), (3, .int x3)]) (q := 103) 1 dX0_melt_100 rfl rfl (by decide) rfl rfl ?_
        refine ef_goto (tgt := 2) dX0_melt_103 (by decide) ?_
        refine ef_sub (lv' := [(0, .ref (pl 0)), (1, .int (x1 + (1 : Int32)))]) [1, 0] rfl ?_
        exact hrec_2 (x1 + (1 : Int32)) s
      · refine ef_aload_n (q := 39) 0 dX0_melt_38 rfl rfl rfl ?_
        refine ef_iload_n (q := 40) 3 dX0_melt_39 rfl rfl rfl ?_
        refine ef_invVI0 (k := 0) (As := [.int x3]) (rest := []) (q := 43) (okX0_isSunny x3) rfl calX0_isSunny ml0_118 (by decide) rfl rfl rfl (Nat.le_of_ble_eq_true rfl) dX0_melt_40 rfl (fun x4 => ?_)
        refine ef_if (pt := 55) (pf := 46) (fun _ _ => ev_if_eq (tgt := 55) dX0_melt_43 (by decide)) (fun h5 => ?_) (fun h5 => ?_)
        · refine ef_iload_n (q := 56) 2 dX0_melt_55 rfl rfl rfl ?_
          refine ef_sub (lv' := [(0, .ref (pl 0)), (1, .int x1), (2, .int x2), (3, .int x3)]) [0, 1, 2, 3] rfl ?_
          exact okX0_melt_56 rec_2 hrec_2 (fX0_melt_21 rec_2 n) ih x1 x2 x3 x2 x4.2
        · refine ef_aload_n (q := 47) 0 dX0_melt_46 rfl rfl rfl ?_
          refine ef_getR (t := 1) (q := 50) rfl fl0_48 rfl rfl dX0_melt_47 rfl ?_
          refine ef_iload_n (q := 51) 1 dX0_melt_50 rfl rfl rfl ?_
          refine ef_guard (fun g6 => ?_)
          refine ef_iaload (x := x4.2.1 1 x1.toNatClampNeg) (q := 52) rfl g6 dX0_melt_51 rfl rfl ?_
          refine ef_goto (tgt := 56) dX0_melt_52 (by decide) ?_
          refine ef_sub (lv' := [(0, .ref (pl 0)), (1, .int x1), (2, .int x2), (3, .int x3)]) [0, 1, 2, 3] rfl ?_
          exact okX0_melt_56 rec_2 hrec_2 (fX0_melt_21 rec_2 n) ih x1 x2 x3 (x4.2.1 1 x1.toNatClampNeg) x4.2
set_option maxRecDepth 100000 in
set_option maxHeartbeats 4000000 in
theorem okX0_melt_2 {G : GG} {pl : Nat → Nat} {h0 : PH} : ∀ (n : Nat) (x1 : Int32) (s : SS), EvF G 1 mX0_melt lyC pl h0 rvU (fX0_melt_2 n x1 s) 2 [(0, .ref (pl 0)), (1, .int x1)] [] s := by
  intro n
  induction n with
  | zero => intro x1 s; rw [fX0_melt_2]; exact ef_none
  | succ n ih =>
    intro x1 s
    rw [fX0_melt_2]
    refine ef_iload_n (q := 3) 1 dX0_melt_2 rfl rfl rfl ?_
    refine ef_aload_n (q := 4) 0 dX0_melt_3 rfl rfl rfl ?_
    refine ef_getI (x := s.1 0 11) (q := 7) rfl fl0_45 rfl rfl dX0_melt_4 rfl ?_
    refine ef_if (pt := 106) (pf := 10) (fun _ _ => ev_icmp_ge (tgt := 106) dX0_melt_7 (by decide)) (fun h1 => ?_) (fun h1 => ?_)
    · exact ef_vret rfl dX0_melt_106
    · refine ef_aload_n (q := 11) 0 dX0_melt_10 rfl rfl rfl ?_
      refine ef_getR (t := 1) (q := 14) rfl fl0_48 rfl rfl dX0_melt_11 rfl ?_
      refine ef_iload_n (q := 15) 1 dX0_melt_14 rfl rfl rfl ?_
      refine ef_guard (fun g2 => ?_)
      refine ef_iaload (x := s.1 1 x1.toNatClampNeg) (q := 16) rfl g2 dX0_melt_15 rfl rfl ?_
      refine ef_iconst (v := (2 : Int32)) (q := 17) dX0_melt_16 (by decide) rfl ?_
      refine ef_idiv (q := 18) dX0_melt_17 (by decide) rfl ?_
      refine ef_istore_n (lv' := [(2, .int ((s.1 1 x1.toNatClampNeg) / (2 : Int32))), (0, .ref (pl 0)), (1, .int x1)]) (q := 19) dX0_melt_18 rfl (by decide) rfl rfl ?_
      refine ef_iconst (v := (0 : Int32)) (q := 20) dX0_melt_19 (by decide) rfl ?_
      refine ef_istore_n (lv' := [(3, .int (0 : Int32)), (2, .int ((s.1 1 x1.toNatClampNeg) / (2 : Int32))), (0, .ref (pl 0)), (1, .int x1)]) (q := 21) dX0_melt_20 rfl (by decide) rfl rfl ?_
      refine ef_sub (lv' := [(0, .ref (pl 0)), (1, .int x1), (2, .int ((s.1 1 x1.toNatClampNeg) / (2 : Int32))), (3, .int (0 : Int32))]) [2, 3, 1, 0] rfl ?_
      exact okX0_melt_21 (fX0_melt_2 n) ih FU x1 ((s.1 1 x1.toNatClampNeg) / (2 : Int32)) (0 : Int32) s
set_option maxRecDepth 100000 in
set_option maxHeartbeats 4000000 in
theorem okX0_melt_0 {G : GG} {pl : Nat → Nat} {h0 : PH} (s : SS) : EvF G 1 mX0_melt lyC pl h0 rvU (fX0_melt_0 s) 0 [(0, .ref (pl 0))] [] s := by
  unfold fX0_melt_0
  refine ef_iconst (v := (0 : Int32)) (q := 1) dX0_melt_0 (by decide) rfl ?_
  refine ef_istore_n (lv' := [(1, .int (0 : Int32)), (0, .ref (pl 0))]) (q := 2) dX0_melt_1 rfl (by decide) rfl rfl ?_
  refine ef_sub (lv' := [(0, .ref (pl 0)), (1, .int (0 : Int32))]) [1, 0] rfl ?_
  exact okX0_melt_2 FU (0 : Int32) s
theorem okX0_melt : MtF 1 mX0_melt lyC rvU (fun _ pl => [.ref (pl 0)]) (fX0_melt) := by
  refine MtF.of (by decide +kernel) rfl (fun _ pl => Nat.le_of_ble_eq_true rfl) (fun G pl h0 s => ?_)
  refine ef_sub (lv := [(0, .ref (pl 0))]) (lv' := [(0, .ref (pl 0))]) [0] rfl ?_
  exact okX0_melt_0  s
-- X0_runDown
theorem dX0_runDown_0 : decode cX0_runDown 0 = .ok (.aload_n 0, 1) := by decide +kernel
theorem dX0_runDown_1 : decode cX0_runDown 1 = .ok (.getfield 45, 3) := by decide +kernel
theorem dX0_runDown_4 : decode cX0_runDown 4 = .ok (.iconst 1, 1) := by decide +kernel
theorem dX0_runDown_5 : decode cX0_runDown 5 = .ok (.isub, 1) := by decide +kernel
theorem dX0_runDown_6 : decode cX0_runDown 6 = .ok (.istore_n 1, 1) := by decide +kernel
theorem dX0_runDown_7 : decode cX0_runDown 7 = .ok (.iload_n 1, 1) := by decide +kernel
theorem dX0_runDown_8 : decode cX0_runDown 8 = .ok (.ifCond .lt 95, 3) := by decide +kernel
theorem dX0_runDown_11 : decode cX0_runDown 11 = .ok (.iconst 0, 1) := by decide +kernel
theorem dX0_runDown_12 : decode cX0_runDown 12 = .ok (.istore_n 2, 1) := by decide +kernel
theorem dX0_runDown_13 : decode cX0_runDown 13 = .ok (.iload_n 2, 1) := by decide +kernel
theorem dX0_runDown_14 : decode cX0_runDown 14 = .ok (.aload_n 0, 1) := by decide +kernel
theorem dX0_runDown_15 : decode cX0_runDown 15 = .ok (.getfield 9, 3) := by decide +kernel
theorem dX0_runDown_18 : decode cX0_runDown 18 = .ok (.if_icmp .ge 79, 3) := by decide +kernel
theorem dX0_runDown_21 : decode cX0_runDown 21 = .ok (.iload_n 1, 1) := by decide +kernel
theorem dX0_runDown_22 : decode cX0_runDown 22 = .ok (.bipush 8, 2) := by decide +kernel
theorem dX0_runDown_24 : decode cX0_runDown 24 = .ok (.imul, 1) := by decide +kernel
theorem dX0_runDown_25 : decode cX0_runDown 25 = .ok (.iload_n 2, 1) := by decide +kernel
theorem dX0_runDown_26 : decode cX0_runDown 26 = .ok (.iadd, 1) := by decide +kernel
theorem dX0_runDown_27 : decode cX0_runDown 27 = .ok (.istore_n 3, 1) := by decide +kernel
theorem dX0_runDown_28 : decode cX0_runDown 28 = .ok (.aload_n 0, 1) := by decide +kernel
theorem dX0_runDown_29 : decode cX0_runDown 29 = .ok (.getfield 55, 3) := by decide +kernel
theorem dX0_runDown_32 : decode cX0_runDown 32 = .ok (.iload_n 3, 1) := by decide +kernel
theorem dX0_runDown_33 : decode cX0_runDown 33 = .ok (.iaload, 1) := by decide +kernel
theorem dX0_runDown_34 : decode cX0_runDown 34 = .ok (.aload_n 0, 1) := by decide +kernel
theorem dX0_runDown_35 : decode cX0_runDown 35 = .ok (.getfield 21, 3) := by decide +kernel
theorem dX0_runDown_38 : decode cX0_runDown 38 = .ok (.isub, 1) := by decide +kernel
theorem dX0_runDown_39 : decode cX0_runDown 39 = .ok (.istore 4, 2) := by decide +kernel
theorem dX0_runDown_41 : decode cX0_runDown 41 = .ok (.iload 4, 2) := by decide +kernel
theorem dX0_runDown_43 : decode cX0_runDown 43 = .ok (.ifCond .gt 6, 3) := by decide +kernel
theorem dX0_runDown_46 : decode cX0_runDown 46 = .ok (.goto 45, 3) := by decide +kernel
theorem dX0_runDown_49 : decode cX0_runDown 49 = .ok (.aload_n 0, 1) := by decide +kernel
theorem dX0_runDown_50 : decode cX0_runDown 50 = .ok (.getfield 55, 3) := by decide +kernel
theorem dX0_runDown_53 : decode cX0_runDown 53 = .ok (.iload_n 3, 1) := by decide +kernel
theorem dX0_runDown_54 : decode cX0_runDown 54 = .ok (.aload_n 0, 1) := by decide +kernel
theorem dX0_runDown_55 : decode cX0_runDown 55 = .ok (.getfield 21, 3) := by decide +kernel
theorem dX0_runDown_58 : decode cX0_runDown 58 = .ok (.iastore, 1) := by decide +kernel
theorem dX0_runDown_59 : decode cX0_runDown 59 = .ok (.iload_n 1, 1) := by decide +kernel
theorem dX0_runDown_60 : decode cX0_runDown 60 = .ok (.ifCond .ne 17, 3) := by decide +kernel
theorem dX0_runDown_63 : decode cX0_runDown 63 = .ok (.aload_n 0, 1) := by decide +kernel
theorem dX0_runDown_64 : decode cX0_runDown 64 = .ok (.getfield 58, 3) := by decide +kernel
theorem dX0_runDown_67 : decode cX0_runDown 67 = .ok (.iload_n 2, 1) := by decide +kernel
theorem dX0_runDown_68 : decode cX0_runDown 68 = .ok (.dup2, 1) := by decide +kernel
theorem dX0_runDown_69 : decode cX0_runDown 69 = .ok (.iaload, 1) := by decide +kernel
theorem dX0_runDown_70 : decode cX0_runDown 70 = .ok (.iload 4, 2) := by decide +kernel
theorem dX0_runDown_72 : decode cX0_runDown 72 = .ok (.iadd, 1) := by decide +kernel
theorem dX0_runDown_73 : decode cX0_runDown 73 = .ok (.iastore, 1) := by decide +kernel
theorem dX0_runDown_74 : decode cX0_runDown 74 = .ok (.goto 17, 3) := by decide +kernel
theorem dX0_runDown_77 : decode cX0_runDown 77 = .ok (.aload_n 0, 1) := by decide +kernel
theorem dX0_runDown_78 : decode cX0_runDown 78 = .ok (.getfield 55, 3) := by decide +kernel
theorem dX0_runDown_81 : decode cX0_runDown 81 = .ok (.iload_n 3, 1) := by decide +kernel
theorem dX0_runDown_82 : decode cX0_runDown 82 = .ok (.bipush 8, 2) := by decide +kernel
theorem dX0_runDown_84 : decode cX0_runDown 84 = .ok (.isub, 1) := by decide +kernel
theorem dX0_runDown_85 : decode cX0_runDown 85 = .ok (.dup2, 1) := by decide +kernel
theorem dX0_runDown_86 : decode cX0_runDown 86 = .ok (.iaload, 1) := by decide +kernel
theorem dX0_runDown_87 : decode cX0_runDown 87 = .ok (.iload 4, 2) := by decide +kernel
theorem dX0_runDown_89 : decode cX0_runDown 89 = .ok (.iadd, 1) := by decide +kernel
theorem dX0_runDown_90 : decode cX0_runDown 90 = .ok (.iastore, 1) := by decide +kernel
theorem dX0_runDown_91 : decode cX0_runDown 91 = .ok (.iinc 2 1, 3) := by decide +kernel
theorem dX0_runDown_94 : decode cX0_runDown 94 = .ok (.goto (-81), 3) := by decide +kernel
theorem dX0_runDown_97 : decode cX0_runDown 97 = .ok (.iinc 1 (-1), 3) := by decide +kernel
theorem dX0_runDown_100 : decode cX0_runDown 100 = .ok (.goto (-93), 3) := by decide +kernel
theorem dX0_runDown_103 : decode cX0_runDown 103 = .ok (.return_, 1) := by decide +kernel
def fX0_runDown_13 (rec_7 : Int32 → SS → Option (Unit × SS)) : Nat → Int32 → Int32 → SS → Option (Unit × SS)
  | 0, _, _, _ => none
  | n + 1, x1, x2, s => if (s.1 0 0) ≤ x2 then (rec_7 (x1 + (-1 : Int32)) s) else (if ixB ((x1 * (8 : Int32)) + x2) 24 then (if 0 < ((s.1 3 (((x1 * (8 : Int32)) + x2).toNatClampNeg)) - (s.1 0 3)) then (if ixB ((x1 * (8 : Int32)) + x2) 24 then (if ¬ x1 = 0 then (if ixB (((x1 * (8 : Int32)) + x2) - (8 : Int32)) 24 then (if ixB (((x1 * (8 : Int32)) + x2) - (8 : Int32)) 24 then (fX0_runDown_13 rec_7 n x1 (x2 + (1 : Int32)) (wrI (wrI s 3 (((x1 * (8 : Int32)) + x2).toNatClampNeg) (s.1 0 3)) 3 ((((x1 * (8 : Int32)) + x2) - (8 : Int32)).toNatClampNeg) (((wrI s 3 (((x1 * (8 : Int32)) + x2).toNatClampNeg) (s.1 0 3)).1 3 ((((x1 * (8 : Int32)) + x2) - (8 : Int32)).toNatClampNeg)) + ((s.1 3 (((x1 * (8 : Int32)) + x2).toNatClampNeg)) - (s.1 0 3))))) else none) else none) else (if ixB x2 8 then (if ixB x2 8 then (fX0_runDown_13 rec_7 n x1 (x2 + (1 : Int32)) (wrI (wrI s 3 (((x1 * (8 : Int32)) + x2).toNatClampNeg) (s.1 0 3)) 4 x2.toNatClampNeg ((s.1 4 x2.toNatClampNeg) + ((s.1 3 (((x1 * (8 : Int32)) + x2).toNatClampNeg)) - (s.1 0 3))))) else none) else none)) else none) else (fX0_runDown_13 rec_7 n x1 (x2 + (1 : Int32)) s)) else none)
def fX0_runDown_7 : Nat → Int32 → SS → Option (Unit × SS)
  | 0, _, _ => none
  | n + 1, x1, s => if x1 < 0 then (some ((), s)) else (fX0_runDown_13 (fX0_runDown_7 n) FU x1 (0 : Int32) s)
def fX0_runDown_0 (s : SS) : Option (Unit × SS) := fX0_runDown_7 FU ((s.1 0 11) - (1 : Int32)) s
def fX0_runDown (s : SS) : Option (Unit × SS) := fX0_runDown_0 s
set_option maxRecDepth 100000 in
set_option maxHeartbeats 4000000 in
theorem okX0_runDown_13 {G : GG} {pl : Nat → Nat} {h0 : PH} (rec_7 : Int32 → SS → Option (Unit × SS)) (hrec_7 : ∀ (x1 : Int32) (s : SS), EvF G 0 mX0_runDown lyC pl h0 rvU (rec_7 x1 s) 7 [(0, .ref (pl 0)), (1, .int x1)] [] s) : ∀ (n : Nat) (x1 : Int32) (x2 : Int32) (s : SS), EvF G 0 mX0_runDown lyC pl h0 rvU (fX0_runDown_13 rec_7 n x1 x2 s) 13 [(0, .ref (pl 0)), (1, .int x1), (2, .int x2)] [] s := by
  intro n
  induction n with
  | zero => intro x1 x2 s; rw [fX0_runDown_13]; exact ef_none
  | succ n ih =>
    intro x1 x2 s
    rw [fX0_runDown_13]
    refine ef_iload_n (q := 14) 2 dX0_runDown_13 rfl rfl rfl ?_
    refine ef_aload_n (q := 15) 0 dX0_runDown_14 rfl rfl rfl ?_
    refine ef_getI (x := s.1 0 0) (q := 18) rfl fl0_9 rfl rfl dX0_runDown_15 rfl ?_
    refine ef_if (pt := 97) (pf := 21) (fun _ _ => ev_icmp_ge (tgt := 97) dX0_runDown_18 (by decide)) (fun h1 => ?_) (fun h1 => ?_)
    · refine ef_iinc (v := x1 + (-1 : Int32)) (lv' := [(1, .int (x1 + (-1 : Int32))), (0, .ref (pl 0)), (2, .int x2)]) (q := 100) 1 dX0_runDown_97 rfl rfl (by decide) rfl rfl ?_
      refine ef_goto (tgt := 7) dX0_runDown_100 (by decide) ?_
      refine ef_sub (lv' := [(0, .ref (pl 0)), (1, .int (x1 + (-1 : Int32)))]) [1, 0] rfl ?_
      exact hrec_7 (x1 + (-1 : Int32)) s
    · refine ef_iload_n (q := 22) 1 dX0_runDown_21 rfl rfl rfl ?_
      refine ef_bipush (v := (8 : Int32)) (q := 24) dX0_runDown_22 (by decide) rfl ?_
      refine ef_imul (q := 25) dX0_runDown_24 rfl ?_
      refine ef_iload_n (q := 26) 2 dX0_runDown_25 rfl rfl rfl ?_
      refine ef_iadd (q := 27) dX0_runDown_26 rfl ?_
      refine ef_istore_n (lv' := [(3, .int ((x1 * (8 : Int32)) + x2)), (0, .ref (pl 0)), (1, .int x1), (2, .int x2)]) (q := 28) dX0_runDown_27 rfl (by decide) rfl rfl ?_
      refine ef_aload_n (q := 29) 1 dX0_runDown_28 rfl rfl rfl ?_
      refine ef_getR (t := 3) (q := 32) rfl fl0_55 rfl rfl dX0_runDown_29 rfl ?_
      refine ef_iload_n (q := 33) 0 dX0_runDown_32 rfl rfl rfl ?_
      refine ef_guard (fun g2 => ?_)
      refine ef_iaload (x := s.1 3 (((x1 * (8 : Int32)) + x2).toNatClampNeg)) (q := 34) rfl g2 dX0_runDown_33 rfl rfl ?_
      refine ef_aload_n (q := 35) 1 dX0_runDown_34 rfl rfl rfl ?_
      refine ef_getI (x := s.1 0 3) (q := 38) rfl fl0_21 rfl rfl dX0_runDown_35 rfl ?_
      refine ef_isub (q := 39) dX0_runDown_38 rfl ?_
      refine ef_istore (lv' := [(4, .int ((s.1 3 (((x1 * (8 : Int32)) + x2).toNatClampNeg)) - (s.1 0 3))), (3, .int ((x1 * (8 : Int32)) + x2)), (0, .ref (pl 0)), (1, .int x1), (2, .int x2)]) (q := 41) dX0_runDown_39 (by decide) rfl rfl ?_
      refine ef_iload (q := 43) 0 dX0_runDown_41 rfl rfl ?_
      refine ef_if (pt := 49) (pf := 46) (fun _ _ => ev_if_gt (tgt := 49) dX0_runDown_43 (by decide)) (fun h3 => ?_) (fun h3 => ?_)
      · refine ef_aload_n (q := 50) 2 dX0_runDown_49 rfl rfl rfl ?_
        refine ef_getR (t := 3) (q := 53) rfl fl0_55 rfl rfl dX0_runDown_50 rfl ?_
        refine ef_iload_n (q := 54) 1 dX0_runDown_53 rfl rfl rfl ?_
        refine ef_aload_n (q := 55) 2 dX0_runDown_54 rfl rfl rfl ?_
        refine ef_getI (x := s.1 0 3) (q := 58) rfl fl0_21 rfl rfl dX0_runDown_55 rfl ?_
        refine ef_guard (fun g4 => ?_)
        refine ef_iastore (j := ((x1 * (8 : Int32)) + x2).toNatClampNeg) (q := 59) rfl g4 dX0_runDown_58 rfl rfl ?_
        refine ef_iload_n (q := 60) 3 dX0_runDown_59 rfl rfl rfl ?_
        refine ef_if (pt := 77) (pf := 63) (fun _ _ => ev_if_ne (tgt := 77) dX0_runDown_60 (by decide)) (fun h5 => ?_) (fun h5 => ?_)
        · refine ef_aload_n (q := 78) 2 dX0_runDown_77 rfl rfl rfl ?_
          refine ef_getR (t := 3) (q := 81) rfl fl0_55 rfl rfl dX0_runDown_78 rfl ?_
          refine ef_iload_n (q := 82) 1 dX0_runDown_81 rfl rfl rfl ?_
          refine ef_bipush (v := (8 : Int32)) (q := 84) dX0_runDown_82 (by decide) rfl ?_
          refine ef_isub (q := 85) dX0_runDown_84 rfl ?_
          refine ef_dup2_11 (q := 86) dX0_runDown_85 rfl rfl rfl ?_
          refine ef_guard (fun g6 => ?_)
          refine ef_iaload (x := (wrI s 3 (((x1 * (8 : Int32)) + x2).toNatClampNeg) (s.1 0 3)).1 3 ((((x1 * (8 : Int32)) + x2) - (8 : Int32)).toNatClampNeg)) (q := 87) rfl g6 dX0_runDown_86 rfl rfl ?_
          refine ef_iload (q := 89) 0 dX0_runDown_87 rfl rfl ?_
          refine ef_iadd (q := 90) dX0_runDown_89 rfl ?_
          refine ef_guard (fun g7 => ?_)
          refine ef_iastore (j := (((x1 * (8 : Int32)) + x2) - (8 : Int32)).toNatClampNeg) (q := 91) rfl g7 dX0_runDown_90 rfl rfl ?_
          refine ef_iinc (v := x2 + (1 : Int32)) (lv' := [(2, .int (x2 + (1 : Int32))), (4, .int ((s.1 3 (((x1 * (8 : Int32)) + x2).toNatClampNeg)) - (s.1 0 3))), (3, .int ((x1 * (8 : Int32)) + x2)), (0, .ref (pl 0)), (1, .int x1)]) (q := 94) 4 dX0_runDown_91 rfl rfl (by decide) rfl rfl ?_
          refine ef_goto (tgt := 13) dX0_runDown_94 (by decide) ?_
          refine ef_sub (lv' := [(0, .ref (pl 0)), (1, .int x1), (2, .int (x2 + (1 : Int32)))]) [3, 4, 0] rfl ?_
          exact ih x1 (x2 + (1 : Int32)) (wrI (wrI s 3 (((x1 * (8 : Int32)) + x2).toNatClampNeg) (s.1 0 3)) 3 ((((x1 * (8 : Int32)) + x2) - (8 : Int32)).toNatClampNeg) (((wrI s 3 (((x1 * (8 : Int32)) + x2).toNatClampNeg) (s.1 0 3)).1 3 ((((x1 * (8 : Int32)) + x2) - (8 : Int32)).toNatClampNeg)) + ((s.1 3 (((x1 * (8 : Int32)) + x2).toNatClampNeg)) - (s.1 0 3))))
        · refine ef_aload_n (q := 64) 2 dX0_runDown_63 rfl rfl rfl ?_
          refine ef_getR (t := 4) (q := 67) rfl fl0_58 rfl rfl dX0_runDown_64 rfl ?_
          refine ef_iload_n (q := 68) 4 dX0_runDown_67 rfl rfl rfl ?_
          refine ef_dup2_11 (q := 69) dX0_runDown_68 rfl rfl rfl ?_
          refine ef_guard (fun g8 => ?_)
          refine ef_iaload (x := s.1 4 x2.toNatClampNeg) (q := 70) rfl g8 dX0_runDown_69 rfl rfl ?_
          refine ef_iload (q := 72) 0 dX0_runDown_70 rfl rfl ?_
          refine ef_iadd (q := 73) dX0_runDown_72 rfl ?_
          refine ef_guard (fun g9 => ?_)
          refine ef_iastore (j := x2.toNatClampNeg) (q := 74) rfl g9 dX0_runDown_73 rfl rfl ?_
          refine ef_goto (tgt := 91) dX0_runDown_74 (by decide) ?_
          refine ef_iinc (v := x2 + (1 : Int32)) (lv' := [(2, .int (x2 + (1 : Int32))), (4, .int ((s.1 3 (((x1 * (8 : Int32)) + x2).toNatClampNeg)) - (s.1 0 3))), (3, .int ((x1 * (8 : Int32)) + x2)), (0, .ref (pl 0)), (1, .int x1)]) (q := 94) 4 dX0_runDown_91 rfl rfl (by decide) rfl rfl ?_
          refine ef_goto (tgt := 13) dX0_runDown_94 (by decide) ?_
          refine ef_sub (lv' := [(0, .ref (pl 0)), (1, .int x1), (2, .int (x2 + (1 : Int32)))]) [3, 4, 0] rfl ?_
          exact ih x1 (x2 + (1 : Int32)) (wrI (wrI s 3 (((x1 * (8 : Int32)) + x2).toNatClampNeg) (s.1 0 3)) 4 x2.toNatClampNeg ((s.1 4 x2.toNatClampNeg) + ((s.1 3 (((x1 * (8 : Int32)) + x2).toNatClampNeg)) - (s.1 0 3))))
      · refine ef_goto (tgt := 91) dX0_runDown_46 (by decide) ?_
        refine ef_iinc (v := x2 + (1 : Int32)) (lv' := [(2, .int (x2 + (1 : Int32))), (4, .int ((s.1 3 (((x1 * (8 : Int32)) + x2).toNatClampNeg)) - (s.1 0 3))), (3, .int ((x1 * (8 : Int32)) + x2)), (0, .ref (pl 0)), (1, .int x1)]) (q := 94) 4 dX0_runDown_91 rfl rfl (by decide) rfl rfl ?_
        refine ef_goto (tgt := 13) dX0_runDown_94 (by decide) ?_
        refine ef_sub (lv' := [(0, .ref (pl 0)), (1, .int x1), (2, .int (x2 + (1 : Int32)))]) [3, 4, 0] rfl ?_
        exact ih x1 (x2 + (1 : Int32)) s
set_option maxRecDepth 100000 in
set_option maxHeartbeats 4000000 in
theorem okX0_runDown_7 {G : GG} {pl : Nat → Nat} {h0 : PH} : ∀ (n : Nat) (x1 : Int32) (s : SS), EvF G 0 mX0_runDown lyC pl h0 rvU (fX0_runDown_7 n x1 s) 7 [(0, .ref (pl 0)), (1, .int x1)] [] s := by
  intro n
  induction n with
  | zero => intro x1 s; rw [fX0_runDown_7]; exact ef_none
  | succ n ih =>
    intro x1 s
    rw [fX0_runDown_7]
    refine ef_iload_n (q := 8) 1 dX0_runDown_7 rfl rfl rfl ?_
    refine ef_if (pt := 103) (pf := 11) (fun _ _ => ev_if_lt (tgt := 103) dX0_runDown_8 (by decide)) (fun h1 => ?_) (fun h1 => ?_)
    · exact ef_vret rfl dX0_runDown_103
    · refine ef_iconst (v := (0 : Int32)) (q := 12) dX0_runDown_11 (by decide) rfl ?_
      refine ef_istore_n (lv' := [(2, .int (0 : Int32)), (0, .ref (pl 0)), (1, .int x1)]) (q := 13) dX0_runDown_12 rfl (by decide) rfl rfl ?_
      refine ef_sub (lv' := [(0, .ref (pl 0)), (1, .int x1), (2, .int (0 : Int32))]) [1, 2, 0] rfl ?_
      exact okX0_runDown_13 (fX0_runDown_7 n) ih FU x1 (0 : Int32) s
set_option maxRecDepth 100000 in
set_option maxHeartbeats 4000000 in
theorem okX0_runDown_0 {G : GG} {pl : Nat → Nat} {h0 : PH} (s : SS) : EvF G 0 mX0_runDown lyC pl h0 rvU (fX0_runDown_0 s) 0 [(0, .ref (pl 0))] [] s := by
  unfold fX0_runDown_0
  refine ef_aload_n (q := 1) 0 dX0_runDown_0 rfl rfl rfl ?_
  refine ef_getI (x := s.1 0 11) (q := 4) rfl fl0_45 rfl rfl dX0_runDown_1 rfl ?_
  refine ef_iconst (v := (1 : Int32)) (q := 5) dX0_runDown_4 (by decide) rfl ?_
  refine ef_isub (q := 6) dX0_runDown_5 rfl ?_
  refine ef_istore_n (lv' := [(1, .int ((s.1 0 11) - (1 : Int32))), (0, .ref (pl 0))]) (q := 7) dX0_runDown_6 rfl (by decide) rfl rfl ?_
  refine ef_sub (lv' := [(0, .ref (pl 0)), (1, .int ((s.1 0 11) - (1 : Int32)))]) [1, 0] rfl ?_
  exact okX0_runDown_7 FU ((s.1 0 11) - (1 : Int32)) s
theorem okX0_runDown : MtF 0 mX0_runDown lyC rvU (fun _ pl => [.ref (pl 0)]) (fX0_runDown) := by
  refine MtF.of (by decide +kernel) rfl (fun _ pl => Nat.le_of_ble_eq_true rfl) (fun G pl h0 s => ?_)
  refine ef_sub (lv := [(0, .ref (pl 0))]) (lv' := [(0, .ref (pl 0))]) [0] rfl ?_
  exact okX0_runDown_0  s
-- X0_fallOff
theorem dX0_fallOff_0 : decode cX0_fallOff 0 = .ok (.iconst 0, 1) := by decide +kernel
theorem dX0_fallOff_1 : decode cX0_fallOff 1 = .ok (.istore_n 1, 1) := by decide +kernel
theorem dX0_fallOff_2 : decode cX0_fallOff 2 = .ok (.iload_n 1, 1) := by decide +kernel
theorem dX0_fallOff_3 : decode cX0_fallOff 3 = .ok (.aload_n 0, 1) := by decide +kernel
theorem dX0_fallOff_4 : decode cX0_fallOff 4 = .ok (.getfield 9, 3) := by decide +kernel
theorem dX0_fallOff_7 : decode cX0_fallOff 7 = .ok (.if_icmp .ge 71, 3) := by decide +kernel
theorem dX0_fallOff_10 : decode cX0_fallOff 10 = .ok (.aload_n 0, 1) := by decide +kernel
theorem dX0_fallOff_11 : decode cX0_fallOff 11 = .ok (.getfield 58, 3) := by decide +kernel
theorem dX0_fallOff_14 : decode cX0_fallOff 14 = .ok (.iload_n 1, 1) := by decide +kernel
theorem dX0_fallOff_15 : decode cX0_fallOff 15 = .ok (.iaload, 1) := by decide +kernel
theorem dX0_fallOff_16 : decode cX0_fallOff 16 = .ok (.aload_n 0, 1) := by decide +kernel
theorem dX0_fallOff_17 : decode cX0_fallOff 17 = .ok (.getfield 24, 3) := by decide +kernel
theorem dX0_fallOff_20 : decode cX0_fallOff 20 = .ok (.if_icmp .le 33, 3) := by decide +kernel
theorem dX0_fallOff_23 : decode cX0_fallOff 23 = .ok (.aload_n 0, 1) := by decide +kernel
theorem dX0_fallOff_24 : decode cX0_fallOff 24 = .ok (.dup, 1) := by decide +kernel
theorem dX0_fallOff_25 : decode cX0_fallOff 25 = .ok (.getfield 36, 3) := by decide +kernel
theorem dX0_fallOff_28 : decode cX0_fallOff 28 = .ok (.aload_n 0, 1) := by decide +kernel
theorem dX0_fallOff_29 : decode cX0_fallOff 29 = .ok (.getfield 58, 3) := by decide +kernel
theorem dX0_fallOff_32 : decode cX0_fallOff 32 = .ok (.iload_n 1, 1) := by decide +kernel
theorem dX0_fallOff_33 : decode cX0_fallOff 33 = .ok (.iaload, 1) := by decide +kernel
theorem dX0_fallOff_34 : decode cX0_fallOff 34 = .ok (.aload_n 0, 1) := by decide +kernel
theorem dX0_fallOff_35 : decode cX0_fallOff 35 = .ok (.getfield 24, 3) := by decide +kernel
theorem dX0_fallOff_38 : decode cX0_fallOff 38 = .ok (.isub, 1) := by decide +kernel
theorem dX0_fallOff_39 : decode cX0_fallOff 39 = .ok (.iadd, 1) := by decide +kernel
theorem dX0_fallOff_40 : decode cX0_fallOff 40 = .ok (.putfield 36, 3) := by decide +kernel
theorem dX0_fallOff_43 : decode cX0_fallOff 43 = .ok (.aload_n 0, 1) := by decide +kernel
theorem dX0_fallOff_44 : decode cX0_fallOff 44 = .ok (.getfield 58, 3) := by decide +kernel
theorem dX0_fallOff_47 : decode cX0_fallOff 47 = .ok (.iload_n 1, 1) := by decide +kernel
theorem dX0_fallOff_48 : decode cX0_fallOff 48 = .ok (.aload_n 0, 1) := by decide +kernel
theorem dX0_fallOff_49 : decode cX0_fallOff 49 = .ok (.getfield 24, 3) := by decide +kernel
theorem dX0_fallOff_52 : decode cX0_fallOff 52 = .ok (.iastore, 1) := by decide +kernel
theorem dX0_fallOff_53 : decode cX0_fallOff 53 = .ok (.aload_n 0, 1) := by decide +kernel
theorem dX0_fallOff_54 : decode cX0_fallOff 54 = .ok (.getfield 58, 3) := by decide +kernel
theorem dX0_fallOff_57 : decode cX0_fallOff 57 = .ok (.iload_n 1, 1) := by decide +kernel
theorem dX0_fallOff_58 : decode cX0_fallOff 58 = .ok (.iaload, 1) := by decide +kernel
theorem dX0_fallOff_59 : decode cX0_fallOff 59 = .ok (.ifCond .le 13, 3) := by decide +kernel
theorem dX0_fallOff_62 : decode cX0_fallOff 62 = .ok (.aload_n 0, 1) := by decide +kernel
theorem dX0_fallOff_63 : decode cX0_fallOff 63 = .ok (.dup, 1) := by decide +kernel
theorem dX0_fallOff_64 : decode cX0_fallOff 64 = .ok (.getfield 42, 3) := by decide +kernel
theorem dX0_fallOff_67 : decode cX0_fallOff 67 = .ok (.iconst 1, 1) := by decide +kernel
theorem dX0_fallOff_68 : decode cX0_fallOff 68 = .ok (.iadd, 1) := by decide +kernel
theorem dX0_fallOff_69 : decode cX0_fallOff 69 = .ok (.putfield 42, 3) := by decide +kernel
theorem dX0_fallOff_72 : decode cX0_fallOff 72 = .ok (.iinc 1 1, 3) := by decide +kernel
theorem dX0_fallOff_75 : decode cX0_fallOff 75 = .ok (.goto (-73), 3) := by decide +kernel
theorem dX0_fallOff_78 : decode cX0_fallOff 78 = .ok (.return_, 1) := by decide +kernel
def fX0_fallOff_53 (rec_2 : Int32 → SS → Option (Unit × SS)) (x1 : Int32) (s : SS) : Option (Unit × SS) := if ixB x1 8 then (if (s.1 4 x1.toNatClampNeg) ≤ 0 then (rec_2 (x1 + (1 : Int32)) s) else (rec_2 (x1 + (1 : Int32)) (wrI s 0 10 ((s.1 0 10) + (1 : Int32))))) else none
def fX0_fallOff_2 : Nat → Int32 → SS → Option (Unit × SS)
  | 0, _, _ => none
  | n + 1, x1, s => if (s.1 0 0) ≤ x1 then (some ((), s)) else (if ixB x1 8 then (if (s.1 4 x1.toNatClampNeg) ≤ (s.1 0 4) then (fX0_fallOff_53 (fX0_fallOff_2 n) x1 s) else (if ixB x1 8 then (if ixB x1 8 then (fX0_fallOff_53 (fX0_fallOff_2 n) x1 (wrI (wrI s 0 8 ((s.1 0 8) + ((s.1 4 x1.toNatClampNeg) - (s.1 0 4)))) 4 x1.toNatClampNeg (s.1 0 4))) else none) else none)) else none)
def fX0_fallOff_0 (s : SS) : Option (Unit × SS) := fX0_fallOff_2 FU (0 : Int32) s
def fX0_fallOff (s : SS) : Option (Unit × SS) := fX0_fallOff_0 s
set_option maxRecDepth 100000 in
set_option maxHeartbeats 4000000 in
theorem okX0_fallOff_53 {G : GG} {pl : Nat → Nat} {h0 : PH} (rec_2 : Int32 → SS → Option (Unit × SS)) (hrec_2 : ∀ (x1 : Int32) (s : SS), EvF G 0 mX0_fallOff lyC pl h0 rvU (rec_2 x1 s) 2 [(0, .ref (pl 0)), (1, .int x1)] [] s) (x1 : Int32) (s : SS) : EvF G 0 mX0_fallOff lyC pl h0 rvU (fX0_fallOff_53 rec_2 x1 s) 53 [(0, .ref (pl 0)), (1, .int x1)] [] s := by
  unfold fX0_fallOff_53
  refine ef_aload_n (q := 54) 0 dX0_fallOff_53 rfl rfl rfl ?_
  refine ef_getR (t := 4) (q := 57) rfl fl0_58 rfl rfl dX0_fallOff_54 rfl ?_
  refine ef_iload_n (q := 58) 1 dX0_fallOff_57 rfl rfl rfl ?_
  refine ef_guard (fun g1 => ?_)
  refine ef_iaload (x := s.1 4 x1.toNatClampNeg) (q := 59) rfl g1 dX0_fallOff_58 rfl rfl ?_
  refine ef_if (pt := 72) (pf := 62) (fun _ _ => ev_if_le (tgt := 72) dX0_fallOff_59 (by decide)) (fun h2 => ?_) (fun h2 => ?_)
  · refine ef_iinc (v := x1 + (1 : Int32)) (lv' := [(1, .int (x1 + (1 : Int32))), (0, .ref (pl 0))]) (q := 75) 1 dX0_fallOff_72 rfl rfl (by decide) rfl rfl ?_
    refine ef_goto (tgt := 2) dX0_fallOff_75 (by decide) ?_
    refine ef_sub (lv' := [(0, .ref (pl 0)), (1, .int (x1 + (1 : Int32)))]) [1, 0] rfl ?_
    exact hrec_2 (x1 + (1 : Int32)) s
  · refine ef_aload_n (q := 63) 0 dX0_fallOff_62 rfl rfl rfl ?_
    refine ef_dup (q := 64) dX0_fallOff_63 rfl rfl ?_
    refine ef_getI (x := s.1 0 10) (q := 67) rfl fl0_42 rfl rfl dX0_fallOff_64 rfl ?_
    refine ef_iconst (v := (1 : Int32)) (q := 68) dX0_fallOff_67 (by decide) rfl ?_
    refine ef_iadd (q := 69) dX0_fallOff_68 rfl ?_
    refine ef_putI (q := 72) rfl fl0_42 rfl rfl dX0_fallOff_69 rfl ?_
    refine ef_iinc (v := x1 + (1 : Int32)) (lv' := [(1, .int (x1 + (1 : Int32))), (0, .ref (pl 0))]) (q := 75) 1 dX0_fallOff_72 rfl rfl (by decide) rfl rfl ?_
    refine ef_goto (tgt := 2) dX0_fallOff_75 (by decide) ?_
    refine ef_sub (lv' := [(0, .ref (pl 0)), (1, .int (x1 + (1 : Int32)))]) [1, 0] rfl ?_
    exact hrec_2 (x1 + (1 : Int32)) (wrI s 0 10 ((s.1 0 10) + (1 : Int32)))
set_option maxRecDepth 100000 in
set_option maxHeartbeats 4000000 in
theorem okX0_fallOff_2 {G : GG} {pl : Nat → Nat} {h0 : PH} : ∀ (n : Nat) (x1 : Int32) (s : SS), EvF G 0 mX0_fallOff lyC pl h0 rvU (fX0_fallOff_2 n x1 s) 2 [(0, .ref (pl 0)), (1, .int x1)] [] s := by
  intro n
  induction n with
  | zero => intro x1 s; rw [fX0_fallOff_2]; exact ef_none
  | succ n ih =>
    intro x1 s
    rw [fX0_fallOff_2]
    refine ef_iload_n (q := 3) 1 dX0_fallOff_2 rfl rfl rfl ?_
    refine ef_aload_n (q := 4) 0 dX0_fallOff_3 rfl rfl rfl ?_
    refine ef_getI (x := s.1 0 0) (q := 7) rfl fl0_9 rfl rfl dX0_fallOff_4 rfl ?_
    refine ef_if (pt := 78) (pf := 10) (fun _ _ => ev_icmp_ge (tgt := 78) dX0_fallOff_7 (by decide)) (fun h1 => ?_) (fun h1 => ?_)
    · exact ef_vret rfl dX0_fallOff_78
    · refine ef_aload_n (q := 11) 0 dX0_fallOff_10 rfl rfl rfl ?_
      refine ef_getR (t := 4) (q := 14) rfl fl0_58 rfl rfl dX0_fallOff_11 rfl ?_
      refine ef_iload_n (q := 15) 1 dX0_fallOff_14 rfl rfl rfl ?_
      refine ef_guard (fun g2 => ?_)
      refine ef_iaload (x := s.1 4 x1.toNatClampNeg) (q := 16) rfl g2 dX0_fallOff_15 rfl rfl ?_
      refine ef_aload_n (q := 17) 0 dX0_fallOff_16 rfl rfl rfl ?_
      refine ef_getI (x := s.1 0 4) (q := 20) rfl fl0_24 rfl rfl dX0_fallOff_17 rfl ?_
      refine ef_if (pt := 53) (pf := 23) (fun _ _ => ev_icmp_le (tgt := 53) dX0_fallOff_20 (by decide)) (fun h3 => ?_) (fun h3 => ?_)
      · refine ef_sub (lv' := [(0, .ref (pl 0)), (1, .int x1)]) [0, 1] rfl ?_
        exact okX0_fallOff_53 (fX0_fallOff_2 n) ih x1 s
      · refine ef_aload_n (q := 24) 0 dX0_fallOff_23 rfl rfl rfl ?_
        refine ef_dup (q := 25) dX0_fallOff_24 rfl rfl ?_
        refine ef_getI (x := s.1 0 8) (q := 28) rfl fl0_36 rfl rfl dX0_fallOff_25 rfl ?_
        refine ef_aload_n (q := 29) 0 dX0_fallOff_28 rfl rfl rfl ?_
        refine ef_getR (t := 4) (q := 32) rfl fl0_58 rfl rfl dX0_fallOff_29 rfl ?_
        refine ef_iload_n (q := 33) 1 dX0_fallOff_32 rfl rfl rfl ?_
        refine ef_guard (fun g4 => ?_)
        refine ef_iaload (x := s.1 4 x1.toNatClampNeg) (q := 34) rfl g4 dX0_fallOff_33 rfl rfl ?_
        refine ef_aload_n (q := 35) 0 dX0_fallOff_34 rfl rfl rfl ?_
        refine ef_getI (x := s.1 0 4) (q := 38) rfl fl0_24 rfl rfl dX0_fallOff_35 rfl ?_
        refine ef_isub (q := 39) dX0_fallOff_38 rfl ?_
        refine ef_iadd (q := 40) dX0_fallOff_39 rfl ?_
        refine ef_putI (q := 43) rfl fl0_36 rfl rfl dX0_fallOff_40 rfl ?_
        refine ef_aload_n (q := 44) 0 dX0_fallOff_43 rfl rfl rfl ?_
        refine ef_getR (t := 4) (q := 47) rfl fl0_58 rfl rfl dX0_fallOff_44 rfl ?_
        refine ef_iload_n (q := 48) 1 dX0_fallOff_47 rfl rfl rfl ?_
        refine ef_aload_n (q := 49) 0 dX0_fallOff_48 rfl rfl rfl ?_
        refine ef_getI (x := s.1 0 4) (q := 52) rfl fl0_24 rfl rfl dX0_fallOff_49 rfl ?_
        refine ef_guard (fun g5 => ?_)
        refine ef_iastore (j := x1.toNatClampNeg) (q := 53) rfl g5 dX0_fallOff_52 rfl rfl ?_
        refine ef_sub (lv' := [(0, .ref (pl 0)), (1, .int x1)]) [0, 1] rfl ?_
        exact okX0_fallOff_53 (fX0_fallOff_2 n) ih x1 (wrI (wrI s 0 8 ((s.1 0 8) + ((s.1 4 x1.toNatClampNeg) - (s.1 0 4)))) 4 x1.toNatClampNeg (s.1 0 4))
set_option maxRecDepth 100000 in
set_option maxHeartbeats 4000000 in
theorem okX0_fallOff_0 {G : GG} {pl : Nat → Nat} {h0 : PH} (s : SS) : EvF G 0 mX0_fallOff lyC pl h0 rvU (fX0_fallOff_0 s) 0 [(0, .ref (pl 0))] [] s := by
  unfold fX0_fallOff_0
  refine ef_iconst (v := (0 : Int32)) (q := 1) dX0_fallOff_0 (by decide) rfl ?_
  refine ef_istore_n (lv' := [(1, .int (0 : Int32)), (0, .ref (pl 0))]) (q := 2) dX0_fallOff_1 rfl (by decide) rfl rfl ?_
  refine ef_sub (lv' := [(0, .ref (pl 0)), (1, .int (0 : Int32))]) [1, 0] rfl ?_
  exact okX0_fallOff_2 FU (0 : Int32) s
theorem okX0_fallOff : MtF 0 mX0_fallOff lyC rvU (fun _ pl => [.ref (pl 0)]) (fX0_fallOff) := by
  refine MtF.of (by decide +kernel) rfl (fun _ pl => Nat.le_of_ble_eq_true rfl) (fun G pl h0 s => ?_)
  refine ef_sub (lv := [(0, .ref (pl 0))]) (lv' := [(0, .ref (pl 0))]) [0] rfl ?_
  exact okX0_fallOff_0  s
-- X0_pass
theorem dX0_pass_0 : decode cX0_pass 0 = .ok (.iload_n 1, 1) := by decide +kernel
theorem dX0_pass_1 : decode cX0_pass 1 = .ok (.iconst 5, 1) := by decide +kernel
theorem dX0_pass_2 : decode cX0_pass 2 = .ok (.if_icmp .ne 33, 3) := by decide +kernel
theorem dX0_pass_5 : decode cX0_pass 5 = .ok (.aload_n 0, 1) := by decide +kernel
theorem dX0_pass_6 : decode cX0_pass 6 = .ok (.aload_n 0, 1) := by decide +kernel
theorem dX0_pass_7 : decode cX0_pass 7 = .ok (.getfield 15, 3) := by decide +kernel
theorem dX0_pass_10 : decode cX0_pass 10 = .ok (.iconst 1, 1) := by decide +kernel
theorem dX0_pass_11 : decode cX0_pass 11 = .ok (.iadd, 1) := by decide +kernel
theorem dX0_pass_12 : decode cX0_pass 12 = .ok (.aload_n 0, 1) := by decide +kernel
theorem dX0_pass_13 : decode cX0_pass 13 = .ok (.getfield 9, 3) := by decide +kernel
theorem dX0_pass_16 : decode cX0_pass 16 = .ok (.if_icmp .ge 12, 3) := by decide +kernel
theorem dX0_pass_19 : decode cX0_pass 19 = .ok (.aload_n 0, 1) := by decide +kernel
theorem dX0_pass_20 : decode cX0_pass 20 = .ok (.getfield 15, 3) := by decide +kernel
theorem dX0_pass_23 : decode cX0_pass 23 = .ok (.iconst 1, 1) := by decide +kernel
theorem dX0_pass_24 : decode cX0_pass 24 = .ok (.iadd, 1) := by decide +kernel
theorem dX0_pass_25 : decode cX0_pass 25 = .ok (.goto 4, 3) := by decide +kernel
theorem dX0_pass_28 : decode cX0_pass 28 = .ok (.iconst 0, 1) := by decide +kernel
theorem dX0_pass_29 : decode cX0_pass 29 = .ok (.putfield 15, 3) := by decide +kernel
theorem dX0_pass_32 : decode cX0_pass 32 = .ok (.goto 51, 3) := by decide +kernel
theorem dX0_pass_35 : decode cX0_pass 35 = .ok (.iload_n 1, 1) := by decide +kernel
theorem dX0_pass_36 : decode cX0_pass 36 = .ok (.bipush 6, 2) := by decide +kernel
theorem dX0_pass_38 : decode cX0_pass 38 = .ok (.if_icmp .ne 32, 3) := by decide +kernel
theorem dX0_pass_41 : decode cX0_pass 41 = .ok (.aload_n 0, 1) := by decide +kernel
theorem dX0_pass_42 : decode cX0_pass 42 = .ok (.aload_n 0, 1) := by decide +kernel
theorem dX0_pass_43 : decode cX0_pass 43 = .ok (.getfield 15, 3) := by decide +kernel
theorem dX0_pass_46 : decode cX0_pass 46 = .ok (.ifCond .le 12, 3) := by decide +kernel
theorem dX0_pass_49 : decode cX0_pass 49 = .ok (.aload_n 0, 1) := by decide +kernel
theorem dX0_pass_50 : decode cX0_pass 50 = .ok (.getfield 15, 3) := by decide +kernel
theorem dX0_pass_53 : decode cX0_pass 53 = .ok (.iconst 1, 1) := by decide +kernel
theorem dX0_pass_54 : decode cX0_pass 54 = .ok (.isub, 1) := by decide +kernel
theorem dX0_pass_55 : decode cX0_pass 55 = .ok (.goto 9, 3) := by decide +kernel
theorem dX0_pass_58 : decode cX0_pass 58 = .ok (.aload_n 0, 1) := by decide +kernel
theorem dX0_pass_59 : decode cX0_pass 59 = .ok (.getfield 9, 3) := by decide +kernel
theorem dX0_pass_62 : decode cX0_pass 62 = .ok (.iconst 1, 1) := by decide +kernel
theorem dX0_pass_63 : decode cX0_pass 63 = .ok (.isub, 1) := by decide +kernel
theorem dX0_pass_64 : decode cX0_pass 64 = .ok (.putfield 15, 3) := by decide +kernel
theorem dX0_pass_67 : decode cX0_pass 67 = .ok (.goto 16, 3) := by decide +kernel
theorem dX0_pass_70 : decode cX0_pass 70 = .ok (.aload_n 0, 1) := by decide +kernel
theorem dX0_pass_71 : decode cX0_pass 71 = .ok (.iload_n 1, 1) := by decide +kernel
theorem dX0_pass_72 : decode cX0_pass 72 = .ok (.invokevirtual 97, 3) := by decide +kernel
theorem dX0_pass_75 : decode cX0_pass 75 = .ok (.ifCond .ne 8, 3) := by decide +kernel
theorem dX0_pass_78 : decode cX0_pass 78 = .ok (.aload_n 0, 1) := by decide +kernel
theorem dX0_pass_79 : decode cX0_pass 79 = .ok (.iload_n 1, 1) := by decide +kernel
theorem dX0_pass_80 : decode cX0_pass 80 = .ok (.invokevirtual 100, 3) := by decide +kernel
theorem dX0_pass_83 : decode cX0_pass 83 = .ok (.aload_n 0, 1) := by decide +kernel
theorem dX0_pass_84 : decode cX0_pass 84 = .ok (.invokevirtual 104, 3) := by decide +kernel
theorem dX0_pass_87 : decode cX0_pass 87 = .ok (.aload_n 0, 1) := by decide +kernel
theorem dX0_pass_88 : decode cX0_pass 88 = .ok (.invokevirtual 107, 3) := by decide +kernel
theorem dX0_pass_91 : decode cX0_pass 91 = .ok (.aload_n 0, 1) := by decide +kernel
theorem dX0_pass_92 : decode cX0_pass 92 = .ok (.invokevirtual 110, 3) := by decide +kernel
theorem dX0_pass_95 : decode cX0_pass 95 = .ok (.aload_n 0, 1) := by decide +kernel
theorem dX0_pass_96 : decode cX0_pass 96 = .ok (.dup, 1) := by decide +kernel
theorem dX0_pass_97 : decode cX0_pass 97 = .ok (.getfield 33, 3) := by decide +kernel
theorem dX0_pass_100 : decode cX0_pass 100 = .ok (.iconst 1, 1) := by decide +kernel
theorem dX0_pass_101 : decode cX0_pass 101 = .ok (.iadd, 1) := by decide +kernel
theorem dX0_pass_102 : decode cX0_pass 102 = .ok (.putfield 33, 3) := by decide +kernel
theorem dX0_pass_105 : decode cX0_pass 105 = .ok (.return_, 1) := by decide +kernel
def fX0_pass_83 (s : SS) : Option (Unit × SS) := ((fX0_melt s).bind fun x1 => ((fX0_runDown x1.2).bind fun x2 => ((fX0_fallOff x2.2).bind fun x3 => some ((), wrI x3.2 0 7 ((x3.2.1 0 7) + (1 : Int32))))))
def fX0_pass_29 (y1 : Int32) (s : SS) : Option (Unit × SS) := fX0_pass_83 (wrI s 0 1 y1)
def fX0_pass_64 (y1 : Int32) (s : SS) : Option (Unit × SS) := fX0_pass_83 (wrI s 0 1 y1)
def fX0_pass_0 (x1 : Int32) (s : SS) : Option (Unit × SS) := if ¬ x1 = (5 : Int32) then (if ¬ x1 = (6 : Int32) then (((fX0_isIdle x1 s).bind fun x3 => if ¬ x3.1 = 0 then (fX0_pass_83 x3.2) else (((fX0_eat x1 x3.2).bind fun x5 => fX0_pass_83 x5.2)))) else (if (s.1 0 1) ≤ 0 then (fX0_pass_64 ((s.1 0 0) - (1 : Int32)) s) else (fX0_pass_64 ((s.1 0 1) - (1 : Int32)) s))) else (if (s.1 0 0) ≤ ((s.1 0 1) + (1 : Int32)) then (fX0_pass_29 (0 : Int32) s) else (fX0_pass_29 ((s.1 0 1) + (1 : Int32)) s))
def fX0_pass (x1 : Int32) (s : SS) : Option (Unit × SS) := fX0_pass_0 x1 s
set_option maxRecDepth 100000 in
set_option maxHeartbeats 4000000 in
theorem okX0_pass_83 {G : GG} {pl : Nat → Nat} {h0 : PH} (s : SS) : EvF G 2 mX0_pass lyC pl h0 rvU (fX0_pass_83 s) 83 [(0, .ref (pl 0))] [] s := by
  unfold fX0_pass_83
  refine ef_aload_n (q := 84) 0 dX0_pass_83 rfl rfl rfl ?_
  refine ef_invVU0 (k := 0) (As := []) (rest := []) (q := 87) (okX0_melt) rfl calX0_melt ml0_104 (by decide) rfl rfl rfl (Nat.le_of_ble_eq_true rfl) dX0_pass_84 rfl (fun x1 => ?_)
  refine ef_aload_n (q := 88) 0 dX0_pass_87 rfl rfl rfl ?_
  refine ef_invVU0 (k := 0) (As := []) (rest := []) (q := 91) (okX0_runDown) rfl calX0_runDown ml0_107 (by decide) rfl rfl rfl (Nat.le_of_ble_eq_true rfl) dX0_pass_88 rfl (fun x2 => ?_)
  refine ef_aload_n (q := 92) 0 dX0_pass_91 rfl rfl rfl ?_
  refine ef_invVU0 (k := 0) (As := []) (rest := []) (q := 95) (okX0_fallOff) rfl calX0_fallOff ml0_110 (by decide) rfl rfl rfl (Nat.le_of_ble_eq_true rfl) dX0_pass_92 rfl (fun x3 => ?_)
  refine ef_aload_n (q := 96) 0 dX0_pass_95 rfl rfl rfl ?_
  refine ef_dup (q := 97) dX0_pass_96 rfl rfl ?_
  refine ef_getI (x := x3.2.1 0 7) (q := 100) rfl fl0_33 rfl rfl dX0_pass_97 rfl ?_
  refine ef_iconst (v := (1 : Int32)) (q := 101) dX0_pass_100 (by decide) rfl ?_
  refine ef_iadd (q := 102) dX0_pass_101 rfl ?_
  refine ef_putI (q := 105) rfl fl0_33 rfl rfl dX0_pass_102 rfl ?_
  exact ef_vret rfl dX0_pass_105
set_option maxRecDepth 100000 in
set_option maxHeartbeats 4000000 in
theorem okX0_pass_29 {G : GG} {pl : Nat → Nat} {h0 : PH} (y1 : Int32) (s : SS) : EvF G 2 mX0_pass lyC pl h0 rvU (fX0_pass_29 y1 s) 29 [(0, .ref (pl 0))] [.int y1, .ref (pl 0)] s := by
  unfold fX0_pass_29
  refine ef_putI (q := 32) rfl fl0_15 rfl rfl dX0_pass_29 rfl ?_
  refine ef_goto (tgt := 83) dX0_pass_32 (by decide) ?_
  refine ef_sub (lv' := [(0, .ref (pl 0))]) [0] rfl ?_
  exact okX0_pass_83 (wrI s 0 1 y1)
set_option maxRecDepth 100000 in
set_option maxHeartbeats 4000000 in
theorem okX0_pass_64 {G : GG} {pl : Nat → Nat} {h0 : PH} (y1 : Int32) (s : SS) : EvF G 2 mX0_pass lyC pl h0 rvU (fX0_pass_64 y1 s) 64 [(0, .ref (pl 0))] [.int y1, .ref (pl 0)] s := by
  unfold fX0_pass_64
  refine ef_putI (q := 67) rfl fl0_15 rfl rfl dX0_pass_64 rfl ?_
  refine ef_goto (tgt := 83) dX0_pass_67 (by decide) ?_
  refine ef_sub (lv' := [(0, .ref (pl 0))]) [0] rfl ?_
  exact okX0_pass_83 (wrI s 0 1 y1)
set_option maxRecDepth 100000 in
set_option maxHeartbeats 4000000 in
theorem okX0_pass_0 {G : GG} {pl : Nat → Nat} {h0 : PH} (x1 : Int32) (s : SS) : EvF G 2 mX0_pass lyC pl h0 rvU (fX0_pass_0 x1 s) 0 [(0, .ref (pl 0)), (1, .int x1)] [] s := by
  unfold fX0_pass_0
  refine ef_iload_n (q := 1) 1 dX0_pass_0 rfl rfl rfl ?_
  refine ef_iconst (v := (5 : Int32)) (q := 2) dX0_pass_1 (by decide) rfl ?_
  refine ef_if (pt := 35) (pf := 5) (fun _ _ => ev_icmp_ne (tgt := 35) dX0_pass_2 (by decide)) (fun h1 => ?_) (fun h1 => ?_)
  · refine ef_iload_n (q := 36) 1 dX0_pass_35 rfl rfl rfl ?_
    refine ef_bipush (v := (6 : Int32)) (q := 38) dX0_pass_36 (by decide) rfl ?_
    refine ef_if (pt := 70) (pf := 41) (fun _ _ => ev_icmp_ne (tgt := 70) dX0_pass_38 (by decide)) (fun h2 => ?_) (fun h2 => ?_)
    · refine ef_aload_n (q := 71) 0 dX0_pass_70 rfl rfl rfl ?_
      refine ef_iload_n (q := 72) 1 dX0_pass_71 rfl rfl rfl ?_
      refine ef_invVI0 (k := 0) (As := [.int x1]) (rest := []) (q := 75) (okX0_isIdle x1) rfl calX0_isIdle ml0_97 (by decide) rfl rfl rfl (Nat.le_of_ble_eq_true rfl) dX0_pass_72 rfl (fun x3 => ?_)
      refine ef_if (pt := 83) (pf := 78) (fun _ _ => ev_if_ne (tgt := 83) dX0_pass_75 (by decide)) (fun h4 => ?_) (fun h4 => ?_)
      · refine ef_sub (lv' := [(0, .ref (pl 0))]) [0] rfl ?_
        exact okX0_pass_83 x3.2
      · refine ef_aload_n (q := 79) 0 dX0_pass_78 rfl rfl rfl ?_
        refine ef_iload_n (q := 80) 1 dX0_pass_79 rfl rfl rfl ?_
        refine ef_invVU0 (k := 0) (As := [.int x1]) (rest := []) (q := 83) (okX0_eat x1) rfl calX0_eat ml0_100 (by decide) rfl rfl rfl (Nat.le_of_ble_eq_true rfl) dX0_pass_80 rfl (fun x5 => ?_)
        refine ef_sub (lv' := [(0, .ref (pl 0))]) [0] rfl ?_
        exact okX0_pass_83 x5.2
    · refine ef_aload_n (q := 42) 0 dX0_pass_41 rfl rfl rfl ?_
      refine ef_aload_n (q := 43) 0 dX0_pass_42 rfl rfl rfl ?_
      refine ef_getI (x := s.1 0 1) (q := 46) rfl fl0_15 rfl rfl dX0_pass_43 rfl ?_
      refine ef_if (pt := 58) (pf := 49) (fun _ _ => ev_if_le (tgt := 58) dX0_pass_46 (by decide)) (fun h6 => ?_) (fun h6 => ?_)
      · refine ef_aload_n (q := 59) 0 dX0_pass_58 rfl rfl rfl ?_
        refine ef_getI (x := s.1 0 0) (q := 62) rfl fl0_9 rfl rfl dX0_pass_59 rfl ?_
        refine ef_iconst (v := (1 : Int32)) (q := 63) dX0_pass_62 (by decide) rfl ?_
        refine ef_isub (q := 64) dX0_pass_63 rfl ?_
        refine ef_sub (lv' := [(0, .ref (pl 0))]) [0] rfl ?_
        exact okX0_pass_64 ((s.1 0 0) - (1 : Int32)) s
      · refine ef_aload_n (q := 50) 0 dX0_pass_49 rfl rfl rfl ?_
        refine ef_getI (x := s.1 0 1) (q := 53) rfl fl0_15 rfl rfl dX0_pass_50 rfl ?_
        refine ef_iconst (v := (1 : Int32)) (q := 54) dX0_pass_53 (by decide) rfl ?_
        refine ef_isub (q := 55) dX0_pass_54 rfl ?_
        refine ef_goto (tgt := 64) dX0_pass_55 (by decide) ?_
        refine ef_sub (lv' := [(0, .ref (pl 0))]) [0] rfl ?_
        exact okX0_pass_64 ((s.1 0 1) - (1 : Int32)) s
  · refine ef_aload_n (q := 6) 0 dX0_pass_5 rfl rfl rfl ?_
    refine ef_aload_n (q := 7) 0 dX0_pass_6 rfl rfl rfl ?_
    refine ef_getI (x := s.1 0 1) (q := 10) rfl fl0_15 rfl rfl dX0_pass_7 rfl ?_
    refine ef_iconst (v := (1 : Int32)) (q := 11) dX0_pass_10 (by decide) rfl ?_
    refine ef_iadd (q := 12) dX0_pass_11 rfl ?_
    refine ef_aload_n (q := 13) 0 dX0_pass_12 rfl rfl rfl ?_
    refine ef_getI (x := s.1 0 0) (q := 16) rfl fl0_9 rfl rfl dX0_pass_13 rfl ?_
    refine ef_if (pt := 28) (pf := 19) (fun _ _ => ev_icmp_ge (tgt := 28) dX0_pass_16 (by decide)) (fun h7 => ?_) (fun h7 => ?_)
    · refine ef_iconst (v := (0 : Int32)) (q := 29) dX0_pass_28 (by decide) rfl ?_
      refine ef_sub (lv' := [(0, .ref (pl 0))]) [0] rfl ?_
      exact okX0_pass_29 (0 : Int32) s
    · refine ef_aload_n (q := 20) 0 dX0_pass_19 rfl rfl rfl ?_
      refine ef_getI (x := s.1 0 1) (q := 23) rfl fl0_15 rfl rfl dX0_pass_20 rfl ?_
      refine ef_iconst (v := (1 : Int32)) (q := 24) dX0_pass_23 (by decide) rfl ?_
      refine ef_iadd (q := 25) dX0_pass_24 rfl ?_
      refine ef_goto (tgt := 29) dX0_pass_25 (by decide) ?_
      refine ef_sub (lv' := [(0, .ref (pl 0))]) [0] rfl ?_
      exact okX0_pass_29 ((s.1 0 1) + (1 : Int32)) s
theorem okX0_pass (x1 : Int32) : MtF 2 mX0_pass lyC rvU (fun _ pl => [.ref (pl 0), .int x1]) (fX0_pass x1) := by
  refine MtF.of (by decide +kernel) rfl (fun _ pl => Nat.le_of_ble_eq_true rfl) (fun G pl h0 s => ?_)
  refine ef_sub (lv := [(0, .ref (pl 0)), (1, .int x1)]) (lv' := [(0, .ref (pl 0)), (1, .int x1)]) [0, 1] rfl ?_
  exact okX0_pass_0  x1 s
end
