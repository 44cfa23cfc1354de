section
-- ===== PART A: goes FIRST, ahead of the names: the tables' words, and 'selects' of the private methods out of them =====
/-- a private method of a class that the tables say can be made, by its rows of tables_1 -/
def lw_okq (q : MethodName × Nat) : Prop := (q.1.cls ≠ "java/lang/invoke/MethodHandle" ∧ q.1.cls ≠ "java/lang/invoke/VarHandle") ∧ Cond.instantiable q.1.cls q.2 ∈ tables_1 ∧ Cond.privateMethod q.1 ∈ tables_1 ∧ Cond.instanceMethod q.1 ∈ tables_1
theorem lw_p0 : lw_okq (⟨"BeforeItDrips", "refuse", "(I)I"⟩, 9) := ⟨⟨by decide +kernel, by decide +kernel⟩, List.mem_of_getElem? (i := 15) (by decide +kernel), List.mem_of_getElem? (i := 259) (by decide +kernel), List.mem_of_getElem? (i := 260) (by decide +kernel)⟩
theorem lw_p1 : lw_okq (⟨"BeforeItDrips", "rowFault", "(I)I"⟩, 9) := ⟨⟨by decide +kernel, by decide +kernel⟩, List.mem_of_getElem? (i := 15) (by decide +kernel), List.mem_of_getElem? (i := 271) (by decide +kernel), List.mem_of_getElem? (i := 272) (by decide +kernel)⟩
theorem lw_p2 : lw_okq (⟨"BeforeItDrips", "copyFault", "(II)I"⟩, 9) := ⟨⟨by decide +kernel, by decide +kernel⟩, List.mem_of_getElem? (i := 15) (by decide +kernel), List.mem_of_getElem? (i := 287) (by decide +kernel), List.mem_of_getElem? (i := 288) (by decide +kernel)⟩
theorem lw_p3 : lw_okq (⟨"BeforeItDrips", "isLicker", "(I)Z"⟩, 9) := ⟨⟨by decide +kernel, by decide +kernel⟩, List.mem_of_getElem? (i := 15) (by decide +kernel), List.mem_of_getElem? (i := 306) (by decide +kernel), List.mem_of_getElem? (i := 307) (by decide +kernel)⟩
theorem lw_p4 : lw_okq (⟨"BeforeItDrips", "wouldIn", "(LBeforeItDrips$Cone;I)I"⟩, 9) := ⟨⟨by decide +kernel, by decide +kernel⟩, List.mem_of_getElem? (i := 15) (by decide +kernel), List.mem_of_getElem? (i := 329) (by decide +kernel), List.mem_of_getElem? (i := 330) (by decide +kernel)⟩
theorem lw_p5 : lw_okq (⟨"BeforeItDrips$Cone", "isWetLower", "(II)Z"⟩, 16) := ⟨⟨by decide +kernel, by decide +kernel⟩, List.mem_of_getElem? (i := 29) (by decide +kernel), List.mem_of_getElem? (i := 362) (by decide +kernel), List.mem_of_getElem? (i := 363) (by decide +kernel)⟩
theorem lw_p6 : lw_okq (⟨"BeforeItDrips$Mind", "weigh", "(LBeforeItDrips$Cone;)V"⟩, 5) := ⟨⟨by decide +kernel, by decide +kernel⟩, List.mem_of_getElem? (i := 147) (by decide +kernel), List.mem_of_getElem? (i := 379) (by decide +kernel), List.mem_of_getElem? (i := 380) (by decide +kernel)⟩
theorem lw_p7 : lw_okq (⟨"BeforeItDrips$Cone", "eat", "(I)V"⟩, 16) := ⟨⟨by decide +kernel, by decide +kernel⟩, List.mem_of_getElem? (i := 29) (by decide +kernel), List.mem_of_getElem? (i := 397) (by decide +kernel), List.mem_of_getElem? (i := 398) (by decide +kernel)⟩
theorem lw_p8 : lw_okq (⟨"BeforeItDrips$Cone", "melt", "()V"⟩, 16) := ⟨⟨by decide +kernel, by decide +kernel⟩, List.mem_of_getElem? (i := 29) (by decide +kernel), List.mem_of_getElem? (i := 404) (by decide +kernel), List.mem_of_getElem? (i := 405) (by decide +kernel)⟩
theorem lw_p9 : lw_okq (⟨"BeforeItDrips$Cone", "runDown", "()V"⟩, 16) := ⟨⟨by decide +kernel, by decide +kernel⟩, List.mem_of_getElem? (i := 29) (by decide +kernel), List.mem_of_getElem? (i := 412) (by decide +kernel), List.mem_of_getElem? (i := 413) (by decide +kernel)⟩
theorem lw_p10 : lw_okq (⟨"BeforeItDrips$Cone", "fallOff", "()V"⟩, 16) := ⟨⟨by decide +kernel, by decide +kernel⟩, List.mem_of_getElem? (i := 29) (by decide +kernel), List.mem_of_getElem? (i := 416) (by decide +kernel), List.mem_of_getElem? (i := 417) (by decide +kernel)⟩
theorem lw_p11 : lw_okq (⟨"BeforeItDrips", "canAsk", "(II)Z"⟩, 9) := ⟨⟨by decide +kernel, by decide +kernel⟩, List.mem_of_getElem? (i := 15) (by decide +kernel), List.mem_of_getElem? (i := 449) (by decide +kernel), List.mem_of_getElem? (i := 450) (by decide +kernel)⟩
theorem lw_p12 : lw_okq (⟨"BeforeItDrips", "isSide", "(I)Z"⟩, 9) := ⟨⟨by decide +kernel, by decide +kernel⟩, List.mem_of_getElem? (i := 15) (by decide +kernel), List.mem_of_getElem? (i := 453) (by decide +kernel), List.mem_of_getElem? (i := 454) (by decide +kernel)⟩
theorem lw_p13 : lw_okq (⟨"BeforeItDrips$Kerb", "advance", "()V"⟩, 6) := ⟨⟨by decide +kernel, by decide +kernel⟩, List.mem_of_getElem? (i := 176) (by decide +kernel), List.mem_of_getElem? (i := 491) (by decide +kernel), List.mem_of_getElem? (i := 492) (by decide +kernel)⟩
theorem lw_p14 : lw_okq (⟨"BeforeItDrips$Kerb", "byteAt", "(I)I"⟩, 6) := ⟨⟨by decide +kernel, by decide +kernel⟩, List.mem_of_getElem? (i := 176) (by decide +kernel), List.mem_of_getElem? (i := 495) (by decide +kernel), List.mem_of_getElem? (i := 496) (by decide +kernel)⟩
theorem lw_p15 : lw_okq (⟨"BeforeItDrips$Kerb", "readNumber", "()V"⟩, 6) := ⟨⟨by decide +kernel, by decide +kernel⟩, List.mem_of_getElem? (i := 176) (by decide +kernel), List.mem_of_getElem? (i := 505) (by decide +kernel), List.mem_of_getElem? (i := 506) (by decide +kernel)⟩
def lw_privs_1 : List (MethodName × Nat) := [(⟨"BeforeItDrips", "refuse", "(I)I"⟩, 9), (⟨"BeforeItDrips", "rowFault", "(I)I"⟩, 9), (⟨"BeforeItDrips", "copyFault", "(II)I"⟩, 9), (⟨"BeforeItDrips", "isLicker", "(I)Z"⟩, 9), (⟨"BeforeItDrips", "wouldIn", "(LBeforeItDrips$Cone;I)I"⟩, 9), (⟨"BeforeItDrips$Cone", "isWetLower", "(II)Z"⟩, 16), (⟨"BeforeItDrips$Mind", "weigh", "(LBeforeItDrips$Cone;)V"⟩, 5), (⟨"BeforeItDrips$Cone", "eat", "(I)V"⟩, 16), (⟨"BeforeItDrips$Cone", "melt", "()V"⟩, 16), (⟨"BeforeItDrips$Cone", "runDown", "()V"⟩, 16), (⟨"BeforeItDrips$Cone", "fallOff", "()V"⟩, 16), (⟨"BeforeItDrips", "canAsk", "(II)Z"⟩, 9), (⟨"BeforeItDrips", "isSide", "(I)Z"⟩, 9), (⟨"BeforeItDrips$Kerb", "advance", "()V"⟩, 6), (⟨"BeforeItDrips$Kerb", "byteAt", "(I)I"⟩, 6), (⟨"BeforeItDrips$Kerb", "readNumber", "()V"⟩, 6)]
theorem lw_r1 : ∀ q ∈ lw_privs_1, lw_okq q := List.forall_mem_cons.mpr ⟨lw_p0, List.forall_mem_cons.mpr ⟨lw_p1, List.forall_mem_cons.mpr ⟨lw_p2, List.forall_mem_cons.mpr ⟨lw_p3, List.forall_mem_cons.mpr ⟨lw_p4, List.forall_mem_cons.mpr ⟨lw_p5, List.forall_mem_cons.mpr ⟨lw_p6, List.forall_mem_cons.mpr ⟨lw_p7, List.forall_mem_cons.mpr ⟨lw_p8, List.forall_mem_cons.mpr ⟨lw_p9, List.forall_mem_cons.mpr ⟨lw_p10, List.forall_mem_cons.mpr ⟨lw_p11, List.forall_mem_cons.mpr ⟨lw_p12, List.forall_mem_cons.mpr ⟨lw_p13, List.forall_mem_cons.mpr ⟨lw_p14, List.forall_mem_cons.mpr ⟨lw_p15, fun _ h => absurd h List.not_mem_nil⟩⟩⟩⟩⟩⟩⟩⟩⟩⟩⟩⟩⟩⟩⟩⟩
theorem lw_p16 : lw_okq (⟨"BeforeItDrips$Kerb", "readStatement", "(LBeforeItDrips$World;)Z"⟩, 6) := ⟨⟨by decide +kernel, by decide +kernel⟩, List.mem_of_getElem? (i := 176) (by decide +kernel), List.mem_of_getElem? (i := 509) (by decide +kernel), List.mem_of_getElem? (i := 510) (by decide +kernel)⟩
theorem lw_p17 : lw_okq (⟨"BeforeItDrips$Kerb", "isWord", "(Ljava/lang/String;)Z"⟩, 6) := ⟨⟨by decide +kernel, by decide +kernel⟩, List.mem_of_getElem? (i := 176) (by decide +kernel), List.mem_of_getElem? (i := 514) (by decide +kernel), List.mem_of_getElem? (i := 515) (by decide +kernel)⟩
theorem lw_p18 : lw_okq (⟨"BeforeItDrips$Kerb", "readSides", "(LBeforeItDrips$Cone;)Z"⟩, 6) := ⟨⟨by decide +kernel, by decide +kernel⟩, List.mem_of_getElem? (i := 176) (by decide +kernel), List.mem_of_getElem? (i := 566) (by decide +kernel), List.mem_of_getElem? (i := 567) (by decide +kernel)⟩
theorem lw_p19 : lw_okq (⟨"BeforeItDrips$Kerb", "isNumber", "(II)Z"⟩, 6) := ⟨⟨by decide +kernel, by decide +kernel⟩, List.mem_of_getElem? (i := 176) (by decide +kernel), List.mem_of_getElem? (i := 570) (by decide +kernel), List.mem_of_getElem? (i := 571) (by decide +kernel)⟩
theorem lw_p20 : lw_okq (⟨"BeforeItDrips$Kerb", "readScoop", "(LBeforeItDrips$Cone;)Z"⟩, 6) := ⟨⟨by decide +kernel, by decide +kernel⟩, List.mem_of_getElem? (i := 176) (by decide +kernel), List.mem_of_getElem? (i := 576) (by decide +kernel), List.mem_of_getElem? (i := 577) (by decide +kernel)⟩
theorem lw_p21 : lw_okq (⟨"BeforeItDrips$Kerb", "readSun", "(LBeforeItDrips$Cone;)Z"⟩, 6) := ⟨⟨by decide +kernel, by decide +kernel⟩, List.mem_of_getElem? (i := 176) (by decide +kernel), List.mem_of_getElem? (i := 582) (by decide +kernel), List.mem_of_getElem? (i := 583) (by decide +kernel)⟩
theorem lw_p22 : lw_okq (⟨"BeforeItDrips$Kerb", "readHold", "(LBeforeItDrips$Cone;)Z"⟩, 6) := ⟨⟨by decide +kernel, by decide +kernel⟩, List.mem_of_getElem? (i := 176) (by decide +kernel), List.mem_of_getElem? (i := 587) (by decide +kernel), List.mem_of_getElem? (i := 588) (by decide +kernel)⟩
theorem lw_p23 : lw_okq (⟨"BeforeItDrips$Kerb", "readBrim", "(LBeforeItDrips$Cone;)Z"⟩, 6) := ⟨⟨by decide +kernel, by decide +kernel⟩, List.mem_of_getElem? (i := 176) (by decide +kernel), List.mem_of_getElem? (i := 592) (by decide +kernel), List.mem_of_getElem? (i := 593) (by decide +kernel)⟩
theorem lw_p24 : lw_okq (⟨"BeforeItDrips$Kerb", "readLicker", "(LBeforeItDrips$World;)Z"⟩, 6) := ⟨⟨by decide +kernel, by decide +kernel⟩, List.mem_of_getElem? (i := 176) (by decide +kernel), List.mem_of_getElem? (i := 597) (by decide +kernel), List.mem_of_getElem? (i := 598) (by decide +kernel)⟩
theorem lw_p25 : lw_okq (⟨"BeforeItDrips$Kerb", "readLick", "(LBeforeItDrips$World;)Z"⟩, 6) := ⟨⟨by decide +kernel, by decide +kernel⟩, List.mem_of_getElem? (i := 176) (by decide +kernel), List.mem_of_getElem? (i := 603) (by decide +kernel), List.mem_of_getElem? (i := 604) (by decide +kernel)⟩
theorem lw_p26 : lw_okq (⟨"BeforeItDrips", "isScoop", "(I)Z"⟩, 9) := ⟨⟨by decide +kernel, by decide +kernel⟩, List.mem_of_getElem? (i := 15) (by decide +kernel), List.mem_of_getElem? (i := 618) (by decide +kernel), List.mem_of_getElem? (i := 619) (by decide +kernel)⟩
theorem lw_p27 : lw_okq (⟨"BeforeItDrips", "lostIdling", "(I)I"⟩, 9) := ⟨⟨by decide +kernel, by decide +kernel⟩, List.mem_of_getElem? (i := 15) (by decide +kernel), List.mem_of_getElem? (i := 648) (by decide +kernel), List.mem_of_getElem? (i := 649) (by decide +kernel)⟩
theorem lw_p28 : lw_okq (⟨"BeforeItDrips", "thinkRun", "(II)V"⟩, 9) := ⟨⟨by decide +kernel, by decide +kernel⟩, List.mem_of_getElem? (i := 15) (by decide +kernel), List.mem_of_getElem? (i := 661) (by decide +kernel), List.mem_of_getElem? (i := 662) (by decide +kernel)⟩
theorem lw_p29 : lw_okq (⟨"BeforeItDrips", "thoughtResult", "(I)I"⟩, 9) := ⟨⟨by decide +kernel, by decide +kernel⟩, List.mem_of_getElem? (i := 15) (by decide +kernel), List.mem_of_getElem? (i := 665) (by decide +kernel), List.mem_of_getElem? (i := 666) (by decide +kernel)⟩
theorem lw_p30 : lw_okq (⟨"BeforeItDrips", "lostUnder", "(III)I"⟩, 9) := ⟨⟨by decide +kernel, by decide +kernel⟩, List.mem_of_getElem? (i := 15) (by decide +kernel), List.mem_of_getElem? (i := 707) (by decide +kernel), List.mem_of_getElem? (i := 708) (by decide +kernel)⟩
theorem lw_p31 : lw_okq (⟨"BeforeItDrips", "toldFault", "(IIII)I"⟩, 9) := ⟨⟨by decide +kernel, by decide +kernel⟩, List.mem_of_getElem? (i := 15) (by decide +kernel), List.mem_of_getElem? (i := 759) (by decide +kernel), List.mem_of_getElem? (i := 760) (by decide +kernel)⟩
def lw_privs_2 : List (MethodName × Nat) := [(⟨"BeforeItDrips$Kerb", "readStatement", "(LBeforeItDrips$World;)Z"⟩, 6), (⟨"BeforeItDrips$Kerb", "isWord", "(Ljava/lang/String;)Z"⟩, 6), (⟨"BeforeItDrips$Kerb", "readSides", "(LBeforeItDrips$Cone;)Z"⟩, 6), (⟨"BeforeItDrips$Kerb", "isNumber", "(II)Z"⟩, 6), (⟨"BeforeItDrips$Kerb", "readScoop", "(LBeforeItDrips$Cone;)Z"⟩, 6), (⟨"BeforeItDrips$Kerb", "readSun", "(LBeforeItDrips$Cone;)Z"⟩, 6), (⟨"BeforeItDrips$Kerb", "readHold", "(LBeforeItDrips$Cone;)Z"⟩, 6), (⟨"BeforeItDrips$Kerb", "readBrim", "(LBeforeItDrips$Cone;)Z"⟩, 6), (⟨"BeforeItDrips$Kerb", "readLicker", "(LBeforeItDrips$World;)Z"⟩, 6), (⟨"BeforeItDrips$Kerb", "readLick", "(LBeforeItDrips$World;)Z"⟩, 6), (⟨"BeforeItDrips", "isScoop", "(I)Z"⟩, 9), (⟨"BeforeItDrips", "lostIdling", "(I)I"⟩, 9), (⟨"BeforeItDrips", "thinkRun", "(II)V"⟩, 9), (⟨"BeforeItDrips", "thoughtResult", "(I)I"⟩, 9), (⟨"BeforeItDrips", "lostUnder", "(III)I"⟩, 9), (⟨"BeforeItDrips", "toldFault", "(IIII)I"⟩, 9)]
theorem lw_r2 : ∀ q ∈ lw_privs_2, lw_okq q := List.forall_mem_cons.mpr ⟨lw_p16, List.forall_mem_cons.mpr ⟨lw_p17, List.forall_mem_cons.mpr ⟨lw_p18, List.forall_mem_cons.mpr ⟨lw_p19, List.forall_mem_cons.mpr ⟨lw_p20, List.forall_mem_cons.mpr ⟨lw_p21, List.forall_mem_cons.mpr ⟨lw_p22, List.forall_mem_cons.mpr ⟨lw_p23, List.forall_mem_cons.mpr ⟨lw_p24, List.forall_mem_cons.mpr ⟨lw_p25, List.forall_mem_cons.mpr ⟨lw_p26, List.forall_mem_cons.mpr ⟨lw_p27, List.forall_mem_cons.mpr ⟨lw_p28, List.forall_mem_cons.mpr ⟨lw_p29, List.forall_mem_cons.mpr ⟨lw_p30, List.forall_mem_cons.mpr ⟨lw_p31, fun _ h => absurd h List.not_mem_nil⟩⟩⟩⟩⟩⟩⟩⟩⟩⟩⟩⟩⟩⟩⟩⟩
theorem lw_p32 : lw_okq (⟨"BeforeItDrips", "wrongTold", "(II)I"⟩, 9) := ⟨⟨by decide +kernel, by decide +kernel⟩, List.mem_of_getElem? (i := 15) (by decide +kernel), List.mem_of_getElem? (i := 763) (by decide +kernel), List.mem_of_getElem? (i := 764) (by decide +kernel)⟩
theorem lw_p33 : lw_okq (⟨"BeforeItDrips", "wentAt", "(III)Z"⟩, 9) := ⟨⟨by decide +kernel, by decide +kernel⟩, List.mem_of_getElem? (i := 15) (by decide +kernel), List.mem_of_getElem? (i := 786) (by decide +kernel), List.mem_of_getElem? (i := 787) (by decide +kernel)⟩
theorem lw_p34 : lw_okq (⟨"BeforeItDrips", "lickInTruth", "(II)V"⟩, 9) := ⟨⟨by decide +kernel, by decide +kernel⟩, List.mem_of_getElem? (i := 15) (by decide +kernel), List.mem_of_getElem? (i := 798) (by decide +kernel), List.mem_of_getElem? (i := 799) (by decide +kernel)⟩
theorem lw_p35 : lw_okq (⟨"BeforeItDrips", "shelvesInUse", "()I"⟩, 9) := ⟨⟨by decide +kernel, by decide +kernel⟩, List.mem_of_getElem? (i := 15) (by decide +kernel), List.mem_of_getElem? (i := 843) (by decide +kernel), List.mem_of_getElem? (i := 844) (by decide +kernel)⟩
theorem lw_p36 : lw_okq (⟨"BeforeItDripsModel", "refuse", "(I)I"⟩, 45) := ⟨⟨by decide +kernel, by decide +kernel⟩, List.mem_of_getElem? (i := 847) (by decide +kernel), List.mem_of_getElem? (i := 1005) (by decide +kernel), List.mem_of_getElem? (i := 1006) (by decide +kernel)⟩
theorem lw_p37 : lw_okq (⟨"BeforeItDripsModel", "noRow", "(I)I"⟩, 45) := ⟨⟨by decide +kernel, by decide +kernel⟩, List.mem_of_getElem? (i := 847) (by decide +kernel), List.mem_of_getElem? (i := 1013) (by decide +kernel), List.mem_of_getElem? (i := 1014) (by decide +kernel)⟩
theorem lw_p38 : lw_okq (⟨"BeforeItDripsModel", "isLicker", "(I)Z"⟩, 45) := ⟨⟨by decide +kernel, by decide +kernel⟩, List.mem_of_getElem? (i := 847) (by decide +kernel), List.mem_of_getElem? (i := 1036) (by decide +kernel), List.mem_of_getElem? (i := 1037) (by decide +kernel)⟩
theorem lw_p39 : lw_okq (⟨"BeforeItDripsModel", "wouldBe", "(I)I"⟩, 45) := ⟨⟨by decide +kernel, by decide +kernel⟩, List.mem_of_getElem? (i := 847) (by decide +kernel), List.mem_of_getElem? (i := 1048) (by decide +kernel), List.mem_of_getElem? (i := 1049) (by decide +kernel)⟩
theorem lw_p40 : lw_okq (⟨"BeforeItDripsModel", "roundAct", "()I"⟩, 45) := ⟨⟨by decide +kernel, by decide +kernel⟩, List.mem_of_getElem? (i := 847) (by decide +kernel), List.mem_of_getElem? (i := 1052) (by decide +kernel), List.mem_of_getElem? (i := 1053) (by decide +kernel)⟩
theorem lw_p41 : lw_okq (⟨"BeforeItDripsModel", "wettestAct", "()I"⟩, 45) := ⟨⟨by decide +kernel, by decide +kernel⟩, List.mem_of_getElem? (i := 847) (by decide +kernel), List.mem_of_getElem? (i := 1056) (by decide +kernel), List.mem_of_getElem? (i := 1057) (by decide +kernel)⟩
theorem lw_p42 : lw_okq (⟨"BeforeItDripsModel", "wettestSide", "()I"⟩, 45) := ⟨⟨by decide +kernel, by decide +kernel⟩, List.mem_of_getElem? (i := 847) (by decide +kernel), List.mem_of_getElem? (i := 1060) (by decide +kernel), List.mem_of_getElem? (i := 1061) (by decide +kernel)⟩
theorem lw_p43 : lw_okq (⟨"BeforeItDripsModel", "allAt", "(I)I"⟩, 45) := ⟨⟨by decide +kernel, by decide +kernel⟩, List.mem_of_getElem? (i := 847) (by decide +kernel), List.mem_of_getElem? (i := 1064) (by decide +kernel), List.mem_of_getElem? (i := 1065) (by decide +kernel)⟩
theorem lw_p44 : lw_okq (⟨"BeforeItDripsModel", "turnTo", "(I)I"⟩, 45) := ⟨⟨by decide +kernel, by decide +kernel⟩, List.mem_of_getElem? (i := 847) (by decide +kernel), List.mem_of_getElem? (i := 1068) (by decide +kernel), List.mem_of_getElem? (i := 1069) (by decide +kernel)⟩
theorem lw_p45 : lw_okq (⟨"BeforeItDripsModel", "lowestAct", "()I"⟩, 45) := ⟨⟨by decide +kernel, by decide +kernel⟩, List.mem_of_getElem? (i := 847) (by decide +kernel), List.mem_of_getElem? (i := 1072) (by decide +kernel), List.mem_of_getElem? (i := 1073) (by decide +kernel)⟩
theorem lw_p46 : lw_okq (⟨"BeforeItDripsModel", "isMore", "(II)Z"⟩, 45) := ⟨⟨by decide +kernel, by decide +kernel⟩, List.mem_of_getElem? (i := 847) (by decide +kernel), List.mem_of_getElem? (i := 1076) (by decide +kernel), List.mem_of_getElem? (i := 1077) (by decide +kernel)⟩
theorem lw_p47 : lw_okq (⟨"BeforeItDripsModel", "findPlan", "(I)V"⟩, 45) := ⟨⟨by decide +kernel, by decide +kernel⟩, List.mem_of_getElem? (i := 847) (by decide +kernel), List.mem_of_getElem? (i := 1080) (by decide +kernel), List.mem_of_getElem? (i := 1081) (by decide +kernel)⟩
def lw_privs_3 : List (MethodName × Nat) := [(⟨"BeforeItDrips", "wrongTold", "(II)I"⟩, 9), (⟨"BeforeItDrips", "wentAt", "(III)Z"⟩, 9), (⟨"BeforeItDrips", "lickInTruth", "(II)V"⟩, 9), (⟨"BeforeItDrips", "shelvesInUse", "()I"⟩, 9), (⟨"BeforeItDripsModel", "refuse", "(I)I"⟩, 45), (⟨"BeforeItDripsModel", "noRow", "(I)I"⟩, 45), (⟨"BeforeItDripsModel", "isLicker", "(I)Z"⟩, 45), (⟨"BeforeItDripsModel", "wouldBe", "(I)I"⟩, 45), (⟨"BeforeItDripsModel", "roundAct", "()I"⟩, 45), (⟨"BeforeItDripsModel", "wettestAct", "()I"⟩, 45), (⟨"BeforeItDripsModel", "wettestSide", "()I"⟩, 45), (⟨"BeforeItDripsModel", "allAt", "(I)I"⟩, 45), (⟨"BeforeItDripsModel", "turnTo", "(I)I"⟩, 45), (⟨"BeforeItDripsModel", "lowestAct", "()I"⟩, 45), (⟨"BeforeItDripsModel", "isMore", "(II)Z"⟩, 45), (⟨"BeforeItDripsModel", "findPlan", "(I)V"⟩, 45)]
theorem lw_r3 : ∀ q ∈ lw_privs_3, lw_okq q := List.forall_mem_cons.mpr ⟨lw_p32, List.forall_mem_cons.mpr ⟨lw_p33, List.forall_mem_cons.mpr ⟨lw_p34, List.forall_mem_cons.mpr ⟨lw_p35, List.forall_mem_cons.mpr ⟨lw_p36, List.forall_mem_cons.mpr ⟨lw_p37, List.forall_mem_cons.mpr ⟨lw_p38, List.forall_mem_cons.mpr ⟨lw_p39, List.forall_mem_cons.mpr ⟨lw_p40, List.forall_mem_cons.mpr ⟨lw_p41, List.forall_mem_cons.mpr ⟨lw_p42, List.forall_mem_cons.mpr ⟨lw_p43, List.forall_mem_cons.mpr ⟨lw_p44, List.forall_mem_cons.mpr ⟨lw_p45, List.forall_mem_cons.mpr ⟨lw_p46, List.forall_mem_cons.mpr ⟨lw_p47, fun _ h => absurd h List.not_mem_nil⟩⟩⟩⟩⟩⟩⟩⟩⟩⟩⟩⟩⟩⟩⟩⟩
theorem lw_p48 : lw_okq (⟨"BeforeItDripsModel", "canAct", "(J)Z"⟩, 45) := ⟨⟨by decide +kernel, by decide +kernel⟩, List.mem_of_getElem? (i := 847) (by decide +kernel), List.mem_of_getElem? (i := 1085) (by decide +kernel), List.mem_of_getElem? (i := 1086) (by decide +kernel)⟩
theorem lw_p49 : lw_okq (⟨"BeforeItDripsModel", "takeFrom", "(LBeforeItDripsModel;)V"⟩, 45) := ⟨⟨by decide +kernel, by decide +kernel⟩, List.mem_of_getElem? (i := 847) (by decide +kernel), List.mem_of_getElem? (i := 1091) (by decide +kernel), List.mem_of_getElem? (i := 1092) (by decide +kernel)⟩
theorem lw_p50 : lw_okq (⟨"BeforeItDripsModel", "goes", "(IZ)V"⟩, 45) := ⟨⟨by decide +kernel, by decide +kernel⟩, List.mem_of_getElem? (i := 847) (by decide +kernel), List.mem_of_getElem? (i := 1098) (by decide +kernel), List.mem_of_getElem? (i := 1099) (by decide +kernel)⟩
theorem lw_p51 : lw_okq (⟨"BeforeItDripsModel", "lickedOf", "(I)I"⟩, 45) := ⟨⟨by decide +kernel, by decide +kernel⟩, List.mem_of_getElem? (i := 847) (by decide +kernel), List.mem_of_getElem? (i := 1102) (by decide +kernel), List.mem_of_getElem? (i := 1103) (by decide +kernel)⟩
theorem lw_p52 : lw_okq (⟨"BeforeItDripsModel", "melts", "(I)V"⟩, 45) := ⟨⟨by decide +kernel, by decide +kernel⟩, List.mem_of_getElem? (i := 847) (by decide +kernel), List.mem_of_getElem? (i := 1106) (by decide +kernel), List.mem_of_getElem? (i := 1107) (by decide +kernel)⟩
theorem lw_p53 : lw_okq (⟨"BeforeItDripsModel", "isSunny", "(I)Z"⟩, 45) := ⟨⟨by decide +kernel, by decide +kernel⟩, List.mem_of_getElem? (i := 847) (by decide +kernel), List.mem_of_getElem? (i := 1110) (by decide +kernel), List.mem_of_getElem? (i := 1111) (by decide +kernel)⟩
theorem lw_p54 : lw_okq (⟨"BeforeItDripsModel", "runsDown", "(I)V"⟩, 45) := ⟨⟨by decide +kernel, by decide +kernel⟩, List.mem_of_getElem? (i := 847) (by decide +kernel), List.mem_of_getElem? (i := 1114) (by decide +kernel), List.mem_of_getElem? (i := 1115) (by decide +kernel)⟩
theorem lw_p55 : lw_okq (⟨"BeforeItDripsModel", "becomeSides", "(I)V"⟩, 45) := ⟨⟨by decide +kernel, by decide +kernel⟩, List.mem_of_getElem? (i := 847) (by decide +kernel), List.mem_of_getElem? (i := 1123) (by decide +kernel), List.mem_of_getElem? (i := 1124) (by decide +kernel)⟩
theorem lw_p56 : lw_okq (⟨"BeforeItDripsModel", "addScoop", "(II)V"⟩, 45) := ⟨⟨by decide +kernel, by decide +kernel⟩, List.mem_of_getElem? (i := 847) (by decide +kernel), List.mem_of_getElem? (i := 1133) (by decide +kernel), List.mem_of_getElem? (i := 1134) (by decide +kernel)⟩
theorem lw_p57 : lw_okq (⟨"BeforeItDripsModel", "mayAsk", "(II)Z"⟩, 45) := ⟨⟨by decide +kernel, by decide +kernel⟩, List.mem_of_getElem? (i := 847) (by decide +kernel), List.mem_of_getElem? (i := 1145) (by decide +kernel), List.mem_of_getElem? (i := 1146) (by decide +kernel)⟩
theorem lw_p58 : lw_okq (⟨"BeforeItDripsModel", "isSide", "(I)Z"⟩, 45) := ⟨⟨by decide +kernel, by decide +kernel⟩, List.mem_of_getElem? (i := 847) (by decide +kernel), List.mem_of_getElem? (i := 1151) (by decide +kernel), List.mem_of_getElem? (i := 1152) (by decide +kernel)⟩
theorem lw_p59 : lw_okq (⟨"BeforeItDripsModel", "addLicker", "(II)V"⟩, 45) := ⟨⟨by decide +kernel, by decide +kernel⟩, List.mem_of_getElem? (i := 847) (by decide +kernel), List.mem_of_getElem? (i := 1159) (by decide +kernel), List.mem_of_getElem? (i := 1160) (by decide +kernel)⟩
theorem lw_p60 : lw_okq (⟨"BeforeItDripsModel", "fresh", "()LBeforeItDripsModel;"⟩, 45) := ⟨⟨by decide +kernel, by decide +kernel⟩, List.mem_of_getElem? (i := 847) (by decide +kernel), List.mem_of_getElem? (i := 1176) (by decide +kernel), List.mem_of_getElem? (i := 1177) (by decide +kernel)⟩
theorem lw_p61 : lw_okq (⟨"BeforeItDripsModel", "readAll", "()Z"⟩, 45) := ⟨⟨by decide +kernel, by decide +kernel⟩, List.mem_of_getElem? (i := 847) (by decide +kernel), List.mem_of_getElem? (i := 1180) (by decide +kernel), List.mem_of_getElem? (i := 1181) (by decide +kernel)⟩
theorem lw_p62 : lw_okq (⟨"BeforeItDripsModel", "look", "()V"⟩, 45) := ⟨⟨by decide +kernel, by decide +kernel⟩, List.mem_of_getElem? (i := 847) (by decide +kernel), List.mem_of_getElem? (i := 1184) (by decide +kernel), List.mem_of_getElem? (i := 1185) (by decide +kernel)⟩
theorem lw_p63 : lw_okq (⟨"BeforeItDripsModel", "statement", "()Z"⟩, 45) := ⟨⟨by decide +kernel, by decide +kernel⟩, List.mem_of_getElem? (i := 847) (by decide +kernel), List.mem_of_getElem? (i := 1194) (by decide +kernel), List.mem_of_getElem? (i := 1195) (by decide +kernel)⟩
def lw_privs_4 : List (MethodName × Nat) := [(⟨"BeforeItDripsModel", "canAct", "(J)Z"⟩, 45), (⟨"BeforeItDripsModel", "takeFrom", "(LBeforeItDripsModel;)V"⟩, 45), (⟨"BeforeItDripsModel", "goes", "(IZ)V"⟩, 45), (⟨"BeforeItDripsModel", "lickedOf", "(I)I"⟩, 45), (⟨"BeforeItDripsModel", "melts", "(I)V"⟩, 45), (⟨"BeforeItDripsModel", "isSunny", "(I)Z"⟩, 45), (⟨"BeforeItDripsModel", "runsDown", "(I)V"⟩, 45), (⟨"BeforeItDripsModel", "becomeSides", "(I)V"⟩, 45), (⟨"BeforeItDripsModel", "addScoop", "(II)V"⟩, 45), (⟨"BeforeItDripsModel", "mayAsk", "(II)Z"⟩, 45), (⟨"BeforeItDripsModel", "isSide", "(I)Z"⟩, 45), (⟨"BeforeItDripsModel", "addLicker", "(II)V"⟩, 45), (⟨"BeforeItDripsModel", "fresh", "()LBeforeItDripsModel;"⟩, 45), (⟨"BeforeItDripsModel", "readAll", "()Z"⟩, 45), (⟨"BeforeItDripsModel", "look", "()V"⟩, 45), (⟨"BeforeItDripsModel", "statement", "()Z"⟩, 45)]
theorem lw_r4 : ∀ q ∈ lw_privs_4, lw_okq q := List.forall_mem_cons.mpr ⟨lw_p48, List.forall_mem_cons.mpr ⟨lw_p49, List.forall_mem_cons.mpr ⟨lw_p50, List.forall_mem_cons.mpr ⟨lw_p51, List.forall_mem_cons.mpr ⟨lw_p52, List.forall_mem_cons.mpr ⟨lw_p53, List.forall_mem_cons.mpr ⟨lw_p54, List.forall_mem_cons.mpr ⟨lw_p55, List.forall_mem_cons.mpr ⟨lw_p56, List.forall_mem_cons.mpr ⟨lw_p57, List.forall_mem_cons.mpr ⟨lw_p58, List.forall_mem_cons.mpr ⟨lw_p59, List.forall_mem_cons.mpr ⟨lw_p60, List.forall_mem_cons.mpr ⟨lw_p61, List.forall_mem_cons.mpr ⟨lw_p62, List.forall_mem_cons.mpr ⟨lw_p63, fun _ h => absurd h List.not_mem_nil⟩⟩⟩⟩⟩⟩⟩⟩⟩⟩⟩⟩⟩⟩⟩⟩
theorem lw_p64 : lw_okq (⟨"BeforeItDripsModel", "isWord", "(Ljava/lang/String;)Z"⟩, 45) := ⟨⟨by decide +kernel, by decide +kernel⟩, List.mem_of_getElem? (i := 847) (by decide +kernel), List.mem_of_getElem? (i := 1199) (by decide +kernel), List.mem_of_getElem? (i := 1200) (by decide +kernel)⟩
theorem lw_p65 : lw_okq (⟨"BeforeItDripsModel", "tells", "(II)Z"⟩, 45) := ⟨⟨by decide +kernel, by decide +kernel⟩, List.mem_of_getElem? (i := 847) (by decide +kernel), List.mem_of_getElem? (i := 1205) (by decide +kernel), List.mem_of_getElem? (i := 1206) (by decide +kernel)⟩
theorem lw_p66 : lw_okq (⟨"BeforeItDripsModel", "number", "(III)Z"⟩, 45) := ⟨⟨by decide +kernel, by decide +kernel⟩, List.mem_of_getElem? (i := 847) (by decide +kernel), List.mem_of_getElem? (i := 1209) (by decide +kernel), List.mem_of_getElem? (i := 1210) (by decide +kernel)⟩
theorem lw_p67 : lw_okq (⟨"BeforeItDripsModel", "wrong", "()Z"⟩, 45) := ⟨⟨by decide +kernel, by decide +kernel⟩, List.mem_of_getElem? (i := 847) (by decide +kernel), List.mem_of_getElem? (i := 1213) (by decide +kernel), List.mem_of_getElem? (i := 1214) (by decide +kernel)⟩
theorem lw_p68 : lw_okq (⟨"BeforeItDripsModel", "sunTold", "()Z"⟩, 45) := ⟨⟨by decide +kernel, by decide +kernel⟩, List.mem_of_getElem? (i := 847) (by decide +kernel), List.mem_of_getElem? (i := 1219) (by decide +kernel), List.mem_of_getElem? (i := 1220) (by decide +kernel)⟩
theorem lw_p69 : lw_okq (⟨"BeforeItDripsModel", "lickTold", "()Z"⟩, 45) := ⟨⟨by decide +kernel, by decide +kernel⟩, List.mem_of_getElem? (i := 847) (by decide +kernel), List.mem_of_getElem? (i := 1227) (by decide +kernel), List.mem_of_getElem? (i := 1228) (by decide +kernel)⟩
theorem lw_p70 : lw_okq (⟨"BeforeItDripsModel", "isScoop", "(I)Z"⟩, 45) := ⟨⟨by decide +kernel, by decide +kernel⟩, List.mem_of_getElem? (i := 847) (by decide +kernel), List.mem_of_getElem? (i := 1235) (by decide +kernel), List.mem_of_getElem? (i := 1236) (by decide +kernel)⟩
theorem lw_p71 : lw_okq (⟨"BeforeItDripsModel", "wetOf", "(I)I"⟩, 45) := ⟨⟨by decide +kernel, by decide +kernel⟩, List.mem_of_getElem? (i := 847) (by decide +kernel), List.mem_of_getElem? (i := 1240) (by decide +kernel), List.mem_of_getElem? (i := 1241) (by decide +kernel)⟩
theorem lw_p72 : lw_okq (⟨"BeforeItDripsModel", "withoutNow", "(I)I"⟩, 45) := ⟨⟨by decide +kernel, by decide +kernel⟩, List.mem_of_getElem? (i := 847) (by decide +kernel), List.mem_of_getElem? (i := 1270) (by decide +kernel), List.mem_of_getElem? (i := 1271) (by decide +kernel)⟩
theorem lw_p73 : lw_okq (⟨"BeforeItDripsModel", "stands", "(I)V"⟩, 45) := ⟨⟨by decide +kernel, by decide +kernel⟩, List.mem_of_getElem? (i := 847) (by decide +kernel), List.mem_of_getElem? (i := 1274) (by decide +kernel), List.mem_of_getElem? (i := 1275) (by decide +kernel)⟩
theorem lw_p74 : lw_okq (⟨"BeforeItDripsModel", "lickedBy", "(II)V"⟩, 45) := ⟨⟨by decide +kernel, by decide +kernel⟩, List.mem_of_getElem? (i := 847) (by decide +kernel), List.mem_of_getElem? (i := 1286) (by decide +kernel), List.mem_of_getElem? (i := 1287) (by decide +kernel)⟩
theorem lw_p75 : lw_okq (⟨"BeforeItDripsModel", "toldOf", "(LBeforeItDripsModel;I)I"⟩, 45) := ⟨⟨by decide +kernel, by decide +kernel⟩, List.mem_of_getElem? (i := 847) (by decide +kernel), List.mem_of_getElem? (i := 1290) (by decide +kernel), List.mem_of_getElem? (i := 1291) (by decide +kernel)⟩
theorem lw_p76 : lw_okq (⟨"BeforeItDripsModel", "leftNow", "()I"⟩, 45) := ⟨⟨by decide +kernel, by decide +kernel⟩, List.mem_of_getElem? (i := 847) (by decide +kernel), List.mem_of_getElem? (i := 1294) (by decide +kernel), List.mem_of_getElem? (i := 1295) (by decide +kernel)⟩
theorem lw_p77 : lw_okq (⟨"BeforeItDripsModel", "seekOrder", "(III)V"⟩, 45) := ⟨⟨by decide +kernel, by decide +kernel⟩, List.mem_of_getElem? (i := 847) (by decide +kernel), List.mem_of_getElem? (i := 1326) (by decide +kernel), List.mem_of_getElem? (i := 1327) (by decide +kernel)⟩
theorem lw_p78 : lw_okq (⟨"BeforeItDripsModel", "putFrom", "(LBeforeItDripsModel;II)V"⟩, 45) := ⟨⟨by decide +kernel, by decide +kernel⟩, List.mem_of_getElem? (i := 847) (by decide +kernel), List.mem_of_getElem? (i := 1330) (by decide +kernel), List.mem_of_getElem? (i := 1331) (by decide +kernel)⟩
theorem lw_p79 : lw_okq (⟨"BeforeItDripsModel", "noActs", "(II)I"⟩, 45) := ⟨⟨by decide +kernel, by decide +kernel⟩, List.mem_of_getElem? (i := 847) (by decide +kernel), List.mem_of_getElem? (i := 1358) (by decide +kernel), List.mem_of_getElem? (i := 1359) (by decide +kernel)⟩
def lw_privs_5 : List (MethodName × Nat) := [(⟨"BeforeItDripsModel", "isWord", "(Ljava/lang/String;)Z"⟩, 45), (⟨"BeforeItDripsModel", "tells", "(II)Z"⟩, 45), (⟨"BeforeItDripsModel", "number", "(III)Z"⟩, 45), (⟨"BeforeItDripsModel", "wrong", "()Z"⟩, 45), (⟨"BeforeItDripsModel", "sunTold", "()Z"⟩, 45), (⟨"BeforeItDripsModel", "lickTold", "()Z"⟩, 45), (⟨"BeforeItDripsModel", "isScoop", "(I)Z"⟩, 45), (⟨"BeforeItDripsModel", "wetOf", "(I)I"⟩, 45), (⟨"BeforeItDripsModel", "withoutNow", "(I)I"⟩, 45), (⟨"BeforeItDripsModel", "stands", "(I)V"⟩, 45), (⟨"BeforeItDripsModel", "lickedBy", "(II)V"⟩, 45), (⟨"BeforeItDripsModel", "toldOf", "(LBeforeItDripsModel;I)I"⟩, 45), (⟨"BeforeItDripsModel", "leftNow", "()I"⟩, 45), (⟨"BeforeItDripsModel", "seekOrder", "(III)V"⟩, 45), (⟨"BeforeItDripsModel", "putFrom", "(LBeforeItDripsModel;II)V"⟩, 45), (⟨"BeforeItDripsModel", "noActs", "(II)I"⟩, 45)]
theorem lw_r5 : ∀ q ∈ lw_privs_5, lw_okq q := List.forall_mem_cons.mpr ⟨lw_p64, List.forall_mem_cons.mpr ⟨lw_p65, List.forall_mem_cons.mpr ⟨lw_p66, List.forall_mem_cons.mpr ⟨lw_p67, List.forall_mem_cons.mpr ⟨lw_p68, List.forall_mem_cons.mpr ⟨lw_p69, List.forall_mem_cons.mpr ⟨lw_p70, List.forall_mem_cons.mpr ⟨lw_p71, List.forall_mem_cons.mpr ⟨lw_p72, List.forall_mem_cons.mpr ⟨lw_p73, List.forall_mem_cons.mpr ⟨lw_p74, List.forall_mem_cons.mpr ⟨lw_p75, List.forall_mem_cons.mpr ⟨lw_p76, List.forall_mem_cons.mpr ⟨lw_p77, List.forall_mem_cons.mpr ⟨lw_p78, List.forall_mem_cons.mpr ⟨lw_p79, fun _ h => absurd h List.not_mem_nil⟩⟩⟩⟩⟩⟩⟩⟩⟩⟩⟩⟩⟩⟩⟩⟩
theorem lw_p80 : lw_okq (⟨"BeforeItDripsModel", "wrongIn", "([JI)I"⟩, 45) := ⟨⟨by decide +kernel, by decide +kernel⟩, List.mem_of_getElem? (i := 847) (by decide +kernel), List.mem_of_getElem? (i := 1362) (by decide +kernel), List.mem_of_getElem? (i := 1363) (by decide +kernel)⟩
theorem lw_p81 : lw_okq (⟨"BeforeItDripsModel", "licksTruly", "(II)V"⟩, 45) := ⟨⟨by decide +kernel, by decide +kernel⟩, List.mem_of_getElem? (i := 847) (by decide +kernel), List.mem_of_getElem? (i := 1391) (by decide +kernel), List.mem_of_getElem? (i := 1392) (by decide +kernel)⟩
theorem lw_p82 : lw_okq (⟨"BeforeItDripsModel", "below", "(I)I"⟩, 45) := ⟨⟨by decide +kernel, by decide +kernel⟩, List.mem_of_getElem? (i := 847) (by decide +kernel), List.mem_of_getElem? (i := 1403) (by decide +kernel), List.mem_of_getElem? (i := 1404) (by decide +kernel)⟩
def lw_privs_6 : List (MethodName × Nat) := [(⟨"BeforeItDripsModel", "wrongIn", "([JI)I"⟩, 45), (⟨"BeforeItDripsModel", "licksTruly", "(II)V"⟩, 45), (⟨"BeforeItDripsModel", "below", "(I)I"⟩, 45)]
theorem lw_r6 : ∀ q ∈ lw_privs_6, lw_okq q := List.forall_mem_cons.mpr ⟨lw_p80, List.forall_mem_cons.mpr ⟨lw_p81, List.forall_mem_cons.mpr ⟨lw_p82, fun _ h => absurd h List.not_mem_nil⟩⟩⟩
def lw_privs : List (MethodName × Nat) := lw_privs_1 ++ (lw_privs_2 ++ (lw_privs_3 ++ (lw_privs_4 ++ (lw_privs_5 ++ (lw_privs_6)))))
def lw_tbl : List Cond := k2_sels lw_privs ++ tables_1
theorem lw_privs_ok : ∀ q ∈ lw_privs, lw_okq q := by
  show ∀ q ∈ lw_privs_1 ++ (lw_privs_2 ++ (lw_privs_3 ++ (lw_privs_4 ++ (lw_privs_5 ++ (lw_privs_6))))), lw_okq q
  exact List.forall_mem_append.mpr ⟨lw_r1, List.forall_mem_append.mpr ⟨lw_r2, List.forall_mem_append.mpr ⟨lw_r3, List.forall_mem_append.mpr ⟨lw_r4, List.forall_mem_append.mpr ⟨lw_r5, lw_r6⟩⟩⟩⟩⟩
-- ===== end of PART A; then your names; then what follows =====
def RX0 : String := "BeforeItDrips$Cone"
def TX0 : u_T := fun k => match k with
  | 0 => ("BeforeItDrips$Cone", "sideCount", "I", false)
  | 1 => ("BeforeItDrips$Cone", "turn", "I", false)
  | 2 => ("BeforeItDrips$Cone", "sunBits", "I", false)
  | 3 => ("BeforeItDrips$Cone", "hold", "I", false)
  | 4 => ("BeforeItDrips$Cone", "brim", "I", false)
  | 5 => ("BeforeItDrips$Cone", "lickSize", "I", false)
  | 6 => ("BeforeItDrips$Cone", "give", "I", false)
  | 7 => ("BeforeItDrips$Cone", "seconds", "I", false)
  | 8 => ("BeforeItDrips$Cone", "lost", "I", false)
  | 9 => ("BeforeItDrips$Cone", "eaten", "I", false)
  | 10 => ("BeforeItDrips$Cone", "soak", "I", false)
  | 11 => ("BeforeItDrips$Cone", "scoopCount", "I", false)
  | 12 => ("BeforeItDrips$Cone", "sorts", "[I", true)
  | 13 => ("BeforeItDrips$Cone", "amounts", "[I", true)
  | 14 => ("BeforeItDrips$Cone", "wets", "[I", true)
  | _ => ("BeforeItDrips$Cone", "rims", "[I", true)
def tyX0 : Nat → FieldType := fun k => match k with
  | 0 => .int
  | 1 => .int
  | 2 => .int
  | 3 => .int
  | 4 => .int
  | 5 => .int
  | 6 => .int
  | 7 => .int
  | 8 => .int
  | 9 => .int
  | 10 => .int
  | 11 => .int
  | 12 => .array .int
  | 13 => .array .int
  | 14 => .array .int
  | _ => .array .int
abbrev wsX00 : List Cond := u_ws RX0 TX0 16
theorem nmX0 : ∀ a, a < 16 → ∀ b, b < 16 → a ≠ b → (TX0 a).2.1 ≠ (TX0 b).2.1 := by decide +kernel
theorem tyX0_ok : ∀ k, k < 16 → parseFieldDescriptor (TX0 k).2.2.1 = some (tyX0 k) := by decide +kernel
abbrev cX0_init : ByteArray := prog_2_method_1_code
def yX0_init : MethodName := ⟨RX0, "<init>", "()V"⟩
abbrev cX0_takeFrom : ByteArray := prog_2_method_2_code
def yX0_takeFrom : MethodName := ⟨RX0, "takeFrom", "(LBeforeItDrips$Cone;)V"⟩
abbrev cX0_hasOrder : ByteArray := prog_2_method_3_code
def yX0_hasOrder : MethodName := ⟨RX0, "hasOrder", "(I)Z"⟩
abbrev cX0_scoopInOrder : ByteArray := prog_2_method_4_code
def yX0_scoopInOrder : MethodName := ⟨RX0, "scoopInOrder", "(II)I"⟩
abbrev cX0_takeInOrder : ByteArray := prog_2_method_5_code
def yX0_takeInOrder : MethodName := ⟨RX0, "takeInOrder", "(LBeforeItDrips$Cone;I)V"⟩
abbrev cX0_changePlaces : ByteArray := prog_2_method_6_code
def yX0_changePlaces : MethodName := ⟨RX0, "changePlaces", "(II)V"⟩
abbrev cX0_becomeSides : ByteArray := prog_2_method_7_code
def yX0_becomeSides : MethodName := ⟨RX0, "becomeSides", "(I)V"⟩
abbrev cX0_becomeEmpty : ByteArray := prog_2_method_8_code
def yX0_becomeEmpty : MethodName := ⟨RX0, "becomeEmpty", "()V"⟩
abbrev cX0_putOnTop : ByteArray := prog_2_method_9_code
def yX0_putOnTop : MethodName := ⟨RX0, "putOnTop", "(II)V"⟩
abbrev cX0_allPlaces : ByteArray := prog_2_method_10_code
def yX0_allPlaces : MethodName := ⟨RX0, "allPlaces", "()I"⟩
abbrev cX0_wetAt : ByteArray := prog_2_method_11_code
def yX0_wetAt : MethodName := ⟨RX0, "wetAt", "(II)I"⟩
abbrev cX0_isSunny : ByteArray := prog_2_method_12_code
def yX0_isSunny : MethodName := ⟨RX0, "isSunny", "(I)Z"⟩
abbrev cX0_allWetOf : ByteArray := prog_2_method_13_code
def yX0_allWetOf : MethodName := ⟨RX0, "allWetOf", "(I)I"⟩
abbrev cX0_left : ByteArray := prog_2_method_14_code
def yX0_left : MethodName := ⟨RX0, "left", "()I"⟩
abbrev cX0_hasMeltedScoop : ByteArray := prog_2_method_15_code
def yX0_hasMeltedScoop : MethodName := ⟨RX0, "hasMeltedScoop", "()Z"⟩
abbrev cX0_wettestSide : ByteArray := prog_2_method_16_code
def yX0_wettestSide : MethodName := ⟨RX0, "wettestSide", "()I"⟩
abbrev cX0_lowestWetSide : ByteArray := prog_2_method_17_code
def yX0_lowestWetSide : MethodName := ⟨RX0, "lowestWetSide", "()I"⟩
abbrev cX0_isWetLower : ByteArray := prog_2_method_18_code
def yX0_isWetLower : MethodName := ⟨RX0, "isWetLower", "(II)Z"⟩
abbrev cX0_canDo : ByteArray := prog_2_method_19_code
def yX0_canDo : MethodName := ⟨RX0, "canDo", "(I)Z"⟩
abbrev cX0_isIdle : ByteArray := prog_2_method_20_code
def yX0_isIdle : MethodName := ⟨RX0, "isIdle", "(I)Z"⟩
abbrev cX0_pass : ByteArray := prog_2_method_21_code
def yX0_pass : MethodName := ⟨RX0, "pass", "(I)V"⟩
abbrev cX0_eat : ByteArray := prog_2_method_22_code
def yX0_eat : MethodName := ⟨RX0, "eat", "(I)V"⟩
abbrev cX0_melt : ByteArray := prog_2_method_23_code
def yX0_melt : MethodName := ⟨RX0, "melt", "()V"⟩
abbrev cX0_runDown : ByteArray := prog_2_method_24_code
def yX0_runDown : MethodName := ⟨RX0, "runDown", "()V"⟩
abbrev cX0_fallOff : ByteArray := prog_2_method_25_code
def yX0_fallOff : MethodName := ⟨RX0, "fallOff", "()V"⟩
def RX1 : String := "BeforeItDrips$Kerb"
def TX1 : u_T := fun k => match k with
  | 0 => ("BeforeItDrips$Kerb", "bytes", "[I", true)
  | 1 => ("BeforeItDrips$Kerb", "size", "I", false)
  | 2 => ("BeforeItDrips$Kerb", "token", "I", false)
  | 3 => ("BeforeItDrips$Kerb", "start", "I", false)
  | 4 => ("BeforeItDrips$Kerb", "end", "I", false)
  | _ => ("BeforeItDrips$Kerb", "value", "I", false)
def tyX1 : Nat → FieldType := fun k => match k with
  | 0 => .array .int
  | 1 => .int
  | 2 => .int
  | 3 => .int
  | 4 => .int
  | _ => .int
abbrev wsX10 : List Cond := u_ws RX1 TX1 6
theorem nmX1 : ∀ a, a < 6 → ∀ b, b < 6 → a ≠ b → (TX1 a).2.1 ≠ (TX1 b).2.1 := by decide +kernel
theorem tyX1_ok : ∀ k, k < 6 → parseFieldDescriptor (TX1 k).2.2.1 = some (tyX1 k) := by decide +kernel
abbrev cX1_init : ByteArray := prog_3_method_1_code
def yX1_init : MethodName := ⟨RX1, "<init>", "()V"⟩
abbrev cX1_append : ByteArray := prog_3_method_2_code
def yX1_append : MethodName := ⟨RX1, "append", "(I)V"⟩
abbrev cX1_readInto : ByteArray := prog_3_method_3_code
def yX1_readInto : MethodName := ⟨RX1, "readInto", "(LBeforeItDrips$World;)I"⟩
abbrev cX1_readStatement : ByteArray := prog_3_method_4_code
def yX1_readStatement : MethodName := ⟨RX1, "readStatement", "(LBeforeItDrips$World;)Z"⟩
abbrev cX1_readSides : ByteArray := prog_3_method_5_code
def yX1_readSides : MethodName := ⟨RX1, "readSides", "(LBeforeItDrips$Cone;)Z"⟩
abbrev cX1_readScoop : ByteArray := prog_3_method_6_code
def yX1_readScoop : MethodName := ⟨RX1, "readScoop", "(LBeforeItDrips$Cone;)Z"⟩
abbrev cX1_readSun : ByteArray := prog_3_method_7_code
def yX1_readSun : MethodName := ⟨RX1, "readSun", "(LBeforeItDrips$Cone;)Z"⟩
abbrev cX1_readHold : ByteArray := prog_3_method_8_code
def yX1_readHold : MethodName := ⟨RX1, "readHold", "(LBeforeItDrips$Cone;)Z"⟩
abbrev cX1_readBrim : ByteArray := prog_3_method_9_code
def yX1_readBrim : MethodName := ⟨RX1, "readBrim", "(LBeforeItDrips$Cone;)Z"⟩
abbrev cX1_readLicker : ByteArray := prog_3_method_10_code
def yX1_readLicker : MethodName := ⟨RX1, "readLicker", "(LBeforeItDrips$World;)Z"⟩
abbrev cX1_readLick : ByteArray := prog_3_method_11_code
def yX1_readLick : MethodName := ⟨RX1, "readLick", "(LBeforeItDrips$World;)Z"⟩
abbrev cX1_isNumber : ByteArray := prog_3_method_12_code
def yX1_isNumber : MethodName := ⟨RX1, "isNumber", "(II)Z"⟩
abbrev cX1_isWord : ByteArray := prog_3_method_13_code
def yX1_isWord : MethodName := ⟨RX1, "isWord", "(Ljava/lang/String;)Z"⟩
abbrev cX1_advance : ByteArray := prog_3_method_14_code
def yX1_advance : MethodName := ⟨RX1, "advance", "()V"⟩
abbrev cX1_readNumber : ByteArray := prog_3_method_15_code
def yX1_readNumber : MethodName := ⟨RX1, "readNumber", "()V"⟩
abbrev cX1_byteAt : ByteArray := prog_3_method_16_code
def yX1_byteAt : MethodName := ⟨RX1, "byteAt", "(I)I"⟩
abbrev cX1_isLetter : ByteArray := prog_3_method_17_code
def yX1_isLetter : MethodName := ⟨RX1, "isLetter", "(I)Z"⟩
abbrev cX1_isDigit : ByteArray := prog_3_method_18_code
def yX1_isDigit : MethodName := ⟨RX1, "isDigit", "(I)Z"⟩
def RX2 : String := "BeforeItDrips$Mind"
def TX2 : u_T := fun k => match k with
  | 0 => ("BeforeItDrips$Mind", "levels", "[LBeforeItDrips$Cone;", true)
  | 1 => ("BeforeItDrips$Mind", "tried", "[I", true)
  | 2 => ("BeforeItDrips$Mind", "found", "[I", true)
  | 3 => ("BeforeItDrips$Mind", "foundLost", "I", false)
  | _ => ("BeforeItDrips$Mind", "foundEaten", "I", false)
def tyX2 : Nat → FieldType := fun k => match k with
  | 0 => .array (.object "BeforeItDrips$Cone")
  | 1 => .array .int
  | 2 => .array .int
  | 3 => .int
  | _ => .int
abbrev wsX20 : List Cond := u_ws RX2 TX2 5
theorem nmX2 : ∀ a, a < 5 → ∀ b, b < 5 → a ≠ b → (TX2 a).2.1 ≠ (TX2 b).2.1 := by decide +kernel
theorem tyX2_ok : ∀ k, k < 5 → parseFieldDescriptor (TX2 k).2.2.1 = some (tyX2 k) := by decide +kernel
abbrev cX2_init : ByteArray := prog_4_method_1_code
def yX2_init : MethodName := ⟨RX2, "<init>", "()V"⟩
abbrev cX2_choose : ByteArray := prog_4_method_2_code
def yX2_choose : MethodName := ⟨RX2, "choose", "(LBeforeItDrips$Cone;II)I"⟩
abbrev cX2_goRound : ByteArray := prog_4_method_3_code
def yX2_goRound : MethodName := ⟨RX2, "goRound", "(LBeforeItDrips$Cone;)I"⟩
abbrev cX2_lickLowest : ByteArray := prog_4_method_4_code
def yX2_lickLowest : MethodName := ⟨RX2, "lickLowest", "(LBeforeItDrips$Cone;)I"⟩
abbrev cX2_lickWettest : ByteArray := prog_4_method_5_code
def yX2_lickWettest : MethodName := ⟨RX2, "lickWettest", "(LBeforeItDrips$Cone;)I"⟩
abbrev cX2_turnTo : ByteArray := prog_4_method_6_code
def yX2_turnTo : MethodName := ⟨RX2, "turnTo", "(LBeforeItDrips$Cone;I)I"⟩
abbrev cX2_findPlan : ByteArray := prog_4_method_7_code
def yX2_findPlan : MethodName := ⟨RX2, "findPlan", "(LBeforeItDrips$Cone;I)V"⟩
abbrev cX2_deepen : ByteArray := prog_4_method_8_code
def yX2_deepen : MethodName := ⟨RX2, "deepen", "(LBeforeItDrips$Mind;II)V"⟩
abbrev cX2_weigh : ByteArray := prog_4_method_9_code
def yX2_weigh : MethodName := ⟨RX2, "weigh", "(LBeforeItDrips$Cone;)V"⟩
def RX3 : String := "BeforeItDrips$Shelf"
def TX3 : u_T := fun k => match k with
  | 0 => ("BeforeItDrips$Shelf", "content", "I", false)
  | 1 => ("BeforeItDrips$Shelf", "size", "I", false)
  | _ => ("BeforeItDrips$Shelf", "elements", "[J", true)
def tyX3 : Nat → FieldType := fun k => match k with
  | 0 => .int
  | 1 => .int
  | _ => .array .long
abbrev wsX30 : List Cond := u_ws RX3 TX3 3
theorem nmX3 : ∀ a, a < 3 → ∀ b, b < 3 → a ≠ b → (TX3 a).2.1 ≠ (TX3 b).2.1 := by decide +kernel
theorem tyX3_ok : ∀ k, k < 3 → parseFieldDescriptor (TX3 k).2.2.1 = some (tyX3 k) := by decide +kernel
abbrev cX3_init : ByteArray := prog_5_method_1_code
def yX3_init : MethodName := ⟨RX3, "<init>", "()V"⟩
abbrev cX3_clearAway : ByteArray := prog_5_method_2_code
def yX3_clearAway : MethodName := ⟨RX3, "clearAway", "()V"⟩
abbrev cX3_holdRow : ByteArray := prog_5_method_3_code
def yX3_holdRow : MethodName := ⟨RX3, "holdRow", "(II)V"⟩
abbrev cX3_holdLicker : ByteArray := prog_5_method_4_code
def yX3_holdLicker : MethodName := ⟨RX3, "holdLicker", "(I)V"⟩
abbrev cX3_holdsRow : ByteArray := prog_5_method_5_code
def yX3_holdsRow : MethodName := ⟨RX3, "holdsRow", "()Z"⟩
abbrev cX3_lickerNumber : ByteArray := prog_5_method_6_code
def yX3_lickerNumber : MethodName := ⟨RX3, "lickerNumber", "()I"⟩
abbrev cX3_put : ByteArray := prog_5_method_7_code
def yX3_put : MethodName := ⟨RX3, "put", "(IJ)V"⟩
def RX4 : String := "BeforeItDrips$World"
def TX4 : u_T := fun k => match k with
  | 0 => ("BeforeItDrips$World", "cone", "LBeforeItDrips$Cone;", true)
  | 1 => ("BeforeItDrips$World", "kinds", "[I", true)
  | 2 => ("BeforeItDrips$World", "as", "[I", true)
  | 3 => ("BeforeItDrips$World", "lickerCount", "I", false)
  | 4 => ("BeforeItDrips$World", "drops", "[I", true)
  | 5 => ("BeforeItDrips$World", "dropCount", "I", false)
  | _ => ("BeforeItDrips$World", "seed", "I", false)
def tyX4 : Nat → FieldType := fun k => match k with
  | 0 => .object "BeforeItDrips$Cone"
  | 1 => .array .int
  | 2 => .array .int
  | 3 => .int
  | 4 => .array .int
  | 5 => .int
  | _ => .int
abbrev wsX40 : List Cond := u_ws RX4 TX4 7
theorem nmX4 : ∀ a, a < 7 → ∀ b, b < 7 → a ≠ b → (TX4 a).2.1 ≠ (TX4 b).2.1 := by decide +kernel
theorem tyX4_ok : ∀ k, k < 7 → parseFieldDescriptor (TX4 k).2.2.1 = some (tyX4 k) := by decide +kernel
abbrev cX4_init : ByteArray := prog_6_method_1_code
def yX4_init : MethodName := ⟨RX4, "<init>", "()V"⟩
abbrev cX4_takeFrom : ByteArray := prog_6_method_2_code
def yX4_takeFrom : MethodName := ⟨RX4, "takeFrom", "(LBeforeItDrips$World;)V"⟩
abbrev cX4_addLicker : ByteArray := prog_6_method_3_code
def yX4_addLicker : MethodName := ⟨RX4, "addLicker", "(II)V"⟩
abbrev cX4_actInTruth : ByteArray := prog_6_method_4_code
def yX4_actInTruth : MethodName := ⟨RX4, "actInTruth", "(I)V"⟩
abbrev cX4_drawByte : ByteArray := prog_6_method_5_code
def yX4_drawByte : MethodName := ⟨RX4, "drawByte", "()I"⟩
def RX5 : String := "BeforeItDrips"
def TX5 : u_T := fun k => match k with
  | 0 => ("BeforeItDrips", "truth", "LBeforeItDrips$World;", true)
  | 1 => ("BeforeItDrips", "kept", "LBeforeItDrips$World;", true)
  | 2 => ("BeforeItDrips", "aheadOfKerb", "LBeforeItDrips$World;", true)
  | 3 => ("BeforeItDrips", "thought", "LBeforeItDrips$Cone;", true)
  | 4 => ("BeforeItDrips", "mind", "LBeforeItDrips$Mind;", true)
  | 5 => ("BeforeItDrips", "shelves", "[LBeforeItDrips$Shelf;", true)
  | 6 => ("BeforeItDrips", "tape", "LBeforeItDrips$Kerb;", true)
  | 7 => ("BeforeItDrips", "refusals", "[I", true)
  | _ => ("BeforeItDrips", "somethingIsKept", "Z", false)
def tyX5 : Nat → FieldType := fun k => match k with
  | 0 => .object "BeforeItDrips$World"
  | 1 => .object "BeforeItDrips$World"
  | 2 => .object "BeforeItDrips$World"
  | 3 => .object "BeforeItDrips$Cone"
  | 4 => .object "BeforeItDrips$Mind"
  | 5 => .array (.object "BeforeItDrips$Shelf")
  | 6 => .object "BeforeItDrips$Kerb"
  | 7 => .array .int
  | _ => .boolean
abbrev wsX50 : List Cond := u_ws RX5 TX5 9
theorem nmX5 : ∀ a, a < 9 → ∀ b, b < 9 → a ≠ b → (TX5 a).2.1 ≠ (TX5 b).2.1 := by decide +kernel
theorem tyX5_ok : ∀ k, k < 9 → parseFieldDescriptor (TX5 k).2.2.1 = some (tyX5 k) := by decide +kernel
abbrev cX5_init : ByteArray := prog_1_method_1_code
def yX5_init : MethodName := ⟨RX5, "<init>", "()V"⟩
abbrev cX5_row : ByteArray := prog_1_method_2_code
def yX5_row : MethodName := ⟨RX5, "row", "(III)I"⟩
abbrev cX5_set : ByteArray := prog_1_method_3_code
def yX5_set : MethodName := ⟨RX5, "set", "(IIJ)I"⟩
abbrev cX5_copy : ByteArray := prog_1_method_4_code
def yX5_copy : MethodName := ⟨RX5, "copy", "(IIIII)I"⟩
abbrev cX5_element : ByteArray := prog_1_method_5_code
def yX5_element : MethodName := ⟨RX5, "element", "(II)J"⟩
abbrev cX5_holds : ByteArray := prog_1_method_6_code
def yX5_holds : MethodName := ⟨RX5, "holds", "(I)I"⟩
abbrev cX5_show : ByteArray := prog_1_method_7_code
def yX5_show : MethodName := ⟨RX5, "show", "(II)I"⟩
abbrev cX5_says : ByteArray := prog_1_method_8_code
def yX5_says : MethodName := ⟨RX5, "says", "(II)I"⟩
abbrev cX5_sides : ByteArray := prog_1_method_9_code
def yX5_sides : MethodName := ⟨RX5, "sides", "(I)I"⟩
abbrev cX5_scoop : ByteArray := prog_1_method_10_code
def yX5_scoop : MethodName := ⟨RX5, "scoop", "(II)I"⟩
abbrev cX5_sun : ByteArray := prog_1_method_11_code
def yX5_sun : MethodName := ⟨RX5, "sun", "(I)I"⟩
abbrev cX5_ask : ByteArray := prog_1_method_12_code
def yX5_ask : MethodName := ⟨RX5, "ask", "(II)I"⟩
abbrev cX5_licker : ByteArray := prog_1_method_13_code
def yX5_licker : MethodName := ⟨RX5, "licker", "(II)I"⟩
abbrev cX5_feed : ByteArray := prog_1_method_14_code
def yX5_feed : MethodName := ⟨RX5, "feed", "(I)I"⟩
abbrev cX5_wipe : ByteArray := prog_1_method_15_code
def yX5_wipe : MethodName := ⟨RX5, "wipe", "()I"⟩
abbrev cX5_kerb : ByteArray := prog_1_method_16_code
def yX5_kerb : MethodName := ⟨RX5, "kerb", "()I"⟩
abbrev cX5_scoopOf : ByteArray := prog_1_method_17_code
def yX5_scoopOf : MethodName := ⟨RX5, "scoopOf", "(II)I"⟩
abbrev cX5_wet : ByteArray := prog_1_method_18_code
def yX5_wet : MethodName := ⟨RX5, "wet", "(II)I"⟩
abbrev cX5_lickerOf : ByteArray := prog_1_method_19_code
def yX5_lickerOf : MethodName := ⟨RX5, "lickerOf", "(II)I"⟩
abbrev cX5_sunny : ByteArray := prog_1_method_20_code
def yX5_sunny : MethodName := ⟨RX5, "sunny", "(I)I"⟩
abbrev cX5_without : ByteArray := prog_1_method_21_code
def yX5_without : MethodName := ⟨RX5, "without", "(I)I"⟩
abbrev cX5_spare : ByteArray := prog_1_method_22_code
def yX5_spare : MethodName := ⟨RX5, "spare", "()I"⟩
abbrev cX5_run : ByteArray := prog_1_method_23_code
def yX5_run : MethodName := ⟨RX5, "run", "(III)I"⟩
abbrev cX5_would : ByteArray := prog_1_method_24_code
def yX5_would : MethodName := ⟨RX5, "would", "(I)I"⟩
abbrev cX5_plan : ByteArray := prog_1_method_25_code
def yX5_plan : MethodName := ⟨RX5, "plan", "(II)I"⟩
abbrev cX5_best : ByteArray := prog_1_method_26_code
def yX5_best : MethodName := ⟨RX5, "best", "(I)I"⟩
abbrev cX5_until : ByteArray := prog_1_method_27_code
def yX5_until : MethodName := ⟨RX5, "until", "(I)I"⟩
abbrev cX5_spareBy : ByteArray := prog_1_method_28_code
def yX5_spareBy : MethodName := ⟨RX5, "spareBy", "(I)I"⟩
abbrev cX5_both : ByteArray := prog_1_method_29_code
def yX5_both : MethodName := ⟨RX5, "both", "(III)I"⟩
abbrev cX5_holdFor : ByteArray := prog_1_method_30_code
def yX5_holdFor : MethodName := ⟨RX5, "holdFor", "(I)I"⟩
abbrev cX5_largest : ByteArray := prog_1_method_31_code
def yX5_largest : MethodName := ⟨RX5, "largest", "(II)I"⟩
abbrev cX5_order : ByteArray := prog_1_method_32_code
def yX5_order : MethodName := ⟨RX5, "order", "(II)I"⟩
abbrev cX5_shade : ByteArray := prog_1_method_33_code
def yX5_shade : MethodName := ⟨RX5, "shade", "(I)I"⟩
abbrev cX5_gives : ByteArray := prog_1_method_34_code
def yX5_gives : MethodName := ⟨RX5, "gives", "()I"⟩
abbrev cX5_wettest : ByteArray := prog_1_method_35_code
def yX5_wettest : MethodName := ⟨RX5, "wettest", "()I"⟩
abbrev cX5_largestScoop : ByteArray := prog_1_method_36_code
def yX5_largestScoop : MethodName := ⟨RX5, "largestScoop", "()I"⟩
abbrev cX5_melted : ByteArray := prog_1_method_37_code
def yX5_melted : MethodName := ⟨RX5, "melted", "()I"⟩
abbrev cX5_judge : ByteArray := prog_1_method_38_code
def yX5_judge : MethodName := ⟨RX5, "judge", "(II)I"⟩
abbrev cX5_behind : ByteArray := prog_1_method_39_code
def yX5_behind : MethodName := ⟨RX5, "behind", "(III)I"⟩
abbrev cX5_done : ByteArray := prog_1_method_40_code
def yX5_done : MethodName := ⟨RX5, "done", "(II)I"⟩
abbrev cX5_drop : ByteArray := prog_1_method_41_code
def yX5_drop : MethodName := ⟨RX5, "drop", "(I)I"⟩
abbrev cX5_went : ByteArray := prog_1_method_42_code
def yX5_went : MethodName := ⟨RX5, "went", "(II)I"⟩
abbrev cX5_act : ByteArray := prog_1_method_43_code
def yX5_act : MethodName := ⟨RX5, "act", "(I)I"⟩
abbrev cX5_licks : ByteArray := prog_1_method_44_code
def yX5_licks : MethodName := ⟨RX5, "licks", "(II)I"⟩
abbrev cX5_swap : ByteArray := prog_1_method_45_code
def yX5_swap : MethodName := ⟨RX5, "swap", "(II)I"⟩
abbrev cX5_day : ByteArray := prog_1_method_46_code
def yX5_day : MethodName := ⟨RX5, "day", "(II)I"⟩
abbrev cX5_anew : ByteArray := prog_1_method_47_code
def yX5_anew : MethodName := ⟨RX5, "anew", "()I"⟩
abbrev cX5_seed : ByteArray := prog_1_method_48_code
def yX5_seed : MethodName := ⟨RX5, "seed", "(I)I"⟩
abbrev cX5_image : ByteArray := prog_1_method_49_code
def yX5_image : MethodName := ⟨RX5, "image", "()I"⟩
abbrev cX5_back : ByteArray := prog_1_method_50_code
def yX5_back : MethodName := ⟨RX5, "back", "()I"⟩
abbrev cX5_status : ByteArray := prog_1_method_51_code
def yX5_status : MethodName := ⟨RX5, "status", "(I)I"⟩
abbrev cX5_refuse : ByteArray := prog_1_method_52_code
def yX5_refuse : MethodName := ⟨RX5, "refuse", "(I)I"⟩
abbrev cX5_isWithin : ByteArray := prog_1_method_53_code
def yX5_isWithin : MethodName := ⟨RX5, "isWithin", "(III)Z"⟩
abbrev cX5_isShelf : ByteArray := prog_1_method_54_code
def yX5_isShelf : MethodName := ⟨RX5, "isShelf", "(I)Z"⟩
abbrev cX5_isSpan : ByteArray := prog_1_method_55_code
def yX5_isSpan : MethodName := ⟨RX5, "isSpan", "(I)Z"⟩
abbrev cX5_isScoop : ByteArray := prog_1_method_56_code
def yX5_isScoop : MethodName := ⟨RX5, "isScoop", "(I)Z"⟩
abbrev cX5_isSide : ByteArray := prog_1_method_57_code
def yX5_isSide : MethodName := ⟨RX5, "isSide", "(I)Z"⟩
abbrev cX5_isLicker : ByteArray := prog_1_method_58_code
def yX5_isLicker : MethodName := ⟨RX5, "isLicker", "(I)Z"⟩
abbrev cX5_canAsk : ByteArray := prog_1_method_59_code
def yX5_canAsk : MethodName := ⟨RX5, "canAsk", "(II)Z"⟩
abbrev cX5_isUnder : ByteArray := prog_1_method_60_code
def yX5_isUnder : MethodName := ⟨RX5, "isUnder", "(II)Z"⟩
abbrev cX5_rowFault : ByteArray := prog_1_method_61_code
def yX5_rowFault : MethodName := ⟨RX5, "rowFault", "(I)I"⟩
abbrev cX5_copyFault : ByteArray := prog_1_method_62_code
def yX5_copyFault : MethodName := ⟨RX5, "copyFault", "(II)I"⟩
abbrev cX5_toldFault : ByteArray := prog_1_method_63_code
def yX5_toldFault : MethodName := ⟨RX5, "toldFault", "(IIII)I"⟩
abbrev cX5_wrongTold : ByteArray := prog_1_method_64_code
def yX5_wrongTold : MethodName := ⟨RX5, "wrongTold", "(II)I"⟩
abbrev cX5_wentAt : ByteArray := prog_1_method_65_code
def yX5_wentAt : MethodName := ⟨RX5, "wentAt", "(III)Z"⟩
abbrev cX5_shelvesInUse : ByteArray := prog_1_method_66_code
def yX5_shelvesInUse : MethodName := ⟨RX5, "shelvesInUse", "()I"⟩
abbrev cX5_wouldIn : ByteArray := prog_1_method_67_code
def yX5_wouldIn : MethodName := ⟨RX5, "wouldIn", "(LBeforeItDrips$Cone;I)I"⟩
abbrev cX5_lostIdling : ByteArray := prog_1_method_68_code
def yX5_lostIdling : MethodName := ⟨RX5, "lostIdling", "(I)I"⟩
abbrev cX5_lostUnder : ByteArray := prog_1_method_69_code
def yX5_lostUnder : MethodName := ⟨RX5, "lostUnder", "(III)I"⟩
abbrev cX5_thinkRun : ByteArray := prog_1_method_70_code
def yX5_thinkRun : MethodName := ⟨RX5, "thinkRun", "(II)V"⟩
abbrev cX5_thoughtResult : ByteArray := prog_1_method_71_code
def yX5_thoughtResult : MethodName := ⟨RX5, "thoughtResult", "(I)I"⟩
abbrev cX5_lickInTruth : ByteArray := prog_1_method_72_code
def yX5_lickInTruth : MethodName := ⟨RX5, "lickInTruth", "(II)V"⟩
def RX6 : String := "BeforeItDripsModel"
def TX6 : u_T := fun k => match k with
  | 0 => ("BeforeItDripsModel", "shelf", "[I", true)
  | 1 => ("BeforeItDripsModel", "rowSort", "[I", true)
  | 2 => ("BeforeItDripsModel", "rowSize", "[I", true)
  | 3 => ("BeforeItDripsModel", "rows", "[[J", true)
  | 4 => ("BeforeItDripsModel", "moved", "[J", true)
  | 5 => ("BeforeItDripsModel", "shown", "[I", true)
  | 6 => ("BeforeItDripsModel", "tape", "[I", true)
  | 7 => ("BeforeItDripsModel", "tapeSize", "I", false)
  | 8 => ("BeforeItDripsModel", "refused", "[I", true)
  | 9 => ("BeforeItDripsModel", "sides", "I", false)
  | 10 => ("BeforeItDripsModel", "scoops", "I", false)
  | 11 => ("BeforeItDripsModel", "sort", "[I", true)
  | 12 => ("BeforeItDripsModel", "amount", "[I", true)
  | 13 => ("BeforeItDripsModel", "wet", "[[I", true)
  | 14 => ("BeforeItDripsModel", "rim", "[I", true)
  | 15 => ("BeforeItDripsModel", "turn", "I", false)
  | 16 => ("BeforeItDripsModel", "sun", "I", false)
  | 17 => ("BeforeItDripsModel", "asked", "[I", true)
  | 18 => ("BeforeItDripsModel", "seconds", "I", false)
  | 19 => ("BeforeItDripsModel", "lost", "I", false)
  | 20 => ("BeforeItDripsModel", "eaten", "I", false)
  | 21 => ("BeforeItDripsModel", "soak", "I", false)
  | 22 => ("BeforeItDripsModel", "lickers", "I", false)
  | 23 => ("BeforeItDripsModel", "kind", "[I", true)
  | 24 => ("BeforeItDripsModel", "by", "[I", true)
  | 25 => ("BeforeItDripsModel", "drops", "I", false)
  | 26 => ("BeforeItDripsModel", "dropAt", "[I", true)
  | 27 => ("BeforeItDripsModel", "seed", "I", false)
  | 28 => ("BeforeItDripsModel", "kept", "LBeforeItDripsModel;", false)
  | 29 => ("BeforeItDripsModel", "tried", "LBeforeItDripsModel;", false)
  | 30 => ("BeforeItDripsModel", "ahead", "[LBeforeItDripsModel;", true)
  | 31 => ("BeforeItDripsModel", "at", "I", false)
  | 32 => ("BeforeItDripsModel", "token", "I", false)
  | 33 => ("BeforeItDripsModel", "from", "I", false)
  | 34 => ("BeforeItDripsModel", "figures", "I", false)
  | 35 => ("BeforeItDripsModel", "fault", "I", false)
  | 36 => ("BeforeItDripsModel", "told", "[I", true)
  | 37 => ("BeforeItDripsModel", "statements", "I", false)
  | 38 => ("BeforeItDripsModel", "planFirst", "I", false)
  | 39 => ("BeforeItDripsModel", "planLost", "I", false)
  | 40 => ("BeforeItDripsModel", "planEaten", "I", false)
  | 41 => ("BeforeItDripsModel", "planRow", "[I", true)
  | 42 => ("BeforeItDripsModel", "orderNow", "[I", true)
  | 43 => ("BeforeItDripsModel", "orderBest", "[I", true)
  | _ => ("BeforeItDripsModel", "orderLost", "I", false)
def tyX6 : Nat → FieldType := fun k => match k with
  | 0 => .array .int
  | 1 => .array .int
  | 2 => .array .int
  | 3 => .array (.array .long)
  | 4 => .array .long
  | 5 => .array .int
  | 6 => .array .int
  | 7 => .int
  | 8 => .array .int
  | 9 => .int
  | 10 => .int
  | 11 => .array .int
  | 12 => .array .int
  | 13 => .array (.array .int)
  | 14 => .array .int
  | 15 => .int
  | 16 => .int
  | 17 => .array .int
  | 18 => .int
  | 19 => .int
  | 20 => .int
  | 21 => .int
  | 22 => .int
  | 23 => .array .int
  | 24 => .array .int
  | 25 => .int
  | 26 => .array .int
  | 27 => .int
  | 28 => .object "BeforeItDripsModel"
  | 29 => .object "BeforeItDripsModel"
  | 30 => .array (.object "BeforeItDripsModel")
  | 31 => .int
  | 32 => .int
  | 33 => .int
  | 34 => .int
  | 35 => .int
  | 36 => .array .int
  | 37 => .int
  | 38 => .int
  | 39 => .int
  | 40 => .int
  | 41 => .array .int
  | 42 => .array .int
  | 43 => .array .int
  | _ => .int
abbrev wsX60 : List Cond := u_ws RX6 TX6 45
theorem nmX6 : ∀ a, a < 45 → ∀ b, b < 45 → a ≠ b → (TX6 a).2.1 ≠ (TX6 b).2.1 := by decide +kernel
theorem tyX6_ok : ∀ k, k < 45 → parseFieldDescriptor (TX6 k).2.2.1 = some (tyX6 k) := by decide +kernel
abbrev cX6_init : ByteArray := prog_8_method_1_code
def yX6_init : MethodName := ⟨RX6, "<init>", "()V"⟩
abbrev cX6_refuse : ByteArray := prog_8_method_2_code
def yX6_refuse : MethodName := ⟨RX6, "refuse", "(I)I"⟩
abbrev cX6_in : ByteArray := prog_8_method_3_code
def yX6_in : MethodName := ⟨RX6, "in", "(JJJ)Z"⟩
abbrev cX6_isLicker : ByteArray := prog_8_method_4_code
def yX6_isLicker : MethodName := ⟨RX6, "isLicker", "(I)Z"⟩
abbrev cX6_isScoop : ByteArray := prog_8_method_5_code
def yX6_isScoop : MethodName := ⟨RX6, "isScoop", "(I)Z"⟩
abbrev cX6_isSide : ByteArray := prog_8_method_6_code
def yX6_isSide : MethodName := ⟨RX6, "isSide", "(I)Z"⟩
abbrev cX6_row : ByteArray := prog_8_method_7_code
def yX6_row : MethodName := ⟨RX6, "row", "(III)I"⟩
abbrev cX6_fit : ByteArray := prog_8_method_8_code
def yX6_fit : MethodName := ⟨RX6, "fit", "(IJ)J"⟩
abbrev cX6_noRow : ByteArray := prog_8_method_9_code
def yX6_noRow : MethodName := ⟨RX6, "noRow", "(I)I"⟩
abbrev cX6_set : ByteArray := prog_8_method_10_code
def yX6_set : MethodName := ⟨RX6, "set", "(IIJ)I"⟩
abbrev cX6_copy : ByteArray := prog_8_method_11_code
def yX6_copy : MethodName := ⟨RX6, "copy", "(IIIII)I"⟩
abbrev cX6_element : ByteArray := prog_8_method_12_code
def yX6_element : MethodName := ⟨RX6, "element", "(II)J"⟩
abbrev cX6_holds : ByteArray := prog_8_method_13_code
def yX6_holds : MethodName := ⟨RX6, "holds", "(I)I"⟩
abbrev cX6_show : ByteArray := prog_8_method_14_code
def yX6_show : MethodName := ⟨RX6, "show", "(II)I"⟩
abbrev cX6_isUnder : ByteArray := prog_8_method_15_code
def yX6_isUnder : MethodName := ⟨RX6, "isUnder", "(II)Z"⟩
abbrev cX6_says : ByteArray := prog_8_method_16_code
def yX6_says : MethodName := ⟨RX6, "says", "(II)I"⟩
abbrev cX6_becomeSides : ByteArray := prog_8_method_17_code
def yX6_becomeSides : MethodName := ⟨RX6, "becomeSides", "(I)V"⟩
abbrev cX6_sides : ByteArray := prog_8_method_18_code
def yX6_sides : MethodName := ⟨RX6, "sides", "(I)I"⟩
abbrev cX6_addScoop : ByteArray := prog_8_method_19_code
def yX6_addScoop : MethodName := ⟨RX6, "addScoop", "(II)V"⟩
abbrev cX6_scoop : ByteArray := prog_8_method_20_code
def yX6_scoop : MethodName := ⟨RX6, "scoop", "(II)I"⟩
abbrev cX6_sun : ByteArray := prog_8_method_21_code
def yX6_sun : MethodName := ⟨RX6, "sun", "(I)I"⟩
abbrev cX6_mayAsk : ByteArray := prog_8_method_22_code
def yX6_mayAsk : MethodName := ⟨RX6, "mayAsk", "(II)Z"⟩
abbrev cX6_ask : ByteArray := prog_8_method_23_code
def yX6_ask : MethodName := ⟨RX6, "ask", "(II)I"⟩
abbrev cX6_addLicker : ByteArray := prog_8_method_24_code
def yX6_addLicker : MethodName := ⟨RX6, "addLicker", "(II)V"⟩
abbrev cX6_licker : ByteArray := prog_8_method_25_code
def yX6_licker : MethodName := ⟨RX6, "licker", "(II)I"⟩
abbrev cX6_feed : ByteArray := prog_8_method_26_code
def yX6_feed : MethodName := ⟨RX6, "feed", "(I)I"⟩
abbrev cX6_wipe : ByteArray := prog_8_method_27_code
def yX6_wipe : MethodName := ⟨RX6, "wipe", "()I"⟩
abbrev cX6_isLetter : ByteArray := prog_8_method_28_code
def yX6_isLetter : MethodName := ⟨RX6, "isLetter", "(I)Z"⟩
abbrev cX6_isDigit : ByteArray := prog_8_method_29_code
def yX6_isDigit : MethodName := ⟨RX6, "isDigit", "(I)Z"⟩
abbrev cX6_look : ByteArray := prog_8_method_30_code
def yX6_look : MethodName := ⟨RX6, "look", "()V"⟩
abbrev cX6_wrong : ByteArray := prog_8_method_31_code
def yX6_wrong : MethodName := ⟨RX6, "wrong", "()Z"⟩
abbrev cX6_isWord : ByteArray := prog_8_method_32_code
def yX6_isWord : MethodName := ⟨RX6, "isWord", "(Ljava/lang/String;)Z"⟩
abbrev cX6_number : ByteArray := prog_8_method_33_code
def yX6_number : MethodName := ⟨RX6, "number", "(III)Z"⟩
abbrev cX6_tells : ByteArray := prog_8_method_34_code
def yX6_tells : MethodName := ⟨RX6, "tells", "(II)Z"⟩
abbrev cX6_sunTold : ByteArray := prog_8_method_35_code
def yX6_sunTold : MethodName := ⟨RX6, "sunTold", "()Z"⟩
abbrev cX6_lickTold : ByteArray := prog_8_method_36_code
def yX6_lickTold : MethodName := ⟨RX6, "lickTold", "()Z"⟩
abbrev cX6_statement : ByteArray := prog_8_method_37_code
def yX6_statement : MethodName := ⟨RX6, "statement", "()Z"⟩
abbrev cX6_readAll : ByteArray := prog_8_method_38_code
def yX6_readAll : MethodName := ⟨RX6, "readAll", "()Z"⟩
abbrev cX6_kerb : ByteArray := prog_8_method_39_code
def yX6_kerb : MethodName := ⟨RX6, "kerb", "()I"⟩
abbrev cX6_wetOf : ByteArray := prog_8_method_40_code
def yX6_wetOf : MethodName := ⟨RX6, "wetOf", "(I)I"⟩
abbrev cX6_scoopOf : ByteArray := prog_8_method_41_code
def yX6_scoopOf : MethodName := ⟨RX6, "scoopOf", "(II)I"⟩
abbrev cX6_wet : ByteArray := prog_8_method_42_code
def yX6_wet : MethodName := ⟨RX6, "wet", "(II)I"⟩
abbrev cX6_lickerOf : ByteArray := prog_8_method_43_code
def yX6_lickerOf : MethodName := ⟨RX6, "lickerOf", "(II)I"⟩
abbrev cX6_isSunny : ByteArray := prog_8_method_44_code
def yX6_isSunny : MethodName := ⟨RX6, "isSunny", "(I)Z"⟩
abbrev cX6_sunny : ByteArray := prog_8_method_45_code
def yX6_sunny : MethodName := ⟨RX6, "sunny", "(I)I"⟩
abbrev cX6_canAct : ByteArray := prog_8_method_46_code
def yX6_canAct : MethodName := ⟨RX6, "canAct", "(J)Z"⟩
abbrev cX6_lickedOf : ByteArray := prog_8_method_47_code
def yX6_lickedOf : MethodName := ⟨RX6, "lickedOf", "(I)I"⟩
abbrev cX6_melts : ByteArray := prog_8_method_48_code
def yX6_melts : MethodName := ⟨RX6, "melts", "(I)V"⟩
abbrev cX6_runsDown : ByteArray := prog_8_method_49_code
def yX6_runsDown : MethodName := ⟨RX6, "runsDown", "(I)V"⟩
abbrev cX6_goes : ByteArray := prog_8_method_50_code
def yX6_goes : MethodName := ⟨RX6, "goes", "(IZ)V"⟩
abbrev cX6_leftNow : ByteArray := prog_8_method_51_code
def yX6_leftNow : MethodName := ⟨RX6, "leftNow", "()I"⟩
abbrev cX6_roundAct : ByteArray := prog_8_method_52_code
def yX6_roundAct : MethodName := ⟨RX6, "roundAct", "()I"⟩
abbrev cX6_allAt : ByteArray := prog_8_method_53_code
def yX6_allAt : MethodName := ⟨RX6, "allAt", "(I)I"⟩
abbrev cX6_wettestSide : ByteArray := prog_8_method_54_code
def yX6_wettestSide : MethodName := ⟨RX6, "wettestSide", "()I"⟩
abbrev cX6_turnTo : ByteArray := prog_8_method_55_code
def yX6_turnTo : MethodName := ⟨RX6, "turnTo", "(I)I"⟩
abbrev cX6_wettestAct : ByteArray := prog_8_method_56_code
def yX6_wettestAct : MethodName := ⟨RX6, "wettestAct", "()I"⟩
abbrev cX6_isMore : ByteArray := prog_8_method_57_code
def yX6_isMore : MethodName := ⟨RX6, "isMore", "(II)Z"⟩
abbrev cX6_lowestAct : ByteArray := prog_8_method_58_code
def yX6_lowestAct : MethodName := ⟨RX6, "lowestAct", "()I"⟩
abbrev cX6_findPlan : ByteArray := prog_8_method_59_code
def yX6_findPlan : MethodName := ⟨RX6, "findPlan", "(I)V"⟩
abbrev cX6_wouldBe : ByteArray := prog_8_method_60_code
def yX6_wouldBe : MethodName := ⟨RX6, "wouldBe", "(I)I"⟩
abbrev cX6_would : ByteArray := prog_8_method_61_code
def yX6_would : MethodName := ⟨RX6, "would", "(I)I"⟩
abbrev cX6_plan : ByteArray := prog_8_method_62_code
def yX6_plan : MethodName := ⟨RX6, "plan", "(II)I"⟩
abbrev cX6_fresh : ByteArray := prog_8_method_63_code
def yX6_fresh : MethodName := ⟨RX6, "fresh", "()LBeforeItDripsModel;"⟩
abbrev cX6_stands : ByteArray := prog_8_method_64_code
def yX6_stands : MethodName := ⟨RX6, "stands", "(I)V"⟩
abbrev cX6_lickedBy : ByteArray := prog_8_method_65_code
def yX6_lickedBy : MethodName := ⟨RX6, "lickedBy", "(II)V"⟩
abbrev cX6_withoutNow : ByteArray := prog_8_method_66_code
def yX6_withoutNow : MethodName := ⟨RX6, "withoutNow", "(I)I"⟩
abbrev cX6_without : ByteArray := prog_8_method_67_code
def yX6_without : MethodName := ⟨RX6, "without", "(I)I"⟩
abbrev cX6_spare : ByteArray := prog_8_method_68_code
def yX6_spare : MethodName := ⟨RX6, "spare", "()I"⟩
abbrev cX6_toldOf : ByteArray := prog_8_method_69_code
def yX6_toldOf : MethodName := ⟨RX6, "toldOf", "(LBeforeItDripsModel;I)I"⟩
abbrev cX6_run : ByteArray := prog_8_method_70_code
def yX6_run : MethodName := ⟨RX6, "run", "(III)I"⟩
abbrev cX6_best : ByteArray := prog_8_method_71_code
def yX6_best : MethodName := ⟨RX6, "best", "(I)I"⟩
abbrev cX6_until : ByteArray := prog_8_method_72_code
def yX6_until : MethodName := ⟨RX6, "until", "(I)I"⟩
abbrev cX6_spareBy : ByteArray := prog_8_method_73_code
def yX6_spareBy : MethodName := ⟨RX6, "spareBy", "(I)I"⟩
abbrev cX6_both : ByteArray := prog_8_method_74_code
def yX6_both : MethodName := ⟨RX6, "both", "(III)I"⟩
abbrev cX6_holdFor : ByteArray := prog_8_method_75_code
def yX6_holdFor : MethodName := ⟨RX6, "holdFor", "(I)I"⟩
abbrev cX6_largest : ByteArray := prog_8_method_76_code
def yX6_largest : MethodName := ⟨RX6, "largest", "(II)I"⟩
abbrev cX6_putFrom : ByteArray := prog_8_method_77_code
def yX6_putFrom : MethodName := ⟨RX6, "putFrom", "(LBeforeItDripsModel;II)V"⟩
abbrev cX6_seekOrder : ByteArray := prog_8_method_78_code
def yX6_seekOrder : MethodName := ⟨RX6, "seekOrder", "(III)V"⟩
abbrev cX6_order : ByteArray := prog_8_method_79_code
def yX6_order : MethodName := ⟨RX6, "order", "(II)I"⟩
abbrev cX6_shade : ByteArray := prog_8_method_80_code
def yX6_shade : MethodName := ⟨RX6, "shade", "(I)I"⟩
abbrev cX6_gives : ByteArray := prog_8_method_81_code
def yX6_gives : MethodName := ⟨RX6, "gives", "()I"⟩
abbrev cX6_wettest : ByteArray := prog_8_method_82_code
def yX6_wettest : MethodName := ⟨RX6, "wettest", "()I"⟩
abbrev cX6_largestScoop : ByteArray := prog_8_method_83_code
def yX6_largestScoop : MethodName := ⟨RX6, "largestScoop", "()I"⟩
abbrev cX6_melted : ByteArray := prog_8_method_84_code
def yX6_melted : MethodName := ⟨RX6, "melted", "()I"⟩
abbrev cX6_noActs : ByteArray := prog_8_method_85_code
def yX6_noActs : MethodName := ⟨RX6, "noActs", "(II)I"⟩
abbrev cX6_wrongIn : ByteArray := prog_8_method_86_code
def yX6_wrongIn : MethodName := ⟨RX6, "wrongIn", "([JI)I"⟩
abbrev cX6_judge : ByteArray := prog_8_method_87_code
def yX6_judge : MethodName := ⟨RX6, "judge", "(II)I"⟩
abbrev cX6_behind : ByteArray := prog_8_method_88_code
def yX6_behind : MethodName := ⟨RX6, "behind", "(III)I"⟩
abbrev cX6_done : ByteArray := prog_8_method_89_code
def yX6_done : MethodName := ⟨RX6, "done", "(II)I"⟩
abbrev cX6_drop : ByteArray := prog_8_method_90_code
def yX6_drop : MethodName := ⟨RX6, "drop", "(I)I"⟩
abbrev cX6_went : ByteArray := prog_8_method_91_code
def yX6_went : MethodName := ⟨RX6, "went", "(II)I"⟩
abbrev cX6_act : ByteArray := prog_8_method_92_code
def yX6_act : MethodName := ⟨RX6, "act", "(I)I"⟩
abbrev cX6_licksTruly : ByteArray := prog_8_method_93_code
def yX6_licksTruly : MethodName := ⟨RX6, "licksTruly", "(II)V"⟩
abbrev cX6_licks : ByteArray := prog_8_method_94_code
def yX6_licks : MethodName := ⟨RX6, "licks", "(II)I"⟩
abbrev cX6_swap : ByteArray := prog_8_method_95_code
def yX6_swap : MethodName := ⟨RX6, "swap", "(II)I"⟩
abbrev cX6_below : ByteArray := prog_8_method_96_code
def yX6_below : MethodName := ⟨RX6, "below", "(I)I"⟩
abbrev cX6_day : ByteArray := prog_8_method_97_code
def yX6_day : MethodName := ⟨RX6, "day", "(II)I"⟩
abbrev cX6_anew : ByteArray := prog_8_method_98_code
def yX6_anew : MethodName := ⟨RX6, "anew", "()I"⟩
abbrev cX6_seed : ByteArray := prog_8_method_99_code
def yX6_seed : MethodName := ⟨RX6, "seed", "(I)I"⟩
abbrev cX6_copied : ByteArray := prog_8_method_100_code
def yX6_copied : MethodName := ⟨RX6, "copied", "([I[I)V"⟩
abbrev cX6_takeFrom : ByteArray := prog_8_method_101_code
def yX6_takeFrom : MethodName := ⟨RX6, "takeFrom", "(LBeforeItDripsModel;)V"⟩
abbrev cX6_image : ByteArray := prog_8_method_102_code
def yX6_image : MethodName := ⟨RX6, "image", "()I"⟩
abbrev cX6_back : ByteArray := prog_8_method_103_code
def yX6_back : MethodName := ⟨RX6, "back", "()I"⟩
abbrev cX6_status : ByteArray := prog_8_method_104_code
def yX6_status : MethodName := ⟨RX6, "status", "(I)I"⟩
def RJ9 : String := "java/lang/Math"
def TJ9 : u_T := fun k => match k with
  | _ => ("", "", "", false)
def tyJ9 : Nat → FieldType := fun k => match k with
  | _ => .int
abbrev wsJ90 : List Cond := u_ws RJ9 TJ9 0
theorem nmJ9 : ∀ a, a < 0 → ∀ b, b < 0 → a ≠ b → (TJ9 a).2.1 ≠ (TJ9 b).2.1 := by decide +kernel
theorem tyJ9_ok : ∀ k, k < 0 → parseFieldDescriptor (TJ9 k).2.2.1 = some (tyJ9 k) := by decide +kernel
abbrev cJ9_min_7cf53 : ByteArray := prog_9_method_69_code
def yJ9_min_7cf53 : MethodName := ⟨RJ9, "min", "(II)I"⟩
def RJ0 : String := "java/lang/String"
def TJ0 : u_T := fun k => match k with
  | _ => ("", "", "", false)
def tyJ0 : Nat → FieldType := fun k => match k with
  | _ => .int
abbrev wsJ00 : List Cond := u_ws RJ0 TJ0 0
theorem nmJ0 : ∀ a, a < 0 → ∀ b, b < 0 → a ≠ b → (TJ0 a).2.1 ≠ (TJ0 b).2.1 := by decide +kernel
theorem tyJ0_ok : ∀ k, k < 0 → parseFieldDescriptor (TJ0 k).2.2.1 = some (tyJ0 k) := by decide +kernel
abbrev cJ0_length_8abf5 : ByteArray := prog_10_method_54_code
def yJ0_length_8abf5 : MethodName := ⟨RJ0, "length", "()I"⟩
abbrev cJ0_charAt_5068e : ByteArray := prog_10_method_56_code
def yJ0_charAt_5068e : MethodName := ⟨RJ0, "charAt", "(I)C"⟩
abbrev cJ0_coder_7d493 : ByteArray := prog_10_method_152_code
def yJ0_coder_7d493 : MethodName := ⟨RJ0, "coder", "()B"⟩
abbrev cJ0_isLatin1_aae02 : ByteArray := prog_10_method_154_code
def yJ0_isLatin1_aae02 : MethodName := ⟨RJ0, "isLatin1", "()Z"⟩
abbrev cJ0_checkIndex_df160 : ByteArray := prog_10_method_155_code
def yJ0_checkIndex_df160 : MethodName := ⟨RJ0, "checkIndex", "(II)V"⟩
def RJ1 : String := "java/lang/StringLatin1"
def TJ1 : u_T := fun k => match k with
  | _ => ("", "", "", false)
def tyJ1 : Nat → FieldType := fun k => match k with
  | _ => .int
abbrev wsJ10 : List Cond := u_ws RJ1 TJ1 0
theorem nmJ1 : ∀ a, a < 0 → ∀ b, b < 0 → a ≠ b → (TJ1 a).2.1 ≠ (TJ1 b).2.1 := by decide +kernel
theorem tyJ1_ok : ∀ k, k < 0 → parseFieldDescriptor (TJ1 k).2.2.1 = some (tyJ1 k) := by decide +kernel
abbrev cJ1_charAt_3b067 : ByteArray := prog_11_method_2_code
def yJ1_charAt_3b067 : MethodName := ⟨RJ1, "charAt", "([BI)C"⟩
def RJ2 : String := "java/lang/StringUTF16"
def TJ2 : u_T := fun k => match k with
  | _ => ("", "", "", false)
def tyJ2 : Nat → FieldType := fun k => match k with
  | _ => .int
abbrev wsJ20 : List Cond := u_ws RJ2 TJ2 0
theorem nmJ2 : ∀ a, a < 0 → ∀ b, b < 0 → a ≠ b → (TJ2 a).2.1 ≠ (TJ2 b).2.1 := by decide +kernel
theorem tyJ2_ok : ∀ k, k < 0 → parseFieldDescriptor (TJ2 k).2.2.1 = some (tyJ2 k) := by decide +kernel
abbrev cJ2_getChar_3b067 : ByteArray := prog_12_method_5_code
def yJ2_getChar_3b067 : MethodName := ⟨RJ2, "getChar", "([BI)C"⟩
abbrev cJ2_length_9d52b : ByteArray := prog_12_method_6_code
def yJ2_length_9d52b : MethodName := ⟨RJ2, "length", "([B)I"⟩
abbrev cJ2_charAt_3b067 : ByteArray := prog_12_method_83_code
def yJ2_charAt_3b067 : MethodName := ⟨RJ2, "charAt", "([BI)C"⟩
abbrev cJ2_checkIndex_2214a : ByteArray := prog_12_method_91_code
def yJ2_checkIndex_2214a : MethodName := ⟨RJ2, "checkIndex", "(I[B)V"⟩
def RJ10 : String := "java/lang/System"
def TJ10 : u_T := fun k => match k with
  | _ => ("", "", "", false)
def tyJ10 : Nat → FieldType := fun k => match k with
  | _ => .int
abbrev wsJ100 : List Cond := u_ws RJ10 TJ10 0
theorem nmJ10 : ∀ a, a < 0 → ∀ b, b < 0 → a ≠ b → (TJ10 a).2.1 ≠ (TJ10 b).2.1 := by decide +kernel
theorem tyJ10_ok : ∀ k, k < 0 → parseFieldDescriptor (TJ10 k).2.2.1 = some (tyJ10 k) := by decide +kernel
def RJ3 : String := "jdk/internal/util/Preconditions"
def TJ3 : u_T := fun k => match k with
  | _ => ("", "", "", false)
def tyJ3 : Nat → FieldType := fun k => match k with
  | _ => .int
abbrev wsJ30 : List Cond := u_ws RJ3 TJ3 0
theorem nmJ3 : ∀ a, a < 0 → ∀ b, b < 0 → a ≠ b → (TJ3 a).2.1 ≠ (TJ3 b).2.1 := by decide +kernel
theorem tyJ3_ok : ∀ k, k < 0 → parseFieldDescriptor (TJ3 k).2.2.1 = some (tyJ3 k) := by decide +kernel
abbrev cJ3_checkIndex_8e157 : ByteArray := prog_14_method_11_code
def yJ3_checkIndex_8e157 : MethodName := ⟨RJ3, "checkIndex", "(IILjava/util/function/BiFunction;)I"⟩
def RL : String := "BeforeItDripsLaw"
abbrev cL_law : ByteArray := code
def yL_law : MethodName := ⟨RL, "law", "([I)Z"⟩
abbrev vwCl : List vw_C := [(RX0, TX0, 16), (RX1, TX1, 6), (RX2, TX2, 5), (RX3, TX3, 3), (RX4, TX4, 7), (RX5, TX5, 9), (RX6, TX6, 45)]
end
section
/-! THE JUDGEMENT Ev: the machine's W, packaged: a method's run over a heap told by five planes (size, shapes, references, ints, longs), at real addresses. -/
def TT : List Cond := lw_tbl.filter goodWord
theorem TT_in {w : Cond} (h : w ∈ lw_tbl) (g : goodWord w = true) : w ∈ TT := List.mem_filter.mpr ⟨h, g⟩
theorem TT_at {w : Cond} (i : Nat) (h : lw_tbl[i]? = some w) (g : goodWord w = true) : w ∈ TT := TT_in (List.mem_of_getElem? h) g
theorem TT_tbl {w : Cond} (h : w ∈ TT) : w ∈ lw_tbl ∧ goodWord w = true := List.mem_filter.mp h
/-- a method: whose, its name, code, locals, what it returns -/
abbrev MI : Type := String × MethodName × ByteArray × Nat × Option FieldType
abbrev moM (M : MI) : String := M.1
abbrev myM (M : MI) : MethodName := M.2.1
abbrev mbM (M : MI) : ByteArray := M.2.2.1
abbrev mlM (M : MI) : Nat := M.2.2.2.1
abbrev mrM (M : MI) : Option FieldType := M.2.2.2.2
def wsM (M : MI) : List Cond := Cond.code (myM M) (mbM M) (mlM M) (mrM M) :: TT
theorem wsM_good {M N : MI} (h : Cond.code (myM N) (mbM N) (mlM N) (mrM N) ∈ TT) : GoodIn (wsM M) (wsM N) := by
  intro w hw
  rcases List.mem_cons.mp hw with rfl | hw
  · exact ⟨List.mem_cons_of_mem _ h, good_of_word (TT_tbl h).2⟩
  · exact ⟨List.mem_cons_of_mem _ hw, good_of_word (TT_tbl hw).2⟩
/-- the heap: its size, shapes (kind, length), references, ints, longs -/
abbrev PH : Type := Nat × (Nat → Option (Nat × Nat)) × (Nat → Nat → Value) × (Nat → Nat → Int32) × (Nat → Nat → Int64)
/-- classes' and slots' numbers; array classes; the heap at the law's entry; what lies there -/
abbrev GG : Type := va_G × (Nat → ClassId) × Heap × (Nat → Nat) × (Nat → Nat)
def atyG : Nat → FieldType := fun k => match k with
  | 0 => .int
  | 1 => .long
  | 2 => .object RX3
  | 3 => .object RX0
  | 4 => .object RX6
  | 5 => .array .int
  | _ => .array .long
def tysG (G : GG) : List (ClassId × FieldType) := (List.range 7).map (fun k => (G.2.1 k, atyG k))
theorem tysG_at (G : GG) {k : Nat} (hk : k < 7) : (tysG G)[k]? = some (G.2.1 k, atyG k) := by
  simp [tysG, hk]
def ftyG (ci k : Nat) : FieldType := match ci with
  | 0 => tyX0 k
  | 1 => tyX1 k
  | 2 => tyX2 k
  | 3 => tyX3 k
  | 4 => tyX4 k
  | 5 => tyX5 k
  | _ => tyX6 k
def TXG (ci : Nat) : u_T := match ci with
  | 0 => TX0
  | 1 => TX1
  | 2 => TX2
  | 3 => TX3
  | 4 => TX4
  | 5 => TX5
  | _ => TX6
def RXG (ci : Nat) : String := match ci with
  | 0 => RX0
  | 1 => RX1
  | 2 => RX2
  | 3 => RX3
  | 4 => RX4
  | 5 => RX5
  | _ => RX6
def nFG (ci : Nat) : Nat := match ci with
  | 0 => 16
  | 1 => 6
  | 2 => 5
  | 3 => 3
  | 4 => 7
  | 5 => 9
  | _ => 45
theorem vwCl_at {ci : Nat} (h : ci < 7) : vwCl[ci]? = some (RXG ci, TXG ci, nFG ci) := by
  rcases (show ci = 0 ∨ ci = 1 ∨ ci = 2 ∨ ci = 3 ∨ ci = 4 ∨ ci = 5 ∨ ci = 6 by omega) with rfl | rfl | rfl | rfl | rfl | rfl | rfl <;> rfl
def isRf (t : FieldType) : Bool := match t with
  | .object _ => true
  | .array _ => true
  | _ => false
def fvalG (h : PH) (ci q k : Nat) : Value := if isRf (ftyG ci k) = true then h.2.2.1 q k else .int (h.2.2.2.1 q k)
def cellG (G : GG) (h : PH) (q : Nat) (kn : Nat × Nat) (H : Heap) : Prop :=
  if kn.1 < 7 then t_OB q (G.1.1 kn.1) (nFG kn.1) (G.1.2 kn.1) H (fun j => fvalG h kn.1 q j)
  else if kn.1 = 10 then H[q]? = some (arrV (G.2.1 0) kn.2 (fun j => .int (h.2.2.2.1 q j)))
  else if kn.1 = 11 then H[q]? = some (arrV (G.2.1 1) kn.2 (fun j => .long (h.2.2.2.2 q j)))
  else kn.1 < 17 ∧ H[q]? = some (arrV (G.2.1 (kn.1 - 10)) kn.2 (fun j => h.2.2.1 q j))
def RelH (G : GG) (h : PH) (H : Heap) : Prop :=
  H.size = h.1 ∧ G.2.2.1.size ≤ H.size ∧ (∀ q : Nat, q < G.2.2.1.size → H[q]? = G.2.2.1[q]?) ∧
  ∀ (q : Nat) (kn : Nat × Nat), h.2.1 q = some kn → G.2.2.1.size ≤ q ∧ cellG G h q kn H
/-- the private constructors of nest mates -/
def nestW : List Cond := [Cond.methodLinkNest RX5 9 yX4_init "BeforeItDrips", Cond.methodLinkNest RX4 11 yX0_init "BeforeItDrips", Cond.methodLinkNest RX5 24 yX0_init "BeforeItDrips", Cond.methodLinkNest RX2 31 yX0_init "BeforeItDrips", Cond.methodLinkNest RX5 44 yX1_init "BeforeItDrips", Cond.methodLinkNest RX5 57 yX3_init "BeforeItDrips"]
def orderRows : List Int32 := [0, 1, 2, 0, 2, 1, 1, 0, 2, 1, 2, 0, 2, 0, 1, 2, 1, 0]
def strLen : List Nat := [5, 5, 3, 4, 4, 6, 4]
def strByt : List (List Int32) := [[115, 105, 100, 101, 115], [115, 99, 111, 111, 112], [115, 117, 110], [104, 111, 108, 100], [98, 114, 105, 109], [108, 105, 99, 107, 101, 114], [108, 105, 99, 107]]
def strOwn (i : Nat) : String := if i < 7 then RX1 else RX6
def strIdx (i : Nat) : Nat := ([38, 54, 59, 64, 69, 74, 79, 216, 224, 226, 230, 232, 234, 236] : List Nat).getD i 0
def strTxt (i : Nat) : String := (["sides", "scoop", "sun", "hold", "brim", "licker", "lick"] : List String).getD (i % 7) ""
/-- the old cells that the code reads: the table of orders, the words of kerbs -/
def KX (G : GG) (U : State) : Prop :=
  (∃ t : Nat, va_Z "BeforeItDrips$Cone" "ORDER_ROWS" "[I" (.ref t) (fun q => G.2.2.1.size ≤ q) U G.2.2.1 ∧ va_T .int t 18 (fun j => .int (orderRows.getD j 0)) (fun q => G.2.2.1.size ≤ q) U G.2.2.1) ∧
  vk_S 7 strLen strByt G.2.2.2.1 G.2.2.2.2 (fun q => G.2.2.1.size ≤ q) U G.2.2.1 ∧ (∀ i : Nat, i < 14 → vk_R (strOwn i) (strIdx i) (strTxt i) (G.2.2.2.1 (i % 7)) U) ∧
  va_Z "java/lang/String" "COMPACT_STRINGS" "Z" (.int 1) (fun q => G.2.2.1.size ≤ q) U G.2.2.1
def aoW : List FieldType := [.object RX3, .object RX0, .object RX6, .array .int, .array .long]
def KK (G : GG) (U : State) : Prop := va_K G.1 vwCl (tysG G) U ∧ (∀ w ∈ nestW, va_Nw w U) ∧ KX G U ∧ ∀ C ∈ [RX3, RX0, RX6], va_AO C U
theorem KK.same {G : GG} {u U : State} (hv : u.vm = U.vm) (h : KK G u) : KK G U := by
  have ha : u.vm.Alike U.vm := by rw [hv]; exact Vm.Alike.refl _
  obtain ⟨h1, h2, ⟨⟨t, h3, h4⟩, h5, h6, h7⟩, h8⟩ := h
  refine ⟨h1.moved ha, fun w hw => va_Nw.same ?_ hv (h2 w hw), ⟨⟨t, h3.moved ha, h4.moved ha⟩, h5.moved ha, fun i hi => vk_R.same hv.symm (h6 i hi), h7.moved ha⟩, fun C hC => (h8 C hC).moved ha⟩
  have hall : nestW.all (fun w => w.onTables) = true := by decide +kernel
  exact List.all_eq_true.mp hall w hw
theorem KK.warm {G : GG} {s U : State} (hW : s.WarmedH U.vm) (h : KK G s) : KK G U := by
  have ha : s.vm.Alike U.vm := hW.alike
  obtain ⟨h1, h2, ⟨⟨t, h3, h4⟩, h5, h6, h7⟩, h8⟩ := h
  refine ⟨h1.moved ha, fun w hw => ?_, ⟨⟨t, h3.moved ha, h4.moved ha⟩, h5.moved ha, fun i hi => vk_R.warm hW (h6 i hi), h7.moved ha⟩, fun C hC => (h8 C hC).moved ha⟩
  have h9 := h2 w hw
  simp only [nestW, List.mem_cons, List.not_mem_nil, or_false] at hw
  rcases hw with rfl | rfl | rfl | rfl | rfl | rfl <;> exact va_Nw.warmM hW h9
def rmD (d mc ms : Nat) : Room := { frames := d, cells := mc, slots := ms, locals := 64 * d }
/-- the context of a method's run -/
def CX (G : GG) (M : MI) (p : Program) (s : State) (m : MethodId) (args : Array Value) (meth : Method) (c : Code) : Prop :=
  p.tables.exec = Jvm.exec ∧ c.code = mbM M ∧ c.maxLocals = mlM M ∧ s.vm.findClass (moM M) = some m.cls ∧ (∀ w ∈ wsM M, w.before args s = true) ∧ meth.sig.returnType = mrM M ∧ meth.locks = false ∧ KK G s ∧ meth.name = (myM M).name
def QcG (G : GG) (Q : Option Value → PH → Prop) : Array Value → State → Outcome → State → Prop := fun _ _ o t => ∃ (v : Option Value) (h : PH), o = .returned v ∧ Q v h ∧ RelH G h t.heap
def Ev (G : GG) (d : Nat) (M : MI) (mc ms : Nat) (Q : Option Value → PH → Prop) (kc ks pc : Nat) (lv : List (Nat × Value)) (st : List Value) (h : PH) : Prop :=
  ∀ (p : Program) (l : Launch) (e : Env) (s : State) (m : MethodId) (args : Array Value) (below : List Frame) (meth : Method) (c : Code) (H : Heap) (locs : List Loc) (ls : Array Slot),
    CX G M p s m args meth c → RelH G h H → (∀ x ∈ locs, G.2.2.1.size ≤ x.base) → lv_has ls (mlM M) lv →
    W p l e (rmD d mc ms) s m args below meth c H locs kc ks (MQ below (QcG G Q) args s mc ms (fun q => G.2.2.1.size ≤ q)) (F0 m pc ls st)
/-- a method's contract at given arguments and heap -/
def Mt (d : Nat) (M : MI) (mc ms : Nat) (av : List Value) (h : PH) (Q : Option Value → PH → Prop) : Prop :=
  ∀ (G : GG) (l : Launch), Met l (myM M) (wsM M) (rmD d mc ms) (va_Pc av (fun U => KK G U ∧ RelH G h U.heap)) (QcG G Q) mc ms (fun q => G.2.2.1.size ≤ q)
theorem Mt.of {d : Nat} {M : MI} {mc ms : Nat} {av : List Value} {h : PH} {Q : Option Value → PH → Prop} (hpl : plainName (myM M).cls = true) (ho : moM M = (myM M).cls) (hl : (lg_sl av).length ≤ mlM M)
    (body : ∀ G : GG, Ev G d M mc ms Q 0 0 0 (lv_args 0 av) [] h) : Mt d M mc ms av h Q := by
  intro G l
  refine Met.ofW (cc := mbM M) (maxL := mlM M) (ret := mrM M) (ws' := TT) hpl rfl ?_
  intro p e s m args below meth c s₁ B hml hv
  obtain ⟨rfl, hK, hR⟩ := hv
  have hown : s.vm.findClass (moM M) = some m.cls := by rw [ho]; exact findClass_of_methodNamed B.named
  have hX : CX G M p s m av.toArray meth c := ⟨B.exec, B.bytes, hml, hown, atoms_spec (ws := wsM M) B.pre, B.returns, B.notSynchronized, hK, (name_of_methodNamed B.named B.method).1⟩
  have hle := lv_entry av (n := mlM M) hl
  rw [lg_entry_eq]
  exact body G p l e s m _ below meth c s.heap [] _ hX hR (fun x hx => by cases hx) hle
section EV
variable {G : GG} {d : Nat} {M : MI} {mc ms : Nat} {Q : Option Value → PH → Prop} {kc ks pc : Nat} {lv : List (Nat × Value)} {rest : List Value} {h : PH}
theorem ev_iconst {n : Int} {v : Int32} (hdg : decode (mbM M) pc = .ok (.iconst n, 1)) (hv : Int32.ofInt n = v)     (k : Ev G d M mc ms Q kc ks (pc + 1) lv (.int v :: rest) h) : Ev G d M mc ms Q kc ks pc lv (rest) h := fun p l e s m args below meth c H locs ls X R L hl => lv_iconst X.1 X.2.1 hdg hv (k p l e s m args below meth c H locs ls X R L hl)
theorem ev_bipush {n : Int} {v : Int32} (hdg : decode (mbM M) pc = .ok (.bipush n, 2)) (hv : (Int8.ofInt n).toInt32 = v)     (k : Ev G d M mc ms Q kc ks (pc + 2) lv (.int v :: rest) h) : Ev G d M mc ms Q kc ks pc lv (rest) h := fun p l e s m args below meth c H locs ls X R L hl => lv_bipush X.1 X.2.1 hdg hv (k p l e s m args below meth c H locs ls X R L hl)
theorem ev_sipush {n : Int} {v : Int32} (hdg : decode (mbM M) pc = .ok (.sipush n, 3)) (hv : (Int16.ofInt n).toInt32 = v)     (k : Ev G d M mc ms Q kc ks (pc + 3) lv (.int v :: rest) h) : Ev G d M mc ms Q kc ks pc lv (rest) h := fun p l e s m args below meth c H locs ls X R L hl => lv_sipush X.1 X.2.1 hdg hv (k p l e s m args below meth c H locs ls X R L hl)
theorem ev_lconst {n : Fin 2} {v : Int64} (hdg : decode (mbM M) pc = .ok (.lconst n, 1)) (hv : Int64.ofNat (n : Nat) = v)     (k : Ev G d M mc ms Q kc ks (pc + 1) lv (.long v :: rest) h) : Ev G d M mc ms Q kc ks pc lv (rest) h := fun p l e s m args below meth c H locs ls X R L hl => lv_lconst X.1 X.2.1 hdg hv (k p l e s m args below meth c H locs ls X R L hl)
theorem ev_iadd {x y : Int32} (hdg : decode (mbM M) pc = .ok (.iadd, 1))      (k : Ev G d M mc ms Q kc ks (pc + 1) lv (.int (x + y) :: rest) h) : Ev G d M mc ms Q kc ks pc lv (.int y :: .int x :: rest) h := fun p l e s m args below meth c H locs ls X R L hl => lv_iadd X.1 X.2.1 hdg (k p l e s m args below meth c H locs ls X R L hl)
theorem ev_isub {x y : Int32} (hdg : decode (mbM M) pc = .ok (.isub, 1))      (k : Ev G d M mc ms Q kc ks (pc + 1) lv (.int (x - y) :: rest) h) : Ev G d M mc ms Q kc ks pc lv (.int y :: .int x :: rest) h := fun p l e s m args below meth c H locs ls X R L hl => lv_isub X.1 X.2.1 hdg (k p l e s m args below meth c H locs ls X R L hl)
theorem ev_imul {x y : Int32} (hdg : decode (mbM M) pc = .ok (.imul, 1))      (k : Ev G d M mc ms Q kc ks (pc + 1) lv (.int (x * y) :: rest) h) : Ev G d M mc ms Q kc ks pc lv (.int y :: .int x :: rest) h := fun p l e s m args below meth c H locs ls X R L hl => lv_imul X.1 X.2.1 hdg (k p l e s m args below meth c H locs ls X R L hl)
theorem ev_idiv {x y : Int32} (hdg : decode (mbM M) pc = .ok (.idiv, 1)) (hne : ¬ y = 0)     (k : Ev G d M mc ms Q kc ks (pc + 1) lv (.int (x / y) :: rest) h) : Ev G d M mc ms Q kc ks pc lv (.int y :: .int x :: rest) h := fun p l e s m args below meth c H locs ls X R L hl => lv_idiv X.1 X.2.1 hdg hne (k p l e s m args below meth c H locs ls X R L hl)
theorem ev_irem {x y : Int32} (hdg : decode (mbM M) pc = .ok (.irem, 1)) (hne : ¬ y = 0)     (k : Ev G d M mc ms Q kc ks (pc + 1) lv (.int (x - x / y * y) :: rest) h) : Ev G d M mc ms Q kc ks pc lv (.int y :: .int x :: rest) h := fun p l e s m args below meth c H locs ls X R L hl => lv_irem X.1 X.2.1 hdg hne (k p l e s m args below meth c H locs ls X R L hl)
theorem ev_ineg {x : Int32} (hdg : decode (mbM M) pc = .ok (.ineg, 1))      (k : Ev G d M mc ms Q kc ks (pc + 1) lv (.int (-x) :: rest) h) : Ev G d M mc ms Q kc ks pc lv (.int x :: rest) h := fun p l e s m args below meth c H locs ls X R L hl => lv_ineg X.1 X.2.1 hdg (k p l e s m args below meth c H locs ls X R L hl)
theorem ev_iand {x y : Int32} (hdg : decode (mbM M) pc = .ok (.iand, 1))      (k : Ev G d M mc ms Q kc ks (pc + 1) lv (.int (x &&& y) :: rest) h) : Ev G d M mc ms Q kc ks pc lv (.int y :: .int x :: rest) h := fun p l e s m args below meth c H locs ls X R L hl => lv_iand X.1 X.2.1 hdg (k p l e s m args below meth c H locs ls X R L hl)
theorem ev_ior {x y : Int32} (hdg : decode (mbM M) pc = .ok (.ior, 1))      (k : Ev G d M mc ms Q kc ks (pc + 1) lv (.int (x ||| y) :: rest) h) : Ev G d M mc ms Q kc ks pc lv (.int y :: .int x :: rest) h := fun p l e s m args below meth c H locs ls X R L hl => lv_ior X.1 X.2.1 hdg (k p l e s m args below meth c H locs ls X R L hl)
theorem ev_ixor {x y : Int32} (hdg : decode (mbM M) pc = .ok (.ixor, 1))      (k : Ev G d M mc ms Q kc ks (pc + 1) lv (.int (x ^^^ y) :: rest) h) : Ev G d M mc ms Q kc ks pc lv (.int y :: .int x :: rest) h := fun p l e s m args below meth c H locs ls X R L hl => lv_ixor X.1 X.2.1 hdg (k p l e s m args below meth c H locs ls X R L hl)
theorem ev_ishl {x y : Int32} (hdg : decode (mbM M) pc = .ok (.ishl, 1))      (k : Ev G d M mc ms Q kc ks (pc + 1) lv (.int (x <<< (y &&& 31)) :: rest) h) : Ev G d M mc ms Q kc ks pc lv (.int y :: .int x :: rest) h := fun p l e s m args below meth c H locs ls X R L hl => lv_ishl X.1 X.2.1 hdg (k p l e s m args below meth c H locs ls X R L hl)
theorem ev_ishr {x y : Int32} (hdg : decode (mbM M) pc = .ok (.ishr, 1))      (k : Ev G d M mc ms Q kc ks (pc + 1) lv (.int (x >>> (y &&& 31)) :: rest) h) : Ev G d M mc ms Q kc ks pc lv (.int y :: .int x :: rest) h := fun p l e s m args below meth c H locs ls X R L hl => lv_ishr X.1 X.2.1 hdg (k p l e s m args below meth c H locs ls X R L hl)
theorem ev_iushr {x y v : Int32} (hdg : decode (mbM M) pc = .ok (.iushr, 1)) (hv : (x.toUInt32 >>> (y.toUInt32 &&& Int32.toUInt32 31)).toInt32 = v)     (k : Ev G d M mc ms Q kc ks (pc + 1) lv (.int v :: rest) h) : Ev G d M mc ms Q kc ks pc lv (.int y :: .int x :: rest) h := fun p l e s m args below meth c H locs ls X R L hl => lv_iushr X.1 X.2.1 hdg hv (k p l e s m args below meth c H locs ls X R L hl)
theorem ev_ladd {x y : Int64} (hdg : decode (mbM M) pc = .ok (.ladd, 1))      (k : Ev G d M mc ms Q kc ks (pc + 1) lv (.long (x + y) :: rest) h) : Ev G d M mc ms Q kc ks pc lv (.long y :: .long x :: rest) h := fun p l e s m args below meth c H locs ls X R L hl => lv_ladd X.1 X.2.1 hdg (k p l e s m args below meth c H locs ls X R L hl)
theorem ev_lsub {x y : Int64} (hdg : decode (mbM M) pc = .ok (.lsub, 1))      (k : Ev G d M mc ms Q kc ks (pc + 1) lv (.long (x - y) :: rest) h) : Ev G d M mc ms Q kc ks pc lv (.long y :: .long x :: rest) h := fun p l e s m args below meth c H locs ls X R L hl => lv_lsub X.1 X.2.1 hdg (k p l e s m args below meth c H locs ls X R L hl)
theorem ev_lmul {x y : Int64} (hdg : decode (mbM M) pc = .ok (.lmul, 1))      (k : Ev G d M mc ms Q kc ks (pc + 1) lv (.long (x * y) :: rest) h) : Ev G d M mc ms Q kc ks pc lv (.long y :: .long x :: rest) h := fun p l e s m args below meth c H locs ls X R L hl => lv_lmul X.1 X.2.1 hdg (k p l e s m args below meth c H locs ls X R L hl)
theorem ev_land {x y : Int64} (hdg : decode (mbM M) pc = .ok (.land, 1))      (k : Ev G d M mc ms Q kc ks (pc + 1) lv (.long (x &&& y) :: rest) h) : Ev G d M mc ms Q kc ks pc lv (.long y :: .long x :: rest) h := fun p l e s m args below meth c H locs ls X R L hl => lv_land X.1 X.2.1 hdg (k p l e s m args below meth c H locs ls X R L hl)
theorem ev_lor {x y : Int64} (hdg : decode (mbM M) pc = .ok (.lor, 1))      (k : Ev G d M mc ms Q kc ks (pc + 1) lv (.long (x ||| y) :: rest) h) : Ev G d M mc ms Q kc ks pc lv (.long y :: .long x :: rest) h := fun p l e s m args below meth c H locs ls X R L hl => lv_lor X.1 X.2.1 hdg (k p l e s m args below meth c H locs ls X R L hl)
theorem ev_lshl {x v : Int64} {y : Int32} (hdg : decode (mbM M) pc = .ok (.lshl, 1)) (hv : x <<< (y.toInt64 &&& 63) = v)     (k : Ev G d M mc ms Q kc ks (pc + 1) lv (.long v :: rest) h) : Ev G d M mc ms Q kc ks pc lv (.int y :: .long x :: rest) h := fun p l e s m args below meth c H locs ls X R L hl => lv_lshl X.1 X.2.1 hdg hv (k p l e s m args below meth c H locs ls X R L hl)
theorem ev_i2l {x : Int32} {v : Int64} (hdg : decode (mbM M) pc = .ok (.i2l, 1)) (hv : x.toInt64 = v)     (k : Ev G d M mc ms Q kc ks (pc + 1) lv (.long v :: rest) h) : Ev G d M mc ms Q kc ks pc lv (.int x :: rest) h := fun p l e s m args below meth c H locs ls X R L hl => lv_i2l X.1 X.2.1 hdg hv (k p l e s m args below meth c H locs ls X R L hl)
theorem ev_l2i {x : Int64} {v : Int32} (hdg : decode (mbM M) pc = .ok (.l2i, 1)) (hv : x.toInt32 = v)     (k : Ev G d M mc ms Q kc ks (pc + 1) lv (.int v :: rest) h) : Ev G d M mc ms Q kc ks pc lv (.long x :: rest) h := fun p l e s m args below meth c H locs ls X R L hl => lv_l2i X.1 X.2.1 hdg hv (k p l e s m args below meth c H locs ls X R L hl)
theorem ev_i2b {x : Int32} {v : Int32} (hdg : decode (mbM M) pc = .ok (.i2b, 1)) (hv : x.toInt8.toInt32 = v)     (k : Ev G d M mc ms Q kc ks (pc + 1) lv (.int v :: rest) h) : Ev G d M mc ms Q kc ks pc lv (.int x :: rest) h := fun p l e s m args below meth c H locs ls X R L hl => lv_i2b X.1 X.2.1 hdg hv (k p l e s m args below meth c H locs ls X R L hl)
theorem ev_i2s {x : Int32} {v : Int32} (hdg : decode (mbM M) pc = .ok (.i2s, 1)) (hv : x.toInt16.toInt32 = v)     (k : Ev G d M mc ms Q kc ks (pc + 1) lv (.int v :: rest) h) : Ev G d M mc ms Q kc ks pc lv (.int x :: rest) h := fun p l e s m args below meth c H locs ls X R L hl => lv_i2s X.1 X.2.1 hdg hv (k p l e s m args below meth c H locs ls X R L hl)
theorem ev_dup {va : Value} (hdg : decode (mbM M) pc = .ok (.dup, 1)) (hva : va.category = 1)     (k : Ev G d M mc ms Q kc ks (pc + 1) lv (va :: va :: rest) h) : Ev G d M mc ms Q kc ks pc lv (va :: rest) h := fun p l e s m args below meth c H locs ls X R L hl => lv_dup X.1 X.2.1 hdg hva (k p l e s m args below meth c H locs ls X R L hl)
theorem ev_pop {va : Value} (hdg : decode (mbM M) pc = .ok (.pop, 1)) (hva : va.category = 1)     (k : Ev G d M mc ms Q kc ks (pc + 1) lv (rest) h) : Ev G d M mc ms Q kc ks pc lv (va :: rest) h := fun p l e s m args below meth c H locs ls X R L hl => lv_pop X.1 X.2.1 hdg hva (k p l e s m args below meth c H locs ls X R L hl)
theorem ev_dup_x1 {va vb : Value} (hdg : decode (mbM M) pc = .ok (.dup_x1, 1)) (hva : va.category = 1) (hvb : vb.category = 1)     (k : Ev G d M mc ms Q kc ks (pc + 1) lv (va :: vb :: va :: rest) h) : Ev G d M mc ms Q kc ks pc lv (va :: vb :: rest) h := fun p l e s m args below meth c H locs ls X R L hl => lv_dup_x1 X.1 X.2.1 hdg hva hvb (k p l e s m args below meth c H locs ls X R L hl)
theorem ev_dup_x2 {va vb vd : Value} (hdg : decode (mbM M) pc = .ok (.dup_x2, 1)) (hva : va.category = 1) (hvb : vb.category = 1) (hvd : vd.category = 1)     (k : Ev G d M mc ms Q kc ks (pc + 1) lv (va :: vb :: vd :: va :: rest) h) : Ev G d M mc ms Q kc ks pc lv (va :: vb :: vd :: rest) h := fun p l e s m args below meth c H locs ls X R L hl => lv_dup_x2 X.1 X.2.1 hdg hva hvb hvd (k p l e s m args below meth c H locs ls X R L hl)
theorem ev_dup2_11 {va vb : Value} (hdg : decode (mbM M) pc = .ok (.dup2, 1)) (hva : va.category = 1) (hvb : vb.category = 1)     (k : Ev G d M mc ms Q kc ks (pc + 1) lv (va :: vb :: va :: vb :: rest) h) : Ev G d M mc ms Q kc ks pc lv (va :: vb :: rest) h := fun p l e s m args below meth c H locs ls X R L hl => lv_dup2_11 X.1 X.2.1 hdg hva hvb (k p l e s m args below meth c H locs ls X R L hl)
theorem ev_if_eq {x : Int32} {off : Int} {tgt : Nat} (hdg : decode (mbM M) pc = .ok (.ifCond .eq off, 3)) (ht : (pc : Int) + off = (tgt : Int))     (kt : x = 0 → Ev G d M mc ms Q kc ks tgt lv rest h) (kf : ¬ x = 0 → Ev G d M mc ms Q kc ks (pc + 3) lv rest h) : Ev G d M mc ms Q kc ks pc lv (.int x :: rest) h := fun p l e s m args below meth c H locs ls X R L hl => lv_if_eq X.1 X.2.1 hdg ht (fun z => kt z p l e s m args below meth c H locs ls X R L hl) (fun z => kf z p l e s m args below meth c H locs ls X R L hl)
theorem ev_if_ne {x : Int32} {off : Int} {tgt : Nat} (hdg : decode (mbM M) pc = .ok (.ifCond .ne off, 3)) (ht : (pc : Int) + off = (tgt : Int))     (kt : ¬ x = 0 → Ev G d M mc ms Q kc ks tgt lv rest h) (kf : x = 0 → Ev G d M mc ms Q kc ks (pc + 3) lv rest h) : Ev G d M mc ms Q kc ks pc lv (.int x :: rest) h := fun p l e s m args below meth c H locs ls X R L hl => lv_if_ne X.1 X.2.1 hdg ht (fun z => kt z p l e s m args below meth c H locs ls X R L hl) (fun z => kf z p l e s m args below meth c H locs ls X R L hl)
theorem ev_if_lt {x : Int32} {off : Int} {tgt : Nat} (hdg : decode (mbM M) pc = .ok (.ifCond .lt off, 3)) (ht : (pc : Int) + off = (tgt : Int))     (kt : x < 0 → Ev G d M mc ms Q kc ks tgt lv rest h) (kf : ¬ x < 0 → Ev G d M mc ms Q kc ks (pc + 3) lv rest h) : Ev G d M mc ms Q kc ks pc lv (.int x :: rest) h := fun p l e s m args below meth c H locs ls X R L hl => lv_if_lt X.1 X.2.1 hdg ht (fun z => kt z p l e s m args below meth c H locs ls X R L hl) (fun z => kf z p l e s m args below meth c H locs ls X R L hl)
theorem ev_if_ge {x : Int32} {off : Int} {tgt : Nat} (hdg : decode (mbM M) pc = .ok (.ifCond .ge off, 3)) (ht : (pc : Int) + off = (tgt : Int))     (kt : 0 ≤ x → Ev G d M mc ms Q kc ks tgt lv rest h) (kf : ¬ 0 ≤ x → Ev G d M mc ms Q kc ks (pc + 3) lv rest h) : Ev G d M mc ms Q kc ks pc lv (.int x :: rest) h := fun p l e s m args below meth c H locs ls X R L hl => lv_if_ge X.1 X.2.1 hdg ht (fun z => kt z p l e s m args below meth c H locs ls X R L hl) (fun z => kf z p l e s m args below meth c H locs ls X R L hl)
theorem ev_if_gt {x : Int32} {off : Int} {tgt : Nat} (hdg : decode (mbM M) pc = .ok (.ifCond .gt off, 3)) (ht : (pc : Int) + off = (tgt : Int))     (kt : 0 < x → Ev G d M mc ms Q kc ks tgt lv rest h) (kf : ¬ 0 < x → Ev G d M mc ms Q kc ks (pc + 3) lv rest h) : Ev G d M mc ms Q kc ks pc lv (.int x :: rest) h := fun p l e s m args below meth c H locs ls X R L hl => lv_if_gt X.1 X.2.1 hdg ht (fun z => kt z p l e s m args below meth c H locs ls X R L hl) (fun z => kf z p l e s m args below meth c H locs ls X R L hl)
theorem ev_if_le {x : Int32} {off : Int} {tgt : Nat} (hdg : decode (mbM M) pc = .ok (.ifCond .le off, 3)) (ht : (pc : Int) + off = (tgt : Int))     (kt : x ≤ 0 → Ev G d M mc ms Q kc ks tgt lv rest h) (kf : ¬ x ≤ 0 → Ev G d M mc ms Q kc ks (pc + 3) lv rest h) : Ev G d M mc ms Q kc ks pc lv (.int x :: rest) h := fun p l e s m args below meth c H locs ls X R L hl => lv_if_le X.1 X.2.1 hdg ht (fun z => kt z p l e s m args below meth c H locs ls X R L hl) (fun z => kf z p l e s m args below meth c H locs ls X R L hl)
theorem ev_icmp_eq {x y : Int32} {off : Int} {tgt : Nat} (hdg : decode (mbM M) pc = .ok (.if_icmp .eq off, 3)) (ht : (pc : Int) + off = (tgt : Int))     (kt : x = y → Ev G d M mc ms Q kc ks tgt lv rest h) (kf : ¬ x = y → Ev G d M mc ms Q kc ks (pc + 3) lv rest h) : Ev G d M mc ms Q kc ks pc lv (.int y :: .int x :: rest) h := fun p l e s m args below meth c H locs ls X R L hl => lv_icmp_eq X.1 X.2.1 hdg ht (fun z => kt z p l e s m args below meth c H locs ls X R L hl) (fun z => kf z p l e s m args below meth c H locs ls X R L hl)
theorem ev_icmp_ne {x y : Int32} {off : Int} {tgt : Nat} (hdg : decode (mbM M) pc = .ok (.if_icmp .ne off, 3)) (ht : (pc : Int) + off = (tgt : Int))     (kt : ¬ x = y → Ev G d M mc ms Q kc ks tgt lv rest h) (kf : x = y → Ev G d M mc ms Q kc ks (pc + 3) lv rest h) : Ev G d M mc ms Q kc ks pc lv (.int y :: .int x :: rest) h := fun p l e s m args below meth c H locs ls X R L hl => lv_icmp_ne X.1 X.2.1 hdg ht (fun z => kt z p l e s m args below meth c H locs ls X R L hl) (fun z => kf z p l e s m args below meth c H locs ls X R L hl)
theorem ev_icmp_lt {x y : Int32} {off : Int} {tgt : Nat} (hdg : decode (mbM M) pc = .ok (.if_icmp .lt off, 3)) (ht : (pc : Int) + off = (tgt : Int))     (kt : x < y → Ev G d M mc ms Q kc ks tgt lv rest h) (kf : ¬ x < y → Ev G d M mc ms Q kc ks (pc + 3) lv rest h) : Ev G d M mc ms Q kc ks pc lv (.int y :: .int x :: rest) h := fun p l e s m args below meth c H locs ls X R L hl => lv_icmp_lt X.1 X.2.1 hdg ht (fun z => kt z p l e s m args below meth c H locs ls X R L hl) (fun z => kf z p l e s m args below meth c H locs ls X R L hl)
theorem ev_icmp_ge {x y : Int32} {off : Int} {tgt : Nat} (hdg : decode (mbM M) pc = .ok (.if_icmp .ge off, 3)) (ht : (pc : Int) + off = (tgt : Int))     (kt : y ≤ x → Ev G d M mc ms Q kc ks tgt lv rest h) (kf : ¬ y ≤ x → Ev G d M mc ms Q kc ks (pc + 3) lv rest h) : Ev G d M mc ms Q kc ks pc lv (.int y :: .int x :: rest) h := fun p l e s m args below meth c H locs ls X R L hl => lv_icmp_ge X.1 X.2.1 hdg ht (fun z => kt z p l e s m args below meth c H locs ls X R L hl) (fun z => kf z p l e s m args below meth c H locs ls X R L hl)
theorem ev_icmp_gt {x y : Int32} {off : Int} {tgt : Nat} (hdg : decode (mbM M) pc = .ok (.if_icmp .gt off, 3)) (ht : (pc : Int) + off = (tgt : Int))     (kt : y < x → Ev G d M mc ms Q kc ks tgt lv rest h) (kf : ¬ y < x → Ev G d M mc ms Q kc ks (pc + 3) lv rest h) : Ev G d M mc ms Q kc ks pc lv (.int y :: .int x :: rest) h := fun p l e s m args below meth c H locs ls X R L hl => lv_icmp_gt X.1 X.2.1 hdg ht (fun z => kt z p l e s m args below meth c H locs ls X R L hl) (fun z => kf z p l e s m args below meth c H locs ls X R L hl)
theorem ev_icmp_le {x y : Int32} {off : Int} {tgt : Nat} (hdg : decode (mbM M) pc = .ok (.if_icmp .le off, 3)) (ht : (pc : Int) + off = (tgt : Int))     (kt : x ≤ y → Ev G d M mc ms Q kc ks tgt lv rest h) (kf : ¬ x ≤ y → Ev G d M mc ms Q kc ks (pc + 3) lv rest h) : Ev G d M mc ms Q kc ks pc lv (.int y :: .int x :: rest) h := fun p l e s m args below meth c H locs ls X R L hl => lv_icmp_le X.1 X.2.1 hdg ht (fun z => kt z p l e s m args below meth c H locs ls X R L hl) (fun z => kf z p l e s m args below meth c H locs ls X R L hl)
theorem ev_goto {off : Int} {tgt : Nat} (hdg : decode (mbM M) pc = .ok (.goto off, 3)) (ht : (pc : Int) + off = (tgt : Int)) (k : Ev G d M mc ms Q kc ks tgt lv rest h) : Ev G d M mc ms Q kc ks pc lv rest h := fun p l e s m args below meth c H locs ls X R L hl => lv_goto X.1 X.2.1 hdg ht (k p l e s m args below meth c H locs ls X R L hl)
theorem ev_tableIn {dflt lo hi : Int} {offs : Array Int} {len : Nat} {x : Int32} {off : Int} {tgt : Nat} (hdg : decode (mbM M) pc = .ok (.tableswitch dflt lo hi offs, len)) (h1 : ¬ x.toInt < lo) (h2 : ¬ hi < x.toInt) (ho : offs[(x.toInt - lo).toNat]? = some off) (ht : (pc : Int) + off = (tgt : Int))     (k : Ev G d M mc ms Q kc ks tgt lv rest h) : Ev G d M mc ms Q kc ks pc lv (.int x :: rest) h := fun p l e s m args below meth c H locs ls X R L hl => lv_tableIn X.1 X.2.1 hdg h1 h2 ho ht (k p l e s m args below meth c H locs ls X R L hl)
theorem ev_tableOut {dflt lo hi : Int} {offs : Array Int} {len : Nat} {x : Int32} {tgt : Nat} (hdg : decode (mbM M) pc = .ok (.tableswitch dflt lo hi offs, len)) (hx : x.toInt < lo ∨ hi < x.toInt) (ht : (pc : Int) + dflt = (tgt : Int))     (k : Ev G d M mc ms Q kc ks tgt lv rest h) : Ev G d M mc ms Q kc ks pc lv (.int x :: rest) h := fun p l e s m args below meth c H locs ls X R L hl => lv_tableOut X.1 X.2.1 hdg hx ht (k p l e s m args below meth c H locs ls X R L hl)
theorem ev_ifnull {x : Nat} {off : Int} (hdg : decode (mbM M) pc = .ok (.ifnull off, 3)) (k : Ev G d M mc ms Q kc ks (pc + 3) lv rest h) : Ev G d M mc ms Q kc ks pc lv (.ref x :: rest) h := fun p l e s m args below meth c H locs ls X R L hl => lv_ifnull X.1 X.2.1 hdg (k p l e s m args below meth c H locs ls X R L hl)
theorem ev_ifnonnull {x : Nat} {off : Int} {tgt : Nat} (hdg : decode (mbM M) pc = .ok (.ifnonnull off, 3)) (ht : (pc : Int) + off = (tgt : Int)) (k : Ev G d M mc ms Q kc ks tgt lv rest h) : Ev G d M mc ms Q kc ks pc lv (.ref x :: rest) h := fun p l e s m args below meth c H locs ls X R L hl => lv_ifnonnull X.1 X.2.1 hdg ht (k p l e s m args below meth c H locs ls X R L hl)
theorem ev_ifnullN {off : Int} {tgt : Nat} (hdg : decode (mbM M) pc = .ok (.ifnull off, 3)) (ht : (pc : Int) + off = (tgt : Int)) (k : Ev G d M mc ms Q kc ks tgt lv rest h) : Ev G d M mc ms Q kc ks pc lv (.null :: rest) h := fun p l e s m args below meth c H locs ls X R L hl => lv_ifnullN X.1 X.2.1 hdg ht (k p l e s m args below meth c H locs ls X R L hl)
theorem ev_ifnonnullN {off : Int} (hdg : decode (mbM M) pc = .ok (.ifnonnull off, 3)) (k : Ev G d M mc ms Q kc ks (pc + 3) lv rest h) : Ev G d M mc ms Q kc ks pc lv (.null :: rest) h := fun p l e s m args below meth c H locs ls X R L hl => lv_ifnonnullN X.1 X.2.1 hdg (k p l e s m args below meth c H locs ls X R L hl)
theorem ev_null (hdg : decode (mbM M) pc = .ok (.aconst_null, 1)) (k : Ev G d M mc ms Q kc ks (pc + 1) lv (.null :: rest) h) : Ev G d M mc ms Q kc ks pc lv rest h := fun p l e s m args below meth c H locs ls X R L hl => lv_null X.1 X.2.1 hdg (k p l e s m args below meth c H locs ls X R L hl)
theorem ev_iload_n {k : Fin 4} {i : Nat} {x : Int32} (j : Nat) (hdg : decode (mbM M) pc = .ok (.iload_n k, 1)) (hi : (k : Nat) = i) (hj : lv[j]? = some (i, .int x)) (kk : Ev G d M mc ms Q kc ks (pc + 1) lv (.int x :: rest) h) : Ev G d M mc ms Q kc ks pc lv rest h := fun p l e s m args below meth c H locs ls X R L hl => lv_iload_n X.1 X.2.1 hdg hi (lv_at hl j hj) (kk p l e s m args below meth c H locs ls X R L hl)
theorem ev_iload {i : Nat} {x : Int32} (j : Nat) (hdg : decode (mbM M) pc = .ok (.iload i, 2)) (hj : lv[j]? = some (i, .int x)) (kk : Ev G d M mc ms Q kc ks (pc + 2) lv (.int x :: rest) h) : Ev G d M mc ms Q kc ks pc lv rest h := fun p l e s m args below meth c H locs ls X R L hl => lv_iload X.1 X.2.1 hdg (lv_at hl j hj) (kk p l e s m args below meth c H locs ls X R L hl)
theorem ev_lload_n {k : Fin 4} {i : Nat} {x : Int64} (j : Nat) (hdg : decode (mbM M) pc = .ok (.lload_n k, 1)) (hi : (k : Nat) = i) (hj : lv[j]? = some (i, .long x)) (kk : Ev G d M mc ms Q kc ks (pc + 1) lv (.long x :: rest) h) : Ev G d M mc ms Q kc ks pc lv rest h := fun p l e s m args below meth c H locs ls X R L hl => lv_lload_n X.1 X.2.1 hdg hi (lv_at hl j hj) (kk p l e s m args below meth c H locs ls X R L hl)
theorem ev_lload {i : Nat} {x : Int64} (j : Nat) (hdg : decode (mbM M) pc = .ok (.lload i, 2)) (hj : lv[j]? = some (i, .long x)) (kk : Ev G d M mc ms Q kc ks (pc + 2) lv (.long x :: rest) h) : Ev G d M mc ms Q kc ks pc lv rest h := fun p l e s m args below meth c H locs ls X R L hl => lv_lload X.1 X.2.1 hdg (lv_at hl j hj) (kk p l e s m args below meth c H locs ls X R L hl)
theorem ev_aload_n {k : Fin 4} {i x : Nat} (j : Nat) (hdg : decode (mbM M) pc = .ok (.aload_n k, 1)) (hi : (k : Nat) = i) (hj : lv[j]? = some (i, .ref x)) (kk : Ev G d M mc ms Q kc ks (pc + 1) lv (.ref x :: rest) h) : Ev G d M mc ms Q kc ks pc lv rest h := fun p l e s m args below meth c H locs ls X R L hl => lv_aload_n X.1 X.2.1 hdg hi (lv_at hl j hj) (kk p l e s m args below meth c H locs ls X R L hl)
theorem ev_aload {i x : Nat} (j : Nat) (hdg : decode (mbM M) pc = .ok (.aload i, 2)) (hj : lv[j]? = some (i, .ref x)) (kk : Ev G d M mc ms Q kc ks (pc + 2) lv (.ref x :: rest) h) : Ev G d M mc ms Q kc ks pc lv rest h := fun p l e s m args below meth c H locs ls X R L hl => lv_aload X.1 X.2.1 hdg (lv_at hl j hj) (kk p l e s m args below meth c H locs ls X R L hl)
theorem ev_istore_n {k : Fin 4} {i : Nat} {x : Int32} {lv' : List (Nat × Value)} (hdg : decode (mbM M) pc = .ok (.istore_n k, 1)) (hi : (k : Nat) = i) (hn : i < mlM M) (hl' : (i, Value.int x) :: lv.filter (fun q => !(q.1 == i) && !(q.1 + 1 == i && q.2.category == 2)) = lv') (kk : Ev G d M mc ms Q kc ks (pc + 1) lv' rest h) : Ev G d M mc ms Q kc ks pc lv (.int x :: rest) h := fun p l e s m args below meth c H locs ls X R L hl => lv_istore_n X.1 X.2.1 hdg hi hl hn hl' (fun ls' hl2 => kk p l e s m args below meth c H locs ls' X R L hl2)
theorem ev_istore {i : Nat} {x : Int32} {lv' : List (Nat × Value)} (hdg : decode (mbM M) pc = .ok (.istore i, 2)) (hn : i < mlM M) (hl' : (i, Value.int x) :: lv.filter (fun q => !(q.1 == i) && !(q.1 + 1 == i && q.2.category == 2)) = lv') (kk : Ev G d M mc ms Q kc ks (pc + 2) lv' rest h) : Ev G d M mc ms Q kc ks pc lv (.int x :: rest) h := fun p l e s m args below meth c H locs ls X R L hl => lv_istore X.1 X.2.1 hdg hl hn hl' (fun ls' hl2 => kk p l e s m args below meth c H locs ls' X R L hl2)
theorem ev_lstore_n {k : Fin 4} {i : Nat} {x : Int64} {lv' : List (Nat × Value)} (hdg : decode (mbM M) pc = .ok (.lstore_n k, 1)) (hi : (k : Nat) = i) (hn : i + 1 < mlM M) (hl' : (i, Value.long x) :: lv.filter (fun q => !(q.1 == i) && (!(q.1 == i + 1) && !(q.1 + 1 == i && q.2.category == 2))) = lv') (kk : Ev G d M mc ms Q kc ks (pc + 1) lv' rest h) : Ev G d M mc ms Q kc ks pc lv (.long x :: rest) h := fun p l e s m args below meth c H locs ls X R L hl => lv_lstore_n X.1 X.2.1 hdg hi hl hn hl' (fun ls' hl2 => kk p l e s m args below meth c H locs ls' X R L hl2)
theorem ev_lstore {i : Nat} {x : Int64} {lv' : List (Nat × Value)} (hdg : decode (mbM M) pc = .ok (.lstore i, 2)) (hn : i + 1 < mlM M) (hl' : (i, Value.long x) :: lv.filter (fun q => !(q.1 == i) && (!(q.1 == i + 1) && !(q.1 + 1 == i && q.2.category == 2))) = lv') (kk : Ev G d M mc ms Q kc ks (pc + 2) lv' rest h) : Ev G d M mc ms Q kc ks pc lv (.long x :: rest) h := fun p l e s m args below meth c H locs ls X R L hl => lv_lstore X.1 X.2.1 hdg hl hn hl' (fun ls' hl2 => kk p l e s m args below meth c H locs ls' X R L hl2)
theorem ev_astore_n {k : Fin 4} {i x : Nat} {lv' : List (Nat × Value)} (hdg : decode (mbM M) pc = .ok (.astore_n k, 1)) (hi : (k : Nat) = i) (hn : i < mlM M) (hl' : (i, Value.ref x) :: lv.filter (fun q => !(q.1 == i) && !(q.1 + 1 == i && q.2.category == 2)) = lv') (kk : Ev G d M mc ms Q kc ks (pc + 1) lv' rest h) : Ev G d M mc ms Q kc ks pc lv (.ref x :: rest) h := fun p l e s m args below meth c H locs ls X R L hl => lv_astore_n X.1 X.2.1 hdg hi hl hn hl' (fun ls' hl2 => kk p l e s m args below meth c H locs ls' X R L hl2)
theorem ev_astore {i x : Nat} {lv' : List (Nat × Value)} (hdg : decode (mbM M) pc = .ok (.astore i, 2)) (hn : i < mlM M) (hl' : (i, Value.ref x) :: lv.filter (fun q => !(q.1 == i) && !(q.1 + 1 == i && q.2.category == 2)) = lv') (kk : Ev G d M mc ms Q kc ks (pc + 2) lv' rest h) : Ev G d M mc ms Q kc ks pc lv (.ref x :: rest) h := fun p l e s m args below meth c H locs ls X R L hl => lv_astore X.1 X.2.1 hdg hl hn hl' (fun ls' hl2 => kk p l e s m args below meth c H locs ls' X R L hl2)
theorem ev_iinc {i : Nat} {n : Int} {x v : Int32} {lv' : List (Nat × Value)} (j : Nat) (hdg : decode (mbM M) pc = .ok (.iinc i n, 3)) (hj : lv[j]? = some (i, .int x)) (hv : x + Int32.ofInt n = v) (hn : i < mlM M) (hl' : (i, Value.int v) :: lv.filter (fun q => !(q.1 == i) && !(q.1 + 1 == i && q.2.category == 2)) = lv') (kk : Ev G d M mc ms Q kc ks (pc + 3) lv' rest h) : Ev G d M mc ms Q kc ks pc lv rest h := fun p l e s m args below meth c H locs ls X R L hl => lv_iinc (k := j) X.1 X.2.1 hdg hl hj hv hn hl' (fun ls' hl2 => kk p l e s m args below meth c H locs ls' X R L hl2)
/-- fewer locals, in any order -/
theorem ev_sub {lv' : List (Nat × Value)} (js : List Nat) (hj : lv_pick lv js = lv') (kk : Ev G d M mc ms Q kc ks pc lv' rest h) : Ev G d M mc ms Q kc ks pc lv rest h := fun p l e s m args below meth c H locs ls X R L hl => kk p l e s m args below meth c H locs ls X R L (lv_sub hl js hj)
theorem ev_lcmp {x y : Int64} (hdg : decode (mbM M) pc = .ok (.lcmp, 1)) (kk : Ev G d M mc ms Q kc ks (pc + 1) lv (.int (lg_cmp x y) :: rest) h) : Ev G d M mc ms Q kc ks pc lv (.long y :: .long x :: rest) h := fun p l e s m args below meth c H locs ls X R L hl => W.lcmp X.1 X.2.1 hdg (kk p l e s m args below meth c H locs ls X R L hl)
theorem ev_ldc {index : Nat} {v : Int32} (hc : Cond.constant (moM M) index v ∈ TT) (hdg : decode (mbM M) pc = .ok (.ldc index, 2)) (kk : Ev G d M mc ms Q kc ks (pc + 2) lv (.int v :: rest) h) : Ev G d M mc ms Q kc ks pc lv rest h := fun p l e s m args below meth c H locs ls X R L hl => lv_ldc X.1 X.2.1 X.2.2.2.1 (X.2.2.2.2.1 _ (List.mem_cons_of_mem _ hc)) hdg (kk p l e s m args below meth c H locs ls X R L hl)
theorem ev_ldc2 {index : Nat} {v : Int64} (hc : Cond.constantLong (moM M) index v ∈ TT) (hdg : decode (mbM M) pc = .ok (.ldc2_w index, 3)) (kk : Ev G d M mc ms Q kc ks (pc + 3) lv (.long v :: rest) h) : Ev G d M mc ms Q kc ks pc lv rest h := fun p l e s m args below meth c H locs ls X R L hl => lv_ldc2 X.1 X.2.1 X.2.2.2.1 (X.2.2.2.2.1 _ (List.mem_cons_of_mem _ hc)) hdg (kk p l e s m args below meth c H locs ls X R L hl)
/-- a field's link, at the code of M -/
def FL (M : MI) (idx ci j : Nat) : Prop := Cond.fieldLink (moM M) idx (TXG ci j).1 (TXG ci j).2.1 (TXG ci j).2.2.1 ∈ TT ∧ ci < 7 ∧ j < nFG ci
theorem RelH.obj {H : Heap} (R : RelH G h H) {q ci n : Nat} (hs : h.2.1 q = some (ci, n)) (hc : ci < 7) : G.2.2.1.size ≤ q ∧ t_OB q (G.1.1 ci) (nFG ci) (G.1.2 ci) H (fun j => fvalG h ci q j) := by
  obtain ⟨a, b⟩ := R.2.2.2 q _ hs
  unfold cellG at b
  rw [if_pos hc] at b
  exact ⟨a, b⟩
theorem RelH.ints {H : Heap} (R : RelH G h H) {q n : Nat} (hs : h.2.1 q = some (10, n)) : G.2.2.1.size ≤ q ∧ H[q]? = some (arrV (G.2.1 0) n (fun j => .int (h.2.2.2.1 q j))) := by
  obtain ⟨a, b⟩ := R.2.2.2 q _ hs
  unfold cellG at b
  rw [if_neg (show ¬ (10 : Nat) < 7 by decide), if_pos rfl] at b
  exact ⟨a, b⟩
theorem RelH.lngs {H : Heap} (R : RelH G h H) {q n : Nat} (hs : h.2.1 q = some (11, n)) : G.2.2.1.size ≤ q ∧ H[q]? = some (arrV (G.2.1 1) n (fun j => .long (h.2.2.2.2 q j))) := by
  obtain ⟨a, b⟩ := R.2.2.2 q _ hs
  unfold cellG at b
  rw [if_neg (show ¬ (11 : Nat) < 7 by decide), if_neg (show ¬ (11 : Nat) = 10 by decide), if_pos rfl] at b
  exact ⟨a, b⟩
theorem RelH.refs {H : Heap} (R : RelH G h H) {q k n : Nat} (hs : h.2.1 q = some (k, n)) (h1 : 12 ≤ k) : G.2.2.1.size ≤ q ∧ k < 17 ∧ H[q]? = some (arrV (G.2.1 (k - 10)) n (fun j => h.2.2.1 q j)) := by
  obtain ⟨a, b⟩ := R.2.2.2 q _ hs
  unfold cellG at b
  rw [if_neg (by show ¬ k < 7; omega), if_neg (by show ¬ k = 10; omega), if_neg (by show ¬ k = 11; omega)] at b
  exact ⟨a, b⟩
theorem u_wsG {ci : Nat} (hc : ci < 7) : ∀ w ∈ u_ws (RXG ci) (TXG ci) (nFG ci), w ∈ TT := by
  have h0 : (List.range 7).all (fun c => (u_ws (RXG c) (TXG c) (nFG c)).all (fun w => lw_tbl.contains w && goodWord w)) = true := by decide +kernel
  intro w hw
  have h1 := List.all_eq_true.mp (List.all_eq_true.mp h0 ci (List.mem_range.mpr hc)) w hw
  simp only [Bool.and_eq_true, List.contains_iff_mem] at h1
  exact TT_in h1.1 h1.2
theorem ftyG_ok {ci k : Nat} (hc : ci < 7) (hk : k < nFG ci) : parseFieldDescriptor (TXG ci k).2.2.1 = some (ftyG ci k) := by
  rcases (show ci = 0 ∨ ci = 1 ∨ ci = 2 ∨ ci = 3 ∨ ci = 4 ∨ ci = 5 ∨ ci = 6 by omega) with rfl | rfl | rfl | rfl | rfl | rfl | rfl
  · exact tyX0_ok k hk
  · exact tyX1_ok k hk
  · exact tyX2_ok k hk
  · exact tyX3_ok k hk
  · exact tyX4_ok k hk
  · exact tyX5_ok k hk
  · exact tyX6_ok k hk
theorem nmG_ok {ci : Nat} (hc : ci < 7) : ∀ a, a < nFG ci → ∀ b, b < nFG ci → a ≠ b → (TXG ci a).2.1 ≠ (TXG ci b).2.1 := by
  rcases (show ci = 0 ∨ ci = 1 ∨ ci = 2 ∨ ci = 3 ∨ ci = 4 ∨ ci = 5 ∨ ci = 6 by omega) with rfl | rfl | rfl | rfl | rfl | rfl | rfl
  · exact nmX0
  · exact nmX1
  · exact nmX2
  · exact nmX3
  · exact nmX4
  · exact nmX5
  · exact nmX6
theorem ev_getf {idx ci j n a : Nat} {v : Value} (hs : h.2.1 a = some (ci, n)) (hF : FL M idx ci j) (hv : fvalG h ci a j = v) (hdg : decode (mbM M) pc = .ok (.getfield idx, 3)) (kk : Ev G d M mc ms Q kc ks (pc + 3) lv (v :: rest) h) : Ev G d M mc ms Q kc ks pc lv (.ref a :: rest) h := by
  intro p l e s m args below meth c H locs ls X R L hl
  obtain ⟨hlk, hc, hj⟩ := hF
  have hts : ∀ w ∈ TT, w.before args s = true := fun w hw => X.2.2.2.2.1 w (List.mem_cons_of_mem _ hw)
  obtain ⟨-, cell, q1, q2, q3, q4⟩ := R.obj hs hc
  obtain ⟨hS, hfc, kC, hkC, hkind⟩ := X.2.2.2.2.2.2.2.1.1.1 ci _ (vwCl_at hc)
  obtain ⟨cf, kf, fi, f, hi, hsl⟩ := hS j hj
  refine W.getf X.1 X.2.1 X.2.2.2.1 (hts _ hlk) hi (u_facts hfc hkC (u_lays hts (u_wsG hc) hj) hi).1 q1 (by rw [q3]; exact fun z => by cases z) (v := v) ?_ rfl rfl hdg (kk p l e s m args below meth c H locs ls X R L hl)
  rw [hsl]
  exact (q4 j hj).trans (congrArg some hv)
/-- one more int at a place -/
def upd2 {α : Type} (S : Nat → Nat → α) (a i : Nat) (v : α) : Nat → Nat → α := fun q => if q = a then (fun j => if j = i then v else S q j) else S q
theorem upd2_same {α : Type} {S : Nat → Nat → α} {a i j : Nat} {v : α} : upd2 S a i v a j = if j = i then v else S a j := by simp [upd2]
theorem upd2_ne {α : Type} {S : Nat → Nat → α} {a i q : Nat} {v : α} (z : q ≠ a) : upd2 S a i v q = S q := by simp [upd2, z]
theorem RelH.write {H H1 : Heap} (R : RelH G h H) {a : Nat} {kn : Nat × Nat} {P : Nat → Nat → Value} {S : Nat → Nat → Int32} {LL : Nat → Nat → Int64} (hs : h.2.1 a = some kn) (hz : H1.size = H.size) (oq : ∀ q : Nat, q ≠ a → H1[q]? = H[q]?)
    (hP : ∀ q : Nat, q ≠ a → P q = h.2.2.1 q) (hS : ∀ q : Nat, q ≠ a → S q = h.2.2.2.1 q) (hL : ∀ q : Nat, q ≠ a → LL q = h.2.2.2.2 q) (hc : cellG G (h.1, h.2.1, P, S, LL) a kn H1) : RelH G (h.1, h.2.1, P, S, LL) H1 := by
  have ha := (R.2.2.2 a kn hs).1
  refine ⟨hz.trans R.1, by rw [hz]; exact R.2.1, fun q hq => ?_, fun q kq hq => ?_⟩
  · rw [oq q (by omega)]
    exact R.2.2.1 q hq
  · by_cases z : q = a
    · subst z
      have e : kq = kn := Option.some.inj (hq.symm.trans hs)
      subst e
      exact ⟨ha, hc⟩
    · obtain ⟨g1, g2⟩ := R.2.2.2 q kq hq
      refine ⟨g1, ?_⟩
      unfold cellG at g2 ⊢
      split at g2
      · rename_i y
        rw [if_pos y]
        refine (g2.kept (oq q z)).to (fun k _ => ?_)
        simp only [fvalG, hP q z, hS q z]
      · rename_i y
        rw [if_neg y]
        split at g2
        · rename_i y
          rw [if_pos y, oq q z, g2]
          simp only [hS q z]
        · rename_i y
          rw [if_neg y]
          split at g2
          · rename_i y
            rw [if_pos y, oq q z, g2]
            simp only [hL q z]
          · rename_i y
            rw [if_neg y]
            refine ⟨g2.1, ?_⟩
            rw [oq q z, g2.2]
            simp only [hP q z]
theorem locs_app {G : GG} {locs : List Loc} {a k : Nat} (L : ∀ x ∈ locs, G.2.2.1.size ≤ x.base) (ha : G.2.2.1.size ≤ a) : ∀ x ∈ locs ++ [(⟨a, k⟩ : Loc)], G.2.2.1.size ≤ x.base := by
  intro x hx
  rcases List.mem_append.mp hx with q | q
  · exact L x q
  · rw [List.mem_singleton.mp q]
    exact ha
theorem ev_putI {idx ci j n a : Nat} {x : Int32} (hs : h.2.1 a = some (ci, n)) (hF : FL M idx ci j) (hfin : (TXG ci j).2.2.2 = false) (hrf : isRf (ftyG ci j) = false) (hn : narrow (ftyG ci j) (.int x) = .int x) (hfit : fits (ftyG ci j) (.int x) = true) (hdg : decode (mbM M) pc = .ok (.putfield idx, 3))
    (kk : Ev G d M mc ms Q kc ks (pc + 3) lv rest (h.1, h.2.1, h.2.2.1, upd2 h.2.2.2.1 a j x, h.2.2.2.2)) : Ev G d M mc ms Q kc ks pc lv (.int x :: .ref a :: rest) h := by
  intro p l e s m args below meth c H locs ls X R L hl
  obtain ⟨hlk, hc, hj⟩ := hF
  have hts : ∀ w ∈ TT, w.before args s = true := fun w hw => X.2.2.2.2.1 w (List.mem_cons_of_mem _ hw)
  obtain ⟨hga, cell, q1, q2, q3, q4⟩ := R.obj hs hc
  have hK := X.2.2.2.2.2.2.2.1.1
  have hap := va_apart (own := moM M) hts (u_wsG hc) (ftyG ci) (fun k hk => ftyG_ok hc hk) (nmG_ok hc) hK (vwCl_at hc)
  obtain ⟨hS, hfc, kC, hkC, hkind⟩ := hK.1 ci _ (vwCl_at hc)
  obtain ⟨cf, kf, fi, f, hi, hsl⟩ := hS j hj
  have hlay := hts _ (u_wsG hc _ (u_in_lay hj))
  unfold u_lay at hlay
  rw [if_neg (by rw [hfin]; decide)] at hlay
  have hst := (u_facts hfc hkC (u_lays hts (u_wsG hc) hj) hi).1
  have h6 := u_store hfc hkC hkind hlay hi (ftyG_ok hc hj) hn hfit
  refine W.putK X.1 X.2.1 (f := f) ⟨X.2.2.2.1, hts _ hlk, ⟨_, _, _, hi⟩, hst⟩ (by rw [q2]; exact h6) q1 q3 (by rw [hsl]; exact k2_hasslot (q4 j hj)) rfl rfl hdg fun H' e1 e2 e3 => ?_
  rw [hsl] at e1 ⊢
  refine kk p l e s m args below meth c H' _ ls X (R.write hs e2 e3 (fun q _ => rfl) (fun q z => upd2_ne z) (fun q _ => rfl) ?_) (locs_app L hga) hl
  unfold cellG
  rw [if_pos hc]
  refine t_OB.to (V := updV (fun k => fvalG h ci a k) j (.int x)) ⟨_, e1, q2, q3, t_set q4 hap hj (.int x)⟩ (fun k hk => ?_)
  unfold updV fvalG
  by_cases z : k = j
  · subst z
    simp [hrf, upd2_same]
  · simp [z, upd2_same]
theorem ev_putR {idx ci j n a : Nat} {v : Value} (hs : h.2.1 a = some (ci, n)) (hF : FL M idx ci j) (hfin : (TXG ci j).2.2.2 = false) (hrf : isRf (ftyG ci j) = true) (hn : narrow (ftyG ci j) v = v) (hfit : fits (ftyG ci j) v = true) (hdg : decode (mbM M) pc = .ok (.putfield idx, 3))
    (kk : Ev G d M mc ms Q kc ks (pc + 3) lv rest (h.1, h.2.1, upd2 h.2.2.1 a j v, h.2.2.2.1, h.2.2.2.2)) : Ev G d M mc ms Q kc ks pc lv (v :: .ref a :: rest) h := by
  intro p l e s m args below meth c H locs ls X R L hl
  obtain ⟨hlk, hc, hj⟩ := hF
  have hts : ∀ w ∈ TT, w.before args s = true := fun w hw => X.2.2.2.2.1 w (List.mem_cons_of_mem _ hw)
  obtain ⟨hga, cell, q1, q2, q3, q4⟩ := R.obj hs hc
  have hK := X.2.2.2.2.2.2.2.1.1
  have hap := va_apart (own := moM M) hts (u_wsG hc) (ftyG ci) (fun k hk => ftyG_ok hc hk) (nmG_ok hc) hK (vwCl_at hc)
  obtain ⟨hS, hfc, kC, hkC, hkind⟩ := hK.1 ci _ (vwCl_at hc)
  obtain ⟨cf, kf, fi, f, hi, hsl⟩ := hS j hj
  have hlay := hts _ (u_wsG hc _ (u_in_lay hj))
  unfold u_lay at hlay
  rw [if_neg (by rw [hfin]; decide)] at hlay
  have hst := (u_facts hfc hkC (u_lays hts (u_wsG hc) hj) hi).1
  have h6 := u_store hfc hkC hkind hlay hi (ftyG_ok hc hj) hn hfit
  refine W.putK X.1 X.2.1 (f := f) ⟨X.2.2.2.1, hts _ hlk, ⟨_, _, _, hi⟩, hst⟩ (by rw [q2]; exact h6) q1 q3 (by rw [hsl]; exact k2_hasslot (q4 j hj)) rfl rfl hdg fun H' e1 e2 e3 => ?_
  rw [hsl] at e1 ⊢
  refine kk p l e s m args below meth c H' _ ls X (R.write hs e2 e3 (fun q z => upd2_ne z) (fun q _ => rfl) (fun q _ => rfl) ?_) (locs_app L hga) hl
  unfold cellG
  rw [if_pos hc]
  refine t_OB.to (V := updV (fun k => fvalG h ci a k) j v) ⟨_, e1, q2, q3, t_set q4 hap hj v⟩ (fun k hk => ?_)
  unfold updV fvalG
  by_cases z : k = j
  · subst z
    simp [hrf, upd2_same]
  · simp [z, upd2_same]
/-- a final field, in its class's constructor -/
theorem ev_putF {idx ci j n a : Nat} {v : Value} (hs : h.2.1 a = some (ci, n)) (hF : FL M idx ci j) (hfin : (TXG ci j).2.2.2 = true) (hin : (myM M).name = "<init>") (hdecl : (TXG ci j).1 = moM M) (hrf : isRf (ftyG ci j) = true) (hn : narrow (ftyG ci j) v = v) (hfit : fits (ftyG ci j) v = true) (hdg : decode (mbM M) pc = .ok (.putfield idx, 3))
    (kk : Ev G d M mc ms Q kc ks (pc + 3) lv rest (h.1, h.2.1, upd2 h.2.2.1 a j v, h.2.2.2.1, h.2.2.2.2)) : Ev G d M mc ms Q kc ks pc lv (v :: .ref a :: rest) h := by
  intro p l e s m args below meth c H locs ls X R L hl
  obtain ⟨hlk, hc, hj⟩ := hF
  have hts : ∀ w ∈ TT, w.before args s = true := fun w hw => X.2.2.2.2.1 w (List.mem_cons_of_mem _ hw)
  obtain ⟨hga, cell, q1, q2, q3, q4⟩ := R.obj hs hc
  have hK := X.2.2.2.2.2.2.2.1.1
  have hap := va_apart (own := moM M) hts (u_wsG hc) (ftyG ci) (fun k hk => ftyG_ok hc hk) (nmG_ok hc) hK (vwCl_at hc)
  obtain ⟨hS, hfc, kC, hkC, hkind⟩ := hK.1 ci _ (vwCl_at hc)
  obtain ⟨cf, kf, fi, f, hi, hsl⟩ := hS j hj
  have hlay := hts _ (u_wsG hc _ (u_in_lay hj))
  unfold u_lay at hlay
  rw [if_pos hfin] at hlay
  have hst := (u_facts hfc hkC (u_lays hts (u_wsG hc) hj) hi).1
  have hcf : m.cls = cf := by
    obtain ⟨_, _, c', _, _, _, -, -, hf', -, -, -, hown2, -⟩ := Cond.laysFinal_spec hlay
    have e1 : c' = cf := by have := hi.symm.trans hf'; simp at this; exact this.1.symm
    rw [hdecl] at hown2
    rw [← e1]; exact Option.some.inj (X.2.2.2.1.symm.trans hown2)
  have h6 := u_fits hfc hkC hkind (Or.inr hlay) hi (ftyG_ok hc hj) hn hfit
  refine W.putFinK X.1 X.2.1 X.2.2.2.1 (hts _ hlk) hi hst hcf (X.2.2.2.2.2.2.2.2.trans hin) (by rw [q2]; exact h6) q1 q3 (by rw [hsl]; exact k2_hasslot (q4 j hj)) rfl rfl hdg fun H' e1 e2 e3 => ?_
  rw [hsl] at e1 ⊢
  refine kk p l e s m args below meth c H' _ ls X (R.write hs e2 e3 (fun q z => upd2_ne z) (fun q _ => rfl) (fun q _ => rfl) ?_) (locs_app L hga) hl
  unfold cellG
  rw [if_pos hc]
  refine t_OB.to (V := updV (fun k => fvalG h ci a k) j v) ⟨_, e1, q2, q3, t_set q4 hap hj v⟩ (fun k hk => ?_)
  unfold updV fvalG
  by_cases z : k = j
  · subst z
    simp [hrf, upd2_same]
  · simp [z, upd2_same]
theorem ev_iaload {a n : Nat} {i : Int32} (hs : h.2.1 a = some (10, n)) (hin : vp_in i n) (hdg : decode (mbM M) pc = .ok (.iaload, 1)) (kk : Ev G d M mc ms Q kc ks (pc + 1) lv (.int (h.2.2.2.1 a i.toNatClampNeg) :: rest) h) : Ev G d M mc ms Q kc ks pc lv (.int i :: .ref a :: rest) h := by
  intro p l e s m args below meth c H locs ls X R L hl
  obtain ⟨-, hcell⟩ := R.ints hs
  have hlt : i.toNatClampNeg < n := Nat.not_le.mp fun q => hin (Or.inr q)
  exact W.iald (v := .int (h.2.2.2.1 a i.toNatClampNeg)) X.1 X.2.1 hcell ((X.2.2.2.2.2.2.2.1.1.2 0 _ (tysG_at G (by decide))).1 n (fun j => .int (h.2.2.2.1 a j))) (fun q => by cases q) (by rw [arrV_size]; exact hin) (by rw [arrV_read _ _ hlt]) rfl rfl hdg (kk p l e s m args below meth c H locs ls X R L hl)
theorem ev_laload {a n : Nat} {i : Int32} (hs : h.2.1 a = some (11, n)) (hin : vp_in i n) (hdg : decode (mbM M) pc = .ok (.laload, 1)) (kk : Ev G d M mc ms Q kc ks (pc + 1) lv (.long (h.2.2.2.2 a i.toNatClampNeg) :: rest) h) : Ev G d M mc ms Q kc ks pc lv (.int i :: .ref a :: rest) h := by
  intro p l e s m args below meth c H locs ls X R L hl
  obtain ⟨-, hcell⟩ := R.lngs hs
  have hlt : i.toNatClampNeg < n := Nat.not_le.mp fun q => hin (Or.inr q)
  exact W.lald (v := .long (h.2.2.2.2 a i.toNatClampNeg)) X.1 X.2.1 hcell ((X.2.2.2.2.2.2.2.1.1.2 1 _ (tysG_at G (by decide))).1 n (fun j => .long (h.2.2.2.2 a j))) (fun q => by cases q) (by rw [arrV_size]; exact hin) (by rw [arrV_read _ _ hlt]) rfl rfl hdg (kk p l e s m args below meth c H locs ls X R L hl)
theorem atyG_ref {k : Nat} (h2 : 2 ≤ k) : (atyG k).isReference = true := by
  unfold atyG
  split <;> first | omega | rfl
theorem ev_aaload {a n t : Nat} {i : Int32} {v : Value} (hs : h.2.1 a = some (t, n)) (ht : 12 ≤ t) (hin : vp_in i n) (hv : h.2.2.1 a i.toNatClampNeg = v) (hdg : decode (mbM M) pc = .ok (.aaload, 1)) (kk : Ev G d M mc ms Q kc ks (pc + 1) lv (v :: rest) h) : Ev G d M mc ms Q kc ks pc lv (.int i :: .ref a :: rest) h := by
  intro p l e s m args below meth c H locs ls X R L hl
  obtain ⟨-, ht2, hcell⟩ := R.refs hs ht
  have hlt : i.toNatClampNeg < n := Nat.not_le.mp fun q => hin (Or.inr q)
  exact W.aald (v := v) (ty := atyG (t - 10)) X.1 X.2.1 hcell ((X.2.2.2.2.2.2.2.1.1.2 (t - 10) _ (tysG_at G (by omega))).1 n (fun j => h.2.2.1 a j)) (atyG_ref (by omega)) (fun q => by cases q) (by rw [arrV_size]; exact hin) (by rw [arrV_read _ _ hlt, hv]) rfl rfl hdg (kk p l e s m args below meth c H locs ls X R L hl)
theorem ev_iastore {a n : Nat} {i x : Int32} (hs : h.2.1 a = some (10, n)) (hin : vp_in i n) (hdg : decode (mbM M) pc = .ok (.iastore, 1)) (kk : Ev G d M mc ms Q kc ks (pc + 1) lv rest (h.1, h.2.1, h.2.2.1, upd2 h.2.2.2.1 a i.toNatClampNeg x, h.2.2.2.2)) : Ev G d M mc ms Q kc ks pc lv (.int x :: .int i :: .ref a :: rest) h := by
  intro p l e s m args below meth c H locs ls X R L hl
  obtain ⟨hga, hcell⟩ := R.ints hs
  refine W.iast X.1 X.2.1 hcell ((X.2.2.2.2.2.2.2.1.1.2 0 _ (tysG_at G (by decide))).1 n (fun j => .int (h.2.2.2.1 a j))) (fun q => by cases q) (by rw [arrV_size]; exact hin) rfl rfl hdg fun H1 e1 z oq => ?_
  refine kk p l e s m args below meth c H1 _ ls X (R.write hs z oq (fun q _ => rfl) (fun q z => upd2_ne z) (fun q _ => rfl) ?_) (locs_app L hga) hl
  unfold cellG
  rw [if_neg (show ¬ (10 : Nat) < 7 by decide), if_pos rfl, e1, arrV_store]
  congr 2
  funext q
  by_cases hq : q = i.toNatClampNeg <;> simp [updV, upd2_same, hq]
theorem ev_lastore {a n : Nat} {i : Int32} {x : Int64} (hs : h.2.1 a = some (11, n)) (hin : vp_in i n) (hdg : decode (mbM M) pc = .ok (.lastore, 1)) (kk : Ev G d M mc ms Q kc ks (pc + 1) lv rest (h.1, h.2.1, h.2.2.1, h.2.2.2.1, upd2 h.2.2.2.2 a i.toNatClampNeg x)) : Ev G d M mc ms Q kc ks pc lv (.long x :: .int i :: .ref a :: rest) h := by
  intro p l e s m args below meth c H locs ls X R L hl
  obtain ⟨hga, hcell⟩ := R.lngs hs
  refine W.last X.1 X.2.1 hcell ((X.2.2.2.2.2.2.2.1.1.2 1 _ (tysG_at G (by decide))).1 n (fun j => .long (h.2.2.2.2 a j))) (fun q => by cases q) (by rw [arrV_size]; exact hin) rfl rfl hdg fun H1 e1 z oq => ?_
  refine kk p l e s m args below meth c H1 _ ls X (R.write hs z oq (fun q _ => rfl) (fun q _ => rfl) (fun q z => upd2_ne z) ?_) (locs_app L hga) hl
  unfold cellG
  rw [if_neg (show ¬ (11 : Nat) < 7 by decide), if_neg (show ¬ (11 : Nat) = 10 by decide), if_pos rfl, e1, arrV_store]
  congr 2
  funext q
  by_cases hq : q = i.toNatClampNeg <;> simp [updV, upd2_same, hq]
theorem ev_alenI {a n : Nat} {v : Int32} (hs : h.2.1 a = some (10, n)) (hv : Int32.ofNat n = v) (hdg : decode (mbM M) pc = .ok (.arraylength, 1)) (kk : Ev G d M mc ms Q kc ks (pc + 1) lv (.int v :: rest) h) : Ev G d M mc ms Q kc ks pc lv (.ref a :: rest) h := by
  intro p l e s m args below meth c H locs ls X R L hl
  obtain ⟨-, hcell⟩ := R.ints hs
  exact W.alen (n := v) X.1 X.2.1 hcell ((X.2.2.2.2.2.2.2.1.1.2 0 _ (tysG_at G (by decide))).1 n (fun j => .int (h.2.2.2.1 a j))) (by rw [arrV_size]; exact hv) rfl rfl hdg (kk p l e s m args below meth c H locs ls X R L hl)
/-- the returns -/
theorem ev_iret {x : Int32} (hr : mrM M = some .int) (hq : Q (some (.int x)) h) (h1 : kc ≤ mc) (h2 : ks ≤ ms) (hdg : decode (mbM M) pc = .ok (.ireturn, 1)) : Ev G d M mc ms Q kc ks pc lv [.int x] h := by
  intro p l e s m args below meth c H locs ls X R L hl
  refine W.widen h1 h2 ?_
  exact W.iret X.1 X.2.1 (X.2.2.2.2.2.1.trans hr) (fun t ht _ => ⟨_, h, rfl, hq, by rw [ht]; exact R⟩) L hdg X.2.2.2.2.2.2.1
theorem ev_lret {x : Int64} (hr : mrM M = some .long) (hq : Q (some (.long x)) h) (h1 : kc ≤ mc) (h2 : ks ≤ ms) (hdg : decode (mbM M) pc = .ok (.lreturn, 1)) : Ev G d M mc ms Q kc ks pc lv [.long x] h := by
  intro p l e s m args below meth c H locs ls X R L hl
  refine W.widen h1 h2 ?_
  exact W.lret X.1 X.2.1 (X.2.2.2.2.2.1.trans hr) (fun t ht _ => ⟨_, h, rfl, hq, by rw [ht]; exact R⟩) L hdg X.2.2.2.2.2.2.1
theorem ev_vret (hr : mrM M = none) (hq : Q none h) (h1 : kc ≤ mc) (h2 : ks ≤ ms) (hdg : decode (mbM M) pc = .ok (.return_, 1)) : Ev G d M mc ms Q kc ks pc lv [] h := by
  intro p l e s m args below meth c H locs ls X R L hl
  refine W.widen h1 h2 ?_
  exact W.vret X.1 X.2.1 (X.2.2.2.2.2.1.trans hr) (fun t ht _ => ⟨_, h, rfl, hq, by rw [ht]; exact R⟩) L hdg X.2.2.2.2.2.2.1
theorem ev_aret {x : Nat} {C : String} (hr : mrM M = some (.object C)) (hq : Q (some (.ref x)) h) (h1 : kc ≤ mc) (h2 : ks ≤ ms) (hdg : decode (mbM M) pc = .ok (.areturn, 1)) : Ev G d M mc ms Q kc ks pc lv [.ref x] h := by
  intro p l e s m args below meth c H locs ls X R L hl
  refine W.widen h1 h2 ?_
  exact W.aret X.1 X.2.1 (X.2.2.2.2.2.1.trans hr) (Or.inl ⟨C, rfl⟩) (Or.inr ⟨x, rfl⟩) (fun t ht _ => ⟨_, h, rfl, hq, by rw [ht]; exact R⟩) L hdg X.2.2.2.2.2.2.1
/-- what a boolean's return keeps of an int -/
def nbZ (x : Int32) : Int32 := vp_nar .boolean x
theorem nbZ_eq (x : Int32) : narrow .boolean (.int x) = .int (nbZ x) := by
  unfold nbZ vp_nar
  simp [narrow]
theorem ev_zret {x : Int32} (hr : mrM M = some .boolean) (hq : Q (some (.int (nbZ x))) h) (h1 : kc ≤ mc) (h2 : ks ≤ ms) (hdg : decode (mbM M) pc = .ok (.ireturn, 1)) : Ev G d M mc ms Q kc ks pc lv [.int x] h := by
  intro p l e s m args below meth c H locs ls X R L hl
  refine W.widen h1 h2 ?_
  intro T hT X0
  obtain ⟨fs, hret, hrun, hended, hW, hframe⟩ := X0.leave (v := some (.int (nbZ x))) (hlocks := X.2.2.2.2.2.2.1) (fun z => by rw [X.2.2.2.2.2.1, hr] at z; cases z)
  have hmeth' : T.vm.method? m = some meth := X0.method'
  refine ⟨T.setFrames fs, ?_, .returned (some (.int (nbZ x))), hrun, hended, ⟨_, h, rfl, hq, by rw [show (T.setFrames fs).heap = T.heap from rfl, hT]; exact R⟩, locs, ⟨⟨_, rfl⟩, hW, hframe⟩, L⟩
  jvm_step X0.here [X0.here.top, X.1, X.2.1, hdg, hmeth', X.2.2.2.2.2.1, hr, nbZ_eq]
  (try refine ⟨rfl, ?_⟩); (try refine ⟨rfl, ?_⟩)
  first | (intro acts; rw [hret _ acts rfl rfl rfl]) | rw [hret _ _ rfl rfl rfl]
  exact Steps.refl _
/-- what the tables say of a callee -/
def CalF (N : MI) : Prop := Cond.code (myM N) (mbM N) (mlM N) (mrM N) ∈ TT ∧ Cond.initialized (myM N).cls ∈ TT ∧ ((myM N).cls ≠ "java/lang/invoke/MethodHandle" ∧ (myM N).cls ≠ "java/lang/invoke/VarHandle") ∧ mlM N ≤ 45
def CalV (N : MI) (ci n : Nat) : Prop := CalF N ∧ Cond.instanceMethod (myM N) ∈ TT ∧ Cond.selects (RXG ci) (myM N) (myM N) ∈ TT ∧ ci < 7 ∧ (parseMethodDescriptor (myM N).desc).map (fun z => z.parameters.length) = some n
def CalS (N : MI) (n : Nat) : Prop := CalF N ∧ Cond.static (myM N) ∈ TT ∧ (parseMethodDescriptor (myM N).desc).map (fun z => z.parameters.length) = some n
def CalI (N : MI) (n : Nat) : Prop := CalF N ∧ Cond.instanceMethod (myM N) ∈ TT ∧ (myM N).name = "<init>" ∧ mrM N = none ∧ (parseMethodDescriptor (myM N).desc).map (fun z => z.parameters.length) = some n
theorem blindG {G : GG} {av : List Value} {h : PH} : FrameBlind (va_Pc av (fun U => KK G U ∧ RelH G h U.heap)) := fun _ U g mk q => ⟨q.1, KK.same (u := U) (U := U.calling g mk _) rfl q.2.1, q.2.2⟩
theorem preG {G : GG} {h : PH} {H : Heap} {s : State} (hK : KK G s) (R : RelH G h H) (av : List Value) : ∀ U : State, U.heap = H → s.WarmedH U.vm → va_Pc av (fun U => KK G U ∧ RelH G h U.heap) av.toArray U := fun U hU hW => ⟨rfl, hK.warm hW, by rw [hU]; exact R⟩
theorem ev_run {N : MI} {idx d' mc' ms' : Nat} {Q' : Option Value → PH → Prop} {p : Program} {l : Launch} {e : Env} {s : State} {m : MethodId} {args a : Array Value} {below : List Frame} {meth : Method} {c : Code} {H : Heap} {locs : List Loc} {ls : Array Slot} {st : List Value} {QQ : State → Prop}
    (hr : va_Run p l e (rmD d mc ms) s m args below meth c H locs kc ks mc' ms' (F0 m pc ls st) rest (QcG G Q' a) (fun q => G.2.2.1.size ≤ q)) (L : ∀ x ∈ locs, G.2.2.1.size ≤ x.base)
    (kk : ∀ (v : Option Value) (h' : PH) (H1 : Heap) (locs1 : List Loc), Q' v h' → RelH G h' H1 → (∀ x ∈ locs1, G.2.2.1.size ≤ x.base) → W p l e (rmD d mc ms) s m args below meth c H1 locs1 (kc + mc') (ks + ms') QQ (F0 m (pc + 3) ls (v.toList ++ rest))) :
    W p l e (rmD d mc ms) s m args below meth c H locs kc ks QQ (F0 m pc ls st) := by
  intro T hT X
  obtain ⟨v, st₀, t, T', LL, h0, X', hL, e1, e2, ⟨v', h', hv, hq, hR⟩, st2⟩ := hr T hT X
  cases hv
  obtain ⟨t2, a1, b1⟩ := kk v h' T'.heap (locs ++ LL) hq (by rw [e1]; exact hR) (fun x hx => by
    rcases List.mem_append.mp hx with z | z
    · exact L x z
    · exact hL x z) T' rfl X'
  exact ⟨t2, st2 t2 a1, b1⟩
theorem ev_invV {N : MI} {idx d' mc' ms' ci n k0 b : Nat} {As st : List Value} {Q' : Option Value → PH → Prop} (hM : Mt d' N mc' ms' (.ref b :: As) h Q') (hC : CalV N ci n) (hlk : Cond.methodLink (moM M) idx (myM N) ∈ TT) (hd : d' + 1 ≤ d) (hs : h.2.1 b = some (ci, k0)) (hst : st = As.reverse ++ .ref b :: rest) (hn : As.length = n) (hW : (rest.map fun v => v.category).sum ≤ 8) (h1 : kc + mc' ≤ mc) (h2 : ks + ms' ≤ ms) (hdg : decode (mbM M) pc = .ok (.invokevirtual idx, 3))
    (kk : ∀ (v : Option Value) (h' : PH), Q' v h' → Ev G d M mc ms Q (kc + mc') (ks + ms') (pc + 3) lv (v.toList ++ rest) h') : Ev G d M mc ms Q kc ks pc lv st h := by
  intro p l e s m args below meth c H locs ls X R L hl
  obtain ⟨⟨c1, c2, c3, c4⟩, c5, c6, c7, c8⟩ := hC
  have hts : ∀ w ∈ TT, w.before args s = true := fun w hw => X.2.2.2.2.1 w (List.mem_cons_of_mem _ hw)
  obtain ⟨-, cell, q1, q2, q3, q4⟩ := R.obj hs c7
  have hcls := (X.2.2.2.2.2.2.2.1.1.1 ci _ (vwCl_at c7)).2.1
  refine ev_run (N := N) (idx := idx) (d' := d') (G := G) (Q' := Q') (va_runV (C := RXG ci) (own := moM M) (index := idx) (y := myM N) (bytes := mbM N) (maxL := mlM N) (ret := mrM N) (ws := wsM N) (rm := rmD d' mc' ms') (n := n) ⟨X.1, X.2.1, X.2.2.1, X.2.2.2.1, X.2.2.2.2.1⟩ (hM G l) ⟨?_, hts _ c5, hts _ c6⟩ ⟨blindG, ⟨cell, q1, by rw [q3]; rfl, by rw [q2]; exact hcls⟩, preG X.2.2.2.2.2.2.2.1 R _⟩ rfl hn hl.1 hst (lv_room hW) hdg ⟨h1, h2⟩) L (fun v h' H1 locs1 hq hR L1 => kk v h' hq p l e s m args below meth c H1 locs1 ls X hR L1 hl)
  refine callB_of (ws' := TT) n X.2.2.2.2.1 (wsM_good c1) rfl rfl rfl (hts _ c2) (hts _ hlk) ⟨c3.1, c3.2, c8⟩ ⟨hd, ?_⟩
  show 8 + (mlM N + 11) + 64 * d' ≤ 64 * d
  omega
theorem ev_invS {N : MI} {idx d' mc' ms' n : Nat} {As st : List Value} {Q' : Option Value → PH → Prop} (hM : Mt d' N mc' ms' As h Q') (hC : CalS N n) (hlk : Cond.methodLink (moM M) idx (myM N) ∈ TT) (hd : d' + 1 ≤ d) (hst : st = As.reverse ++ rest) (hn : As.length = n) (hW : (rest.map fun v => v.category).sum ≤ 8) (h1 : kc + mc' ≤ mc) (h2 : ks + ms' ≤ ms) (hdg : decode (mbM M) pc = .ok (.invokestatic idx, 3))
    (kk : ∀ (v : Option Value) (h' : PH), Q' v h' → Ev G d M mc ms Q (kc + mc') (ks + ms') (pc + 3) lv (v.toList ++ rest) h') : Ev G d M mc ms Q kc ks pc lv st h := by
  intro p l e s m args below meth c H locs ls X R L hl
  obtain ⟨⟨c1, c2, c3, c4⟩, c5, c8⟩ := hC
  have hts : ∀ w ∈ TT, w.before args s = true := fun w hw => X.2.2.2.2.1 w (List.mem_cons_of_mem _ hw)
  refine ev_run (N := N) (idx := idx) (d' := d') (G := G) (Q' := Q') (va_runS (own := moM M) (index := idx) (y := myM N) (bytes := mbM N) (maxL := mlM N) (ret := mrM N) (ws := wsM N) (rm := rmD d' mc' ms') (n := n) ⟨X.1, X.2.1, X.2.2.1, X.2.2.2.1, X.2.2.2.2.1⟩ (hM G l) ⟨?_, hts _ c5⟩ ⟨blindG, preG X.2.2.2.2.2.2.2.1 R _⟩ rfl hn hl.1 hst (lv_room hW) hdg ⟨h1, h2⟩) L (fun v h' H1 locs1 hq hR L1 => kk v h' hq p l e s m args below meth c H1 locs1 ls X hR L1 hl)
  refine callB_of (ws' := TT) n X.2.2.2.2.1 (wsM_good c1) rfl rfl rfl (hts _ c2) (hts _ hlk) ⟨c3.1, c3.2, c8⟩ ⟨hd, ?_⟩
  show 8 + (mlM N + 11) + 64 * d' ≤ 64 * d
  omega
theorem ev_invI {N : MI} {idx d' mc' ms' n b : Nat} {As st : List Value} {Q' : Option Value → PH → Prop} (hM : Mt d' N mc' ms' (.ref b :: As) h Q') (hC : CalI N n) (hlk : Cond.methodLink (moM M) idx (myM N) ∈ TT) (hd : d' + 1 ≤ d) (hst : st = As.reverse ++ .ref b :: rest) (hn : As.length = n) (hW : (rest.map fun v => v.category).sum ≤ 8) (h1 : kc + mc' ≤ mc) (h2 : ks + ms' ≤ ms) (hdg : decode (mbM M) pc = .ok (.invokespecial idx, 3))
    (kk : ∀ (v : Option Value) (h' : PH), Q' v h' → Ev G d M mc ms Q (kc + mc') (ks + ms') (pc + 3) lv (v.toList ++ rest) h') : Ev G d M mc ms Q kc ks pc lv st h := by
  intro p l e s m args below meth c H locs ls X R L hl
  obtain ⟨⟨c1, c2, c3, c4⟩, c5, c6, c7, c8⟩ := hC
  have hts : ∀ w ∈ TT, w.before args s = true := fun w hw => X.2.2.2.2.1 w (List.mem_cons_of_mem _ hw)
  have hw0 : wsM N = Cond.code (myM N) (mbM N) (mlM N) none :: TT := by unfold wsM; rw [c7]
  have hG0 : GoodIn (wsM M) (wsM N) := wsM_good c1
  refine ev_run (N := N) (idx := idx) (d' := d') (G := G) (Q' := Q') (va_runI (own := moM M) (index := idx) (y := myM N) (bytes := mbM N) (maxL := mlM N) (ws := wsM N) (rm := rmD d' mc' ms') (n := n) ⟨X.1, X.2.1, X.2.2.1, X.2.2.2.1, X.2.2.2.2.1⟩ (hM G l) ⟨?_, c6, hts _ c5⟩ ⟨blindG, preG X.2.2.2.2.2.2.2.1 R _⟩ rfl hn hl.1 hst (lv_room hW) hdg ⟨h1, h2⟩) L (fun v h' H1 locs1 hq hR L1 => kk v h' hq p l e s m args below meth c H1 locs1 ls X hR L1 hl)
  refine callB_of (ws' := TT) n X.2.2.2.2.1 hG0 hw0 rfl rfl (hts _ c2) (hts _ hlk) ⟨c3.1, c3.2, c8⟩ ⟨hd, ?_⟩
  show 8 + (mlM N + 11) + 64 * d' ≤ 64 * d
  omega
theorem ev_invIN {N : MI} {host : String} {idx d' mc' ms' n b : Nat} {As st : List Value} {Q' : Option Value → PH → Prop} (hM : Mt d' N mc' ms' (.ref b :: As) h Q') (hC : CalI N n) (hlk : Cond.methodLinkNest (moM M) idx (myM N) host ∈ nestW) (hd : d' + 1 ≤ d) (hst : st = As.reverse ++ .ref b :: rest) (hn : As.length = n) (hW : (rest.map fun v => v.category).sum ≤ 8) (h1 : kc + mc' ≤ mc) (h2 : ks + ms' ≤ ms) (hdg : decode (mbM M) pc = .ok (.invokespecial idx, 3))
    (kk : ∀ (v : Option Value) (h' : PH), Q' v h' → Ev G d M mc ms Q (kc + mc') (ks + ms') (pc + 3) lv (v.toList ++ rest) h') : Ev G d M mc ms Q kc ks pc lv st h := by
  intro p l e s m args below meth c H locs ls X R L hl
  obtain ⟨⟨c1, c2, c3, c4⟩, c5, c6, c7, c8⟩ := hC
  have hts : ∀ w ∈ TT, w.before args s = true := fun w hw => X.2.2.2.2.1 w (List.mem_cons_of_mem _ hw)
  have hw0 : wsM N = Cond.code (myM N) (mbM N) (mlM N) none :: TT := by unfold wsM; rw [c7]
  have hG0 : GoodIn (wsM M) (wsM N) := wsM_good c1
  refine ev_run (N := N) (idx := idx) (d' := d') (G := G) (Q' := Q') (va_runIN (own := moM M) (index := idx) (y := myM N) (bytes := mbM N) (maxL := mlM N) (ws := wsM N) (rm := rmD d' mc' ms') (n := n) (host := host) ⟨X.1, X.2.1, X.2.2.1, X.2.2.2.1, X.2.2.2.2.1⟩ (hM G l) ⟨?_, c6, hts _ c5⟩ ⟨blindG, preG X.2.2.2.2.2.2.2.1 R _⟩ rfl hn hl.1 hst (lv_room hW) hdg ⟨h1, h2⟩) L (fun v h' H1 locs1 hq hR L1 => kk v h' hq p l e s m args below meth c H1 locs1 ls X hR L1 hl)
  refine va_cnB (ws' := TT) n X.2.2.2.2.1 hG0 hw0 rfl rfl (X.2.2.2.2.2.2.2.1.2.1 _ hlk) (hts _ c2) ⟨c3.1, c3.2, c8⟩ ⟨hd, ?_⟩
  show 8 + (mlM N + 11) + 64 * d' ≤ 64 * d
  omega
end EV
end
section
/-! THE LOCAL LAYER EvF: a method sees places 0 .. n-1, at addresses pl 0 .. pl (n-1); its state is two functions of (place, index): ints and longs. -/
abbrev SS : Type := (Nat → Nat → Int32) × (Nat → Nat → Int64)
/-- S, but at the addresses pl 0 .. pl (n-1) what C holds at the places -/
def mrg {α : Type} (pl : Nat → Nat) : Nat → (Nat → Nat → α) → (Nat → Nat → α) → Nat → Nat → α
  | 0, S, _ => S
  | n + 1, S, C => fun q => if q = pl n then C n else mrg pl n S C q
def injN (pl : Nat → Nat) (n : Nat) : Prop := ∀ i j : Nat, i < n → j < n → pl i = pl j → i = j
theorem mrg_at {α : Type} {pl : Nat → Nat} {S C : Nat → Nat → α} : ∀ {n : Nat}, injN pl n → ∀ {k : Nat}, k < n → mrg pl n S C (pl k) = C k
  | 0, _, _, hk => absurd hk (Nat.not_lt_zero _)
  | n + 1, hi, k, hk => by
    show (if pl k = pl n then C n else mrg pl n S C (pl k)) = C k
    by_cases z : k = n
    · subst z
      rw [if_pos rfl]
    · rw [if_neg (fun e => z (hi k n hk (Nat.lt_succ_self n) e))]
      exact mrg_at (fun i j h1 h2 e => hi i j (Nat.lt_succ_of_lt h1) (Nat.lt_succ_of_lt h2) e) (by omega)
theorem mrg_off {α : Type} {pl : Nat → Nat} {S C : Nat → Nat → α} {q : Nat} : ∀ {n : Nat}, (∀ k : Nat, k < n → q ≠ pl k) → mrg pl n S C q = S q
  | 0, _ => rfl
  | n + 1, h => by
    show (if q = pl n then C n else mrg pl n S C q) = S q
    rw [if_neg (h n (Nat.lt_succ_self n))]
    exact mrg_off (fun k hk => h k (Nat.lt_succ_of_lt hk))
theorem mrg_cases {pl : Nat → Nat} (n q : Nat) : (∃ k : Nat, k < n ∧ q = pl k) ∨ (∀ k : Nat, k < n → q ≠ pl k) := by
  by_cases h : ∃ k : Nat, k < n ∧ q = pl k
  · exact Or.inl h
  · exact Or.inr (fun k hk e => h ⟨k, hk, e⟩)
theorem mrg_set {α : Type} {pl : Nat → Nat} {S C : Nat → Nat → α} {n k i : Nat} {v : α} (hi : injN pl n) (hk : k < n) : upd2 (mrg pl n S C) (pl k) i v = mrg pl n S (upd2 C k i v) := by
  funext q
  rcases mrg_cases (pl := pl) n q with ⟨j, hj, rfl⟩ | hq
  · rw [mrg_at hi hj]
    by_cases z : j = k
    · subst z
      funext w
      rw [upd2_same, upd2_same, mrg_at hi hj]
    · rw [upd2_ne (fun e => z (hi j k hj hk e)), upd2_ne z, mrg_at hi hj]
  · rw [mrg_off hq, upd2_ne (hq k hk), mrg_off hq]
theorem mrg_id {α : Type} {pl : Nat → Nat} {S : Nat → Nat → α} {n : Nat} (hi : injN pl n) : mrg pl n S (fun k => S (pl k)) = S := by
  funext q
  rcases mrg_cases (pl := pl) n q with ⟨j, hj, rfl⟩ | hq
  · rw [mrg_at hi hj]
  · rw [mrg_off hq]
theorem mrg_comp {α : Type} {pl π : Nat → Nat} {S C D : Nat → Nat → α} {n n' : Nat} (hi : injN pl n) (hp : injN π n') (hn : ∀ k : Nat, k < n' → π k < n) : mrg (fun k => pl (π k)) n' (mrg pl n S C) D = mrg pl n S (mrg π n' C D) := by
  funext q
  have hip : injN (fun k => pl (π k)) n' := fun i j h1 h2 e => hp i j h1 h2 (hi _ _ (hn i h1) (hn j h2) e)
  rcases mrg_cases (pl := fun k => pl (π k)) n' q with ⟨j, hj, rfl⟩ | hq
  · rw [mrg_at hip hj]
    show D j = mrg pl n S (mrg π n' C D) (pl (π j))
    rw [mrg_at hi (hn j hj), mrg_at hp hj]
  · rw [mrg_off hq]
    rcases mrg_cases (pl := pl) n q with ⟨j, hj, rfl⟩ | hq2
    · rw [mrg_at hi hj, mrg_at hi hj, mrg_off (fun k hk e => hq k hk (by rw [e]))]
    · rw [mrg_off hq2, mrg_off hq2]
theorem mrg_congr {α : Type} {pl : Nat → Nat} {S C D : Nat → Nat → α} {n : Nat} (hi : injN pl n) (h : ∀ k : Nat, k < n → C k = D k) : mrg pl n S C = mrg pl n S D := by
  funext q
  rcases mrg_cases (pl := pl) n q with ⟨j, hj, rfl⟩ | hq
  · rw [mrg_at hi hj, mrg_at hi hj, h j hj]
  · rw [mrg_off hq, mrg_off hq]
/-- a layout: of each place its shape, and which place each of its references names -/
abbrev LY : Type := List ((Nat × Nat) × List (Nat × Nat))
def LayOK (ly : LY) (pl : Nat → Nat) (h : PH) : Prop := injN pl ly.length ∧ ∀ (k : Nat) (e : (Nat × Nat) × List (Nat × Nat)), ly[k]? = some e → h.2.1 (pl k) = some e.1 ∧ ∀ j t : Nat, e.2.lookup j = some t → h.2.2.1 (pl k) j = .ref (pl t)
def layMap (ly ly' : LY) (π : Nat → Nat) : Bool :=
  (List.range ly'.length).all (fun k => match ly[π k]?, ly'[k]? with
    | some e, some e' => decide (e.1 = e'.1) && e'.2.all (fun q => decide (e.2.lookup q.1 = some (π q.2)))
    | _, _ => false) &&
  (List.range ly'.length).all (fun i => decide (π i < ly.length) && (List.range ly'.length).all (fun j => decide (i = j) || decide (π i ≠ π j)))
theorem lookup_mem {l : List (Nat × Nat)} {j t : Nat} (h : l.lookup j = some t) : (j, t) ∈ l := by
  induction l with
  | nil => cases h
  | cons a l ih =>
    obtain ⟨x, y⟩ := a
    rw [List.lookup_cons] at h
    by_cases z : j == x
    · simp only [z] at h
      have : j = x := by simpa using z
      subst this
      cases h
      exact List.mem_cons_self
    · simp only [z] at h
      exact List.mem_cons_of_mem _ (ih h)
theorem layMap_spec {ly ly' : LY} {π : Nat → Nat} (h : layMap ly ly' π = true) : injN π ly'.length ∧ (∀ k : Nat, k < ly'.length → π k < ly.length) ∧ ∀ (k : Nat) (e' : (Nat × Nat) × List (Nat × Nat)), ly'[k]? = some e' → ∃ e, ly[π k]? = some e ∧ e.1 = e'.1 ∧ ∀ j t : Nat, e'.2.lookup j = some t → e.2.lookup j = some (π t) := by
  unfold layMap at h
  simp only [Bool.and_eq_true, List.all_eq_true, List.mem_range] at h
  obtain ⟨h1, h2⟩ := h
  refine ⟨fun i j hi hj e => ?_, fun k hk => by simpa using (h2 k hk).1, fun k e' hk => ?_⟩
  · have := (h2 i hi).2 j hj
    simp only [Bool.or_eq_true, decide_eq_true_eq] at this
    rcases this with z | z
    · exact z
    · exact absurd e z
  · have hl : k < ly'.length := (List.getElem?_eq_some_iff.mp hk).1
    have h3 := h1 k hl
    rw [hk] at h3
    cases hp : ly[π k]? with
    | none => rw [hp] at h3; cases h3
    | some e =>
      rw [hp] at h3
      simp only [Bool.and_eq_true, decide_eq_true_eq, List.all_eq_true] at h3
      exact ⟨e, rfl, h3.1, fun j t ht => h3.2 (j, t) (lookup_mem ht)⟩
theorem LayOK.sub {ly ly' : LY} {pl : Nat → Nat} {h : PH} {π : Nat → Nat} (H : LayOK ly pl h) (hm : layMap ly ly' π = true) : LayOK ly' (fun k => pl (π k)) h := by
  obtain ⟨m1, m2, m3⟩ := layMap_spec hm
  refine ⟨fun i j hi hj e => m1 i j hi hj (H.1 _ _ (m2 i hi) (m2 j hj) e), fun k e' hk => ?_⟩
  obtain ⟨e, g1, g2, g3⟩ := m3 k e' hk
  obtain ⟨w1, w2⟩ := H.2 _ e g1
  exact ⟨by rw [w1, g2], fun j t ht => w2 j (π t) (g3 j t ht)⟩
/-- the heap h0, but at the places of pl what s holds -/
def LH (pl : Nat → Nat) (n : Nat) (h0 : PH) (s : SS) : PH := (h0.1, h0.2.1, h0.2.2.1, mrg pl n h0.2.2.2.1 s.1, mrg pl n h0.2.2.2.2 s.2)
def selS (π : Nat → Nat) (s : SS) : SS := (fun k => s.1 (π k), fun k => s.2 (π k))
def mrgS (π : Nat → Nat) (n : Nat) (s t : SS) : SS := (mrg π n s.1 t.1, mrg π n s.2 t.2)
def wrI (s : SS) (k i : Nat) (v : Int32) : SS := (upd2 s.1 k i v, s.2)
def wrL (s : SS) (k i : Nat) (v : Int64) : SS := (s.1, upd2 s.2 k i v)
theorem LH_id {pl : Nat → Nat} {n : Nat} {h : PH} (hi : injN pl n) : LH pl n h (fun k => h.2.2.2.1 (pl k), fun k => h.2.2.2.2 (pl k)) = h := by
  unfold LH
  simp only [mrg_id hi]
theorem LH_wrI {pl : Nat → Nat} {n : Nat} {h0 : PH} {s : SS} {k i : Nat} {v : Int32} (hi : injN pl n) (hk : k < n) : LH pl n h0 (wrI s k i v) = (h0.1, h0.2.1, h0.2.2.1, upd2 (LH pl n h0 s).2.2.2.1 (pl k) i v, (LH pl n h0 s).2.2.2.2) := by
  unfold LH wrI
  simp only [mrg_set hi hk]
theorem LH_wrL {pl : Nat → Nat} {n : Nat} {h0 : PH} {s : SS} {k i : Nat} {v : Int64} (hi : injN pl n) (hk : k < n) : LH pl n h0 (wrL s k i v) = (h0.1, h0.2.1, h0.2.2.1, (LH pl n h0 s).2.2.2.1, upd2 (LH pl n h0 s).2.2.2.2 (pl k) i v) := by
  unfold LH wrL
  simp only [mrg_set hi hk]
theorem LH_call {pl π : Nat → Nat} {n n' : Nat} {h0 : PH} {s t : SS} (hi : injN pl n) (hp : injN π n') (hn : ∀ k : Nat, k < n' → π k < n) : LH (fun k => pl (π k)) n' (LH pl n h0 s) t = LH pl n h0 (mrgS π n' s t) := by
  unfold LH mrgS
  simp only [mrg_comp hi hp hn]
theorem LH_sel {pl π : Nat → Nat} {n n' : Nat} {h0 : PH} {s : SS} (hi : injN pl n) (hp : injN π n') (hn : ∀ k : Nat, k < n' → π k < n) : LH (fun k => pl (π k)) n' (LH pl n h0 s) (selS π s) = LH pl n h0 s := by
  have hip : injN (fun k => pl (π k)) n' := fun i j h1 h2 e => hp i j h1 h2 (hi _ _ (hn i h1) (hn j h2) e)
  have e1 := LH_id (n := n') (h := LH pl n h0 s) hip
  refine Eq.trans ?_ e1
  unfold LH selS
  congr 4
  · exact mrg_congr hip (fun k hk => (mrg_at hi (hn k hk)).symm)
  · exact mrg_congr hip (fun k hk => (mrg_at hi (hn k hk)).symm)
def Qf {ρ : Type} (rv : ρ → Option Value) (pl : Nat → Nat) (n : Nat) (h0 : PH) (r : ρ) (s' : SS) : Option Value → PH → Prop := fun v h' => v = rv r ∧ h' = LH pl n h0 s'
/-- where f ends with r and s', the machine returns r and the heap holds s' -/
def EvF (G : GG) (d : Nat) (M : MI) (ly : LY) (pl : Nat → Nat) (h0 : PH) {ρ : Type} (rv : ρ → Option Value) (f : Option (ρ × SS)) (pc : Nat) (lv : List (Nat × Value)) (st : List Value) (s : SS) : Prop :=
  LayOK ly pl h0 → ∀ (r : ρ) (s' : SS), f = some (r, s') → Ev G d M 0 0 (Qf rv pl ly.length h0 r s') 0 0 pc lv st (LH pl ly.length h0 s)
/-- a method's contract by its function -/
def MtF (d : Nat) (M : MI) (ly : LY) {ρ : Type} (rv : ρ → Option Value) (av : (Nat → Nat) → List Value) (f : SS → Option (ρ × SS)) : Prop :=
  ∀ (pl : Nat → Nat) (h0 : PH), LayOK ly pl h0 → ∀ (s : SS) (r : ρ) (s' : SS), f s = some (r, s') → Mt d M 0 0 (av pl) (LH pl ly.length h0 s) (Qf rv pl ly.length h0 r s')
def rvU (_ : Unit) : Option Value := none
def rvI (x : Int32) : Option Value := some (.int x)
def rvL (x : Int64) : Option Value := some (.long x)
theorem MtF.of {d : Nat} {M : MI} {ly : LY} {ρ : Type} {rv : ρ → Option Value} {av : (Nat → Nat) → List Value} {f : SS → Option (ρ × SS)} (hpl : plainName (myM M).cls = true) (ho : moM M = (myM M).cls) (hl : ∀ pl : Nat → Nat, (lg_sl (av pl)).length ≤ mlM M)
    (body : ∀ (G : GG) (pl : Nat → Nat) (h0 : PH) (s : SS), EvF G d M ly pl h0 rv (f s) 0 (lv_args 0 (av pl)) [] s) : MtF d M ly rv av f := by
  intro pl h0 hL s r s' hf
  exact Mt.of hpl ho (hl pl) (fun G => body G pl h0 s hL r s' hf)
section EVF
variable {G : GG} {d : Nat} {M : MI} {ly : LY} {pl : Nat → Nat} {h0 : PH} {ρ : Type} {rv : ρ → Option Value} {f : Option (ρ × SS)} {pc : Nat} {lv : List (Nat × Value)} {rest : List Value} {s : SS}
theorem LayOK.LH {s : SS} {n : Nat} (H : LayOK ly pl h0) : LayOK ly pl (LH pl n h0 s) := H
theorem LayOK.sh {k : Nat} {e : (Nat × Nat) × List (Nat × Nat)} (H : LayOK ly pl h0) (he : ly[k]? = some e) : h0.2.1 (pl k) = some e.1 := (H.2 k e he).1
theorem LayOK.lt {k : Nat} {e : (Nat × Nat) × List (Nat × Nat)} (he : ly[k]? = some e) : k < ly.length := (List.getElem?_eq_some_iff.mp he).1
theorem ef_getI {q idx ci j k m0 : Nat} {rs : List (Nat × Nat)} {x : Int32} (he : ly[k]? = some ((ci, m0), rs)) (hF : FL M idx ci j) (hr : isRf (ftyG ci j) = false) (hx : s.1 k j = x) (hdg : decode (mbM M) pc = .ok (.getfield idx, 3)) (hq : pc + 3 = q) (kk : EvF G d M ly pl h0 rv f q lv (.int x :: rest) s) : EvF G d M ly pl h0 rv f pc lv (.ref (pl k) :: rest) s := fun H r s' hf => by
  subst hq
  refine ev_getf (H.sh he) hF ?_ hdg (kk H r s' hf)
  unfold fvalG
  rw [if_neg (by rw [hr]; decide)]
  show Value.int (mrg pl ly.length h0.2.2.2.1 s.1 (pl k) j) = _
  rw [mrg_at H.1 (LayOK.lt he), hx]
theorem ef_getR {q idx ci j k m0 t : Nat} {rs : List (Nat × Nat)} (he : ly[k]? = some ((ci, m0), rs)) (hF : FL M idx ci j) (hr : isRf (ftyG ci j) = true) (ht : rs.lookup j = some t) (hdg : decode (mbM M) pc = .ok (.getfield idx, 3)) (hq : pc + 3 = q) (kk : EvF G d M ly pl h0 rv f q lv (.ref (pl t) :: rest) s) : EvF G d M ly pl h0 rv f pc lv (.ref (pl k) :: rest) s := fun H r s' hf => by
  subst hq
  refine ev_getf (H.sh he) hF ?_ hdg (kk H r s' hf)
  unfold fvalG
  rw [if_pos hr]
  exact (H.2 k _ he).2 j t ht
theorem ef_putI {q idx ci j k m0 : Nat} {rs : List (Nat × Nat)} {x : Int32} (he : ly[k]? = some ((ci, m0), rs)) (hF : FL M idx ci j) (hfin : (TXG ci j).2.2.2 = false) (hty : ftyG ci j = .int) (hdg : decode (mbM M) pc = .ok (.putfield idx, 3)) (hq : pc + 3 = q) (kk : EvF G d M ly pl h0 rv f q lv rest (wrI s k j x)) : EvF G d M ly pl h0 rv f pc lv (.int x :: .ref (pl k) :: rest) s := fun H r s' hf => by
  subst hq
  have h1 := kk H r s' hf
  rw [LH_wrI H.1 (LayOK.lt he)] at h1
  exact ev_putI (H.sh he) hF hfin (by rw [hty]; rfl) (by rw [hty]; rfl) (by rw [hty]; rfl) hdg h1
theorem ef_putZ {q idx ci j k m0 : Nat} {rs : List (Nat × Nat)} {x : Int32} (he : ly[k]? = some ((ci, m0), rs)) (hF : FL M idx ci j) (hfin : (TXG ci j).2.2.2 = false) (hty : ftyG ci j = .boolean) (hn : narrow .boolean (.int x) = .int x) (hfit : fits .boolean (.int x) = true) (hdg : decode (mbM M) pc = .ok (.putfield idx, 3)) (hq : pc + 3 = q) (kk : EvF G d M ly pl h0 rv f q lv rest (wrI s k j x)) : EvF G d M ly pl h0 rv f pc lv (.int x :: .ref (pl k) :: rest) s := fun H r s' hf => by
  subst hq
  have h1 := kk H r s' hf
  rw [LH_wrI H.1 (LayOK.lt he)] at h1
  exact ev_putI (H.sh he) hF hfin (by rw [hty]; rfl) (by rw [hty]; exact hn) (by rw [hty]; exact hfit) hdg h1
/-- an index within a row of n -/
abbrev ixB (i : Int32) (n : Nat) : Prop := ¬ (i < 0 ∨ n ≤ i.toNatClampNeg)
theorem ixB_lt {i : Int32} {n : Nat} (h : ixB i n) : i.toNatClampNeg < n := Nat.not_le.mp fun q => h (Or.inr q)
theorem ef_iaload {q k n : Nat} {rs : List (Nat × Nat)} {i x : Int32} (he : ly[k]? = some ((10, n), rs)) (hi : ixB i n) (hdg : decode (mbM M) pc = .ok (.iaload, 1)) (hx : s.1 k i.toNatClampNeg = x) (hq : pc + 1 = q) (kk : EvF G d M ly pl h0 rv f q lv (.int x :: rest) s) : EvF G d M ly pl h0 rv f pc lv (.int i :: .ref (pl k) :: rest) s := fun H r s' hf => by
  subst hq
  refine ev_iaload (H.sh he) hi hdg ?_
  have e : (LH pl ly.length h0 s).2.2.2.1 (pl k) i.toNatClampNeg = x := by
    show mrg pl ly.length h0.2.2.2.1 s.1 (pl k) i.toNatClampNeg = _
    rw [mrg_at H.1 (LayOK.lt he), hx]
  rw [e]
  exact kk H r s' hf
theorem ef_laload {q k n : Nat} {rs : List (Nat × Nat)} {i : Int32} {x : Int64} (he : ly[k]? = some ((11, n), rs)) (hi : ixB i n) (hdg : decode (mbM M) pc = .ok (.laload, 1)) (hx : s.2 k i.toNatClampNeg = x) (hq : pc + 1 = q) (kk : EvF G d M ly pl h0 rv f q lv (.long x :: rest) s) : EvF G d M ly pl h0 rv f pc lv (.int i :: .ref (pl k) :: rest) s := fun H r s' hf => by
  subst hq
  refine ev_laload (H.sh he) hi hdg ?_
  have e : (LH pl ly.length h0 s).2.2.2.2 (pl k) i.toNatClampNeg = x := by
    show mrg pl ly.length h0.2.2.2.2 s.2 (pl k) i.toNatClampNeg = _
    rw [mrg_at H.1 (LayOK.lt he), hx]
  rw [e]
  exact kk H r s' hf
theorem ef_aaload {q k n t t0 : Nat} {rs : List (Nat × Nat)} {tf : Nat → Nat} {i : Int32} (he : ly[k]? = some ((t, n), rs)) (h12 : 12 ≤ t) (htf : ∀ j : Nat, j < n → rs.lookup j = some (tf j)) (hi : ixB i n) (hdg : decode (mbM M) pc = .ok (.aaload, 1)) (ht : tf i.toNatClampNeg = t0) (hq : pc + 1 = q) (kk : EvF G d M ly pl h0 rv f q lv (.ref (pl t0) :: rest) s) : EvF G d M ly pl h0 rv f pc lv (.int i :: .ref (pl k) :: rest) s := fun H r s' hf => by
  subst hq
  subst ht
  exact ev_aaload (H.sh he) h12 hi ((H.2 k _ he).2 _ _ (htf _ (ixB_lt hi))) hdg (kk H r s' hf)
theorem ef_iastore {q k n j : Nat} {rs : List (Nat × Nat)} {i x : Int32} (he : ly[k]? = some ((10, n), rs)) (hi : ixB i n) (hdg : decode (mbM M) pc = .ok (.iastore, 1)) (hj : i.toNatClampNeg = j) (hq : pc + 1 = q) (kk : EvF G d M ly pl h0 rv f q lv rest (wrI s k j x)) : EvF G d M ly pl h0 rv f pc lv (.int x :: .int i :: .ref (pl k) :: rest) s := fun H r s' hf => by
  subst hq
  subst hj
  have h1 := kk H r s' hf
  rw [LH_wrI H.1 (LayOK.lt he)] at h1
  exact ev_iastore (H.sh he) hi hdg h1
theorem ef_lastore {q k n j : Nat} {rs : List (Nat × Nat)} {i : Int32} {x : Int64} (he : ly[k]? = some ((11, n), rs)) (hi : ixB i n) (hdg : decode (mbM M) pc = .ok (.lastore, 1)) (hj : i.toNatClampNeg = j) (hq : pc + 1 = q) (kk : EvF G d M ly pl h0 rv f q lv rest (wrL s k j x)) : EvF G d M ly pl h0 rv f pc lv (.long x :: .int i :: .ref (pl k) :: rest) s := fun H r s' hf => by
  subst hq
  subst hj
  have h1 := kk H r s' hf
  rw [LH_wrL H.1 (LayOK.lt he)] at h1
  exact ev_lastore (H.sh he) hi hdg h1
theorem ef_alenI {q k n : Nat} {rs : List (Nat × Nat)} {v : Int32} (he : ly[k]? = some ((10, n), rs)) (hv : Int32.ofNat n = v) (hdg : decode (mbM M) pc = .ok (.arraylength, 1)) (hq : pc + 1 = q) (kk : EvF G d M ly pl h0 rv f q lv (.int v :: rest) s) : EvF G d M ly pl h0 rv f pc lv (.ref (pl k) :: rest) s := fun H r s' hf => by
  subst hq
  exact ev_alenI (H.sh he) hv hdg (kk H r s' hf)
/-- f's guard: an index is within, a divisor isn't 0 -/
theorem ef_guard {c : Prop} [Decidable c] {A : Option (ρ × SS)} {st : List Value} (kk : c → EvF G d M ly pl h0 rv A pc lv st s) : EvF G d M ly pl h0 rv (if c then A else none) pc lv st s := fun H r s' hf => by
  by_cases z : c
  · rw [if_pos z] at hf
    exact kk z H r s' hf
  · rw [if_neg z] at hf
    cases hf
theorem ef_if {c : Prop} [Decidable c] {A B : Option (ρ × SS)} {pt pf : Nat} {st0 st : List Value} (rule : ∀ (r : ρ) (s' : SS), (c → Ev G d M 0 0 (Qf rv pl ly.length h0 r s') 0 0 pt lv st (LH pl ly.length h0 s)) → (¬ c → Ev G d M 0 0 (Qf rv pl ly.length h0 r s') 0 0 pf lv st (LH pl ly.length h0 s)) → Ev G d M 0 0 (Qf rv pl ly.length h0 r s') 0 0 pc lv st0 (LH pl ly.length h0 s))
    (kt : c → EvF G d M ly pl h0 rv A pt lv st s) (kf : ¬ c → EvF G d M ly pl h0 rv B pf lv st s) : EvF G d M ly pl h0 rv (if c then A else B) pc lv st0 s := fun H r s' hf =>
  rule r s' (fun z => kt z H r s' (by rw [if_pos z] at hf; exact hf)) (fun z => kf z H r s' (by rw [if_neg z] at hf; exact hf))
theorem ef_eq {g : Option (ρ × SS)} {st : List Value} (e : f = g) (kk : EvF G d M ly pl h0 rv g pc lv st s) : EvF G d M ly pl h0 rv f pc lv st s := e ▸ kk
theorem ef_st {s1 : SS} {st : List Value} (e : s = s1) (kk : EvF G d M ly pl h0 rv f pc lv st s1) : EvF G d M ly pl h0 rv f pc lv st s := e ▸ kk
/-- calls: f binds the callee's function -/
theorem ef_invVI {N : MI} {q idx d' ci n k m0 : Nat} {π : Nat → Nat} {ly' : LY} {As st : List Value} {av : (Nat → Nat) → List Value} {fc : SS → Option (Int32 × SS)} {A : Int32 × SS → Option (ρ × SS)} {rs : List (Nat × Nat)} {rest : List Value} {nn : Nat} (hM : MtF d' N ly' rvI av fc) (hm : layMap ly ly' π = true) (ha : av (fun k => pl (π k)) = .ref (pl k) :: As) (hC : CalV N ci n) (hlk : Cond.methodLink (moM M) idx (myM N) ∈ TT) (hd : d' + 1 ≤ d) (he : ly[k]? = some ((ci, m0), rs)) (hst : st = As.reverse ++ .ref (pl k) :: rest) (hn : As.length = n) (hW : (rest.map fun v => v.category).sum ≤ 8) (hdg : decode (mbM M) pc = .ok (.invokevirtual idx, 3)) (hq : pc + 3 = q) (hnn : ly'.length = nn)
    (kk : ∀ x : Int32 × SS, EvF G d M ly pl h0 rv (A x) q lv (.int x.1 :: rest) (mrgS π nn s x.2)) : EvF G d M ly pl h0 rv ((fc (selS π s)).bind A) pc lv st s := fun H r s' hf => by
  subst hq
  obtain ⟨⟨r1, t1⟩, g1, g2⟩ := Option.bind_eq_some_iff.mp hf
  subst hnn
  obtain ⟨m1, m2, -⟩ := layMap_spec hm
  have hMt := hM (fun k => pl (π k)) (LH pl ly.length h0 s) ((H.LH).sub hm) (selS π s) r1 t1 g1
  rw [LH_sel H.1 m1 m2, ha] at hMt
  refine ev_invV (mc' := 0) (ms' := 0) hMt hC hlk hd (H.sh he) hst hn hW (Nat.le_refl 0) (Nat.le_refl 0) hdg (fun v h' hq => ?_)
  obtain ⟨e1, e2⟩ := hq
  subst e1
  subst e2
  rw [LH_call H.1 m1 m2]
  exact kk (r1, t1) H r s' g2
theorem ef_invVI0 {N : MI} {q idx d' ci n k m0 : Nat} {π : Nat → Nat} {ly' : LY} {As st : List Value} {av : (Nat → Nat) → List Value} {fc : SS → Option (Int32 × SS)} {A : Int32 × SS → Option (ρ × SS)} {rs : List (Nat × Nat)} {rest : List Value} (hM : MtF d' N ly rvI av fc) (ha : av pl = .ref (pl k) :: As) (hC : CalV N ci n) (hlk : Cond.methodLink (moM M) idx (myM N) ∈ TT) (hd : d' + 1 ≤ d) (he : ly[k]? = some ((ci, m0), rs)) (hst : st = As.reverse ++ .ref (pl k) :: rest) (hn : As.length = n) (hW : (rest.map fun v => v.category).sum ≤ 8) (hdg : decode (mbM M) pc = .ok (.invokevirtual idx, 3)) (hq : pc + 3 = q)
    (kk : ∀ x : Int32 × SS, EvF G d M ly pl h0 rv (A x) q lv (.int x.1 :: rest) (x.2)) : EvF G d M ly pl h0 rv ((fc s).bind A) pc lv st s := fun H r s' hf => by
  subst hq
  obtain ⟨⟨r1, t1⟩, g1, g2⟩ := Option.bind_eq_some_iff.mp hf
  have hMt := hM pl h0 H s r1 t1 g1
  rw [ha] at hMt
  refine ev_invV (mc' := 0) (ms' := 0) hMt hC hlk hd (H.sh he) hst hn hW (Nat.le_refl 0) (Nat.le_refl 0) hdg (fun v h' hq => ?_)
  obtain ⟨e1, e2⟩ := hq
  subst e1
  subst e2
  exact kk (r1, t1) H r s' g2
theorem ef_invSI {N : MI} {q idx d' ci n k m0 : Nat} {π : Nat → Nat} {ly' : LY} {As st : List Value} {av : (Nat → Nat) → List Value} {fc : SS → Option (Int32 × SS)} {A : Int32 × SS → Option (ρ × SS)} {rs : List (Nat × Nat)} {rest : List Value} {nn : Nat} (hM : MtF d' N ly' rvI av fc) (hm : layMap ly ly' π = true) (ha : av (fun k => pl (π k)) = As) (hC : CalS N n) (hlk : Cond.methodLink (moM M) idx (myM N) ∈ TT) (hd : d' + 1 ≤ d) (hst : st = As.reverse ++ rest) (hn : As.length = n) (hW : (rest.map fun v => v.category).sum ≤ 8) (hdg : decode (mbM M) pc = .ok (.invokestatic idx, 3)) (hq : pc + 3 = q) (hnn : ly'.length = nn)
    (kk : ∀ x : Int32 × SS, EvF G d M ly pl h0 rv (A x) q lv (.int x.1 :: rest) (mrgS π nn s x.2)) : EvF G d M ly pl h0 rv ((fc (selS π s)).bind A) pc lv st s := fun H r s' hf => by
  subst hq
  obtain ⟨⟨r1, t1⟩, g1, g2⟩ := Option.bind_eq_some_iff.mp hf
  subst hnn
  obtain ⟨m1, m2, -⟩ := layMap_spec hm
  have hMt := hM (fun k => pl (π k)) (LH pl ly.length h0 s) ((H.LH).sub hm) (selS π s) r1 t1 g1
  rw [LH_sel H.1 m1 m2, ha] at hMt
  refine ev_invS (mc' := 0) (ms' := 0) hMt hC hlk hd hst hn hW (Nat.le_refl 0) (Nat.le_refl 0) hdg (fun v h' hq => ?_)
  obtain ⟨e1, e2⟩ := hq
  subst e1
  subst e2
  rw [LH_call H.1 m1 m2]
  exact kk (r1, t1) H r s' g2
theorem ef_invSI0 {N : MI} {q idx d' ci n k m0 : Nat} {π : Nat → Nat} {ly' : LY} {As st : List Value} {av : (Nat → Nat) → List Value} {fc : SS → Option (Int32 × SS)} {A : Int32 × SS → Option (ρ × SS)} {rs : List (Nat × Nat)} {rest : List Value} (hM : MtF d' N ly rvI av fc) (ha : av pl = As) (hC : CalS N n) (hlk : Cond.methodLink (moM M) idx (myM N) ∈ TT) (hd : d' + 1 ≤ d) (hst : st = As.reverse ++ rest) (hn : As.length = n) (hW : (rest.map fun v => v.category).sum ≤ 8) (hdg : decode (mbM M) pc = .ok (.invokestatic idx, 3)) (hq : pc + 3 = q)
    (kk : ∀ x : Int32 × SS, EvF G d M ly pl h0 rv (A x) q lv (.int x.1 :: rest) (x.2)) : EvF G d M ly pl h0 rv ((fc s).bind A) pc lv st s := fun H r s' hf => by
  subst hq
  obtain ⟨⟨r1, t1⟩, g1, g2⟩ := Option.bind_eq_some_iff.mp hf
  have hMt := hM pl h0 H s r1 t1 g1
  rw [ha] at hMt
  refine ev_invS (mc' := 0) (ms' := 0) hMt hC hlk hd hst hn hW (Nat.le_refl 0) (Nat.le_refl 0) hdg (fun v h' hq => ?_)
  obtain ⟨e1, e2⟩ := hq
  subst e1
  subst e2
  exact kk (r1, t1) H r s' g2
theorem ef_invPI0 {N : MI} {q idx d' ci n k m0 : Nat} {π : Nat → Nat} {ly' : LY} {As st : List Value} {av : (Nat → Nat) → List Value} {fc : SS → Option (Int32 × SS)} {A : Int32 × SS → Option (ρ × SS)} {rs : List (Nat × Nat)} {rest : List Value} (hM : MtF d' N [] rvI av fc) (ha : av pl = As) (hC : CalS N n) (hlk : Cond.methodLink (moM M) idx (myM N) ∈ TT) (hd : d' + 1 ≤ d) (hst : st = As.reverse ++ rest) (hn : As.length = n) (hW : (rest.map fun v => v.category).sum ≤ 8) (hdg : decode (mbM M) pc = .ok (.invokestatic idx, 3)) (hq : pc + 3 = q)
    (kk : ∀ x : Int32 × SS, EvF G d M ly pl h0 rv (A x) q lv (.int x.1 :: rest) (s)) : EvF G d M ly pl h0 rv ((fc s).bind A) pc lv st s := fun H r s' hf => by
  subst hq
  obtain ⟨⟨r1, t1⟩, g1, g2⟩ := Option.bind_eq_some_iff.mp hf
  have hMt : Mt d' N 0 0 (av pl) (LH pl ly.length h0 s) (Qf rvI pl 0 (LH pl ly.length h0 s) r1 t1) := hM pl (LH pl ly.length h0 s) ⟨fun i j hi => absurd hi (Nat.not_lt_zero i), fun k e hk => by simp at hk⟩ s r1 t1 g1
  rw [ha] at hMt
  refine ev_invS (mc' := 0) (ms' := 0) hMt hC hlk hd hst hn hW (Nat.le_refl 0) (Nat.le_refl 0) hdg (fun v h' hq => ?_)
  obtain ⟨e1, e2⟩ := hq
  subst e1
  subst e2
  exact kk (r1, t1) H r s' g2
theorem ef_invVU {N : MI} {q idx d' ci n k m0 : Nat} {π : Nat → Nat} {ly' : LY} {As st : List Value} {av : (Nat → Nat) → List Value} {fc : SS → Option (Unit × SS)} {A : Unit × SS → Option (ρ × SS)} {rs : List (Nat × Nat)} {rest : List Value} {nn : Nat} (hM : MtF d' N ly' rvU av fc) (hm : layMap ly ly' π = true) (ha : av (fun k => pl (π k)) = .ref (pl k) :: As) (hC : CalV N ci n) (hlk : Cond.methodLink (moM M) idx (myM N) ∈ TT) (hd : d' + 1 ≤ d) (he : ly[k]? = some ((ci, m0), rs)) (hst : st = As.reverse ++ .ref (pl k) :: rest) (hn : As.length = n) (hW : (rest.map fun v => v.category).sum ≤ 8) (hdg : decode (mbM M) pc = .ok (.invokevirtual idx, 3)) (hq : pc + 3 = q) (hnn : ly'.length = nn)
    (kk : ∀ x : Unit × SS, EvF G d M ly pl h0 rv (A x) q lv (rest) (mrgS π nn s x.2)) : EvF G d M ly pl h0 rv ((fc (selS π s)).bind A) pc lv st s := fun H r s' hf => by
  subst hq
  obtain ⟨⟨r1, t1⟩, g1, g2⟩ := Option.bind_eq_some_iff.mp hf
  subst hnn
  obtain ⟨m1, m2, -⟩ := layMap_spec hm
  have hMt := hM (fun k => pl (π k)) (LH pl ly.length h0 s) ((H.LH).sub hm) (selS π s) r1 t1 g1
  rw [LH_sel H.1 m1 m2, ha] at hMt
  refine ev_invV (mc' := 0) (ms' := 0) hMt hC hlk hd (H.sh he) hst hn hW (Nat.le_refl 0) (Nat.le_refl 0) hdg (fun v h' hq => ?_)
  obtain ⟨e1, e2⟩ := hq
  subst e1
  subst e2
  rw [LH_call H.1 m1 m2]
  exact kk (r1, t1) H r s' g2
theorem ef_invVU0 {N : MI} {q idx d' ci n k m0 : Nat} {π : Nat → Nat} {ly' : LY} {As st : List Value} {av : (Nat → Nat) → List Value} {fc : SS → Option (Unit × SS)} {A : Unit × SS → Option (ρ × SS)} {rs : List (Nat × Nat)} {rest : List Value} (hM : MtF d' N ly rvU av fc) (ha : av pl = .ref (pl k) :: As) (hC : CalV N ci n) (hlk : Cond.methodLink (moM M) idx (myM N) ∈ TT) (hd : d' + 1 ≤ d) (he : ly[k]? = some ((ci, m0), rs)) (hst : st = As.reverse ++ .ref (pl k) :: rest) (hn : As.length = n) (hW : (rest.map fun v => v.category).sum ≤ 8) (hdg : decode (mbM M) pc = .ok (.invokevirtual idx, 3)) (hq : pc + 3 = q)
    (kk : ∀ x : Unit × SS, EvF G d M ly pl h0 rv (A x) q lv (rest) (x.2)) : EvF G d M ly pl h0 rv ((fc s).bind A) pc lv st s := fun H r s' hf => by
  subst hq
  obtain ⟨⟨r1, t1⟩, g1, g2⟩ := Option.bind_eq_some_iff.mp hf
  have hMt := hM pl h0 H s r1 t1 g1
  rw [ha] at hMt
  refine ev_invV (mc' := 0) (ms' := 0) hMt hC hlk hd (H.sh he) hst hn hW (Nat.le_refl 0) (Nat.le_refl 0) hdg (fun v h' hq => ?_)
  obtain ⟨e1, e2⟩ := hq
  subst e1
  subst e2
  exact kk (r1, t1) H r s' g2
theorem ef_invSU {N : MI} {q idx d' ci n k m0 : Nat} {π : Nat → Nat} {ly' : LY} {As st : List Value} {av : (Nat → Nat) → List Value} {fc : SS → Option (Unit × SS)} {A : Unit × SS → Option (ρ × SS)} {rs : List (Nat × Nat)} {rest : List Value} {nn : Nat} (hM : MtF d' N ly' rvU av fc) (hm : layMap ly ly' π = true) (ha : av (fun k => pl (π k)) = As) (hC : CalS N n) (hlk : Cond.methodLink (moM M) idx (myM N) ∈ TT) (hd : d' + 1 ≤ d) (hst : st = As.reverse ++ rest) (hn : As.length = n) (hW : (rest.map fun v => v.category).sum ≤ 8) (hdg : decode (mbM M) pc = .ok (.invokestatic idx, 3)) (hq : pc + 3 = q) (hnn : ly'.length = nn)
    (kk : ∀ x : Unit × SS, EvF G d M ly pl h0 rv (A x) q lv (rest) (mrgS π nn s x.2)) : EvF G d M ly pl h0 rv ((fc (selS π s)).bind A) pc lv st s := fun H r s' hf => by
  subst hq
  obtain ⟨⟨r1, t1⟩, g1, g2⟩ := Option.bind_eq_some_iff.mp hf
  subst hnn
  obtain ⟨m1, m2, -⟩ := layMap_spec hm
  have hMt := hM (fun k => pl (π k)) (LH pl ly.length h0 s) ((H.LH).sub hm) (selS π s) r1 t1 g1
  rw [LH_sel H.1 m1 m2, ha] at hMt
  refine ev_invS (mc' := 0) (ms' := 0) hMt hC hlk hd hst hn hW (Nat.le_refl 0) (Nat.le_refl 0) hdg (fun v h' hq => ?_)
  obtain ⟨e1, e2⟩ := hq
  subst e1
  subst e2
  rw [LH_call H.1 m1 m2]
  exact kk (r1, t1) H r s' g2
theorem ef_invSU0 {N : MI} {q idx d' ci n k m0 : Nat} {π : Nat → Nat} {ly' : LY} {As st : List Value} {av : (Nat → Nat) → List Value} {fc : SS → Option (Unit × SS)} {A : Unit × SS → Option (ρ × SS)} {rs : List (Nat × Nat)} {rest : List Value} (hM : MtF d' N ly rvU av fc) (ha : av pl = As) (hC : CalS N n) (hlk : Cond.methodLink (moM M) idx (myM N) ∈ TT) (hd : d' + 1 ≤ d) (hst : st = As.reverse ++ rest) (hn : As.length = n) (hW : (rest.map fun v => v.category).sum ≤ 8) (hdg : decode (mbM M) pc = .ok (.invokestatic idx, 3)) (hq : pc + 3 = q)
    (kk : ∀ x : Unit × SS, EvF G d M ly pl h0 rv (A x) q lv (rest) (x.2)) : EvF G d M ly pl h0 rv ((fc s).bind A) pc lv st s := fun H r s' hf => by
  subst hq
  obtain ⟨⟨r1, t1⟩, g1, g2⟩ := Option.bind_eq_some_iff.mp hf
  have hMt := hM pl h0 H s r1 t1 g1
  rw [ha] at hMt
  refine ev_invS (mc' := 0) (ms' := 0) hMt hC hlk hd hst hn hW (Nat.le_refl 0) (Nat.le_refl 0) hdg (fun v h' hq => ?_)
  obtain ⟨e1, e2⟩ := hq
  subst e1
  subst e2
  exact kk (r1, t1) H r s' g2
theorem ef_invPU0 {N : MI} {q idx d' ci n k m0 : Nat} {π : Nat → Nat} {ly' : LY} {As st : List Value} {av : (Nat → Nat) → List Value} {fc : SS → Option (Unit × SS)} {A : Unit × SS → Option (ρ × SS)} {rs : List (Nat × Nat)} {rest : List Value} (hM : MtF d' N [] rvU av fc) (ha : av pl = As) (hC : CalS N n) (hlk : Cond.methodLink (moM M) idx (myM N) ∈ TT) (hd : d' + 1 ≤ d) (hst : st = As.reverse ++ rest) (hn : As.length = n) (hW : (rest.map fun v => v.category).sum ≤ 8) (hdg : decode (mbM M) pc = .ok (.invokestatic idx, 3)) (hq : pc + 3 = q)
    (kk : ∀ x : Unit × SS, EvF G d M ly pl h0 rv (A x) q lv (rest) (s)) : EvF G d M ly pl h0 rv ((fc s).bind A) pc lv st s := fun H r s' hf => by
  subst hq
  obtain ⟨⟨r1, t1⟩, g1, g2⟩ := Option.bind_eq_some_iff.mp hf
  have hMt : Mt d' N 0 0 (av pl) (LH pl ly.length h0 s) (Qf rvU pl 0 (LH pl ly.length h0 s) r1 t1) := hM pl (LH pl ly.length h0 s) ⟨fun i j hi => absurd hi (Nat.not_lt_zero i), fun k e hk => by simp at hk⟩ s r1 t1 g1
  rw [ha] at hMt
  refine ev_invS (mc' := 0) (ms' := 0) hMt hC hlk hd hst hn hW (Nat.le_refl 0) (Nat.le_refl 0) hdg (fun v h' hq => ?_)
  obtain ⟨e1, e2⟩ := hq
  subst e1
  subst e2
  exact kk (r1, t1) H r s' g2
theorem ef_invVL {N : MI} {q idx d' ci n k m0 : Nat} {π : Nat → Nat} {ly' : LY} {As st : List Value} {av : (Nat → Nat) → List Value} {fc : SS → Option (Int64 × SS)} {A : Int64 × SS → Option (ρ × SS)} {rs : List (Nat × Nat)} {rest : List Value} {nn : Nat} (hM : MtF d' N ly' rvL av fc) (hm : layMap ly ly' π = true) (ha : av (fun k => pl (π k)) = .ref (pl k) :: As) (hC : CalV N ci n) (hlk : Cond.methodLink (moM M) idx (myM N) ∈ TT) (hd : d' + 1 ≤ d) (he : ly[k]? = some ((ci, m0), rs)) (hst : st = As.reverse ++ .ref (pl k) :: rest) (hn : As.length = n) (hW : (rest.map fun v => v.category).sum ≤ 8) (hdg : decode (mbM M) pc = .ok (.invokevirtual idx, 3)) (hq : pc + 3 = q) (hnn : ly'.length = nn)
    (kk : ∀ x : Int64 × SS, EvF G d M ly pl h0 rv (A x) q lv (.long x.1 :: rest) (mrgS π nn s x.2)) : EvF G d M ly pl h0 rv ((fc (selS π s)).bind A) pc lv st s := fun H r s' hf => by
  subst hq
  obtain ⟨⟨r1, t1⟩, g1, g2⟩ := Option.bind_eq_some_iff.mp hf
  subst hnn
  obtain ⟨m1, m2, -⟩ := layMap_spec hm
  have hMt := hM (fun k => pl (π k)) (LH pl ly.length h0 s) ((H.LH).sub hm) (selS π s) r1 t1 g1
  rw [LH_sel H.1 m1 m2, ha] at hMt
  refine ev_invV (mc' := 0) (ms' := 0) hMt hC hlk hd (H.sh he) hst hn hW (Nat.le_refl 0) (Nat.le_refl 0) hdg (fun v h' hq => ?_)
  obtain ⟨e1, e2⟩ := hq
  subst e1
  subst e2
  rw [LH_call H.1 m1 m2]
  exact kk (r1, t1) H r s' g2
theorem ef_invVL0 {N : MI} {q idx d' ci n k m0 : Nat} {π : Nat → Nat} {ly' : LY} {As st : List Value} {av : (Nat → Nat) → List Value} {fc : SS → Option (Int64 × SS)} {A : Int64 × SS → Option (ρ × SS)} {rs : List (Nat × Nat)} {rest : List Value} (hM : MtF d' N ly rvL av fc) (ha : av pl = .ref (pl k) :: As) (hC : CalV N ci n) (hlk : Cond.methodLink (moM M) idx (myM N) ∈ TT) (hd : d' + 1 ≤ d) (he : ly[k]? = some ((ci, m0), rs)) (hst : st = As.reverse ++ .ref (pl k) :: rest) (hn : As.length = n) (hW : (rest.map fun v => v.category).sum ≤ 8) (hdg : decode (mbM M) pc = .ok (.invokevirtual idx, 3)) (hq : pc + 3 = q)
    (kk : ∀ x : Int64 × SS, EvF G d M ly pl h0 rv (A x) q lv (.long x.1 :: rest) (x.2)) : EvF G d M ly pl h0 rv ((fc s).bind A) pc lv st s := fun H r s' hf => by
  subst hq
  obtain ⟨⟨r1, t1⟩, g1, g2⟩ := Option.bind_eq_some_iff.mp hf
  have hMt := hM pl h0 H s r1 t1 g1
  rw [ha] at hMt
  refine ev_invV (mc' := 0) (ms' := 0) hMt hC hlk hd (H.sh he) hst hn hW (Nat.le_refl 0) (Nat.le_refl 0) hdg (fun v h' hq => ?_)
  obtain ⟨e1, e2⟩ := hq
  subst e1
  subst e2
  exact kk (r1, t1) H r s' g2
theorem ef_invSL {N : MI} {q idx d' ci n k m0 : Nat} {π : Nat → Nat} {ly' : LY} {As st : List Value} {av : (Nat → Nat) → List Value} {fc : SS → Option (Int64 × SS)} {A : Int64 × SS → Option (ρ × SS)} {rs : List (Nat × Nat)} {rest : List Value} {nn : Nat} (hM : MtF d' N ly' rvL av fc) (hm : layMap ly ly' π = true) (ha : av (fun k => pl (π k)) = As) (hC : CalS N n) (hlk : Cond.methodLink (moM M) idx (myM N) ∈ TT) (hd : d' + 1 ≤ d) (hst : st = As.reverse ++ rest) (hn : As.length = n) (hW : (rest.map fun v => v.category).sum ≤ 8) (hdg : decode (mbM M) pc = .ok (.invokestatic idx, 3)) (hq : pc + 3 = q) (hnn : ly'.length = nn)
    (kk : ∀ x : Int64 × SS, EvF G d M ly pl h0 rv (A x) q lv (.long x.1 :: rest) (mrgS π nn s x.2)) : EvF G d M ly pl h0 rv ((fc (selS π s)).bind A) pc lv st s := fun H r s' hf => by
  subst hq
  obtain ⟨⟨r1, t1⟩, g1, g2⟩ := Option.bind_eq_some_iff.mp hf
  subst hnn
  obtain ⟨m1, m2, -⟩ := layMap_spec hm
  have hMt := hM (fun k => pl (π k)) (LH pl ly.length h0 s) ((H.LH).sub hm) (selS π s) r1 t1 g1
  rw [LH_sel H.1 m1 m2, ha] at hMt
  refine ev_invS (mc' := 0) (ms' := 0) hMt hC hlk hd hst hn hW (Nat.le_refl 0) (Nat.le_refl 0) hdg (fun v h' hq => ?_)
  obtain ⟨e1, e2⟩ := hq
  subst e1
  subst e2
  rw [LH_call H.1 m1 m2]
  exact kk (r1, t1) H r s' g2
theorem ef_invSL0 {N : MI} {q idx d' ci n k m0 : Nat} {π : Nat → Nat} {ly' : LY} {As st : List Value} {av : (Nat → Nat) → List Value} {fc : SS → Option (Int64 × SS)} {A : Int64 × SS → Option (ρ × SS)} {rs : List (Nat × Nat)} {rest : List Value} (hM : MtF d' N ly rvL av fc) (ha : av pl = As) (hC : CalS N n) (hlk : Cond.methodLink (moM M) idx (myM N) ∈ TT) (hd : d' + 1 ≤ d) (hst : st = As.reverse ++ rest) (hn : As.length = n) (hW : (rest.map fun v => v.category).sum ≤ 8) (hdg : decode (mbM M) pc = .ok (.invokestatic idx, 3)) (hq : pc + 3 = q)
    (kk : ∀ x : Int64 × SS, EvF G d M ly pl h0 rv (A x) q lv (.long x.1 :: rest) (x.2)) : EvF G d M ly pl h0 rv ((fc s).bind A) pc lv st s := fun H r s' hf => by
  subst hq
  obtain ⟨⟨r1, t1⟩, g1, g2⟩ := Option.bind_eq_some_iff.mp hf
  have hMt := hM pl h0 H s r1 t1 g1
  rw [ha] at hMt
  refine ev_invS (mc' := 0) (ms' := 0) hMt hC hlk hd hst hn hW (Nat.le_refl 0) (Nat.le_refl 0) hdg (fun v h' hq => ?_)
  obtain ⟨e1, e2⟩ := hq
  subst e1
  subst e2
  exact kk (r1, t1) H r s' g2
theorem ef_invPL0 {N : MI} {q idx d' ci n k m0 : Nat} {π : Nat → Nat} {ly' : LY} {As st : List Value} {av : (Nat → Nat) → List Value} {fc : SS → Option (Int64 × SS)} {A : Int64 × SS → Option (ρ × SS)} {rs : List (Nat × Nat)} {rest : List Value} (hM : MtF d' N [] rvL av fc) (ha : av pl = As) (hC : CalS N n) (hlk : Cond.methodLink (moM M) idx (myM N) ∈ TT) (hd : d' + 1 ≤ d) (hst : st = As.reverse ++ rest) (hn : As.length = n) (hW : (rest.map fun v => v.category).sum ≤ 8) (hdg : decode (mbM M) pc = .ok (.invokestatic idx, 3)) (hq : pc + 3 = q)
    (kk : ∀ x : Int64 × SS, EvF G d M ly pl h0 rv (A x) q lv (.long x.1 :: rest) (s)) : EvF G d M ly pl h0 rv ((fc s).bind A) pc lv st s := fun H r s' hf => by
  subst hq
  obtain ⟨⟨r1, t1⟩, g1, g2⟩ := Option.bind_eq_some_iff.mp hf
  have hMt : Mt d' N 0 0 (av pl) (LH pl ly.length h0 s) (Qf rvL pl 0 (LH pl ly.length h0 s) r1 t1) := hM pl (LH pl ly.length h0 s) ⟨fun i j hi => absurd hi (Nat.not_lt_zero i), fun k e hk => by simp at hk⟩ s r1 t1 g1
  rw [ha] at hMt
  refine ev_invS (mc' := 0) (ms' := 0) hMt hC hlk hd hst hn hW (Nat.le_refl 0) (Nat.le_refl 0) hdg (fun v h' hq => ?_)
  obtain ⟨e1, e2⟩ := hq
  subst e1
  subst e2
  exact kk (r1, t1) H r s' g2
/-- the ends -/
theorem ef_iret {x : Int32} (hr : mrM M = some .int) (hdg : decode (mbM M) pc = .ok (.ireturn, 1)) : EvF G d M ly pl h0 rvI (some (x, s)) pc lv [.int x] s := fun H r s' hf => by
  cases hf
  exact ev_iret hr ⟨rfl, rfl⟩ (Nat.le_refl 0) (Nat.le_refl 0) hdg
theorem ef_zret {x : Int32} (hr : mrM M = some .boolean) (hdg : decode (mbM M) pc = .ok (.ireturn, 1)) : EvF G d M ly pl h0 rvI (some (nbZ x, s)) pc lv [.int x] s := fun H r s' hf => by
  cases hf
  exact ev_zret hr ⟨rfl, rfl⟩ (Nat.le_refl 0) (Nat.le_refl 0) hdg
theorem ef_zretc {x : Int32} (hx : nbZ x = x) (hr : mrM M = some .boolean) (hdg : decode (mbM M) pc = .ok (.ireturn, 1)) : EvF G d M ly pl h0 rvI (some (x, s)) pc lv [.int x] s := fun H r s' hf => by
  cases hf
  exact ev_zret hr ⟨by rw [hx]; rfl, rfl⟩ (Nat.le_refl 0) (Nat.le_refl 0) hdg
theorem ef_dec {c : Prop} [Decidable c] {A B : Option (ρ × SS)} {st : List Value} (kt : c → EvF G d M ly pl h0 rv A pc lv st s) (kf : ¬ c → EvF G d M ly pl h0 rv B pc lv st s) : EvF G d M ly pl h0 rv (if c then A else B) pc lv st s := fun H r s' hf => by
  by_cases z : c
  · exact kt z H r s' (by rw [if_pos z] at hf; exact hf)
  · exact kf z H r s' (by rw [if_neg z] at hf; exact hf)
theorem ne_toI {x c : Int32} {k : Int} (h : ¬ x = c) (hc : c.toInt = k) : x.toInt ≠ k := fun e => h (Int32.toInt_inj.mp (e.trans hc.symm))
theorem ef_lret {x : Int64} (hr : mrM M = some .long) (hdg : decode (mbM M) pc = .ok (.lreturn, 1)) : EvF G d M ly pl h0 rvL (some (x, s)) pc lv [.long x] s := fun H r s' hf => by
  cases hf
  exact ev_lret hr ⟨rfl, rfl⟩ (Nat.le_refl 0) (Nat.le_refl 0) hdg
theorem ef_vret (hr : mrM M = none) (hdg : decode (mbM M) pc = .ok (.return_, 1)) : EvF G d M ly pl h0 rvU (some ((), s)) pc lv [] s := fun H r s' hf => by
  cases hf
  exact ev_vret hr ⟨rfl, rfl⟩ (Nat.le_refl 0) (Nat.le_refl 0) hdg
theorem ef_none {st : List Value} : EvF G d M ly pl h0 rv none pc lv st s := fun H r s' hf => by cases hf
/-- a straight instruction's rule, lifted -/
theorem ef_of {pc2 : Nat} {lv2 : List (Nat × Value)} {st st2 : List Value} (rule : ∀ (r : ρ) (s' : SS), Ev G d M 0 0 (Qf rv pl ly.length h0 r s') 0 0 pc2 lv2 st2 (LH pl ly.length h0 s) → Ev G d M 0 0 (Qf rv pl ly.length h0 r s') 0 0 pc lv st (LH pl ly.length h0 s)) (kk : EvF G d M ly pl h0 rv f pc2 lv2 st2 s) : EvF G d M ly pl h0 rv f pc lv st s := fun H r s' hf => rule r s' (kk H r s' hf)
end EVF
section EFL
variable {G : GG} {d : Nat} {M : MI} {ly : LY} {pl : Nat → Nat} {h0 : PH} {ρ : Type} {rv : ρ → Option Value} {f : Option (ρ × SS)} {pc : Nat} {lv : List (Nat × Value)} {rest : List Value} {s : SS}
theorem ef_iconst {q : Nat} {n : Int} {v : Int32} (hdg : decode (mbM M) pc = .ok (.iconst n, 1)) (hv : Int32.ofInt n = v) (hq : pc + 1 = q) (kk : EvF G d M ly pl h0 rv f q lv (.int v :: rest) s) : EvF G d M ly pl h0 rv f pc lv (rest) s := fun H r s' hf => by subst hq; exact ev_iconst hdg hv (kk H r s' hf)
theorem ef_bipush {q : Nat} {n : Int} {v : Int32} (hdg : decode (mbM M) pc = .ok (.bipush n, 2)) (hv : (Int8.ofInt n).toInt32 = v) (hq : pc + 2 = q) (kk : EvF G d M ly pl h0 rv f q lv (.int v :: rest) s) : EvF G d M ly pl h0 rv f pc lv (rest) s := fun H r s' hf => by subst hq; exact ev_bipush hdg hv (kk H r s' hf)
theorem ef_sipush {q : Nat} {n : Int} {v : Int32} (hdg : decode (mbM M) pc = .ok (.sipush n, 3)) (hv : (Int16.ofInt n).toInt32 = v) (hq : pc + 3 = q) (kk : EvF G d M ly pl h0 rv f q lv (.int v :: rest) s) : EvF G d M ly pl h0 rv f pc lv (rest) s := fun H r s' hf => by subst hq; exact ev_sipush hdg hv (kk H r s' hf)
theorem ef_lconst {q : Nat} {n : Fin 2} {v : Int64} (hdg : decode (mbM M) pc = .ok (.lconst n, 1)) (hv : Int64.ofNat (n : Nat) = v) (hq : pc + 1 = q) (kk : EvF G d M ly pl h0 rv f q lv (.long v :: rest) s) : EvF G d M ly pl h0 rv f pc lv (rest) s := fun H r s' hf => by subst hq; exact ev_lconst hdg hv (kk H r s' hf)
theorem ef_iadd {q : Nat} {x y : Int32} (hdg : decode (mbM M) pc = .ok (.iadd, 1)) (hq : pc + 1 = q) (kk : EvF G d M ly pl h0 rv f q lv (.int (x + y) :: rest) s) : EvF G d M ly pl h0 rv f pc lv (.int y :: .int x :: rest) s := fun H r s' hf => by subst hq; exact ev_iadd hdg (kk H r s' hf)
theorem ef_isub {q : Nat} {x y : Int32} (hdg : decode (mbM M) pc = .ok (.isub, 1)) (hq : pc + 1 = q) (kk : EvF G d M ly pl h0 rv f q lv (.int (x - y) :: rest) s) : EvF G d M ly pl h0 rv f pc lv (.int y :: .int x :: rest) s := fun H r s' hf => by subst hq; exact ev_isub hdg (kk H r s' hf)
theorem ef_imul {q : Nat} {x y : Int32} (hdg : decode (mbM M) pc = .ok (.imul, 1)) (hq : pc + 1 = q) (kk : EvF G d M ly pl h0 rv f q lv (.int (x * y) :: rest) s) : EvF G d M ly pl h0 rv f pc lv (.int y :: .int x :: rest) s := fun H r s' hf => by subst hq; exact ev_imul hdg (kk H r s' hf)
theorem ef_idiv {q : Nat} {x y : Int32} (hdg : decode (mbM M) pc = .ok (.idiv, 1)) (hne : ¬ y = 0) (hq : pc + 1 = q) (kk : EvF G d M ly pl h0 rv f q lv (.int (x / y) :: rest) s) : EvF G d M ly pl h0 rv f pc lv (.int y :: .int x :: rest) s := fun H r s' hf => by subst hq; exact ev_idiv hdg hne (kk H r s' hf)
theorem ef_irem {q : Nat} {x y : Int32} (hdg : decode (mbM M) pc = .ok (.irem, 1)) (hne : ¬ y = 0) (hq : pc + 1 = q) (kk : EvF G d M ly pl h0 rv f q lv (.int (x - x / y * y) :: rest) s) : EvF G d M ly pl h0 rv f pc lv (.int y :: .int x :: rest) s := fun H r s' hf => by subst hq; exact ev_irem hdg hne (kk H r s' hf)
theorem ef_ineg {q : Nat} {x : Int32} (hdg : decode (mbM M) pc = .ok (.ineg, 1)) (hq : pc + 1 = q) (kk : EvF G d M ly pl h0 rv f q lv (.int (-x) :: rest) s) : EvF G d M ly pl h0 rv f pc lv (.int x :: rest) s := fun H r s' hf => by subst hq; exact ev_ineg hdg (kk H r s' hf)
theorem ef_iand {q : Nat} {x y : Int32} (hdg : decode (mbM M) pc = .ok (.iand, 1)) (hq : pc + 1 = q) (kk : EvF G d M ly pl h0 rv f q lv (.int (x &&& y) :: rest) s) : EvF G d M ly pl h0 rv f pc lv (.int y :: .int x :: rest) s := fun H r s' hf => by subst hq; exact ev_iand hdg (kk H r s' hf)
theorem ef_ior {q : Nat} {x y : Int32} (hdg : decode (mbM M) pc = .ok (.ior, 1)) (hq : pc + 1 = q) (kk : EvF G d M ly pl h0 rv f q lv (.int (x ||| y) :: rest) s) : EvF G d M ly pl h0 rv f pc lv (.int y :: .int x :: rest) s := fun H r s' hf => by subst hq; exact ev_ior hdg (kk H r s' hf)
theorem ef_ixor {q : Nat} {x y : Int32} (hdg : decode (mbM M) pc = .ok (.ixor, 1)) (hq : pc + 1 = q) (kk : EvF G d M ly pl h0 rv f q lv (.int (x ^^^ y) :: rest) s) : EvF G d M ly pl h0 rv f pc lv (.int y :: .int x :: rest) s := fun H r s' hf => by subst hq; exact ev_ixor hdg (kk H r s' hf)
theorem ef_ishl {q : Nat} {x y : Int32} (hdg : decode (mbM M) pc = .ok (.ishl, 1)) (hq : pc + 1 = q) (kk : EvF G d M ly pl h0 rv f q lv (.int (x <<< (y &&& 31)) :: rest) s) : EvF G d M ly pl h0 rv f pc lv (.int y :: .int x :: rest) s := fun H r s' hf => by subst hq; exact ev_ishl hdg (kk H r s' hf)
theorem ef_ishr {q : Nat} {x y : Int32} (hdg : decode (mbM M) pc = .ok (.ishr, 1)) (hq : pc + 1 = q) (kk : EvF G d M ly pl h0 rv f q lv (.int (x >>> (y &&& 31)) :: rest) s) : EvF G d M ly pl h0 rv f pc lv (.int y :: .int x :: rest) s := fun H r s' hf => by subst hq; exact ev_ishr hdg (kk H r s' hf)
theorem ef_iushr {q : Nat} {x y v : Int32} (hdg : decode (mbM M) pc = .ok (.iushr, 1)) (hv : (x.toUInt32 >>> (y.toUInt32 &&& Int32.toUInt32 31)).toInt32 = v) (hq : pc + 1 = q) (kk : EvF G d M ly pl h0 rv f q lv (.int v :: rest) s) : EvF G d M ly pl h0 rv f pc lv (.int y :: .int x :: rest) s := fun H r s' hf => by subst hq; exact ev_iushr hdg hv (kk H r s' hf)
theorem ef_ladd {q : Nat} {x y : Int64} (hdg : decode (mbM M) pc = .ok (.ladd, 1)) (hq : pc + 1 = q) (kk : EvF G d M ly pl h0 rv f q lv (.long (x + y) :: rest) s) : EvF G d M ly pl h0 rv f pc lv (.long y :: .long x :: rest) s := fun H r s' hf => by subst hq; exact ev_ladd hdg (kk H r s' hf)
theorem ef_lsub {q : Nat} {x y : Int64} (hdg : decode (mbM M) pc = .ok (.lsub, 1)) (hq : pc + 1 = q) (kk : EvF G d M ly pl h0 rv f q lv (.long (x - y) :: rest) s) : EvF G d M ly pl h0 rv f pc lv (.long y :: .long x :: rest) s := fun H r s' hf => by subst hq; exact ev_lsub hdg (kk H r s' hf)
theorem ef_lmul {q : Nat} {x y : Int64} (hdg : decode (mbM M) pc = .ok (.lmul, 1)) (hq : pc + 1 = q) (kk : EvF G d M ly pl h0 rv f q lv (.long (x * y) :: rest) s) : EvF G d M ly pl h0 rv f pc lv (.long y :: .long x :: rest) s := fun H r s' hf => by subst hq; exact ev_lmul hdg (kk H r s' hf)
theorem ef_land {q : Nat} {x y : Int64} (hdg : decode (mbM M) pc = .ok (.land, 1)) (hq : pc + 1 = q) (kk : EvF G d M ly pl h0 rv f q lv (.long (x &&& y) :: rest) s) : EvF G d M ly pl h0 rv f pc lv (.long y :: .long x :: rest) s := fun H r s' hf => by subst hq; exact ev_land hdg (kk H r s' hf)
theorem ef_lor {q : Nat} {x y : Int64} (hdg : decode (mbM M) pc = .ok (.lor, 1)) (hq : pc + 1 = q) (kk : EvF G d M ly pl h0 rv f q lv (.long (x ||| y) :: rest) s) : EvF G d M ly pl h0 rv f pc lv (.long y :: .long x :: rest) s := fun H r s' hf => by subst hq; exact ev_lor hdg (kk H r s' hf)
theorem ef_lshl {q : Nat} {x v : Int64} {y : Int32} (hdg : decode (mbM M) pc = .ok (.lshl, 1)) (hv : x <<< (y.toInt64 &&& 63) = v) (hq : pc + 1 = q) (kk : EvF G d M ly pl h0 rv f q lv (.long v :: rest) s) : EvF G d M ly pl h0 rv f pc lv (.int y :: .long x :: rest) s := fun H r s' hf => by subst hq; exact ev_lshl hdg hv (kk H r s' hf)
theorem ef_i2l {q : Nat} {x : Int32} {v : Int64} (hdg : decode (mbM M) pc = .ok (.i2l, 1)) (hv : x.toInt64 = v) (hq : pc + 1 = q) (kk : EvF G d M ly pl h0 rv f q lv (.long v :: rest) s) : EvF G d M ly pl h0 rv f pc lv (.int x :: rest) s := fun H r s' hf => by subst hq; exact ev_i2l hdg hv (kk H r s' hf)
theorem ef_l2i {q : Nat} {x : Int64} {v : Int32} (hdg : decode (mbM M) pc = .ok (.l2i, 1)) (hv : x.toInt32 = v) (hq : pc + 1 = q) (kk : EvF G d M ly pl h0 rv f q lv (.int v :: rest) s) : EvF G d M ly pl h0 rv f pc lv (.long x :: rest) s := fun H r s' hf => by subst hq; exact ev_l2i hdg hv (kk H r s' hf)
theorem ef_i2b {q : Nat} {x : Int32} {v : Int32} (hdg : decode (mbM M) pc = .ok (.i2b, 1)) (hv : x.toInt8.toInt32 = v) (hq : pc + 1 = q) (kk : EvF G d M ly pl h0 rv f q lv (.int v :: rest) s) : EvF G d M ly pl h0 rv f pc lv (.int x :: rest) s := fun H r s' hf => by subst hq; exact ev_i2b hdg hv (kk H r s' hf)
theorem ef_i2s {q : Nat} {x : Int32} {v : Int32} (hdg : decode (mbM M) pc = .ok (.i2s, 1)) (hv : x.toInt16.toInt32 = v) (hq : pc + 1 = q) (kk : EvF G d M ly pl h0 rv f q lv (.int v :: rest) s) : EvF G d M ly pl h0 rv f pc lv (.int x :: rest) s := fun H r s' hf => by subst hq; exact ev_i2s hdg hv (kk H r s' hf)
theorem ef_dup {q : Nat} {va : Value} (hdg : decode (mbM M) pc = .ok (.dup, 1)) (hva : va.category = 1) (hq : pc + 1 = q) (kk : EvF G d M ly pl h0 rv f q lv (va :: va :: rest) s) : EvF G d M ly pl h0 rv f pc lv (va :: rest) s := fun H r s' hf => by subst hq; exact ev_dup hdg hva (kk H r s' hf)
theorem ef_pop {q : Nat} {va : Value} (hdg : decode (mbM M) pc = .ok (.pop, 1)) (hva : va.category = 1) (hq : pc + 1 = q) (kk : EvF G d M ly pl h0 rv f q lv (rest) s) : EvF G d M ly pl h0 rv f pc lv (va :: rest) s := fun H r s' hf => by subst hq; exact ev_pop hdg hva (kk H r s' hf)
theorem ef_dup_x1 {q : Nat} {va vb : Value} (hdg : decode (mbM M) pc = .ok (.dup_x1, 1)) (hva : va.category = 1) (hvb : vb.category = 1) (hq : pc + 1 = q) (kk : EvF G d M ly pl h0 rv f q lv (va :: vb :: va :: rest) s) : EvF G d M ly pl h0 rv f pc lv (va :: vb :: rest) s := fun H r s' hf => by subst hq; exact ev_dup_x1 hdg hva hvb (kk H r s' hf)
theorem ef_dup_x2 {q : Nat} {va vb vd : Value} (hdg : decode (mbM M) pc = .ok (.dup_x2, 1)) (hva : va.category = 1) (hvb : vb.category = 1) (hvd : vd.category = 1) (hq : pc + 1 = q) (kk : EvF G d M ly pl h0 rv f q lv (va :: vb :: vd :: va :: rest) s) : EvF G d M ly pl h0 rv f pc lv (va :: vb :: vd :: rest) s := fun H r s' hf => by subst hq; exact ev_dup_x2 hdg hva hvb hvd (kk H r s' hf)
theorem ef_dup2_11 {q : Nat} {va vb : Value} (hdg : decode (mbM M) pc = .ok (.dup2, 1)) (hva : va.category = 1) (hvb : vb.category = 1) (hq : pc + 1 = q) (kk : EvF G d M ly pl h0 rv f q lv (va :: vb :: va :: vb :: rest) s) : EvF G d M ly pl h0 rv f pc lv (va :: vb :: rest) s := fun H r s' hf => by subst hq; exact ev_dup2_11 hdg hva hvb (kk H r s' hf)
theorem ef_goto {off : Int} {tgt : Nat} (hdg : decode (mbM M) pc = .ok (.goto off, 3)) (ht : (pc : Int) + off = (tgt : Int)) (kk : EvF G d M ly pl h0 rv f tgt lv rest s) : EvF G d M ly pl h0 rv f pc lv rest s := fun H r s' hf => ev_goto hdg ht (kk H r s' hf)
theorem ef_iload_n {q : Nat} {k : Fin 4} {i : Nat} {x : Int32} (j : Nat) (hdg : decode (mbM M) pc = .ok (.iload_n k, 1)) (hi : (k : Nat) = i) (hj : lv[j]? = some (i, .int x)) (hq : pc + 1 = q) (kk : EvF G d M ly pl h0 rv f q lv (.int x :: rest) s) : EvF G d M ly pl h0 rv f pc lv rest s := fun H r s' hf => by subst hq; exact ev_iload_n j hdg hi hj (kk H r s' hf)
theorem ef_iload {q : Nat} {i : Nat} {x : Int32} (j : Nat) (hdg : decode (mbM M) pc = .ok (.iload i, 2)) (hj : lv[j]? = some (i, .int x)) (hq : pc + 2 = q) (kk : EvF G d M ly pl h0 rv f q lv (.int x :: rest) s) : EvF G d M ly pl h0 rv f pc lv rest s := fun H r s' hf => by subst hq; exact ev_iload j hdg hj (kk H r s' hf)
theorem ef_lload_n {q : Nat} {k : Fin 4} {i : Nat} {x : Int64} (j : Nat) (hdg : decode (mbM M) pc = .ok (.lload_n k, 1)) (hi : (k : Nat) = i) (hj : lv[j]? = some (i, .long x)) (hq : pc + 1 = q) (kk : EvF G d M ly pl h0 rv f q lv (.long x :: rest) s) : EvF G d M ly pl h0 rv f pc lv rest s := fun H r s' hf => by subst hq; exact ev_lload_n j hdg hi hj (kk H r s' hf)
theorem ef_lload {q : Nat} {i : Nat} {x : Int64} (j : Nat) (hdg : decode (mbM M) pc = .ok (.lload i, 2)) (hj : lv[j]? = some (i, .long x)) (hq : pc + 2 = q) (kk : EvF G d M ly pl h0 rv f q lv (.long x :: rest) s) : EvF G d M ly pl h0 rv f pc lv rest s := fun H r s' hf => by subst hq; exact ev_lload j hdg hj (kk H r s' hf)
theorem ef_aload_n {q : Nat} {k : Fin 4} {i x : Nat} (j : Nat) (hdg : decode (mbM M) pc = .ok (.aload_n k, 1)) (hi : (k : Nat) = i) (hj : lv[j]? = some (i, .ref x)) (hq : pc + 1 = q) (kk : EvF G d M ly pl h0 rv f q lv (.ref x :: rest) s) : EvF G d M ly pl h0 rv f pc lv rest s := fun H r s' hf => by subst hq; exact ev_aload_n j hdg hi hj (kk H r s' hf)
theorem ef_aload {q : Nat} {i x : Nat} (j : Nat) (hdg : decode (mbM M) pc = .ok (.aload i, 2)) (hj : lv[j]? = some (i, .ref x)) (hq : pc + 2 = q) (kk : EvF G d M ly pl h0 rv f q lv (.ref x :: rest) s) : EvF G d M ly pl h0 rv f pc lv rest s := fun H r s' hf => by subst hq; exact ev_aload j hdg hj (kk H r s' hf)
theorem ef_istore_n {q : Nat} {k : Fin 4} {i : Nat} {x : Int32} {lv' : List (Nat × Value)} (hdg : decode (mbM M) pc = .ok (.istore_n k, 1)) (hi : (k : Nat) = i) (hn : i < mlM M) (hl' : (i, Value.int x) :: lv.filter (fun q => !(q.1 == i) && !(q.1 + 1 == i && q.2.category == 2)) = lv') (hq : pc + 1 = q) (kk : EvF G d M ly pl h0 rv f q lv' rest s) : EvF G d M ly pl h0 rv f pc lv (.int x :: rest) s := fun H r s' hf => by subst hq; exact ev_istore_n hdg hi hn hl' (kk H r s' hf)
theorem ef_istore {q : Nat} {i : Nat} {x : Int32} {lv' : List (Nat × Value)} (hdg : decode (mbM M) pc = .ok (.istore i, 2)) (hn : i < mlM M) (hl' : (i, Value.int x) :: lv.filter (fun q => !(q.1 == i) && !(q.1 + 1 == i && q.2.category == 2)) = lv') (hq : pc + 2 = q) (kk : EvF G d M ly pl h0 rv f q lv' rest s) : EvF G d M ly pl h0 rv f pc lv (.int x :: rest) s := fun H r s' hf => by subst hq; exact ev_istore hdg hn hl' (kk H r s' hf)
theorem ef_lstore_n {q : Nat} {k : Fin 4} {i : Nat} {x : Int64} {lv' : List (Nat × Value)} (hdg : decode (mbM M) pc = .ok (.lstore_n k, 1)) (hi : (k : Nat) = i) (hn : i + 1 < mlM M) (hl' : (i, Value.long x) :: lv.filter (fun q => !(q.1 == i) && (!(q.1 == i + 1) && !(q.1 + 1 == i && q.2.category == 2))) = lv') (hq : pc + 1 = q) (kk : EvF G d M ly pl h0 rv f q lv' rest s) : EvF G d M ly pl h0 rv f pc lv (.long x :: rest) s := fun H r s' hf => by subst hq; exact ev_lstore_n hdg hi hn hl' (kk H r s' hf)
theorem ef_lstore {q : Nat} {i : Nat} {x : Int64} {lv' : List (Nat × Value)} (hdg : decode (mbM M) pc = .ok (.lstore i, 2)) (hn : i + 1 < mlM M) (hl' : (i, Value.long x) :: lv.filter (fun q => !(q.1 == i) && (!(q.1 == i + 1) && !(q.1 + 1 == i && q.2.category == 2))) = lv') (hq : pc + 2 = q) (kk : EvF G d M ly pl h0 rv f q lv' rest s) : EvF G d M ly pl h0 rv f pc lv (.long x :: rest) s := fun H r s' hf => by subst hq; exact ev_lstore hdg hn hl' (kk H r s' hf)
theorem ef_astore_n {q : Nat} {k : Fin 4} {i x : Nat} {lv' : List (Nat × Value)} (hdg : decode (mbM M) pc = .ok (.astore_n k, 1)) (hi : (k : Nat) = i) (hn : i < mlM M) (hl' : (i, Value.ref x) :: lv.filter (fun q => !(q.1 == i) && !(q.1 + 1 == i && q.2.category == 2)) = lv') (hq : pc + 1 = q) (kk : EvF G d M ly pl h0 rv f q lv' rest s) : EvF G d M ly pl h0 rv f pc lv (.ref x :: rest) s := fun H r s' hf => by subst hq; exact ev_astore_n hdg hi hn hl' (kk H r s' hf)
theorem ef_astore {q : Nat} {i x : Nat} {lv' : List (Nat × Value)} (hdg : decode (mbM M) pc = .ok (.astore i, 2)) (hn : i < mlM M) (hl' : (i, Value.ref x) :: lv.filter (fun q => !(q.1 == i) && !(q.1 + 1 == i && q.2.category == 2)) = lv') (hq : pc + 2 = q) (kk : EvF G d M ly pl h0 rv f q lv' rest s) : EvF G d M ly pl h0 rv f pc lv (.ref x :: rest) s := fun H r s' hf => by subst hq; exact ev_astore hdg hn hl' (kk H r s' hf)
theorem ef_iinc {q : Nat} {i : Nat} {n : Int} {x v : Int32} {lv' : List (Nat × Value)} (j : Nat) (hdg : decode (mbM M) pc = .ok (.iinc i n, 3)) (hj : lv[j]? = some (i, .int x)) (hv : x + Int32.ofInt n = v) (hn : i < mlM M) (hl' : (i, Value.int v) :: lv.filter (fun q => !(q.1 == i) && !(q.1 + 1 == i && q.2.category == 2)) = lv') (hq : pc + 3 = q) (kk : EvF G d M ly pl h0 rv f q lv' rest s) : EvF G d M ly pl h0 rv f pc lv rest s := fun H r s' hf => by subst hq; exact ev_iinc j hdg hj hv hn hl' (kk H r s' hf)
theorem ef_sub {lv' : List (Nat × Value)} (js : List Nat) (hj : lv_pick lv js = lv') (kk : EvF G d M ly pl h0 rv f pc lv' rest s) : EvF G d M ly pl h0 rv f pc lv rest s := fun H r s' hf => ev_sub js hj (kk H r s' hf)
theorem ef_lcmp {q : Nat} {x y : Int64} (hdg : decode (mbM M) pc = .ok (.lcmp, 1)) (hq : pc + 1 = q) (kk : EvF G d M ly pl h0 rv f q lv (.int (lg_cmp x y) :: rest) s) : EvF G d M ly pl h0 rv f pc lv (.long y :: .long x :: rest) s := fun H r s' hf => by subst hq; exact ev_lcmp hdg (kk H r s' hf)
theorem ef_ldc {q : Nat} {index : Nat} {v : Int32} (hc : Cond.constant (moM M) index v ∈ TT) (hdg : decode (mbM M) pc = .ok (.ldc index, 2)) (hq : pc + 2 = q) (kk : EvF G d M ly pl h0 rv f q lv (.int v :: rest) s) : EvF G d M ly pl h0 rv f pc lv rest s := fun H r s' hf => by subst hq; exact ev_ldc hc hdg (kk H r s' hf)
theorem ef_ldc2 {q : Nat} {index : Nat} {v : Int64} (hc : Cond.constantLong (moM M) index v ∈ TT) (hdg : decode (mbM M) pc = .ok (.ldc2_w index, 3)) (hq : pc + 3 = q) (kk : EvF G d M ly pl h0 rv f q lv (.long v :: rest) s) : EvF G d M ly pl h0 rv f pc lv rest s := fun H r s' hf => by subst hq; exact ev_ldc2 hc hdg (kk H r s' hf)
end EFL
end
section
/-! Math.min and System.arraycopy -/
def updA {α : Type} (S : Nat → Nat → α) (a : Nat) (g : Nat → α) : Nat → Nat → α := fun q => if q = a then g else S q
theorem updA_same {α : Type} {S : Nat → Nat → α} {a : Nat} {g : Nat → α} : updA S a g a = g := by simp [updA]
theorem updA_ne {α : Type} {S : Nat → Nat → α} {a q : Nat} {g : Nat → α} (z : q ≠ a) : updA S a g q = S q := by simp [updA, z]
theorem mrg_setA {α : Type} {pl : Nat → Nat} {S C : Nat → Nat → α} {n k : Nat} {g : Nat → α} (hi : injN pl n) (hk : k < n) : updA (mrg pl n S C) (pl k) g = mrg pl n S (updA C k g) := by
  funext q
  rcases mrg_cases (pl := pl) n q with ⟨j, hj, rfl⟩ | hq
  · rw [mrg_at hi hj]
    by_cases z : j = k
    · subst z
      rw [updA_same, updA_same]
    · rw [updA_ne (fun e => z (hi j k hj hk e)), updA_ne z, mrg_at hi hj]
  · rw [mrg_off hq, updA_ne (hq k hk), mrg_off hq]
def wrA (s : SS) (k : Nat) (g : Nat → Int32) : SS := (updA s.1 k g, s.2)
def wrAL (s : SS) (k : Nat) (g : Nat → Int64) : SS := (s.1, updA s.2 k g)
theorem LH_wrA {pl : Nat → Nat} {n : Nat} {h0 : PH} {s : SS} {k : Nat} {g : Nat → Int32} (hi : injN pl n) (hk : k < n) : LH pl n h0 (wrA s k g) = (h0.1, h0.2.1, h0.2.2.1, updA (LH pl n h0 s).2.2.2.1 (pl k) g, (LH pl n h0 s).2.2.2.2) := by
  unfold LH wrA
  simp only [mrg_setA hi hk]
theorem LH_wrAL {pl : Nat → Nat} {n : Nat} {h0 : PH} {s : SS} {k : Nat} {g : Nat → Int64} (hi : injN pl n) (hk : k < n) : LH pl n h0 (wrAL s k g) = (h0.1, h0.2.1, h0.2.2.1, (LH pl n h0 s).2.2.2.1, updA (LH pl n h0 s).2.2.2.2 (pl k) g) := by
  unfold LH wrAL
  simp only [mrg_setA hi hk]
abbrev acOK (sp dp n : Int32) (n0 n1 : Nat) : Prop := ¬ sp < 0 ∧ ¬ dp < 0 ∧ ¬ n < 0 ∧ sp.toNatClampNeg + n.toNatClampNeg ≤ n0 ∧ dp.toNatClampNeg + n.toNatClampNeg ≤ n1
theorem tt_min : Cond.static Lib.Math.min.name ∈ TT ∧ Cond.initialized "java/lang/Math" ∈ TT ∧ Cond.code Lib.Math.min.name Lib.Math.min.code 2 (some .int) ∈ TT := ⟨TT_in (by decide +kernel) rfl, TT_in (by decide +kernel) rfl, TT_in (by decide +kernel) rfl⟩
theorem tt_acp : Cond.native arraycopyName ∈ TT ∧ Cond.static arraycopyName ∈ TT ∧ Cond.initialized "java/lang/System" ∈ TT := ⟨TT_in (by decide +kernel) rfl, TT_in (by decide +kernel) rfl, TT_in (by decide +kernel) rfl⟩
theorem toInt_nn {z : Int32} (hz : ¬ z < 0) : z.toInt = (z.toNatClampNeg : Int) := by
  have hz0 : (0 : Int) ≤ z.toInt := by
    have := Int32.not_lt.mp hz
    simpa using Int32.le_iff_toInt_le.mp this
  show z.toInt = ((z.toInt.toNat : Nat) : Int)
  omega
section ECP
variable {G : GG} {d : Nat} {M : MI} {mc ms : Nat} {Q : Option Value → PH → Prop} {kc ks pc : Nat} {lv : List (Nat × Value)} {rest : List Value} {h : PH}
theorem ev_mmin {idx : Nat} {x y : Int32} (hlk : Cond.methodLink (moM M) idx Lib.Math.min.name ∈ TT) (hd : 1 ≤ d) (hW : (rest.map fun v => v.category).sum ≤ 8) (h1 : kc ≤ mc) (h2 : ks ≤ ms) (hdg : decode (mbM M) pc = .ok (.invokestatic idx, 3))
    (kk : Ev G d M mc ms Q kc ks (pc + 3) lv (.int (if y < x then y else x) :: rest) h) : Ev G d M mc ms Q kc ks pc lv (.int y :: .int x :: rest) h := by
  intro p l e s m args below meth c H locs ls X R L hl
  have hts : ∀ w ∈ TT, w.before args s = true := fun w hw => X.2.2.2.2.1 w (List.mem_cons_of_mem _ hw)
  refine va_mmin X.1 X.2.1 (X.2.2.1.trans hl.1.symm) X.2.2.2.1 (hts _ hlk) (hts _ tt_min.1) (hts _ tt_min.2.1) (hts _ tt_min.2.2) hd ?_ h1 h2 hdg (kk p l e s m args below meth c H locs ls X R L hl)
  show _ + 13 ≤ 64 * d
  omega
theorem ev_acopyI {idx a0 a n0 n1 : Nat} {sp dp n : Int32} (hs0 : h.2.1 a0 = some (10, n0)) (hs1 : h.2.1 a = some (10, n1)) (hlk : Cond.methodLink (moM M) idx arraycopyName ∈ TT) (hok : acOK sp dp n n0 n1) (hd : 1 ≤ d) (hW : (rest.map fun v => v.category).sum ≤ 8) (hdg : decode (mbM M) pc = .ok (.invokestatic idx, 3))
    (kk : Ev G d M mc ms Q kc ks (pc + 3) lv rest (h.1, h.2.1, h.2.2.1, updA h.2.2.2.1 a (va_cpy (h.2.2.2.1 a0) (h.2.2.2.1 a) sp.toNatClampNeg dp.toNatClampNeg n.toNatClampNeg), h.2.2.2.2)) : Ev G d M mc ms Q kc ks pc lv (.int n :: .int dp :: .ref a :: .int sp :: .ref a0 :: rest) h := by
  intro p l e s m args below meth c H locs ls X R L hl
  have hts : ∀ w ∈ TT, w.before args s = true := fun w hw => X.2.2.2.2.1 w (List.mem_cons_of_mem _ hw)
  obtain ⟨h1, h2, h3, h4, h5⟩ := hok
  intro T hT X0
  obtain ⟨-, hc0⟩ := R.ints hs0
  obtain ⟨hga, hc1⟩ := R.ints hs1
  have hty := (X.2.2.2.2.2.2.2.1.1.2 0 _ (tysG_at G (by decide))).1
  obtain ⟨-, k0, hk0, cm0, hkk0⟩ := hty n0 (fun j => .int (h.2.2.2.1 a0 j))
  obtain ⟨-, k1, hk1, cm1, hkk1⟩ := hty n1 (fun j => .int (h.2.2.2.1 a j))
  have hnf : nativeFrameWords "java/lang/System" "arraycopy" 5 + 11 ≤ 56 := by decide +kernel
  obtain ⟨vm', X', step⟩ := X0.arraycopy X.1 X.2.2.2.1 (hts _ hlk) (hts _ tt_acp.1) (hts _ tt_acp.2.1) (hts _ tt_acp.2.2) (src := a0) (dst := a) (cs := arrV (G.2.1 0) n0 (fun j => .int (h.2.2.2.1 a0 j))) (cd := arrV (G.2.1 0) n1 (fun j => .int (h.2.2.2.1 a j))) (srcPos := sp) (destPos := dp) (n := n) (by rw [hT]; exact hc0) (by rw [hT]; exact hc1)
    (fun _ h => by cases h) (fun _ h => by cases h) (fun h => by cases h) (fun h => by cases h) hk0 hk1 hkk0 hkk1 (by simp [atyG, refKind]) h1 h2 h3
    (by rw [toInt_nn h1, toInt_nn h3, arrV_size]; omega)
    (by rw [toInt_nn h2, toInt_nn h3, arrV_size]; omega)
    (fun vm₁ _ i hi => by
      have e : (arrV (G.2.1 0) n0 (fun j => .int (h.2.2.2.1 a0 j))).slots.getD (sp.toNatClampNeg + i) .null = .int (h.2.2.2.1 a0 (sp.toNatClampNeg + i)) := by
        rw [Array.getD_eq_getD_getElem?, arrV_read _ _ (by omega)]
        rfl
      refine ⟨?_, ?_⟩
      · rw [e]
        rfl
      · rw [e]
        exact trivial)
    (g := F0 m pc ls (.int n :: .int dp :: .ref a :: .int sp :: .ref a0 :: rest)) rfl (by rw [X.2.2.1]; exact hl.1) (rest := rest) rfl (by rw [X.2.1]; exact hdg) hd (by show 2 * 0 + _ + _ ≤ 64 * d; omega)
  have e1 : copied (arrV (G.2.1 0) n0 (fun j => .int (h.2.2.2.1 a0 j))) (arrV (G.2.1 0) n1 (fun j => .int (h.2.2.2.1 a j))) sp dp n = arrV (G.2.1 0) n1 (fun j => .int (va_cpy (h.2.2.2.1 a0) (h.2.2.2.1 a) sp.toNatClampNeg dp.toNatClampNeg n.toNatClampNeg j)) := va_copied (fun z => .int z) (G.2.1 0) (G.2.1 0) (h.2.2.2.1 a0) (h.2.2.2.1 a) h4
  rw [e1] at X' step
  have hl2 : a < H.size := (Array.getElem?_eq_some_iff.mp hc1).1
  have hheap : ((T.setVm vm').setCell a (arrV (G.2.1 0) n1 (fun j => .int (va_cpy (h.2.2.2.1 a0) (h.2.2.2.1 a) sp.toNatClampNeg dp.toNatClampNeg n.toNatClampNeg j)))).heap = H.setIfInBounds a (arrV (G.2.1 0) n1 (fun j => .int (va_cpy (h.2.2.2.1 a0) (h.2.2.2.1 a) sp.toNatClampNeg dp.toNatClampNeg n.toNatClampNeg j))) := by rw [← hT]; rfl
  have oq : ∀ q : Nat, q ≠ a → (H.setIfInBounds a (arrV (G.2.1 0) n1 (fun j => .int (va_cpy (h.2.2.2.1 a0) (h.2.2.2.1 a) sp.toNatClampNeg dp.toNatClampNeg n.toNatClampNeg j))))[q]? = H[q]? := fun q hq => by simp [Array.getElem?_setIfInBounds, Ne.symm hq]
  obtain ⟨t, a1, b1⟩ := kk p l e s m args below meth c _ _ ls X (R.write (P := h.2.2.1) (S := updA h.2.2.2.1 a (va_cpy (h.2.2.2.1 a0) (h.2.2.2.1 a) sp.toNatClampNeg dp.toNatClampNeg n.toNatClampNeg)) (LL := h.2.2.2.2) hs1 (by simp) oq (fun q _ => rfl) (fun q z => updA_ne z) (fun q _ => rfl) (by
      unfold cellG
      rw [if_neg (show ¬ (10 : Nat) < 7 by decide), if_pos rfl]
      simp only [updA_same]
      simp [Array.getElem?_setIfInBounds, hl2])) (fun q hq => by
      rcases List.mem_append.mp hq with z | z
      · exact L q z
      · obtain ⟨w, -, hw⟩ := List.mem_map.mp z
        rw [← hw]
        exact hga) hl _ hheap X'
  exact ⟨t, step t a1, b1⟩
theorem ev_acopyL {idx a0 a n0 n1 : Nat} {sp dp n : Int32} (hs0 : h.2.1 a0 = some (11, n0)) (hs1 : h.2.1 a = some (11, n1)) (hlk : Cond.methodLink (moM M) idx arraycopyName ∈ TT) (hok : acOK sp dp n n0 n1) (hd : 1 ≤ d) (hW : (rest.map fun v => v.category).sum ≤ 8) (hdg : decode (mbM M) pc = .ok (.invokestatic idx, 3))
    (kk : Ev G d M mc ms Q kc ks (pc + 3) lv rest (h.1, h.2.1, h.2.2.1, h.2.2.2.1, updA h.2.2.2.2 a (va_cpy (h.2.2.2.2 a0) (h.2.2.2.2 a) sp.toNatClampNeg dp.toNatClampNeg n.toNatClampNeg))) : Ev G d M mc ms Q kc ks pc lv (.int n :: .int dp :: .ref a :: .int sp :: .ref a0 :: rest) h := by
  intro p l e s m args below meth c H locs ls X R L hl
  have hts : ∀ w ∈ TT, w.before args s = true := fun w hw => X.2.2.2.2.1 w (List.mem_cons_of_mem _ hw)
  obtain ⟨h1, h2, h3, h4, h5⟩ := hok
  intro T hT X0
  obtain ⟨-, hc0⟩ := R.lngs hs0
  obtain ⟨hga, hc1⟩ := R.lngs hs1
  have hty := (X.2.2.2.2.2.2.2.1.1.2 1 _ (tysG_at G (by decide))).1
  obtain ⟨-, k0, hk0, cm0, hkk0⟩ := hty n0 (fun j => .long (h.2.2.2.2 a0 j))
  obtain ⟨-, k1, hk1, cm1, hkk1⟩ := hty n1 (fun j => .long (h.2.2.2.2 a j))
  have hnf : nativeFrameWords "java/lang/System" "arraycopy" 5 + 11 ≤ 56 := by decide +kernel
  obtain ⟨vm', X', step⟩ := X0.arraycopy X.1 X.2.2.2.1 (hts _ hlk) (hts _ tt_acp.1) (hts _ tt_acp.2.1) (hts _ tt_acp.2.2) (src := a0) (dst := a) (cs := arrV (G.2.1 1) n0 (fun j => .long (h.2.2.2.2 a0 j))) (cd := arrV (G.2.1 1) n1 (fun j => .long (h.2.2.2.2 a j))) (srcPos := sp) (destPos := dp) (n := n) (by rw [hT]; exact hc0) (by rw [hT]; exact hc1)
    (fun _ h => by cases h) (fun _ h => by cases h) (fun h => by cases h) (fun h => by cases h) hk0 hk1 hkk0 hkk1 (by simp [atyG, refKind]) h1 h2 h3
    (by rw [toInt_nn h1, toInt_nn h3, arrV_size]; omega)
    (by rw [toInt_nn h2, toInt_nn h3, arrV_size]; omega)
    (fun vm₁ _ i hi => by
      have e : (arrV (G.2.1 1) n0 (fun j => .long (h.2.2.2.2 a0 j))).slots.getD (sp.toNatClampNeg + i) .null = .long (h.2.2.2.2 a0 (sp.toNatClampNeg + i)) := by
        rw [Array.getD_eq_getD_getElem?, arrV_read _ _ (by omega)]
        rfl
      refine ⟨?_, ?_⟩
      · rw [e]
        rfl
      · rw [e]
        exact trivial)
    (g := F0 m pc ls (.int n :: .int dp :: .ref a :: .int sp :: .ref a0 :: rest)) rfl (by rw [X.2.2.1]; exact hl.1) (rest := rest) rfl (by rw [X.2.1]; exact hdg) hd (by show 2 * 0 + _ + _ ≤ 64 * d; omega)
  have e1 : copied (arrV (G.2.1 1) n0 (fun j => .long (h.2.2.2.2 a0 j))) (arrV (G.2.1 1) n1 (fun j => .long (h.2.2.2.2 a j))) sp dp n = arrV (G.2.1 1) n1 (fun j => .long (va_cpy (h.2.2.2.2 a0) (h.2.2.2.2 a) sp.toNatClampNeg dp.toNatClampNeg n.toNatClampNeg j)) := va_copied (fun z => .long z) (G.2.1 1) (G.2.1 1) (h.2.2.2.2 a0) (h.2.2.2.2 a) h4
  rw [e1] at X' step
  have hl2 : a < H.size := (Array.getElem?_eq_some_iff.mp hc1).1
  have hheap : ((T.setVm vm').setCell a (arrV (G.2.1 1) n1 (fun j => .long (va_cpy (h.2.2.2.2 a0) (h.2.2.2.2 a) sp.toNatClampNeg dp.toNatClampNeg n.toNatClampNeg j)))).heap = H.setIfInBounds a (arrV (G.2.1 1) n1 (fun j => .long (va_cpy (h.2.2.2.2 a0) (h.2.2.2.2 a) sp.toNatClampNeg dp.toNatClampNeg n.toNatClampNeg j))) := by rw [← hT]; rfl
  have oq : ∀ q : Nat, q ≠ a → (H.setIfInBounds a (arrV (G.2.1 1) n1 (fun j => .long (va_cpy (h.2.2.2.2 a0) (h.2.2.2.2 a) sp.toNatClampNeg dp.toNatClampNeg n.toNatClampNeg j))))[q]? = H[q]? := fun q hq => by simp [Array.getElem?_setIfInBounds, Ne.symm hq]
  obtain ⟨t, a1, b1⟩ := kk p l e s m args below meth c _ _ ls X (R.write (P := h.2.2.1) (S := h.2.2.2.1) (LL := updA h.2.2.2.2 a (va_cpy (h.2.2.2.2 a0) (h.2.2.2.2 a) sp.toNatClampNeg dp.toNatClampNeg n.toNatClampNeg)) hs1 (by simp) oq (fun q _ => rfl) (fun q _ => rfl) (fun q z => updA_ne z) (by
      unfold cellG
      rw [if_neg (show ¬ (11 : Nat) < 7 by decide), if_neg (show ¬ (11 : Nat) = 10 by decide), if_pos rfl]
      simp only [updA_same]
      simp [Array.getElem?_setIfInBounds, hl2])) (fun q hq => by
      rcases List.mem_append.mp hq with z | z
      · exact L q z
      · obtain ⟨w, -, hw⟩ := List.mem_map.mp z
        rw [← hw]
        exact hga) hl _ hheap X'
  exact ⟨t, step t a1, b1⟩
end ECP
section EFC
variable {G : GG} {d : Nat} {M : MI} {ly : LY} {pl : Nat → Nat} {h0 : PH} {ρ : Type} {rv : ρ → Option Value} {f : Option (ρ × SS)} {pc : Nat} {lv : List (Nat × Value)} {rest : List Value} {s : SS}
theorem ef_mmin {q idx : Nat} {x y : Int32} (hlk : Cond.methodLink (moM M) idx Lib.Math.min.name ∈ TT) (hd : 1 ≤ d) (hW : (rest.map fun v => v.category).sum ≤ 8) (hdg : decode (mbM M) pc = .ok (.invokestatic idx, 3)) (hq : pc + 3 = q) (kk : EvF G d M ly pl h0 rv f q lv (.int (if y < x then y else x) :: rest) s) : EvF G d M ly pl h0 rv f pc lv (.int y :: .int x :: rest) s := fun H r s' hf => by
  subst hq
  exact ev_mmin hlk hd hW (Nat.le_refl 0) (Nat.le_refl 0) hdg (kk H r s' hf)
theorem ef_acopyI {q idx k0 k1 n0 n1 : Nat} {r0 r1 : List (Nat × Nat)} {sp dp n : Int32} {g : Nat → Int32} (he0 : ly[k0]? = some ((10, n0), r0)) (he1 : ly[k1]? = some ((10, n1), r1)) (hlk : Cond.methodLink (moM M) idx arraycopyName ∈ TT) (hok : acOK sp dp n n0 n1) (hd : 1 ≤ d) (hW : (rest.map fun v => v.category).sum ≤ 8) (hdg : decode (mbM M) pc = .ok (.invokestatic idx, 3)) (hg : va_cpy (s.1 k0) (s.1 k1) sp.toNatClampNeg dp.toNatClampNeg n.toNatClampNeg = g) (hq : pc + 3 = q)
    (kk : EvF G d M ly pl h0 rv f q lv rest (wrA s k1 g)) : EvF G d M ly pl h0 rv f pc lv (.int n :: .int dp :: .ref (pl k1) :: .int sp :: .ref (pl k0) :: rest) s := fun H r s' hf => by
  subst hq
  have h1 := kk H r s' hf
  rw [LH_wrA H.1 (LayOK.lt he1)] at h1
  refine ev_acopyI (H.sh he0) (H.sh he1) hlk hok hd hW hdg ?_
  have e : va_cpy ((LH pl ly.length h0 s).2.2.2.1 (pl k0)) ((LH pl ly.length h0 s).2.2.2.1 (pl k1)) sp.toNatClampNeg dp.toNatClampNeg n.toNatClampNeg = g := by
    rw [← hg]
    show va_cpy (mrg pl ly.length h0.2.2.2.1 s.1 (pl k0)) (mrg pl ly.length h0.2.2.2.1 s.1 (pl k1)) _ _ _ = _
    rw [mrg_at H.1 (LayOK.lt he0), mrg_at H.1 (LayOK.lt he1)]
  rw [e]
  exact h1
theorem ef_acopyL {q idx k0 k1 n0 n1 : Nat} {r0 r1 : List (Nat × Nat)} {sp dp n : Int32} {g : Nat → Int64} (he0 : ly[k0]? = some ((11, n0), r0)) (he1 : ly[k1]? = some ((11, n1), r1)) (hlk : Cond.methodLink (moM M) idx arraycopyName ∈ TT) (hok : acOK sp dp n n0 n1) (hd : 1 ≤ d) (hW : (rest.map fun v => v.category).sum ≤ 8) (hdg : decode (mbM M) pc = .ok (.invokestatic idx, 3)) (hg : va_cpy (s.2 k0) (s.2 k1) sp.toNatClampNeg dp.toNatClampNeg n.toNatClampNeg = g) (hq : pc + 3 = q)
    (kk : EvF G d M ly pl h0 rv f q lv rest (wrAL s k1 g)) : EvF G d M ly pl h0 rv f pc lv (.int n :: .int dp :: .ref (pl k1) :: .int sp :: .ref (pl k0) :: rest) s := fun H r s' hf => by
  subst hq
  have h1 := kk H r s' hf
  rw [LH_wrAL H.1 (LayOK.lt he1)] at h1
  refine ev_acopyL (H.sh he0) (H.sh he1) hlk hok hd hW hdg ?_
  have e : va_cpy ((LH pl ly.length h0 s).2.2.2.2 (pl k0)) ((LH pl ly.length h0 s).2.2.2.2 (pl k1)) sp.toNatClampNeg dp.toNatClampNeg n.toNatClampNeg = g := by
    rw [← hg]
    show va_cpy (mrg pl ly.length h0.2.2.2.2 s.2 (pl k0)) (mrg pl ly.length h0.2.2.2.2 s.2 (pl k1)) _ _ _ = _
    rw [mrg_at H.1 (LayOK.lt he0), mrg_at H.1 (LayOK.lt he1)]
  rw [e]
  exact h1
end EFC
/-- the loops' fuel -/
def FU : Nat := 1000
end
