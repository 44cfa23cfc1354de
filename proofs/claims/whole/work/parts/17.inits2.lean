theorem dX4_init_0 : decode cX4_init 0 = .ok (.aload_n 0, 1) := by decide +kernel
theorem dX4_init_1 : decode cX4_init 1 = .ok (.invokespecial 3, 3) := by decide +kernel
theorem dX4_init_4 : decode cX4_init 4 = .ok (.aload_n 0, 1) := by decide +kernel
theorem dX4_init_5 : decode cX4_init 5 = .ok (.new 9, 3) := by decide +kernel
theorem dX4_init_8 : decode cX4_init 8 = .ok (.dup, 1) := by decide +kernel
theorem dX4_init_9 : decode cX4_init 9 = .ok (.invokespecial 11, 3) := by decide +kernel
theorem dX4_init_12 : decode cX4_init 12 = .ok (.putfield 12, 3) := by decide +kernel
theorem dX4_init_15 : decode cX4_init 15 = .ok (.aload_n 0, 1) := by decide +kernel
theorem dX4_init_16 : decode cX4_init 16 = .ok (.iconst 4, 1) := by decide +kernel
theorem dX4_init_17 : decode cX4_init 17 = .ok (.newarray .int, 2) := by decide +kernel
theorem dX4_init_19 : decode cX4_init 19 = .ok (.putfield 18, 3) := by decide +kernel
theorem dX4_init_22 : decode cX4_init 22 = .ok (.aload_n 0, 1) := by decide +kernel
theorem dX4_init_23 : decode cX4_init 23 = .ok (.iconst 4, 1) := by decide +kernel
theorem dX4_init_24 : decode cX4_init 24 = .ok (.newarray .int, 2) := by decide +kernel
theorem dX4_init_26 : decode cX4_init 26 = .ok (.putfield 22, 3) := by decide +kernel
theorem dX4_init_29 : decode cX4_init 29 = .ok (.aload_n 0, 1) := by decide +kernel
theorem dX4_init_30 : decode cX4_init 30 = .ok (.iconst 0, 1) := by decide +kernel
theorem dX4_init_31 : decode cX4_init 31 = .ok (.putfield 25, 3) := by decide +kernel
theorem dX4_init_34 : decode cX4_init 34 = .ok (.aload_n 0, 1) := by decide +kernel
theorem dX4_init_35 : decode cX4_init 35 = .ok (.bipush 20, 2) := by decide +kernel
theorem dX4_init_37 : decode cX4_init 37 = .ok (.newarray .int, 2) := by decide +kernel
theorem dX4_init_39 : decode cX4_init 39 = .ok (.putfield 29, 3) := by decide +kernel
theorem dX4_init_42 : decode cX4_init 42 = .ok (.aload_n 0, 1) := by decide +kernel
theorem dX4_init_43 : decode cX4_init 43 = .ok (.iconst 0, 1) := by decide +kernel
theorem dX4_init_44 : decode cX4_init 44 = .ok (.putfield 32, 3) := by decide +kernel
theorem dX4_init_47 : decode cX4_init 47 = .ok (.aload_n 0, 1) := by decide +kernel
theorem dX4_init_48 : decode cX4_init 48 = .ok (.iconst 1, 1) := by decide +kernel
theorem dX4_init_49 : decode cX4_init 49 = .ok (.putfield 35, 3) := by decide +kernel
theorem dX4_init_52 : decode cX4_init 52 = .ok (.return_, 1) := by decide +kernel
def oX4_init (k n : Nat) : List (LX → LX) := [addC (0, 0), (fun X => gX0_init X n), setR k 0 (some n), addC (10, 4), setR k 1 (some (n + 5)), addC (10, 4), setR k 2 (some (n + 6)), setI k 3 (0 : Int32), addC (10, 20), setR k 4 (some (n + 7)), setI k 5 (0 : Int32), setI k 6 (1 : Int32)]
def gX4_init (X : LX) (k : Nat) : LX := runX (oX4_init k X.length) X
set_option maxRecDepth 100000 in
set_option maxHeartbeats 4000000 in
theorem opkX4_init (k : Nat) : OpK 8 (fun X => gX4_init X k) := fun X => (show RunK 8 (oX4_init k X.length) from by unfold oX4_init; exact rk_eq (by decide) (rk_cons okp_addC (rk_cons (opkX0_init _) (rk_cons okp_setR (rk_cons okp_addC (rk_cons okp_setR (rk_cons okp_addC (rk_cons okp_setR (rk_cons okp_setI (rk_cons okp_addC (rk_cons okp_setR (rk_cons okp_setI (rk_cons okp_setI rk_nil))))))))))))) X
set_option maxRecDepth 100000 in
set_option maxHeartbeats 4000000 in
theorem oppX4_init (k : Nat) : OpP k (fun X => gX4_init X k) := fun X i j w v => by
  have hh : RunP (i + 1) (oX4_init k X.length) := by unfold oX4_init; exact (rp_cons okp_addC opp_addC (rp_cons (opkX0_init _) (opp_mono (by omega) (oppX0_init _)) (rp_cons okp_setR (opp_setR (by omega)) (rp_cons okp_addC opp_addC (rp_cons okp_setR (opp_setR (by omega)) (rp_cons okp_addC opp_addC (rp_cons okp_setR (opp_setR (by omega)) (rp_cons okp_setI opp_setI (rp_cons okp_addC opp_addC (rp_cons okp_setR (opp_setR (by omega)) (rp_cons okp_setI opp_setI (rp_cons okp_setI opp_setI rp_nil))))))))))))
  exact hh X i j (Nat.lt_succ_self i) v
set_option maxRecDepth 100000 in
set_option maxHeartbeats 4000000 in
theorem okxX4_init : MtX 3 mX4_init 8 82 4 gX4_init := by
  refine MtX.of (by decide +kernel) rfl (by decide) oX4_init (fun _ _ => rfl) (fun G h X k n l0 s0 => ?_)
  have hkn : k < n := by have := cSh_lt s0; omega
  unfold oX4_init
  refine ev_aload_n 0 dX4_init_0 rfl rfl ?_
  refine ev_objInit (TT_1 27 rfl rfl) objI objC (by decide) (by decide) dX4_init_1 ?_
  refine ev_aload_n 0 dX4_init_4 rfl rfl ?_
  refine ex_new (ci := 0) (m := n) l0 (by decide) (TT_1 28 rfl rfl) (TT_1 29 rfl rfl) (TT_1 3 rfl rfl) (by decide) (by decide) dX4_init_5 rfl (fun X1 l1 s1 p1 z1 => ?_)
  have L1 : X1.length = n + 1 := l1
  have t1_k := s1 _ _ s0
  refine ev_dup dX4_init_8 rfl ?_
  refine ex_callN (m := n + 1) L1 z1 okxX0_init (opkX0_init _) (oppX0_init _) calX0_init (List.mem_of_getElem? (i := 1) rfl) (by decide) (Nat.le_of_ble_eq_true rfl) (by decide) (by decide) dX4_init_9 rfl (fun X2 l2 s2 p2 => ?_)
  have L2 : X2.length = n + 5 := l2
  have t2_k := s2 _ _ t1_k
  refine ex_putF (m := n + 5) L2 t2_k fl4_12 rfl rfl rfl rfl (fun _ => rfl) (fun _ => rfl) dX4_init_12 rfl (fun X3 l3 s3 p3 => ?_)
  have L3 : X3.length = n + 5 := l3
  have t3_k := s3 _ _ t2_k
  refine ev_aload_n 0 dX4_init_15 rfl rfl ?_
  refine ev_iconst (v := (4 : Int32)) dX4_init_16 (by decide) ?_
  refine ex_newI (N := 4) (m := n + 5) L3 arrI (by decide) (by decide) (by decide) (by decide) (by decide) dX4_init_17 rfl (fun X4 l4 s4 p4 z4 => ?_)
  have L4 : X4.length = n + 6 := l4
  have t4_k := s4 _ _ t3_k
  refine ex_putF (m := n + 6) L4 t4_k fl4_18 rfl rfl rfl rfl (fun _ => rfl) (fun _ => rfl) dX4_init_19 rfl (fun X5 l5 s5 p5 => ?_)
  have L5 : X5.length = n + 6 := l5
  have t5_k := s5 _ _ t4_k
  refine ev_aload_n 0 dX4_init_22 rfl rfl ?_
  refine ev_iconst (v := (4 : Int32)) dX4_init_23 (by decide) ?_
  refine ex_newI (N := 4) (m := n + 6) L5 arrI (by decide) (by decide) (by decide) (by decide) (by decide) dX4_init_24 rfl (fun X6 l6 s6 p6 z6 => ?_)
  have L6 : X6.length = n + 7 := l6
  have t6_k := s6 _ _ t5_k
  refine ex_putF (m := n + 7) L6 t6_k fl4_22 rfl rfl rfl rfl (fun _ => rfl) (fun _ => rfl) dX4_init_26 rfl (fun X7 l7 s7 p7 => ?_)
  have L7 : X7.length = n + 7 := l7
  have t7_k := s7 _ _ t6_k
  refine ev_aload_n 0 dX4_init_29 rfl rfl ?_
  refine ev_iconst (v := (0 : Int32)) dX4_init_30 (by decide) ?_
  refine ex_putI (m := n + 7) L7 t7_k fl4_25 rfl rfl rfl rfl dX4_init_31 rfl (fun X8 l8 s8 p8 => ?_)
  have L8 : X8.length = n + 7 := l8
  have t8_k := s8 _ _ t7_k
  refine ev_aload_n 0 dX4_init_34 rfl rfl ?_
  refine ev_bipush (v := (20 : Int32)) dX4_init_35 (by decide) ?_
  refine ex_newI (N := 20) (m := n + 7) L8 arrI (by decide) (by decide) (by decide) (by decide) (by decide) dX4_init_37 rfl (fun X9 l9 s9 p9 z9 => ?_)
  have L9 : X9.length = n + 8 := l9
  have t9_k := s9 _ _ t8_k
  refine ex_putF (m := n + 8) L9 t9_k fl4_29 rfl rfl rfl rfl (fun _ => rfl) (fun _ => rfl) dX4_init_39 rfl (fun X10 l10 s10 p10 => ?_)
  have L10 : X10.length = n + 8 := l10
  have t10_k := s10 _ _ t9_k
  refine ev_aload_n 0 dX4_init_42 rfl rfl ?_
  refine ev_iconst (v := (0 : Int32)) dX4_init_43 (by decide) ?_
  refine ex_putI (m := n + 8) L10 t10_k fl4_32 rfl rfl rfl rfl dX4_init_44 rfl (fun X11 l11 s11 p11 => ?_)
  have L11 : X11.length = n + 8 := l11
  have t11_k := s11 _ _ t10_k
  refine ev_aload_n 0 dX4_init_47 rfl rfl ?_
  refine ev_iconst (v := (1 : Int32)) dX4_init_48 (by decide) ?_
  refine ex_putI (m := n + 8) L11 t11_k fl4_35 rfl rfl rfl rfl dX4_init_49 rfl (fun X12 l12 s12 p12 => ?_)
  have L12 : X12.length = n + 8 := l12
  have t12_k := s12 _ _ t11_k
  exact ex_ret rfl (by decide) (by decide) dX4_init_52
theorem dX2_init_0 : decode cX2_init 0 = .ok (.aload_n 0, 1) := by decide +kernel
theorem dX2_init_1 : decode cX2_init 1 = .ok (.invokespecial 3, 3) := by decide +kernel
theorem dX2_init_4 : decode cX2_init 4 = .ok (.aload_n 0, 1) := by decide +kernel
theorem dX2_init_5 : decode cX2_init 5 = .ok (.iconst 4, 1) := by decide +kernel
theorem dX2_init_6 : decode cX2_init 6 = .ok (.anewarray 9, 3) := by decide +kernel
theorem dX2_init_9 : decode cX2_init 9 = .ok (.putfield 11, 3) := by decide +kernel
theorem dX2_init_12 : decode cX2_init 12 = .ok (.aload_n 0, 1) := by decide +kernel
theorem dX2_init_13 : decode cX2_init 13 = .ok (.iconst 3, 1) := by decide +kernel
theorem dX2_init_14 : decode cX2_init 14 = .ok (.newarray .int, 2) := by decide +kernel
theorem dX2_init_16 : decode cX2_init 16 = .ok (.putfield 17, 3) := by decide +kernel
theorem dX2_init_19 : decode cX2_init 19 = .ok (.aload_n 0, 1) := by decide +kernel
theorem dX2_init_20 : decode cX2_init 20 = .ok (.iconst 3, 1) := by decide +kernel
theorem dX2_init_21 : decode cX2_init 21 = .ok (.newarray .int, 2) := by decide +kernel
theorem dX2_init_23 : decode cX2_init 23 = .ok (.putfield 21, 3) := by decide +kernel
theorem dX2_init_26 : decode cX2_init 26 = .ok (.aload_n 0, 1) := by decide +kernel
theorem dX2_init_27 : decode cX2_init 27 = .ok (.iconst 0, 1) := by decide +kernel
theorem dX2_init_28 : decode cX2_init 28 = .ok (.putfield 24, 3) := by decide +kernel
theorem dX2_init_31 : decode cX2_init 31 = .ok (.aload_n 0, 1) := by decide +kernel
theorem dX2_init_32 : decode cX2_init 32 = .ok (.iconst 0, 1) := by decide +kernel
theorem dX2_init_33 : decode cX2_init 33 = .ok (.putfield 28, 3) := by decide +kernel
theorem dX2_init_36 : decode cX2_init 36 = .ok (.iconst 0, 1) := by decide +kernel
theorem dX2_init_37 : decode cX2_init 37 = .ok (.istore_n 1, 1) := by decide +kernel
theorem dX2_init_38 : decode cX2_init 38 = .ok (.iload_n 1, 1) := by decide +kernel
theorem dX2_init_39 : decode cX2_init 39 = .ok (.iconst 3, 1) := by decide +kernel
theorem dX2_init_40 : decode cX2_init 40 = .ok (.if_icmp .gt 22, 3) := by decide +kernel
theorem dX2_init_43 : decode cX2_init 43 = .ok (.aload_n 0, 1) := by decide +kernel
theorem dX2_init_44 : decode cX2_init 44 = .ok (.getfield 11, 3) := by decide +kernel
theorem dX2_init_47 : decode cX2_init 47 = .ok (.iload_n 1, 1) := by decide +kernel
theorem dX2_init_48 : decode cX2_init 48 = .ok (.new 9, 3) := by decide +kernel
theorem dX2_init_51 : decode cX2_init 51 = .ok (.dup, 1) := by decide +kernel
theorem dX2_init_52 : decode cX2_init 52 = .ok (.invokespecial 31, 3) := by decide +kernel
theorem dX2_init_55 : decode cX2_init 55 = .ok (.aastore, 1) := by decide +kernel
theorem dX2_init_56 : decode cX2_init 56 = .ok (.iinc 1 1, 3) := by decide +kernel
theorem dX2_init_59 : decode cX2_init 59 = .ok (.goto (-21), 3) := by decide +kernel
theorem dX2_init_62 : decode cX2_init 62 = .ok (.return_, 1) := by decide +kernel
def oX2_init (k n : Nat) : List (LX → LX) := [addC (13, 4), setR k 0 (some n), addC (10, 3), setR k 1 (some (n + 1)), addC (10, 3), setR k 2 (some (n + 2)), setI k 3 (0 : Int32), setI k 4 (0 : Int32), addC (0, 0), (fun X => gX0_init X (n + 3)), setR n 0 (some (n + 3)), addC (0, 0), (fun X => gX0_init X (n + 8)), setR n 1 (some (n + 8)), addC (0, 0), (fun X => gX0_init X (n + 13)), setR n 2 (some (n + 13)), addC (0, 0), (fun X => gX0_init X (n + 18)), setR n 3 (some (n + 18))]
def gX2_init (X : LX) (k : Nat) : LX := runX (oX2_init k X.length) X
set_option maxRecDepth 100000 in
set_option maxHeartbeats 4000000 in
theorem opkX2_init (k : Nat) : OpK 23 (fun X => gX2_init X k) := fun X => (show RunK 23 (oX2_init k X.length) from by unfold oX2_init; exact rk_eq (by decide) (rk_cons okp_addC (rk_cons okp_setR (rk_cons okp_addC (rk_cons okp_setR (rk_cons okp_addC (rk_cons okp_setR (rk_cons okp_setI (rk_cons okp_setI (rk_cons okp_addC (rk_cons (opkX0_init _) (rk_cons okp_setR (rk_cons okp_addC (rk_cons (opkX0_init _) (rk_cons okp_setR (rk_cons okp_addC (rk_cons (opkX0_init _) (rk_cons okp_setR (rk_cons okp_addC (rk_cons (opkX0_init _) (rk_cons okp_setR rk_nil))))))))))))))))))))) X
set_option maxRecDepth 100000 in
set_option maxHeartbeats 4000000 in
theorem oppX2_init (k : Nat) : OpP k (fun X => gX2_init X k) := fun X i j w v => by
  have hh : RunP (i + 1) (oX2_init k X.length) := by unfold oX2_init; exact (rp_cons okp_addC opp_addC (rp_cons okp_setR (opp_setR (by omega)) (rp_cons okp_addC opp_addC (rp_cons okp_setR (opp_setR (by omega)) (rp_cons okp_addC opp_addC (rp_cons okp_setR (opp_setR (by omega)) (rp_cons okp_setI opp_setI (rp_cons okp_setI opp_setI (rp_cons okp_addC opp_addC (rp_cons (opkX0_init _) (opp_mono (by omega) (oppX0_init _)) (rp_cons okp_setR (opp_setR (by omega)) (rp_cons okp_addC opp_addC (rp_cons (opkX0_init _) (opp_mono (by omega) (oppX0_init _)) (rp_cons okp_setR (opp_setR (by omega)) (rp_cons okp_addC opp_addC (rp_cons (opkX0_init _) (opp_mono (by omega) (oppX0_init _)) (rp_cons okp_setR (opp_setR (by omega)) (rp_cons okp_addC opp_addC (rp_cons (opkX0_init _) (opp_mono (by omega) (oppX0_init _)) (rp_cons okp_setR (opp_setR (by omega)) rp_nil))))))))))))))))))))
  exact hh X i j (Nat.lt_succ_self i) v
set_option maxRecDepth 100000 in
set_option maxHeartbeats 4000000 in
theorem okxX2_init : MtX 3 mX2_init 23 226 2 gX2_init := by
  refine MtX.of (by decide +kernel) rfl (by decide) oX2_init (fun _ _ => rfl) (fun G h X k n l0 s0 => ?_)
  have hkn : k < n := by have := cSh_lt s0; omega
  unfold oX2_init
  refine ev_aload_n 0 dX2_init_0 rfl rfl ?_
  refine ev_objInit (TT_1 151 rfl rfl) objI objC (by decide) (by decide) dX2_init_1 ?_
  refine ev_aload_n 0 dX2_init_4 rfl rfl ?_
  refine ev_iconst (v := (4 : Int32)) dX2_init_5 (by decide) ?_
  refine ex_newR (N := 4) (t := 13) (C := RX0) (m := n) l0 (by decide) (by decide) rfl (by decide) (TT_1 152 rfl rfl) (by decide) (by decide) (by decide) (by decide) (by decide) dX2_init_6 rfl (fun X1 l1 s1 p1 z1 => ?_)
  have L1 : X1.length = n + 1 := l1
  have t1_k := s1 _ _ s0
  refine ex_putF (m := n + 1) L1 t1_k fl2_11 rfl rfl rfl rfl (fun _ => rfl) (fun _ => rfl) dX2_init_9 rfl (fun X2 l2 s2 p2 => ?_)
  have L2 : X2.length = n + 1 := l2
  have t2_k := s2 _ _ t1_k
  refine ev_aload_n 0 dX2_init_12 rfl rfl ?_
  refine ev_iconst (v := (3 : Int32)) dX2_init_13 (by decide) ?_
  refine ex_newI (N := 3) (m := n + 1) L2 arrI (by decide) (by decide) (by decide) (by decide) (by decide) dX2_init_14 rfl (fun X3 l3 s3 p3 z3 => ?_)
  have L3 : X3.length = n + 2 := l3
  have t3_k := s3 _ _ t2_k
  have q3_0 := (p3 _ _ (Nat.lt_of_lt_of_le hkn (Nat.le_add_right n 1))).trans p2.2
  refine ex_putF (m := n + 2) L3 t3_k fl2_17 rfl rfl rfl rfl (fun _ => rfl) (fun _ => rfl) dX2_init_16 rfl (fun X4 l4 s4 p4 => ?_)
  have L4 : X4.length = n + 2 := l4
  have t4_k := s4 _ _ t3_k
  have q4_0 := (p4.1 _ _ (fun w => absurd w.2 (by decide))).trans q3_0
  refine ev_aload_n 0 dX2_init_19 rfl rfl ?_
  refine ev_iconst (v := (3 : Int32)) dX2_init_20 (by decide) ?_
  refine ex_newI (N := 3) (m := n + 2) L4 arrI (by decide) (by decide) (by decide) (by decide) (by decide) dX2_init_21 rfl (fun X5 l5 s5 p5 z5 => ?_)
  have L5 : X5.length = n + 3 := l5
  have t5_k := s5 _ _ t4_k
  have q5_0 := (p5 _ _ (Nat.lt_of_lt_of_le hkn (Nat.le_add_right n 2))).trans q4_0
  refine ex_putF (m := n + 3) L5 t5_k fl2_21 rfl rfl rfl rfl (fun _ => rfl) (fun _ => rfl) dX2_init_23 rfl (fun X6 l6 s6 p6 => ?_)
  have L6 : X6.length = n + 3 := l6
  have t6_k := s6 _ _ t5_k
  have q6_0 := (p6.1 _ _ (fun w => absurd w.2 (by decide))).trans q5_0
  refine ev_aload_n 0 dX2_init_26 rfl rfl ?_
  refine ev_iconst (v := (0 : Int32)) dX2_init_27 (by decide) ?_
  refine ex_putI (m := n + 3) L6 t6_k fl2_24 rfl rfl rfl rfl dX2_init_28 rfl (fun X7 l7 s7 p7 => ?_)
  have L7 : X7.length = n + 3 := l7
  have t7_k := s7 _ _ t6_k
  have q7_0 := (p7 _ _).trans q6_0
  refine ev_aload_n 0 dX2_init_31 rfl rfl ?_
  refine ev_iconst (v := (0 : Int32)) dX2_init_32 (by decide) ?_
  refine ex_putI (m := n + 3) L7 t7_k fl2_28 rfl rfl rfl rfl dX2_init_33 rfl (fun X8 l8 s8 p8 => ?_)
  have L8 : X8.length = n + 3 := l8
  have t8_k := s8 _ _ t7_k
  have q8_0 := (p8 _ _).trans q7_0
  refine ev_iconst (v := (0 : Int32)) dX2_init_36 (by decide) ?_
  refine ev_istore_n (lv' := [(1, .int (0 : Int32)), (0, .ref (h.1 + k))]) dX2_init_37 rfl (by decide) rfl ?_
  refine ev_iload_n 0 dX2_init_38 rfl rfl ?_
  refine ev_iconst (v := (3 : Int32)) dX2_init_39 (by decide) ?_
  refine ev_icmp_gt (tgt := 62) dX2_init_40 (by decide) (fun hh => absurd hh (by decide)) (fun _ => ?_)
  refine ev_aload_n 1 dX2_init_43 rfl rfl ?_
  refine ex_getR (r := n) (q := 47) t8_k q8_0 fl2_11 rfl dX2_init_44 rfl ?_
  refine ev_iload_n 0 dX2_init_47 rfl rfl ?_
  refine ex_new (ci := 0) (m := n + 3) L8 (by decide) (TT_1 152 rfl rfl) (TT_1 29 rfl rfl) (TT_1 3 rfl rfl) (by decide) (by decide) dX2_init_48 rfl (fun X9 l9 s9 p9 z9 => ?_)
  have L9 : X9.length = n + 4 := l9
  have t9_k := s9 _ _ t8_k
  have q9_0 := (p9 _ _ (Nat.lt_of_lt_of_le hkn (Nat.le_add_right n 3))).trans q8_0
  refine ev_dup dX2_init_51 rfl ?_
  refine ex_callN (m := n + 4) L9 z9 okxX0_init (opkX0_init _) (oppX0_init _) calX0_init (List.mem_of_getElem? (i := 3) rfl) (by decide) (Nat.le_of_ble_eq_true rfl) (by decide) (by decide) dX2_init_52 rfl (fun X10 l10 s10 p10 => ?_)
  have L10 : X10.length = n + 8 := l10
  have t10_k := s10 _ _ t9_k
  have q10_0 := (p10 _ _ (Nat.lt_of_lt_of_le hkn (Nat.le_add_right n 3))).trans q9_0
  refine ex_aastore (j := 0) (ci := 0) (m := n + 8) L10 (s10 _ _ (s9 _ _ (s8 _ _ (s7 _ _ (s6 _ _ (s5 _ _ (s4 _ _ (s3 _ _ (s2 _ _ z1))))))))) (by decide) rfl (by decide) (s10 _ _ z9) (by decide) (by decide) dX2_init_55 rfl (fun X11 l11 s11 p11 => ?_)
  have L11 : X11.length = n + 8 := l11
  have t11_k := s11 _ _ t10_k
  have q11_0 := (p11.1 _ _ (fun w => Nat.ne_of_lt hkn w.1)).trans q10_0
  refine ev_iinc (v := (1 : Int32)) (lv' := [(1, .int (1 : Int32)), (0, .ref (h.1 + k))]) 0 dX2_init_56 rfl (by decide) (by decide) rfl ?_
  refine ev_goto (tgt := 38) dX2_init_59 (by decide) ?_
  refine ev_iload_n 0 dX2_init_38 rfl rfl ?_
  refine ev_iconst (v := (3 : Int32)) dX2_init_39 (by decide) ?_
  refine ev_icmp_gt (tgt := 62) dX2_init_40 (by decide) (fun hh => absurd hh (by decide)) (fun _ => ?_)
  refine ev_aload_n 1 dX2_init_43 rfl rfl ?_
  refine ex_getR (r := n) (q := 47) t11_k q11_0 fl2_11 rfl dX2_init_44 rfl ?_
  refine ev_iload_n 0 dX2_init_47 rfl rfl ?_
  refine ex_new (ci := 0) (m := n + 8) L11 (by decide) (TT_1 152 rfl rfl) (TT_1 29 rfl rfl) (TT_1 3 rfl rfl) (by decide) (by decide) dX2_init_48 rfl (fun X12 l12 s12 p12 z12 => ?_)
  have L12 : X12.length = n + 9 := l12
  have t12_k := s12 _ _ t11_k
  have q12_0 := (p12 _ _ (Nat.lt_of_lt_of_le hkn (Nat.le_add_right n 8))).trans q11_0
  refine ev_dup dX2_init_51 rfl ?_
  refine ex_callN (m := n + 9) L12 z12 okxX0_init (opkX0_init _) (oppX0_init _) calX0_init (List.mem_of_getElem? (i := 3) rfl) (by decide) (Nat.le_of_ble_eq_true rfl) (by decide) (by decide) dX2_init_52 rfl (fun X13 l13 s13 p13 => ?_)
  have L13 : X13.length = n + 13 := l13
  have t13_k := s13 _ _ t12_k
  have q13_0 := (p13 _ _ (Nat.lt_of_lt_of_le hkn (Nat.le_add_right n 8))).trans q12_0
  refine ex_aastore (j := 1) (ci := 0) (m := n + 13) L13 (s13 _ _ (s12 _ _ (s11 _ _ (s10 _ _ (s9 _ _ (s8 _ _ (s7 _ _ (s6 _ _ (s5 _ _ (s4 _ _ (s3 _ _ (s2 _ _ z1)))))))))))) (by decide) rfl (by decide) (s13 _ _ z12) (by decide) (by decide) dX2_init_55 rfl (fun X14 l14 s14 p14 => ?_)
  have L14 : X14.length = n + 13 := l14
  have t14_k := s14 _ _ t13_k
  have q14_0 := (p14.1 _ _ (fun w => Nat.ne_of_lt hkn w.1)).trans q13_0
  refine ev_iinc (v := (2 : Int32)) (lv' := [(1, .int (2 : Int32)), (0, .ref (h.1 + k))]) 0 dX2_init_56 rfl (by decide) (by decide) rfl ?_
  refine ev_goto (tgt := 38) dX2_init_59 (by decide) ?_
  refine ev_iload_n 0 dX2_init_38 rfl rfl ?_
  refine ev_iconst (v := (3 : Int32)) dX2_init_39 (by decide) ?_
  refine ev_icmp_gt (tgt := 62) dX2_init_40 (by decide) (fun hh => absurd hh (by decide)) (fun _ => ?_)
  refine ev_aload_n 1 dX2_init_43 rfl rfl ?_
  refine ex_getR (r := n) (q := 47) t14_k q14_0 fl2_11 rfl dX2_init_44 rfl ?_
  refine ev_iload_n 0 dX2_init_47 rfl rfl ?_
  refine ex_new (ci := 0) (m := n + 13) L14 (by decide) (TT_1 152 rfl rfl) (TT_1 29 rfl rfl) (TT_1 3 rfl rfl) (by decide) (by decide) dX2_init_48 rfl (fun X15 l15 s15 p15 z15 => ?_)
  have L15 : X15.length = n + 14 := l15
  have t15_k := s15 _ _ t14_k
  have q15_0 := (p15 _ _ (Nat.lt_of_lt_of_le hkn (Nat.le_add_right n 13))).trans q14_0
  refine ev_dup dX2_init_51 rfl ?_
  refine ex_callN (m := n + 14) L15 z15 okxX0_init (opkX0_init _) (oppX0_init _) calX0_init (List.mem_of_getElem? (i := 3) rfl) (by decide) (Nat.le_of_ble_eq_true rfl) (by decide) (by decide) dX2_init_52 rfl (fun X16 l16 s16 p16 => ?_)
  have L16 : X16.length = n + 18 := l16
  have t16_k := s16 _ _ t15_k
  have q16_0 := (p16 _ _ (Nat.lt_of_lt_of_le hkn (Nat.le_add_right n 13))).trans q15_0
  refine ex_aastore (j := 2) (ci := 0) (m := n + 18) L16 (s16 _ _ (s15 _ _ (s14 _ _ (s13 _ _ (s12 _ _ (s11 _ _ (s10 _ _ (s9 _ _ (s8 _ _ (s7 _ _ (s6 _ _ (s5 _ _ (s4 _ _ (s3 _ _ (s2 _ _ z1))))))))))))))) (by decide) rfl (by decide) (s16 _ _ z15) (by decide) (by decide) dX2_init_55 rfl (fun X17 l17 s17 p17 => ?_)
  have L17 : X17.length = n + 18 := l17
  have t17_k := s17 _ _ t16_k
  have q17_0 := (p17.1 _ _ (fun w => Nat.ne_of_lt hkn w.1)).trans q16_0
  refine ev_iinc (v := (3 : Int32)) (lv' := [(1, .int (3 : Int32)), (0, .ref (h.1 + k))]) 0 dX2_init_56 rfl (by decide) (by decide) rfl ?_
  refine ev_goto (tgt := 38) dX2_init_59 (by decide) ?_
  refine ev_iload_n 0 dX2_init_38 rfl rfl ?_
  refine ev_iconst (v := (3 : Int32)) dX2_init_39 (by decide) ?_
  refine ev_icmp_gt (tgt := 62) dX2_init_40 (by decide) (fun hh => absurd hh (by decide)) (fun _ => ?_)
  refine ev_aload_n 1 dX2_init_43 rfl rfl ?_
  refine ex_getR (r := n) (q := 47) t17_k q17_0 fl2_11 rfl dX2_init_44 rfl ?_
  refine ev_iload_n 0 dX2_init_47 rfl rfl ?_
  refine ex_new (ci := 0) (m := n + 18) L17 (by decide) (TT_1 152 rfl rfl) (TT_1 29 rfl rfl) (TT_1 3 rfl rfl) (by decide) (by decide) dX2_init_48 rfl (fun X18 l18 s18 p18 z18 => ?_)
  have L18 : X18.length = n + 19 := l18
  have t18_k := s18 _ _ t17_k
  have q18_0 := (p18 _ _ (Nat.lt_of_lt_of_le hkn (Nat.le_add_right n 18))).trans q17_0
  refine ev_dup dX2_init_51 rfl ?_
  refine ex_callN (m := n + 19) L18 z18 okxX0_init (opkX0_init _) (oppX0_init _) calX0_init (List.mem_of_getElem? (i := 3) rfl) (by decide) (Nat.le_of_ble_eq_true rfl) (by decide) (by decide) dX2_init_52 rfl (fun X19 l19 s19 p19 => ?_)
  have L19 : X19.length = n + 23 := l19
  have t19_k := s19 _ _ t18_k
  have q19_0 := (p19 _ _ (Nat.lt_of_lt_of_le hkn (Nat.le_add_right n 18))).trans q18_0
  refine ex_aastore (j := 3) (ci := 0) (m := n + 23) L19 (s19 _ _ (s18 _ _ (s17 _ _ (s16 _ _ (s15 _ _ (s14 _ _ (s13 _ _ (s12 _ _ (s11 _ _ (s10 _ _ (s9 _ _ (s8 _ _ (s7 _ _ (s6 _ _ (s5 _ _ (s4 _ _ (s3 _ _ (s2 _ _ z1)))))))))))))))))) (by decide) rfl (by decide) (s19 _ _ z18) (by decide) (by decide) dX2_init_55 rfl (fun X20 l20 s20 p20 => ?_)
  have L20 : X20.length = n + 23 := l20
  have t20_k := s20 _ _ t19_k
  have q20_0 := (p20.1 _ _ (fun w => Nat.ne_of_lt hkn w.1)).trans q19_0
  refine ev_iinc (v := (4 : Int32)) (lv' := [(1, .int (4 : Int32)), (0, .ref (h.1 + k))]) 0 dX2_init_56 rfl (by decide) (by decide) rfl ?_
  refine ev_goto (tgt := 38) dX2_init_59 (by decide) ?_
  refine ev_iload_n 0 dX2_init_38 rfl rfl ?_
  refine ev_iconst (v := (3 : Int32)) dX2_init_39 (by decide) ?_
  refine ev_icmp_gt (tgt := 62) dX2_init_40 (by decide) (fun _ => ?_) (fun hh => absurd (by decide) hh)
  exact ex_ret rfl (by decide) (by decide) dX2_init_62
