theorem dX4_init_0 : decode cX4_init 0 = .ok (.aload_n 0, 1) := by decide +kernel
theorem dX4_init_1 : decode cX4_init 1 = .ok (.invokespecial 3, 3) := by decide +kernel
theorem dX4_init_4 : decode cX4_init 4 = .ok (.aload_n 0, 1) := by decide +kernel
theorem dX4_init_5 : decode cX4_init 5 = .ok (.new 9, 3) := by decide +kernel
theorem dX4_init_8 : decode cX4_init 8 = .ok (.dup, 1) := by decide +kernel
theorem dX4_init_9 : decode cX4_init 9 = .ok (.invokespecial 11, 3) := by decide +kernel
theorem dX4_init_12 : decode cX4_init 12 = .ok (.putfield 12, 3) := by decide +kernel
theorem dX4_init_15 : decode cX4_init 15 = .ok (.aload_n 0, 1) := by decide +kernel
theorem dX4_init_16 : decode cX4_init 16 = .ok (.iconst 4, 1) := by decide +kernel
theorem dX4_init_17 : decode cX4_init 17 = .ok (.newarray .int, 2) := by decide +kernel
theorem dX4_init_19 : decode cX4_init 19 = .ok (.putfield 18, 3) := by decide +kernel
theorem dX4_init_22 : decode cX4_init 22 = .ok (.aload_n 0, 1) := by decide +kernel
theorem dX4_init_23 : decode cX4_init 23 = .ok (.iconst 4, 1) := by decide +kernel
theorem dX4_init_24 : decode cX4_init 24 = .ok (.newarray .int, 2) := by decide +kernel
theorem dX4_init_26 : decode cX4_init 26 = .ok (.putfield 22, 3) := by decide +kernel
theorem dX4_init_29 : decode cX4_init 29 = .ok (.aload_n 0, 1) := by decide +kernel
theorem dX4_init_30 : decode cX4_init 30 = .ok (.iconst 0, 1) := by decide +kernel
theorem dX4_init_31 : decode cX4_init 31 = .ok (.putfield 25, 3) := by decide +kernel
theorem dX4_init_34 : decode cX4_init 34 = .ok (.aload_n 0, 1) := by decide +kernel
theorem dX4_init_35 : decode cX4_init 35 = .ok (.bipush 20, 2) := by decide +kernel
theorem dX4_init_37 : decode cX4_init 37 = .ok (.newarray .int, 2) := by decide +kernel
theorem dX4_init_39 : decode cX4_init 39 = .ok (.putfield 29, 3) := by decide +kernel
theorem dX4_init_42 : decode cX4_init 42 = .ok (.aload_n 0, 1) := by decide +kernel
theorem dX4_init_43 : decode cX4_init 43 = .ok (.iconst 0, 1) := by decide +kernel
theorem dX4_init_44 : decode cX4_init 44 = .ok (.putfield 32, 3) := by decide +kernel
theorem dX4_init_47 : decode cX4_init 47 = .ok (.aload_n 0, 1) := by decide +kernel
theorem dX4_init_48 : decode cX4_init 48 = .ok (.iconst 1, 1) := by decide +kernel
theorem dX4_init_49 : decode cX4_init 49 = .ok (.putfield 35, 3) := by decide +kernel
theorem dX4_init_52 : decode cX4_init 52 = .ok (.return_, 1) := by decide +kernel
def oX4_init (k n : Nat) : List (LX → LX) := [addC (0, 0), (fun X => gX0_init X n), setR k 0 (some n), addC (10, 4), setR k 1 (some (n + 5)), addC (10, 4), setR k 2 (some (n + 6)), setI k 3 (0 : Int32), addC (10, 20), setR k 4 (some (n + 7)), setI k 5 (0 : Int32), setI k 6 (1 : Int32)]
def gX4_init (X : LX) (k : Nat) : LX := runX (oX4_init k X.length) X
set_option maxRecDepth 100000 in
set_option maxHeartbeats 4000000 in
theorem opkX4_init (k : Nat) : OpK 8 (fun X => gX4_init X k) := fun X => (show RunK 8 (oX4_init k X.length) from by unfold oX4_init; exact rk_eq (by decide) (rk_cons okp_addC (rk_cons (opkX0_init _) (rk_cons okp_setR (rk_cons okp_addC (rk_cons okp_setR (rk_cons okp_addC (rk_cons okp_setR (rk_cons okp_setI (rk_cons okp_addC (rk_cons okp_setR (rk_cons okp_setI (rk_cons okp_setI rk_nil))))))))))))) X
set_option maxRecDepth 100000 in
set_option maxHeartbeats 4000000 in
theorem oppX4_init (k : Nat) : OpP k (fun X => gX4_init X k) := fun X i j w v => by
  have hh : RunP (i + 1) (oX4_init k X.length) := by unfold oX4_init; exact (rp_cons okp_addC opp_addC (rp_cons (opkX0_init _) (opp_mono (by omega) (oppX0_init _)) (rp_cons okp_setR (opp_setR (by omega)) (rp_cons okp_addC opp_addC (rp_cons okp_setR (opp_setR (by omega)) (rp_cons okp_addC opp_addC (rp_cons okp_setR (opp_setR (by omega)) (rp_cons okp_setI opp_setI (rp_cons okp_addC opp_addC (rp_cons okp_setR (opp_setR (by omega)) (rp_cons okp_setI opp_setI (rp_cons okp_setI opp_setI rp_nil))))))))))))
  exact hh X i j (Nat.lt_succ_self i) v
set_option maxRecDepth 100000 in
set_option maxHeartbeats 4000000 in
theorem okxX4_init : MtX 3 mX4_init 8 82 4 gX4_init := by
  refine MtX.of (by decide +kernel) rfl (by decide) oX4_init (fun _ _ => rfl) (fun G h X k n l0 s0 => ?_)
  have hkn : k < n := by have := cSh_lt s0; omega
  unfold oX4_init
  refine ev_aload_n 0 dX4_init_0 rfl rfl ?_
  refine ev_objInit (TT_1 27 rfl rfl) objI objC (by decide) (by decide) dX4_init_1 ?_
  refine ev_aload_n 0 dX4_init_4 rfl rfl ?_
  refine ex_new (ci := 0) (m := n) l0 (by decide) (TT_1 28 rfl rfl) (TT_1 29 rfl rfl) (TT_1 3 rfl rfl) (by decide) (by decide) dX4_init_5 rfl (fun X1 l1 s1 p1 z1 => ?_)
  have L1 : X1.length = n + 1 := l1
  have t1_k := s1 _ _ s0
  refine ev_dup dX4_init_8 rfl ?_
  refine ex_callN (m := n + 1) L1 z1 okxX0_init (opkX0_init _) (oppX0_init _) calX0_init (List.mem_of_getElem? (i := 1) rfl) (by decide) (Nat.le_of_ble_eq_true rfl) (by decide) (by decide) dX4_init_9 rfl (fun X2 l2 s2 p2 => ?_)
  have L2 : X2.length = n + 5 := l2
  have t2_k := s2 _ _ t1_k
  refine ex_putF (m := n + 5) L2 t2_k fl4_12 rfl rfl rfl rfl (fun _ => rfl) (fun _ => rfl) dX4_init_12 rfl (fun X3 l3 s3 p3 => ?_)
  have L3 : X3.length = n + 5 := l3
  have t3_k := s3 _ _ t2_k
  refine ev_aload_n 0 dX4_init_15 rfl rfl ?_
  refine ev_iconst (v := (4 : Int32)) dX4_init_16 (by decide) ?_
  refine ex_newI (N := 4) (m := n + 5) L3 arrI (by decide) (by decide) (by decide) (by decide) (by decide) dX4_init_17 rfl (fun X4 l4 s4 p4 z4 => ?_)
  have L4 : X4.length = n + 6 := l4
  have t4_k := s4 _ _ t3_k
  refine ex_putF (m := n + 6) L4 t4_k fl4_18 rfl rfl rfl rfl (fun _ => rfl) (fun _ => rfl) dX4_init_19 rfl (fun X5 l5 s5 p5 => ?_)
  have L5 : X5.length = n + 6 := l5
  have t5_k := s5 _ _ t4_k
  refine ev_aload_n 0 dX4_init_22 rfl rfl ?_
  refine ev_iconst (v := (4 : Int32)) dX4_init_23 (by decide) ?_
  refine ex_newI (N := 4) (m := n + 6) L5 arrI (by decide) (by decide) (by decide) (by decide) (by decide) dX4_init_24 rfl (fun X6 l6 s6 p6 z6 => ?_)
  have L6 : X6.length = n + 7 := l6
  have t6_k := s6 _ _ t5_k
  refine ex_putF (m := n + 7) L6 t6_k fl4_22 rfl rfl rfl rfl (fun _ => rfl) (fun _ => rfl) dX4_init_26 rfl (fun X7 l7 s7 p7 => ?_)
  have L7 : X7.length = n + 7 := l7
  have t7_k := s7 _ _ t6_k
  refine ev_aload_n 0 dX4_init_29 rfl rfl ?_
  refine ev_iconst (v := (0 : Int32)) dX4_init_30 (by decide) ?_
  refine ex_putI (m := n + 7) L7 t7_k fl4_25 rfl rfl rfl rfl dX4_init_31 rfl (fun X8 l8 s8 p8 => ?_)
  have L8 : X8.length = n + 7 := l8
  have t8_k := s8 _ _ t7_k
  refine ev_aload_n 0 dX4_init_34 rfl rfl ?_
  refine ev_bipush (v := (20 : Int32)) dX4_init_35 (by decide) ?_
  refine ex_newI (N := 20) (m := n + 7) L8 arrI (by decide) (by decide) (by decide) (by decide) (by decide) dX4_init_37 rfl (fun X9 l9 s9 p9 z9 => ?_)
  have L9 : X9.length = n + 8 := l9
  have t9_k := s9 _ _ t8_k
  refine ex_putF (m := n + 8) L9 t9_k fl4_29 rfl rfl rfl rfl (fun _ => rfl) (fun _ => rfl) dX4_init_39 rfl (fun X10 l10 s10 p10 => ?_)
  have L10 : X10.length = n + 8 := l10
  have t10_k := s10 _ _ t9_k
  refine ev_aload_n 0 dX4_init_42 rfl rfl ?_
  refine ev_iconst (v := (0 : Int32)) dX4_init_43 (by decide) ?_
  refine ex_putI (m := n + 8) L10 t10_k fl4_32 rfl rfl rfl rfl dX4_init_44 rfl (fun X11 l11 s11 p11 => ?_)
  have L11 : X11.length = n + 8 := l11
  have t11_k := s11 _ _ t10_k
  refine ev_aload_n 0 dX4_init_47 rfl rfl ?_
  refine ev_iconst (v := (1 : Int32)) dX4_init_48 (by decide) ?_
  refine ex_putI (m := n + 8) L11 t11_k fl4_35 rfl rfl rfl rfl dX4_init_49 rfl (fun X12 l12 s12 p12 => ?_)
  have L12 : X12.length = n + 8 := l12
  have t12_k := s12 _ _ t11_k
  exact ex_ret rfl (by decide) (by decide) dX4_init_52
theorem dX2_init_0 : decode cX2_init 0 = .ok (.aload_n 0, 1) := by decide +kernel
theorem dX2_init_1 : decode cX2_init 1 = .ok (.invokespecial 3, 3) := by decide +kernel
theorem dX2_init_4 : decode cX2_init 4 = .ok (.aload_n 0, 1) := by decide +kernel
theorem dX2_init_5 : decode cX2_init 5 = .ok (.iconst 4, 1) := by decide +kernel
theorem dX2_init_6 : decode cX2_init 6 = .ok (.anewarray 9, 3) := by decide +kernel
theorem dX2_init_9 : decode cX2_init 9 = .ok (.putfield 11, 3) := by decide +kernel
theorem dX2_init_12 : decode cX2_init 12 = .ok (.aload_n 0, 1) := by decide +kernel
theorem dX2_init_13 : decode cX2_init 13 = .ok (.iconst 3, 1) := by decide +kernel
theorem dX2_init_14 : decode cX2_init 14 = .ok (.newarray .int, 2) := by decide +kernel
theorem dX2_init_16 : decode cX2_init 16 = .ok (.putfield 17, 3) := by decide +kernel
theorem dX2_init_19 : decode cX2_init 19 = .ok (.aload_n 0, 1) := by decide +kernel
theorem dX2_init_20 : decode cX2_init 20 = .ok (.iconst 3, 1) := by decide +kernel
theorem dX2_init_21 : decode cX2_init 21 = .ok (.newarray .int, 2) := by decide +kernel
theorem dX2_init_23 : decode cX2_init 23 = .ok (.putfield 21, 3) := by decide +kernel
theorem dX2_init_26 : decode cX2_init 26 = .ok (.aload_n 0, 1) := by decide +kernel
theorem dX2_init_27 : decode cX2_init 27 = .ok (.iconst 0, 1) := by decide +kernel
theorem dX2_init_28 : decode cX2_init 28 = .ok (.putfield 24, 3) := by decide +kernel
theorem dX2_init_31 : decode cX2_init 31 = .ok (.aload_n 0, 1) := by decide +kernel
theorem dX2_init_32 : decode cX2_init 32 = .ok (.iconst 0, 1) := by decide +kernel
theorem dX2_init_33 : decode cX2_init 33 = .ok (.putfield 28, 3) := by decide +kernel
theorem dX2_init_36 : decode cX2_init 36 = .ok (.iconst 0, 1) := by decide +kernel
theorem dX2_init_37 : decode cX2_init 37 = .ok (.istore_n 1, 1) := by decide +kernel
theorem dX2_init_38 : decode cX2_init 38 = .ok (.iload_n 1, 1) := by decide +kernel
theorem dX2_init_39 : decode cX2_init 39 = .ok (.iconst 3, 1) := by decide +kernel
theorem dX2_init_40 : decode cX2_init 40 = .ok (.if_icmp .gt 22, 3) := by decide +kernel
theorem dX2_init_43 : decode cX2_init 43 = .ok (.aload_n 0, 1) := by decide +kernel
theorem dX2_init_44 : decode cX2_init 44 = .ok (.getfield 11, 3) := by decide +kernel
theorem dX2_init_47 : decode cX2_init 47 = .ok (.iload_n 1, 1) := by decide +kernel
theorem dX2_init_48 : decode cX2_init 48 = .ok (.new 9, 3) := by decide +kernel
theorem dX2_init_51 : decode cX2_init 51 = .ok (.dup, 1) := by decide +kernel
theorem dX2_init_52 : decode cX2_init 52 = .ok (.invokespecial 31, 3) := by decide +kernel
theorem dX2_init_55 : decode cX2_init 55 = .ok (.aastore, 1) := by decide +kernel
theorem dX2_init_56 : decode cX2_init 56 = .ok (.iinc 1 1, 3) := by decide +kernel
theorem dX2_init_59 : decode cX2_init 59 = .ok (.goto (-21), 3) := by decide +kernel
theorem dX2_init_62 : decode cX2_init 62 = .ok (.return_, 1) := by decide +kernel
def oX2_init (k n : Nat) : List (LX → LX) := [addC (13, 4), setR k 0 (some n), addC (10, 3), setR k 1 (some (n + 1)), addC (10, 3), setR k 2 (some (n + 2)), setI k 3 (0 : Int32), setI k 4 (0 : Int32), addC (0, 0), (fun X => gX0_init X (n + 3)), setR n 0 (some (n + 3)), addC (0, 0), (fun X => gX0_init X (n + 8)), setR n 1 (some (n + 8)), addC (0, 0), (fun X => gX0_init X (n + 13)), setR n 2 (some (n + 13)), addC (0, 0), (fun X => gX0_init X (n + 18)), setR n 3 (some (n + 18))]
def gX2_init (X : LX) (k : Nat) : LX := runX (oX2_init k X.length) X
set_option maxRecDepth 100000 in
set_option maxHeartbeats 4000000 in
theorem opkX2_init (k : Nat) : OpK 23 (fun X => gX2_init X k) := fun X => (show RunK 23 (oX2_init k X.length) from by unfold oX2_init; exact rk_eq (by decide) (rk_cons okp_addC (rk_cons okp_setR (rk_cons okp_addC (rk_cons okp_setR (rk_cons okp_addC (rk_cons okp_setR (rk_cons okp_setI (rk_cons okp_setI (rk_cons okp_addC (rk_cons (opkX0_init _) (rk_cons okp_setR (rk_cons okp_addC (rk_cons (opkX0_init _) (rk_cons okp_setR (rk_cons okp_addC (rk_cons (opkX0_init _) (rk_cons okp_setR (rk_cons okp_addC (rk_cons (opkX0_init _) (rk_cons okp_setR rk_nil))))))))))))))))))))) X
set_option maxRecDepth 100000 in
set_option maxHeartbeats 4000000 in
theorem oppX2_init (k : Nat) : OpP k (fun X => gX2_init X k) := fun X i j w v => by
  have hh : RunP (i + 1) (oX2_init k X.length) := by unfold oX2_init; exact (rp_cons okp_addC opp_addC (rp_cons okp_setR (opp_setR (by omega)) (rp_cons okp_addC opp_addC (rp_cons okp_setR (opp_setR (by omega)) (rp_cons okp_addC opp_addC (rp_cons okp_setR (opp_setR (by omega)) (rp_cons okp_setI opp_setI (rp_cons okp_setI opp_setI (rp_cons okp_addC opp_addC (rp_cons (opkX0_init _) (opp_mono (by omega) (oppX0_init _)) (rp_cons okp_setR (opp_setR (by omega)) (rp_cons okp_addC opp_addC (rp_cons (opkX0_init _) (opp_mono (by omega) (oppX0_init _)) (rp_cons okp_setR (opp_setR (by omega)) (rp_cons okp_addC opp_addC (rp_cons (opkX0_init _) (opp_mono (by omega) (oppX0_init _)) (rp_cons okp_setR (opp_setR (by omega)) (rp_cons okp_addC opp_addC (rp_cons (opkX0_init _) (opp_mono (by omega) (oppX0_init _)) (rp_cons okp_setR (opp_setR (by omega)) rp_nil))))))))))))))))))))
  exact hh X i j (Nat.lt_succ_self i) v
set_option maxRecDepth 100000 in
set_option maxHeartbeats 4000000 in
theorem okxX2_init : MtX 3 mX2_init 23 226 2 gX2_init := by
  refine MtX.of (by decide +kernel) rfl (by decide) oX2_init (fun _ _ => rfl) (fun G h X k n l0 s0 => ?_)
  have hkn : k < n := by have := cSh_lt s0; omega
  unfold oX2_init
  refine ev_aload_n 0 dX2_init_0 rfl rfl ?_
  refine ev_objInit (TT_1 151 rfl rfl) objI objC (by decide) (by decide) dX2_init_1 ?_
  refine ev_aload_n 0 dX2_init_4 rfl rfl ?_
  refine ev_iconst (v := (4 : Int32)) dX2_init_5 (by decide) ?_
  refine ex_newR (N := 4) (t := 13) (C := RX0) (m := n) l0 (by decide) (by decide) rfl (by decide) (TT_1 152 rfl rfl) (by decide) (by decide) (by decide) (by decide) (by decide) dX2_init_6 rfl (fun X1 l1 s1 p1 z1 => ?_)
  have L1 : X1.length = n + 1 := l1
  have t1_k := s1 _ _ s0
  refine ex_putF (m := n + 1) L1 t1_k fl2_11 rfl rfl rfl rfl (fun _ => rfl) (fun _ => rfl) dX2_init_9 rfl (fun X2 l2 s2 p2 => ?_)
  have L2 : X2.length = n + 1 := l2
  have t2_k := s2 _ _ t1_k
  refine ev_aload_n 0 dX2_init_12 rfl rfl ?_
  refine ev_iconst (v := (3 : Int32)) dX2_init_13 (by decide) ?_
  refine ex_newI (N := 3) (m := n + 1) L2 arrI (by decide) (by decide) (by decide) (by decide) (by decide) dX2_init_14 rfl (fun X3 l3 s3 p3 z3 => ?_)
  have L3 : X3.length = n + 2 := l3
  have t3_k := s3 _ _ t2_k
  have q3_0 := (p3 _ _ (Nat.lt_of_lt_of_le hkn (Nat.le_add_right n 1))).trans p2.2
  refine ex_putF (m := n + 2) L3 t3_k fl2_17 rfl rfl rfl rfl (fun _ => rfl) (fun _ => rfl) dX2_init_16 rfl (fun X4 l4 s4 p4 => ?_)
  have L4 : X4.length = n + 2 := l4
  have t4_k := s4 _ _ t3_k
  have q4_0 := (p4.1 _ _ (fun w => absurd w.2 (by decide))).trans q3_0
  refine ev_aload_n 0 dX2_init_19 rfl rfl ?_
  refine ev_iconst (v := (3 : Int32)) dX2_init_20 (by decide) ?_
  refine ex_newI (N := 3) (m := n + 2) L4 arrI (by decide) (by decide) (by decide) (by decide) (by decide) dX2_init_21 rfl (fun X5 l5 s5 p5 z5 => ?_)
  have L5 : X5.length = n + 3 := l5
  have t5_k := s5 _ _ t4_k
  have q5_0 := (p5 _ _ (Nat.lt_of_lt_of_le hkn (Nat.le_add_right n 2))).trans q4_0
  refine ex_putF (m := n + 3) L5 t5_k fl2_21 rfl rfl rfl rfl (fun _ => rfl) (fun _ => rfl) dX2_init_23 rfl (fun X6 l6 s6 p6 => ?_)
  have L6 : X6.length = n + 3 := l6
  have t6_k := s6 _ _ t5_k
  have q6_0 := (p6.1 _ _ (fun w => absurd w.2 (by decide))).trans q5_0
  refine ev_aload_n 0 dX2_init_26 rfl rfl ?_
  refine ev_iconst (v := (0 : Int32)) dX2_init_27 (by decide) ?_
  refine ex_putI (m := n + 3) L6 t6_k fl2_24 rfl rfl rfl rfl dX2_init_28 rfl (fun X7 l7 s7 p7 => ?_)
  have L7 : X7.length = n + 3 := l7
  have t7_k := s7 _ _ t6_k
  have q7_0 := (p7 _ _).trans q6_0
  refine ev_aload_n 0 dX2_init_31 rfl rfl ?_
  refine ev_iconst (v := (0 : Int32)) dX2_init_32 (by decide) ?_
  refine ex_putI (m := n + 3) L7 t7_k fl2_28 rfl rfl rfl rfl dX2_init_33 rfl (fun X8 l8 s8 p8 => ?_)
  have L8 : X8.length = n + 3 := l8
  have t8_k := s8 _ _ t7_k
  have q8_0 := (p8 _ _).trans q7_0
  refine ev_iconst (v := (0 : Int32)) dX2_init_36 (by decide) ?_
  refine ev_istore_n (lv' := [(1, .int (0 : Int32)), (0, .ref (h.1 + k))]) dX2_init_37 rfl (by decide) rfl ?_
  refine ev_iload_n 0 dX2_init_38 rfl rfl ?_
  refine ev_iconst (v := (3 : Int32)) dX2_init_39 (by decide) ?_
  refine ev_icmp_gt (tgt := 62) dX2_init_40 (by decide) (fun hh => absurd hh (by decide)) (fun _ => ?_)
  refine ev_aload_n 1 dX2_init_43 rfl rfl ?_
  refine ex_getR (r := n) (q := 47) t8_k q8_0 fl2_11 rfl dX2_init_44 rfl ?_
  refine ev_iload_n 0 dX2_init_47 rfl rfl ?_
  refine ex_new (ci := 0) (m := n + 3) L8 (by decide) (TT_1 152 rfl rfl) (TT_1 29 rfl rfl) (TT_1 3 rfl rfl) (by decide) (by decide) dX2_init_48 rfl (fun X9 l9 s9 p9 z9 => ?_)
  have L9 : X9.length = n + 4 := l9
  have t9_k := s9 _ _ t8_k
  have q9_0 := (p9 _ _ (Nat.lt_of_lt_of_le hkn (Nat.le_add_right n 3))).trans q8_0
  refine ev_dup dX2_init_51 rfl ?_
  refine ex_callN (m := n + 4) L9 z9 okxX0_init (opkX0_init _) (oppX0_init _) calX0_init (List.mem_of_getElem? (i := 3) rfl) (by decide) (Nat.le_of_ble_eq_true rfl) (by decide) (by decide) dX2_init_52 rfl (fun X10 l10 s10 p10 => ?_)
  have L10 : X10.length = n + 8 := l10
  have t10_k := s10 _ _ t9_k
  have q10_0 := (p10 _ _ (Nat.lt_of_lt_of_le hkn (Nat.le_add_right n 3))).trans q9_0
  refine ex_aastore (j := 0) (ci := 0) (m := n + 8) L10 (s10 _ _ (s9 _ _ (s8 _ _ (s7 _ _ (s6 _ _ (s5 _ _ (s4 _ _ (s3 _ _ (s2 _ _ z1))))))))) (by decide) rfl (by decide) (s10 _ _ z9) (by decide) (by decide) dX2_init_55 rfl (fun X11 l11 s11 p11 => ?_)
  have L11 : X11.length = n + 8 := l11
  have t11_k := s11 _ _ t10_k
  have q11_0 := (p11.1 _ _ (fun w => Nat.ne_of_lt hkn w.1)).trans q10_0
  refine ev_iinc (v := (1 : Int32)) (lv' := [(1, .int (1 : Int32)), (0, .ref (h.1 + k))]) 0 dX2_init_56 rfl (by decide) (by decide) rfl ?_
  refine ev_goto (tgt := 38) dX2_init_59 (by decide) ?_
  refine ev_iload_n 0 dX2_init_38 rfl rfl ?_
  refine ev_iconst (v := (3 : Int32)) dX2_init_39 (by decide) ?_
  refine ev_icmp_gt (tgt := 62) dX2_init_40 (by decide) (fun hh => absurd hh (by decide)) (fun _ => ?_)
  refine ev_aload_n 1 dX2_init_43 rfl rfl ?_
  refine ex_getR (r := n) (q := 47) t11_k q11_0 fl2_11 rfl dX2_init_44 rfl ?_
  refine ev_iload_n 0 dX2_init_47 rfl rfl ?_
  refine ex_new (ci := 0) (m := n + 8) L11 (by decide) (TT_1 152 rfl rfl) (TT_1 29 rfl rfl) (TT_1 3 rfl rfl) (by decide) (by decide) dX2_init_48 rfl (fun X12 l12 s12 p12 z12 => ?_)
  have L12 : X12.length = n + 9 := l12
  have t12_k := s12 _ _ t11_k
  have q12_0 := (p12 _ _ (Nat.lt_of_lt_of_le hkn (Nat.le_add_right n 8))).trans q11_0
  refine ev_dup dX2_init_51 rfl ?_
  refine ex_callN (m := n + 9) L12 z12 okxX0_init (opkX0_init _) (oppX0_init _) calX0_init (List.mem_of_getElem? (i := 3) rfl) (by decide) (Nat.le_of_ble_eq_true rfl) (by decide) (by decide) dX2_init_52 rfl (fun X13 l13 s13 p13 => ?_)
  have L13 : X13.length = n + 13 := l13
  have t13_k := s13 _ _ t12_k
  have q13_0 := (p13 _ _ (Nat.lt_of_lt_of_le hkn (Nat.le_add_right n 8))).trans q12_0
  refine ex_aastore (j := 1) (ci := 0) (m := n + 13) L13 (s13 _ _ (s12 _ _ (s11 _ _ (s10 _ _ (s9 _ _ (s8 _ _ (s7 _ _ (s6 _ _ (s5 _ _ (s4 _ _ (s3 _ _ (s2 _ _ z1)))))))))))) (by decide) rfl (by decide) (s13 _ _ z12) (by decide) (by decide) dX2_init_55 rfl (fun X14 l14 s14 p14 => ?_)
  have L14 : X14.length = n + 13 := l14
  have t14_k := s14 _ _ t13_k
  have q14_0 := (p14.1 _ _ (fun w => Nat.ne_of_lt hkn w.1)).trans q13_0
  refine ev_iinc (v := (2 : Int32)) (lv' := [(1, .int (2 : Int32)), (0, .ref (h.1 + k))]) 0 dX2_init_56 rfl (by decide) (by decide) rfl ?_
  refine ev_goto (tgt := 38) dX2_init_59 (by decide) ?_
  refine ev_iload_n 0 dX2_init_38 rfl rfl ?_
  refine ev_iconst (v := (3 : Int32)) dX2_init_39 (by decide) ?_
  refine ev_icmp_gt (tgt := 62) dX2_init_40 (by decide) (fun hh => absurd hh (by decide)) (fun _ => ?_)
  refine ev_aload_n 1 dX2_init_43 rfl rfl ?_
  refine ex_getR (r := n) (q := 47) t14_k q14_0 fl2_11 rfl dX2_init_44 rfl ?_
  refine ev_iload_n 0 dX2_init_47 rfl rfl ?_
  refine ex_new (ci := 0) (m := n + 13) L14 (by decide) (TT_1 152 rfl rfl) (TT_1 29 rfl rfl) (TT_1 3 rfl rfl) (by decide) (by decide) dX2_init_48 rfl (fun X15 l15 s15 p15 z15 => ?_)
  have L15 : X15.length = n + 14 := l15
  have t15_k := s15 _ _ t14_k
  have q15_0 := (p15 _ _ (Nat.lt_of_lt_of_le hkn (Nat.le_add_right n 13))).trans q14_0
  refine ev_dup dX2_init_51 rfl ?_
  refine ex_callN (m := n + 14) L15 z15 okxX0_init (opkX0_init _) (oppX0_init _) calX0_init (List.mem_of_getElem? (i := 3) rfl) (by decide) (Nat.le_of_ble_eq_true rfl) (by decide) (by decide) dX2_init_52 rfl (fun X16 l16 s16 p16 => ?_)
  have L16 : X16.length = n + 18 := l16
  have t16_k := s16 _ _ t15_k
  have q16_0 := (p16 _ _ (Nat.lt_of_lt_of_le hkn (Nat.le_add_right n 13))).trans q15_0
  refine ex_aastore (j := 2) (ci := 0) (m := n + 18) L16 (s16 _ _ (s15 _ _ (s14 _ _ (s13 _ _ (s12 _ _ (s11 _ _ (s10 _ _ (s9 _ _ (s8 _ _ (s7 _ _ (s6 _ _ (s5 _ _ (s4 _ _ (s3 _ _ (s2 _ _ z1))))))))))))))) (by decide) rfl (by decide) (s16 _ _ z15) (by decide) (by decide) dX2_init_55 rfl (fun X17 l17 s17 p17 => ?_)
  have L17 : X17.length = n + 18 := l17
  have t17_k := s17 _ _ t16_k
  have q17_0 := (p17.1 _ _ (fun w => Nat.ne_of_lt hkn w.1)).trans q16_0
  refine ev_iinc (v := (3 : Int32)) (lv' := [(1, .int (3 : Int32)), (0, .ref (h.1 + k))]) 0 dX2_init_56 rfl (by decide) (by decide) rfl ?_
  refine ev_goto (tgt := 38) dX2_init_59 (by decide) ?_
  refine ev_iload_n 0 dX2_init_38 rfl rfl ?_
  refine ev_iconst (v := (3 : Int32)) dX2_init_39 (by decide) ?_
  refine ev_icmp_gt (tgt := 62) dX2_init_40 (by decide) (fun hh => absurd hh (by decide)) (fun _ => ?_)
  refine ev_aload_n 1 dX2_init_43 rfl rfl ?_
  refine ex_getR (r := n) (q := 47) t17_k q17_0 fl2_11 rfl dX2_init_44 rfl ?_
  refine ev_iload_n 0 dX2_init_47 rfl rfl ?_
  refine ex_new (ci := 0) (m := n + 18) L17 (by decide) (TT_1 152 rfl rfl) (TT_1 29 rfl rfl) (TT_1 3 rfl rfl) (by decide) (by decide) dX2_init_48 rfl (fun X18 l18 s18 p18 z18 => ?_)
  have L18 : X18.length = n + 19 := l18
  have t18_k := s18 _ _ t17_k
  have q18_0 := (p18 _ _ (Nat.lt_of_lt_of_le hkn (Nat.le_add_right n 18))).trans q17_0
  refine ev_dup dX2_init_51 rfl ?_
  refine ex_callN (m := n + 19) L18 z18 okxX0_init (opkX0_init _) (oppX0_init _) calX0_init (List.mem_of_getElem? (i := 3) rfl) (by decide) (Nat.le_of_ble_eq_true rfl) (by decide) (by decide) dX2_init_52 rfl (fun X19 l19 s19 p19 => ?_)
  have L19 : X19.length = n + 23 := l19
  have t19_k := s19 _ _ t18_k
  have q19_0 := (p19 _ _ (Nat.lt_of_lt_of_le hkn (Nat.le_add_right n 18))).trans q18_0
  refine ex_aastore (j := 3) (ci := 0) (m := n + 23) L19 (s19 _ _ (s18 _ _ (s17 _ _ (s16 _ _ (s15 _ _ (s14 _ _ (s13 _ _ (s12 _ _ (s11 _ _ (s10 _ _ (s9 _ _ (s8 _ _ (s7 _ _ (s6 _ _ (s5 _ _ (s4 _ _ (s3 _ _ (s2 _ _ z1)))))))))))))))))) (by decide) rfl (by decide) (s19 _ _ z18) (by decide) (by decide) dX2_init_55 rfl (fun X20 l20 s20 p20 => ?_)
  have L20 : X20.length = n + 23 := l20
  have t20_k := s20 _ _ t19_k
  have q20_0 := (p20.1 _ _ (fun w => Nat.ne_of_lt hkn w.1)).trans q19_0
  refine ev_iinc (v := (4 : Int32)) (lv' := [(1, .int (4 : Int32)), (0, .ref (h.1 + k))]) 0 dX2_init_56 rfl (by decide) (by decide) rfl ?_
  refine ev_goto (tgt := 38) dX2_init_59 (by decide) ?_
  refine ev_iload_n 0 dX2_init_38 rfl rfl ?_
  refine ev_iconst (v := (3 : Int32)) dX2_init_39 (by decide) ?_
  refine ev_icmp_gt (tgt := 62) dX2_init_40 (by decide) (fun _ => ?_) (fun hh => absurd (by decide) hh)
  exact ex_ret rfl (by decide) (by decide) dX2_init_62
theorem dX5_init_0 : decode cX5_init 0 = .ok (.aload_n 0, 1) := by decide +kernel
theorem dX5_init_1 : decode cX5_init 1 = .ok (.invokespecial 1, 3) := by decide +kernel
theorem dX5_init_4 : decode cX5_init 4 = .ok (.aload_n 0, 1) := by decide +kernel
theorem dX5_init_5 : decode cX5_init 5 = .ok (.new 7, 3) := by decide +kernel
theorem dX5_init_8 : decode cX5_init 8 = .ok (.dup, 1) := by decide +kernel
theorem dX5_init_9 : decode cX5_init 9 = .ok (.invokespecial 9, 3) := by decide +kernel
theorem dX5_init_12 : decode cX5_init 12 = .ok (.putfield 10, 3) := by decide +kernel
theorem dX5_init_15 : decode cX5_init 15 = .ok (.aload_n 0, 1) := by decide +kernel
theorem dX5_init_16 : decode cX5_init 16 = .ok (.new 7, 3) := by decide +kernel
theorem dX5_init_19 : decode cX5_init 19 = .ok (.dup, 1) := by decide +kernel
theorem dX5_init_20 : decode cX5_init 20 = .ok (.invokespecial 9, 3) := by decide +kernel
theorem dX5_init_23 : decode cX5_init 23 = .ok (.putfield 16, 3) := by decide +kernel
theorem dX5_init_26 : decode cX5_init 26 = .ok (.aload_n 0, 1) := by decide +kernel
theorem dX5_init_27 : decode cX5_init 27 = .ok (.new 7, 3) := by decide +kernel
theorem dX5_init_30 : decode cX5_init 30 = .ok (.dup, 1) := by decide +kernel
theorem dX5_init_31 : decode cX5_init 31 = .ok (.invokespecial 9, 3) := by decide +kernel
theorem dX5_init_34 : decode cX5_init 34 = .ok (.putfield 19, 3) := by decide +kernel
theorem dX5_init_37 : decode cX5_init 37 = .ok (.aload_n 0, 1) := by decide +kernel
theorem dX5_init_38 : decode cX5_init 38 = .ok (.new 22, 3) := by decide +kernel
theorem dX5_init_41 : decode cX5_init 41 = .ok (.dup, 1) := by decide +kernel
theorem dX5_init_42 : decode cX5_init 42 = .ok (.invokespecial 24, 3) := by decide +kernel
theorem dX5_init_45 : decode cX5_init 45 = .ok (.putfield 25, 3) := by decide +kernel
theorem dX5_init_48 : decode cX5_init 48 = .ok (.aload_n 0, 1) := by decide +kernel
theorem dX5_init_49 : decode cX5_init 49 = .ok (.new 29, 3) := by decide +kernel
theorem dX5_init_52 : decode cX5_init 52 = .ok (.dup, 1) := by decide +kernel
theorem dX5_init_53 : decode cX5_init 53 = .ok (.invokespecial 31, 3) := by decide +kernel
theorem dX5_init_56 : decode cX5_init 56 = .ok (.putfield 32, 3) := by decide +kernel
theorem dX5_init_59 : decode cX5_init 59 = .ok (.aload_n 0, 1) := by decide +kernel
theorem dX5_init_60 : decode cX5_init 60 = .ok (.bipush 8, 2) := by decide +kernel
theorem dX5_init_62 : decode cX5_init 62 = .ok (.anewarray 36, 3) := by decide +kernel
theorem dX5_init_65 : decode cX5_init 65 = .ok (.putfield 38, 3) := by decide +kernel
theorem dX5_init_68 : decode cX5_init 68 = .ok (.aload_n 0, 1) := by decide +kernel
theorem dX5_init_69 : decode cX5_init 69 = .ok (.new 42, 3) := by decide +kernel
theorem dX5_init_72 : decode cX5_init 72 = .ok (.dup, 1) := by decide +kernel
theorem dX5_init_73 : decode cX5_init 73 = .ok (.invokespecial 44, 3) := by decide +kernel
theorem dX5_init_76 : decode cX5_init 76 = .ok (.putfield 45, 3) := by decide +kernel
theorem dX5_init_79 : decode cX5_init 79 = .ok (.aload_n 0, 1) := by decide +kernel
theorem dX5_init_80 : decode cX5_init 80 = .ok (.bipush 7, 2) := by decide +kernel
theorem dX5_init_82 : decode cX5_init 82 = .ok (.newarray .int, 2) := by decide +kernel
theorem dX5_init_84 : decode cX5_init 84 = .ok (.putfield 49, 3) := by decide +kernel
theorem dX5_init_87 : decode cX5_init 87 = .ok (.aload_n 0, 1) := by decide +kernel
theorem dX5_init_88 : decode cX5_init 88 = .ok (.iconst 0, 1) := by decide +kernel
theorem dX5_init_89 : decode cX5_init 89 = .ok (.putfield 53, 3) := by decide +kernel
theorem dX5_init_92 : decode cX5_init 92 = .ok (.iconst 0, 1) := by decide +kernel
theorem dX5_init_93 : decode cX5_init 93 = .ok (.istore_n 1, 1) := by decide +kernel
theorem dX5_init_94 : decode cX5_init 94 = .ok (.iload_n 1, 1) := by decide +kernel
theorem dX5_init_95 : decode cX5_init 95 = .ok (.bipush 8, 2) := by decide +kernel
theorem dX5_init_97 : decode cX5_init 97 = .ok (.if_icmp .ge 22, 3) := by decide +kernel
theorem dX5_init_100 : decode cX5_init 100 = .ok (.aload_n 0, 1) := by decide +kernel
theorem dX5_init_101 : decode cX5_init 101 = .ok (.getfield 38, 3) := by decide +kernel
theorem dX5_init_104 : decode cX5_init 104 = .ok (.iload_n 1, 1) := by decide +kernel
theorem dX5_init_105 : decode cX5_init 105 = .ok (.new 36, 3) := by decide +kernel
theorem dX5_init_108 : decode cX5_init 108 = .ok (.dup, 1) := by decide +kernel
theorem dX5_init_109 : decode cX5_init 109 = .ok (.invokespecial 57, 3) := by decide +kernel
theorem dX5_init_112 : decode cX5_init 112 = .ok (.aastore, 1) := by decide +kernel
theorem dX5_init_113 : decode cX5_init 113 = .ok (.iinc 1 1, 3) := by decide +kernel
theorem dX5_init_116 : decode cX5_init 116 = .ok (.goto (-22), 3) := by decide +kernel
theorem dX5_init_119 : decode cX5_init 119 = .ok (.return_, 1) := by decide +kernel
def oX5_init (k n : Nat) : List (LX → LX) := [addC (4, 0), (fun X => gX4_init X n), setR k 0 (some n), addC (4, 0), (fun X => gX4_init X (n + 9)), setR k 1 (some (n + 9)), addC (4, 0), (fun X => gX4_init X (n + 18)), setR k 2 (some (n + 18)), addC (0, 0), (fun X => gX0_init X (n + 27)), setR k 3 (some (n + 27)), addC (2, 0), (fun X => gX2_init X (n + 32)), setR k 4 (some (n + 32)), addC (12, 8), setR k 5 (some (n + 56)), addC (1, 0), (fun X => gX1_init X (n + 57)), setR k 6 (some (n + 57)), addC (10, 7), setR k 7 (some (n + 59)), setI k 8 (0 : Int32), addC (3, 0), (fun X => gX3_init X (n + 60)), setR (n + 56) 0 (some (n + 60)), addC (3, 0), (fun X => gX3_init X (n + 62)), setR (n + 56) 1 (some (n + 62)), addC (3, 0), (fun X => gX3_init X (n + 64)), setR (n + 56) 2 (some (n + 64)), addC (3, 0), (fun X => gX3_init X (n + 66)), setR (n + 56) 3 (some (n + 66)), addC (3, 0), (fun X => gX3_init X (n + 68)), setR (n + 56) 4 (some (n + 68)), addC (3, 0), (fun X => gX3_init X (n + 70)), setR (n + 56) 5 (some (n + 70)), addC (3, 0), (fun X => gX3_init X (n + 72)), setR (n + 56) 6 (some (n + 72)), addC (3, 0), (fun X => gX3_init X (n + 74)), setR (n + 56) 7 (some (n + 74))]
def gX5_init (X : LX) (k : Nat) : LX := runX (oX5_init k X.length) X
set_option maxRecDepth 100000 in
set_option maxHeartbeats 4000000 in
theorem okxX5_init : MtX 4 mX5_init 76 1167 5 gX5_init := by
  refine MtX.of (by decide +kernel) rfl (by decide) oX5_init (fun _ _ => rfl) (fun G h X k n l0 s0 => ?_)
  have hkn : k < n := by have := cSh_lt s0; omega
  unfold oX5_init
  refine ev_aload_n 0 dX5_init_0 rfl rfl ?_
  refine ev_objInit (TT_1 19 rfl rfl) objI objC (by decide) (by decide) dX5_init_1 ?_
  refine ev_aload_n 0 dX5_init_4 rfl rfl ?_
  refine ex_new (ci := 4) (m := n) l0 (by decide) (TT_1 22 rfl rfl) (TT_1 23 rfl rfl) (TT_1 2 rfl rfl) (by decide) (by decide) dX5_init_5 rfl (fun X1 l1 s1 p1 z1 => ?_)
  have L1 : X1.length = n + 1 := l1
  have t1_k := s1 _ _ s0
  refine ev_dup dX5_init_8 rfl ?_
  refine ex_callN (m := n + 1) L1 z1 okxX4_init (opkX4_init _) (oppX4_init _) calX4_init (List.mem_of_getElem? (i := 0) rfl) (by decide) (Nat.le_of_ble_eq_true rfl) (by decide) (by decide) dX5_init_9 rfl (fun X2 l2 s2 p2 => ?_)
  have L2 : X2.length = n + 9 := l2
  have t2_k := s2 _ _ t1_k
  refine ex_putF (m := n + 9) L2 t2_k fl5_10 rfl rfl rfl rfl (fun _ => rfl) (fun _ => rfl) dX5_init_12 rfl (fun X3 l3 s3 p3 => ?_)
  have L3 : X3.length = n + 9 := l3
  have t3_k := s3 _ _ t2_k
  refine ev_aload_n 0 dX5_init_15 rfl rfl ?_
  refine ex_new (ci := 4) (m := n + 9) L3 (by decide) (TT_1 22 rfl rfl) (TT_1 23 rfl rfl) (TT_1 2 rfl rfl) (by decide) (by decide) dX5_init_16 rfl (fun X4 l4 s4 p4 z4 => ?_)
  have L4 : X4.length = n + 10 := l4
  have t4_k := s4 _ _ t3_k
  refine ev_dup dX5_init_19 rfl ?_
  refine ex_callN (m := n + 10) L4 z4 okxX4_init (opkX4_init _) (oppX4_init _) calX4_init (List.mem_of_getElem? (i := 0) rfl) (by decide) (Nat.le_of_ble_eq_true rfl) (by decide) (by decide) dX5_init_20 rfl (fun X5 l5 s5 p5 => ?_)
  have L5 : X5.length = n + 18 := l5
  have t5_k := s5 _ _ t4_k
  refine ex_putF (m := n + 18) L5 t5_k fl5_16 rfl rfl rfl rfl (fun _ => rfl) (fun _ => rfl) dX5_init_23 rfl (fun X6 l6 s6 p6 => ?_)
  have L6 : X6.length = n + 18 := l6
  have t6_k := s6 _ _ t5_k
  refine ev_aload_n 0 dX5_init_26 rfl rfl ?_
  refine ex_new (ci := 4) (m := n + 18) L6 (by decide) (TT_1 22 rfl rfl) (TT_1 23 rfl rfl) (TT_1 2 rfl rfl) (by decide) (by decide) dX5_init_27 rfl (fun X7 l7 s7 p7 z7 => ?_)
  have L7 : X7.length = n + 19 := l7
  have t7_k := s7 _ _ t6_k
  refine ev_dup dX5_init_30 rfl ?_
  refine ex_callN (m := n + 19) L7 z7 okxX4_init (opkX4_init _) (oppX4_init _) calX4_init (List.mem_of_getElem? (i := 0) rfl) (by decide) (Nat.le_of_ble_eq_true rfl) (by decide) (by decide) dX5_init_31 rfl (fun X8 l8 s8 p8 => ?_)
  have L8 : X8.length = n + 27 := l8
  have t8_k := s8 _ _ t7_k
  refine ex_putF (m := n + 27) L8 t8_k fl5_19 rfl rfl rfl rfl (fun _ => rfl) (fun _ => rfl) dX5_init_34 rfl (fun X9 l9 s9 p9 => ?_)
  have L9 : X9.length = n + 27 := l9
  have t9_k := s9 _ _ t8_k
  refine ev_aload_n 0 dX5_init_37 rfl rfl ?_
  refine ex_new (ci := 0) (m := n + 27) L9 (by decide) (TT_1 144 rfl rfl) (TT_1 29 rfl rfl) (TT_1 3 rfl rfl) (by decide) (by decide) dX5_init_38 rfl (fun X10 l10 s10 p10 z10 => ?_)
  have L10 : X10.length = n + 28 := l10
  have t10_k := s10 _ _ t9_k
  refine ev_dup dX5_init_41 rfl ?_
  refine ex_callN (m := n + 28) L10 z10 okxX0_init (opkX0_init _) (oppX0_init _) calX0_init (List.mem_of_getElem? (i := 2) rfl) (by decide) (Nat.le_of_ble_eq_true rfl) (by decide) (by decide) dX5_init_42 rfl (fun X11 l11 s11 p11 => ?_)
  have L11 : X11.length = n + 32 := l11
  have t11_k := s11 _ _ t10_k
  refine ex_putF (m := n + 32) L11 t11_k fl5_25 rfl rfl rfl rfl (fun _ => rfl) (fun _ => rfl) dX5_init_45 rfl (fun X12 l12 s12 p12 => ?_)
  have L12 : X12.length = n + 32 := l12
  have t12_k := s12 _ _ t11_k
  refine ev_aload_n 0 dX5_init_48 rfl rfl ?_
  refine ex_new (ci := 2) (m := n + 32) L12 (by decide) (TT_1 146 rfl rfl) (TT_1 147 rfl rfl) (TT_1 4 rfl rfl) (by decide) (by decide) dX5_init_49 rfl (fun X13 l13 s13 p13 z13 => ?_)
  have L13 : X13.length = n + 33 := l13
  have t13_k := s13 _ _ t12_k
  refine ev_dup dX5_init_52 rfl ?_
  refine ex_callI (m := n + 33) L13 z13 okxX2_init (opkX2_init _) (oppX2_init _) calX2_init ml5_31 (by decide) (Nat.le_of_ble_eq_true rfl) (by decide) (by decide) dX5_init_53 rfl (fun X14 l14 s14 p14 => ?_)
  have L14 : X14.length = n + 56 := l14
  have t14_k := s14 _ _ t13_k
  refine ex_putF (m := n + 56) L14 t14_k fl5_32 rfl rfl rfl rfl (fun _ => rfl) (fun _ => rfl) dX5_init_56 rfl (fun X15 l15 s15 p15 => ?_)
  have L15 : X15.length = n + 56 := l15
  have t15_k := s15 _ _ t14_k
  refine ev_aload_n 0 dX5_init_59 rfl rfl ?_
  refine ev_bipush (v := (8 : Int32)) dX5_init_60 (by decide) ?_
  refine ex_newR (N := 8) (t := 12) (C := RX3) (m := n + 56) L15 (by decide) (by decide) rfl (by decide) (TT_1 173 rfl rfl) (by decide) (by decide) (by decide) (by decide) (by decide) dX5_init_62 rfl (fun X16 l16 s16 p16 z16 => ?_)
  have L16 : X16.length = n + 57 := l16
  have t16_k := s16 _ _ t15_k
  refine ex_putF (m := n + 57) L16 t16_k fl5_38 rfl rfl rfl rfl (fun _ => rfl) (fun _ => rfl) dX5_init_65 rfl (fun X17 l17 s17 p17 => ?_)
  have L17 : X17.length = n + 57 := l17
  have t17_k := s17 _ _ t16_k
  refine ev_aload_n 0 dX5_init_68 rfl rfl ?_
  refine ex_new (ci := 1) (m := n + 57) L17 (by decide) (TT_1 175 rfl rfl) (TT_1 176 rfl rfl) (TT_1 5 rfl rfl) (by decide) (by decide) dX5_init_69 rfl (fun X18 l18 s18 p18 z18 => ?_)
  have L18 : X18.length = n + 58 := l18
  have t18_k := s18 _ _ t17_k
  have q18_5 := (p18 _ _ (Nat.lt_of_lt_of_le hkn (Nat.le_add_right n 57))).trans p17.2
  refine ev_dup dX5_init_72 rfl ?_
  refine ex_callN (m := n + 58) L18 z18 okxX1_init (opkX1_init _) (oppX1_init _) calX1_init (List.mem_of_getElem? (i := 4) rfl) (by decide) (Nat.le_of_ble_eq_true rfl) (by decide) (by decide) dX5_init_73 rfl (fun X19 l19 s19 p19 => ?_)
  have L19 : X19.length = n + 59 := l19
  have t19_k := s19 _ _ t18_k
  have q19_5 := (p19 _ _ (Nat.lt_of_lt_of_le hkn (Nat.le_add_right n 57))).trans q18_5
  refine ex_putF (m := n + 59) L19 t19_k fl5_45 rfl rfl rfl rfl (fun _ => rfl) (fun _ => rfl) dX5_init_76 rfl (fun X20 l20 s20 p20 => ?_)
  have L20 : X20.length = n + 59 := l20
  have t20_k := s20 _ _ t19_k
  have q20_5 := (p20.1 _ _ (fun w => absurd w.2 (by decide))).trans q19_5
  refine ev_aload_n 0 dX5_init_79 rfl rfl ?_
  refine ev_bipush (v := (7 : Int32)) dX5_init_80 (by decide) ?_
  refine ex_newI (N := 7) (m := n + 59) L20 arrI (by decide) (by decide) (by decide) (by decide) (by decide) dX5_init_82 rfl (fun X21 l21 s21 p21 z21 => ?_)
  have L21 : X21.length = n + 60 := l21
  have t21_k := s21 _ _ t20_k
  have q21_5 := (p21 _ _ (Nat.lt_of_lt_of_le hkn (Nat.le_add_right n 59))).trans q20_5
  refine ex_putF (m := n + 60) L21 t21_k fl5_49 rfl rfl rfl rfl (fun _ => rfl) (fun _ => rfl) dX5_init_84 rfl (fun X22 l22 s22 p22 => ?_)
  have L22 : X22.length = n + 60 := l22
  have t22_k := s22 _ _ t21_k
  have q22_5 := (p22.1 _ _ (fun w => absurd w.2 (by decide))).trans q21_5
  refine ev_aload_n 0 dX5_init_87 rfl rfl ?_
  refine ev_iconst (v := (0 : Int32)) dX5_init_88 (by decide) ?_
  refine ex_putI (m := n + 60) L22 t22_k fl5_53 rfl rfl (by decide) (by decide) dX5_init_89 rfl (fun X23 l23 s23 p23 => ?_)
  have L23 : X23.length = n + 60 := l23
  have t23_k := s23 _ _ t22_k
  have q23_5 := (p23 _ _).trans q22_5
  refine ev_iconst (v := (0 : Int32)) dX5_init_92 (by decide) ?_
  refine ev_istore_n (lv' := [(1, .int (0 : Int32)), (0, .ref (h.1 + k))]) dX5_init_93 rfl (by decide) rfl ?_
  refine ev_iload_n 0 dX5_init_94 rfl rfl ?_
  refine ev_bipush (v := (8 : Int32)) dX5_init_95 (by decide) ?_
  refine ev_icmp_ge (tgt := 119) dX5_init_97 (by decide) (fun hh => absurd hh (by decide)) (fun _ => ?_)
  refine ev_aload_n 1 dX5_init_100 rfl rfl ?_
  refine ex_getR (r := n + 56) (q := 104) t23_k q23_5 fl5_38 rfl dX5_init_101 rfl ?_
  refine ev_iload_n 0 dX5_init_104 rfl rfl ?_
  refine ex_new (ci := 3) (m := n + 60) L23 (by decide) (TT_1 173 rfl rfl) (TT_1 201 rfl rfl) (TT_1 6 rfl rfl) (by decide) (by decide) dX5_init_105 rfl (fun X24 l24 s24 p24 z24 => ?_)
  have L24 : X24.length = n + 61 := l24
  have t24_k := s24 _ _ t23_k
  have q24_5 := (p24 _ _ (Nat.lt_of_lt_of_le hkn (Nat.le_add_right n 60))).trans q23_5
  refine ev_dup dX5_init_108 rfl ?_
  refine ex_callN (m := n + 61) L24 z24 okxX3_init (opkX3_init _) (oppX3_init _) calX3_init (List.mem_of_getElem? (i := 5) rfl) (by decide) (Nat.le_of_ble_eq_true rfl) (by decide) (by decide) dX5_init_109 rfl (fun X25 l25 s25 p25 => ?_)
  have L25 : X25.length = n + 62 := l25
  have t25_k := s25 _ _ t24_k
  have q25_5 := (p25 _ _ (Nat.lt_of_lt_of_le hkn (Nat.le_add_right n 60))).trans q24_5
  refine ex_aastore (j := 0) (ci := 3) (m := n + 62) L25 (s25 _ _ (s24 _ _ (s23 _ _ (s22 _ _ (s21 _ _ (s20 _ _ (s19 _ _ (s18 _ _ (s17 _ _ z16))))))))) (by decide) rfl (by decide) (s25 _ _ z24) (by decide) (by decide) dX5_init_112 rfl (fun X26 l26 s26 p26 => ?_)
  have L26 : X26.length = n + 62 := l26
  have t26_k := s26 _ _ t25_k
  have q26_5 := (p26.1 _ _ (fun w => Nat.ne_of_lt (Nat.lt_of_lt_of_le hkn (Nat.le_add_right n 56)) w.1)).trans q25_5
  refine ev_iinc (v := (1 : Int32)) (lv' := [(1, .int (1 : Int32)), (0, .ref (h.1 + k))]) 0 dX5_init_113 rfl (by decide) (by decide) rfl ?_
  refine ev_goto (tgt := 94) dX5_init_116 (by decide) ?_
  refine ev_iload_n 0 dX5_init_94 rfl rfl ?_
  refine ev_bipush (v := (8 : Int32)) dX5_init_95 (by decide) ?_
  refine ev_icmp_ge (tgt := 119) dX5_init_97 (by decide) (fun hh => absurd hh (by decide)) (fun _ => ?_)
  refine ev_aload_n 1 dX5_init_100 rfl rfl ?_
  refine ex_getR (r := n + 56) (q := 104) t26_k q26_5 fl5_38 rfl dX5_init_101 rfl ?_
  refine ev_iload_n 0 dX5_init_104 rfl rfl ?_
  refine ex_new (ci := 3) (m := n + 62) L26 (by decide) (TT_1 173 rfl rfl) (TT_1 201 rfl rfl) (TT_1 6 rfl rfl) (by decide) (by decide) dX5_init_105 rfl (fun X27 l27 s27 p27 z27 => ?_)
  have L27 : X27.length = n + 63 := l27
  have t27_k := s27 _ _ t26_k
  have q27_5 := (p27 _ _ (Nat.lt_of_lt_of_le hkn (Nat.le_add_right n 62))).trans q26_5
  refine ev_dup dX5_init_108 rfl ?_
  refine ex_callN (m := n + 63) L27 z27 okxX3_init (opkX3_init _) (oppX3_init _) calX3_init (List.mem_of_getElem? (i := 5) rfl) (by decide) (Nat.le_of_ble_eq_true rfl) (by decide) (by decide) dX5_init_109 rfl (fun X28 l28 s28 p28 => ?_)
  have L28 : X28.length = n + 64 := l28
  have t28_k := s28 _ _ t27_k
  have q28_5 := (p28 _ _ (Nat.lt_of_lt_of_le hkn (Nat.le_add_right n 62))).trans q27_5
  refine ex_aastore (j := 1) (ci := 3) (m := n + 64) L28 (s28 _ _ (s27 _ _ (s26 _ _ (s25 _ _ (s24 _ _ (s23 _ _ (s22 _ _ (s21 _ _ (s20 _ _ (s19 _ _ (s18 _ _ (s17 _ _ z16)))))))))))) (by decide) rfl (by decide) (s28 _ _ z27) (by decide) (by decide) dX5_init_112 rfl (fun X29 l29 s29 p29 => ?_)
  have L29 : X29.length = n + 64 := l29
  have t29_k := s29 _ _ t28_k
  have q29_5 := (p29.1 _ _ (fun w => Nat.ne_of_lt (Nat.lt_of_lt_of_le hkn (Nat.le_add_right n 56)) w.1)).trans q28_5
  refine ev_iinc (v := (2 : Int32)) (lv' := [(1, .int (2 : Int32)), (0, .ref (h.1 + k))]) 0 dX5_init_113 rfl (by decide) (by decide) rfl ?_
  refine ev_goto (tgt := 94) dX5_init_116 (by decide) ?_
  refine ev_iload_n 0 dX5_init_94 rfl rfl ?_
  refine ev_bipush (v := (8 : Int32)) dX5_init_95 (by decide) ?_
  refine ev_icmp_ge (tgt := 119) dX5_init_97 (by decide) (fun hh => absurd hh (by decide)) (fun _ => ?_)
  refine ev_aload_n 1 dX5_init_100 rfl rfl ?_
  refine ex_getR (r := n + 56) (q := 104) t29_k q29_5 fl5_38 rfl dX5_init_101 rfl ?_
  refine ev_iload_n 0 dX5_init_104 rfl rfl ?_
  refine ex_new (ci := 3) (m := n + 64) L29 (by decide) (TT_1 173 rfl rfl) (TT_1 201 rfl rfl) (TT_1 6 rfl rfl) (by decide) (by decide) dX5_init_105 rfl (fun X30 l30 s30 p30 z30 => ?_)
  have L30 : X30.length = n + 65 := l30
  have t30_k := s30 _ _ t29_k
  have q30_5 := (p30 _ _ (Nat.lt_of_lt_of_le hkn (Nat.le_add_right n 64))).trans q29_5
  refine ev_dup dX5_init_108 rfl ?_
  refine ex_callN (m := n + 65) L30 z30 okxX3_init (opkX3_init _) (oppX3_init _) calX3_init (List.mem_of_getElem? (i := 5) rfl) (by decide) (Nat.le_of_ble_eq_true rfl) (by decide) (by decide) dX5_init_109 rfl (fun X31 l31 s31 p31 => ?_)
  have L31 : X31.length = n + 66 := l31
  have t31_k := s31 _ _ t30_k
  have q31_5 := (p31 _ _ (Nat.lt_of_lt_of_le hkn (Nat.le_add_right n 64))).trans q30_5
  refine ex_aastore (j := 2) (ci := 3) (m := n + 66) L31 (s31 _ _ (s30 _ _ (s29 _ _ (s28 _ _ (s27 _ _ (s26 _ _ (s25 _ _ (s24 _ _ (s23 _ _ (s22 _ _ (s21 _ _ (s20 _ _ (s19 _ _ (s18 _ _ (s17 _ _ z16))))))))))))))) (by decide) rfl (by decide) (s31 _ _ z30) (by decide) (by decide) dX5_init_112 rfl (fun X32 l32 s32 p32 => ?_)
  have L32 : X32.length = n + 66 := l32
  have t32_k := s32 _ _ t31_k
  have q32_5 := (p32.1 _ _ (fun w => Nat.ne_of_lt (Nat.lt_of_lt_of_le hkn (Nat.le_add_right n 56)) w.1)).trans q31_5
  refine ev_iinc (v := (3 : Int32)) (lv' := [(1, .int (3 : Int32)), (0, .ref (h.1 + k))]) 0 dX5_init_113 rfl (by decide) (by decide) rfl ?_
  refine ev_goto (tgt := 94) dX5_init_116 (by decide) ?_
  refine ev_iload_n 0 dX5_init_94 rfl rfl ?_
  refine ev_bipush (v := (8 : Int32)) dX5_init_95 (by decide) ?_
  refine ev_icmp_ge (tgt := 119) dX5_init_97 (by decide) (fun hh => absurd hh (by decide)) (fun _ => ?_)
  refine ev_aload_n 1 dX5_init_100 rfl rfl ?_
  refine ex_getR (r := n + 56) (q := 104) t32_k q32_5 fl5_38 rfl dX5_init_101 rfl ?_
  refine ev_iload_n 0 dX5_init_104 rfl rfl ?_
  refine ex_new (ci := 3) (m := n + 66) L32 (by decide) (TT_1 173 rfl rfl) (TT_1 201 rfl rfl) (TT_1 6 rfl rfl) (by decide) (by decide) dX5_init_105 rfl (fun X33 l33 s33 p33 z33 => ?_)
  have L33 : X33.length = n + 67 := l33
  have t33_k := s33 _ _ t32_k
  have q33_5 := (p33 _ _ (Nat.lt_of_lt_of_le hkn (Nat.le_add_right n 66))).trans q32_5
  refine ev_dup dX5_init_108 rfl ?_
  refine ex_callN (m := n + 67) L33 z33 okxX3_init (opkX3_init _) (oppX3_init _) calX3_init (List.mem_of_getElem? (i := 5) rfl) (by decide) (Nat.le_of_ble_eq_true rfl) (by decide) (by decide) dX5_init_109 rfl (fun X34 l34 s34 p34 => ?_)
  have L34 : X34.length = n + 68 := l34
  have t34_k := s34 _ _ t33_k
  have q34_5 := (p34 _ _ (Nat.lt_of_lt_of_le hkn (Nat.le_add_right n 66))).trans q33_5
  refine ex_aastore (j := 3) (ci := 3) (m := n + 68) L34 (s34 _ _ (s33 _ _ (s32 _ _ (s31 _ _ (s30 _ _ (s29 _ _ (s28 _ _ (s27 _ _ (s26 _ _ (s25 _ _ (s24 _ _ (s23 _ _ (s22 _ _ (s21 _ _ (s20 _ _ (s19 _ _ (s18 _ _ (s17 _ _ z16)))))))))))))))))) (by decide) rfl (by decide) (s34 _ _ z33) (by decide) (by decide) dX5_init_112 rfl (fun X35 l35 s35 p35 => ?_)
  have L35 : X35.length = n + 68 := l35
  have t35_k := s35 _ _ t34_k
  have q35_5 := (p35.1 _ _ (fun w => Nat.ne_of_lt (Nat.lt_of_lt_of_le hkn (Nat.le_add_right n 56)) w.1)).trans q34_5
  refine ev_iinc (v := (4 : Int32)) (lv' := [(1, .int (4 : Int32)), (0, .ref (h.1 + k))]) 0 dX5_init_113 rfl (by decide) (by decide) rfl ?_
  refine ev_goto (tgt := 94) dX5_init_116 (by decide) ?_
  refine ev_iload_n 0 dX5_init_94 rfl rfl ?_
  refine ev_bipush (v := (8 : Int32)) dX5_init_95 (by decide) ?_
  refine ev_icmp_ge (tgt := 119) dX5_init_97 (by decide) (fun hh => absurd hh (by decide)) (fun _ => ?_)
  refine ev_aload_n 1 dX5_init_100 rfl rfl ?_
  refine ex_getR (r := n + 56) (q := 104) t35_k q35_5 fl5_38 rfl dX5_init_101 rfl ?_
  refine ev_iload_n 0 dX5_init_104 rfl rfl ?_
  refine ex_new (ci := 3) (m := n + 68) L35 (by decide) (TT_1 173 rfl rfl) (TT_1 201 rfl rfl) (TT_1 6 rfl rfl) (by decide) (by decide) dX5_init_105 rfl (fun X36 l36 s36 p36 z36 => ?_)
  have L36 : X36.length = n + 69 := l36
  have t36_k := s36 _ _ t35_k
  have q36_5 := (p36 _ _ (Nat.lt_of_lt_of_le hkn (Nat.le_add_right n 68))).trans q35_5
  refine ev_dup dX5_init_108 rfl ?_
  refine ex_callN (m := n + 69) L36 z36 okxX3_init (opkX3_init _) (oppX3_init _) calX3_init (List.mem_of_getElem? (i := 5) rfl) (by decide) (Nat.le_of_ble_eq_true rfl) (by decide) (by decide) dX5_init_109 rfl (fun X37 l37 s37 p37 => ?_)
  have L37 : X37.length = n + 70 := l37
  have t37_k := s37 _ _ t36_k
  have q37_5 := (p37 _ _ (Nat.lt_of_lt_of_le hkn (Nat.le_add_right n 68))).trans q36_5
  refine ex_aastore (j := 4) (ci := 3) (m := n + 70) L37 (s37 _ _ (s36 _ _ (s35 _ _ (s34 _ _ (s33 _ _ (s32 _ _ (s31 _ _ (s30 _ _ (s29 _ _ (s28 _ _ (s27 _ _ (s26 _ _ (s25 _ _ (s24 _ _ (s23 _ _ (s22 _ _ (s21 _ _ (s20 _ _ (s19 _ _ (s18 _ _ (s17 _ _ z16))))))))))))))))))))) (by decide) rfl (by decide) (s37 _ _ z36) (by decide) (by decide) dX5_init_112 rfl (fun X38 l38 s38 p38 => ?_)
  have L38 : X38.length = n + 70 := l38
  have t38_k := s38 _ _ t37_k
  have q38_5 := (p38.1 _ _ (fun w => Nat.ne_of_lt (Nat.lt_of_lt_of_le hkn (Nat.le_add_right n 56)) w.1)).trans q37_5
  refine ev_iinc (v := (5 : Int32)) (lv' := [(1, .int (5 : Int32)), (0, .ref (h.1 + k))]) 0 dX5_init_113 rfl (by decide) (by decide) rfl ?_
  refine ev_goto (tgt := 94) dX5_init_116 (by decide) ?_
  refine ev_iload_n 0 dX5_init_94 rfl rfl ?_
  refine ev_bipush (v := (8 : Int32)) dX5_init_95 (by decide) ?_
  refine ev_icmp_ge (tgt := 119) dX5_init_97 (by decide) (fun hh => absurd hh (by decide)) (fun _ => ?_)
  refine ev_aload_n 1 dX5_init_100 rfl rfl ?_
  refine ex_getR (r := n + 56) (q := 104) t38_k q38_5 fl5_38 rfl dX5_init_101 rfl ?_
  refine ev_iload_n 0 dX5_init_104 rfl rfl ?_
  refine ex_new (ci := 3) (m := n + 70) L38 (by decide) (TT_1 173 rfl rfl) (TT_1 201 rfl rfl) (TT_1 6 rfl rfl) (by decide) (by decide) dX5_init_105 rfl (fun X39 l39 s39 p39 z39 => ?_)
  have L39 : X39.length = n + 71 := l39
  have t39_k := s39 _ _ t38_k
  have q39_5 := (p39 _ _ (Nat.lt_of_lt_of_le hkn (Nat.le_add_right n 70))).trans q38_5
  refine ev_dup dX5_init_108 rfl ?_
  refine ex_callN (m := n + 71) L39 z39 okxX3_init (opkX3_init _) (oppX3_init _) calX3_init (List.mem_of_getElem? (i := 5) rfl) (by decide) (Nat.le_of_ble_eq_true rfl) (by decide) (by decide) dX5_init_109 rfl (fun X40 l40 s40 p40 => ?_)
  have L40 : X40.length = n + 72 := l40
  have t40_k := s40 _ _ t39_k
  have q40_5 := (p40 _ _ (Nat.lt_of_lt_of_le hkn (Nat.le_add_right n 70))).trans q39_5
  refine ex_aastore (j := 5) (ci := 3) (m := n + 72) L40 (s40 _ _ (s39 _ _ (s38 _ _ (s37 _ _ (s36 _ _ (s35 _ _ (s34 _ _ (s33 _ _ (s32 _ _ (s31 _ _ (s30 _ _ (s29 _ _ (s28 _ _ (s27 _ _ (s26 _ _ (s25 _ _ (s24 _ _ (s23 _ _ (s22 _ _ (s21 _ _ (s20 _ _ (s19 _ _ (s18 _ _ (s17 _ _ z16)))))))))))))))))))))))) (by decide) rfl (by decide) (s40 _ _ z39) (by decide) (by decide) dX5_init_112 rfl (fun X41 l41 s41 p41 => ?_)
  have L41 : X41.length = n + 72 := l41
  have t41_k := s41 _ _ t40_k
  have q41_5 := (p41.1 _ _ (fun w => Nat.ne_of_lt (Nat.lt_of_lt_of_le hkn (Nat.le_add_right n 56)) w.1)).trans q40_5
  refine ev_iinc (v := (6 : Int32)) (lv' := [(1, .int (6 : Int32)), (0, .ref (h.1 + k))]) 0 dX5_init_113 rfl (by decide) (by decide) rfl ?_
  refine ev_goto (tgt := 94) dX5_init_116 (by decide) ?_
  refine ev_iload_n 0 dX5_init_94 rfl rfl ?_
  refine ev_bipush (v := (8 : Int32)) dX5_init_95 (by decide) ?_
  refine ev_icmp_ge (tgt := 119) dX5_init_97 (by decide) (fun hh => absurd hh (by decide)) (fun _ => ?_)
  refine ev_aload_n 1 dX5_init_100 rfl rfl ?_
  refine ex_getR (r := n + 56) (q := 104) t41_k q41_5 fl5_38 rfl dX5_init_101 rfl ?_
  refine ev_iload_n 0 dX5_init_104 rfl rfl ?_
  refine ex_new (ci := 3) (m := n + 72) L41 (by decide) (TT_1 173 rfl rfl) (TT_1 201 rfl rfl) (TT_1 6 rfl rfl) (by decide) (by decide) dX5_init_105 rfl (fun X42 l42 s42 p42 z42 => ?_)
  have L42 : X42.length = n + 73 := l42
  have t42_k := s42 _ _ t41_k
  have q42_5 := (p42 _ _ (Nat.lt_of_lt_of_le hkn (Nat.le_add_right n 72))).trans q41_5
  refine ev_dup dX5_init_108 rfl ?_
  refine ex_callN (m := n + 73) L42 z42 okxX3_init (opkX3_init _) (oppX3_init _) calX3_init (List.mem_of_getElem? (i := 5) rfl) (by decide) (Nat.le_of_ble_eq_true rfl) (by decide) (by decide) dX5_init_109 rfl (fun X43 l43 s43 p43 => ?_)
  have L43 : X43.length = n + 74 := l43
  have t43_k := s43 _ _ t42_k
  have q43_5 := (p43 _ _ (Nat.lt_of_lt_of_le hkn (Nat.le_add_right n 72))).trans q42_5
  refine ex_aastore (j := 6) (ci := 3) (m := n + 74) L43 (s43 _ _ (s42 _ _ (s41 _ _ (s40 _ _ (s39 _ _ (s38 _ _ (s37 _ _ (s36 _ _ (s35 _ _ (s34 _ _ (s33 _ _ (s32 _ _ (s31 _ _ (s30 _ _ (s29 _ _ (s28 _ _ (s27 _ _ (s26 _ _ (s25 _ _ (s24 _ _ (s23 _ _ (s22 _ _ (s21 _ _ (s20 _ _ (s19 _ _ (s18 _ _ (s17 _ _ z16))))))))))))))))))))))))))) (by decide) rfl (by decide) (s43 _ _ z42) (by decide) (by decide) dX5_init_112 rfl (fun X44 l44 s44 p44 => ?_)
  have L44 : X44.length = n + 74 := l44
  have t44_k := s44 _ _ t43_k
  have q44_5 := (p44.1 _ _ (fun w => Nat.ne_of_lt (Nat.lt_of_lt_of_le hkn (Nat.le_add_right n 56)) w.1)).trans q43_5
  refine ev_iinc (v := (7 : Int32)) (lv' := [(1, .int (7 : Int32)), (0, .ref (h.1 + k))]) 0 dX5_init_113 rfl (by decide) (by decide) rfl ?_
  refine ev_goto (tgt := 94) dX5_init_116 (by decide) ?_
  refine ev_iload_n 0 dX5_init_94 rfl rfl ?_
  refine ev_bipush (v := (8 : Int32)) dX5_init_95 (by decide) ?_
  refine ev_icmp_ge (tgt := 119) dX5_init_97 (by decide) (fun hh => absurd hh (by decide)) (fun _ => ?_)
  refine ev_aload_n 1 dX5_init_100 rfl rfl ?_
  refine ex_getR (r := n + 56) (q := 104) t44_k q44_5 fl5_38 rfl dX5_init_101 rfl ?_
  refine ev_iload_n 0 dX5_init_104 rfl rfl ?_
  refine ex_new (ci := 3) (m := n + 74) L44 (by decide) (TT_1 173 rfl rfl) (TT_1 201 rfl rfl) (TT_1 6 rfl rfl) (by decide) (by decide) dX5_init_105 rfl (fun X45 l45 s45 p45 z45 => ?_)
  have L45 : X45.length = n + 75 := l45
  have t45_k := s45 _ _ t44_k
  have q45_5 := (p45 _ _ (Nat.lt_of_lt_of_le hkn (Nat.le_add_right n 74))).trans q44_5
  refine ev_dup dX5_init_108 rfl ?_
  refine ex_callN (m := n + 75) L45 z45 okxX3_init (opkX3_init _) (oppX3_init _) calX3_init (List.mem_of_getElem? (i := 5) rfl) (by decide) (Nat.le_of_ble_eq_true rfl) (by decide) (by decide) dX5_init_109 rfl (fun X46 l46 s46 p46 => ?_)
  have L46 : X46.length = n + 76 := l46
  have t46_k := s46 _ _ t45_k
  have q46_5 := (p46 _ _ (Nat.lt_of_lt_of_le hkn (Nat.le_add_right n 74))).trans q45_5
  refine ex_aastore (j := 7) (ci := 3) (m := n + 76) L46 (s46 _ _ (s45 _ _ (s44 _ _ (s43 _ _ (s42 _ _ (s41 _ _ (s40 _ _ (s39 _ _ (s38 _ _ (s37 _ _ (s36 _ _ (s35 _ _ (s34 _ _ (s33 _ _ (s32 _ _ (s31 _ _ (s30 _ _ (s29 _ _ (s28 _ _ (s27 _ _ (s26 _ _ (s25 _ _ (s24 _ _ (s23 _ _ (s22 _ _ (s21 _ _ (s20 _ _ (s19 _ _ (s18 _ _ (s17 _ _ z16)))))))))))))))))))))))))))))) (by decide) rfl (by decide) (s46 _ _ z45) (by decide) (by decide) dX5_init_112 rfl (fun X47 l47 s47 p47 => ?_)
  have L47 : X47.length = n + 76 := l47
  have t47_k := s47 _ _ t46_k
  have q47_5 := (p47.1 _ _ (fun w => Nat.ne_of_lt (Nat.lt_of_lt_of_le hkn (Nat.le_add_right n 56)) w.1)).trans q46_5
  refine ev_iinc (v := (8 : Int32)) (lv' := [(1, .int (8 : Int32)), (0, .ref (h.1 + k))]) 0 dX5_init_113 rfl (by decide) (by decide) rfl ?_
  refine ev_goto (tgt := 94) dX5_init_116 (by decide) ?_
  refine ev_iload_n 0 dX5_init_94 rfl rfl ?_
  refine ev_bipush (v := (8 : Int32)) dX5_init_95 (by decide) ?_
  refine ev_icmp_ge (tgt := 119) dX5_init_97 (by decide) (fun _ => ?_) (fun hh => absurd (by decide) hh)
  exact ex_ret rfl (by decide) (by decide) dX5_init_119
