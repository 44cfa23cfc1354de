theorem dX4_init_0 : decode cX4_init 0 = .ok (.aload_n 0, 1) := by decide +kernel
theorem dX4_init_1 : decode cX4_init 1 = .ok (.invokespecial 3, 3) := by decide +kernel
theorem dX4_init_4 : decode cX4_init 4 = .ok (.aload_n 0, 1) := by decide +kernel
theorem dX4_init_5 : decode cX4_init 5 = .ok (.new 9, 3) := by decide +kernel
theorem dX4_init_8 : decode cX4_init 8 = .ok (.dup, 1) := by decide +kernel
theorem dX4_init_9 : decode cX4_init 9 = .ok (.invokespecial 11, 3) := by decide +kernel
theorem dX4_init_12 : decode cX4_init 12 = .ok (.putfield 12, 3) := by decide +kernel
theorem dX4_init_15 : decode cX4_init 15 = .ok (.aload_n 0, 1) := by decide +kernel
theorem dX4_init_16 : decode cX4_init 16 = .ok (.iconst 4, 1) := by decide +kernel
theorem dX4_init_17 : decode cX4_init 17 = .ok (.newarray .int, 2) := by decide +kernel
theorem dX4_init_19 : decode cX4_init 19 = .ok (.putfield 18, 3) := by decide +kernel
theorem dX4_init_22 : decode cX4_init 22 = .ok (.aload_n 0, 1) := by decide +kernel
theorem dX4_init_23 : decode cX4_init 23 = .ok (.iconst 4, 1) := by decide +kernel
theorem dX4_init_24 : decode cX4_init 24 = .ok (.newarray .int, 2) := by decide +kernel
theorem dX4_init_26 : decode cX4_init 26 = .ok (.putfield 22, 3) := by decide +kernel
theorem dX4_init_29 : decode cX4_init 29 = .ok (.aload_n 0, 1) := by decide +kernel
theorem dX4_init_30 : decode cX4_init 30 = .ok (.iconst 0, 1) := by decide +kernel
theorem dX4_init_31 : decode cX4_init 31 = .ok (.putfield 25, 3) := by decide +kernel
theorem dX4_init_34 : decode cX4_init 34 = .ok (.aload_n 0, 1) := by decide +kernel
theorem dX4_init_35 : decode cX4_init 35 = .ok (.bipush 20, 2) := by decide +kernel
theorem dX4_init_37 : decode cX4_init 37 = .ok (.newarray .int, 2) := by decide +kernel
theorem dX4_init_39 : decode cX4_init 39 = .ok (.putfield 29, 3) := by decide +kernel
theorem dX4_init_42 : decode cX4_init 42 = .ok (.aload_n 0, 1) := by decide +kernel
theorem dX4_init_43 : decode cX4_init 43 = .ok (.iconst 0, 1) := by decide +kernel
theorem dX4_init_44 : decode cX4_init 44 = .ok (.putfield 32, 3) := by decide +kernel
theorem dX4_init_47 : decode cX4_init 47 = .ok (.aload_n 0, 1) := by decide +kernel
theorem dX4_init_48 : decode cX4_init 48 = .ok (.iconst 1, 1) := by decide +kernel
theorem dX4_init_49 : decode cX4_init 49 = .ok (.putfield 35, 3) := by decide +kernel
theorem dX4_init_52 : decode cX4_init 52 = .ok (.return_, 1) := by decide +kernel
def oX4_init (k n : Nat) : List (LX → LX) := [addC (0, 0), (fun X => gX0_init X n), setR k 0 (some n), addC (10, 4), setR k 1 (some (n + 5)), addC (10, 4), setR k 2 (some (n + 6)), setI k 3 (0 : Int32), addC (10, 20), setR k 4 (some (n + 7)), setI k 5 (0 : Int32), setI k 6 (1 : Int32)]
def gX4_init (X : LX) (k : Nat) : LX := runX (oX4_init k X.length) X
set_option maxRecDepth 100000 in
set_option maxHeartbeats 4000000 in
theorem opkX4_init (k : Nat) : OpK 8 (fun X => gX4_init X k) := fun X => (show RunK 8 (oX4_init k X.length) from by unfold oX4_init; exact rk_eq (by decide) (rk_cons okp_addC (rk_cons (opkX0_init _) (rk_cons okp_setR (rk_cons okp_addC (rk_cons okp_setR (rk_cons okp_addC (rk_cons okp_setR (rk_cons okp_setI (rk_cons okp_addC (rk_cons okp_setR (rk_cons okp_setI (rk_cons okp_setI rk_nil))))))))))))) X
set_option maxRecDepth 100000 in
set_option maxHeartbeats 4000000 in
theorem oppX4_init (k : Nat) : OpP k (fun X => gX4_init X k) := fun X i j w v => by
  have hh : RunP (i + 1) (oX4_init k X.length) := by unfold oX4_init; exact (rp_cons okp_addC opp_addC (rp_cons (opkX0_init _) (opp_mono (by omega) (oppX0_init _)) (rp_cons okp_setR (opp_setR (by omega)) (rp_cons okp_addC opp_addC (rp_cons okp_setR (opp_setR (by omega)) (rp_cons okp_addC opp_addC (rp_cons okp_setR (opp_setR (by omega)) (rp_cons okp_setI opp_setI (rp_cons okp_addC opp_addC (rp_cons okp_setR (opp_setR (by omega)) (rp_cons okp_setI opp_setI (rp_cons okp_setI opp_setI rp_nil))))))))))))
  exact hh X i j (Nat.lt_succ_self i) v
set_option maxRecDepth 100000 in
set_option maxHeartbeats 4000000 in
theorem okxX4_init : MtX 3 mX4_init 8 82 4 gX4_init := by
  refine MtX.of (by decide +kernel) rfl (by decide) oX4_init (fun _ _ => rfl) (fun G h X k n l0 s0 => ?_)
  have hkn : k < n := by have := cSh_lt s0; omega
  unfold oX4_init
  refine ev_aload_n 0 dX4_init_0 rfl rfl ?_
  refine ev_objInit (TT_1 27 rfl rfl) objI objC (by decide) (by decide) dX4_init_1 ?_
  refine ev_aload_n 0 dX4_init_4 rfl rfl ?_
  refine ex_new (ci := 0) (m := n) l0 (by decide) (TT_1 28 rfl rfl) (TT_1 29 rfl rfl) (TT_1 3 rfl rfl) (by decide) (by decide) dX4_init_5 rfl (fun X1 l1 s1 p1 z1 => ?_)
  have L1 : X1.length = n + 1 := l1
  have t1_k := s1 _ _ s0
  refine ev_dup dX4_init_8 rfl ?_
  refine ex_callN (m := n + 1) L1 z1 okxX0_init (opkX0_init _) (oppX0_init _) calX0_init (List.mem_of_getElem? (i := 1) rfl) (by decide) (Nat.le_of_ble_eq_true rfl) (by decide) (by decide) dX4_init_9 rfl (fun X2 l2 s2 p2 => ?_)
  have L2 : X2.length = n + 5 := l2
  have t2_k := s2 _ _ t1_k
  refine ex_putF (m := n + 5) L2 t2_k fl4_12 rfl rfl rfl rfl (fun _ => rfl) (fun _ => rfl) dX4_init_12 rfl (fun X3 l3 s3 p3 => ?_)
  have L3 : X3.length = n + 5 := l3
  have t3_k := s3 _ _ t2_k
  refine ev_aload_n 0 dX4_init_15 rfl rfl ?_
  refine ev_iconst (v := (4 : Int32)) dX4_init_16 (by decide) ?_
  refine ex_newI (N := 4) (m := n + 5) L3 arrI (by decide) (by decide) (by decide) (by decide) (by decide) dX4_init_17 rfl (fun X4 l4 s4 p4 z4 => ?_)
  have L4 : X4.length = n + 6 := l4
  have t4_k := s4 _ _ t3_k
  refine ex_putF (m := n + 6) L4 t4_k fl4_18 rfl rfl rfl rfl (fun _ => rfl) (fun _ => rfl) dX4_init_19 rfl (fun X5 l5 s5 p5 => ?_)
  have L5 : X5.length = n + 6 := l5
  have t5_k := s5 _ _ t4_k
  refine ev_aload_n 0 dX4_init_22 rfl rfl ?_
  refine ev_iconst (v := (4 : Int32)) dX4_init_23 (by decide) ?_
  refine ex_newI (N := 4) (m := n + 6) L5 arrI (by decide) (by decide) (by decide) (by decide) (by decide) dX4_init_24 rfl (fun X6 l6 s6 p6 z6 => ?_)
  have L6 : X6.length = n + 7 := l6
  have t6_k := s6 _ _ t5_k
  refine ex_putF (m := n + 7) L6 t6_k fl4_22 rfl rfl rfl rfl (fun _ => rfl) (fun _ => rfl) dX4_init_26 rfl (fun X7 l7 s7 p7 => ?_)
  have L7 : X7.length = n + 7 := l7
  have t7_k := s7 _ _ t6_k
  refine ev_aload_n 0 dX4_init_29 rfl rfl ?_
  refine ev_iconst (v := (0 : Int32)) dX4_init_30 (by decide) ?_
  refine ex_putI (m := n + 7) L7 t7_k fl4_25 rfl rfl rfl rfl dX4_init_31 rfl (fun X8 l8 s8 p8 => ?_)
  have L8 : X8.length = n + 7 := l8
  have t8_k := s8 _ _ t7_k
  refine ev_aload_n 0 dX4_init_34 rfl rfl ?_
  refine ev_bipush (v := (20 : Int32)) dX4_init_35 (by decide) ?_
  refine ex_newI (N := 20) (m := n + 7) L8 arrI (by decide) (by decide) (by decide) (by decide) (by decide) dX4_init_37 rfl (fun X9 l9 s9 p9 z9 => ?_)
  have L9 : X9.length = n + 8 := l9
  have t9_k := s9 _ _ t8_k
  refine ex_putF (m := n + 8) L9 t9_k fl4_29 rfl rfl rfl rfl (fun _ => rfl) (fun _ => rfl) dX4_init_39 rfl (fun X10 l10 s10 p10 => ?_)
  have L10 : X10.length = n + 8 := l10
  have t10_k := s10 _ _ t9_k
  refine ev_aload_n 0 dX4_init_42 rfl rfl ?_
  refine ev_iconst (v := (0 : Int32)) dX4_init_43 (by decide) ?_
  refine ex_putI (m := n + 8) L10 t10_k fl4_32 rfl rfl rfl rfl dX4_init_44 rfl (fun X11 l11 s11 p11 => ?_)
  have L11 : X11.length = n + 8 := l11
  have t11_k := s11 _ _ t10_k
  refine ev_aload_n 0 dX4_init_47 rfl rfl ?_
  refine ev_iconst (v := (1 : Int32)) dX4_init_48 (by decide) ?_
  refine ex_putI (m := n + 8) L11 t11_k fl4_35 rfl rfl rfl rfl dX4_init_49 rfl (fun X12 l12 s12 p12 => ?_)
  have L12 : X12.length = n + 8 := l12
  have t12_k := s12 _ _ t11_k
  exact ex_ret rfl (by decide) (by decide) dX4_init_52
