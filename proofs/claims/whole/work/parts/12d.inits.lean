theorem objI : Cond.instanceMethod objectInit ∈ TT := TT_1 20 rfl rfl
theorem objC : Cond.code objectInit ⟨#[0xb1]⟩ 1 none ∈ TT := TT_1 21 rfl rfl
theorem arrI : Cond.arrayClass .int ∈ TT := TT_1 112 rfl rfl
theorem arrL : Cond.arrayClass .long ∈ TT := TT_1 219 rfl rfl
theorem dX0_init_0 : decode cX0_init 0 = .ok (.aload_n 0, 1) := by decide +kernel
theorem dX0_init_1 : decode cX0_init 1 = .ok (.invokespecial 3, 3) := by decide +kernel
theorem dX0_init_4 : decode cX0_init 4 = .ok (.aload_n 0, 1) := by decide +kernel
theorem dX0_init_5 : decode cX0_init 5 = .ok (.bipush 6, 2) := by decide +kernel
theorem dX0_init_7 : decode cX0_init 7 = .ok (.putfield 9, 3) := by decide +kernel
theorem dX0_init_10 : decode cX0_init 10 = .ok (.aload_n 0, 1) := by decide +kernel
theorem dX0_init_11 : decode cX0_init 11 = .ok (.iconst 0, 1) := by decide +kernel
theorem dX0_init_12 : decode cX0_init 12 = .ok (.putfield 15, 3) := by decide +kernel
theorem dX0_init_15 : decode cX0_init 15 = .ok (.aload_n 0, 1) := by decide +kernel
theorem dX0_init_16 : decode cX0_init 16 = .ok (.iconst 0, 1) := by decide +kernel
theorem dX0_init_17 : decode cX0_init 17 = .ok (.putfield 18, 3) := by decide +kernel
theorem dX0_init_20 : decode cX0_init 20 = .ok (.aload_n 0, 1) := by decide +kernel
theorem dX0_init_21 : decode cX0_init 21 = .ok (.iconst 5, 1) := by decide +kernel
theorem dX0_init_22 : decode cX0_init 22 = .ok (.putfield 21, 3) := by decide +kernel
theorem dX0_init_25 : decode cX0_init 25 = .ok (.aload_n 0, 1) := by decide +kernel
theorem dX0_init_26 : decode cX0_init 26 = .ok (.iconst 4, 1) := by decide +kernel
theorem dX0_init_27 : decode cX0_init 27 = .ok (.putfield 24, 3) := by decide +kernel
theorem dX0_init_30 : decode cX0_init 30 = .ok (.aload_n 0, 1) := by decide +kernel
theorem dX0_init_31 : decode cX0_init 31 = .ok (.bipush 6, 2) := by decide +kernel
theorem dX0_init_33 : decode cX0_init 33 = .ok (.putfield 27, 3) := by decide +kernel
theorem dX0_init_36 : decode cX0_init 36 = .ok (.aload_n 0, 1) := by decide +kernel
theorem dX0_init_37 : decode cX0_init 37 = .ok (.sipush 200, 3) := by decide +kernel
theorem dX0_init_40 : decode cX0_init 40 = .ok (.putfield 30, 3) := by decide +kernel
theorem dX0_init_43 : decode cX0_init 43 = .ok (.aload_n 0, 1) := by decide +kernel
theorem dX0_init_44 : decode cX0_init 44 = .ok (.iconst 0, 1) := by decide +kernel
theorem dX0_init_45 : decode cX0_init 45 = .ok (.putfield 33, 3) := by decide +kernel
theorem dX0_init_48 : decode cX0_init 48 = .ok (.aload_n 0, 1) := by decide +kernel
theorem dX0_init_49 : decode cX0_init 49 = .ok (.iconst 0, 1) := by decide +kernel
theorem dX0_init_50 : decode cX0_init 50 = .ok (.putfield 36, 3) := by decide +kernel
theorem dX0_init_53 : decode cX0_init 53 = .ok (.aload_n 0, 1) := by decide +kernel
theorem dX0_init_54 : decode cX0_init 54 = .ok (.iconst 0, 1) := by decide +kernel
theorem dX0_init_55 : decode cX0_init 55 = .ok (.putfield 39, 3) := by decide +kernel
theorem dX0_init_58 : decode cX0_init 58 = .ok (.aload_n 0, 1) := by decide +kernel
theorem dX0_init_59 : decode cX0_init 59 = .ok (.iconst 0, 1) := by decide +kernel
theorem dX0_init_60 : decode cX0_init 60 = .ok (.putfield 42, 3) := by decide +kernel
theorem dX0_init_63 : decode cX0_init 63 = .ok (.aload_n 0, 1) := by decide +kernel
theorem dX0_init_64 : decode cX0_init 64 = .ok (.iconst 0, 1) := by decide +kernel
theorem dX0_init_65 : decode cX0_init 65 = .ok (.putfield 45, 3) := by decide +kernel
theorem dX0_init_68 : decode cX0_init 68 = .ok (.aload_n 0, 1) := by decide +kernel
theorem dX0_init_69 : decode cX0_init 69 = .ok (.iconst 3, 1) := by decide +kernel
theorem dX0_init_70 : decode cX0_init 70 = .ok (.newarray .int, 2) := by decide +kernel
theorem dX0_init_72 : decode cX0_init 72 = .ok (.putfield 48, 3) := by decide +kernel
theorem dX0_init_75 : decode cX0_init 75 = .ok (.aload_n 0, 1) := by decide +kernel
theorem dX0_init_76 : decode cX0_init 76 = .ok (.iconst 3, 1) := by decide +kernel
theorem dX0_init_77 : decode cX0_init 77 = .ok (.newarray .int, 2) := by decide +kernel
theorem dX0_init_79 : decode cX0_init 79 = .ok (.putfield 52, 3) := by decide +kernel
theorem dX0_init_82 : decode cX0_init 82 = .ok (.aload_n 0, 1) := by decide +kernel
theorem dX0_init_83 : decode cX0_init 83 = .ok (.bipush 24, 2) := by decide +kernel
theorem dX0_init_85 : decode cX0_init 85 = .ok (.newarray .int, 2) := by decide +kernel
theorem dX0_init_87 : decode cX0_init 87 = .ok (.putfield 55, 3) := by decide +kernel
theorem dX0_init_90 : decode cX0_init 90 = .ok (.aload_n 0, 1) := by decide +kernel
theorem dX0_init_91 : decode cX0_init 91 = .ok (.bipush 8, 2) := by decide +kernel
theorem dX0_init_93 : decode cX0_init 93 = .ok (.newarray .int, 2) := by decide +kernel
theorem dX0_init_95 : decode cX0_init 95 = .ok (.putfield 58, 3) := by decide +kernel
theorem dX0_init_98 : decode cX0_init 98 = .ok (.return_, 1) := by decide +kernel
def oX0_init (k n : Nat) : List (LX → LX) := [setI k 0 (6 : Int32), setI k 1 (0 : Int32), setI k 2 (0 : Int32), setI k 3 (5 : Int32), setI k 4 (4 : Int32), setI k 5 (6 : Int32), setI k 6 (200 : Int32), setI k 7 (0 : Int32), setI k 8 (0 : Int32), setI k 9 (0 : Int32), setI k 10 (0 : Int32), setI k 11 (0 : Int32), addC (10, 3), setR k 12 (some n), addC (10, 3), setR k 13 (some (n + 1)), addC (10, 24), setR k 14 (some (n + 2)), addC (10, 8), setR k 15 (some (n + 3))]
def gX0_init (X : LX) (k : Nat) : LX := runX (oX0_init k X.length) X
set_option maxRecDepth 100000 in
set_option maxHeartbeats 4000000 in
theorem opkX0_init (k : Nat) : OpK 4 (fun X => gX0_init X k) := fun X => (show RunK 4 (oX0_init k X.length) from by unfold oX0_init; exact rk_eq (by decide) (rk_cons okp_setI (rk_cons okp_setI (rk_cons okp_setI (rk_cons okp_setI (rk_cons okp_setI (rk_cons okp_setI (rk_cons okp_setI (rk_cons okp_setI (rk_cons okp_setI (rk_cons okp_setI (rk_cons okp_setI (rk_cons okp_setI (rk_cons okp_addC (rk_cons okp_setR (rk_cons okp_addC (rk_cons okp_setR (rk_cons okp_addC (rk_cons okp_setR (rk_cons okp_addC (rk_cons okp_setR rk_nil))))))))))))))))))))) X
set_option maxRecDepth 100000 in
set_option maxHeartbeats 4000000 in
theorem oppX0_init (k : Nat) : OpP k (fun X => gX0_init X k) := fun X i j w v => by
  have hh : RunP (i + 1) (oX0_init k X.length) := by unfold oX0_init; exact (rp_cons okp_setI opp_setI (rp_cons okp_setI opp_setI (rp_cons okp_setI opp_setI (rp_cons okp_setI opp_setI (rp_cons okp_setI opp_setI (rp_cons okp_setI opp_setI (rp_cons okp_setI opp_setI (rp_cons okp_setI opp_setI (rp_cons okp_setI opp_setI (rp_cons okp_setI opp_setI (rp_cons okp_setI opp_setI (rp_cons okp_setI opp_setI (rp_cons okp_addC opp_addC (rp_cons okp_setR (opp_setR (by omega)) (rp_cons okp_addC opp_addC (rp_cons okp_setR (opp_setR (by omega)) (rp_cons okp_addC opp_addC (rp_cons okp_setR (opp_setR (by omega)) (rp_cons okp_addC opp_addC (rp_cons okp_setR (opp_setR (by omega)) rp_nil))))))))))))))))))))
  exact hh X i j (Nat.lt_succ_self i) v
set_option maxRecDepth 100000 in
set_option maxHeartbeats 4000000 in
theorem okxX0_init : MtX 2 mX0_init 4 38 0 gX0_init := by
  refine MtX.of (by decide +kernel) rfl (by decide) oX0_init (fun _ _ => rfl) (fun G h X k n l0 s0 => ?_)
  have hkn : k < n := by have := cSh_lt s0; omega
  unfold oX0_init
  refine ev_aload_n 0 dX0_init_0 rfl rfl ?_
  refine ev_objInit (TT_1 33 rfl rfl) objI objC (by decide) (by decide) dX0_init_1 ?_
  refine ev_aload_n 0 dX0_init_4 rfl rfl ?_
  refine ev_bipush (v := (6 : Int32)) dX0_init_5 (by decide) ?_
  refine ex_putI (m := n) l0 s0 fl0_9 rfl rfl rfl rfl dX0_init_7 rfl (fun X1 l1 s1 p1 => ?_)
  have L1 : X1.length = n := l1
  have t1_k := s1 _ _ s0
  refine ev_aload_n 0 dX0_init_10 rfl rfl ?_
  refine ev_iconst (v := (0 : Int32)) dX0_init_11 (by decide) ?_
  refine ex_putI (m := n) L1 t1_k fl0_15 rfl rfl rfl rfl dX0_init_12 rfl (fun X2 l2 s2 p2 => ?_)
  have L2 : X2.length = n := l2
  have t2_k := s2 _ _ t1_k
  refine ev_aload_n 0 dX0_init_15 rfl rfl ?_
  refine ev_iconst (v := (0 : Int32)) dX0_init_16 (by decide) ?_
  refine ex_putI (m := n) L2 t2_k fl0_18 rfl rfl rfl rfl dX0_init_17 rfl (fun X3 l3 s3 p3 => ?_)
  have L3 : X3.length = n := l3
  have t3_k := s3 _ _ t2_k
  refine ev_aload_n 0 dX0_init_20 rfl rfl ?_
  refine ev_iconst (v := (5 : Int32)) dX0_init_21 (by decide) ?_
  refine ex_putI (m := n) L3 t3_k fl0_21 rfl rfl rfl rfl dX0_init_22 rfl (fun X4 l4 s4 p4 => ?_)
  have L4 : X4.length = n := l4
  have t4_k := s4 _ _ t3_k
  refine ev_aload_n 0 dX0_init_25 rfl rfl ?_
  refine ev_iconst (v := (4 : Int32)) dX0_init_26 (by decide) ?_
  refine ex_putI (m := n) L4 t4_k fl0_24 rfl rfl rfl rfl dX0_init_27 rfl (fun X5 l5 s5 p5 => ?_)
  have L5 : X5.length = n := l5
  have t5_k := s5 _ _ t4_k
  refine ev_aload_n 0 dX0_init_30 rfl rfl ?_
  refine ev_bipush (v := (6 : Int32)) dX0_init_31 (by decide) ?_
  refine ex_putI (m := n) L5 t5_k fl0_27 rfl rfl rfl rfl dX0_init_33 rfl (fun X6 l6 s6 p6 => ?_)
  have L6 : X6.length = n := l6
  have t6_k := s6 _ _ t5_k
  refine ev_aload_n 0 dX0_init_36 rfl rfl ?_
  refine ev_sipush (v := (200 : Int32)) dX0_init_37 (by decide) ?_
  refine ex_putI (m := n) L6 t6_k fl0_30 rfl rfl rfl rfl dX0_init_40 rfl (fun X7 l7 s7 p7 => ?_)
  have L7 : X7.length = n := l7
  have t7_k := s7 _ _ t6_k
  refine ev_aload_n 0 dX0_init_43 rfl rfl ?_
  refine ev_iconst (v := (0 : Int32)) dX0_init_44 (by decide) ?_
  refine ex_putI (m := n) L7 t7_k fl0_33 rfl rfl rfl rfl dX0_init_45 rfl (fun X8 l8 s8 p8 => ?_)
  have L8 : X8.length = n := l8
  have t8_k := s8 _ _ t7_k
  refine ev_aload_n 0 dX0_init_48 rfl rfl ?_
  refine ev_iconst (v := (0 : Int32)) dX0_init_49 (by decide) ?_
  refine ex_putI (m := n) L8 t8_k fl0_36 rfl rfl rfl rfl dX0_init_50 rfl (fun X9 l9 s9 p9 => ?_)
  have L9 : X9.length = n := l9
  have t9_k := s9 _ _ t8_k
  refine ev_aload_n 0 dX0_init_53 rfl rfl ?_
  refine ev_iconst (v := (0 : Int32)) dX0_init_54 (by decide) ?_
  refine ex_putI (m := n) L9 t9_k fl0_39 rfl rfl rfl rfl dX0_init_55 rfl (fun X10 l10 s10 p10 => ?_)
  have L10 : X10.length = n := l10
  have t10_k := s10 _ _ t9_k
  refine ev_aload_n 0 dX0_init_58 rfl rfl ?_
  refine ev_iconst (v := (0 : Int32)) dX0_init_59 (by decide) ?_
  refine ex_putI (m := n) L10 t10_k fl0_42 rfl rfl rfl rfl dX0_init_60 rfl (fun X11 l11 s11 p11 => ?_)
  have L11 : X11.length = n := l11
  have t11_k := s11 _ _ t10_k
  refine ev_aload_n 0 dX0_init_63 rfl rfl ?_
  refine ev_iconst (v := (0 : Int32)) dX0_init_64 (by decide) ?_
  refine ex_putI (m := n) L11 t11_k fl0_45 rfl rfl rfl rfl dX0_init_65 rfl (fun X12 l12 s12 p12 => ?_)
  have L12 : X12.length = n := l12
  have t12_k := s12 _ _ t11_k
  refine ev_aload_n 0 dX0_init_68 rfl rfl ?_
  refine ev_iconst (v := (3 : Int32)) dX0_init_69 (by decide) ?_
  refine ex_newI (N := 3) (m := n) L12 arrI (by decide) (by decide) (by decide) (by decide) (by decide) dX0_init_70 rfl (fun X13 l13 s13 p13 z13 => ?_)
  have L13 : X13.length = n + 1 := l13
  have t13_k := s13 _ _ t12_k
  refine ex_putF (m := n + 1) L13 t13_k fl0_48 rfl rfl rfl rfl (fun _ => rfl) (fun _ => rfl) dX0_init_72 rfl (fun X14 l14 s14 p14 => ?_)
  have L14 : X14.length = n + 1 := l14
  have t14_k := s14 _ _ t13_k
  refine ev_aload_n 0 dX0_init_75 rfl rfl ?_
  refine ev_iconst (v := (3 : Int32)) dX0_init_76 (by decide) ?_
  refine ex_newI (N := 3) (m := n + 1) L14 arrI (by decide) (by decide) (by decide) (by decide) (by decide) dX0_init_77 rfl (fun X15 l15 s15 p15 z15 => ?_)
  have L15 : X15.length = n + 2 := l15
  have t15_k := s15 _ _ t14_k
  refine ex_putF (m := n + 2) L15 t15_k fl0_52 rfl rfl rfl rfl (fun _ => rfl) (fun _ => rfl) dX0_init_79 rfl (fun X16 l16 s16 p16 => ?_)
  have L16 : X16.length = n + 2 := l16
  have t16_k := s16 _ _ t15_k
  refine ev_aload_n 0 dX0_init_82 rfl rfl ?_
  refine ev_bipush (v := (24 : Int32)) dX0_init_83 (by decide) ?_
  refine ex_newI (N := 24) (m := n + 2) L16 arrI (by decide) (by decide) (by decide) (by decide) (by decide) dX0_init_85 rfl (fun X17 l17 s17 p17 z17 => ?_)
  have L17 : X17.length = n + 3 := l17
  have t17_k := s17 _ _ t16_k
  refine ex_putF (m := n + 3) L17 t17_k fl0_55 rfl rfl rfl rfl (fun _ => rfl) (fun _ => rfl) dX0_init_87 rfl (fun X18 l18 s18 p18 => ?_)
  have L18 : X18.length = n + 3 := l18
  have t18_k := s18 _ _ t17_k
  refine ev_aload_n 0 dX0_init_90 rfl rfl ?_
  refine ev_bipush (v := (8 : Int32)) dX0_init_91 (by decide) ?_
  refine ex_newI (N := 8) (m := n + 3) L18 arrI (by decide) (by decide) (by decide) (by decide) (by decide) dX0_init_93 rfl (fun X19 l19 s19 p19 z19 => ?_)
  have L19 : X19.length = n + 4 := l19
  have t19_k := s19 _ _ t18_k
  refine ex_putF (m := n + 4) L19 t19_k fl0_58 rfl rfl rfl rfl (fun _ => rfl) (fun _ => rfl) dX0_init_95 rfl (fun X20 l20 s20 p20 => ?_)
  have L20 : X20.length = n + 4 := l20
  have t20_k := s20 _ _ t19_k
  exact ex_ret rfl (by decide) (by decide) dX0_init_98
theorem dX1_init_0 : decode cX1_init 0 = .ok (.aload_n 0, 1) := by decide +kernel
theorem dX1_init_1 : decode cX1_init 1 = .ok (.invokespecial 3, 3) := by decide +kernel
theorem dX1_init_4 : decode cX1_init 4 = .ok (.aload_n 0, 1) := by decide +kernel
theorem dX1_init_5 : decode cX1_init 5 = .ok (.sipush 250, 3) := by decide +kernel
theorem dX1_init_8 : decode cX1_init 8 = .ok (.newarray .int, 2) := by decide +kernel
theorem dX1_init_10 : decode cX1_init 10 = .ok (.putfield 11, 3) := by decide +kernel
theorem dX1_init_13 : decode cX1_init 13 = .ok (.aload_n 0, 1) := by decide +kernel
theorem dX1_init_14 : decode cX1_init 14 = .ok (.iconst 0, 1) := by decide +kernel
theorem dX1_init_15 : decode cX1_init 15 = .ok (.putfield 15, 3) := by decide +kernel
theorem dX1_init_18 : decode cX1_init 18 = .ok (.aload_n 0, 1) := by decide +kernel
theorem dX1_init_19 : decode cX1_init 19 = .ok (.iconst 0, 1) := by decide +kernel
theorem dX1_init_20 : decode cX1_init 20 = .ok (.putfield 19, 3) := by decide +kernel
theorem dX1_init_23 : decode cX1_init 23 = .ok (.aload_n 0, 1) := by decide +kernel
theorem dX1_init_24 : decode cX1_init 24 = .ok (.iconst 0, 1) := by decide +kernel
theorem dX1_init_25 : decode cX1_init 25 = .ok (.putfield 22, 3) := by decide +kernel
theorem dX1_init_28 : decode cX1_init 28 = .ok (.aload_n 0, 1) := by decide +kernel
theorem dX1_init_29 : decode cX1_init 29 = .ok (.iconst 0, 1) := by decide +kernel
theorem dX1_init_30 : decode cX1_init 30 = .ok (.putfield 25, 3) := by decide +kernel
theorem dX1_init_33 : decode cX1_init 33 = .ok (.aload_n 0, 1) := by decide +kernel
theorem dX1_init_34 : decode cX1_init 34 = .ok (.iconst 0, 1) := by decide +kernel
theorem dX1_init_35 : decode cX1_init 35 = .ok (.putfield 28, 3) := by decide +kernel
theorem dX1_init_38 : decode cX1_init 38 = .ok (.return_, 1) := by decide +kernel
def oX1_init (k n : Nat) : List (LX → LX) := [addC (10, 250), setR k 0 (some n), setI k 1 (0 : Int32), setI k 2 (0 : Int32), setI k 3 (0 : Int32), setI k 4 (0 : Int32), setI k 5 (0 : Int32)]
def gX1_init (X : LX) (k : Nat) : LX := runX (oX1_init k X.length) X
set_option maxRecDepth 100000 in
set_option maxHeartbeats 4000000 in
theorem opkX1_init (k : Nat) : OpK 1 (fun X => gX1_init X k) := fun X => (show RunK 1 (oX1_init k X.length) from by unfold oX1_init; exact rk_eq (by decide) (rk_cons okp_addC (rk_cons okp_setR (rk_cons okp_setI (rk_cons okp_setI (rk_cons okp_setI (rk_cons okp_setI (rk_cons okp_setI rk_nil)))))))) X
set_option maxRecDepth 100000 in
set_option maxHeartbeats 4000000 in
theorem oppX1_init (k : Nat) : OpP k (fun X => gX1_init X k) := fun X i j w v => by
  have hh : RunP (i + 1) (oX1_init k X.length) := by unfold oX1_init; exact (rp_cons okp_addC opp_addC (rp_cons okp_setR (opp_setR (by omega)) (rp_cons okp_setI opp_setI (rp_cons okp_setI opp_setI (rp_cons okp_setI opp_setI (rp_cons okp_setI opp_setI (rp_cons okp_setI opp_setI rp_nil)))))))
  exact hh X i j (Nat.lt_succ_self i) v
set_option maxRecDepth 100000 in
set_option maxHeartbeats 4000000 in
theorem okxX1_init : MtX 2 mX1_init 1 250 1 gX1_init := by
  refine MtX.of (by decide +kernel) rfl (by decide) oX1_init (fun _ _ => rfl) (fun G h X k n l0 s0 => ?_)
  have hkn : k < n := by have := cSh_lt s0; omega
  unfold oX1_init
  refine ev_aload_n 0 dX1_init_0 rfl rfl ?_
  refine ev_objInit (TT_1 180 rfl rfl) objI objC (by decide) (by decide) dX1_init_1 ?_
  refine ev_aload_n 0 dX1_init_4 rfl rfl ?_
  refine ev_sipush (v := (250 : Int32)) dX1_init_5 (by decide) ?_
  refine ex_newI (N := 250) (m := n) l0 arrI (by decide) (by decide) (by decide) (by decide) (by decide) dX1_init_8 rfl (fun X1 l1 s1 p1 z1 => ?_)
  have L1 : X1.length = n + 1 := l1
  have t1_k := s1 _ _ s0
  refine ex_putF (m := n + 1) L1 t1_k fl1_11 rfl rfl rfl rfl (fun _ => rfl) (fun _ => rfl) dX1_init_10 rfl (fun X2 l2 s2 p2 => ?_)
  have L2 : X2.length = n + 1 := l2
  have t2_k := s2 _ _ t1_k
  refine ev_aload_n 0 dX1_init_13 rfl rfl ?_
  refine ev_iconst (v := (0 : Int32)) dX1_init_14 (by decide) ?_
  refine ex_putI (m := n + 1) L2 t2_k fl1_15 rfl rfl rfl rfl dX1_init_15 rfl (fun X3 l3 s3 p3 => ?_)
  have L3 : X3.length = n + 1 := l3
  have t3_k := s3 _ _ t2_k
  refine ev_aload_n 0 dX1_init_18 rfl rfl ?_
  refine ev_iconst (v := (0 : Int32)) dX1_init_19 (by decide) ?_
  refine ex_putI (m := n + 1) L3 t3_k fl1_19 rfl rfl rfl rfl dX1_init_20 rfl (fun X4 l4 s4 p4 => ?_)
  have L4 : X4.length = n + 1 := l4
  have t4_k := s4 _ _ t3_k
  refine ev_aload_n 0 dX1_init_23 rfl rfl ?_
  refine ev_iconst (v := (0 : Int32)) dX1_init_24 (by decide) ?_
  refine ex_putI (m := n + 1) L4 t4_k fl1_22 rfl rfl rfl rfl dX1_init_25 rfl (fun X5 l5 s5 p5 => ?_)
  have L5 : X5.length = n + 1 := l5
  have t5_k := s5 _ _ t4_k
  refine ev_aload_n 0 dX1_init_28 rfl rfl ?_
  refine ev_iconst (v := (0 : Int32)) dX1_init_29 (by decide) ?_
  refine ex_putI (m := n + 1) L5 t5_k fl1_25 rfl rfl rfl rfl dX1_init_30 rfl (fun X6 l6 s6 p6 => ?_)
  have L6 : X6.length = n + 1 := l6
  have t6_k := s6 _ _ t5_k
  refine ev_aload_n 0 dX1_init_33 rfl rfl ?_
  refine ev_iconst (v := (0 : Int32)) dX1_init_34 (by decide) ?_
  refine ex_putI (m := n + 1) L6 t6_k fl1_28 rfl rfl rfl rfl dX1_init_35 rfl (fun X7 l7 s7 p7 => ?_)
  have L7 : X7.length = n + 1 := l7
  have t7_k := s7 _ _ t6_k
  exact ex_ret rfl (by decide) (by decide) dX1_init_38
theorem dX3_init_0 : decode cX3_init 0 = .ok (.aload_n 0, 1) := by decide +kernel
theorem dX3_init_1 : decode cX3_init 1 = .ok (.invokespecial 3, 3) := by decide +kernel
theorem dX3_init_4 : decode cX3_init 4 = .ok (.aload_n 0, 1) := by decide +kernel
theorem dX3_init_5 : decode cX3_init 5 = .ok (.iconst (-1), 1) := by decide +kernel
theorem dX3_init_6 : decode cX3_init 6 = .ok (.putfield 9, 3) := by decide +kernel
theorem dX3_init_9 : decode cX3_init 9 = .ok (.aload_n 0, 1) := by decide +kernel
theorem dX3_init_10 : decode cX3_init 10 = .ok (.iconst 0, 1) := by decide +kernel
theorem dX3_init_11 : decode cX3_init 11 = .ok (.putfield 15, 3) := by decide +kernel
theorem dX3_init_14 : decode cX3_init 14 = .ok (.aload_n 0, 1) := by decide +kernel
theorem dX3_init_15 : decode cX3_init 15 = .ok (.bipush 40, 2) := by decide +kernel
theorem dX3_init_17 : decode cX3_init 17 = .ok (.newarray .long, 2) := by decide +kernel
theorem dX3_init_19 : decode cX3_init 19 = .ok (.putfield 18, 3) := by decide +kernel
theorem dX3_init_22 : decode cX3_init 22 = .ok (.return_, 1) := by decide +kernel
def oX3_init (k n : Nat) : List (LX → LX) := [setI k 0 (-1 : Int32), setI k 1 (0 : Int32), addC (11, 40), setR k 2 (some n)]
def gX3_init (X : LX) (k : Nat) : LX := runX (oX3_init k X.length) X
set_option maxRecDepth 100000 in
set_option maxHeartbeats 4000000 in
theorem opkX3_init (k : Nat) : OpK 1 (fun X => gX3_init X k) := fun X => (show RunK 1 (oX3_init k X.length) from by unfold oX3_init; exact rk_eq (by decide) (rk_cons okp_setI (rk_cons okp_setI (rk_cons okp_addC (rk_cons okp_setR rk_nil))))) X
set_option maxRecDepth 100000 in
set_option maxHeartbeats 4000000 in
theorem oppX3_init (k : Nat) : OpP k (fun X => gX3_init X k) := fun X i j w v => by
  have hh : RunP (i + 1) (oX3_init k X.length) := by unfold oX3_init; exact (rp_cons okp_setI opp_setI (rp_cons okp_setI opp_setI (rp_cons okp_addC opp_addC (rp_cons okp_setR (opp_setR (by omega)) rp_nil))))
  exact hh X i j (Nat.lt_succ_self i) v
set_option maxRecDepth 100000 in
set_option maxHeartbeats 4000000 in
theorem okxX3_init : MtX 2 mX3_init 1 40 3 gX3_init := by
  refine MtX.of (by decide +kernel) rfl (by decide) oX3_init (fun _ _ => rfl) (fun G h X k n l0 s0 => ?_)
  have hkn : k < n := by have := cSh_lt s0; omega
  unfold oX3_init
  refine ev_aload_n 0 dX3_init_0 rfl rfl ?_
  refine ev_objInit (TT_1 205 rfl rfl) objI objC (by decide) (by decide) dX3_init_1 ?_
  refine ev_aload_n 0 dX3_init_4 rfl rfl ?_
  refine ev_iconst (v := (-1 : Int32)) dX3_init_5 (by decide) ?_
  refine ex_putI (m := n) l0 s0 fl3_9 rfl rfl rfl rfl dX3_init_6 rfl (fun X1 l1 s1 p1 => ?_)
  have L1 : X1.length = n := l1
  have t1_k := s1 _ _ s0
  refine ev_aload_n 0 dX3_init_9 rfl rfl ?_
  refine ev_iconst (v := (0 : Int32)) dX3_init_10 (by decide) ?_
  refine ex_putI (m := n) L1 t1_k fl3_15 rfl rfl rfl rfl dX3_init_11 rfl (fun X2 l2 s2 p2 => ?_)
  have L2 : X2.length = n := l2
  have t2_k := s2 _ _ t1_k
  refine ev_aload_n 0 dX3_init_14 rfl rfl ?_
  refine ev_bipush (v := (40 : Int32)) dX3_init_15 (by decide) ?_
  refine ex_newL (N := 40) (m := n) L2 arrL (by decide) (by decide) (by decide) (by decide) (by decide) dX3_init_17 rfl (fun X3 l3 s3 p3 z3 => ?_)
  have L3 : X3.length = n + 1 := l3
  have t3_k := s3 _ _ t2_k
  refine ex_putF (m := n + 1) L3 t3_k fl3_18 rfl rfl rfl rfl (fun _ => rfl) (fun _ => rfl) dX3_init_19 rfl (fun X4 l4 s4 p4 => ?_)
  have L4 : X4.length = n + 1 := l4
  have t4_k := s4 _ _ t3_k
  exact ex_ret rfl (by decide) (by decide) dX3_init_22
theorem dX6_init_0 : decode cX6_init 0 = .ok (.aload_n 0, 1) := by decide +kernel
theorem dX6_init_1 : decode cX6_init 1 = .ok (.invokespecial 1, 3) := by decide +kernel
theorem dX6_init_4 : decode cX6_init 4 = .ok (.aload_n 0, 1) := by decide +kernel
theorem dX6_init_5 : decode cX6_init 5 = .ok (.bipush 8, 2) := by decide +kernel
theorem dX6_init_7 : decode cX6_init 7 = .ok (.newarray .int, 2) := by decide +kernel
theorem dX6_init_9 : decode cX6_init 9 = .ok (.putfield 7, 3) := by decide +kernel
theorem dX6_init_12 : decode cX6_init 12 = .ok (.aload_n 0, 1) := by decide +kernel
theorem dX6_init_13 : decode cX6_init 13 = .ok (.bipush 8, 2) := by decide +kernel
theorem dX6_init_15 : decode cX6_init 15 = .ok (.newarray .int, 2) := by decide +kernel
theorem dX6_init_17 : decode cX6_init 17 = .ok (.putfield 13, 3) := by decide +kernel
theorem dX6_init_20 : decode cX6_init 20 = .ok (.aload_n 0, 1) := by decide +kernel
theorem dX6_init_21 : decode cX6_init 21 = .ok (.bipush 8, 2) := by decide +kernel
theorem dX6_init_23 : decode cX6_init 23 = .ok (.newarray .int, 2) := by decide +kernel
theorem dX6_init_25 : decode cX6_init 25 = .ok (.putfield 16, 3) := by decide +kernel
theorem dX6_init_28 : decode cX6_init 28 = .ok (.aload_n 0, 1) := by decide +kernel
theorem dX6_init_29 : decode cX6_init 29 = .ok (.bipush 8, 2) := by decide +kernel
theorem dX6_init_31 : decode cX6_init 31 = .ok (.bipush 40, 2) := by decide +kernel
theorem dX6_init_33 : decode cX6_init 33 = .ok (.multianewarray 19 2, 4) := by decide +kernel
theorem dX6_init_37 : decode cX6_init 37 = .ok (.putfield 21, 3) := by decide +kernel
theorem dX6_init_40 : decode cX6_init 40 = .ok (.aload_n 0, 1) := by decide +kernel
theorem dX6_init_41 : decode cX6_init 41 = .ok (.bipush 40, 2) := by decide +kernel
theorem dX6_init_43 : decode cX6_init 43 = .ok (.newarray .long, 2) := by decide +kernel
theorem dX6_init_45 : decode cX6_init 45 = .ok (.putfield 24, 3) := by decide +kernel
theorem dX6_init_48 : decode cX6_init 48 = .ok (.aload_n 0, 1) := by decide +kernel
theorem dX6_init_49 : decode cX6_init 49 = .ok (.bipush 8, 2) := by decide +kernel
theorem dX6_init_51 : decode cX6_init 51 = .ok (.newarray .int, 2) := by decide +kernel
theorem dX6_init_53 : decode cX6_init 53 = .ok (.putfield 28, 3) := by decide +kernel
theorem dX6_init_56 : decode cX6_init 56 = .ok (.aload_n 0, 1) := by decide +kernel
theorem dX6_init_57 : decode cX6_init 57 = .ok (.sipush 250, 3) := by decide +kernel
theorem dX6_init_60 : decode cX6_init 60 = .ok (.newarray .int, 2) := by decide +kernel
theorem dX6_init_62 : decode cX6_init 62 = .ok (.putfield 31, 3) := by decide +kernel
theorem dX6_init_65 : decode cX6_init 65 = .ok (.aload_n 0, 1) := by decide +kernel
theorem dX6_init_66 : decode cX6_init 66 = .ok (.bipush 8, 2) := by decide +kernel
theorem dX6_init_68 : decode cX6_init 68 = .ok (.newarray .int, 2) := by decide +kernel
theorem dX6_init_70 : decode cX6_init 70 = .ok (.putfield 34, 3) := by decide +kernel
theorem dX6_init_73 : decode cX6_init 73 = .ok (.aload_n 0, 1) := by decide +kernel
theorem dX6_init_74 : decode cX6_init 74 = .ok (.bipush 6, 2) := by decide +kernel
theorem dX6_init_76 : decode cX6_init 76 = .ok (.putfield 37, 3) := by decide +kernel
theorem dX6_init_79 : decode cX6_init 79 = .ok (.aload_n 0, 1) := by decide +kernel
theorem dX6_init_80 : decode cX6_init 80 = .ok (.iconst 3, 1) := by decide +kernel
theorem dX6_init_81 : decode cX6_init 81 = .ok (.newarray .int, 2) := by decide +kernel
theorem dX6_init_83 : decode cX6_init 83 = .ok (.putfield 41, 3) := by decide +kernel
theorem dX6_init_86 : decode cX6_init 86 = .ok (.aload_n 0, 1) := by decide +kernel
theorem dX6_init_87 : decode cX6_init 87 = .ok (.iconst 3, 1) := by decide +kernel
theorem dX6_init_88 : decode cX6_init 88 = .ok (.newarray .int, 2) := by decide +kernel
theorem dX6_init_90 : decode cX6_init 90 = .ok (.putfield 44, 3) := by decide +kernel
theorem dX6_init_93 : decode cX6_init 93 = .ok (.aload_n 0, 1) := by decide +kernel
theorem dX6_init_94 : decode cX6_init 94 = .ok (.iconst 3, 1) := by decide +kernel
theorem dX6_init_95 : decode cX6_init 95 = .ok (.bipush 8, 2) := by decide +kernel
theorem dX6_init_97 : decode cX6_init 97 = .ok (.multianewarray 47 2, 4) := by decide +kernel
theorem dX6_init_101 : decode cX6_init 101 = .ok (.putfield 49, 3) := by decide +kernel
theorem dX6_init_104 : decode cX6_init 104 = .ok (.aload_n 0, 1) := by decide +kernel
theorem dX6_init_105 : decode cX6_init 105 = .ok (.bipush 8, 2) := by decide +kernel
theorem dX6_init_107 : decode cX6_init 107 = .ok (.newarray .int, 2) := by decide +kernel
theorem dX6_init_109 : decode cX6_init 109 = .ok (.putfield 52, 3) := by decide +kernel
theorem dX6_init_112 : decode cX6_init 112 = .ok (.aload_n 0, 1) := by decide +kernel
theorem dX6_init_113 : decode cX6_init 113 = .ok (.iconst 4, 1) := by decide +kernel
theorem dX6_init_114 : decode cX6_init 114 = .ok (.newarray .int, 2) := by decide +kernel
theorem dX6_init_116 : decode cX6_init 116 = .ok (.dup, 1) := by decide +kernel
theorem dX6_init_117 : decode cX6_init 117 = .ok (.iconst 0, 1) := by decide +kernel
theorem dX6_init_118 : decode cX6_init 118 = .ok (.iconst 5, 1) := by decide +kernel
theorem dX6_init_119 : decode cX6_init 119 = .ok (.iastore, 1) := by decide +kernel
theorem dX6_init_120 : decode cX6_init 120 = .ok (.dup, 1) := by decide +kernel
theorem dX6_init_121 : decode cX6_init 121 = .ok (.iconst 1, 1) := by decide +kernel
theorem dX6_init_122 : decode cX6_init 122 = .ok (.iconst 4, 1) := by decide +kernel
theorem dX6_init_123 : decode cX6_init 123 = .ok (.iastore, 1) := by decide +kernel
theorem dX6_init_124 : decode cX6_init 124 = .ok (.dup, 1) := by decide +kernel
theorem dX6_init_125 : decode cX6_init 125 = .ok (.iconst 2, 1) := by decide +kernel
theorem dX6_init_126 : decode cX6_init 126 = .ok (.bipush 6, 2) := by decide +kernel
theorem dX6_init_128 : decode cX6_init 128 = .ok (.iastore, 1) := by decide +kernel
theorem dX6_init_129 : decode cX6_init 129 = .ok (.dup, 1) := by decide +kernel
theorem dX6_init_130 : decode cX6_init 130 = .ok (.iconst 3, 1) := by decide +kernel
theorem dX6_init_131 : decode cX6_init 131 = .ok (.sipush 200, 3) := by decide +kernel
theorem dX6_init_134 : decode cX6_init 134 = .ok (.iastore, 1) := by decide +kernel
theorem dX6_init_135 : decode cX6_init 135 = .ok (.putfield 55, 3) := by decide +kernel
theorem dX6_init_138 : decode cX6_init 138 = .ok (.aload_n 0, 1) := by decide +kernel
theorem dX6_init_139 : decode cX6_init 139 = .ok (.iconst 4, 1) := by decide +kernel
theorem dX6_init_140 : decode cX6_init 140 = .ok (.newarray .int, 2) := by decide +kernel
theorem dX6_init_142 : decode cX6_init 142 = .ok (.putfield 58, 3) := by decide +kernel
theorem dX6_init_145 : decode cX6_init 145 = .ok (.aload_n 0, 1) := by decide +kernel
theorem dX6_init_146 : decode cX6_init 146 = .ok (.iconst 4, 1) := by decide +kernel
theorem dX6_init_147 : decode cX6_init 147 = .ok (.newarray .int, 2) := by decide +kernel
theorem dX6_init_149 : decode cX6_init 149 = .ok (.putfield 61, 3) := by decide +kernel
theorem dX6_init_152 : decode cX6_init 152 = .ok (.aload_n 0, 1) := by decide +kernel
theorem dX6_init_153 : decode cX6_init 153 = .ok (.bipush 20, 2) := by decide +kernel
theorem dX6_init_155 : decode cX6_init 155 = .ok (.newarray .int, 2) := by decide +kernel
theorem dX6_init_157 : decode cX6_init 157 = .ok (.putfield 64, 3) := by decide +kernel
theorem dX6_init_160 : decode cX6_init 160 = .ok (.aload_n 0, 1) := by decide +kernel
theorem dX6_init_161 : decode cX6_init 161 = .ok (.iconst 1, 1) := by decide +kernel
theorem dX6_init_162 : decode cX6_init 162 = .ok (.putfield 67, 3) := by decide +kernel
theorem dX6_init_165 : decode cX6_init 165 = .ok (.aload_n 0, 1) := by decide +kernel
theorem dX6_init_166 : decode cX6_init 166 = .ok (.iconst 4, 1) := by decide +kernel
theorem dX6_init_167 : decode cX6_init 167 = .ok (.anewarray 8, 3) := by decide +kernel
theorem dX6_init_170 : decode cX6_init 170 = .ok (.dup, 1) := by decide +kernel
theorem dX6_init_171 : decode cX6_init 171 = .ok (.iconst 0, 1) := by decide +kernel
theorem dX6_init_172 : decode cX6_init 172 = .ok (.aconst_null, 1) := by decide +kernel
theorem dX6_init_173 : decode cX6_init 173 = .ok (.aastore, 1) := by decide +kernel
theorem dX6_init_174 : decode cX6_init 174 = .ok (.dup, 1) := by decide +kernel
theorem dX6_init_175 : decode cX6_init 175 = .ok (.iconst 1, 1) := by decide +kernel
theorem dX6_init_176 : decode cX6_init 176 = .ok (.aconst_null, 1) := by decide +kernel
theorem dX6_init_177 : decode cX6_init 177 = .ok (.aastore, 1) := by decide +kernel
theorem dX6_init_178 : decode cX6_init 178 = .ok (.dup, 1) := by decide +kernel
theorem dX6_init_179 : decode cX6_init 179 = .ok (.iconst 2, 1) := by decide +kernel
theorem dX6_init_180 : decode cX6_init 180 = .ok (.aconst_null, 1) := by decide +kernel
theorem dX6_init_181 : decode cX6_init 181 = .ok (.aastore, 1) := by decide +kernel
theorem dX6_init_182 : decode cX6_init 182 = .ok (.dup, 1) := by decide +kernel
theorem dX6_init_183 : decode cX6_init 183 = .ok (.iconst 3, 1) := by decide +kernel
theorem dX6_init_184 : decode cX6_init 184 = .ok (.aconst_null, 1) := by decide +kernel
theorem dX6_init_185 : decode cX6_init 185 = .ok (.aastore, 1) := by decide +kernel
theorem dX6_init_186 : decode cX6_init 186 = .ok (.putfield 70, 3) := by decide +kernel
theorem dX6_init_189 : decode cX6_init 189 = .ok (.aload_n 0, 1) := by decide +kernel
theorem dX6_init_190 : decode cX6_init 190 = .ok (.iconst 2, 1) := by decide +kernel
theorem dX6_init_191 : decode cX6_init 191 = .ok (.newarray .int, 2) := by decide +kernel
theorem dX6_init_193 : decode cX6_init 193 = .ok (.putfield 74, 3) := by decide +kernel
theorem dX6_init_196 : decode cX6_init 196 = .ok (.aload_n 0, 1) := by decide +kernel
theorem dX6_init_197 : decode cX6_init 197 = .ok (.iconst 3, 1) := by decide +kernel
theorem dX6_init_198 : decode cX6_init 198 = .ok (.newarray .int, 2) := by decide +kernel
theorem dX6_init_200 : decode cX6_init 200 = .ok (.putfield 77, 3) := by decide +kernel
theorem dX6_init_203 : decode cX6_init 203 = .ok (.aload_n 0, 1) := by decide +kernel
theorem dX6_init_204 : decode cX6_init 204 = .ok (.iconst 3, 1) := by decide +kernel
theorem dX6_init_205 : decode cX6_init 205 = .ok (.newarray .int, 2) := by decide +kernel
theorem dX6_init_207 : decode cX6_init 207 = .ok (.putfield 80, 3) := by decide +kernel
theorem dX6_init_210 : decode cX6_init 210 = .ok (.aload_n 0, 1) := by decide +kernel
theorem dX6_init_211 : decode cX6_init 211 = .ok (.iconst 3, 1) := by decide +kernel
theorem dX6_init_212 : decode cX6_init 212 = .ok (.newarray .int, 2) := by decide +kernel
theorem dX6_init_214 : decode cX6_init 214 = .ok (.putfield 83, 3) := by decide +kernel
theorem dX6_init_217 : decode cX6_init 217 = .ok (.return_, 1) := by decide +kernel
def oX6_init (k n : Nat) : List (LX → LX) := [addC (10, 8), setR k 0 (some n), addC (10, 8), setR k 1 (some (n + 1)), addC (10, 8), setR k 2 (some (n + 2)), addM 16 11 8 40, setR k 3 (some (n + 3)), addC (11, 40), setR k 4 (some (n + 12)), addC (10, 8), setR k 5 (some (n + 13)), addC (10, 250), setR k 6 (some (n + 14)), addC (10, 8), setR k 8 (some (n + 15)), setI k 9 (6 : Int32), addC (10, 3), setR k 11 (some (n + 16)), addC (10, 3), setR k 12 (some (n + 17)), addM 15 10 3 8, setR k 13 (some (n + 18)), addC (10, 8), setR k 14 (some (n + 22)), addC (10, 4), setI (n + 23) 0 (5 : Int32), setI (n + 23) 1 (4 : Int32), setI (n + 23) 2 (6 : Int32), setI (n + 23) 3 (200 : Int32), setR k 17 (some (n + 23)), addC (10, 4), setR k 23 (some (n + 24)), addC (10, 4), setR k 24 (some (n + 25)), addC (10, 20), setR k 26 (some (n + 26)), setI k 27 (1 : Int32), addC (14, 4), setR (n + 27) 0 none, setR (n + 27) 1 none, setR (n + 27) 2 none, setR (n + 27) 3 none, setR k 30 (some (n + 27)), addC (10, 2), setR k 36 (some (n + 28)), addC (10, 3), setR k 41 (some (n + 29)), addC (10, 3), setR k 42 (some (n + 30)), addC (10, 3), setR k 43 (some (n + 31))]
def gX6_init (X : LX) (k : Nat) : LX := runX (oX6_init k X.length) X
set_option maxRecDepth 100000 in
set_option maxHeartbeats 4000000 in
theorem okxX6_init : MtX 2 mX6_init 32 746 6 gX6_init := by
  refine MtX.of (by decide +kernel) rfl (by decide) oX6_init (fun _ _ => rfl) (fun G h X k n l0 s0 => ?_)
  have hkn : k < n := by have := cSh_lt s0; omega
  unfold oX6_init
  refine ev_aload_n 0 dX6_init_0 rfl rfl ?_
  refine ev_objInit (TT_4 131 rfl rfl) objI objC (by decide) (by decide) dX6_init_1 ?_
  refine ev_aload_n 0 dX6_init_4 rfl rfl ?_
  refine ev_bipush (v := (8 : Int32)) dX6_init_5 (by decide) ?_
  refine ex_newI (N := 8) (m := n) l0 arrI (by decide) (by decide) (by decide) (by decide) (by decide) dX6_init_7 rfl (fun X1 l1 s1 p1 z1 => ?_)
  have L1 : X1.length = n + 1 := l1
  have t1_k := s1 _ _ s0
  refine ex_putF (m := n + 1) L1 t1_k fl6_7 rfl rfl rfl rfl (fun _ => rfl) (fun _ => rfl) dX6_init_9 rfl (fun X2 l2 s2 p2 => ?_)
  have L2 : X2.length = n + 1 := l2
  have t2_k := s2 _ _ t1_k
  refine ev_aload_n 0 dX6_init_12 rfl rfl ?_
  refine ev_bipush (v := (8 : Int32)) dX6_init_13 (by decide) ?_
  refine ex_newI (N := 8) (m := n + 1) L2 arrI (by decide) (by decide) (by decide) (by decide) (by decide) dX6_init_15 rfl (fun X3 l3 s3 p3 z3 => ?_)
  have L3 : X3.length = n + 2 := l3
  have t3_k := s3 _ _ t2_k
  refine ex_putF (m := n + 2) L3 t3_k fl6_13 rfl rfl rfl rfl (fun _ => rfl) (fun _ => rfl) dX6_init_17 rfl (fun X4 l4 s4 p4 => ?_)
  have L4 : X4.length = n + 2 := l4
  have t4_k := s4 _ _ t3_k
  refine ev_aload_n 0 dX6_init_20 rfl rfl ?_
  refine ev_bipush (v := (8 : Int32)) dX6_init_21 (by decide) ?_
  refine ex_newI (N := 8) (m := n + 2) L4 arrI (by decide) (by decide) (by decide) (by decide) (by decide) dX6_init_23 rfl (fun X5 l5 s5 p5 z5 => ?_)
  have L5 : X5.length = n + 3 := l5
  have t5_k := s5 _ _ t4_k
  refine ex_putF (m := n + 3) L5 t5_k fl6_16 rfl rfl rfl rfl (fun _ => rfl) (fun _ => rfl) dX6_init_25 rfl (fun X6 l6 s6 p6 => ?_)
  have L6 : X6.length = n + 3 := l6
  have t6_k := s6 _ _ t5_k
  refine ev_aload_n 0 dX6_init_28 rfl rfl ?_
  refine ev_bipush (v := (8 : Int32)) dX6_init_29 (by decide) ?_
  refine ev_bipush (v := (40 : Int32)) dX6_init_31 (by decide) ?_
  refine ex_multiL (N := 8) (K := 40) (m := n + 3) L6 (TT_4 132 rfl rfl) arrL (by decide) (by decide) (by decide) (by decide) (by decide) (by decide) (by decide) (by decide) dX6_init_33 rfl (fun X7 l7 s7 p7 => ?_)
  have L7 : X7.length = n + 12 := l7
  have t7_k := s7 _ _ t6_k
  refine ex_putF (m := n + 12) L7 t7_k fl6_21 rfl rfl rfl rfl (fun _ => rfl) (fun _ => rfl) dX6_init_37 rfl (fun X8 l8 s8 p8 => ?_)
  have L8 : X8.length = n + 12 := l8
  have t8_k := s8 _ _ t7_k
  refine ev_aload_n 0 dX6_init_40 rfl rfl ?_
  refine ev_bipush (v := (40 : Int32)) dX6_init_41 (by decide) ?_
  refine ex_newL (N := 40) (m := n + 12) L8 arrL (by decide) (by decide) (by decide) (by decide) (by decide) dX6_init_43 rfl (fun X9 l9 s9 p9 z9 => ?_)
  have L9 : X9.length = n + 13 := l9
  have t9_k := s9 _ _ t8_k
  refine ex_putF (m := n + 13) L9 t9_k fl6_24 rfl rfl rfl rfl (fun _ => rfl) (fun _ => rfl) dX6_init_45 rfl (fun X10 l10 s10 p10 => ?_)
  have L10 : X10.length = n + 13 := l10
  have t10_k := s10 _ _ t9_k
  refine ev_aload_n 0 dX6_init_48 rfl rfl ?_
  refine ev_bipush (v := (8 : Int32)) dX6_init_49 (by decide) ?_
  refine ex_newI (N := 8) (m := n + 13) L10 arrI (by decide) (by decide) (by decide) (by decide) (by decide) dX6_init_51 rfl (fun X11 l11 s11 p11 z11 => ?_)
  have L11 : X11.length = n + 14 := l11
  have t11_k := s11 _ _ t10_k
  refine ex_putF (m := n + 14) L11 t11_k fl6_28 rfl rfl rfl rfl (fun _ => rfl) (fun _ => rfl) dX6_init_53 rfl (fun X12 l12 s12 p12 => ?_)
  have L12 : X12.length = n + 14 := l12
  have t12_k := s12 _ _ t11_k
  refine ev_aload_n 0 dX6_init_56 rfl rfl ?_
  refine ev_sipush (v := (250 : Int32)) dX6_init_57 (by decide) ?_
  refine ex_newI (N := 250) (m := n + 14) L12 arrI (by decide) (by decide) (by decide) (by decide) (by decide) dX6_init_60 rfl (fun X13 l13 s13 p13 z13 => ?_)
  have L13 : X13.length = n + 15 := l13
  have t13_k := s13 _ _ t12_k
  refine ex_putF (m := n + 15) L13 t13_k fl6_31 rfl rfl rfl rfl (fun _ => rfl) (fun _ => rfl) dX6_init_62 rfl (fun X14 l14 s14 p14 => ?_)
  have L14 : X14.length = n + 15 := l14
  have t14_k := s14 _ _ t13_k
  refine ev_aload_n 0 dX6_init_65 rfl rfl ?_
  refine ev_bipush (v := (8 : Int32)) dX6_init_66 (by decide) ?_
  refine ex_newI (N := 8) (m := n + 15) L14 arrI (by decide) (by decide) (by decide) (by decide) (by decide) dX6_init_68 rfl (fun X15 l15 s15 p15 z15 => ?_)
  have L15 : X15.length = n + 16 := l15
  have t15_k := s15 _ _ t14_k
  refine ex_putF (m := n + 16) L15 t15_k fl6_34 rfl rfl rfl rfl (fun _ => rfl) (fun _ => rfl) dX6_init_70 rfl (fun X16 l16 s16 p16 => ?_)
  have L16 : X16.length = n + 16 := l16
  have t16_k := s16 _ _ t15_k
  refine ev_aload_n 0 dX6_init_73 rfl rfl ?_
  refine ev_bipush (v := (6 : Int32)) dX6_init_74 (by decide) ?_
  refine ex_putI (m := n + 16) L16 t16_k fl6_37 rfl rfl rfl rfl dX6_init_76 rfl (fun X17 l17 s17 p17 => ?_)
  have L17 : X17.length = n + 16 := l17
  have t17_k := s17 _ _ t16_k
  refine ev_aload_n 0 dX6_init_79 rfl rfl ?_
  refine ev_iconst (v := (3 : Int32)) dX6_init_80 (by decide) ?_
  refine ex_newI (N := 3) (m := n + 16) L17 arrI (by decide) (by decide) (by decide) (by decide) (by decide) dX6_init_81 rfl (fun X18 l18 s18 p18 z18 => ?_)
  have L18 : X18.length = n + 17 := l18
  have t18_k := s18 _ _ t17_k
  refine ex_putF (m := n + 17) L18 t18_k fl6_41 rfl rfl rfl rfl (fun _ => rfl) (fun _ => rfl) dX6_init_83 rfl (fun X19 l19 s19 p19 => ?_)
  have L19 : X19.length = n + 17 := l19
  have t19_k := s19 _ _ t18_k
  refine ev_aload_n 0 dX6_init_86 rfl rfl ?_
  refine ev_iconst (v := (3 : Int32)) dX6_init_87 (by decide) ?_
  refine ex_newI (N := 3) (m := n + 17) L19 arrI (by decide) (by decide) (by decide) (by decide) (by decide) dX6_init_88 rfl (fun X20 l20 s20 p20 z20 => ?_)
  have L20 : X20.length = n + 18 := l20
  have t20_k := s20 _ _ t19_k
  refine ex_putF (m := n + 18) L20 t20_k fl6_44 rfl rfl rfl rfl (fun _ => rfl) (fun _ => rfl) dX6_init_90 rfl (fun X21 l21 s21 p21 => ?_)
  have L21 : X21.length = n + 18 := l21
  have t21_k := s21 _ _ t20_k
  refine ev_aload_n 0 dX6_init_93 rfl rfl ?_
  refine ev_iconst (v := (3 : Int32)) dX6_init_94 (by decide) ?_
  refine ev_bipush (v := (8 : Int32)) dX6_init_95 (by decide) ?_
  refine ex_multiI (N := 3) (K := 8) (m := n + 18) L21 (TT_4 134 rfl rfl) arrI (by decide) (by decide) (by decide) (by decide) (by decide) (by decide) (by decide) (by decide) dX6_init_97 rfl (fun X22 l22 s22 p22 => ?_)
  have L22 : X22.length = n + 22 := l22
  have t22_k := s22 _ _ t21_k
  refine ex_putF (m := n + 22) L22 t22_k fl6_49 rfl rfl rfl rfl (fun _ => rfl) (fun _ => rfl) dX6_init_101 rfl (fun X23 l23 s23 p23 => ?_)
  have L23 : X23.length = n + 22 := l23
  have t23_k := s23 _ _ t22_k
  refine ev_aload_n 0 dX6_init_104 rfl rfl ?_
  refine ev_bipush (v := (8 : Int32)) dX6_init_105 (by decide) ?_
  refine ex_newI (N := 8) (m := n + 22) L23 arrI (by decide) (by decide) (by decide) (by decide) (by decide) dX6_init_107 rfl (fun X24 l24 s24 p24 z24 => ?_)
  have L24 : X24.length = n + 23 := l24
  have t24_k := s24 _ _ t23_k
  refine ex_putF (m := n + 23) L24 t24_k fl6_52 rfl rfl rfl rfl (fun _ => rfl) (fun _ => rfl) dX6_init_109 rfl (fun X25 l25 s25 p25 => ?_)
  have L25 : X25.length = n + 23 := l25
  have t25_k := s25 _ _ t24_k
  refine ev_aload_n 0 dX6_init_112 rfl rfl ?_
  refine ev_iconst (v := (4 : Int32)) dX6_init_113 (by decide) ?_
  refine ex_newI (N := 4) (m := n + 23) L25 arrI (by decide) (by decide) (by decide) (by decide) (by decide) dX6_init_114 rfl (fun X26 l26 s26 p26 z26 => ?_)
  have L26 : X26.length = n + 24 := l26
  have t26_k := s26 _ _ t25_k
  refine ev_dup dX6_init_116 rfl ?_
  refine ev_iconst (v := (0 : Int32)) dX6_init_117 (by decide) ?_
  refine ev_iconst (v := (5 : Int32)) dX6_init_118 (by decide) ?_
  refine ex_iastore (j := 0) (m := n + 24) L26 z26 (by decide) (by decide) dX6_init_119 rfl (fun X27 l27 s27 p27 => ?_)
  have L27 : X27.length = n + 24 := l27
  have t27_k := s27 _ _ t26_k
  refine ev_dup dX6_init_120 rfl ?_
  refine ev_iconst (v := (1 : Int32)) dX6_init_121 (by decide) ?_
  refine ev_iconst (v := (4 : Int32)) dX6_init_122 (by decide) ?_
  refine ex_iastore (j := 1) (m := n + 24) L27 (s27 _ _ z26) (by decide) (by decide) dX6_init_123 rfl (fun X28 l28 s28 p28 => ?_)
  have L28 : X28.length = n + 24 := l28
  have t28_k := s28 _ _ t27_k
  refine ev_dup dX6_init_124 rfl ?_
  refine ev_iconst (v := (2 : Int32)) dX6_init_125 (by decide) ?_
  refine ev_bipush (v := (6 : Int32)) dX6_init_126 (by decide) ?_
  refine ex_iastore (j := 2) (m := n + 24) L28 (s28 _ _ (s27 _ _ z26)) (by decide) (by decide) dX6_init_128 rfl (fun X29 l29 s29 p29 => ?_)
  have L29 : X29.length = n + 24 := l29
  have t29_k := s29 _ _ t28_k
  refine ev_dup dX6_init_129 rfl ?_
  refine ev_iconst (v := (3 : Int32)) dX6_init_130 (by decide) ?_
  refine ev_sipush (v := (200 : Int32)) dX6_init_131 (by decide) ?_
  refine ex_iastore (j := 3) (m := n + 24) L29 (s29 _ _ (s28 _ _ (s27 _ _ z26))) (by decide) (by decide) dX6_init_134 rfl (fun X30 l30 s30 p30 => ?_)
  have L30 : X30.length = n + 24 := l30
  have t30_k := s30 _ _ t29_k
  refine ex_putF (m := n + 24) L30 t30_k fl6_55 rfl rfl rfl rfl (fun _ => rfl) (fun _ => rfl) dX6_init_135 rfl (fun X31 l31 s31 p31 => ?_)
  have L31 : X31.length = n + 24 := l31
  have t31_k := s31 _ _ t30_k
  refine ev_aload_n 0 dX6_init_138 rfl rfl ?_
  refine ev_iconst (v := (4 : Int32)) dX6_init_139 (by decide) ?_
  refine ex_newI (N := 4) (m := n + 24) L31 arrI (by decide) (by decide) (by decide) (by decide) (by decide) dX6_init_140 rfl (fun X32 l32 s32 p32 z32 => ?_)
  have L32 : X32.length = n + 25 := l32
  have t32_k := s32 _ _ t31_k
  refine ex_putF (m := n + 25) L32 t32_k fl6_58 rfl rfl rfl rfl (fun _ => rfl) (fun _ => rfl) dX6_init_142 rfl (fun X33 l33 s33 p33 => ?_)
  have L33 : X33.length = n + 25 := l33
  have t33_k := s33 _ _ t32_k
  refine ev_aload_n 0 dX6_init_145 rfl rfl ?_
  refine ev_iconst (v := (4 : Int32)) dX6_init_146 (by decide) ?_
  refine ex_newI (N := 4) (m := n + 25) L33 arrI (by decide) (by decide) (by decide) (by decide) (by decide) dX6_init_147 rfl (fun X34 l34 s34 p34 z34 => ?_)
  have L34 : X34.length = n + 26 := l34
  have t34_k := s34 _ _ t33_k
  refine ex_putF (m := n + 26) L34 t34_k fl6_61 rfl rfl rfl rfl (fun _ => rfl) (fun _ => rfl) dX6_init_149 rfl (fun X35 l35 s35 p35 => ?_)
  have L35 : X35.length = n + 26 := l35
  have t35_k := s35 _ _ t34_k
  refine ev_aload_n 0 dX6_init_152 rfl rfl ?_
  refine ev_bipush (v := (20 : Int32)) dX6_init_153 (by decide) ?_
  refine ex_newI (N := 20) (m := n + 26) L35 arrI (by decide) (by decide) (by decide) (by decide) (by decide) dX6_init_155 rfl (fun X36 l36 s36 p36 z36 => ?_)
  have L36 : X36.length = n + 27 := l36
  have t36_k := s36 _ _ t35_k
  refine ex_putF (m := n + 27) L36 t36_k fl6_64 rfl rfl rfl rfl (fun _ => rfl) (fun _ => rfl) dX6_init_157 rfl (fun X37 l37 s37 p37 => ?_)
  have L37 : X37.length = n + 27 := l37
  have t37_k := s37 _ _ t36_k
  refine ev_aload_n 0 dX6_init_160 rfl rfl ?_
  refine ev_iconst (v := (1 : Int32)) dX6_init_161 (by decide) ?_
  refine ex_putI (m := n + 27) L37 t37_k fl6_67 rfl rfl rfl rfl dX6_init_162 rfl (fun X38 l38 s38 p38 => ?_)
  have L38 : X38.length = n + 27 := l38
  have t38_k := s38 _ _ t37_k
  refine ev_aload_n 0 dX6_init_165 rfl rfl ?_
  refine ev_iconst (v := (4 : Int32)) dX6_init_166 (by decide) ?_
  refine ex_newR (N := 4) (t := 14) (C := RX6) (m := n + 27) L38 (by decide) (by decide) rfl (by decide) (TT_4 136 rfl rfl) (by decide) (by decide) (by decide) (by decide) (by decide) dX6_init_167 rfl (fun X39 l39 s39 p39 z39 => ?_)
  have L39 : X39.length = n + 28 := l39
  have t39_k := s39 _ _ t38_k
  refine ev_dup dX6_init_170 rfl ?_
  refine ev_iconst (v := (0 : Int32)) dX6_init_171 (by decide) ?_
  refine ev_null dX6_init_172 ?_
  refine ex_aanull (j := 0) (ci := 6) (m := n + 28) L39 z39 (by decide) rfl (by decide) (by decide) dX6_init_173 rfl (fun X40 l40 s40 p40 => ?_)
  have L40 : X40.length = n + 28 := l40
  have t40_k := s40 _ _ t39_k
  refine ev_dup dX6_init_174 rfl ?_
  refine ev_iconst (v := (1 : Int32)) dX6_init_175 (by decide) ?_
  refine ev_null dX6_init_176 ?_
  refine ex_aanull (j := 1) (ci := 6) (m := n + 28) L40 (s40 _ _ z39) (by decide) rfl (by decide) (by decide) dX6_init_177 rfl (fun X41 l41 s41 p41 => ?_)
  have L41 : X41.length = n + 28 := l41
  have t41_k := s41 _ _ t40_k
  refine ev_dup dX6_init_178 rfl ?_
  refine ev_iconst (v := (2 : Int32)) dX6_init_179 (by decide) ?_
  refine ev_null dX6_init_180 ?_
  refine ex_aanull (j := 2) (ci := 6) (m := n + 28) L41 (s41 _ _ (s40 _ _ z39)) (by decide) rfl (by decide) (by decide) dX6_init_181 rfl (fun X42 l42 s42 p42 => ?_)
  have L42 : X42.length = n + 28 := l42
  have t42_k := s42 _ _ t41_k
  refine ev_dup dX6_init_182 rfl ?_
  refine ev_iconst (v := (3 : Int32)) dX6_init_183 (by decide) ?_
  refine ev_null dX6_init_184 ?_
  refine ex_aanull (j := 3) (ci := 6) (m := n + 28) L42 (s42 _ _ (s41 _ _ (s40 _ _ z39))) (by decide) rfl (by decide) (by decide) dX6_init_185 rfl (fun X43 l43 s43 p43 => ?_)
  have L43 : X43.length = n + 28 := l43
  have t43_k := s43 _ _ t42_k
  refine ex_putF (m := n + 28) L43 t43_k fl6_70 rfl rfl rfl rfl (fun _ => rfl) (fun _ => rfl) dX6_init_186 rfl (fun X44 l44 s44 p44 => ?_)
  have L44 : X44.length = n + 28 := l44
  have t44_k := s44 _ _ t43_k
  refine ev_aload_n 0 dX6_init_189 rfl rfl ?_
  refine ev_iconst (v := (2 : Int32)) dX6_init_190 (by decide) ?_
  refine ex_newI (N := 2) (m := n + 28) L44 arrI (by decide) (by decide) (by decide) (by decide) (by decide) dX6_init_191 rfl (fun X45 l45 s45 p45 z45 => ?_)
  have L45 : X45.length = n + 29 := l45
  have t45_k := s45 _ _ t44_k
  refine ex_putF (m := n + 29) L45 t45_k fl6_74 rfl rfl rfl rfl (fun _ => rfl) (fun _ => rfl) dX6_init_193 rfl (fun X46 l46 s46 p46 => ?_)
  have L46 : X46.length = n + 29 := l46
  have t46_k := s46 _ _ t45_k
  refine ev_aload_n 0 dX6_init_196 rfl rfl ?_
  refine ev_iconst (v := (3 : Int32)) dX6_init_197 (by decide) ?_
  refine ex_newI (N := 3) (m := n + 29) L46 arrI (by decide) (by decide) (by decide) (by decide) (by decide) dX6_init_198 rfl (fun X47 l47 s47 p47 z47 => ?_)
  have L47 : X47.length = n + 30 := l47
  have t47_k := s47 _ _ t46_k
  refine ex_putF (m := n + 30) L47 t47_k fl6_77 rfl rfl rfl rfl (fun _ => rfl) (fun _ => rfl) dX6_init_200 rfl (fun X48 l48 s48 p48 => ?_)
  have L48 : X48.length = n + 30 := l48
  have t48_k := s48 _ _ t47_k
  refine ev_aload_n 0 dX6_init_203 rfl rfl ?_
  refine ev_iconst (v := (3 : Int32)) dX6_init_204 (by decide) ?_
  refine ex_newI (N := 3) (m := n + 30) L48 arrI (by decide) (by decide) (by decide) (by decide) (by decide) dX6_init_205 rfl (fun X49 l49 s49 p49 z49 => ?_)
  have L49 : X49.length = n + 31 := l49
  have t49_k := s49 _ _ t48_k
  refine ex_putF (m := n + 31) L49 t49_k fl6_80 rfl rfl rfl rfl (fun _ => rfl) (fun _ => rfl) dX6_init_207 rfl (fun X50 l50 s50 p50 => ?_)
  have L50 : X50.length = n + 31 := l50
  have t50_k := s50 _ _ t49_k
  refine ev_aload_n 0 dX6_init_210 rfl rfl ?_
  refine ev_iconst (v := (3 : Int32)) dX6_init_211 (by decide) ?_
  refine ex_newI (N := 3) (m := n + 31) L50 arrI (by decide) (by decide) (by decide) (by decide) (by decide) dX6_init_212 rfl (fun X51 l51 s51 p51 z51 => ?_)
  have L51 : X51.length = n + 32 := l51
  have t51_k := s51 _ _ t50_k
  refine ex_putF (m := n + 32) L51 t51_k fl6_83 rfl rfl rfl rfl (fun _ => rfl) (fun _ => rfl) dX6_init_214 rfl (fun X52 l52 s52 p52 => ?_)
  have L52 : X52.length = n + 32 := l52
  have t52_k := s52 _ _ t51_k
  exact ex_ret rfl (by decide) (by decide) dX6_init_217
