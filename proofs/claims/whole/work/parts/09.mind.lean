-- X2_lickLowest
theorem dX2_lickLowest_0 : decode cX2_lickLowest 0 = .ok (.aload_n 0, 1) := by decide +kernel
theorem dX2_lickLowest_1 : decode cX2_lickLowest 1 = .ok (.getfield 66, 3) := by decide +kernel
theorem dX2_lickLowest_4 : decode cX2_lickLowest 4 = .ok (.aload_n 0, 1) := by decide +kernel
theorem dX2_lickLowest_5 : decode cX2_lickLowest 5 = .ok (.getfield 43, 3) := by decide +kernel
theorem dX2_lickLowest_8 : decode cX2_lickLowest 8 = .ok (.iaload, 1) := by decide +kernel
theorem dX2_lickLowest_9 : decode cX2_lickLowest 9 = .ok (.ifCond .eq 5, 3) := by decide +kernel
theorem dX2_lickLowest_12 : decode cX2_lickLowest 12 = .ok (.iconst 4, 1) := by decide +kernel
theorem dX2_lickLowest_13 : decode cX2_lickLowest 13 = .ok (.ireturn, 1) := by decide +kernel
theorem dX2_lickLowest_14 : decode cX2_lickLowest 14 = .ok (.iconst 0, 1) := by decide +kernel
theorem dX2_lickLowest_15 : decode cX2_lickLowest 15 = .ok (.istore_n 1, 1) := by decide +kernel
theorem dX2_lickLowest_16 : decode cX2_lickLowest 16 = .ok (.iload_n 1, 1) := by decide +kernel
theorem dX2_lickLowest_17 : decode cX2_lickLowest 17 = .ok (.aload_n 0, 1) := by decide +kernel
theorem dX2_lickLowest_18 : decode cX2_lickLowest 18 = .ok (.getfield 32, 3) := by decide +kernel
theorem dX2_lickLowest_21 : decode cX2_lickLowest 21 = .ok (.if_icmp .ge 25, 3) := by decide +kernel
theorem dX2_lickLowest_24 : decode cX2_lickLowest 24 = .ok (.aload_n 0, 1) := by decide +kernel
theorem dX2_lickLowest_25 : decode cX2_lickLowest 25 = .ok (.iload_n 1, 1) := by decide +kernel
theorem dX2_lickLowest_26 : decode cX2_lickLowest 26 = .ok (.aload_n 0, 1) := by decide +kernel
theorem dX2_lickLowest_27 : decode cX2_lickLowest 27 = .ok (.getfield 43, 3) := by decide +kernel
theorem dX2_lickLowest_30 : decode cX2_lickLowest 30 = .ok (.invokevirtual 69, 3) := by decide +kernel
theorem dX2_lickLowest_33 : decode cX2_lickLowest 33 = .ok (.ifCond .eq 7, 3) := by decide +kernel
theorem dX2_lickLowest_36 : decode cX2_lickLowest 36 = .ok (.iconst 1, 1) := by decide +kernel
theorem dX2_lickLowest_37 : decode cX2_lickLowest 37 = .ok (.iload_n 1, 1) := by decide +kernel
theorem dX2_lickLowest_38 : decode cX2_lickLowest 38 = .ok (.iadd, 1) := by decide +kernel
theorem dX2_lickLowest_39 : decode cX2_lickLowest 39 = .ok (.ireturn, 1) := by decide +kernel
theorem dX2_lickLowest_40 : decode cX2_lickLowest 40 = .ok (.iinc 1 1, 3) := by decide +kernel
theorem dX2_lickLowest_43 : decode cX2_lickLowest 43 = .ok (.goto (-27), 3) := by decide +kernel
theorem dX2_lickLowest_46 : decode cX2_lickLowest 46 = .ok (.iconst 0, 1) := by decide +kernel
theorem dX2_lickLowest_47 : decode cX2_lickLowest 47 = .ok (.ireturn, 1) := by decide +kernel
def fX2_lickLowest_16 : Nat → Int32 → SS → Option (Int32 × SS)
  | 0, _, _ => none
  | n + 1, x1, s => if (s.1 0 11) ≤ x1 then (some ((0 : Int32), s)) else (((fX0_wetAt x1 (s.1 0 1) s).bind fun z2 => if z2.1 = 0 then (fX2_lickLowest_16 n (x1 + (1 : Int32)) z2.2) else (some ((1 : Int32) + x1, z2.2))))
def fX2_lickLowest_0 (s : SS) : Option (Int32 × SS) := if ixB (s.1 0 1) 8 then (if (s.1 4 ((s.1 0 1).toNatClampNeg)) = 0 then (fX2_lickLowest_16 FU (0 : Int32) s) else (some ((4 : Int32), s))) else none
def fX2_lickLowest (s : SS) : Option (Int32 × SS) := fX2_lickLowest_0 s
set_option maxRecDepth 100000 in
set_option maxHeartbeats 4000000 in
theorem okX2_lickLowest_16 {G : GG} {pl : Nat → Nat} {h0 : PH} : ∀ (n : Nat) (x1 : Int32) (s : SS), EvF G 1 mX2_lickLowest lyC pl h0 rvI (fX2_lickLowest_16 n x1 s) 16 [(0, .ref (pl 0)), (1, .int x1)] [] s := by
  intro n
  induction n with
  | zero => intro x1 s; rw [fX2_lickLowest_16]; exact ef_none
  | succ n ih =>
    intro x1 s
    rw [fX2_lickLowest_16]
    refine ef_iload_n (q := 17) 1 dX2_lickLowest_16 rfl rfl rfl ?_
    refine ef_aload_n (q := 18) 0 dX2_lickLowest_17 rfl rfl rfl ?_
    refine ef_getI (x := s.1 0 11) (q := 21) rfl fl2_32 rfl rfl dX2_lickLowest_18 rfl ?_
    refine ef_if (pt := 46) (pf := 24) (fun _ _ => ev_icmp_ge (tgt := 46) dX2_lickLowest_21 (by decide)) (fun h1 => ?_) (fun h1 => ?_)
    · refine ef_iconst (v := (0 : Int32)) (q := 47) dX2_lickLowest_46 (by decide) rfl ?_
      exact ef_iret rfl dX2_lickLowest_47
    · refine ef_aload_n (q := 25) 0 dX2_lickLowest_24 rfl rfl rfl ?_
      refine ef_iload_n (q := 26) 1 dX2_lickLowest_25 rfl rfl rfl ?_
      refine ef_aload_n (q := 27) 0 dX2_lickLowest_26 rfl rfl rfl ?_
      refine ef_getI (x := s.1 0 1) (q := 30) rfl fl2_43 rfl rfl dX2_lickLowest_27 rfl ?_
      refine ef_invVI0 (k := 0) (As := [.int x1, .int (s.1 0 1)]) (rest := []) (q := 33) (okX0_wetAt x1 (s.1 0 1)) rfl calX0_wetAt ml2_69 (by decide) rfl rfl rfl (Nat.le_of_ble_eq_true rfl) dX2_lickLowest_30 rfl (fun z2 => ?_)
      refine ef_if (pt := 40) (pf := 36) (fun _ _ => ev_if_eq (tgt := 40) dX2_lickLowest_33 (by decide)) (fun h3 => ?_) (fun h3 => ?_)
      · refine ef_iinc (v := x1 + (1 : Int32)) (lv' := [(1, .int (x1 + (1 : Int32))), (0, .ref (pl 0))]) (q := 43) 1 dX2_lickLowest_40 rfl rfl (by decide) rfl rfl ?_
        refine ef_goto (tgt := 16) dX2_lickLowest_43 (by decide) ?_
        refine ef_sub (lv' := [(0, .ref (pl 0)), (1, .int (x1 + (1 : Int32)))]) [1, 0] rfl ?_
        exact ih (x1 + (1 : Int32)) z2.2
      · refine ef_iconst (v := (1 : Int32)) (q := 37) dX2_lickLowest_36 (by decide) rfl ?_
        refine ef_iload_n (q := 38) 1 dX2_lickLowest_37 rfl rfl rfl ?_
        refine ef_iadd (q := 39) dX2_lickLowest_38 rfl ?_
        exact ef_iret rfl dX2_lickLowest_39
set_option maxRecDepth 100000 in
set_option maxHeartbeats 4000000 in
theorem okX2_lickLowest_0 {G : GG} {pl : Nat → Nat} {h0 : PH} (s : SS) : EvF G 1 mX2_lickLowest lyC pl h0 rvI (fX2_lickLowest_0 s) 0 [(0, .ref (pl 0))] [] s := by
  unfold fX2_lickLowest_0
  refine ef_aload_n (q := 1) 0 dX2_lickLowest_0 rfl rfl rfl ?_
  refine ef_getR (t := 4) (q := 4) rfl fl2_66 rfl rfl dX2_lickLowest_1 rfl ?_
  refine ef_aload_n (q := 5) 0 dX2_lickLowest_4 rfl rfl rfl ?_
  refine ef_getI (x := s.1 0 1) (q := 8) rfl fl2_43 rfl rfl dX2_lickLowest_5 rfl ?_
  refine ef_guard (fun g1 => ?_)
  refine ef_iaload (x := s.1 4 ((s.1 0 1).toNatClampNeg)) (q := 9) rfl g1 dX2_lickLowest_8 rfl rfl ?_
  refine ef_if (pt := 14) (pf := 12) (fun _ _ => ev_if_eq (tgt := 14) dX2_lickLowest_9 (by decide)) (fun h2 => ?_) (fun h2 => ?_)
  · refine ef_iconst (v := (0 : Int32)) (q := 15) dX2_lickLowest_14 (by decide) rfl ?_
    refine ef_istore_n (lv' := [(1, .int (0 : Int32)), (0, .ref (pl 0))]) (q := 16) dX2_lickLowest_15 rfl (by decide) rfl rfl ?_
    refine ef_sub (lv' := [(0, .ref (pl 0)), (1, .int (0 : Int32))]) [1, 0] rfl ?_
    exact okX2_lickLowest_16 FU (0 : Int32) s
  · refine ef_iconst (v := (4 : Int32)) (q := 13) dX2_lickLowest_12 (by decide) rfl ?_
    exact ef_iret rfl dX2_lickLowest_13
theorem okX2_lickLowest : MtF 1 mX2_lickLowest lyC rvI (fun _ pl => [.ref (pl 0)]) (fX2_lickLowest) := by
  refine MtF.of (by decide +kernel) rfl (fun _ pl => Nat.le_of_ble_eq_true rfl) (fun G pl h0 s => ?_)
  refine ef_sub (lv := [(0, .ref (pl 0))]) (lv' := [(0, .ref (pl 0))]) [0] rfl ?_
  exact okX2_lickLowest_0  s
-- X2_goRound
theorem dX2_goRound_0 : decode cX2_goRound 0 = .ok (.aload_n 0, 1) := by decide +kernel
theorem dX2_goRound_1 : decode cX2_goRound 1 = .ok (.invokestatic 56, 3) := by decide +kernel
theorem dX2_goRound_4 : decode cX2_goRound 4 = .ok (.istore_n 1, 1) := by decide +kernel
theorem dX2_goRound_5 : decode cX2_goRound 5 = .ok (.iload_n 1, 1) := by decide +kernel
theorem dX2_goRound_6 : decode cX2_goRound 6 = .ok (.ifCond .ne 7, 3) := by decide +kernel
theorem dX2_goRound_9 : decode cX2_goRound 9 = .ok (.iconst 5, 1) := by decide +kernel
theorem dX2_goRound_10 : decode cX2_goRound 10 = .ok (.goto 4, 3) := by decide +kernel
theorem dX2_goRound_13 : decode cX2_goRound 13 = .ok (.iload_n 1, 1) := by decide +kernel
theorem dX2_goRound_14 : decode cX2_goRound 14 = .ok (.ireturn, 1) := by decide +kernel
def fX2_goRound_0 (s : SS) : Option (Int32 × SS) := ((fX2_lickLowest s).bind fun z1 => if z1.1 = 0 then (some ((5 : Int32), z1.2)) else (some (z1.1, z1.2)))
def fX2_goRound (s : SS) : Option (Int32 × SS) := fX2_goRound_0 s
set_option maxRecDepth 100000 in
set_option maxHeartbeats 4000000 in
theorem okX2_goRound_0 {G : GG} {pl : Nat → Nat} {h0 : PH} (s : SS) : EvF G 2 mX2_goRound lyC pl h0 rvI (fX2_goRound_0 s) 0 [(0, .ref (pl 0))] [] s := by
  unfold fX2_goRound_0
  refine ef_aload_n (q := 1) 0 dX2_goRound_0 rfl rfl rfl ?_
  refine ef_invSI0 (As := [.ref (pl 0)]) (rest := []) (q := 4) (okX2_lickLowest) rfl calX2_lickLowest ml2_56 (by decide) rfl rfl (Nat.le_of_ble_eq_true rfl) dX2_goRound_1 rfl (fun z1 => ?_)
  refine ef_istore_n (lv' := [(1, .int z1.1), (0, .ref (pl 0))]) (q := 5) dX2_goRound_4 rfl (by decide) rfl rfl ?_
  refine ef_iload_n (q := 6) 0 dX2_goRound_5 rfl rfl rfl ?_
  refine ef_if (pt := 9) (pf := 13) (fun _ _ kt kf => ev_if_ne (tgt := 13) dX2_goRound_6 (by decide) kf kt) (fun h2 => ?_) (fun h2 => ?_)
  · refine ef_iconst (v := (5 : Int32)) (q := 10) dX2_goRound_9 (by decide) rfl ?_
    refine ef_goto (tgt := 14) dX2_goRound_10 (by decide) ?_
    exact ef_iret rfl dX2_goRound_14
  · refine ef_iload_n (q := 14) 0 dX2_goRound_13 rfl rfl rfl ?_
    exact ef_iret rfl dX2_goRound_14
theorem okX2_goRound : MtF 2 mX2_goRound lyC rvI (fun _ pl => [.ref (pl 0)]) (fX2_goRound) := by
  refine MtF.of (by decide +kernel) rfl (fun _ pl => Nat.le_of_ble_eq_true rfl) (fun G pl h0 s => ?_)
  refine ef_sub (lv := [(0, .ref (pl 0))]) (lv' := [(0, .ref (pl 0))]) [0] rfl ?_
  exact okX2_goRound_0  s
-- X2_lickWettest
theorem dX2_lickWettest_0 : decode cX2_lickWettest 0 = .ok (.aload_n 0, 1) := by decide +kernel
theorem dX2_lickWettest_1 : decode cX2_lickWettest 1 = .ok (.getfield 66, 3) := by decide +kernel
theorem dX2_lickWettest_4 : decode cX2_lickWettest 4 = .ok (.aload_n 0, 1) := by decide +kernel
theorem dX2_lickWettest_5 : decode cX2_lickWettest 5 = .ok (.getfield 43, 3) := by decide +kernel
theorem dX2_lickWettest_8 : decode cX2_lickWettest 8 = .ok (.iaload, 1) := by decide +kernel
theorem dX2_lickWettest_9 : decode cX2_lickWettest 9 = .ok (.ifCond .le 7, 3) := by decide +kernel
theorem dX2_lickWettest_12 : decode cX2_lickWettest 12 = .ok (.iconst 4, 1) := by decide +kernel
theorem dX2_lickWettest_13 : decode cX2_lickWettest 13 = .ok (.goto 4, 3) := by decide +kernel
theorem dX2_lickWettest_16 : decode cX2_lickWettest 16 = .ok (.iconst 0, 1) := by decide +kernel
theorem dX2_lickWettest_17 : decode cX2_lickWettest 17 = .ok (.istore_n 1, 1) := by decide +kernel
theorem dX2_lickWettest_18 : decode cX2_lickWettest 18 = .ok (.aload_n 0, 1) := by decide +kernel
theorem dX2_lickWettest_19 : decode cX2_lickWettest 19 = .ok (.getfield 66, 3) := by decide +kernel
theorem dX2_lickWettest_22 : decode cX2_lickWettest 22 = .ok (.aload_n 0, 1) := by decide +kernel
theorem dX2_lickWettest_23 : decode cX2_lickWettest 23 = .ok (.getfield 43, 3) := by decide +kernel
theorem dX2_lickWettest_26 : decode cX2_lickWettest 26 = .ok (.iaload, 1) := by decide +kernel
theorem dX2_lickWettest_27 : decode cX2_lickWettest 27 = .ok (.istore_n 2, 1) := by decide +kernel
theorem dX2_lickWettest_28 : decode cX2_lickWettest 28 = .ok (.iconst 0, 1) := by decide +kernel
theorem dX2_lickWettest_29 : decode cX2_lickWettest 29 = .ok (.istore_n 3, 1) := by decide +kernel
theorem dX2_lickWettest_30 : decode cX2_lickWettest 30 = .ok (.iload_n 3, 1) := by decide +kernel
theorem dX2_lickWettest_31 : decode cX2_lickWettest 31 = .ok (.aload_n 0, 1) := by decide +kernel
theorem dX2_lickWettest_32 : decode cX2_lickWettest 32 = .ok (.getfield 32, 3) := by decide +kernel
theorem dX2_lickWettest_35 : decode cX2_lickWettest 35 = .ok (.if_icmp .ge 36, 3) := by decide +kernel
theorem dX2_lickWettest_38 : decode cX2_lickWettest 38 = .ok (.aload_n 0, 1) := by decide +kernel
theorem dX2_lickWettest_39 : decode cX2_lickWettest 39 = .ok (.iload_n 3, 1) := by decide +kernel
theorem dX2_lickWettest_40 : decode cX2_lickWettest 40 = .ok (.aload_n 0, 1) := by decide +kernel
theorem dX2_lickWettest_41 : decode cX2_lickWettest 41 = .ok (.getfield 43, 3) := by decide +kernel
theorem dX2_lickWettest_44 : decode cX2_lickWettest 44 = .ok (.invokevirtual 69, 3) := by decide +kernel
theorem dX2_lickWettest_47 : decode cX2_lickWettest 47 = .ok (.iload_n 2, 1) := by decide +kernel
theorem dX2_lickWettest_48 : decode cX2_lickWettest 48 = .ok (.if_icmp .le 17, 3) := by decide +kernel
theorem dX2_lickWettest_51 : decode cX2_lickWettest 51 = .ok (.iconst 1, 1) := by decide +kernel
theorem dX2_lickWettest_52 : decode cX2_lickWettest 52 = .ok (.iload_n 3, 1) := by decide +kernel
theorem dX2_lickWettest_53 : decode cX2_lickWettest 53 = .ok (.iadd, 1) := by decide +kernel
theorem dX2_lickWettest_54 : decode cX2_lickWettest 54 = .ok (.istore_n 1, 1) := by decide +kernel
theorem dX2_lickWettest_55 : decode cX2_lickWettest 55 = .ok (.aload_n 0, 1) := by decide +kernel
theorem dX2_lickWettest_56 : decode cX2_lickWettest 56 = .ok (.iload_n 3, 1) := by decide +kernel
theorem dX2_lickWettest_57 : decode cX2_lickWettest 57 = .ok (.aload_n 0, 1) := by decide +kernel
theorem dX2_lickWettest_58 : decode cX2_lickWettest 58 = .ok (.getfield 43, 3) := by decide +kernel
theorem dX2_lickWettest_61 : decode cX2_lickWettest 61 = .ok (.invokevirtual 69, 3) := by decide +kernel
theorem dX2_lickWettest_64 : decode cX2_lickWettest 64 = .ok (.istore_n 2, 1) := by decide +kernel
theorem dX2_lickWettest_65 : decode cX2_lickWettest 65 = .ok (.iinc 3 1, 3) := by decide +kernel
theorem dX2_lickWettest_68 : decode cX2_lickWettest 68 = .ok (.goto (-38), 3) := by decide +kernel
theorem dX2_lickWettest_71 : decode cX2_lickWettest 71 = .ok (.iload_n 1, 1) := by decide +kernel
theorem dX2_lickWettest_72 : decode cX2_lickWettest 72 = .ok (.ireturn, 1) := by decide +kernel
def fX2_lickWettest_30 : Nat → Int32 → Int32 → Int32 → SS → Option (Int32 × SS)
  | 0, _, _, _, _ => none
  | n + 1, x1, x2, x3, s => if (s.1 0 11) ≤ x3 then (some (x1, s)) else (((fX0_wetAt x3 (s.1 0 1) s).bind fun z2 => if z2.1 ≤ x2 then (fX2_lickWettest_30 n x1 x2 (x3 + (1 : Int32)) z2.2) else (((fX0_wetAt x3 (z2.2.1 0 1) z2.2).bind fun z4 => fX2_lickWettest_30 n ((1 : Int32) + x3) z4.1 (x3 + (1 : Int32)) z4.2))))
def fX2_lickWettest_17 (y0 : Int32) (s : SS) : Option (Int32 × SS) := if ixB (s.1 0 1) 8 then (fX2_lickWettest_30 FU y0 (s.1 4 ((s.1 0 1).toNatClampNeg)) (0 : Int32) s) else none
def fX2_lickWettest_0 (s : SS) : Option (Int32 × SS) := if ixB (s.1 0 1) 8 then (if (s.1 4 ((s.1 0 1).toNatClampNeg)) ≤ 0 then (fX2_lickWettest_17 (0 : Int32) s) else (fX2_lickWettest_17 (4 : Int32) s)) else none
def fX2_lickWettest (s : SS) : Option (Int32 × SS) := fX2_lickWettest_0 s
set_option maxRecDepth 100000 in
set_option maxHeartbeats 4000000 in
theorem okX2_lickWettest_30 {G : GG} {pl : Nat → Nat} {h0 : PH} : ∀ (n : Nat) (x1 : Int32) (x2 : Int32) (x3 : Int32) (s : SS), EvF G 1 mX2_lickWettest lyC pl h0 rvI (fX2_lickWettest_30 n x1 x2 x3 s) 30 [(0, .ref (pl 0)), (1, .int x1), (2, .int x2), (3, .int x3)] [] s := by
  intro n
  induction n with
  | zero => intro x1 x2 x3 s; rw [fX2_lickWettest_30]; exact ef_none
  | succ n ih =>
    intro x1 x2 x3 s
    rw [fX2_lickWettest_30]
    refine ef_iload_n (q := 31) 3 dX2_lickWettest_30 rfl rfl rfl ?_
    refine ef_aload_n (q := 32) 0 dX2_lickWettest_31 rfl rfl rfl ?_
    refine ef_getI (x := s.1 0 11) (q := 35) rfl fl2_32 rfl rfl dX2_lickWettest_32 rfl ?_
    refine ef_if (pt := 71) (pf := 38) (fun _ _ => ev_icmp_ge (tgt := 71) dX2_lickWettest_35 (by decide)) (fun h1 => ?_) (fun h1 => ?_)
    · refine ef_iload_n (q := 72) 1 dX2_lickWettest_71 rfl rfl rfl ?_
      exact ef_iret rfl dX2_lickWettest_72
    · refine ef_aload_n (q := 39) 0 dX2_lickWettest_38 rfl rfl rfl ?_
      refine ef_iload_n (q := 40) 3 dX2_lickWettest_39 rfl rfl rfl ?_
      refine ef_aload_n (q := 41) 0 dX2_lickWettest_40 rfl rfl rfl ?_
      refine ef_getI (x := s.1 0 1) (q := 44) rfl fl2_43 rfl rfl dX2_lickWettest_41 rfl ?_
      refine ef_invVI0 (k := 0) (As := [.int x3, .int (s.1 0 1)]) (rest := []) (q := 47) (okX0_wetAt x3 (s.1 0 1)) rfl calX0_wetAt ml2_69 (by decide) rfl rfl rfl (Nat.le_of_ble_eq_true rfl) dX2_lickWettest_44 rfl (fun z2 => ?_)
      refine ef_iload_n (q := 48) 2 dX2_lickWettest_47 rfl rfl rfl ?_
      refine ef_if (pt := 65) (pf := 51) (fun _ _ => ev_icmp_le (tgt := 65) dX2_lickWettest_48 (by decide)) (fun h3 => ?_) (fun h3 => ?_)
      · refine ef_iinc (v := x3 + (1 : Int32)) (lv' := [(3, .int (x3 + (1 : Int32))), (0, .ref (pl 0)), (1, .int x1), (2, .int x2)]) (q := 68) 3 dX2_lickWettest_65 rfl rfl (by decide) rfl rfl ?_
        refine ef_goto (tgt := 30) dX2_lickWettest_68 (by decide) ?_
        refine ef_sub (lv' := [(0, .ref (pl 0)), (1, .int x1), (2, .int x2), (3, .int (x3 + (1 : Int32)))]) [1, 2, 3, 0] rfl ?_
        exact ih x1 x2 (x3 + (1 : Int32)) z2.2
      · refine ef_iconst (v := (1 : Int32)) (q := 52) dX2_lickWettest_51 (by decide) rfl ?_
        refine ef_iload_n (q := 53) 3 dX2_lickWettest_52 rfl rfl rfl ?_
        refine ef_iadd (q := 54) dX2_lickWettest_53 rfl ?_
        refine ef_istore_n (lv' := [(1, .int ((1 : Int32) + x3)), (0, .ref (pl 0)), (2, .int x2), (3, .int x3)]) (q := 55) dX2_lickWettest_54 rfl (by decide) rfl rfl ?_
        refine ef_aload_n (q := 56) 1 dX2_lickWettest_55 rfl rfl rfl ?_
        refine ef_iload_n (q := 57) 3 dX2_lickWettest_56 rfl rfl rfl ?_
        refine ef_aload_n (q := 58) 1 dX2_lickWettest_57 rfl rfl rfl ?_
        refine ef_getI (x := z2.2.1 0 1) (q := 61) rfl fl2_43 rfl rfl dX2_lickWettest_58 rfl ?_
        refine ef_invVI0 (k := 0) (As := [.int x3, .int (z2.2.1 0 1)]) (rest := []) (q := 64) (okX0_wetAt x3 (z2.2.1 0 1)) rfl calX0_wetAt ml2_69 (by decide) rfl rfl rfl (Nat.le_of_ble_eq_true rfl) dX2_lickWettest_61 rfl (fun z4 => ?_)
        refine ef_istore_n (lv' := [(2, .int z4.1), (1, .int ((1 : Int32) + x3)), (0, .ref (pl 0)), (3, .int x3)]) (q := 65) dX2_lickWettest_64 rfl (by decide) rfl rfl ?_
        refine ef_iinc (v := x3 + (1 : Int32)) (lv' := [(3, .int (x3 + (1 : Int32))), (2, .int z4.1), (1, .int ((1 : Int32) + x3)), (0, .ref (pl 0))]) (q := 68) 3 dX2_lickWettest_65 rfl rfl (by decide) rfl rfl ?_
        refine ef_goto (tgt := 30) dX2_lickWettest_68 (by decide) ?_
        refine ef_sub (lv' := [(0, .ref (pl 0)), (1, .int ((1 : Int32) + x3)), (2, .int z4.1), (3, .int (x3 + (1 : Int32)))]) [3, 2, 1, 0] rfl ?_
        exact ih ((1 : Int32) + x3) z4.1 (x3 + (1 : Int32)) z4.2
set_option maxRecDepth 100000 in
set_option maxHeartbeats 4000000 in
theorem okX2_lickWettest_17 {G : GG} {pl : Nat → Nat} {h0 : PH} (y0 : Int32) (s : SS) : EvF G 1 mX2_lickWettest lyC pl h0 rvI (fX2_lickWettest_17 y0 s) 17 [(0, .ref (pl 0))] [.int y0] s := by
  unfold fX2_lickWettest_17
  refine ef_istore_n (lv' := [(1, .int y0), (0, .ref (pl 0))]) (q := 18) dX2_lickWettest_17 rfl (by decide) rfl rfl ?_
  refine ef_aload_n (q := 19) 1 dX2_lickWettest_18 rfl rfl rfl ?_
  refine ef_getR (t := 4) (q := 22) rfl fl2_66 rfl rfl dX2_lickWettest_19 rfl ?_
  refine ef_aload_n (q := 23) 1 dX2_lickWettest_22 rfl rfl rfl ?_
  refine ef_getI (x := s.1 0 1) (q := 26) rfl fl2_43 rfl rfl dX2_lickWettest_23 rfl ?_
  refine ef_guard (fun g1 => ?_)
  refine ef_iaload (x := s.1 4 ((s.1 0 1).toNatClampNeg)) (q := 27) rfl g1 dX2_lickWettest_26 rfl rfl ?_
  refine ef_istore_n (lv' := [(2, .int (s.1 4 ((s.1 0 1).toNatClampNeg))), (1, .int y0), (0, .ref (pl 0))]) (q := 28) dX2_lickWettest_27 rfl (by decide) rfl rfl ?_
  refine ef_iconst (v := (0 : Int32)) (q := 29) dX2_lickWettest_28 (by decide) rfl ?_
  refine ef_istore_n (lv' := [(3, .int (0 : Int32)), (2, .int (s.1 4 ((s.1 0 1).toNatClampNeg))), (1, .int y0), (0, .ref (pl 0))]) (q := 30) dX2_lickWettest_29 rfl (by decide) rfl rfl ?_
  refine ef_sub (lv' := [(0, .ref (pl 0)), (1, .int y0), (2, .int (s.1 4 ((s.1 0 1).toNatClampNeg))), (3, .int (0 : Int32))]) [3, 2, 1, 0] rfl ?_
  exact okX2_lickWettest_30 FU y0 (s.1 4 ((s.1 0 1).toNatClampNeg)) (0 : Int32) s
set_option maxRecDepth 100000 in
set_option maxHeartbeats 4000000 in
theorem okX2_lickWettest_0 {G : GG} {pl : Nat → Nat} {h0 : PH} (s : SS) : EvF G 1 mX2_lickWettest lyC pl h0 rvI (fX2_lickWettest_0 s) 0 [(0, .ref (pl 0))] [] s := by
  unfold fX2_lickWettest_0
  refine ef_aload_n (q := 1) 0 dX2_lickWettest_0 rfl rfl rfl ?_
  refine ef_getR (t := 4) (q := 4) rfl fl2_66 rfl rfl dX2_lickWettest_1 rfl ?_
  refine ef_aload_n (q := 5) 0 dX2_lickWettest_4 rfl rfl rfl ?_
  refine ef_getI (x := s.1 0 1) (q := 8) rfl fl2_43 rfl rfl dX2_lickWettest_5 rfl ?_
  refine ef_guard (fun g1 => ?_)
  refine ef_iaload (x := s.1 4 ((s.1 0 1).toNatClampNeg)) (q := 9) rfl g1 dX2_lickWettest_8 rfl rfl ?_
  refine ef_if (pt := 16) (pf := 12) (fun _ _ => ev_if_le (tgt := 16) dX2_lickWettest_9 (by decide)) (fun h2 => ?_) (fun h2 => ?_)
  · refine ef_iconst (v := (0 : Int32)) (q := 17) dX2_lickWettest_16 (by decide) rfl ?_
    refine ef_sub (lv' := [(0, .ref (pl 0))]) [0] rfl ?_
    exact okX2_lickWettest_17 (0 : Int32) s
  · refine ef_iconst (v := (4 : Int32)) (q := 13) dX2_lickWettest_12 (by decide) rfl ?_
    refine ef_goto (tgt := 17) dX2_lickWettest_13 (by decide) ?_
    refine ef_sub (lv' := [(0, .ref (pl 0))]) [0] rfl ?_
    exact okX2_lickWettest_17 (4 : Int32) s
theorem okX2_lickWettest : MtF 1 mX2_lickWettest lyC rvI (fun _ pl => [.ref (pl 0)]) (fX2_lickWettest) := by
  refine MtF.of (by decide +kernel) rfl (fun _ pl => Nat.le_of_ble_eq_true rfl) (fun G pl h0 s => ?_)
  refine ef_sub (lv := [(0, .ref (pl 0))]) (lv' := [(0, .ref (pl 0))]) [0] rfl ?_
  exact okX2_lickWettest_0  s
-- X2_turnTo
theorem dX2_turnTo_0 : decode cX2_turnTo 0 = .ok (.iload_n 1, 1) := by decide +kernel
theorem dX2_turnTo_1 : decode cX2_turnTo 1 = .ok (.aload_n 0, 1) := by decide +kernel
theorem dX2_turnTo_2 : decode cX2_turnTo 2 = .ok (.getfield 43, 3) := by decide +kernel
theorem dX2_turnTo_5 : decode cX2_turnTo 5 = .ok (.isub, 1) := by decide +kernel
theorem dX2_turnTo_6 : decode cX2_turnTo 6 = .ok (.istore_n 2, 1) := by decide +kernel
theorem dX2_turnTo_7 : decode cX2_turnTo 7 = .ok (.iload_n 2, 1) := by decide +kernel
theorem dX2_turnTo_8 : decode cX2_turnTo 8 = .ok (.ifCond .ge 10, 3) := by decide +kernel
theorem dX2_turnTo_11 : decode cX2_turnTo 11 = .ok (.iload_n 2, 1) := by decide +kernel
theorem dX2_turnTo_12 : decode cX2_turnTo 12 = .ok (.aload_n 0, 1) := by decide +kernel
theorem dX2_turnTo_13 : decode cX2_turnTo 13 = .ok (.getfield 73, 3) := by decide +kernel
theorem dX2_turnTo_16 : decode cX2_turnTo 16 = .ok (.iadd, 1) := by decide +kernel
theorem dX2_turnTo_17 : decode cX2_turnTo 17 = .ok (.istore_n 2, 1) := by decide +kernel
theorem dX2_turnTo_18 : decode cX2_turnTo 18 = .ok (.iload_n 2, 1) := by decide +kernel
theorem dX2_turnTo_19 : decode cX2_turnTo 19 = .ok (.aload_n 0, 1) := by decide +kernel
theorem dX2_turnTo_20 : decode cX2_turnTo 20 = .ok (.getfield 73, 3) := by decide +kernel
theorem dX2_turnTo_23 : decode cX2_turnTo 23 = .ok (.iload_n 2, 1) := by decide +kernel
theorem dX2_turnTo_24 : decode cX2_turnTo 24 = .ok (.isub, 1) := by decide +kernel
theorem dX2_turnTo_25 : decode cX2_turnTo 25 = .ok (.if_icmp .gt 7, 3) := by decide +kernel
theorem dX2_turnTo_28 : decode cX2_turnTo 28 = .ok (.iconst 5, 1) := by decide +kernel
theorem dX2_turnTo_29 : decode cX2_turnTo 29 = .ok (.goto 5, 3) := by decide +kernel
theorem dX2_turnTo_32 : decode cX2_turnTo 32 = .ok (.bipush 6, 2) := by decide +kernel
theorem dX2_turnTo_34 : decode cX2_turnTo 34 = .ok (.ireturn, 1) := by decide +kernel
def fX2_turnTo_18 (x2 : Int32) (s : SS) : Option (Int32 × SS) := if ((s.1 0 0) - x2) < x2 then (some ((6 : Int32), s)) else (some ((5 : Int32), s))
def fX2_turnTo_0 (x1 : Int32) (s : SS) : Option (Int32 × SS) := if 0 ≤ (x1 - (s.1 0 1)) then (fX2_turnTo_18 (x1 - (s.1 0 1)) s) else (fX2_turnTo_18 ((x1 - (s.1 0 1)) + (s.1 0 0)) s)
def fX2_turnTo (x1 : Int32) (s : SS) : Option (Int32 × SS) := fX2_turnTo_0 x1 s
set_option maxRecDepth 100000 in
set_option maxHeartbeats 4000000 in
theorem okX2_turnTo_18 {G : GG} {pl : Nat → Nat} {h0 : PH} (x2 : Int32) (s : SS) : EvF G 0 mX2_turnTo lyC pl h0 rvI (fX2_turnTo_18 x2 s) 18 [(0, .ref (pl 0)), (2, .int x2)] [] s := by
  unfold fX2_turnTo_18
  refine ef_iload_n (q := 19) 1 dX2_turnTo_18 rfl rfl rfl ?_
  refine ef_aload_n (q := 20) 0 dX2_turnTo_19 rfl rfl rfl ?_
  refine ef_getI (x := s.1 0 0) (q := 23) rfl fl2_73 rfl rfl dX2_turnTo_20 rfl ?_
  refine ef_iload_n (q := 24) 1 dX2_turnTo_23 rfl rfl rfl ?_
  refine ef_isub (q := 25) dX2_turnTo_24 rfl ?_
  refine ef_if (pt := 32) (pf := 28) (fun _ _ => ev_icmp_gt (tgt := 32) dX2_turnTo_25 (by decide)) (fun h1 => ?_) (fun h1 => ?_)
  · refine ef_bipush (v := (6 : Int32)) (q := 34) dX2_turnTo_32 (by decide) rfl ?_
    exact ef_iret rfl dX2_turnTo_34
  · refine ef_iconst (v := (5 : Int32)) (q := 29) dX2_turnTo_28 (by decide) rfl ?_
    refine ef_goto (tgt := 34) dX2_turnTo_29 (by decide) ?_
    exact ef_iret rfl dX2_turnTo_34
set_option maxRecDepth 100000 in
set_option maxHeartbeats 4000000 in
theorem okX2_turnTo_0 {G : GG} {pl : Nat → Nat} {h0 : PH} (x1 : Int32) (s : SS) : EvF G 0 mX2_turnTo lyC pl h0 rvI (fX2_turnTo_0 x1 s) 0 [(0, .ref (pl 0)), (1, .int x1)] [] s := by
  unfold fX2_turnTo_0
  refine ef_iload_n (q := 1) 1 dX2_turnTo_0 rfl rfl rfl ?_
  refine ef_aload_n (q := 2) 0 dX2_turnTo_1 rfl rfl rfl ?_
  refine ef_getI (x := s.1 0 1) (q := 5) rfl fl2_43 rfl rfl dX2_turnTo_2 rfl ?_
  refine ef_isub (q := 6) dX2_turnTo_5 rfl ?_
  refine ef_istore_n (lv' := [(2, .int (x1 - (s.1 0 1))), (0, .ref (pl 0)), (1, .int x1)]) (q := 7) dX2_turnTo_6 rfl (by decide) rfl rfl ?_
  refine ef_iload_n (q := 8) 0 dX2_turnTo_7 rfl rfl rfl ?_
  refine ef_if (pt := 18) (pf := 11) (fun _ _ => ev_if_ge (tgt := 18) dX2_turnTo_8 (by decide)) (fun h1 => ?_) (fun h1 => ?_)
  · refine ef_sub (lv' := [(0, .ref (pl 0)), (2, .int (x1 - (s.1 0 1)))]) [1, 0] rfl ?_
    exact okX2_turnTo_18 (x1 - (s.1 0 1)) s
  · refine ef_iload_n (q := 12) 0 dX2_turnTo_11 rfl rfl rfl ?_
    refine ef_aload_n (q := 13) 1 dX2_turnTo_12 rfl rfl rfl ?_
    refine ef_getI (x := s.1 0 0) (q := 16) rfl fl2_73 rfl rfl dX2_turnTo_13 rfl ?_
    refine ef_iadd (q := 17) dX2_turnTo_16 rfl ?_
    refine ef_istore_n (lv' := [(2, .int ((x1 - (s.1 0 1)) + (s.1 0 0))), (0, .ref (pl 0)), (1, .int x1)]) (q := 18) dX2_turnTo_17 rfl (by decide) rfl rfl ?_
    refine ef_sub (lv' := [(0, .ref (pl 0)), (2, .int ((x1 - (s.1 0 1)) + (s.1 0 0)))]) [1, 0] rfl ?_
    exact okX2_turnTo_18 ((x1 - (s.1 0 1)) + (s.1 0 0)) s
theorem okX2_turnTo (x1 : Int32) : MtF 0 mX2_turnTo lyC rvI (fun _ pl => [.ref (pl 0), .int x1]) (fX2_turnTo x1) := by
  refine MtF.of (by decide +kernel) rfl (fun _ pl => Nat.le_of_ble_eq_true rfl) (fun G pl h0 s => ?_)
  refine ef_sub (lv := [(0, .ref (pl 0)), (1, .int x1)]) (lv' := [(0, .ref (pl 0)), (1, .int x1)]) [0, 1] rfl ?_
  exact okX2_turnTo_0  x1 s
-- X2_weigh
theorem dX2_weigh_0 : decode cX2_weigh 0 = .ok (.aload_n 1, 1) := by decide +kernel
theorem dX2_weigh_1 : decode cX2_weigh 1 = .ok (.getfield 85, 3) := by decide +kernel
theorem dX2_weigh_4 : decode cX2_weigh 4 = .ok (.aload_n 0, 1) := by decide +kernel
theorem dX2_weigh_5 : decode cX2_weigh 5 = .ok (.getfield 24, 3) := by decide +kernel
theorem dX2_weigh_8 : decode cX2_weigh 8 = .ok (.if_icmp .lt 14, 3) := by decide +kernel
theorem dX2_weigh_11 : decode cX2_weigh 11 = .ok (.aload_n 1, 1) := by decide +kernel
theorem dX2_weigh_12 : decode cX2_weigh 12 = .ok (.getfield 99, 3) := by decide +kernel
theorem dX2_weigh_15 : decode cX2_weigh 15 = .ok (.aload_n 0, 1) := by decide +kernel
theorem dX2_weigh_16 : decode cX2_weigh 16 = .ok (.getfield 28, 3) := by decide +kernel
theorem dX2_weigh_19 : decode cX2_weigh 19 = .ok (.if_icmp .le 33, 3) := by decide +kernel
theorem dX2_weigh_22 : decode cX2_weigh 22 = .ok (.aload_n 0, 1) := by decide +kernel
theorem dX2_weigh_23 : decode cX2_weigh 23 = .ok (.aload_n 1, 1) := by decide +kernel
theorem dX2_weigh_24 : decode cX2_weigh 24 = .ok (.getfield 85, 3) := by decide +kernel
theorem dX2_weigh_27 : decode cX2_weigh 27 = .ok (.putfield 24, 3) := by decide +kernel
theorem dX2_weigh_30 : decode cX2_weigh 30 = .ok (.aload_n 0, 1) := by decide +kernel
theorem dX2_weigh_31 : decode cX2_weigh 31 = .ok (.aload_n 1, 1) := by decide +kernel
theorem dX2_weigh_32 : decode cX2_weigh 32 = .ok (.getfield 99, 3) := by decide +kernel
theorem dX2_weigh_35 : decode cX2_weigh 35 = .ok (.putfield 28, 3) := by decide +kernel
theorem dX2_weigh_38 : decode cX2_weigh 38 = .ok (.aload_n 0, 1) := by decide +kernel
theorem dX2_weigh_39 : decode cX2_weigh 39 = .ok (.getfield 17, 3) := by decide +kernel
theorem dX2_weigh_42 : decode cX2_weigh 42 = .ok (.iconst 0, 1) := by decide +kernel
theorem dX2_weigh_43 : decode cX2_weigh 43 = .ok (.aload_n 0, 1) := by decide +kernel
theorem dX2_weigh_44 : decode cX2_weigh 44 = .ok (.getfield 21, 3) := by decide +kernel
theorem dX2_weigh_47 : decode cX2_weigh 47 = .ok (.iconst 0, 1) := by decide +kernel
theorem dX2_weigh_48 : decode cX2_weigh 48 = .ok (.iconst 3, 1) := by decide +kernel
theorem dX2_weigh_49 : decode cX2_weigh 49 = .ok (.invokestatic 102, 3) := by decide +kernel
theorem dX2_weigh_52 : decode cX2_weigh 52 = .ok (.return_, 1) := by decide +kernel
def fX2_weigh_22 (j1 : Nat) (s : SS) : Option (Unit × SS) := if acOK (0 : Int32) (0 : Int32) (3 : Int32) 3 3 then (some ((), wrA (wrI (wrI s 0 3 (s.1 (4 + 5 * j1) 8)) 0 4 ((wrI s 0 3 (s.1 (4 + 5 * j1) 8)).1 (4 + 5 * j1) 9)) 3  (va_cpy (s.1 2) (s.1 3) (0 : Int32).toNatClampNeg (0 : Int32).toNatClampNeg (3 : Int32).toNatClampNeg))) else none
def fX2_weigh_0 (j1 : Nat) (s : SS) : Option (Unit × SS) := if (s.1 (4 + 5 * j1) 8) < (s.1 0 3) then (fX2_weigh_22 j1 s) else (if (s.1 (4 + 5 * j1) 9) ≤ (s.1 0 4) then (some ((), s)) else (fX2_weigh_22 j1 s))
def fX2_weigh (j1 : Nat) (s : SS) : Option (Unit × SS) := if j1 < 4 then fX2_weigh_0 j1 s else none
set_option maxRecDepth 100000 in
set_option maxHeartbeats 4000000 in
theorem okX2_weigh_22 {G : GG} {pl : Nat → Nat} {h0 : PH} (j1 : Nat) (hj1 : j1 < 4) (s : SS) : EvF G 1 mX2_weigh lyD pl h0 rvU (fX2_weigh_22 j1 s) 22 [(0, .ref (pl 0)), (1, .ref (pl (4 + 5 * j1)))] [] s := by
  unfold fX2_weigh_22
  refine ef_aload_n (q := 23) 0 dX2_weigh_22 rfl rfl rfl ?_
  refine ef_aload_n (q := 24) 1 dX2_weigh_23 rfl rfl rfl ?_
  refine ef_getI (x := s.1 (4 + 5 * j1) 8) (q := 27) (lyD_f1_0 _ (hj1)) fl2_85 rfl rfl dX2_weigh_24 rfl ?_
  refine ef_putI (q := 30) rfl fl2_24 rfl rfl dX2_weigh_27 rfl ?_
  refine ef_aload_n (q := 31) 0 dX2_weigh_30 rfl rfl rfl ?_
  refine ef_aload_n (q := 32) 1 dX2_weigh_31 rfl rfl rfl ?_
  refine ef_getI (x := (wrI s 0 3 (s.1 (4 + 5 * j1) 8)).1 (4 + 5 * j1) 9) (q := 35) (lyD_f1_0 _ (hj1)) fl2_99 rfl rfl dX2_weigh_32 rfl ?_
  refine ef_putI (q := 38) rfl fl2_28 rfl rfl dX2_weigh_35 rfl ?_
  refine ef_aload_n (q := 39) 0 dX2_weigh_38 rfl rfl rfl ?_
  refine ef_getR (t := 2) (q := 42) rfl fl2_17 rfl rfl dX2_weigh_39 rfl ?_
  refine ef_iconst (v := (0 : Int32)) (q := 43) dX2_weigh_42 (by decide) rfl ?_
  refine ef_aload_n (q := 44) 0 dX2_weigh_43 rfl rfl rfl ?_
  refine ef_getR (t := 3) (q := 47) rfl fl2_21 rfl rfl dX2_weigh_44 rfl ?_
  refine ef_iconst (v := (0 : Int32)) (q := 48) dX2_weigh_47 (by decide) rfl ?_
  refine ef_iconst (v := (3 : Int32)) (q := 49) dX2_weigh_48 (by decide) rfl ?_
  refine ef_guard (fun g1 => ?_)
  refine ef_acopyI (k0 := 2) (k1 := 3) (q := 52) rfl rfl ml2_102 g1 (by decide) (Nat.le_of_ble_eq_true rfl) dX2_weigh_49 rfl rfl ?_
  exact ef_vret rfl dX2_weigh_52
set_option maxRecDepth 100000 in
set_option maxHeartbeats 4000000 in
theorem okX2_weigh_0 {G : GG} {pl : Nat → Nat} {h0 : PH} (j1 : Nat) (hj1 : j1 < 4) (s : SS) : EvF G 1 mX2_weigh lyD pl h0 rvU (fX2_weigh_0 j1 s) 0 [(0, .ref (pl 0)), (1, .ref (pl (4 + 5 * j1)))] [] s := by
  unfold fX2_weigh_0
  refine ef_aload_n (q := 1) 1 dX2_weigh_0 rfl rfl rfl ?_
  refine ef_getI (x := s.1 (4 + 5 * j1) 8) (q := 4) (lyD_f1_0 _ (hj1)) fl2_85 rfl rfl dX2_weigh_1 rfl ?_
  refine ef_aload_n (q := 5) 0 dX2_weigh_4 rfl rfl rfl ?_
  refine ef_getI (x := s.1 0 3) (q := 8) rfl fl2_24 rfl rfl dX2_weigh_5 rfl ?_
  refine ef_if (pt := 22) (pf := 11) (fun _ _ => ev_icmp_lt (tgt := 22) dX2_weigh_8 (by decide)) (fun h1 => ?_) (fun h1 => ?_)
  · refine ef_sub (lv' := [(0, .ref (pl 0)), (1, .ref (pl (4 + 5 * j1)))]) [0, 1] rfl ?_
    exact okX2_weigh_22 j1 hj1 s
  · refine ef_aload_n (q := 12) 1 dX2_weigh_11 rfl rfl rfl ?_
    refine ef_getI (x := s.1 (4 + 5 * j1) 9) (q := 15) (lyD_f1_0 _ (hj1)) fl2_99 rfl rfl dX2_weigh_12 rfl ?_
    refine ef_aload_n (q := 16) 0 dX2_weigh_15 rfl rfl rfl ?_
    refine ef_getI (x := s.1 0 4) (q := 19) rfl fl2_28 rfl rfl dX2_weigh_16 rfl ?_
    refine ef_if (pt := 52) (pf := 22) (fun _ _ => ev_icmp_le (tgt := 52) dX2_weigh_19 (by decide)) (fun h2 => ?_) (fun h2 => ?_)
    · exact ef_vret rfl dX2_weigh_52
    · refine ef_sub (lv' := [(0, .ref (pl 0)), (1, .ref (pl (4 + 5 * j1)))]) [0, 1] rfl ?_
      exact okX2_weigh_22 j1 hj1 s
theorem okX2_weigh (j1 : Nat) : MtF 1 mX2_weigh lyD rvU (fun _ pl => [.ref (pl 0), .ref (pl (4 + 5 * j1))]) (fX2_weigh j1) := by
  refine MtF.of (by decide +kernel) rfl (fun _ pl => Nat.le_of_ble_eq_true rfl) (fun G pl h0 s => ?_)
  refine ef_guard (fun gal => ?_)
  refine ef_sub (lv := [(0, .ref (pl 0)), (1, .ref (pl (4 + 5 * j1)))]) (lv' := [(0, .ref (pl 0)), (1, .ref (pl (4 + 5 * j1)))]) [0, 1] rfl ?_
  exact okX2_weigh_0  j1 gal s
-- X2_deepen
theorem dX2_deepen_0 : decode cX2_deepen 0 = .ok (.aload_n 0, 1) := by decide +kernel
theorem dX2_deepen_1 : decode cX2_deepen 1 = .ok (.getfield 11, 3) := by decide +kernel
theorem dX2_deepen_4 : decode cX2_deepen 4 = .ok (.iload_n 1, 1) := by decide +kernel
theorem dX2_deepen_5 : decode cX2_deepen 5 = .ok (.aaload, 1) := by decide +kernel
theorem dX2_deepen_6 : decode cX2_deepen 6 = .ok (.astore_n 3, 1) := by decide +kernel
theorem dX2_deepen_7 : decode cX2_deepen 7 = .ok (.aload_n 3, 1) := by decide +kernel
theorem dX2_deepen_8 : decode cX2_deepen 8 = .ok (.getfield 85, 3) := by decide +kernel
theorem dX2_deepen_11 : decode cX2_deepen 11 = .ok (.aload_n 0, 1) := by decide +kernel
theorem dX2_deepen_12 : decode cX2_deepen 12 = .ok (.getfield 24, 3) := by decide +kernel
theorem dX2_deepen_15 : decode cX2_deepen 15 = .ok (.if_icmp .le 4, 3) := by decide +kernel
theorem dX2_deepen_18 : decode cX2_deepen 18 = .ok (.return_, 1) := by decide +kernel
theorem dX2_deepen_19 : decode cX2_deepen 19 = .ok (.iload_n 1, 1) := by decide +kernel
theorem dX2_deepen_20 : decode cX2_deepen 20 = .ok (.iload_n 2, 1) := by decide +kernel
theorem dX2_deepen_21 : decode cX2_deepen 21 = .ok (.if_icmp .ge 8, 3) := by decide +kernel
theorem dX2_deepen_24 : decode cX2_deepen 24 = .ok (.iload_n 1, 1) := by decide +kernel
theorem dX2_deepen_25 : decode cX2_deepen 25 = .ok (.iconst 3, 1) := by decide +kernel
theorem dX2_deepen_26 : decode cX2_deepen 26 = .ok (.if_icmp .lt 9, 3) := by decide +kernel
theorem dX2_deepen_29 : decode cX2_deepen 29 = .ok (.aload_n 0, 1) := by decide +kernel
theorem dX2_deepen_30 : decode cX2_deepen 30 = .ok (.aload_n 3, 1) := by decide +kernel
theorem dX2_deepen_31 : decode cX2_deepen 31 = .ok (.invokevirtual 88, 3) := by decide +kernel
theorem dX2_deepen_34 : decode cX2_deepen 34 = .ok (.return_, 1) := by decide +kernel
theorem dX2_deepen_35 : decode cX2_deepen 35 = .ok (.aload_n 0, 1) := by decide +kernel
theorem dX2_deepen_36 : decode cX2_deepen 36 = .ok (.getfield 11, 3) := by decide +kernel
theorem dX2_deepen_39 : decode cX2_deepen 39 = .ok (.iload_n 1, 1) := by decide +kernel
theorem dX2_deepen_40 : decode cX2_deepen 40 = .ok (.iconst 1, 1) := by decide +kernel
theorem dX2_deepen_41 : decode cX2_deepen 41 = .ok (.iadd, 1) := by decide +kernel
theorem dX2_deepen_42 : decode cX2_deepen 42 = .ok (.aaload, 1) := by decide +kernel
theorem dX2_deepen_43 : decode cX2_deepen 43 = .ok (.astore 4, 2) := by decide +kernel
theorem dX2_deepen_45 : decode cX2_deepen 45 = .ok (.iconst 0, 1) := by decide +kernel
theorem dX2_deepen_46 : decode cX2_deepen 46 = .ok (.istore 5, 2) := by decide +kernel
theorem dX2_deepen_48 : decode cX2_deepen 48 = .ok (.iload 5, 2) := by decide +kernel
theorem dX2_deepen_50 : decode cX2_deepen 50 = .ok (.bipush 6, 2) := by decide +kernel
theorem dX2_deepen_52 : decode cX2_deepen 52 = .ok (.if_icmp .gt 55, 3) := by decide +kernel
theorem dX2_deepen_55 : decode cX2_deepen 55 = .ok (.iload 5, 2) := by decide +kernel
theorem dX2_deepen_57 : decode cX2_deepen 57 = .ok (.ifCond .eq 15, 3) := by decide +kernel
theorem dX2_deepen_60 : decode cX2_deepen 60 = .ok (.aload_n 3, 1) := by decide +kernel
theorem dX2_deepen_61 : decode cX2_deepen 61 = .ok (.iload 5, 2) := by decide +kernel
theorem dX2_deepen_63 : decode cX2_deepen 63 = .ok (.invokevirtual 91, 3) := by decide +kernel
theorem dX2_deepen_66 : decode cX2_deepen 66 = .ok (.ifCond .eq 6, 3) := by decide +kernel
theorem dX2_deepen_69 : decode cX2_deepen 69 = .ok (.goto 32, 3) := by decide +kernel
theorem dX2_deepen_72 : decode cX2_deepen 72 = .ok (.aload_n 0, 1) := by decide +kernel
theorem dX2_deepen_73 : decode cX2_deepen 73 = .ok (.getfield 17, 3) := by decide +kernel
theorem dX2_deepen_76 : decode cX2_deepen 76 = .ok (.iload_n 1, 1) := by decide +kernel
theorem dX2_deepen_77 : decode cX2_deepen 77 = .ok (.iload 5, 2) := by decide +kernel
theorem dX2_deepen_79 : decode cX2_deepen 79 = .ok (.iastore, 1) := by decide +kernel
theorem dX2_deepen_80 : decode cX2_deepen 80 = .ok (.aload 4, 2) := by decide +kernel
theorem dX2_deepen_82 : decode cX2_deepen 82 = .ok (.aload_n 3, 1) := by decide +kernel
theorem dX2_deepen_83 : decode cX2_deepen 83 = .ok (.invokevirtual 76, 3) := by decide +kernel
theorem dX2_deepen_86 : decode cX2_deepen 86 = .ok (.aload 4, 2) := by decide +kernel
theorem dX2_deepen_88 : decode cX2_deepen 88 = .ok (.iload 5, 2) := by decide +kernel
theorem dX2_deepen_90 : decode cX2_deepen 90 = .ok (.invokevirtual 95, 3) := by decide +kernel
theorem dX2_deepen_93 : decode cX2_deepen 93 = .ok (.aload_n 0, 1) := by decide +kernel
theorem dX2_deepen_94 : decode cX2_deepen 94 = .ok (.iload_n 1, 1) := by decide +kernel
theorem dX2_deepen_95 : decode cX2_deepen 95 = .ok (.iconst 1, 1) := by decide +kernel
theorem dX2_deepen_96 : decode cX2_deepen 96 = .ok (.iadd, 1) := by decide +kernel
theorem dX2_deepen_97 : decode cX2_deepen 97 = .ok (.iload_n 2, 1) := by decide +kernel
theorem dX2_deepen_98 : decode cX2_deepen 98 = .ok (.invokestatic 81, 3) := by decide +kernel
theorem dX2_deepen_101 : decode cX2_deepen 101 = .ok (.iinc 5 1, 3) := by decide +kernel
theorem dX2_deepen_104 : decode cX2_deepen 104 = .ok (.goto (-56), 3) := by decide +kernel
theorem dX2_deepen_107 : decode cX2_deepen 107 = .ok (.return_, 1) := by decide +kernel
def fX2_deepen_29 (self : Int32 → Int32 → SS → Option (Unit × SS)) (j3 : Nat) (s : SS) : Option (Unit × SS) := ((fX2_weigh j3 s).bind fun z1 => some ((), z1.2))
def fX2_deepen_72 (self : Int32 → Int32 → SS → Option (Unit × SS)) (rec_48 : Int32 → Int32 → Nat → Nat → Int32 → SS → Option (Unit × SS)) (x1 : Int32) (x2 : Int32) (j3 : Nat) (j4 : Nat) (x5 : Int32) (s : SS) : Option (Unit × SS) := if ixB x1 3 then (if j4 ≠ j3 then (((fX0_takeFrom (selS (fun k => if k < 5 then 4 + 5 * j4 + k else 4 + 5 * j3 + (k - 5)) (wrI s 2 x1.toNatClampNeg x5))).bind fun z2 => ((fX0_pass x5 (selS (fun k => 4 + 5 * j4 + k) (mrgS (fun k => if k < 5 then 4 + 5 * j4 + k else 4 + 5 * j3 + (k - 5)) 10 (wrI s 2 x1.toNatClampNeg x5) z2.2))).bind fun z4 => ((self (x1 + (1 : Int32)) x2 (mrgS (fun k => 4 + 5 * j4 + k) 5 (mrgS (fun k => if k < 5 then 4 + 5 * j4 + k else 4 + 5 * j3 + (k - 5)) 10 (wrI s 2 x1.toNatClampNeg x5) z2.2) z4.2)).bind fun z5 => rec_48 x1 x2 j3 j4 (x5 + (1 : Int32)) z5.2)))) else none) else none
def fX2_deepen_48 (self : Int32 → Int32 → SS → Option (Unit × SS)) : Nat → Int32 → Int32 → Nat → Nat → Int32 → SS → Option (Unit × SS)
  | 0, _, _, _, _, _, _ => none
  | n + 1, x1, x2, j3, j4, x5, s => if (6 : Int32) < x5 then (some ((), s)) else (if x5 = 0 then (fX2_deepen_72 self (fX2_deepen_48 self n) x1 x2 j3 j4 x5 s) else (((fX0_isIdle x5 (selS (fun k => 4 + 5 * j3 + k) s)).bind fun z3 => if z3.1 = 0 then (fX2_deepen_72 self (fX2_deepen_48 self n) x1 x2 j3 j4 x5 (mrgS (fun k => 4 + 5 * j3 + k) 5 s z3.2)) else (fX2_deepen_48 self n x1 x2 j3 j4 (x5 + (1 : Int32)) (mrgS (fun k => 4 + 5 * j3 + k) 5 s z3.2)))))
def fX2_deepen_0 (self : Int32 → Int32 → SS → Option (Unit × SS)) (x1 : Int32) (x2 : Int32) (s : SS) : Option (Unit × SS) := if ixB x1 4 then (if (s.1 (4 + 5 * x1.toNatClampNeg) 8) ≤ (s.1 0 3) then (if x2 ≤ x1 then (fX2_deepen_29 self x1.toNatClampNeg s) else (if x1 < (3 : Int32) then (if ixB (x1 + (1 : Int32)) 4 then (fX2_deepen_48 self FU x1 x2 x1.toNatClampNeg ((x1 + (1 : Int32)).toNatClampNeg) (0 : Int32) s) else none) else (fX2_deepen_29 self x1.toNatClampNeg s))) else (some ((), s))) else none
def fX2_deepen_b (self : Int32 → Int32 → SS → Option (Unit × SS)) (x1 : Int32) (x2 : Int32) (s : SS) : Option (Unit × SS) := fX2_deepen_0 self x1 x2 s
set_option maxRecDepth 100000 in
set_option maxHeartbeats 4000000 in
theorem okX2_deepen_29 {G : GG} {pl : Nat → Nat} {h0 : PH} {d dself : Nat} (hd1 : dself + 1 ≤ d) (hd2 : 3 ≤ d) (self : Int32 → Int32 → SS → Option (Unit × SS)) (hself : ∀ (x1 : Int32) (x2 : Int32), MtF dself mX2_deepen lyD rvU (fun _ pl => [.ref (pl 0), .int x1, .int x2]) (self x1 x2)) (j3 : Nat) (hj3 : j3 < 4) (s : SS) : EvF G d mX2_deepen lyD pl h0 rvU (fX2_deepen_29 self j3 s) 29 [(0, .ref (pl 0)), (3, .ref (pl (4 + 5 * j3)))] [] s := by
  unfold fX2_deepen_29
  refine ef_aload_n (q := 30) 0 dX2_deepen_29 rfl rfl rfl ?_
  refine ef_aload_n (q := 31) 1 dX2_deepen_30 rfl rfl rfl ?_
  refine ef_invVU0 (k := 0) (As := [.ref (pl (4 + 5 * j3))]) (rest := []) (q := 34) (okX2_weigh j3) rfl calX2_weigh ml2_88 (by omega) rfl rfl rfl (Nat.le_of_ble_eq_true rfl) dX2_deepen_31 rfl (fun z1 => ?_)
  exact ef_vret rfl dX2_deepen_34
set_option maxRecDepth 100000 in
set_option maxHeartbeats 4000000 in
theorem okX2_deepen_72 {G : GG} {pl : Nat → Nat} {h0 : PH} {d dself : Nat} (hd1 : dself + 1 ≤ d) (hd2 : 3 ≤ d) (self : Int32 → Int32 → SS → Option (Unit × SS)) (hself : ∀ (x1 : Int32) (x2 : Int32), MtF dself mX2_deepen lyD rvU (fun _ pl => [.ref (pl 0), .int x1, .int x2]) (self x1 x2)) (rec_48 : Int32 → Int32 → Nat → Nat → Int32 → SS → Option (Unit × SS)) (hrec_48 : ∀ (x1 : Int32) (x2 : Int32) (j3 : Nat) (hj3 : j3 < 4) (j4 : Nat) (hj4 : j4 < 4) (x5 : Int32) (s : SS), EvF G d mX2_deepen lyD pl h0 rvU (rec_48 x1 x2 j3 j4 x5 s) 48 [(0, .ref (pl 0)), (1, .int x1), (2, .int x2), (3, .ref (pl (4 + 5 * j3))), (4, .ref (pl (4 + 5 * j4))), (5, .int x5)] [] s) (x1 : Int32) (x2 : Int32) (j3 : Nat) (hj3 : j3 < 4) (j4 : Nat) (hj4 : j4 < 4) (x5 : Int32) (s : SS) : EvF G d mX2_deepen lyD pl h0 rvU (fX2_deepen_72 self rec_48 x1 x2 j3 j4 x5 s) 72 [(0, .ref (pl 0)), (1, .int x1), (2, .int x2), (3, .ref (pl (4 + 5 * j3))), (4, .ref (pl (4 + 5 * j4))), (5, .int x5)] [] s := by
  unfold fX2_deepen_72
  refine ef_aload_n (q := 73) 0 dX2_deepen_72 rfl rfl rfl ?_
  refine ef_getR (t := 2) (q := 76) rfl fl2_17 rfl rfl dX2_deepen_73 rfl ?_
  refine ef_iload_n (q := 77) 1 dX2_deepen_76 rfl rfl rfl ?_
  refine ef_iload (q := 79) 5 dX2_deepen_77 rfl rfl ?_
  refine ef_guard (fun g1 => ?_)
  refine ef_iastore (j := x1.toNatClampNeg) (q := 80) rfl g1 dX2_deepen_79 rfl rfl ?_
  refine ef_aload (q := 82) 4 dX2_deepen_80 rfl rfl ?_
  refine ef_aload_n (q := 83) 3 dX2_deepen_82 rfl rfl rfl ?_
  refine ef_guard (fun g3 => ?_)
  refine ef_invVU (k := (4 + 5 * j4)) (nn := 10) (π := (fun k => if k < 5 then 4 + 5 * j4 + k else 4 + 5 * j3 + (k - 5))) (As := [.ref (pl (4 + 5 * j3))]) (rest := []) (q := 86) (okX0_takeFrom) (lm2_D_CC_s1_0_s1_0 _ (hj4) _ (hj3) g3) rfl calX0_takeFrom ml2_76 (by omega) (lyD_f1_0 _ (hj4)) rfl rfl (Nat.le_of_ble_eq_true rfl) dX2_deepen_83 rfl rfl (fun z2 => ?_)
  refine ef_aload (q := 88) 4 dX2_deepen_86 rfl rfl ?_
  refine ef_iload (q := 90) 5 dX2_deepen_88 rfl rfl ?_
  refine ef_invVU (k := (4 + 5 * j4)) (nn := 5) (π := (fun k => 4 + 5 * j4 + k)) (As := [.int x5]) (rest := []) (q := 93) (okX0_pass x5) (lm_D_C_s1_0 _ (hj4)) rfl calX0_pass ml2_95 (by omega) (lyD_f1_0 _ (hj4)) rfl rfl (Nat.le_of_ble_eq_true rfl) dX2_deepen_90 rfl rfl (fun z4 => ?_)
  refine ef_aload_n (q := 94) 0 dX2_deepen_93 rfl rfl rfl ?_
  refine ef_iload_n (q := 95) 1 dX2_deepen_94 rfl rfl rfl ?_
  refine ef_iconst (v := (1 : Int32)) (q := 96) dX2_deepen_95 (by decide) rfl ?_
  refine ef_iadd (q := 97) dX2_deepen_96 rfl ?_
  refine ef_iload_n (q := 98) 2 dX2_deepen_97 rfl rfl rfl ?_
  refine ef_invSU0 (As := [.ref (pl 0), .int (x1 + (1 : Int32)), .int x2]) (rest := []) (q := 101) (hself (x1 + (1 : Int32)) x2) rfl calX2_deepen ml2_81 hd1 rfl rfl (Nat.le_of_ble_eq_true rfl) dX2_deepen_98 rfl (fun z5 => ?_)
  refine ef_iinc (v := x5 + (1 : Int32)) (lv' := [(5, .int (x5 + (1 : Int32))), (0, .ref (pl 0)), (1, .int x1), (2, .int x2), (3, .ref (pl (4 + 5 * j3))), (4, .ref (pl (4 + 5 * j4)))]) (q := 104) 5 dX2_deepen_101 rfl rfl (by decide) rfl rfl ?_
  refine ef_goto (tgt := 48) dX2_deepen_104 (by decide) ?_
  refine ef_sub (lv' := [(0, .ref (pl 0)), (1, .int x1), (2, .int x2), (3, .ref (pl (4 + 5 * j3))), (4, .ref (pl (4 + 5 * j4))), (5, .int (x5 + (1 : Int32)))]) [1, 2, 3, 4, 5, 0] rfl ?_
  exact hrec_48 x1 x2 j3 hj3 j4 hj4 (x5 + (1 : Int32)) z5.2
set_option maxRecDepth 100000 in
set_option maxHeartbeats 4000000 in
theorem okX2_deepen_48 {G : GG} {pl : Nat → Nat} {h0 : PH} {d dself : Nat} (hd1 : dself + 1 ≤ d) (hd2 : 3 ≤ d) (self : Int32 → Int32 → SS → Option (Unit × SS)) (hself : ∀ (x1 : Int32) (x2 : Int32), MtF dself mX2_deepen lyD rvU (fun _ pl => [.ref (pl 0), .int x1, .int x2]) (self x1 x2)) : ∀ (n : Nat) (x1 : Int32) (x2 : Int32) (j3 : Nat) (hj3 : j3 < 4) (j4 : Nat) (hj4 : j4 < 4) (x5 : Int32) (s : SS), EvF G d mX2_deepen lyD pl h0 rvU (fX2_deepen_48 self n x1 x2 j3 j4 x5 s) 48 [(0, .ref (pl 0)), (1, .int x1), (2, .int x2), (3, .ref (pl (4 + 5 * j3))), (4, .ref (pl (4 + 5 * j4))), (5, .int x5)] [] s := by
  intro n
  induction n with
  | zero => intro x1 x2 j3 hj3 j4 hj4 x5 s; rw [fX2_deepen_48]; exact ef_none
  | succ n ih =>
    intro x1 x2 j3 hj3 j4 hj4 x5 s
    rw [fX2_deepen_48]
    refine ef_iload (q := 50) 5 dX2_deepen_48 rfl rfl ?_
    refine ef_bipush (v := (6 : Int32)) (q := 52) dX2_deepen_50 (by decide) rfl ?_
    refine ef_if (pt := 107) (pf := 55) (fun _ _ => ev_icmp_gt (tgt := 107) dX2_deepen_52 (by decide)) (fun h1 => ?_) (fun h1 => ?_)
    · exact ef_vret rfl dX2_deepen_107
    · refine ef_iload (q := 57) 5 dX2_deepen_55 rfl rfl ?_
      refine ef_if (pt := 72) (pf := 60) (fun _ _ => ev_if_eq (tgt := 72) dX2_deepen_57 (by decide)) (fun h2 => ?_) (fun h2 => ?_)
      · refine ef_sub (lv' := [(0, .ref (pl 0)), (1, .int x1), (2, .int x2), (3, .ref (pl (4 + 5 * j3))), (4, .ref (pl (4 + 5 * j4))), (5, .int x5)]) [0, 1, 2, 3, 4, 5] rfl ?_
        exact okX2_deepen_72 hd1 hd2 self hself (fX2_deepen_48 self n) ih x1 x2 j3 hj3 j4 hj4 x5 s
      · refine ef_aload_n (q := 61) 3 dX2_deepen_60 rfl rfl rfl ?_
        refine ef_iload (q := 63) 5 dX2_deepen_61 rfl rfl ?_
        refine ef_invVI (k := (4 + 5 * j3)) (nn := 5) (π := (fun k => 4 + 5 * j3 + k)) (As := [.int x5]) (rest := []) (q := 66) (okX0_isIdle x5) (lm_D_C_s1_0 _ (hj3)) rfl calX0_isIdle ml2_91 (by omega) (lyD_f1_0 _ (hj3)) rfl rfl (Nat.le_of_ble_eq_true rfl) dX2_deepen_63 rfl rfl (fun z3 => ?_)
        refine ef_if (pt := 72) (pf := 69) (fun _ _ => ev_if_eq (tgt := 72) dX2_deepen_66 (by decide)) (fun h4 => ?_) (fun h4 => ?_)
        · refine ef_sub (lv' := [(0, .ref (pl 0)), (1, .int x1), (2, .int x2), (3, .ref (pl (4 + 5 * j3))), (4, .ref (pl (4 + 5 * j4))), (5, .int x5)]) [0, 1, 2, 3, 4, 5] rfl ?_
          exact okX2_deepen_72 hd1 hd2 self hself (fX2_deepen_48 self n) ih x1 x2 j3 hj3 j4 hj4 x5 (mrgS (fun k => 4 + 5 * j3 + k) 5 s z3.2)
        · refine ef_goto (tgt := 101) dX2_deepen_69 (by decide) ?_
          refine ef_iinc (v := x5 + (1 : Int32)) (lv' := [(5, .int (x5 + (1 : Int32))), (0, .ref (pl 0)), (1, .int x1), (2, .int x2), (3, .ref (pl (4 + 5 * j3))), (4, .ref (pl (4 + 5 * j4)))]) (q := 104) 5 dX2_deepen_101 rfl rfl (by decide) rfl rfl ?_
          refine ef_goto (tgt := 48) dX2_deepen_104 (by decide) ?_
          refine ef_sub (lv' := [(0, .ref (pl 0)), (1, .int x1), (2, .int x2), (3, .ref (pl (4 + 5 * j3))), (4, .ref (pl (4 + 5 * j4))), (5, .int (x5 + (1 : Int32)))]) [1, 2, 3, 4, 5, 0] rfl ?_
          exact ih x1 x2 j3 hj3 j4 hj4 (x5 + (1 : Int32)) (mrgS (fun k => 4 + 5 * j3 + k) 5 s z3.2)
set_option maxRecDepth 100000 in
set_option maxHeartbeats 4000000 in
theorem okX2_deepen_0 {G : GG} {pl : Nat → Nat} {h0 : PH} {d dself : Nat} (hd1 : dself + 1 ≤ d) (hd2 : 3 ≤ d) (self : Int32 → Int32 → SS → Option (Unit × SS)) (hself : ∀ (x1 : Int32) (x2 : Int32), MtF dself mX2_deepen lyD rvU (fun _ pl => [.ref (pl 0), .int x1, .int x2]) (self x1 x2)) (x1 : Int32) (x2 : Int32) (s : SS) : EvF G d mX2_deepen lyD pl h0 rvU (fX2_deepen_0 self x1 x2 s) 0 [(0, .ref (pl 0)), (1, .int x1), (2, .int x2)] [] s := by
  unfold fX2_deepen_0
  refine ef_aload_n (q := 1) 0 dX2_deepen_0 rfl rfl rfl ?_
  refine ef_getR (t := 1) (q := 4) rfl fl2_11 rfl rfl dX2_deepen_1 rfl ?_
  refine ef_iload_n (q := 5) 1 dX2_deepen_4 rfl rfl rfl ?_
  refine ef_guard (fun g1 => ?_)
  refine ef_aaload (t0 := 4 + 5 * x1.toNatClampNeg) (q := 6) rfl (by decide) lyD_t1 g1 dX2_deepen_5 rfl rfl ?_
  refine ef_astore_n (lv' := [(3, .ref (pl (4 + 5 * x1.toNatClampNeg))), (0, .ref (pl 0)), (1, .int x1), (2, .int x2)]) (q := 7) dX2_deepen_6 rfl (by decide) rfl rfl ?_
  refine ef_aload_n (q := 8) 0 dX2_deepen_7 rfl rfl rfl ?_
  refine ef_getI (x := s.1 (4 + 5 * x1.toNatClampNeg) 8) (q := 11) (lyD_f1_0 _ (ixB_lt g1)) fl2_85 rfl rfl dX2_deepen_8 rfl ?_
  refine ef_aload_n (q := 12) 1 dX2_deepen_11 rfl rfl rfl ?_
  refine ef_getI (x := s.1 0 3) (q := 15) rfl fl2_24 rfl rfl dX2_deepen_12 rfl ?_
  refine ef_if (pt := 19) (pf := 18) (fun _ _ => ev_icmp_le (tgt := 19) dX2_deepen_15 (by decide)) (fun h2 => ?_) (fun h2 => ?_)
  · refine ef_iload_n (q := 20) 2 dX2_deepen_19 rfl rfl rfl ?_
    refine ef_iload_n (q := 21) 3 dX2_deepen_20 rfl rfl rfl ?_
    refine ef_if (pt := 29) (pf := 24) (fun _ _ => ev_icmp_ge (tgt := 29) dX2_deepen_21 (by decide)) (fun h3 => ?_) (fun h3 => ?_)
    · refine ef_sub (lv' := [(0, .ref (pl 0)), (3, .ref (pl (4 + 5 * x1.toNatClampNeg)))]) [1, 0] rfl ?_
      exact okX2_deepen_29 hd1 hd2 self hself x1.toNatClampNeg (ixB_lt g1) s
    · refine ef_iload_n (q := 25) 2 dX2_deepen_24 rfl rfl rfl ?_
      refine ef_iconst (v := (3 : Int32)) (q := 26) dX2_deepen_25 (by decide) rfl ?_
      refine ef_if (pt := 35) (pf := 29) (fun _ _ => ev_icmp_lt (tgt := 35) dX2_deepen_26 (by decide)) (fun h4 => ?_) (fun h4 => ?_)
      · refine ef_aload_n (q := 36) 1 dX2_deepen_35 rfl rfl rfl ?_
        refine ef_getR (t := 1) (q := 39) rfl fl2_11 rfl rfl dX2_deepen_36 rfl ?_
        refine ef_iload_n (q := 40) 2 dX2_deepen_39 rfl rfl rfl ?_
        refine ef_iconst (v := (1 : Int32)) (q := 41) dX2_deepen_40 (by decide) rfl ?_
        refine ef_iadd (q := 42) dX2_deepen_41 rfl ?_
        refine ef_guard (fun g5 => ?_)
        refine ef_aaload (t0 := 4 + 5 * ((x1 + (1 : Int32)).toNatClampNeg)) (q := 43) rfl (by decide) lyD_t1 g5 dX2_deepen_42 rfl rfl ?_
        refine ef_astore (lv' := [(4, .ref (pl (4 + 5 * ((x1 + (1 : Int32)).toNatClampNeg)))), (3, .ref (pl (4 + 5 * x1.toNatClampNeg))), (0, .ref (pl 0)), (1, .int x1), (2, .int x2)]) (q := 45) dX2_deepen_43 (by decide) rfl rfl ?_
        refine ef_iconst (v := (0 : Int32)) (q := 46) dX2_deepen_45 (by decide) rfl ?_
        refine ef_istore (lv' := [(5, .int (0 : Int32)), (4, .ref (pl (4 + 5 * ((x1 + (1 : Int32)).toNatClampNeg)))), (3, .ref (pl (4 + 5 * x1.toNatClampNeg))), (0, .ref (pl 0)), (1, .int x1), (2, .int x2)]) (q := 48) dX2_deepen_46 (by decide) rfl rfl ?_
        refine ef_sub (lv' := [(0, .ref (pl 0)), (1, .int x1), (2, .int x2), (3, .ref (pl (4 + 5 * x1.toNatClampNeg))), (4, .ref (pl (4 + 5 * ((x1 + (1 : Int32)).toNatClampNeg)))), (5, .int (0 : Int32))]) [3, 4, 5, 2, 1, 0] rfl ?_
        exact okX2_deepen_48 hd1 hd2 self hself FU x1 x2 x1.toNatClampNeg (ixB_lt g1) ((x1 + (1 : Int32)).toNatClampNeg) (ixB_lt g5) (0 : Int32) s
      · refine ef_sub (lv' := [(0, .ref (pl 0)), (3, .ref (pl (4 + 5 * x1.toNatClampNeg)))]) [1, 0] rfl ?_
        exact okX2_deepen_29 hd1 hd2 self hself x1.toNatClampNeg (ixB_lt g1) s
  · exact ef_vret rfl dX2_deepen_18
theorem okX2_deepen_b {d dself : Nat} (hd1 : dself + 1 ≤ d) (hd2 : 3 ≤ d) (self : Int32 → Int32 → SS → Option (Unit × SS)) (hself : ∀ (x1 : Int32) (x2 : Int32), MtF dself mX2_deepen lyD rvU (fun _ pl => [.ref (pl 0), .int x1, .int x2]) (self x1 x2)) (x1 : Int32) (x2 : Int32) : MtF d mX2_deepen lyD rvU (fun _ pl => [.ref (pl 0), .int x1, .int x2]) (fX2_deepen_b self x1 x2) := by
  refine MtF.of (by decide +kernel) rfl (fun _ pl => Nat.le_of_ble_eq_true rfl) (fun G pl h0 s => ?_)
  refine ef_sub (lv := [(0, .ref (pl 0)), (1, .int x1), (2, .int x2)]) (lv' := [(0, .ref (pl 0)), (1, .int x1), (2, .int x2)]) [0, 1, 2] rfl ?_
  exact okX2_deepen_0 hd1 hd2 self hself x1 x2 s
def fX2_deepen_r : Nat → Int32 → Int32 → SS → Option (Unit × SS)
  | 0 => fun _ _ _ => none
  | n + 1 => fX2_deepen_b (fX2_deepen_r n)
theorem okX2_deepen_r : ∀ (n : Nat) (x1 : Int32) (x2 : Int32), MtF (3 + n) mX2_deepen lyD rvU (fun _ pl => [.ref (pl 0), .int x1, .int x2]) (fX2_deepen_r n x1 x2)
  | 0, _, _ => fun _ _ _ _ _ _ hf => by cases hf
  | n + 1, x1, x2 => okX2_deepen_b (d := 3 + (n + 1)) (dself := 3 + n) (by omega) (by omega) (fX2_deepen_r n) (okX2_deepen_r n) x1 x2
def fX2_deepen (x1 : Int32) (x2 : Int32) : SS → Option (Unit × SS) := fX2_deepen_r 5 x1 x2
theorem okX2_deepen (x1 : Int32) (x2 : Int32) : MtF 8 mX2_deepen lyD rvU (fun _ pl => [.ref (pl 0), .int x1, .int x2]) (fX2_deepen x1 x2) := okX2_deepen_r 5 x1 x2
-- X2_findPlan
theorem dX2_findPlan_0 : decode cX2_findPlan 0 = .ok (.aload_n 0, 1) := by decide +kernel
theorem dX2_findPlan_1 : decode cX2_findPlan 1 = .ok (.getfield 11, 3) := by decide +kernel
theorem dX2_findPlan_4 : decode cX2_findPlan 4 = .ok (.iconst 0, 1) := by decide +kernel
theorem dX2_findPlan_5 : decode cX2_findPlan 5 = .ok (.aaload, 1) := by decide +kernel
theorem dX2_findPlan_6 : decode cX2_findPlan 6 = .ok (.aload_n 1, 1) := by decide +kernel
theorem dX2_findPlan_7 : decode cX2_findPlan 7 = .ok (.invokevirtual 76, 3) := by decide +kernel
theorem dX2_findPlan_10 : decode cX2_findPlan 10 = .ok (.aload_n 0, 1) := by decide +kernel
theorem dX2_findPlan_11 : decode cX2_findPlan 11 = .ok (.ldc 80, 2) := by decide +kernel
theorem dX2_findPlan_13 : decode cX2_findPlan 13 = .ok (.putfield 24, 3) := by decide +kernel
theorem dX2_findPlan_16 : decode cX2_findPlan 16 = .ok (.aload_n 0, 1) := by decide +kernel
theorem dX2_findPlan_17 : decode cX2_findPlan 17 = .ok (.iconst 0, 1) := by decide +kernel
theorem dX2_findPlan_18 : decode cX2_findPlan 18 = .ok (.putfield 28, 3) := by decide +kernel
theorem dX2_findPlan_21 : decode cX2_findPlan 21 = .ok (.aload_n 0, 1) := by decide +kernel
theorem dX2_findPlan_22 : decode cX2_findPlan 22 = .ok (.iconst 0, 1) := by decide +kernel
theorem dX2_findPlan_23 : decode cX2_findPlan 23 = .ok (.iload_n 2, 1) := by decide +kernel
theorem dX2_findPlan_24 : decode cX2_findPlan 24 = .ok (.invokestatic 81, 3) := by decide +kernel
theorem dX2_findPlan_27 : decode cX2_findPlan 27 = .ok (.return_, 1) := by decide +kernel
def fX2_findPlan_0 (x2 : Int32) (s : SS) : Option (Unit × SS) := if ixB (0 : Int32) 4 then (((fX0_takeFrom (selS (fun k => if k < 5 then 4 + 5 * ((0 : Int32).toNatClampNeg) + k else 24 + (k - 5)) s)).bind fun z2 => ((fX2_deepen (0 : Int32) x2 (selS (fun k => 0 + k) (wrI (wrI (mrgS (fun k => if k < 5 then 4 + 5 * ((0 : Int32).toNatClampNeg) + k else 24 + (k - 5)) 10 s z2.2) 0 3 (2147483647 : Int32)) 0 4 (0 : Int32)))).bind fun z3 => some ((), mrgS (fun k => 0 + k) 24 (wrI (wrI (mrgS (fun k => if k < 5 then 4 + 5 * ((0 : Int32).toNatClampNeg) + k else 24 + (k - 5)) 10 s z2.2) 0 3 (2147483647 : Int32)) 0 4 (0 : Int32)) z3.2)))) else none
def fX2_findPlan (x2 : Int32) (s : SS) : Option (Unit × SS) := fX2_findPlan_0 x2 s
set_option maxRecDepth 100000 in
set_option maxHeartbeats 4000000 in
theorem okX2_findPlan_0 {G : GG} {pl : Nat → Nat} {h0 : PH} (x2 : Int32) (s : SS) : EvF G 9 mX2_findPlan lyDC pl h0 rvU (fX2_findPlan_0 x2 s) 0 [(0, .ref (pl 0)), (1, .ref (pl 24)), (2, .int x2)] [] s := by
  unfold fX2_findPlan_0
  refine ef_aload_n (q := 1) 0 dX2_findPlan_0 rfl rfl rfl ?_
  refine ef_getR (t := 1) (q := 4) rfl fl2_11 rfl rfl dX2_findPlan_1 rfl ?_
  refine ef_iconst (v := (0 : Int32)) (q := 5) dX2_findPlan_4 (by decide) rfl ?_
  refine ef_guard (fun g1 => ?_)
  refine ef_aaload (t0 := 4 + 5 * ((0 : Int32).toNatClampNeg)) (q := 6) rfl (by decide) lyDC_t1 g1 dX2_findPlan_5 rfl rfl ?_
  refine ef_aload_n (q := 7) 1 dX2_findPlan_6 rfl rfl rfl ?_
  refine ef_invVU (k := (4 + 5 * ((0 : Int32).toNatClampNeg))) (nn := 10) (π := (fun k => if k < 5 then 4 + 5 * ((0 : Int32).toNatClampNeg) + k else 24 + (k - 5))) (As := [.ref (pl 24)]) (rest := []) (q := 10) (okX0_takeFrom) (lm_DC_CC_s1_0_24 _ (ixB_lt g1)) rfl calX0_takeFrom ml2_76 (by decide) (lyDC_f1_0 _ (ixB_lt g1)) rfl rfl (Nat.le_of_ble_eq_true rfl) dX2_findPlan_7 rfl rfl (fun z2 => ?_)
  refine ef_aload_n (q := 11) 0 dX2_findPlan_10 rfl rfl rfl ?_
  refine ef_ldc (v := (2147483647 : Int32)) (q := 13) k2_80 dX2_findPlan_11 rfl ?_
  refine ef_putI (q := 16) rfl fl2_24 rfl rfl dX2_findPlan_13 rfl ?_
  refine ef_aload_n (q := 17) 0 dX2_findPlan_16 rfl rfl rfl ?_
  refine ef_iconst (v := (0 : Int32)) (q := 18) dX2_findPlan_17 (by decide) rfl ?_
  refine ef_putI (q := 21) rfl fl2_28 rfl rfl dX2_findPlan_18 rfl ?_
  refine ef_aload_n (q := 22) 0 dX2_findPlan_21 rfl rfl rfl ?_
  refine ef_iconst (v := (0 : Int32)) (q := 23) dX2_findPlan_22 (by decide) rfl ?_
  refine ef_iload_n (q := 24) 2 dX2_findPlan_23 rfl rfl rfl ?_
  refine ef_invSU (nn := 24) (π := (fun k => 0 + k)) (As := [.ref (pl 0), .int (0 : Int32), .int x2]) (rest := []) (q := 27) (okX2_deepen (0 : Int32) x2) (by decide +kernel) rfl calX2_deepen ml2_81 (by decide) rfl rfl (Nat.le_of_ble_eq_true rfl) dX2_findPlan_24 rfl rfl (fun z3 => ?_)
  exact ef_vret rfl dX2_findPlan_27
theorem okX2_findPlan (x2 : Int32) : MtF 9 mX2_findPlan lyDC rvU (fun _ pl => [.ref (pl 0), .ref (pl 24), .int x2]) (fX2_findPlan x2) := by
  refine MtF.of (by decide +kernel) rfl (fun _ pl => Nat.le_of_ble_eq_true rfl) (fun G pl h0 s => ?_)
  refine ef_sub (lv := [(0, .ref (pl 0)), (1, .ref (pl 24)), (2, .int x2)]) (lv' := [(0, .ref (pl 0)), (1, .ref (pl 24)), (2, .int x2)]) [0, 1, 2] rfl ?_
  exact okX2_findPlan_0  x2 s
-- X2_choose
theorem dX2_choose_0 : decode cX2_choose 0 = .ok (.aload_n 1, 1) := by decide +kernel
theorem dX2_choose_1 : decode cX2_choose 1 = .ok (.getfield 32, 3) := by decide +kernel
theorem dX2_choose_4 : decode cX2_choose 4 = .ok (.ifCond .ne 5, 3) := by decide +kernel
theorem dX2_choose_7 : decode cX2_choose 7 = .ok (.iconst 0, 1) := by decide +kernel
theorem dX2_choose_8 : decode cX2_choose 8 = .ok (.ireturn, 1) := by decide +kernel
theorem dX2_choose_9 : decode cX2_choose 9 = .ok (.iload_n 2, 1) := by decide +kernel
theorem dX2_choose_10 : decode cX2_choose 10 = .ok (.tableswitch 130 1 5 #[34, 39, 66, 93, 113], 34) := by decide +kernel
theorem dX2_choose_44 : decode cX2_choose 44 = .ok (.aload_n 1, 1) := by decide +kernel
theorem dX2_choose_45 : decode cX2_choose 45 = .ok (.invokestatic 35, 3) := by decide +kernel
theorem dX2_choose_48 : decode cX2_choose 48 = .ok (.ireturn, 1) := by decide +kernel
theorem dX2_choose_49 : decode cX2_choose 49 = .ok (.aload_n 1, 1) := by decide +kernel
theorem dX2_choose_50 : decode cX2_choose 50 = .ok (.invokevirtual 39, 3) := by decide +kernel
theorem dX2_choose_53 : decode cX2_choose 53 = .ok (.aload_n 1, 1) := by decide +kernel
theorem dX2_choose_54 : decode cX2_choose 54 = .ok (.getfield 43, 3) := by decide +kernel
theorem dX2_choose_57 : decode cX2_choose 57 = .ok (.if_icmp .ne 10, 3) := by decide +kernel
theorem dX2_choose_60 : decode cX2_choose 60 = .ok (.aload_n 1, 1) := by decide +kernel
theorem dX2_choose_61 : decode cX2_choose 61 = .ok (.invokestatic 46, 3) := by decide +kernel
theorem dX2_choose_64 : decode cX2_choose 64 = .ok (.goto 11, 3) := by decide +kernel
theorem dX2_choose_67 : decode cX2_choose 67 = .ok (.aload_n 1, 1) := by decide +kernel
theorem dX2_choose_68 : decode cX2_choose 68 = .ok (.aload_n 1, 1) := by decide +kernel
theorem dX2_choose_69 : decode cX2_choose 69 = .ok (.invokevirtual 39, 3) := by decide +kernel
theorem dX2_choose_72 : decode cX2_choose 72 = .ok (.invokestatic 49, 3) := by decide +kernel
theorem dX2_choose_75 : decode cX2_choose 75 = .ok (.ireturn, 1) := by decide +kernel
theorem dX2_choose_76 : decode cX2_choose 76 = .ok (.aload_n 1, 1) := by decide +kernel
theorem dX2_choose_77 : decode cX2_choose 77 = .ok (.invokevirtual 53, 3) := by decide +kernel
theorem dX2_choose_80 : decode cX2_choose 80 = .ok (.aload_n 1, 1) := by decide +kernel
theorem dX2_choose_81 : decode cX2_choose 81 = .ok (.getfield 43, 3) := by decide +kernel
theorem dX2_choose_84 : decode cX2_choose 84 = .ok (.if_icmp .ne 10, 3) := by decide +kernel
theorem dX2_choose_87 : decode cX2_choose 87 = .ok (.aload_n 1, 1) := by decide +kernel
theorem dX2_choose_88 : decode cX2_choose 88 = .ok (.invokestatic 56, 3) := by decide +kernel
theorem dX2_choose_91 : decode cX2_choose 91 = .ok (.goto 11, 3) := by decide +kernel
theorem dX2_choose_94 : decode cX2_choose 94 = .ok (.aload_n 1, 1) := by decide +kernel
theorem dX2_choose_95 : decode cX2_choose 95 = .ok (.aload_n 1, 1) := by decide +kernel
theorem dX2_choose_96 : decode cX2_choose 96 = .ok (.invokevirtual 53, 3) := by decide +kernel
theorem dX2_choose_99 : decode cX2_choose 99 = .ok (.invokestatic 49, 3) := by decide +kernel
theorem dX2_choose_102 : decode cX2_choose 102 = .ok (.ireturn, 1) := by decide +kernel
theorem dX2_choose_103 : decode cX2_choose 103 = .ok (.aload_n 1, 1) := by decide +kernel
theorem dX2_choose_104 : decode cX2_choose 104 = .ok (.getfield 59, 3) := by decide +kernel
theorem dX2_choose_107 : decode cX2_choose 107 = .ok (.iload_n 3, 1) := by decide +kernel
theorem dX2_choose_108 : decode cX2_choose 108 = .ok (.iconst 2, 1) := by decide +kernel
theorem dX2_choose_109 : decode cX2_choose 109 = .ok (.iadd, 1) := by decide +kernel
theorem dX2_choose_110 : decode cX2_choose 110 = .ok (.irem, 1) := by decide +kernel
theorem dX2_choose_111 : decode cX2_choose 111 = .ok (.ifCond .eq 7, 3) := by decide +kernel
theorem dX2_choose_114 : decode cX2_choose 114 = .ok (.iconst 0, 1) := by decide +kernel
theorem dX2_choose_115 : decode cX2_choose 115 = .ok (.goto 7, 3) := by decide +kernel
theorem dX2_choose_118 : decode cX2_choose 118 = .ok (.aload_n 1, 1) := by decide +kernel
theorem dX2_choose_119 : decode cX2_choose 119 = .ok (.invokestatic 35, 3) := by decide +kernel
theorem dX2_choose_122 : decode cX2_choose 122 = .ok (.ireturn, 1) := by decide +kernel
theorem dX2_choose_123 : decode cX2_choose 123 = .ok (.aload_n 0, 1) := by decide +kernel
theorem dX2_choose_124 : decode cX2_choose 124 = .ok (.aload_n 1, 1) := by decide +kernel
theorem dX2_choose_125 : decode cX2_choose 125 = .ok (.iload_n 3, 1) := by decide +kernel
theorem dX2_choose_126 : decode cX2_choose 126 = .ok (.iconst 3, 1) := by decide +kernel
theorem dX2_choose_127 : decode cX2_choose 127 = .ok (.irem, 1) := by decide +kernel
theorem dX2_choose_128 : decode cX2_choose 128 = .ok (.iconst 1, 1) := by decide +kernel
theorem dX2_choose_129 : decode cX2_choose 129 = .ok (.iadd, 1) := by decide +kernel
theorem dX2_choose_130 : decode cX2_choose 130 = .ok (.invokevirtual 62, 3) := by decide +kernel
theorem dX2_choose_133 : decode cX2_choose 133 = .ok (.aload_n 0, 1) := by decide +kernel
theorem dX2_choose_134 : decode cX2_choose 134 = .ok (.getfield 21, 3) := by decide +kernel
theorem dX2_choose_137 : decode cX2_choose 137 = .ok (.iconst 0, 1) := by decide +kernel
theorem dX2_choose_138 : decode cX2_choose 138 = .ok (.iaload, 1) := by decide +kernel
theorem dX2_choose_139 : decode cX2_choose 139 = .ok (.ireturn, 1) := by decide +kernel
theorem dX2_choose_140 : decode cX2_choose 140 = .ok (.iconst 1, 1) := by decide +kernel
theorem dX2_choose_141 : decode cX2_choose 141 = .ok (.ireturn, 1) := by decide +kernel
def fX2_choose_0 (x2 : Int32) (x3 : Int32) (s : SS) : Option (Int32 × SS) := if (s.1 24 11) = 0 then (some ((0 : Int32), s)) else (if x2 = (1 : Int32) then (((fX2_goRound (selS (fun k => 24 + k) s)).bind fun z3 => some (z3.1, mrgS (fun k => 24 + k) 5 s z3.2))) else (if x2 = (2 : Int32) then (((fX0_wettestSide (selS (fun k => 24 + k) s)).bind fun z5 => if z5.1 = ((mrgS (fun k => 24 + k) 5 s z5.2).1 24 1) then (((fX2_lickWettest (selS (fun k => 24 + k) (mrgS (fun k => 24 + k) 5 s z5.2))).bind fun z7 => some (z7.1, mrgS (fun k => 24 + k) 5 (mrgS (fun k => 24 + k) 5 s z5.2) z7.2))) else (((fX0_wettestSide (selS (fun k => 24 + k) (mrgS (fun k => 24 + k) 5 s z5.2))).bind fun z8 => ((fX2_turnTo z8.1 (selS (fun k => 24 + k) (mrgS (fun k => 24 + k) 5 (mrgS (fun k => 24 + k) 5 s z5.2) z8.2))).bind fun z9 => some (z9.1, mrgS (fun k => 24 + k) 5 (mrgS (fun k => 24 + k) 5 (mrgS (fun k => 24 + k) 5 s z5.2) z8.2) z9.2)))))) else (if x2 = (3 : Int32) then (((fX0_lowestWetSide (selS (fun k => 24 + k) s)).bind fun z11 => if z11.1 = ((mrgS (fun k => 24 + k) 5 s z11.2).1 24 1) then (((fX2_lickLowest (selS (fun k => 24 + k) (mrgS (fun k => 24 + k) 5 s z11.2))).bind fun z13 => some (z13.1, mrgS (fun k => 24 + k) 5 (mrgS (fun k => 24 + k) 5 s z11.2) z13.2))) else (((fX0_lowestWetSide (selS (fun k => 24 + k) (mrgS (fun k => 24 + k) 5 s z11.2))).bind fun z14 => ((fX2_turnTo z14.1 (selS (fun k => 24 + k) (mrgS (fun k => 24 + k) 5 (mrgS (fun k => 24 + k) 5 s z11.2) z14.2))).bind fun z15 => some (z15.1, mrgS (fun k => 24 + k) 5 (mrgS (fun k => 24 + k) 5 (mrgS (fun k => 24 + k) 5 s z11.2) z14.2) z15.2)))))) else (if x2 = (4 : Int32) then (if ¬ (x3 + (2 : Int32)) = 0 then (if ((s.1 24 7) - (s.1 24 7) / (x3 + (2 : Int32)) * (x3 + (2 : Int32))) = 0 then (((fX2_goRound (selS (fun k => 24 + k) s)).bind fun z19 => some (z19.1, mrgS (fun k => 24 + k) 5 s z19.2))) else (some ((0 : Int32), s))) else none) else (if x2 = (5 : Int32) then (((fX2_findPlan ((x3 - x3 / (3 : Int32) * (3 : Int32)) + (1 : Int32)) s).bind fun z21 => some (z21.2.1 3 0, z21.2))) else (some ((1 : Int32), s)))))))
def fX2_choose (x2 : Int32) (x3 : Int32) (s : SS) : Option (Int32 × SS) := fX2_choose_0 x2 x3 s
set_option maxRecDepth 100000 in
set_option maxHeartbeats 4000000 in
theorem okX2_choose_0 {G : GG} {pl : Nat → Nat} {h0 : PH} (x2 : Int32) (x3 : Int32) (s : SS) : EvF G 10 mX2_choose lyDC pl h0 rvI (fX2_choose_0 x2 x3 s) 0 [(0, .ref (pl 0)), (1, .ref (pl 24)), (2, .int x2), (3, .int x3)] [] s := by
  unfold fX2_choose_0
  refine ef_aload_n (q := 1) 1 dX2_choose_0 rfl rfl rfl ?_
  refine ef_getI (x := s.1 24 11) (q := 4) rfl fl2_32 rfl rfl dX2_choose_1 rfl ?_
  refine ef_if (pt := 7) (pf := 9) (fun _ _ kt kf => ev_if_ne (tgt := 9) dX2_choose_4 (by decide) kf kt) (fun h1 => ?_) (fun h1 => ?_)
  · refine ef_iconst (v := (0 : Int32)) (q := 8) dX2_choose_7 (by decide) rfl ?_
    exact ef_iret rfl dX2_choose_8
  · refine ef_iload_n (q := 10) 2 dX2_choose_9 rfl rfl rfl ?_
    refine ef_dec (fun h2 => ?_) (fun h2 => ?_)
    · refine ef_of (fun _ _ => ev_tableIn (tgt := 44) dX2_choose_10 (by rw [h2]; decide) (by rw [h2]; decide) (off := 34) (by rw [h2]; rfl) (by decide)) ?_
      refine ef_aload_n (q := 45) 1 dX2_choose_44 rfl rfl rfl ?_
      refine ef_invSI (nn := 5) (π := (fun k => 24 + k)) (As := [.ref (pl 24)]) (rest := []) (q := 48) (okX2_goRound) (by decide +kernel) rfl calX2_goRound ml2_35 (by decide) rfl rfl (Nat.le_of_ble_eq_true rfl) dX2_choose_45 rfl rfl (fun z3 => ?_)
      exact ef_iret rfl dX2_choose_48
    refine ef_dec (fun h4 => ?_) (fun h4 => ?_)
    · refine ef_of (fun _ _ => ev_tableIn (tgt := 49) dX2_choose_10 (by rw [h4]; decide) (by rw [h4]; decide) (off := 39) (by rw [h4]; rfl) (by decide)) ?_
      refine ef_aload_n (q := 50) 1 dX2_choose_49 rfl rfl rfl ?_
      refine ef_invVI (k := 24) (nn := 5) (π := (fun k => 24 + k)) (As := []) (rest := []) (q := 53) (okX0_wettestSide) (by decide +kernel) rfl calX0_wettestSide ml2_39 (by decide) rfl rfl rfl (Nat.le_of_ble_eq_true rfl) dX2_choose_50 rfl rfl (fun z5 => ?_)
      refine ef_aload_n (q := 54) 1 dX2_choose_53 rfl rfl rfl ?_
      refine ef_getI (x := (mrgS (fun k => 24 + k) 5 s z5.2).1 24 1) (q := 57) rfl fl2_43 rfl rfl dX2_choose_54 rfl ?_
      refine ef_if (pt := 60) (pf := 67) (fun _ _ kt kf => ev_icmp_ne (tgt := 67) dX2_choose_57 (by decide) kf kt) (fun h6 => ?_) (fun h6 => ?_)
      · refine ef_aload_n (q := 61) 1 dX2_choose_60 rfl rfl rfl ?_
        refine ef_invSI (nn := 5) (π := (fun k => 24 + k)) (As := [.ref (pl 24)]) (rest := []) (q := 64) (okX2_lickWettest) (by decide +kernel) rfl calX2_lickWettest ml2_46 (by decide) rfl rfl (Nat.le_of_ble_eq_true rfl) dX2_choose_61 rfl rfl (fun z7 => ?_)
        refine ef_goto (tgt := 75) dX2_choose_64 (by decide) ?_
        exact ef_iret rfl dX2_choose_75
      · refine ef_aload_n (q := 68) 1 dX2_choose_67 rfl rfl rfl ?_
        refine ef_aload_n (q := 69) 1 dX2_choose_68 rfl rfl rfl ?_
        refine ef_invVI (k := 24) (nn := 5) (π := (fun k => 24 + k)) (As := []) (rest := [.ref (pl 24)]) (q := 72) (okX0_wettestSide) (by decide +kernel) rfl calX0_wettestSide ml2_39 (by decide) rfl rfl rfl (Nat.le_of_ble_eq_true rfl) dX2_choose_69 rfl rfl (fun z8 => ?_)
        refine ef_invSI (nn := 5) (π := (fun k => 24 + k)) (As := [.ref (pl 24), .int z8.1]) (rest := []) (q := 75) (okX2_turnTo z8.1) (by decide +kernel) rfl calX2_turnTo ml2_49 (by decide) rfl rfl (Nat.le_of_ble_eq_true rfl) dX2_choose_72 rfl rfl (fun z9 => ?_)
        exact ef_iret rfl dX2_choose_75
    refine ef_dec (fun h10 => ?_) (fun h10 => ?_)
    · refine ef_of (fun _ _ => ev_tableIn (tgt := 76) dX2_choose_10 (by rw [h10]; decide) (by rw [h10]; decide) (off := 66) (by rw [h10]; rfl) (by decide)) ?_
      refine ef_aload_n (q := 77) 1 dX2_choose_76 rfl rfl rfl ?_
      refine ef_invVI (k := 24) (nn := 5) (π := (fun k => 24 + k)) (As := []) (rest := []) (q := 80) (okX0_lowestWetSide) (by decide +kernel) rfl calX0_lowestWetSide ml2_53 (by decide) rfl rfl rfl (Nat.le_of_ble_eq_true rfl) dX2_choose_77 rfl rfl (fun z11 => ?_)
      refine ef_aload_n (q := 81) 1 dX2_choose_80 rfl rfl rfl ?_
      refine ef_getI (x := (mrgS (fun k => 24 + k) 5 s z11.2).1 24 1) (q := 84) rfl fl2_43 rfl rfl dX2_choose_81 rfl ?_
      refine ef_if (pt := 87) (pf := 94) (fun _ _ kt kf => ev_icmp_ne (tgt := 94) dX2_choose_84 (by decide) kf kt) (fun h12 => ?_) (fun h12 => ?_)
      · refine ef_aload_n (q := 88) 1 dX2_choose_87 rfl rfl rfl ?_
        refine ef_invSI (nn := 5) (π := (fun k => 24 + k)) (As := [.ref (pl 24)]) (rest := []) (q := 91) (okX2_lickLowest) (by decide +kernel) rfl calX2_lickLowest ml2_56 (by decide) rfl rfl (Nat.le_of_ble_eq_true rfl) dX2_choose_88 rfl rfl (fun z13 => ?_)
        refine ef_goto (tgt := 102) dX2_choose_91 (by decide) ?_
        exact ef_iret rfl dX2_choose_102
      · refine ef_aload_n (q := 95) 1 dX2_choose_94 rfl rfl rfl ?_
        refine ef_aload_n (q := 96) 1 dX2_choose_95 rfl rfl rfl ?_
        refine ef_invVI (k := 24) (nn := 5) (π := (fun k => 24 + k)) (As := []) (rest := [.ref (pl 24)]) (q := 99) (okX0_lowestWetSide) (by decide +kernel) rfl calX0_lowestWetSide ml2_53 (by decide) rfl rfl rfl (Nat.le_of_ble_eq_true rfl) dX2_choose_96 rfl rfl (fun z14 => ?_)
        refine ef_invSI (nn := 5) (π := (fun k => 24 + k)) (As := [.ref (pl 24), .int z14.1]) (rest := []) (q := 102) (okX2_turnTo z14.1) (by decide +kernel) rfl calX2_turnTo ml2_49 (by decide) rfl rfl (Nat.le_of_ble_eq_true rfl) dX2_choose_99 rfl rfl (fun z15 => ?_)
        exact ef_iret rfl dX2_choose_102
    refine ef_dec (fun h16 => ?_) (fun h16 => ?_)
    · refine ef_of (fun _ _ => ev_tableIn (tgt := 103) dX2_choose_10 (by rw [h16]; decide) (by rw [h16]; decide) (off := 93) (by rw [h16]; rfl) (by decide)) ?_
      refine ef_aload_n (q := 104) 1 dX2_choose_103 rfl rfl rfl ?_
      refine ef_getI (x := s.1 24 7) (q := 107) rfl fl2_59 rfl rfl dX2_choose_104 rfl ?_
      refine ef_iload_n (q := 108) 3 dX2_choose_107 rfl rfl rfl ?_
      refine ef_iconst (v := (2 : Int32)) (q := 109) dX2_choose_108 (by decide) rfl ?_
      refine ef_iadd (q := 110) dX2_choose_109 rfl ?_
      refine ef_guard (fun g17 => ?_)
      refine ef_irem (q := 111) dX2_choose_110 g17 rfl ?_
      refine ef_if (pt := 118) (pf := 114) (fun _ _ => ev_if_eq (tgt := 118) dX2_choose_111 (by decide)) (fun h18 => ?_) (fun h18 => ?_)
      · refine ef_aload_n (q := 119) 1 dX2_choose_118 rfl rfl rfl ?_
        refine ef_invSI (nn := 5) (π := (fun k => 24 + k)) (As := [.ref (pl 24)]) (rest := []) (q := 122) (okX2_goRound) (by decide +kernel) rfl calX2_goRound ml2_35 (by decide) rfl rfl (Nat.le_of_ble_eq_true rfl) dX2_choose_119 rfl rfl (fun z19 => ?_)
        exact ef_iret rfl dX2_choose_122
      · refine ef_iconst (v := (0 : Int32)) (q := 115) dX2_choose_114 (by decide) rfl ?_
        refine ef_goto (tgt := 122) dX2_choose_115 (by decide) ?_
        exact ef_iret rfl dX2_choose_122
    refine ef_dec (fun h20 => ?_) (fun h20 => ?_)
    · refine ef_of (fun _ _ => ev_tableIn (tgt := 123) dX2_choose_10 (by rw [h20]; decide) (by rw [h20]; decide) (off := 113) (by rw [h20]; rfl) (by decide)) ?_
      refine ef_aload_n (q := 124) 0 dX2_choose_123 rfl rfl rfl ?_
      refine ef_aload_n (q := 125) 1 dX2_choose_124 rfl rfl rfl ?_
      refine ef_iload_n (q := 126) 3 dX2_choose_125 rfl rfl rfl ?_
      refine ef_iconst (v := (3 : Int32)) (q := 127) dX2_choose_126 (by decide) rfl ?_
      refine ef_irem (q := 128) dX2_choose_127 (by decide) rfl ?_
      refine ef_iconst (v := (1 : Int32)) (q := 129) dX2_choose_128 (by decide) rfl ?_
      refine ef_iadd (q := 130) dX2_choose_129 rfl ?_
      refine ef_invVU0 (k := 0) (As := [.ref (pl 24), .int ((x3 - x3 / (3 : Int32) * (3 : Int32)) + (1 : Int32))]) (rest := []) (q := 133) (okX2_findPlan ((x3 - x3 / (3 : Int32) * (3 : Int32)) + (1 : Int32))) rfl calX2_findPlan ml2_62 (by decide) rfl rfl rfl (Nat.le_of_ble_eq_true rfl) dX2_choose_130 rfl (fun z21 => ?_)
      refine ef_aload_n (q := 134) 0 dX2_choose_133 rfl rfl rfl ?_
      refine ef_getR (t := 3) (q := 137) rfl fl2_21 rfl rfl dX2_choose_134 rfl ?_
      refine ef_iconst (v := (0 : Int32)) (q := 138) dX2_choose_137 (by decide) rfl ?_
      refine ef_iaload (x := z21.2.1 3 0) (q := 139) rfl (by decide) dX2_choose_138 rfl rfl ?_
      exact ef_iret rfl dX2_choose_139
    have hsw : (x2 : Int32).toInt < 1 ∨ 5 < (x2 : Int32).toInt := by
      have th2 := ne_toI (k := 1) h2 (by decide)
      have th4 := ne_toI (k := 2) h4 (by decide)
      have th10 := ne_toI (k := 3) h10 (by decide)
      have th16 := ne_toI (k := 4) h16 (by decide)
      have th20 := ne_toI (k := 5) h20 (by decide)
      omega
    refine ef_of (fun _ _ => ev_tableOut (tgt := 140) dX2_choose_10 hsw (by decide)) ?_
    refine ef_iconst (v := (1 : Int32)) (q := 141) dX2_choose_140 (by decide) rfl ?_
    exact ef_iret rfl dX2_choose_141
theorem okX2_choose (x2 : Int32) (x3 : Int32) : MtF 10 mX2_choose lyDC rvI (fun _ pl => [.ref (pl 0), .ref (pl 24), .int x2, .int x3]) (fX2_choose x2 x3) := by
  refine MtF.of (by decide +kernel) rfl (fun _ pl => Nat.le_of_ble_eq_true rfl) (fun G pl h0 s => ?_)
  refine ef_sub (lv := [(0, .ref (pl 0)), (1, .ref (pl 24)), (2, .int x2), (3, .int x3)]) (lv' := [(0, .ref (pl 0)), (1, .ref (pl 24)), (2, .int x2), (3, .int x3)]) [0, 1, 2, 3] rfl ?_
  exact okX2_choose_0  x2 x3 s
