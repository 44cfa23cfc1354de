-- X4_addLicker
theorem dX4_addLicker_0 : decode cX4_addLicker 0 = .ok (.aload_n 0, 1) := by decide +kernel
theorem dX4_addLicker_1 : decode cX4_addLicker 1 = .ok (.getfield 25, 3) := by decide +kernel
theorem dX4_addLicker_4 : decode cX4_addLicker 4 = .ok (.iconst 4, 1) := by decide +kernel
theorem dX4_addLicker_5 : decode cX4_addLicker 5 = .ok (.if_icmp .ge 33, 3) := by decide +kernel
theorem dX4_addLicker_8 : decode cX4_addLicker 8 = .ok (.aload_n 0, 1) := by decide +kernel
theorem dX4_addLicker_9 : decode cX4_addLicker 9 = .ok (.getfield 18, 3) := by decide +kernel
theorem dX4_addLicker_12 : decode cX4_addLicker 12 = .ok (.aload_n 0, 1) := by decide +kernel
theorem dX4_addLicker_13 : decode cX4_addLicker 13 = .ok (.getfield 25, 3) := by decide +kernel
theorem dX4_addLicker_16 : decode cX4_addLicker 16 = .ok (.iload_n 1, 1) := by decide +kernel
theorem dX4_addLicker_17 : decode cX4_addLicker 17 = .ok (.iastore, 1) := by decide +kernel
theorem dX4_addLicker_18 : decode cX4_addLicker 18 = .ok (.aload_n 0, 1) := by decide +kernel
theorem dX4_addLicker_19 : decode cX4_addLicker 19 = .ok (.getfield 22, 3) := by decide +kernel
theorem dX4_addLicker_22 : decode cX4_addLicker 22 = .ok (.aload_n 0, 1) := by decide +kernel
theorem dX4_addLicker_23 : decode cX4_addLicker 23 = .ok (.getfield 25, 3) := by decide +kernel
theorem dX4_addLicker_26 : decode cX4_addLicker 26 = .ok (.iload_n 2, 1) := by decide +kernel
theorem dX4_addLicker_27 : decode cX4_addLicker 27 = .ok (.iastore, 1) := by decide +kernel
theorem dX4_addLicker_28 : decode cX4_addLicker 28 = .ok (.aload_n 0, 1) := by decide +kernel
theorem dX4_addLicker_29 : decode cX4_addLicker 29 = .ok (.dup, 1) := by decide +kernel
theorem dX4_addLicker_30 : decode cX4_addLicker 30 = .ok (.getfield 25, 3) := by decide +kernel
theorem dX4_addLicker_33 : decode cX4_addLicker 33 = .ok (.iconst 1, 1) := by decide +kernel
theorem dX4_addLicker_34 : decode cX4_addLicker 34 = .ok (.iadd, 1) := by decide +kernel
theorem dX4_addLicker_35 : decode cX4_addLicker 35 = .ok (.putfield 25, 3) := by decide +kernel
theorem dX4_addLicker_38 : decode cX4_addLicker 38 = .ok (.return_, 1) := by decide +kernel
def fX4_addLicker_0 (x1 : Int32) (x2 : Int32) (s : SS) : Option (Unit × SS) := if (4 : Int32) ≤ (s.1 0 3) then (some ((), s)) else (if ixB (s.1 0 3) 4 then (if ixB (s.1 0 3) 4 then (some ((), wrI (wrI (wrI s 6 ((s.1 0 3).toNatClampNeg) x1) 7 ((s.1 0 3).toNatClampNeg) x2) 0 3 ((s.1 0 3) + (1 : Int32)))) else none) else none)
def fX4_addLicker (x1 : Int32) (x2 : Int32) (s : SS) : Option (Unit × SS) := fX4_addLicker_0 x1 x2 s
set_option maxRecDepth 100000 in
set_option maxHeartbeats 4000000 in
theorem okX4_addLicker_0 {G : GG} {pl : Nat → Nat} {h0 : PH} (x1 : Int32) (x2 : Int32) (s : SS) : EvF G 0 mX4_addLicker lyW pl h0 rvU (fX4_addLicker_0 x1 x2 s) 0 [(0, .ref (pl 0)), (1, .int x1), (2, .int x2)] [] s := by
  unfold fX4_addLicker_0
  refine ef_aload_n (q := 1) 0 dX4_addLicker_0 rfl rfl rfl ?_
  refine ef_getI (x := s.1 0 3) (q := 4) rfl fl4_25 rfl rfl dX4_addLicker_1 rfl ?_
  refine ef_iconst (v := (4 : Int32)) (q := 5) dX4_addLicker_4 (by decide) rfl ?_
  refine ef_if (pt := 38) (pf := 8) (fun _ _ => ev_icmp_ge (tgt := 38) dX4_addLicker_5 (by decide)) (fun h1 => ?_) (fun h1 => ?_)
  · exact ef_vret rfl dX4_addLicker_38
  · refine ef_aload_n (q := 9) 0 dX4_addLicker_8 rfl rfl rfl ?_
    refine ef_getR (t := 6) (q := 12) rfl fl4_18 rfl rfl dX4_addLicker_9 rfl ?_
    refine ef_aload_n (q := 13) 0 dX4_addLicker_12 rfl rfl rfl ?_
    refine ef_getI (x := s.1 0 3) (q := 16) rfl fl4_25 rfl rfl dX4_addLicker_13 rfl ?_
    refine ef_iload_n (q := 17) 1 dX4_addLicker_16 rfl rfl rfl ?_
    refine ef_guard (fun g2 => ?_)
    refine ef_iastore (j := (s.1 0 3).toNatClampNeg) (q := 18) rfl g2 dX4_addLicker_17 rfl rfl ?_
    refine ef_aload_n (q := 19) 0 dX4_addLicker_18 rfl rfl rfl ?_
    refine ef_getR (t := 7) (q := 22) rfl fl4_22 rfl rfl dX4_addLicker_19 rfl ?_
    refine ef_aload_n (q := 23) 0 dX4_addLicker_22 rfl rfl rfl ?_
    refine ef_getI (x := s.1 0 3) (q := 26) rfl fl4_25 rfl rfl dX4_addLicker_23 rfl ?_
    refine ef_iload_n (q := 27) 2 dX4_addLicker_26 rfl rfl rfl ?_
    refine ef_guard (fun g3 => ?_)
    refine ef_iastore (j := (s.1 0 3).toNatClampNeg) (q := 28) rfl g3 dX4_addLicker_27 rfl rfl ?_
    refine ef_aload_n (q := 29) 0 dX4_addLicker_28 rfl rfl rfl ?_
    refine ef_dup (q := 30) dX4_addLicker_29 rfl rfl ?_
    refine ef_getI (x := s.1 0 3) (q := 33) rfl fl4_25 rfl rfl dX4_addLicker_30 rfl ?_
    refine ef_iconst (v := (1 : Int32)) (q := 34) dX4_addLicker_33 (by decide) rfl ?_
    refine ef_iadd (q := 35) dX4_addLicker_34 rfl ?_
    refine ef_putI (q := 38) rfl fl4_25 rfl rfl dX4_addLicker_35 rfl ?_
    exact ef_vret rfl dX4_addLicker_38
theorem okX4_addLicker (x1 : Int32) (x2 : Int32) : MtF 0 mX4_addLicker lyW rvU (fun _ pl => [.ref (pl 0), .int x1, .int x2]) (fX4_addLicker x1 x2) := by
  refine MtF.of (by decide +kernel) rfl (fun _ pl => Nat.le_of_ble_eq_true rfl) (fun G pl h0 s => ?_)
  refine ef_sub (lv := [(0, .ref (pl 0)), (1, .int x1), (2, .int x2)]) (lv' := [(0, .ref (pl 0)), (1, .int x1), (2, .int x2)]) [0, 1, 2] rfl ?_
  exact okX4_addLicker_0  x1 x2 s
-- X4_actInTruth
theorem dX4_actInTruth_0 : decode cX4_actInTruth 0 = .ok (.aload_n 0, 1) := by decide +kernel
theorem dX4_actInTruth_1 : decode cX4_actInTruth 1 = .ok (.getfield 12, 3) := by decide +kernel
theorem dX4_actInTruth_4 : decode cX4_actInTruth 4 = .ok (.getfield 48, 3) := by decide +kernel
theorem dX4_actInTruth_7 : decode cX4_actInTruth 7 = .ok (.istore_n 2, 1) := by decide +kernel
theorem dX4_actInTruth_8 : decode cX4_actInTruth 8 = .ok (.aload_n 0, 1) := by decide +kernel
theorem dX4_actInTruth_9 : decode cX4_actInTruth 9 = .ok (.getfield 12, 3) := by decide +kernel
theorem dX4_actInTruth_12 : decode cX4_actInTruth 12 = .ok (.iload_n 1, 1) := by decide +kernel
theorem dX4_actInTruth_13 : decode cX4_actInTruth 13 = .ok (.invokevirtual 51, 3) := by decide +kernel
theorem dX4_actInTruth_16 : decode cX4_actInTruth 16 = .ok (.aload_n 0, 1) := by decide +kernel
theorem dX4_actInTruth_17 : decode cX4_actInTruth 17 = .ok (.getfield 12, 3) := by decide +kernel
theorem dX4_actInTruth_20 : decode cX4_actInTruth 20 = .ok (.getfield 48, 3) := by decide +kernel
theorem dX4_actInTruth_23 : decode cX4_actInTruth 23 = .ok (.iload_n 2, 1) := by decide +kernel
theorem dX4_actInTruth_24 : decode cX4_actInTruth 24 = .ok (.if_icmp .le 38, 3) := by decide +kernel
theorem dX4_actInTruth_27 : decode cX4_actInTruth 27 = .ok (.aload_n 0, 1) := by decide +kernel
theorem dX4_actInTruth_28 : decode cX4_actInTruth 28 = .ok (.getfield 32, 3) := by decide +kernel
theorem dX4_actInTruth_31 : decode cX4_actInTruth 31 = .ok (.bipush 20, 2) := by decide +kernel
theorem dX4_actInTruth_33 : decode cX4_actInTruth 33 = .ok (.if_icmp .ge 29, 3) := by decide +kernel
theorem dX4_actInTruth_36 : decode cX4_actInTruth 36 = .ok (.aload_n 0, 1) := by decide +kernel
theorem dX4_actInTruth_37 : decode cX4_actInTruth 37 = .ok (.getfield 29, 3) := by decide +kernel
theorem dX4_actInTruth_40 : decode cX4_actInTruth 40 = .ok (.aload_n 0, 1) := by decide +kernel
theorem dX4_actInTruth_41 : decode cX4_actInTruth 41 = .ok (.getfield 32, 3) := by decide +kernel
theorem dX4_actInTruth_44 : decode cX4_actInTruth 44 = .ok (.aload_n 0, 1) := by decide +kernel
theorem dX4_actInTruth_45 : decode cX4_actInTruth 45 = .ok (.getfield 12, 3) := by decide +kernel
theorem dX4_actInTruth_48 : decode cX4_actInTruth 48 = .ok (.getfield 55, 3) := by decide +kernel
theorem dX4_actInTruth_51 : decode cX4_actInTruth 51 = .ok (.iastore, 1) := by decide +kernel
theorem dX4_actInTruth_52 : decode cX4_actInTruth 52 = .ok (.aload_n 0, 1) := by decide +kernel
theorem dX4_actInTruth_53 : decode cX4_actInTruth 53 = .ok (.dup, 1) := by decide +kernel
theorem dX4_actInTruth_54 : decode cX4_actInTruth 54 = .ok (.getfield 32, 3) := by decide +kernel
theorem dX4_actInTruth_57 : decode cX4_actInTruth 57 = .ok (.iconst 1, 1) := by decide +kernel
theorem dX4_actInTruth_58 : decode cX4_actInTruth 58 = .ok (.iadd, 1) := by decide +kernel
theorem dX4_actInTruth_59 : decode cX4_actInTruth 59 = .ok (.putfield 32, 3) := by decide +kernel
theorem dX4_actInTruth_62 : decode cX4_actInTruth 62 = .ok (.return_, 1) := by decide +kernel
def fX4_actInTruth_0 (x1 : Int32) (s : SS) : Option (Unit × SS) := ((fX0_pass x1 (selS (fun k => 1 + k) s)).bind fun z1 => if ((mrgS (fun k => 1 + k) 5 s z1.2).1 1 8) ≤ (s.1 1 8) then (some ((), mrgS (fun k => 1 + k) 5 s z1.2)) else (if (20 : Int32) ≤ ((mrgS (fun k => 1 + k) 5 s z1.2).1 0 5) then (some ((), mrgS (fun k => 1 + k) 5 s z1.2)) else (if ixB ((mrgS (fun k => 1 + k) 5 s z1.2).1 0 5) 20 then (some ((), wrI (wrI (mrgS (fun k => 1 + k) 5 s z1.2) 8 (((mrgS (fun k => 1 + k) 5 s z1.2).1 0 5).toNatClampNeg) ((mrgS (fun k => 1 + k) 5 s z1.2).1 1 7)) 0 5 (((mrgS (fun k => 1 + k) 5 s z1.2).1 0 5) + (1 : Int32)))) else none)))
def fX4_actInTruth (x1 : Int32) (s : SS) : Option (Unit × SS) := fX4_actInTruth_0 x1 s
set_option maxRecDepth 100000 in
set_option maxHeartbeats 4000000 in
theorem okX4_actInTruth_0 {G : GG} {pl : Nat → Nat} {h0 : PH} (x1 : Int32) (s : SS) : EvF G 3 mX4_actInTruth lyW pl h0 rvU (fX4_actInTruth_0 x1 s) 0 [(0, .ref (pl 0)), (1, .int x1)] [] s := by
  unfold fX4_actInTruth_0
  refine ef_aload_n (q := 1) 0 dX4_actInTruth_0 rfl rfl rfl ?_
  refine ef_getR (t := 1) (q := 4) rfl fl4_12 rfl rfl dX4_actInTruth_1 rfl ?_
  refine ef_getI (x := s.1 1 8) (q := 7) rfl fl4_48 rfl rfl dX4_actInTruth_4 rfl ?_
  refine ef_istore_n (lv' := [(2, .int (s.1 1 8)), (0, .ref (pl 0)), (1, .int x1)]) (q := 8) dX4_actInTruth_7 rfl (by decide) rfl rfl ?_
  refine ef_aload_n (q := 9) 1 dX4_actInTruth_8 rfl rfl rfl ?_
  refine ef_getR (t := 1) (q := 12) rfl fl4_12 rfl rfl dX4_actInTruth_9 rfl ?_
  refine ef_iload_n (q := 13) 2 dX4_actInTruth_12 rfl rfl rfl ?_
  refine ef_invVU (k := 1) (nn := 5) (π := (fun k => 1 + k)) (As := [.int x1]) (rest := []) (q := 16) (okX0_pass x1) (by decide +kernel) rfl calX0_pass ml4_51 (by decide) rfl rfl rfl (Nat.le_of_ble_eq_true rfl) dX4_actInTruth_13 rfl rfl (fun z1 => ?_)
  refine ef_aload_n (q := 17) 1 dX4_actInTruth_16 rfl rfl rfl ?_
  refine ef_getR (t := 1) (q := 20) rfl fl4_12 rfl rfl dX4_actInTruth_17 rfl ?_
  refine ef_getI (x := (mrgS (fun k => 1 + k) 5 s z1.2).1 1 8) (q := 23) rfl fl4_48 rfl rfl dX4_actInTruth_20 rfl ?_
  refine ef_iload_n (q := 24) 0 dX4_actInTruth_23 rfl rfl rfl ?_
  refine ef_if (pt := 62) (pf := 27) (fun _ _ => ev_icmp_le (tgt := 62) dX4_actInTruth_24 (by decide)) (fun h2 => ?_) (fun h2 => ?_)
  · exact ef_vret rfl dX4_actInTruth_62
  · refine ef_aload_n (q := 28) 1 dX4_actInTruth_27 rfl rfl rfl ?_
    refine ef_getI (x := (mrgS (fun k => 1 + k) 5 s z1.2).1 0 5) (q := 31) rfl fl4_32 rfl rfl dX4_actInTruth_28 rfl ?_
    refine ef_bipush (v := (20 : Int32)) (q := 33) dX4_actInTruth_31 (by decide) rfl ?_
    refine ef_if (pt := 62) (pf := 36) (fun _ _ => ev_icmp_ge (tgt := 62) dX4_actInTruth_33 (by decide)) (fun h3 => ?_) (fun h3 => ?_)
    · exact ef_vret rfl dX4_actInTruth_62
    · refine ef_aload_n (q := 37) 1 dX4_actInTruth_36 rfl rfl rfl ?_
      refine ef_getR (t := 8) (q := 40) rfl fl4_29 rfl rfl dX4_actInTruth_37 rfl ?_
      refine ef_aload_n (q := 41) 1 dX4_actInTruth_40 rfl rfl rfl ?_
      refine ef_getI (x := (mrgS (fun k => 1 + k) 5 s z1.2).1 0 5) (q := 44) rfl fl4_32 rfl rfl dX4_actInTruth_41 rfl ?_
      refine ef_aload_n (q := 45) 1 dX4_actInTruth_44 rfl rfl rfl ?_
      refine ef_getR (t := 1) (q := 48) rfl fl4_12 rfl rfl dX4_actInTruth_45 rfl ?_
      refine ef_getI (x := (mrgS (fun k => 1 + k) 5 s z1.2).1 1 7) (q := 51) rfl fl4_55 rfl rfl dX4_actInTruth_48 rfl ?_
      refine ef_guard (fun g4 => ?_)
      refine ef_iastore (j := ((mrgS (fun k => 1 + k) 5 s z1.2).1 0 5).toNatClampNeg) (q := 52) rfl g4 dX4_actInTruth_51 rfl rfl ?_
      refine ef_aload_n (q := 53) 1 dX4_actInTruth_52 rfl rfl rfl ?_
      refine ef_dup (q := 54) dX4_actInTruth_53 rfl rfl ?_
      refine ef_getI (x := (mrgS (fun k => 1 + k) 5 s z1.2).1 0 5) (q := 57) rfl fl4_32 rfl rfl dX4_actInTruth_54 rfl ?_
      refine ef_iconst (v := (1 : Int32)) (q := 58) dX4_actInTruth_57 (by decide) rfl ?_
      refine ef_iadd (q := 59) dX4_actInTruth_58 rfl ?_
      refine ef_putI (q := 62) rfl fl4_32 rfl rfl dX4_actInTruth_59 rfl ?_
      exact ef_vret rfl dX4_actInTruth_62
theorem okX4_actInTruth (x1 : Int32) : MtF 3 mX4_actInTruth lyW rvU (fun _ pl => [.ref (pl 0), .int x1]) (fX4_actInTruth x1) := by
  refine MtF.of (by decide +kernel) rfl (fun _ pl => Nat.le_of_ble_eq_true rfl) (fun G pl h0 s => ?_)
  refine ef_sub (lv := [(0, .ref (pl 0)), (1, .int x1)]) (lv' := [(0, .ref (pl 0)), (1, .int x1)]) [0, 1] rfl ?_
  exact okX4_actInTruth_0  x1 s
-- X4_takeFrom
theorem dX4_takeFrom_0 : decode cX4_takeFrom 0 = .ok (.aload_n 0, 1) := by decide +kernel
theorem dX4_takeFrom_1 : decode cX4_takeFrom 1 = .ok (.getfield 12, 3) := by decide +kernel
theorem dX4_takeFrom_4 : decode cX4_takeFrom 4 = .ok (.aload_n 1, 1) := by decide +kernel
theorem dX4_takeFrom_5 : decode cX4_takeFrom 5 = .ok (.getfield 12, 3) := by decide +kernel
theorem dX4_takeFrom_8 : decode cX4_takeFrom 8 = .ok (.invokevirtual 38, 3) := by decide +kernel
theorem dX4_takeFrom_11 : decode cX4_takeFrom 11 = .ok (.aload_n 1, 1) := by decide +kernel
theorem dX4_takeFrom_12 : decode cX4_takeFrom 12 = .ok (.getfield 18, 3) := by decide +kernel
theorem dX4_takeFrom_15 : decode cX4_takeFrom 15 = .ok (.iconst 0, 1) := by decide +kernel
theorem dX4_takeFrom_16 : decode cX4_takeFrom 16 = .ok (.aload_n 0, 1) := by decide +kernel
theorem dX4_takeFrom_17 : decode cX4_takeFrom 17 = .ok (.getfield 18, 3) := by decide +kernel
theorem dX4_takeFrom_20 : decode cX4_takeFrom 20 = .ok (.iconst 0, 1) := by decide +kernel
theorem dX4_takeFrom_21 : decode cX4_takeFrom 21 = .ok (.iconst 4, 1) := by decide +kernel
theorem dX4_takeFrom_22 : decode cX4_takeFrom 22 = .ok (.invokestatic 42, 3) := by decide +kernel
theorem dX4_takeFrom_25 : decode cX4_takeFrom 25 = .ok (.aload_n 1, 1) := by decide +kernel
theorem dX4_takeFrom_26 : decode cX4_takeFrom 26 = .ok (.getfield 22, 3) := by decide +kernel
theorem dX4_takeFrom_29 : decode cX4_takeFrom 29 = .ok (.iconst 0, 1) := by decide +kernel
theorem dX4_takeFrom_30 : decode cX4_takeFrom 30 = .ok (.aload_n 0, 1) := by decide +kernel
theorem dX4_takeFrom_31 : decode cX4_takeFrom 31 = .ok (.getfield 22, 3) := by decide +kernel
theorem dX4_takeFrom_34 : decode cX4_takeFrom 34 = .ok (.iconst 0, 1) := by decide +kernel
theorem dX4_takeFrom_35 : decode cX4_takeFrom 35 = .ok (.iconst 4, 1) := by decide +kernel
theorem dX4_takeFrom_36 : decode cX4_takeFrom 36 = .ok (.invokestatic 42, 3) := by decide +kernel
theorem dX4_takeFrom_39 : decode cX4_takeFrom 39 = .ok (.aload_n 0, 1) := by decide +kernel
theorem dX4_takeFrom_40 : decode cX4_takeFrom 40 = .ok (.aload_n 1, 1) := by decide +kernel
theorem dX4_takeFrom_41 : decode cX4_takeFrom 41 = .ok (.getfield 25, 3) := by decide +kernel
theorem dX4_takeFrom_44 : decode cX4_takeFrom 44 = .ok (.putfield 25, 3) := by decide +kernel
theorem dX4_takeFrom_47 : decode cX4_takeFrom 47 = .ok (.aload_n 1, 1) := by decide +kernel
theorem dX4_takeFrom_48 : decode cX4_takeFrom 48 = .ok (.getfield 29, 3) := by decide +kernel
theorem dX4_takeFrom_51 : decode cX4_takeFrom 51 = .ok (.iconst 0, 1) := by decide +kernel
theorem dX4_takeFrom_52 : decode cX4_takeFrom 52 = .ok (.aload_n 0, 1) := by decide +kernel
theorem dX4_takeFrom_53 : decode cX4_takeFrom 53 = .ok (.getfield 29, 3) := by decide +kernel
theorem dX4_takeFrom_56 : decode cX4_takeFrom 56 = .ok (.iconst 0, 1) := by decide +kernel
theorem dX4_takeFrom_57 : decode cX4_takeFrom 57 = .ok (.bipush 20, 2) := by decide +kernel
theorem dX4_takeFrom_59 : decode cX4_takeFrom 59 = .ok (.invokestatic 42, 3) := by decide +kernel
theorem dX4_takeFrom_62 : decode cX4_takeFrom 62 = .ok (.aload_n 0, 1) := by decide +kernel
theorem dX4_takeFrom_63 : decode cX4_takeFrom 63 = .ok (.aload_n 1, 1) := by decide +kernel
theorem dX4_takeFrom_64 : decode cX4_takeFrom 64 = .ok (.getfield 32, 3) := by decide +kernel
theorem dX4_takeFrom_67 : decode cX4_takeFrom 67 = .ok (.putfield 32, 3) := by decide +kernel
theorem dX4_takeFrom_70 : decode cX4_takeFrom 70 = .ok (.aload_n 0, 1) := by decide +kernel
theorem dX4_takeFrom_71 : decode cX4_takeFrom 71 = .ok (.aload_n 1, 1) := by decide +kernel
theorem dX4_takeFrom_72 : decode cX4_takeFrom 72 = .ok (.getfield 35, 3) := by decide +kernel
theorem dX4_takeFrom_75 : decode cX4_takeFrom 75 = .ok (.putfield 35, 3) := by decide +kernel
theorem dX4_takeFrom_78 : decode cX4_takeFrom 78 = .ok (.return_, 1) := by decide +kernel
def fX4_takeFrom_0 (s : SS) : Option (Unit × SS) := ((fX0_takeFrom (selS (fun k => if k < 5 then 1 + k else 10 + (k - 5)) s)).bind fun z1 => if acOK (0 : Int32) (0 : Int32) (4 : Int32) 4 4 then (if acOK (0 : Int32) (0 : Int32) (4 : Int32) 4 4 then (if acOK (0 : Int32) (0 : Int32) (20 : Int32) 20 20 then (some ((), wrI (wrI (wrA (wrI (wrA (wrA (mrgS (fun k => if k < 5 then 1 + k else 10 + (k - 5)) 10 s z1.2) 6  (va_cpy ((mrgS (fun k => if k < 5 then 1 + k else 10 + (k - 5)) 10 s z1.2).1 15) ((mrgS (fun k => if k < 5 then 1 + k else 10 + (k - 5)) 10 s z1.2).1 6) (0 : Int32).toNatClampNeg (0 : Int32).toNatClampNeg (4 : Int32).toNatClampNeg)) 7  (va_cpy ((mrgS (fun k => if k < 5 then 1 + k else 10 + (k - 5)) 10 s z1.2).1 16) ((mrgS (fun k => if k < 5 then 1 + k else 10 + (k - 5)) 10 s z1.2).1 7) (0 : Int32).toNatClampNeg (0 : Int32).toNatClampNeg (4 : Int32).toNatClampNeg)) 0 3 ((mrgS (fun k => if k < 5 then 1 + k else 10 + (k - 5)) 10 s z1.2).1 9 3)) 8  (va_cpy ((mrgS (fun k => if k < 5 then 1 + k else 10 + (k - 5)) 10 s z1.2).1 17) ((mrgS (fun k => if k < 5 then 1 + k else 10 + (k - 5)) 10 s z1.2).1 8) (0 : Int32).toNatClampNeg (0 : Int32).toNatClampNeg (20 : Int32).toNatClampNeg)) 0 5 ((mrgS (fun k => if k < 5 then 1 + k else 10 + (k - 5)) 10 s z1.2).1 9 5)) 0 6 ((mrgS (fun k => if k < 5 then 1 + k else 10 + (k - 5)) 10 s z1.2).1 9 6))) else none) else none) else none)
def fX4_takeFrom (s : SS) : Option (Unit × SS) := fX4_takeFrom_0 s
set_option maxRecDepth 100000 in
set_option maxHeartbeats 4000000 in
theorem okX4_takeFrom_0 {G : GG} {pl : Nat → Nat} {h0 : PH} (s : SS) : EvF G 2 mX4_takeFrom lyWW pl h0 rvU (fX4_takeFrom_0 s) 0 [(0, .ref (pl 0)), (1, .ref (pl 9))] [] s := by
  unfold fX4_takeFrom_0
  refine ef_aload_n (q := 1) 0 dX4_takeFrom_0 rfl rfl rfl ?_
  refine ef_getR (t := 1) (q := 4) rfl fl4_12 rfl rfl dX4_takeFrom_1 rfl ?_
  refine ef_aload_n (q := 5) 1 dX4_takeFrom_4 rfl rfl rfl ?_
  refine ef_getR (t := 10) (q := 8) rfl fl4_12 rfl rfl dX4_takeFrom_5 rfl ?_
  refine ef_invVU (k := 1) (nn := 10) (π := (fun k => if k < 5 then 1 + k else 10 + (k - 5))) (As := [.ref (pl 10)]) (rest := []) (q := 11) (okX0_takeFrom) (by decide +kernel) rfl calX0_takeFrom ml4_38 (by decide) rfl rfl rfl (Nat.le_of_ble_eq_true rfl) dX4_takeFrom_8 rfl rfl (fun z1 => ?_)
  refine ef_aload_n (q := 12) 1 dX4_takeFrom_11 rfl rfl rfl ?_
  refine ef_getR (t := 15) (q := 15) rfl fl4_18 rfl rfl dX4_takeFrom_12 rfl ?_
  refine ef_iconst (v := (0 : Int32)) (q := 16) dX4_takeFrom_15 (by decide) rfl ?_
  refine ef_aload_n (q := 17) 0 dX4_takeFrom_16 rfl rfl rfl ?_
  refine ef_getR (t := 6) (q := 20) rfl fl4_18 rfl rfl dX4_takeFrom_17 rfl ?_
  refine ef_iconst (v := (0 : Int32)) (q := 21) dX4_takeFrom_20 (by decide) rfl ?_
  refine ef_iconst (v := (4 : Int32)) (q := 22) dX4_takeFrom_21 (by decide) rfl ?_
  refine ef_guard (fun g2 => ?_)
  refine ef_acopyI (k0 := 15) (k1 := 6) (q := 25) rfl rfl ml4_42 g2 (by decide) (Nat.le_of_ble_eq_true rfl) dX4_takeFrom_22 rfl rfl ?_
  refine ef_aload_n (q := 26) 1 dX4_takeFrom_25 rfl rfl rfl ?_
  refine ef_getR (t := 16) (q := 29) rfl fl4_22 rfl rfl dX4_takeFrom_26 rfl ?_
  refine ef_iconst (v := (0 : Int32)) (q := 30) dX4_takeFrom_29 (by decide) rfl ?_
  refine ef_aload_n (q := 31) 0 dX4_takeFrom_30 rfl rfl rfl ?_
  refine ef_getR (t := 7) (q := 34) rfl fl4_22 rfl rfl dX4_takeFrom_31 rfl ?_
  refine ef_iconst (v := (0 : Int32)) (q := 35) dX4_takeFrom_34 (by decide) rfl ?_
  refine ef_iconst (v := (4 : Int32)) (q := 36) dX4_takeFrom_35 (by decide) rfl ?_
  refine ef_guard (fun g3 => ?_)
  refine ef_acopyI (k0 := 16) (k1 := 7) (q := 39) rfl rfl ml4_42 g3 (by decide) (Nat.le_of_ble_eq_true rfl) dX4_takeFrom_36 rfl rfl ?_
  refine ef_aload_n (q := 40) 0 dX4_takeFrom_39 rfl rfl rfl ?_
  refine ef_aload_n (q := 41) 1 dX4_takeFrom_40 rfl rfl rfl ?_
  refine ef_getI (x := (mrgS (fun k => if k < 5 then 1 + k else 10 + (k - 5)) 10 s z1.2).1 9 3) (q := 44) rfl fl4_25 rfl rfl dX4_takeFrom_41 rfl ?_
  refine ef_putI (q := 47) rfl fl4_25 rfl rfl dX4_takeFrom_44 rfl ?_
  refine ef_aload_n (q := 48) 1 dX4_takeFrom_47 rfl rfl rfl ?_
  refine ef_getR (t := 17) (q := 51) rfl fl4_29 rfl rfl dX4_takeFrom_48 rfl ?_
  refine ef_iconst (v := (0 : Int32)) (q := 52) dX4_takeFrom_51 (by decide) rfl ?_
  refine ef_aload_n (q := 53) 0 dX4_takeFrom_52 rfl rfl rfl ?_
  refine ef_getR (t := 8) (q := 56) rfl fl4_29 rfl rfl dX4_takeFrom_53 rfl ?_
  refine ef_iconst (v := (0 : Int32)) (q := 57) dX4_takeFrom_56 (by decide) rfl ?_
  refine ef_bipush (v := (20 : Int32)) (q := 59) dX4_takeFrom_57 (by decide) rfl ?_
  refine ef_guard (fun g4 => ?_)
  refine ef_acopyI (k0 := 17) (k1 := 8) (q := 62) rfl rfl ml4_42 g4 (by decide) (Nat.le_of_ble_eq_true rfl) dX4_takeFrom_59 rfl rfl ?_
  refine ef_aload_n (q := 63) 0 dX4_takeFrom_62 rfl rfl rfl ?_
  refine ef_aload_n (q := 64) 1 dX4_takeFrom_63 rfl rfl rfl ?_
  refine ef_getI (x := (mrgS (fun k => if k < 5 then 1 + k else 10 + (k - 5)) 10 s z1.2).1 9 5) (q := 67) rfl fl4_32 rfl rfl dX4_takeFrom_64 rfl ?_
  refine ef_putI (q := 70) rfl fl4_32 rfl rfl dX4_takeFrom_67 rfl ?_
  refine ef_aload_n (q := 71) 0 dX4_takeFrom_70 rfl rfl rfl ?_
  refine ef_aload_n (q := 72) 1 dX4_takeFrom_71 rfl rfl rfl ?_
  refine ef_getI (x := (mrgS (fun k => if k < 5 then 1 + k else 10 + (k - 5)) 10 s z1.2).1 9 6) (q := 75) rfl fl4_35 rfl rfl dX4_takeFrom_72 rfl ?_
  refine ef_putI (q := 78) rfl fl4_35 rfl rfl dX4_takeFrom_75 rfl ?_
  exact ef_vret rfl dX4_takeFrom_78
theorem okX4_takeFrom : MtF 2 mX4_takeFrom lyWW rvU (fun _ pl => [.ref (pl 0), .ref (pl 9)]) (fX4_takeFrom) := by
  refine MtF.of (by decide +kernel) rfl (fun _ pl => Nat.le_of_ble_eq_true rfl) (fun G pl h0 s => ?_)
  refine ef_sub (lv := [(0, .ref (pl 0)), (1, .ref (pl 9))]) (lv' := [(0, .ref (pl 0)), (1, .ref (pl 9))]) [0, 1] rfl ?_
  exact okX4_takeFrom_0  s
-- X4_drawByte
theorem dX4_drawByte_0 : decode cX4_drawByte 0 = .ok (.aload_n 0, 1) := by decide +kernel
theorem dX4_drawByte_1 : decode cX4_drawByte 1 = .ok (.aload_n 0, 1) := by decide +kernel
theorem dX4_drawByte_2 : decode cX4_drawByte 2 = .ok (.getfield 35, 3) := by decide +kernel
theorem dX4_drawByte_5 : decode cX4_drawByte 5 = .ok (.ldc 58, 2) := by decide +kernel
theorem dX4_drawByte_7 : decode cX4_drawByte 7 = .ok (.imul, 1) := by decide +kernel
theorem dX4_drawByte_8 : decode cX4_drawByte 8 = .ok (.sipush 12345, 3) := by decide +kernel
theorem dX4_drawByte_11 : decode cX4_drawByte 11 = .ok (.iadd, 1) := by decide +kernel
theorem dX4_drawByte_12 : decode cX4_drawByte 12 = .ok (.putfield 35, 3) := by decide +kernel
theorem dX4_drawByte_15 : decode cX4_drawByte 15 = .ok (.aload_n 0, 1) := by decide +kernel
theorem dX4_drawByte_16 : decode cX4_drawByte 16 = .ok (.getfield 35, 3) := by decide +kernel
theorem dX4_drawByte_19 : decode cX4_drawByte 19 = .ok (.bipush 16, 2) := by decide +kernel
theorem dX4_drawByte_21 : decode cX4_drawByte 21 = .ok (.iushr, 1) := by decide +kernel
theorem dX4_drawByte_22 : decode cX4_drawByte 22 = .ok (.sipush 256, 3) := by decide +kernel
theorem dX4_drawByte_25 : decode cX4_drawByte 25 = .ok (.irem, 1) := by decide +kernel
theorem dX4_drawByte_26 : decode cX4_drawByte 26 = .ok (.ireturn, 1) := by decide +kernel
def fX4_drawByte_0 (s : SS) : Option (Int32 × SS) := some ((((((s.1 0 6) * (1103515245 : Int32)) + (12345 : Int32)).toUInt32 >>> ((16 : Int32).toUInt32 &&& Int32.toUInt32 31)).toInt32) - (((((s.1 0 6) * (1103515245 : Int32)) + (12345 : Int32)).toUInt32 >>> ((16 : Int32).toUInt32 &&& Int32.toUInt32 31)).toInt32) / (256 : Int32) * (256 : Int32), wrI s 0 6 (((s.1 0 6) * (1103515245 : Int32)) + (12345 : Int32)))
def fX4_drawByte (s : SS) : Option (Int32 × SS) := fX4_drawByte_0 s
set_option maxRecDepth 100000 in
set_option maxHeartbeats 4000000 in
theorem okX4_drawByte_0 {G : GG} {pl : Nat → Nat} {h0 : PH} (s : SS) : EvF G 0 mX4_drawByte lyW pl h0 rvI (fX4_drawByte_0 s) 0 [(0, .ref (pl 0))] [] s := by
  unfold fX4_drawByte_0
  refine ef_aload_n (q := 1) 0 dX4_drawByte_0 rfl rfl rfl ?_
  refine ef_aload_n (q := 2) 0 dX4_drawByte_1 rfl rfl rfl ?_
  refine ef_getI (x := s.1 0 6) (q := 5) rfl fl4_35 rfl rfl dX4_drawByte_2 rfl ?_
  refine ef_ldc (v := (1103515245 : Int32)) (q := 7) k4_58 dX4_drawByte_5 rfl ?_
  refine ef_imul (q := 8) dX4_drawByte_7 rfl ?_
  refine ef_sipush (v := (12345 : Int32)) (q := 11) dX4_drawByte_8 (by decide) rfl ?_
  refine ef_iadd (q := 12) dX4_drawByte_11 rfl ?_
  refine ef_putI (q := 15) rfl fl4_35 rfl rfl dX4_drawByte_12 rfl ?_
  refine ef_aload_n (q := 16) 0 dX4_drawByte_15 rfl rfl rfl ?_
  refine ef_getI (x := ((s.1 0 6) * (1103515245 : Int32)) + (12345 : Int32)) (q := 19) rfl fl4_35 rfl rfl dX4_drawByte_16 rfl ?_
  refine ef_bipush (v := (16 : Int32)) (q := 21) dX4_drawByte_19 (by decide) rfl ?_
  refine ef_iushr (v := ((((s.1 0 6) * (1103515245 : Int32)) + (12345 : Int32)).toUInt32 >>> ((16 : Int32).toUInt32 &&& Int32.toUInt32 31)).toInt32) (q := 22) dX4_drawByte_21 rfl rfl ?_
  refine ef_sipush (v := (256 : Int32)) (q := 25) dX4_drawByte_22 (by decide) rfl ?_
  refine ef_irem (q := 26) dX4_drawByte_25 (by decide) rfl ?_
  exact ef_iret rfl dX4_drawByte_26
theorem okX4_drawByte : MtF 0 mX4_drawByte lyW rvI (fun _ pl => [.ref (pl 0)]) (fX4_drawByte) := by
  refine MtF.of (by decide +kernel) rfl (fun _ pl => Nat.le_of_ble_eq_true rfl) (fun G pl h0 s => ?_)
  refine ef_sub (lv := [(0, .ref (pl 0))]) (lv' := [(0, .ref (pl 0))]) [0] rfl ?_
  exact okX4_drawByte_0  s
