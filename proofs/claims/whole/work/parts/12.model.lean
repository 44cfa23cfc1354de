-- X6_refuse
theorem dX6_refuse_0 : decode cX6_refuse 0 = .ok (.aload_n 0, 1) := by decide +kernel
theorem dX6_refuse_1 : decode cX6_refuse 1 = .ok (.getfield 34, 3) := by decide +kernel
theorem dX6_refuse_4 : decode cX6_refuse 4 = .ok (.iload_n 1, 1) := by decide +kernel
theorem dX6_refuse_5 : decode cX6_refuse 5 = .ok (.ineg, 1) := by decide +kernel
theorem dX6_refuse_6 : decode cX6_refuse 6 = .ok (.dup2, 1) := by decide +kernel
theorem dX6_refuse_7 : decode cX6_refuse 7 = .ok (.iaload, 1) := by decide +kernel
theorem dX6_refuse_8 : decode cX6_refuse 8 = .ok (.iconst 1, 1) := by decide +kernel
theorem dX6_refuse_9 : decode cX6_refuse 9 = .ok (.iadd, 1) := by decide +kernel
theorem dX6_refuse_10 : decode cX6_refuse 10 = .ok (.iastore, 1) := by decide +kernel
theorem dX6_refuse_11 : decode cX6_refuse 11 = .ok (.iload_n 1, 1) := by decide +kernel
theorem dX6_refuse_12 : decode cX6_refuse 12 = .ok (.ireturn, 1) := by decide +kernel
def fX6_refuse_0 (x1 : Int32) (s : SS) : Option (Int32 × SS) := if ixB (-x1) 8 then (if ixB (-x1) 8 then (some (x1, wrI s 16 ((-x1).toNatClampNeg) ((s.1 16 ((-x1).toNatClampNeg)) + (1 : Int32)))) else none) else none
def fX6_refuse (x1 : Int32) (s : SS) : Option (Int32 × SS) := fX6_refuse_0 x1 s
set_option maxRecDepth 100000 in
set_option maxHeartbeats 4000000 in
theorem okX6_refuse_0 {G : GG} {pl : Nat → Nat} {h0 : PH} (x1 : Int32) (s : SS) : EvF G 0 mX6_refuse lyR pl h0 rvI (fX6_refuse_0 x1 s) 0 [(0, .ref (pl 0)), (1, .int x1)] [] s := by
  unfold fX6_refuse_0
  refine ef_aload_n (q := 1) 0 dX6_refuse_0 rfl rfl rfl ?_
  refine ef_getR (t := 16) (q := 4) rfl fl6_34 rfl rfl dX6_refuse_1 rfl ?_
  refine ef_iload_n (q := 5) 1 dX6_refuse_4 rfl rfl rfl ?_
  refine ef_ineg (q := 6) dX6_refuse_5 rfl ?_
  refine ef_dup2_11 (q := 7) dX6_refuse_6 rfl rfl rfl ?_
  refine ef_guard (fun g1 => ?_)
  refine ef_iaload (x := s.1 16 ((-x1).toNatClampNeg)) (q := 8) rfl g1 dX6_refuse_7 rfl rfl ?_
  refine ef_iconst (v := (1 : Int32)) (q := 9) dX6_refuse_8 (by decide) rfl ?_
  refine ef_iadd (q := 10) dX6_refuse_9 rfl ?_
  refine ef_guard (fun g2 => ?_)
  refine ef_iastore (j := (-x1).toNatClampNeg) (q := 11) rfl g2 dX6_refuse_10 rfl rfl ?_
  refine ef_iload_n (q := 12) 1 dX6_refuse_11 rfl rfl rfl ?_
  exact ef_iret rfl dX6_refuse_12
theorem okX6_refuse (x1 : Int32) : MtF 0 mX6_refuse lyR rvI (fun _ pl => [.ref (pl 0), .int x1]) (fX6_refuse x1) := by
  refine MtF.of (by decide +kernel) rfl (fun _ pl => Nat.le_of_ble_eq_true rfl) (fun G pl h0 s => ?_)
  refine ef_sub (lv := [(0, .ref (pl 0)), (1, .int x1)]) (lv' := [(0, .ref (pl 0)), (1, .int x1)]) [0, 1] rfl ?_
  exact okX6_refuse_0  x1 s
-- X6_in
theorem dX6_in_0 : decode cX6_in 0 = .ok (.lload_n 0, 1) := by decide +kernel
theorem dX6_in_1 : decode cX6_in 1 = .ok (.lload_n 2, 1) := by decide +kernel
theorem dX6_in_2 : decode cX6_in 2 = .ok (.lcmp, 1) := by decide +kernel
theorem dX6_in_3 : decode cX6_in 3 = .ok (.ifCond .lt 14, 3) := by decide +kernel
theorem dX6_in_6 : decode cX6_in 6 = .ok (.lload_n 0, 1) := by decide +kernel
theorem dX6_in_7 : decode cX6_in 7 = .ok (.lload 4, 2) := by decide +kernel
theorem dX6_in_9 : decode cX6_in 9 = .ok (.lcmp, 1) := by decide +kernel
theorem dX6_in_10 : decode cX6_in 10 = .ok (.ifCond .gt 7, 3) := by decide +kernel
theorem dX6_in_13 : decode cX6_in 13 = .ok (.iconst 1, 1) := by decide +kernel
theorem dX6_in_14 : decode cX6_in 14 = .ok (.goto 4, 3) := by decide +kernel
theorem dX6_in_17 : decode cX6_in 17 = .ok (.iconst 0, 1) := by decide +kernel
theorem dX6_in_18 : decode cX6_in 18 = .ok (.ireturn, 1) := by decide +kernel
def fX6_in_0 (x0 : Int64) (x2 : Int64) (x4 : Int64) (s : SS) : Option (Int32 × SS) := if (lg_cmp x0 x2) < 0 then (some ((0 : Int32), s)) else (if 0 < (lg_cmp x0 x4) then (some ((0 : Int32), s)) else (some ((1 : Int32), s)))
def fX6_in (x0 : Int64) (x2 : Int64) (x4 : Int64) (s : SS) : Option (Int32 × SS) := fX6_in_0 x0 x2 x4 s
set_option maxRecDepth 100000 in
set_option maxHeartbeats 4000000 in
theorem okX6_in_0 {G : GG} {pl : Nat → Nat} {h0 : PH} (x0 : Int64) (x2 : Int64) (x4 : Int64) (s : SS) : EvF G 0 mX6_in ly pl h0 rvI (fX6_in_0 x0 x2 x4 s) 0 [(0, .long x0), (2, .long x2), (4, .long x4)] [] s := by
  unfold fX6_in_0
  refine ef_lload_n (q := 1) 0 dX6_in_0 rfl rfl rfl ?_
  refine ef_lload_n (q := 2) 1 dX6_in_1 rfl rfl rfl ?_
  refine ef_lcmp (q := 3) dX6_in_2 rfl ?_
  refine ef_if (pt := 17) (pf := 6) (fun _ _ => ev_if_lt (tgt := 17) dX6_in_3 (by decide)) (fun h1 => ?_) (fun h1 => ?_)
  · refine ef_iconst (v := (0 : Int32)) (q := 18) dX6_in_17 (by decide) rfl ?_
    exact ef_zretc (x := (0 : Int32)) (by decide) rfl dX6_in_18
  · refine ef_lload_n (q := 7) 0 dX6_in_6 rfl rfl rfl ?_
    refine ef_lload (q := 9) 2 dX6_in_7 rfl rfl ?_
    refine ef_lcmp (q := 10) dX6_in_9 rfl ?_
    refine ef_if (pt := 17) (pf := 13) (fun _ _ => ev_if_gt (tgt := 17) dX6_in_10 (by decide)) (fun h2 => ?_) (fun h2 => ?_)
    · refine ef_iconst (v := (0 : Int32)) (q := 18) dX6_in_17 (by decide) rfl ?_
      exact ef_zretc (x := (0 : Int32)) (by decide) rfl dX6_in_18
    · refine ef_iconst (v := (1 : Int32)) (q := 14) dX6_in_13 (by decide) rfl ?_
      refine ef_goto (tgt := 18) dX6_in_14 (by decide) ?_
      exact ef_zretc (x := (1 : Int32)) (by decide) rfl dX6_in_18
theorem okX6_in (x0 : Int64) (x2 : Int64) (x4 : Int64) : MtF 0 mX6_in ly rvI (fun _ pl => [.long x0, .long x2, .long x4]) (fX6_in x0 x2 x4) := by
  refine MtF.of (by decide +kernel) rfl (fun _ pl => Nat.le_of_ble_eq_true rfl) (fun G pl h0 s => ?_)
  refine ef_sub (lv := [(0, .long x0), (2, .long x2), (4, .long x4)]) (lv' := [(0, .long x0), (2, .long x2), (4, .long x4)]) [0, 1, 2] rfl ?_
  exact okX6_in_0  x0 x2 x4 s
-- X6_isLicker
theorem dX6_isLicker_0 : decode cX6_isLicker 0 = .ok (.iload_n 1, 1) := by decide +kernel
theorem dX6_isLicker_1 : decode cX6_isLicker 1 = .ok (.i2l, 1) := by decide +kernel
theorem dX6_isLicker_2 : decode cX6_isLicker 2 = .ok (.lconst 0, 1) := by decide +kernel
theorem dX6_isLicker_3 : decode cX6_isLicker 3 = .ok (.aload_n 0, 1) := by decide +kernel
theorem dX6_isLicker_4 : decode cX6_isLicker 4 = .ok (.getfield 86, 3) := by decide +kernel
theorem dX6_isLicker_7 : decode cX6_isLicker 7 = .ok (.iconst 1, 1) := by decide +kernel
theorem dX6_isLicker_8 : decode cX6_isLicker 8 = .ok (.isub, 1) := by decide +kernel
theorem dX6_isLicker_9 : decode cX6_isLicker 9 = .ok (.i2l, 1) := by decide +kernel
theorem dX6_isLicker_10 : decode cX6_isLicker 10 = .ok (.invokestatic 89, 3) := by decide +kernel
theorem dX6_isLicker_13 : decode cX6_isLicker 13 = .ok (.ireturn, 1) := by decide +kernel
def fX6_isLicker_0 (x1 : Int32) (s : SS) : Option (Int32 × SS) := ((fX6_in x1.toInt64 (0 : Int64) (((s.1 0 22) - (1 : Int32)).toInt64) s).bind fun z1 => some (nbZ z1.1, s))
def fX6_isLicker (x1 : Int32) (s : SS) : Option (Int32 × SS) := fX6_isLicker_0 x1 s
set_option maxRecDepth 100000 in
set_option maxHeartbeats 4000000 in
theorem okX6_isLicker_0 {G : GG} {pl : Nat → Nat} {h0 : PH} (x1 : Int32) (s : SS) : EvF G 1 mX6_isLicker lyR pl h0 rvI (fX6_isLicker_0 x1 s) 0 [(0, .ref (pl 0)), (1, .int x1)] [] s := by
  unfold fX6_isLicker_0
  refine ef_iload_n (q := 1) 1 dX6_isLicker_0 rfl rfl rfl ?_
  refine ef_i2l (v := x1.toInt64) (q := 2) dX6_isLicker_1 rfl rfl ?_
  refine ef_lconst (v := (0 : Int64)) (q := 3) dX6_isLicker_2 (by decide) rfl ?_
  refine ef_aload_n (q := 4) 0 dX6_isLicker_3 rfl rfl rfl ?_
  refine ef_getI (x := s.1 0 22) (q := 7) rfl fl6_86 rfl rfl dX6_isLicker_4 rfl ?_
  refine ef_iconst (v := (1 : Int32)) (q := 8) dX6_isLicker_7 (by decide) rfl ?_
  refine ef_isub (q := 9) dX6_isLicker_8 rfl ?_
  refine ef_i2l (v := ((s.1 0 22) - (1 : Int32)).toInt64) (q := 10) dX6_isLicker_9 rfl rfl ?_
  refine ef_invPI0 (As := [.long x1.toInt64, .long (0 : Int64), .long (((s.1 0 22) - (1 : Int32)).toInt64)]) (rest := []) (q := 13) (okX6_in x1.toInt64 (0 : Int64) (((s.1 0 22) - (1 : Int32)).toInt64)) rfl calX6_in ml6_89 (by decide) rfl rfl (Nat.le_of_ble_eq_true rfl) dX6_isLicker_10 rfl (fun z1 => ?_)
  exact ef_zret rfl dX6_isLicker_13
theorem okX6_isLicker (x1 : Int32) : MtF 1 mX6_isLicker lyR rvI (fun _ pl => [.ref (pl 0), .int x1]) (fX6_isLicker x1) := by
  refine MtF.of (by decide +kernel) rfl (fun _ pl => Nat.le_of_ble_eq_true rfl) (fun G pl h0 s => ?_)
  refine ef_sub (lv := [(0, .ref (pl 0)), (1, .int x1)]) (lv' := [(0, .ref (pl 0)), (1, .int x1)]) [0, 1] rfl ?_
  exact okX6_isLicker_0  x1 s
-- X6_isScoop
theorem dX6_isScoop_0 : decode cX6_isScoop 0 = .ok (.iload_n 1, 1) := by decide +kernel
theorem dX6_isScoop_1 : decode cX6_isScoop 1 = .ok (.i2l, 1) := by decide +kernel
theorem dX6_isScoop_2 : decode cX6_isScoop 2 = .ok (.lconst 0, 1) := by decide +kernel
theorem dX6_isScoop_3 : decode cX6_isScoop 3 = .ok (.aload_n 0, 1) := by decide +kernel
theorem dX6_isScoop_4 : decode cX6_isScoop 4 = .ok (.getfield 93, 3) := by decide +kernel
theorem dX6_isScoop_7 : decode cX6_isScoop 7 = .ok (.iconst 1, 1) := by decide +kernel
theorem dX6_isScoop_8 : decode cX6_isScoop 8 = .ok (.isub, 1) := by decide +kernel
theorem dX6_isScoop_9 : decode cX6_isScoop 9 = .ok (.i2l, 1) := by decide +kernel
theorem dX6_isScoop_10 : decode cX6_isScoop 10 = .ok (.invokestatic 89, 3) := by decide +kernel
theorem dX6_isScoop_13 : decode cX6_isScoop 13 = .ok (.ireturn, 1) := by decide +kernel
def fX6_isScoop_0 (x1 : Int32) (s : SS) : Option (Int32 × SS) := ((fX6_in x1.toInt64 (0 : Int64) (((s.1 0 10) - (1 : Int32)).toInt64) s).bind fun z1 => some (nbZ z1.1, s))
def fX6_isScoop (x1 : Int32) (s : SS) : Option (Int32 × SS) := fX6_isScoop_0 x1 s
set_option maxRecDepth 100000 in
set_option maxHeartbeats 4000000 in
theorem okX6_isScoop_0 {G : GG} {pl : Nat → Nat} {h0 : PH} (x1 : Int32) (s : SS) : EvF G 1 mX6_isScoop lyR pl h0 rvI (fX6_isScoop_0 x1 s) 0 [(0, .ref (pl 0)), (1, .int x1)] [] s := by
  unfold fX6_isScoop_0
  refine ef_iload_n (q := 1) 1 dX6_isScoop_0 rfl rfl rfl ?_
  refine ef_i2l (v := x1.toInt64) (q := 2) dX6_isScoop_1 rfl rfl ?_
  refine ef_lconst (v := (0 : Int64)) (q := 3) dX6_isScoop_2 (by decide) rfl ?_
  refine ef_aload_n (q := 4) 0 dX6_isScoop_3 rfl rfl rfl ?_
  refine ef_getI (x := s.1 0 10) (q := 7) rfl fl6_93 rfl rfl dX6_isScoop_4 rfl ?_
  refine ef_iconst (v := (1 : Int32)) (q := 8) dX6_isScoop_7 (by decide) rfl ?_
  refine ef_isub (q := 9) dX6_isScoop_8 rfl ?_
  refine ef_i2l (v := ((s.1 0 10) - (1 : Int32)).toInt64) (q := 10) dX6_isScoop_9 rfl rfl ?_
  refine ef_invPI0 (As := [.long x1.toInt64, .long (0 : Int64), .long (((s.1 0 10) - (1 : Int32)).toInt64)]) (rest := []) (q := 13) (okX6_in x1.toInt64 (0 : Int64) (((s.1 0 10) - (1 : Int32)).toInt64)) rfl calX6_in ml6_89 (by decide) rfl rfl (Nat.le_of_ble_eq_true rfl) dX6_isScoop_10 rfl (fun z1 => ?_)
  exact ef_zret rfl dX6_isScoop_13
theorem okX6_isScoop (x1 : Int32) : MtF 1 mX6_isScoop lyR rvI (fun _ pl => [.ref (pl 0), .int x1]) (fX6_isScoop x1) := by
  refine MtF.of (by decide +kernel) rfl (fun _ pl => Nat.le_of_ble_eq_true rfl) (fun G pl h0 s => ?_)
  refine ef_sub (lv := [(0, .ref (pl 0)), (1, .int x1)]) (lv' := [(0, .ref (pl 0)), (1, .int x1)]) [0, 1] rfl ?_
  exact okX6_isScoop_0  x1 s
-- X6_isSide
theorem dX6_isSide_0 : decode cX6_isSide 0 = .ok (.iload_n 1, 1) := by decide +kernel
theorem dX6_isSide_1 : decode cX6_isSide 1 = .ok (.i2l, 1) := by decide +kernel
theorem dX6_isSide_2 : decode cX6_isSide 2 = .ok (.lconst 0, 1) := by decide +kernel
theorem dX6_isSide_3 : decode cX6_isSide 3 = .ok (.aload_n 0, 1) := by decide +kernel
theorem dX6_isSide_4 : decode cX6_isSide 4 = .ok (.getfield 37, 3) := by decide +kernel
theorem dX6_isSide_7 : decode cX6_isSide 7 = .ok (.iconst 1, 1) := by decide +kernel
theorem dX6_isSide_8 : decode cX6_isSide 8 = .ok (.isub, 1) := by decide +kernel
theorem dX6_isSide_9 : decode cX6_isSide 9 = .ok (.i2l, 1) := by decide +kernel
theorem dX6_isSide_10 : decode cX6_isSide 10 = .ok (.invokestatic 89, 3) := by decide +kernel
theorem dX6_isSide_13 : decode cX6_isSide 13 = .ok (.ireturn, 1) := by decide +kernel
def fX6_isSide_0 (x1 : Int32) (s : SS) : Option (Int32 × SS) := ((fX6_in x1.toInt64 (0 : Int64) (((s.1 0 9) - (1 : Int32)).toInt64) s).bind fun z1 => some (nbZ z1.1, s))
def fX6_isSide (x1 : Int32) (s : SS) : Option (Int32 × SS) := fX6_isSide_0 x1 s
set_option maxRecDepth 100000 in
set_option maxHeartbeats 4000000 in
theorem okX6_isSide_0 {G : GG} {pl : Nat → Nat} {h0 : PH} (x1 : Int32) (s : SS) : EvF G 1 mX6_isSide lyR pl h0 rvI (fX6_isSide_0 x1 s) 0 [(0, .ref (pl 0)), (1, .int x1)] [] s := by
  unfold fX6_isSide_0
  refine ef_iload_n (q := 1) 1 dX6_isSide_0 rfl rfl rfl ?_
  refine ef_i2l (v := x1.toInt64) (q := 2) dX6_isSide_1 rfl rfl ?_
  refine ef_lconst (v := (0 : Int64)) (q := 3) dX6_isSide_2 (by decide) rfl ?_
  refine ef_aload_n (q := 4) 0 dX6_isSide_3 rfl rfl rfl ?_
  refine ef_getI (x := s.1 0 9) (q := 7) rfl fl6_37 rfl rfl dX6_isSide_4 rfl ?_
  refine ef_iconst (v := (1 : Int32)) (q := 8) dX6_isSide_7 (by decide) rfl ?_
  refine ef_isub (q := 9) dX6_isSide_8 rfl ?_
  refine ef_i2l (v := ((s.1 0 9) - (1 : Int32)).toInt64) (q := 10) dX6_isSide_9 rfl rfl ?_
  refine ef_invPI0 (As := [.long x1.toInt64, .long (0 : Int64), .long (((s.1 0 9) - (1 : Int32)).toInt64)]) (rest := []) (q := 13) (okX6_in x1.toInt64 (0 : Int64) (((s.1 0 9) - (1 : Int32)).toInt64)) rfl calX6_in ml6_89 (by decide) rfl rfl (Nat.le_of_ble_eq_true rfl) dX6_isSide_10 rfl (fun z1 => ?_)
  exact ef_zret rfl dX6_isSide_13
theorem okX6_isSide (x1 : Int32) : MtF 1 mX6_isSide lyR rvI (fun _ pl => [.ref (pl 0), .int x1]) (fX6_isSide x1) := by
  refine MtF.of (by decide +kernel) rfl (fun _ pl => Nat.le_of_ble_eq_true rfl) (fun G pl h0 s => ?_)
  refine ef_sub (lv := [(0, .ref (pl 0)), (1, .int x1)]) (lv' := [(0, .ref (pl 0)), (1, .int x1)]) [0, 1] rfl ?_
  exact okX6_isSide_0  x1 s
-- X6_row
theorem dX6_row_0 : decode cX6_row 0 = .ok (.iload_n 1, 1) := by decide +kernel
theorem dX6_row_1 : decode cX6_row 1 = .ok (.i2l, 1) := by decide +kernel
theorem dX6_row_2 : decode cX6_row 2 = .ok (.lconst 0, 1) := by decide +kernel
theorem dX6_row_3 : decode cX6_row 3 = .ok (.ldc2_w 96, 3) := by decide +kernel
theorem dX6_row_6 : decode cX6_row 6 = .ok (.invokestatic 89, 3) := by decide +kernel
theorem dX6_row_9 : decode cX6_row 9 = .ok (.ifCond .eq 27, 3) := by decide +kernel
theorem dX6_row_12 : decode cX6_row 12 = .ok (.iload_n 2, 1) := by decide +kernel
theorem dX6_row_13 : decode cX6_row 13 = .ok (.i2l, 1) := by decide +kernel
theorem dX6_row_14 : decode cX6_row 14 = .ok (.lconst 0, 1) := by decide +kernel
theorem dX6_row_15 : decode cX6_row 15 = .ok (.ldc2_w 98, 3) := by decide +kernel
theorem dX6_row_18 : decode cX6_row 18 = .ok (.invokestatic 89, 3) := by decide +kernel
theorem dX6_row_21 : decode cX6_row 21 = .ok (.ifCond .eq 15, 3) := by decide +kernel
theorem dX6_row_24 : decode cX6_row 24 = .ok (.iload_n 3, 1) := by decide +kernel
theorem dX6_row_25 : decode cX6_row 25 = .ok (.i2l, 1) := by decide +kernel
theorem dX6_row_26 : decode cX6_row 26 = .ok (.lconst 0, 1) := by decide +kernel
theorem dX6_row_27 : decode cX6_row 27 = .ok (.ldc2_w 100, 3) := by decide +kernel
theorem dX6_row_30 : decode cX6_row 30 = .ok (.invokestatic 89, 3) := by decide +kernel
theorem dX6_row_33 : decode cX6_row 33 = .ok (.ifCond .ne 10, 3) := by decide +kernel
theorem dX6_row_36 : decode cX6_row 36 = .ok (.aload_n 0, 1) := by decide +kernel
theorem dX6_row_37 : decode cX6_row 37 = .ok (.bipush (-2), 2) := by decide +kernel
theorem dX6_row_39 : decode cX6_row 39 = .ok (.invokevirtual 102, 3) := by decide +kernel
theorem dX6_row_42 : decode cX6_row 42 = .ok (.ireturn, 1) := by decide +kernel
theorem dX6_row_43 : decode cX6_row 43 = .ok (.aload_n 0, 1) := by decide +kernel
theorem dX6_row_44 : decode cX6_row 44 = .ok (.getfield 7, 3) := by decide +kernel
theorem dX6_row_47 : decode cX6_row 47 = .ok (.iload_n 1, 1) := by decide +kernel
theorem dX6_row_48 : decode cX6_row 48 = .ok (.iconst 1, 1) := by decide +kernel
theorem dX6_row_49 : decode cX6_row 49 = .ok (.iastore, 1) := by decide +kernel
theorem dX6_row_50 : decode cX6_row 50 = .ok (.aload_n 0, 1) := by decide +kernel
theorem dX6_row_51 : decode cX6_row 51 = .ok (.getfield 13, 3) := by decide +kernel
theorem dX6_row_54 : decode cX6_row 54 = .ok (.iload_n 1, 1) := by decide +kernel
theorem dX6_row_55 : decode cX6_row 55 = .ok (.iload_n 2, 1) := by decide +kernel
theorem dX6_row_56 : decode cX6_row 56 = .ok (.iastore, 1) := by decide +kernel
theorem dX6_row_57 : decode cX6_row 57 = .ok (.aload_n 0, 1) := by decide +kernel
theorem dX6_row_58 : decode cX6_row 58 = .ok (.getfield 16, 3) := by decide +kernel
theorem dX6_row_61 : decode cX6_row 61 = .ok (.iload_n 1, 1) := by decide +kernel
theorem dX6_row_62 : decode cX6_row 62 = .ok (.iload_n 3, 1) := by decide +kernel
theorem dX6_row_63 : decode cX6_row 63 = .ok (.iastore, 1) := by decide +kernel
theorem dX6_row_64 : decode cX6_row 64 = .ok (.iconst 0, 1) := by decide +kernel
theorem dX6_row_65 : decode cX6_row 65 = .ok (.istore 4, 2) := by decide +kernel
theorem dX6_row_67 : decode cX6_row 67 = .ok (.iload 4, 2) := by decide +kernel
theorem dX6_row_69 : decode cX6_row 69 = .ok (.bipush 40, 2) := by decide +kernel
theorem dX6_row_71 : decode cX6_row 71 = .ok (.if_icmp .ge 19, 3) := by decide +kernel
theorem dX6_row_74 : decode cX6_row 74 = .ok (.aload_n 0, 1) := by decide +kernel
theorem dX6_row_75 : decode cX6_row 75 = .ok (.getfield 21, 3) := by decide +kernel
theorem dX6_row_78 : decode cX6_row 78 = .ok (.iload_n 1, 1) := by decide +kernel
theorem dX6_row_79 : decode cX6_row 79 = .ok (.aaload, 1) := by decide +kernel
theorem dX6_row_80 : decode cX6_row 80 = .ok (.iload 4, 2) := by decide +kernel
theorem dX6_row_82 : decode cX6_row 82 = .ok (.lconst 0, 1) := by decide +kernel
theorem dX6_row_83 : decode cX6_row 83 = .ok (.lastore, 1) := by decide +kernel
theorem dX6_row_84 : decode cX6_row 84 = .ok (.iinc 4 1, 3) := by decide +kernel
theorem dX6_row_87 : decode cX6_row 87 = .ok (.goto (-20), 3) := by decide +kernel
theorem dX6_row_90 : decode cX6_row 90 = .ok (.iconst 1, 1) := by decide +kernel
theorem dX6_row_91 : decode cX6_row 91 = .ok (.ireturn, 1) := by decide +kernel
def fX6_row_36 (s : SS) : Option (Int32 × SS) := ((fX6_refuse (-2 : Int32) s).bind fun z1 => some (z1.1, z1.2))
def fX6_row_67 : Nat → Int32 → Int32 → SS → Option (Int32 × SS)
  | 0, _, _, _ => none
  | n + 1, x1, x4, s => if (40 : Int32) ≤ x4 then (some ((1 : Int32), s)) else (if ixB x1 8 then (if ixB x4 40 then (fX6_row_67 n x1 (x4 + (1 : Int32)) (wrL s (5 + x1.toNatClampNeg) x4.toNatClampNeg (0 : Int64))) else none) else none)
def fX6_row_0 (x1 : Int32) (x2 : Int32) (x3 : Int32) (s : SS) : Option (Int32 × SS) := ((fX6_in x1.toInt64 (0 : Int64) (7 : Int64) s).bind fun z1 => if z1.1 = 0 then (fX6_row_36 s) else (((fX6_in x2.toInt64 (0 : Int64) (4 : Int64) s).bind fun z3 => if z3.1 = 0 then (fX6_row_36 s) else (((fX6_in x3.toInt64 (0 : Int64) (40 : Int64) s).bind fun z5 => if z5.1 = 0 then (fX6_row_36 s) else (if ixB x1 8 then (if ixB x1 8 then (if ixB x1 8 then (fX6_row_67 FU x1 (0 : Int32) (wrI (wrI (wrI s 1 x1.toNatClampNeg (1 : Int32)) 2 x1.toNatClampNeg x2) 3 x1.toNatClampNeg x3)) else none) else none) else none))))))
def fX6_row (x1 : Int32) (x2 : Int32) (x3 : Int32) (s : SS) : Option (Int32 × SS) := fX6_row_0 x1 x2 x3 s
set_option maxRecDepth 100000 in
set_option maxHeartbeats 4000000 in
theorem okX6_row_36 {G : GG} {pl : Nat → Nat} {h0 : PH} (s : SS) : EvF G 1 mX6_row lyR pl h0 rvI (fX6_row_36 s) 36 [(0, .ref (pl 0))] [] s := by
  unfold fX6_row_36
  refine ef_aload_n (q := 37) 0 dX6_row_36 rfl rfl rfl ?_
  refine ef_bipush (v := (-2 : Int32)) (q := 39) dX6_row_37 (by decide) rfl ?_
  refine ef_invVI0 (k := 0) (As := [.int (-2 : Int32)]) (rest := []) (q := 42) (okX6_refuse (-2 : Int32)) rfl calX6_refuse ml6_102 (by decide) rfl rfl rfl (Nat.le_of_ble_eq_true rfl) dX6_row_39 rfl (fun z1 => ?_)
  exact ef_iret rfl dX6_row_42
set_option maxRecDepth 100000 in
set_option maxHeartbeats 4000000 in
theorem okX6_row_67 {G : GG} {pl : Nat → Nat} {h0 : PH} : ∀ (n : Nat) (x1 : Int32) (x4 : Int32) (s : SS), EvF G 1 mX6_row lyR pl h0 rvI (fX6_row_67 n x1 x4 s) 67 [(0, .ref (pl 0)), (1, .int x1), (4, .int x4)] [] s := by
  intro n
  induction n with
  | zero => intro x1 x4 s; rw [fX6_row_67]; exact ef_none
  | succ n ih =>
    intro x1 x4 s
    rw [fX6_row_67]
    refine ef_iload (q := 69) 2 dX6_row_67 rfl rfl ?_
    refine ef_bipush (v := (40 : Int32)) (q := 71) dX6_row_69 (by decide) rfl ?_
    refine ef_if (pt := 90) (pf := 74) (fun _ _ => ev_icmp_ge (tgt := 90) dX6_row_71 (by decide)) (fun h1 => ?_) (fun h1 => ?_)
    · refine ef_iconst (v := (1 : Int32)) (q := 91) dX6_row_90 (by decide) rfl ?_
      exact ef_iret rfl dX6_row_91
    · refine ef_aload_n (q := 75) 0 dX6_row_74 rfl rfl rfl ?_
      refine ef_getR (t := 4) (q := 78) rfl fl6_21 rfl rfl dX6_row_75 rfl ?_
      refine ef_iload_n (q := 79) 1 dX6_row_78 rfl rfl rfl ?_
      refine ef_guard (fun g2 => ?_)
      refine ef_aaload (t0 := 5 + x1.toNatClampNeg) (q := 80) rfl (by decide) lyR_t4 g2 dX6_row_79 rfl rfl ?_
      refine ef_iload (q := 82) 2 dX6_row_80 rfl rfl ?_
      refine ef_lconst (v := (0 : Int64)) (q := 83) dX6_row_82 (by decide) rfl ?_
      refine ef_guard (fun g3 => ?_)
      refine ef_lastore (j := x4.toNatClampNeg) (q := 84) (lyR_f4_0 _ (ixB_lt g2)) g3 dX6_row_83 rfl rfl ?_
      refine ef_iinc (v := x4 + (1 : Int32)) (lv' := [(4, .int (x4 + (1 : Int32))), (0, .ref (pl 0)), (1, .int x1)]) (q := 87) 2 dX6_row_84 rfl rfl (by decide) rfl rfl ?_
      refine ef_goto (tgt := 67) dX6_row_87 (by decide) ?_
      refine ef_sub (lv' := [(0, .ref (pl 0)), (1, .int x1), (4, .int (x4 + (1 : Int32)))]) [1, 2, 0] rfl ?_
      exact ih x1 (x4 + (1 : Int32)) (wrL s (5 + x1.toNatClampNeg) x4.toNatClampNeg (0 : Int64))
set_option maxRecDepth 100000 in
set_option maxHeartbeats 4000000 in
theorem okX6_row_0 {G : GG} {pl : Nat → Nat} {h0 : PH} (x1 : Int32) (x2 : Int32) (x3 : Int32) (s : SS) : EvF G 1 mX6_row lyR pl h0 rvI (fX6_row_0 x1 x2 x3 s) 0 [(0, .ref (pl 0)), (1, .int x1), (2, .int x2), (3, .int x3)] [] s := by
  unfold fX6_row_0
  refine ef_iload_n (q := 1) 1 dX6_row_0 rfl rfl rfl ?_
  refine ef_i2l (v := x1.toInt64) (q := 2) dX6_row_1 rfl rfl ?_
  refine ef_lconst (v := (0 : Int64)) (q := 3) dX6_row_2 (by decide) rfl ?_
  refine ef_ldc2 (v := (7 : Int64)) (q := 6) k6_96 dX6_row_3 rfl ?_
  refine ef_invPI0 (As := [.long x1.toInt64, .long (0 : Int64), .long (7 : Int64)]) (rest := []) (q := 9) (okX6_in x1.toInt64 (0 : Int64) (7 : Int64)) rfl calX6_in ml6_89 (by decide) rfl rfl (Nat.le_of_ble_eq_true rfl) dX6_row_6 rfl (fun z1 => ?_)
  refine ef_if (pt := 36) (pf := 12) (fun _ _ => ev_if_eq (tgt := 36) dX6_row_9 (by decide)) (fun h2 => ?_) (fun h2 => ?_)
  · refine ef_sub (lv' := [(0, .ref (pl 0))]) [0] rfl ?_
    exact okX6_row_36 s
  · refine ef_iload_n (q := 13) 2 dX6_row_12 rfl rfl rfl ?_
    refine ef_i2l (v := x2.toInt64) (q := 14) dX6_row_13 rfl rfl ?_
    refine ef_lconst (v := (0 : Int64)) (q := 15) dX6_row_14 (by decide) rfl ?_
    refine ef_ldc2 (v := (4 : Int64)) (q := 18) k6_98 dX6_row_15 rfl ?_
    refine ef_invPI0 (As := [.long x2.toInt64, .long (0 : Int64), .long (4 : Int64)]) (rest := []) (q := 21) (okX6_in x2.toInt64 (0 : Int64) (4 : Int64)) rfl calX6_in ml6_89 (by decide) rfl rfl (Nat.le_of_ble_eq_true rfl) dX6_row_18 rfl (fun z3 => ?_)
    refine ef_if (pt := 36) (pf := 24) (fun _ _ => ev_if_eq (tgt := 36) dX6_row_21 (by decide)) (fun h4 => ?_) (fun h4 => ?_)
    · refine ef_sub (lv' := [(0, .ref (pl 0))]) [0] rfl ?_
      exact okX6_row_36 s
    · refine ef_iload_n (q := 25) 3 dX6_row_24 rfl rfl rfl ?_
      refine ef_i2l (v := x3.toInt64) (q := 26) dX6_row_25 rfl rfl ?_
      refine ef_lconst (v := (0 : Int64)) (q := 27) dX6_row_26 (by decide) rfl ?_
      refine ef_ldc2 (v := (40 : Int64)) (q := 30) k6_100 dX6_row_27 rfl ?_
      refine ef_invPI0 (As := [.long x3.toInt64, .long (0 : Int64), .long (40 : Int64)]) (rest := []) (q := 33) (okX6_in x3.toInt64 (0 : Int64) (40 : Int64)) rfl calX6_in ml6_89 (by decide) rfl rfl (Nat.le_of_ble_eq_true rfl) dX6_row_30 rfl (fun z5 => ?_)
      refine ef_if (pt := 36) (pf := 43) (fun _ _ kt kf => ev_if_ne (tgt := 43) dX6_row_33 (by decide) kf kt) (fun h6 => ?_) (fun h6 => ?_)
      · refine ef_sub (lv' := [(0, .ref (pl 0))]) [0] rfl ?_
        exact okX6_row_36 s
      · refine ef_aload_n (q := 44) 0 dX6_row_43 rfl rfl rfl ?_
        refine ef_getR (t := 1) (q := 47) rfl fl6_7 rfl rfl dX6_row_44 rfl ?_
        refine ef_iload_n (q := 48) 1 dX6_row_47 rfl rfl rfl ?_
        refine ef_iconst (v := (1 : Int32)) (q := 49) dX6_row_48 (by decide) rfl ?_
        refine ef_guard (fun g7 => ?_)
        refine ef_iastore (j := x1.toNatClampNeg) (q := 50) rfl g7 dX6_row_49 rfl rfl ?_
        refine ef_aload_n (q := 51) 0 dX6_row_50 rfl rfl rfl ?_
        refine ef_getR (t := 2) (q := 54) rfl fl6_13 rfl rfl dX6_row_51 rfl ?_
        refine ef_iload_n (q := 55) 1 dX6_row_54 rfl rfl rfl ?_
        refine ef_iload_n (q := 56) 2 dX6_row_55 rfl rfl rfl ?_
        refine ef_guard (fun g8 => ?_)
        refine ef_iastore (j := x1.toNatClampNeg) (q := 57) rfl g8 dX6_row_56 rfl rfl ?_
        refine ef_aload_n (q := 58) 0 dX6_row_57 rfl rfl rfl ?_
        refine ef_getR (t := 3) (q := 61) rfl fl6_16 rfl rfl dX6_row_58 rfl ?_
        refine ef_iload_n (q := 62) 1 dX6_row_61 rfl rfl rfl ?_
        refine ef_iload_n (q := 63) 3 dX6_row_62 rfl rfl rfl ?_
        refine ef_guard (fun g9 => ?_)
        refine ef_iastore (j := x1.toNatClampNeg) (q := 64) rfl g9 dX6_row_63 rfl rfl ?_
        refine ef_iconst (v := (0 : Int32)) (q := 65) dX6_row_64 (by decide) rfl ?_
        refine ef_istore (lv' := [(4, .int (0 : Int32)), (0, .ref (pl 0)), (1, .int x1), (2, .int x2), (3, .int x3)]) (q := 67) dX6_row_65 (by decide) rfl rfl ?_
        refine ef_sub (lv' := [(0, .ref (pl 0)), (1, .int x1), (4, .int (0 : Int32))]) [1, 2, 0] rfl ?_
        exact okX6_row_67 FU x1 (0 : Int32) (wrI (wrI (wrI s 1 x1.toNatClampNeg (1 : Int32)) 2 x1.toNatClampNeg x2) 3 x1.toNatClampNeg x3)
theorem okX6_row (x1 : Int32) (x2 : Int32) (x3 : Int32) : MtF 1 mX6_row lyR rvI (fun _ pl => [.ref (pl 0), .int x1, .int x2, .int x3]) (fX6_row x1 x2 x3) := by
  refine MtF.of (by decide +kernel) rfl (fun _ pl => Nat.le_of_ble_eq_true rfl) (fun G pl h0 s => ?_)
  refine ef_sub (lv := [(0, .ref (pl 0)), (1, .int x1), (2, .int x2), (3, .int x3)]) (lv' := [(0, .ref (pl 0)), (1, .int x1), (2, .int x2), (3, .int x3)]) [0, 1, 2, 3] rfl ?_
  exact okX6_row_0  x1 x2 x3 s
-- X6_fit
theorem dX6_fit_0 : decode cX6_fit 0 = .ok (.iload_n 0, 1) := by decide +kernel
theorem dX6_fit_1 : decode cX6_fit 1 = .ok (.tableswitch 47 0 3 #[31, 36, 41, 45], 31) := by decide +kernel
theorem dX6_fit_32 : decode cX6_fit 32 = .ok (.lload_n 1, 1) := by decide +kernel
theorem dX6_fit_33 : decode cX6_fit 33 = .ok (.l2i, 1) := by decide +kernel
theorem dX6_fit_34 : decode cX6_fit 34 = .ok (.i2b, 1) := by decide +kernel
theorem dX6_fit_35 : decode cX6_fit 35 = .ok (.i2l, 1) := by decide +kernel
theorem dX6_fit_36 : decode cX6_fit 36 = .ok (.lreturn, 1) := by decide +kernel
theorem dX6_fit_37 : decode cX6_fit 37 = .ok (.lload_n 1, 1) := by decide +kernel
theorem dX6_fit_38 : decode cX6_fit 38 = .ok (.l2i, 1) := by decide +kernel
theorem dX6_fit_39 : decode cX6_fit 39 = .ok (.i2s, 1) := by decide +kernel
theorem dX6_fit_40 : decode cX6_fit 40 = .ok (.i2l, 1) := by decide +kernel
theorem dX6_fit_41 : decode cX6_fit 41 = .ok (.lreturn, 1) := by decide +kernel
theorem dX6_fit_42 : decode cX6_fit 42 = .ok (.lload_n 1, 1) := by decide +kernel
theorem dX6_fit_43 : decode cX6_fit 43 = .ok (.l2i, 1) := by decide +kernel
theorem dX6_fit_44 : decode cX6_fit 44 = .ok (.i2l, 1) := by decide +kernel
theorem dX6_fit_45 : decode cX6_fit 45 = .ok (.lreturn, 1) := by decide +kernel
theorem dX6_fit_46 : decode cX6_fit 46 = .ok (.lload_n 1, 1) := by decide +kernel
theorem dX6_fit_47 : decode cX6_fit 47 = .ok (.lreturn, 1) := by decide +kernel
theorem dX6_fit_48 : decode cX6_fit 48 = .ok (.lload_n 1, 1) := by decide +kernel
theorem dX6_fit_49 : decode cX6_fit 49 = .ok (.lconst 0, 1) := by decide +kernel
theorem dX6_fit_50 : decode cX6_fit 50 = .ok (.lcmp, 1) := by decide +kernel
theorem dX6_fit_51 : decode cX6_fit 51 = .ok (.ifCond .eq 7, 3) := by decide +kernel
theorem dX6_fit_54 : decode cX6_fit 54 = .ok (.lconst 1, 1) := by decide +kernel
theorem dX6_fit_55 : decode cX6_fit 55 = .ok (.goto 4, 3) := by decide +kernel
theorem dX6_fit_58 : decode cX6_fit 58 = .ok (.lconst 0, 1) := by decide +kernel
theorem dX6_fit_59 : decode cX6_fit 59 = .ok (.lreturn, 1) := by decide +kernel
def fX6_fit_0 (x0 : Int32) (x1 : Int64) (s : SS) : Option (Int64 × SS) := if x0 = (0 : Int32) then (some (x1.toInt32.toInt8.toInt32.toInt64, s)) else (if x0 = (1 : Int32) then (some (x1.toInt32.toInt16.toInt32.toInt64, s)) else (if x0 = (2 : Int32) then (some (x1.toInt32.toInt64, s)) else (if x0 = (3 : Int32) then (some (x1, s)) else (if (lg_cmp x1 (0 : Int64)) = 0 then (some ((0 : Int64), s)) else (some ((1 : Int64), s))))))
def fX6_fit (x0 : Int32) (x1 : Int64) (s : SS) : Option (Int64 × SS) := fX6_fit_0 x0 x1 s
set_option maxRecDepth 100000 in
set_option maxHeartbeats 4000000 in
theorem okX6_fit_0 {G : GG} {pl : Nat → Nat} {h0 : PH} (x0 : Int32) (x1 : Int64) (s : SS) : EvF G 0 mX6_fit ly pl h0 rvL (fX6_fit_0 x0 x1 s) 0 [(0, .int x0), (1, .long x1)] [] s := by
  unfold fX6_fit_0
  refine ef_iload_n (q := 1) 0 dX6_fit_0 rfl rfl rfl ?_
  refine ef_dec (fun h1 => ?_) (fun h1 => ?_)
  · refine ef_of (fun _ _ => ev_tableIn (tgt := 32) dX6_fit_1 (by rw [h1]; decide) (by rw [h1]; decide) (off := 31) (by rw [h1]; rfl) (by decide)) ?_
    refine ef_lload_n (q := 33) 1 dX6_fit_32 rfl rfl rfl ?_
    refine ef_l2i (v := x1.toInt32) (q := 34) dX6_fit_33 rfl rfl ?_
    refine ef_i2b (v := x1.toInt32.toInt8.toInt32) (q := 35) dX6_fit_34 rfl rfl ?_
    refine ef_i2l (v := x1.toInt32.toInt8.toInt32.toInt64) (q := 36) dX6_fit_35 rfl rfl ?_
    exact ef_lret rfl dX6_fit_36
  refine ef_dec (fun h2 => ?_) (fun h2 => ?_)
  · refine ef_of (fun _ _ => ev_tableIn (tgt := 37) dX6_fit_1 (by rw [h2]; decide) (by rw [h2]; decide) (off := 36) (by rw [h2]; rfl) (by decide)) ?_
    refine ef_lload_n (q := 38) 1 dX6_fit_37 rfl rfl rfl ?_
    refine ef_l2i (v := x1.toInt32) (q := 39) dX6_fit_38 rfl rfl ?_
    refine ef_i2s (v := x1.toInt32.toInt16.toInt32) (q := 40) dX6_fit_39 rfl rfl ?_
    refine ef_i2l (v := x1.toInt32.toInt16.toInt32.toInt64) (q := 41) dX6_fit_40 rfl rfl ?_
    exact ef_lret rfl dX6_fit_41
  refine ef_dec (fun h3 => ?_) (fun h3 => ?_)
  · refine ef_of (fun _ _ => ev_tableIn (tgt := 42) dX6_fit_1 (by rw [h3]; decide) (by rw [h3]; decide) (off := 41) (by rw [h3]; rfl) (by decide)) ?_
    refine ef_lload_n (q := 43) 1 dX6_fit_42 rfl rfl rfl ?_
    refine ef_l2i (v := x1.toInt32) (q := 44) dX6_fit_43 rfl rfl ?_
    refine ef_i2l (v := x1.toInt32.toInt64) (q := 45) dX6_fit_44 rfl rfl ?_
    exact ef_lret rfl dX6_fit_45
  refine ef_dec (fun h4 => ?_) (fun h4 => ?_)
  · refine ef_of (fun _ _ => ev_tableIn (tgt := 46) dX6_fit_1 (by rw [h4]; decide) (by rw [h4]; decide) (off := 45) (by rw [h4]; rfl) (by decide)) ?_
    refine ef_lload_n (q := 47) 1 dX6_fit_46 rfl rfl rfl ?_
    exact ef_lret rfl dX6_fit_47
  have hsw : (x0 : Int32).toInt < 0 ∨ 3 < (x0 : Int32).toInt := by
    have th1 := ne_toI (k := 0) h1 (by decide)
    have th2 := ne_toI (k := 1) h2 (by decide)
    have th3 := ne_toI (k := 2) h3 (by decide)
    have th4 := ne_toI (k := 3) h4 (by decide)
    omega
  refine ef_of (fun _ _ => ev_tableOut (tgt := 48) dX6_fit_1 hsw (by decide)) ?_
  refine ef_lload_n (q := 49) 1 dX6_fit_48 rfl rfl rfl ?_
  refine ef_lconst (v := (0 : Int64)) (q := 50) dX6_fit_49 (by decide) rfl ?_
  refine ef_lcmp (q := 51) dX6_fit_50 rfl ?_
  refine ef_if (pt := 58) (pf := 54) (fun _ _ => ev_if_eq (tgt := 58) dX6_fit_51 (by decide)) (fun h5 => ?_) (fun h5 => ?_)
  · refine ef_lconst (v := (0 : Int64)) (q := 59) dX6_fit_58 (by decide) rfl ?_
    exact ef_lret rfl dX6_fit_59
  · refine ef_lconst (v := (1 : Int64)) (q := 55) dX6_fit_54 (by decide) rfl ?_
    refine ef_goto (tgt := 59) dX6_fit_55 (by decide) ?_
    exact ef_lret rfl dX6_fit_59
theorem okX6_fit (x0 : Int32) (x1 : Int64) : MtF 0 mX6_fit ly rvL (fun _ pl => [.int x0, .long x1]) (fX6_fit x0 x1) := by
  refine MtF.of (by decide +kernel) rfl (fun _ pl => Nat.le_of_ble_eq_true rfl) (fun G pl h0 s => ?_)
  refine ef_sub (lv := [(0, .int x0), (1, .long x1)]) (lv' := [(0, .int x0), (1, .long x1)]) [0, 1] rfl ?_
  exact okX6_fit_0  x0 x1 s
-- X6_noRow
theorem dX6_noRow_0 : decode cX6_noRow 0 = .ok (.iload_n 1, 1) := by decide +kernel
theorem dX6_noRow_1 : decode cX6_noRow 1 = .ok (.i2l, 1) := by decide +kernel
theorem dX6_noRow_2 : decode cX6_noRow 2 = .ok (.lconst 0, 1) := by decide +kernel
theorem dX6_noRow_3 : decode cX6_noRow 3 = .ok (.ldc2_w 96, 3) := by decide +kernel
theorem dX6_noRow_6 : decode cX6_noRow 6 = .ok (.invokestatic 89, 3) := by decide +kernel
theorem dX6_noRow_9 : decode cX6_noRow 9 = .ok (.ifCond .ne 10, 3) := by decide +kernel
theorem dX6_noRow_12 : decode cX6_noRow 12 = .ok (.aload_n 0, 1) := by decide +kernel
theorem dX6_noRow_13 : decode cX6_noRow 13 = .ok (.bipush (-2), 2) := by decide +kernel
theorem dX6_noRow_15 : decode cX6_noRow 15 = .ok (.invokevirtual 102, 3) := by decide +kernel
theorem dX6_noRow_18 : decode cX6_noRow 18 = .ok (.ireturn, 1) := by decide +kernel
theorem dX6_noRow_19 : decode cX6_noRow 19 = .ok (.aload_n 0, 1) := by decide +kernel
theorem dX6_noRow_20 : decode cX6_noRow 20 = .ok (.getfield 7, 3) := by decide +kernel
theorem dX6_noRow_23 : decode cX6_noRow 23 = .ok (.iload_n 1, 1) := by decide +kernel
theorem dX6_noRow_24 : decode cX6_noRow 24 = .ok (.iaload, 1) := by decide +kernel
theorem dX6_noRow_25 : decode cX6_noRow 25 = .ok (.iconst 2, 1) := by decide +kernel
theorem dX6_noRow_26 : decode cX6_noRow 26 = .ok (.if_icmp .ne 10, 3) := by decide +kernel
theorem dX6_noRow_29 : decode cX6_noRow 29 = .ok (.aload_n 0, 1) := by decide +kernel
theorem dX6_noRow_30 : decode cX6_noRow 30 = .ok (.bipush (-3), 2) := by decide +kernel
theorem dX6_noRow_32 : decode cX6_noRow 32 = .ok (.invokevirtual 102, 3) := by decide +kernel
theorem dX6_noRow_35 : decode cX6_noRow 35 = .ok (.ireturn, 1) := by decide +kernel
theorem dX6_noRow_36 : decode cX6_noRow 36 = .ok (.aload_n 0, 1) := by decide +kernel
theorem dX6_noRow_37 : decode cX6_noRow 37 = .ok (.getfield 7, 3) := by decide +kernel
theorem dX6_noRow_40 : decode cX6_noRow 40 = .ok (.iload_n 1, 1) := by decide +kernel
theorem dX6_noRow_41 : decode cX6_noRow 41 = .ok (.iaload, 1) := by decide +kernel
theorem dX6_noRow_42 : decode cX6_noRow 42 = .ok (.ifCond .ne 12, 3) := by decide +kernel
theorem dX6_noRow_45 : decode cX6_noRow 45 = .ok (.aload_n 0, 1) := by decide +kernel
theorem dX6_noRow_46 : decode cX6_noRow 46 = .ok (.bipush (-4), 2) := by decide +kernel
theorem dX6_noRow_48 : decode cX6_noRow 48 = .ok (.invokevirtual 102, 3) := by decide +kernel
theorem dX6_noRow_51 : decode cX6_noRow 51 = .ok (.goto 4, 3) := by decide +kernel
theorem dX6_noRow_54 : decode cX6_noRow 54 = .ok (.iconst 0, 1) := by decide +kernel
theorem dX6_noRow_55 : decode cX6_noRow 55 = .ok (.ireturn, 1) := by decide +kernel
def fX6_noRow_0 (x1 : Int32) (s : SS) : Option (Int32 × SS) := ((fX6_in x1.toInt64 (0 : Int64) (7 : Int64) s).bind fun z1 => if z1.1 = 0 then (((fX6_refuse (-2 : Int32) s).bind fun z3 => some (z3.1, z3.2))) else (if ixB x1 8 then (if (s.1 1 x1.toNatClampNeg) = (2 : Int32) then (((fX6_refuse (-3 : Int32) s).bind fun z6 => some (z6.1, z6.2))) else (if ixB x1 8 then (if (s.1 1 x1.toNatClampNeg) = 0 then (((fX6_refuse (-4 : Int32) s).bind fun z9 => some (z9.1, z9.2))) else (some ((0 : Int32), s))) else none)) else none))
def fX6_noRow (x1 : Int32) (s : SS) : Option (Int32 × SS) := fX6_noRow_0 x1 s
set_option maxRecDepth 100000 in
set_option maxHeartbeats 4000000 in
theorem okX6_noRow_0 {G : GG} {pl : Nat → Nat} {h0 : PH} (x1 : Int32) (s : SS) : EvF G 1 mX6_noRow lyR pl h0 rvI (fX6_noRow_0 x1 s) 0 [(0, .ref (pl 0)), (1, .int x1)] [] s := by
  unfold fX6_noRow_0
  refine ef_iload_n (q := 1) 1 dX6_noRow_0 rfl rfl rfl ?_
  refine ef_i2l (v := x1.toInt64) (q := 2) dX6_noRow_1 rfl rfl ?_
  refine ef_lconst (v := (0 : Int64)) (q := 3) dX6_noRow_2 (by decide) rfl ?_
  refine ef_ldc2 (v := (7 : Int64)) (q := 6) k6_96 dX6_noRow_3 rfl ?_
  refine ef_invPI0 (As := [.long x1.toInt64, .long (0 : Int64), .long (7 : Int64)]) (rest := []) (q := 9) (okX6_in x1.toInt64 (0 : Int64) (7 : Int64)) rfl calX6_in ml6_89 (by decide) rfl rfl (Nat.le_of_ble_eq_true rfl) dX6_noRow_6 rfl (fun z1 => ?_)
  refine ef_if (pt := 12) (pf := 19) (fun _ _ kt kf => ev_if_ne (tgt := 19) dX6_noRow_9 (by decide) kf kt) (fun h2 => ?_) (fun h2 => ?_)
  · refine ef_aload_n (q := 13) 0 dX6_noRow_12 rfl rfl rfl ?_
    refine ef_bipush (v := (-2 : Int32)) (q := 15) dX6_noRow_13 (by decide) rfl ?_
    refine ef_invVI0 (k := 0) (As := [.int (-2 : Int32)]) (rest := []) (q := 18) (okX6_refuse (-2 : Int32)) rfl calX6_refuse ml6_102 (by decide) rfl rfl rfl (Nat.le_of_ble_eq_true rfl) dX6_noRow_15 rfl (fun z3 => ?_)
    exact ef_iret rfl dX6_noRow_18
  · refine ef_aload_n (q := 20) 0 dX6_noRow_19 rfl rfl rfl ?_
    refine ef_getR (t := 1) (q := 23) rfl fl6_7 rfl rfl dX6_noRow_20 rfl ?_
    refine ef_iload_n (q := 24) 1 dX6_noRow_23 rfl rfl rfl ?_
    refine ef_guard (fun g4 => ?_)
    refine ef_iaload (x := s.1 1 x1.toNatClampNeg) (q := 25) rfl g4 dX6_noRow_24 rfl rfl ?_
    refine ef_iconst (v := (2 : Int32)) (q := 26) dX6_noRow_25 (by decide) rfl ?_
    refine ef_if (pt := 29) (pf := 36) (fun _ _ kt kf => ev_icmp_ne (tgt := 36) dX6_noRow_26 (by decide) kf kt) (fun h5 => ?_) (fun h5 => ?_)
    · refine ef_aload_n (q := 30) 0 dX6_noRow_29 rfl rfl rfl ?_
      refine ef_bipush (v := (-3 : Int32)) (q := 32) dX6_noRow_30 (by decide) rfl ?_
      refine ef_invVI0 (k := 0) (As := [.int (-3 : Int32)]) (rest := []) (q := 35) (okX6_refuse (-3 : Int32)) rfl calX6_refuse ml6_102 (by decide) rfl rfl rfl (Nat.le_of_ble_eq_true rfl) dX6_noRow_32 rfl (fun z6 => ?_)
      exact ef_iret rfl dX6_noRow_35
    · refine ef_aload_n (q := 37) 0 dX6_noRow_36 rfl rfl rfl ?_
      refine ef_getR (t := 1) (q := 40) rfl fl6_7 rfl rfl dX6_noRow_37 rfl ?_
      refine ef_iload_n (q := 41) 1 dX6_noRow_40 rfl rfl rfl ?_
      refine ef_guard (fun g7 => ?_)
      refine ef_iaload (x := s.1 1 x1.toNatClampNeg) (q := 42) rfl g7 dX6_noRow_41 rfl rfl ?_
      refine ef_if (pt := 45) (pf := 54) (fun _ _ kt kf => ev_if_ne (tgt := 54) dX6_noRow_42 (by decide) kf kt) (fun h8 => ?_) (fun h8 => ?_)
      · refine ef_aload_n (q := 46) 0 dX6_noRow_45 rfl rfl rfl ?_
        refine ef_bipush (v := (-4 : Int32)) (q := 48) dX6_noRow_46 (by decide) rfl ?_
        refine ef_invVI0 (k := 0) (As := [.int (-4 : Int32)]) (rest := []) (q := 51) (okX6_refuse (-4 : Int32)) rfl calX6_refuse ml6_102 (by decide) rfl rfl rfl (Nat.le_of_ble_eq_true rfl) dX6_noRow_48 rfl (fun z9 => ?_)
        refine ef_goto (tgt := 55) dX6_noRow_51 (by decide) ?_
        exact ef_iret rfl dX6_noRow_55
      · refine ef_iconst (v := (0 : Int32)) (q := 55) dX6_noRow_54 (by decide) rfl ?_
        exact ef_iret rfl dX6_noRow_55
theorem okX6_noRow (x1 : Int32) : MtF 1 mX6_noRow lyR rvI (fun _ pl => [.ref (pl 0), .int x1]) (fX6_noRow x1) := by
  refine MtF.of (by decide +kernel) rfl (fun _ pl => Nat.le_of_ble_eq_true rfl) (fun G pl h0 s => ?_)
  refine ef_sub (lv := [(0, .ref (pl 0)), (1, .int x1)]) (lv' := [(0, .ref (pl 0)), (1, .int x1)]) [0, 1] rfl ?_
  exact okX6_noRow_0  x1 s
-- X6_set
theorem dX6_set_0 : decode cX6_set 0 = .ok (.aload_n 0, 1) := by decide +kernel
theorem dX6_set_1 : decode cX6_set 1 = .ok (.iload_n 1, 1) := by decide +kernel
theorem dX6_set_2 : decode cX6_set 2 = .ok (.invokevirtual 106, 3) := by decide +kernel
theorem dX6_set_5 : decode cX6_set 5 = .ok (.istore 5, 2) := by decide +kernel
theorem dX6_set_7 : decode cX6_set 7 = .ok (.iload 5, 2) := by decide +kernel
theorem dX6_set_9 : decode cX6_set 9 = .ok (.ifCond .eq 6, 3) := by decide +kernel
theorem dX6_set_12 : decode cX6_set 12 = .ok (.iload 5, 2) := by decide +kernel
theorem dX6_set_14 : decode cX6_set 14 = .ok (.ireturn, 1) := by decide +kernel
theorem dX6_set_15 : decode cX6_set 15 = .ok (.iload_n 2, 1) := by decide +kernel
theorem dX6_set_16 : decode cX6_set 16 = .ok (.i2l, 1) := by decide +kernel
theorem dX6_set_17 : decode cX6_set 17 = .ok (.lconst 0, 1) := by decide +kernel
theorem dX6_set_18 : decode cX6_set 18 = .ok (.aload_n 0, 1) := by decide +kernel
theorem dX6_set_19 : decode cX6_set 19 = .ok (.getfield 16, 3) := by decide +kernel
theorem dX6_set_22 : decode cX6_set 22 = .ok (.iload_n 1, 1) := by decide +kernel
theorem dX6_set_23 : decode cX6_set 23 = .ok (.iaload, 1) := by decide +kernel
theorem dX6_set_24 : decode cX6_set 24 = .ok (.iconst 1, 1) := by decide +kernel
theorem dX6_set_25 : decode cX6_set 25 = .ok (.isub, 1) := by decide +kernel
theorem dX6_set_26 : decode cX6_set 26 = .ok (.i2l, 1) := by decide +kernel
theorem dX6_set_27 : decode cX6_set 27 = .ok (.invokestatic 89, 3) := by decide +kernel
theorem dX6_set_30 : decode cX6_set 30 = .ok (.ifCond .ne 10, 3) := by decide +kernel
theorem dX6_set_33 : decode cX6_set 33 = .ok (.aload_n 0, 1) := by decide +kernel
theorem dX6_set_34 : decode cX6_set 34 = .ok (.bipush (-2), 2) := by decide +kernel
theorem dX6_set_36 : decode cX6_set 36 = .ok (.invokevirtual 102, 3) := by decide +kernel
theorem dX6_set_39 : decode cX6_set 39 = .ok (.ireturn, 1) := by decide +kernel
theorem dX6_set_40 : decode cX6_set 40 = .ok (.aload_n 0, 1) := by decide +kernel
theorem dX6_set_41 : decode cX6_set 41 = .ok (.getfield 21, 3) := by decide +kernel
theorem dX6_set_44 : decode cX6_set 44 = .ok (.iload_n 1, 1) := by decide +kernel
theorem dX6_set_45 : decode cX6_set 45 = .ok (.aaload, 1) := by decide +kernel
theorem dX6_set_46 : decode cX6_set 46 = .ok (.iload_n 2, 1) := by decide +kernel
theorem dX6_set_47 : decode cX6_set 47 = .ok (.aload_n 0, 1) := by decide +kernel
theorem dX6_set_48 : decode cX6_set 48 = .ok (.getfield 13, 3) := by decide +kernel
theorem dX6_set_51 : decode cX6_set 51 = .ok (.iload_n 1, 1) := by decide +kernel
theorem dX6_set_52 : decode cX6_set 52 = .ok (.iaload, 1) := by decide +kernel
theorem dX6_set_53 : decode cX6_set 53 = .ok (.lload_n 3, 1) := by decide +kernel
theorem dX6_set_54 : decode cX6_set 54 = .ok (.invokestatic 109, 3) := by decide +kernel
theorem dX6_set_57 : decode cX6_set 57 = .ok (.lastore, 1) := by decide +kernel
theorem dX6_set_58 : decode cX6_set 58 = .ok (.iconst 1, 1) := by decide +kernel
theorem dX6_set_59 : decode cX6_set 59 = .ok (.ireturn, 1) := by decide +kernel
def fX6_set_0 (x1 : Int32) (x2 : Int32) (x3 : Int64) (s : SS) : Option (Int32 × SS) := ((fX6_noRow x1 s).bind fun z1 => if z1.1 = 0 then (if ixB x1 8 then (((fX6_in x2.toInt64 (0 : Int64) (((z1.2.1 3 x1.toNatClampNeg) - (1 : Int32)).toInt64) z1.2).bind fun z4 => if z4.1 = 0 then (((fX6_refuse (-2 : Int32) z1.2).bind fun z6 => some (z6.1, z6.2))) else (if ixB x1 8 then (if ixB x1 8 then (((fX6_fit (z1.2.1 2 x1.toNatClampNeg) x3 z1.2).bind fun z9 => if ixB x2 40 then (some ((1 : Int32), wrL z1.2 (5 + x1.toNatClampNeg) x2.toNatClampNeg z9.1)) else none)) else none) else none))) else none) else (some (z1.1, z1.2)))
def fX6_set (x1 : Int32) (x2 : Int32) (x3 : Int64) (s : SS) : Option (Int32 × SS) := fX6_set_0 x1 x2 x3 s
set_option maxRecDepth 100000 in
set_option maxHeartbeats 4000000 in
theorem okX6_set_0 {G : GG} {pl : Nat → Nat} {h0 : PH} (x1 : Int32) (x2 : Int32) (x3 : Int64) (s : SS) : EvF G 2 mX6_set lyR pl h0 rvI (fX6_set_0 x1 x2 x3 s) 0 [(0, .ref (pl 0)), (1, .int x1), (2, .int x2), (3, .long x3)] [] s := by
  unfold fX6_set_0
  refine ef_aload_n (q := 1) 0 dX6_set_0 rfl rfl rfl ?_
  refine ef_iload_n (q := 2) 1 dX6_set_1 rfl rfl rfl ?_
  refine ef_invVI0 (k := 0) (As := [.int x1]) (rest := []) (q := 5) (okX6_noRow x1) rfl calX6_noRow ml6_106 (by decide) rfl rfl rfl (Nat.le_of_ble_eq_true rfl) dX6_set_2 rfl (fun z1 => ?_)
  refine ef_istore (lv' := [(5, .int z1.1), (0, .ref (pl 0)), (1, .int x1), (2, .int x2), (3, .long x3)]) (q := 7) dX6_set_5 (by decide) rfl rfl ?_
  refine ef_iload (q := 9) 0 dX6_set_7 rfl rfl ?_
  refine ef_if (pt := 15) (pf := 12) (fun _ _ => ev_if_eq (tgt := 15) dX6_set_9 (by decide)) (fun h2 => ?_) (fun h2 => ?_)
  · refine ef_iload_n (q := 16) 3 dX6_set_15 rfl rfl rfl ?_
    refine ef_i2l (v := x2.toInt64) (q := 17) dX6_set_16 rfl rfl ?_
    refine ef_lconst (v := (0 : Int64)) (q := 18) dX6_set_17 (by decide) rfl ?_
    refine ef_aload_n (q := 19) 1 dX6_set_18 rfl rfl rfl ?_
    refine ef_getR (t := 3) (q := 22) rfl fl6_16 rfl rfl dX6_set_19 rfl ?_
    refine ef_iload_n (q := 23) 2 dX6_set_22 rfl rfl rfl ?_
    refine ef_guard (fun g3 => ?_)
    refine ef_iaload (x := z1.2.1 3 x1.toNatClampNeg) (q := 24) rfl g3 dX6_set_23 rfl rfl ?_
    refine ef_iconst (v := (1 : Int32)) (q := 25) dX6_set_24 (by decide) rfl ?_
    refine ef_isub (q := 26) dX6_set_25 rfl ?_
    refine ef_i2l (v := ((z1.2.1 3 x1.toNatClampNeg) - (1 : Int32)).toInt64) (q := 27) dX6_set_26 rfl rfl ?_
    refine ef_invPI0 (As := [.long x2.toInt64, .long (0 : Int64), .long (((z1.2.1 3 x1.toNatClampNeg) - (1 : Int32)).toInt64)]) (rest := []) (q := 30) (okX6_in x2.toInt64 (0 : Int64) (((z1.2.1 3 x1.toNatClampNeg) - (1 : Int32)).toInt64)) rfl calX6_in ml6_89 (by decide) rfl rfl (Nat.le_of_ble_eq_true rfl) dX6_set_27 rfl (fun z4 => ?_)
    refine ef_if (pt := 33) (pf := 40) (fun _ _ kt kf => ev_if_ne (tgt := 40) dX6_set_30 (by decide) kf kt) (fun h5 => ?_) (fun h5 => ?_)
    · refine ef_aload_n (q := 34) 1 dX6_set_33 rfl rfl rfl ?_
      refine ef_bipush (v := (-2 : Int32)) (q := 36) dX6_set_34 (by decide) rfl ?_
      refine ef_invVI0 (k := 0) (As := [.int (-2 : Int32)]) (rest := []) (q := 39) (okX6_refuse (-2 : Int32)) rfl calX6_refuse ml6_102 (by decide) rfl rfl rfl (Nat.le_of_ble_eq_true rfl) dX6_set_36 rfl (fun z6 => ?_)
      exact ef_iret rfl dX6_set_39
    · refine ef_aload_n (q := 41) 1 dX6_set_40 rfl rfl rfl ?_
      refine ef_getR (t := 4) (q := 44) rfl fl6_21 rfl rfl dX6_set_41 rfl ?_
      refine ef_iload_n (q := 45) 2 dX6_set_44 rfl rfl rfl ?_
      refine ef_guard (fun g7 => ?_)
      refine ef_aaload (t0 := 5 + x1.toNatClampNeg) (q := 46) rfl (by decide) lyR_t4 g7 dX6_set_45 rfl rfl ?_
      refine ef_iload_n (q := 47) 3 dX6_set_46 rfl rfl rfl ?_
      refine ef_aload_n (q := 48) 1 dX6_set_47 rfl rfl rfl ?_
      refine ef_getR (t := 2) (q := 51) rfl fl6_13 rfl rfl dX6_set_48 rfl ?_
      refine ef_iload_n (q := 52) 2 dX6_set_51 rfl rfl rfl ?_
      refine ef_guard (fun g8 => ?_)
      refine ef_iaload (x := z1.2.1 2 x1.toNatClampNeg) (q := 53) rfl g8 dX6_set_52 rfl rfl ?_
      refine ef_lload_n (q := 54) 4 dX6_set_53 rfl rfl rfl ?_
      refine ef_invPL0 (As := [.int (z1.2.1 2 x1.toNatClampNeg), .long x3]) (rest := [.int x2, .ref (pl (5 + x1.toNatClampNeg))]) (q := 57) (okX6_fit (z1.2.1 2 x1.toNatClampNeg) x3) rfl calX6_fit ml6_109 (by decide) rfl rfl (Nat.le_of_ble_eq_true rfl) dX6_set_54 rfl (fun z9 => ?_)
      refine ef_guard (fun g10 => ?_)
      refine ef_lastore (j := x2.toNatClampNeg) (q := 58) (lyR_f4_0 _ (ixB_lt g7)) g10 dX6_set_57 rfl rfl ?_
      refine ef_iconst (v := (1 : Int32)) (q := 59) dX6_set_58 (by decide) rfl ?_
      exact ef_iret rfl dX6_set_59
  · refine ef_iload (q := 14) 0 dX6_set_12 rfl rfl ?_
    exact ef_iret rfl dX6_set_14
theorem okX6_set (x1 : Int32) (x2 : Int32) (x3 : Int64) : MtF 2 mX6_set lyR rvI (fun _ pl => [.ref (pl 0), .int x1, .int x2, .long x3]) (fX6_set x1 x2 x3) := by
  refine MtF.of (by decide +kernel) rfl (fun _ pl => Nat.le_of_ble_eq_true rfl) (fun G pl h0 s => ?_)
  refine ef_sub (lv := [(0, .ref (pl 0)), (1, .int x1), (2, .int x2), (3, .long x3)]) (lv' := [(0, .ref (pl 0)), (1, .int x1), (2, .int x2), (3, .long x3)]) [0, 1, 2, 3] rfl ?_
  exact okX6_set_0  x1 x2 x3 s
-- X6_copy
theorem dX6_copy_0 : decode cX6_copy 0 = .ok (.iload_n 1, 1) := by decide +kernel
theorem dX6_copy_1 : decode cX6_copy 1 = .ok (.i2l, 1) := by decide +kernel
theorem dX6_copy_2 : decode cX6_copy 2 = .ok (.lconst 0, 1) := by decide +kernel
theorem dX6_copy_3 : decode cX6_copy 3 = .ok (.ldc2_w 96, 3) := by decide +kernel
theorem dX6_copy_6 : decode cX6_copy 6 = .ok (.invokestatic 89, 3) := by decide +kernel
theorem dX6_copy_9 : decode cX6_copy 9 = .ok (.ifCond .eq 15, 3) := by decide +kernel
theorem dX6_copy_12 : decode cX6_copy 12 = .ok (.iload_n 2, 1) := by decide +kernel
theorem dX6_copy_13 : decode cX6_copy 13 = .ok (.i2l, 1) := by decide +kernel
theorem dX6_copy_14 : decode cX6_copy 14 = .ok (.lconst 0, 1) := by decide +kernel
theorem dX6_copy_15 : decode cX6_copy 15 = .ok (.ldc2_w 96, 3) := by decide +kernel
theorem dX6_copy_18 : decode cX6_copy 18 = .ok (.invokestatic 89, 3) := by decide +kernel
theorem dX6_copy_21 : decode cX6_copy 21 = .ok (.ifCond .ne 10, 3) := by decide +kernel
theorem dX6_copy_24 : decode cX6_copy 24 = .ok (.aload_n 0, 1) := by decide +kernel
theorem dX6_copy_25 : decode cX6_copy 25 = .ok (.bipush (-2), 2) := by decide +kernel
theorem dX6_copy_27 : decode cX6_copy 27 = .ok (.invokevirtual 102, 3) := by decide +kernel
theorem dX6_copy_30 : decode cX6_copy 30 = .ok (.ireturn, 1) := by decide +kernel
theorem dX6_copy_31 : decode cX6_copy 31 = .ok (.aload_n 0, 1) := by decide +kernel
theorem dX6_copy_32 : decode cX6_copy 32 = .ok (.getfield 7, 3) := by decide +kernel
theorem dX6_copy_35 : decode cX6_copy 35 = .ok (.iload_n 1, 1) := by decide +kernel
theorem dX6_copy_36 : decode cX6_copy 36 = .ok (.iaload, 1) := by decide +kernel
theorem dX6_copy_37 : decode cX6_copy 37 = .ok (.iconst 2, 1) := by decide +kernel
theorem dX6_copy_38 : decode cX6_copy 38 = .ok (.if_icmp .eq 48, 3) := by decide +kernel
theorem dX6_copy_41 : decode cX6_copy 41 = .ok (.aload_n 0, 1) := by decide +kernel
theorem dX6_copy_42 : decode cX6_copy 42 = .ok (.getfield 7, 3) := by decide +kernel
theorem dX6_copy_45 : decode cX6_copy 45 = .ok (.iload_n 2, 1) := by decide +kernel
theorem dX6_copy_46 : decode cX6_copy 46 = .ok (.iaload, 1) := by decide +kernel
theorem dX6_copy_47 : decode cX6_copy 47 = .ok (.iconst 2, 1) := by decide +kernel
theorem dX6_copy_48 : decode cX6_copy 48 = .ok (.if_icmp .eq 38, 3) := by decide +kernel
theorem dX6_copy_51 : decode cX6_copy 51 = .ok (.aload_n 0, 1) := by decide +kernel
theorem dX6_copy_52 : decode cX6_copy 52 = .ok (.getfield 7, 3) := by decide +kernel
theorem dX6_copy_55 : decode cX6_copy 55 = .ok (.iload_n 1, 1) := by decide +kernel
theorem dX6_copy_56 : decode cX6_copy 56 = .ok (.iaload, 1) := by decide +kernel
theorem dX6_copy_57 : decode cX6_copy 57 = .ok (.iconst 1, 1) := by decide +kernel
theorem dX6_copy_58 : decode cX6_copy 58 = .ok (.if_icmp .ne 35, 3) := by decide +kernel
theorem dX6_copy_61 : decode cX6_copy 61 = .ok (.aload_n 0, 1) := by decide +kernel
theorem dX6_copy_62 : decode cX6_copy 62 = .ok (.getfield 7, 3) := by decide +kernel
theorem dX6_copy_65 : decode cX6_copy 65 = .ok (.iload_n 2, 1) := by decide +kernel
theorem dX6_copy_66 : decode cX6_copy 66 = .ok (.iaload, 1) := by decide +kernel
theorem dX6_copy_67 : decode cX6_copy 67 = .ok (.iconst 1, 1) := by decide +kernel
theorem dX6_copy_68 : decode cX6_copy 68 = .ok (.if_icmp .ne 25, 3) := by decide +kernel
theorem dX6_copy_71 : decode cX6_copy 71 = .ok (.aload_n 0, 1) := by decide +kernel
theorem dX6_copy_72 : decode cX6_copy 72 = .ok (.getfield 13, 3) := by decide +kernel
theorem dX6_copy_75 : decode cX6_copy 75 = .ok (.iload_n 1, 1) := by decide +kernel
theorem dX6_copy_76 : decode cX6_copy 76 = .ok (.iaload, 1) := by decide +kernel
theorem dX6_copy_77 : decode cX6_copy 77 = .ok (.aload_n 0, 1) := by decide +kernel
theorem dX6_copy_78 : decode cX6_copy 78 = .ok (.getfield 13, 3) := by decide +kernel
theorem dX6_copy_81 : decode cX6_copy 81 = .ok (.iload_n 2, 1) := by decide +kernel
theorem dX6_copy_82 : decode cX6_copy 82 = .ok (.iaload, 1) := by decide +kernel
theorem dX6_copy_83 : decode cX6_copy 83 = .ok (.if_icmp .eq 10, 3) := by decide +kernel
theorem dX6_copy_86 : decode cX6_copy 86 = .ok (.aload_n 0, 1) := by decide +kernel
theorem dX6_copy_87 : decode cX6_copy 87 = .ok (.bipush (-3), 2) := by decide +kernel
theorem dX6_copy_89 : decode cX6_copy 89 = .ok (.invokevirtual 102, 3) := by decide +kernel
theorem dX6_copy_92 : decode cX6_copy 92 = .ok (.ireturn, 1) := by decide +kernel
theorem dX6_copy_93 : decode cX6_copy 93 = .ok (.aload_n 0, 1) := by decide +kernel
theorem dX6_copy_94 : decode cX6_copy 94 = .ok (.getfield 7, 3) := by decide +kernel
theorem dX6_copy_97 : decode cX6_copy 97 = .ok (.iload_n 1, 1) := by decide +kernel
theorem dX6_copy_98 : decode cX6_copy 98 = .ok (.iaload, 1) := by decide +kernel
theorem dX6_copy_99 : decode cX6_copy 99 = .ok (.ifCond .eq 12, 3) := by decide +kernel
theorem dX6_copy_102 : decode cX6_copy 102 = .ok (.aload_n 0, 1) := by decide +kernel
theorem dX6_copy_103 : decode cX6_copy 103 = .ok (.getfield 7, 3) := by decide +kernel
theorem dX6_copy_106 : decode cX6_copy 106 = .ok (.iload_n 2, 1) := by decide +kernel
theorem dX6_copy_107 : decode cX6_copy 107 = .ok (.iaload, 1) := by decide +kernel
theorem dX6_copy_108 : decode cX6_copy 108 = .ok (.ifCond .ne 10, 3) := by decide +kernel
theorem dX6_copy_111 : decode cX6_copy 111 = .ok (.aload_n 0, 1) := by decide +kernel
theorem dX6_copy_112 : decode cX6_copy 112 = .ok (.bipush (-4), 2) := by decide +kernel
theorem dX6_copy_114 : decode cX6_copy 114 = .ok (.invokevirtual 102, 3) := by decide +kernel
theorem dX6_copy_117 : decode cX6_copy 117 = .ok (.ireturn, 1) := by decide +kernel
theorem dX6_copy_118 : decode cX6_copy 118 = .ok (.iload 5, 2) := by decide +kernel
theorem dX6_copy_120 : decode cX6_copy 120 = .ok (.ifCond .lt 61, 3) := by decide +kernel
theorem dX6_copy_123 : decode cX6_copy 123 = .ok (.iload_n 3, 1) := by decide +kernel
theorem dX6_copy_124 : decode cX6_copy 124 = .ok (.ifCond .lt 57, 3) := by decide +kernel
theorem dX6_copy_127 : decode cX6_copy 127 = .ok (.iload 4, 2) := by decide +kernel
theorem dX6_copy_129 : decode cX6_copy 129 = .ok (.ifCond .lt 52, 3) := by decide +kernel
theorem dX6_copy_132 : decode cX6_copy 132 = .ok (.iload 5, 2) := by decide +kernel
theorem dX6_copy_134 : decode cX6_copy 134 = .ok (.aload_n 0, 1) := by decide +kernel
theorem dX6_copy_135 : decode cX6_copy 135 = .ok (.getfield 16, 3) := by decide +kernel
theorem dX6_copy_138 : decode cX6_copy 138 = .ok (.iload_n 1, 1) := by decide +kernel
theorem dX6_copy_139 : decode cX6_copy 139 = .ok (.iaload, 1) := by decide +kernel
theorem dX6_copy_140 : decode cX6_copy 140 = .ok (.if_icmp .gt 41, 3) := by decide +kernel
theorem dX6_copy_143 : decode cX6_copy 143 = .ok (.iload 5, 2) := by decide +kernel
theorem dX6_copy_145 : decode cX6_copy 145 = .ok (.aload_n 0, 1) := by decide +kernel
theorem dX6_copy_146 : decode cX6_copy 146 = .ok (.getfield 16, 3) := by decide +kernel
theorem dX6_copy_149 : decode cX6_copy 149 = .ok (.iload_n 2, 1) := by decide +kernel
theorem dX6_copy_150 : decode cX6_copy 150 = .ok (.iaload, 1) := by decide +kernel
theorem dX6_copy_151 : decode cX6_copy 151 = .ok (.if_icmp .gt 30, 3) := by decide +kernel
theorem dX6_copy_154 : decode cX6_copy 154 = .ok (.iload_n 3, 1) := by decide +kernel
theorem dX6_copy_155 : decode cX6_copy 155 = .ok (.aload_n 0, 1) := by decide +kernel
theorem dX6_copy_156 : decode cX6_copy 156 = .ok (.getfield 16, 3) := by decide +kernel
theorem dX6_copy_159 : decode cX6_copy 159 = .ok (.iload_n 1, 1) := by decide +kernel
theorem dX6_copy_160 : decode cX6_copy 160 = .ok (.iaload, 1) := by decide +kernel
theorem dX6_copy_161 : decode cX6_copy 161 = .ok (.iload 5, 2) := by decide +kernel
theorem dX6_copy_163 : decode cX6_copy 163 = .ok (.isub, 1) := by decide +kernel
theorem dX6_copy_164 : decode cX6_copy 164 = .ok (.if_icmp .gt 17, 3) := by decide +kernel
theorem dX6_copy_167 : decode cX6_copy 167 = .ok (.iload 4, 2) := by decide +kernel
theorem dX6_copy_169 : decode cX6_copy 169 = .ok (.aload_n 0, 1) := by decide +kernel
theorem dX6_copy_170 : decode cX6_copy 170 = .ok (.getfield 16, 3) := by decide +kernel
theorem dX6_copy_173 : decode cX6_copy 173 = .ok (.iload_n 2, 1) := by decide +kernel
theorem dX6_copy_174 : decode cX6_copy 174 = .ok (.iaload, 1) := by decide +kernel
theorem dX6_copy_175 : decode cX6_copy 175 = .ok (.iload 5, 2) := by decide +kernel
theorem dX6_copy_177 : decode cX6_copy 177 = .ok (.isub, 1) := by decide +kernel
theorem dX6_copy_178 : decode cX6_copy 178 = .ok (.if_icmp .le 10, 3) := by decide +kernel
theorem dX6_copy_181 : decode cX6_copy 181 = .ok (.aload_n 0, 1) := by decide +kernel
theorem dX6_copy_182 : decode cX6_copy 182 = .ok (.bipush (-2), 2) := by decide +kernel
theorem dX6_copy_184 : decode cX6_copy 184 = .ok (.invokevirtual 102, 3) := by decide +kernel
theorem dX6_copy_187 : decode cX6_copy 187 = .ok (.ireturn, 1) := by decide +kernel
theorem dX6_copy_188 : decode cX6_copy 188 = .ok (.iconst 0, 1) := by decide +kernel
theorem dX6_copy_189 : decode cX6_copy 189 = .ok (.istore 6, 2) := by decide +kernel
theorem dX6_copy_191 : decode cX6_copy 191 = .ok (.iload 6, 2) := by decide +kernel
theorem dX6_copy_193 : decode cX6_copy 193 = .ok (.iload 5, 2) := by decide +kernel
theorem dX6_copy_195 : decode cX6_copy 195 = .ok (.if_icmp .ge 27, 3) := by decide +kernel
theorem dX6_copy_198 : decode cX6_copy 198 = .ok (.aload_n 0, 1) := by decide +kernel
theorem dX6_copy_199 : decode cX6_copy 199 = .ok (.getfield 24, 3) := by decide +kernel
theorem dX6_copy_202 : decode cX6_copy 202 = .ok (.iload 6, 2) := by decide +kernel
theorem dX6_copy_204 : decode cX6_copy 204 = .ok (.aload_n 0, 1) := by decide +kernel
theorem dX6_copy_205 : decode cX6_copy 205 = .ok (.getfield 21, 3) := by decide +kernel
theorem dX6_copy_208 : decode cX6_copy 208 = .ok (.iload_n 1, 1) := by decide +kernel
theorem dX6_copy_209 : decode cX6_copy 209 = .ok (.aaload, 1) := by decide +kernel
theorem dX6_copy_210 : decode cX6_copy 210 = .ok (.iload_n 3, 1) := by decide +kernel
theorem dX6_copy_211 : decode cX6_copy 211 = .ok (.iload 6, 2) := by decide +kernel
theorem dX6_copy_213 : decode cX6_copy 213 = .ok (.iadd, 1) := by decide +kernel
theorem dX6_copy_214 : decode cX6_copy 214 = .ok (.laload, 1) := by decide +kernel
theorem dX6_copy_215 : decode cX6_copy 215 = .ok (.lastore, 1) := by decide +kernel
theorem dX6_copy_216 : decode cX6_copy 216 = .ok (.iinc 6 1, 3) := by decide +kernel
theorem dX6_copy_219 : decode cX6_copy 219 = .ok (.goto (-28), 3) := by decide +kernel
theorem dX6_copy_222 : decode cX6_copy 222 = .ok (.iconst 0, 1) := by decide +kernel
theorem dX6_copy_223 : decode cX6_copy 223 = .ok (.istore 6, 2) := by decide +kernel
theorem dX6_copy_225 : decode cX6_copy 225 = .ok (.iload 6, 2) := by decide +kernel
theorem dX6_copy_227 : decode cX6_copy 227 = .ok (.iload 5, 2) := by decide +kernel
theorem dX6_copy_229 : decode cX6_copy 229 = .ok (.if_icmp .ge 28, 3) := by decide +kernel
theorem dX6_copy_232 : decode cX6_copy 232 = .ok (.aload_n 0, 1) := by decide +kernel
theorem dX6_copy_233 : decode cX6_copy 233 = .ok (.getfield 21, 3) := by decide +kernel
theorem dX6_copy_236 : decode cX6_copy 236 = .ok (.iload_n 2, 1) := by decide +kernel
theorem dX6_copy_237 : decode cX6_copy 237 = .ok (.aaload, 1) := by decide +kernel
theorem dX6_copy_238 : decode cX6_copy 238 = .ok (.iload 4, 2) := by decide +kernel
theorem dX6_copy_240 : decode cX6_copy 240 = .ok (.iload 6, 2) := by decide +kernel
theorem dX6_copy_242 : decode cX6_copy 242 = .ok (.iadd, 1) := by decide +kernel
theorem dX6_copy_243 : decode cX6_copy 243 = .ok (.aload_n 0, 1) := by decide +kernel
theorem dX6_copy_244 : decode cX6_copy 244 = .ok (.getfield 24, 3) := by decide +kernel
theorem dX6_copy_247 : decode cX6_copy 247 = .ok (.iload 6, 2) := by decide +kernel
theorem dX6_copy_249 : decode cX6_copy 249 = .ok (.laload, 1) := by decide +kernel
theorem dX6_copy_250 : decode cX6_copy 250 = .ok (.lastore, 1) := by decide +kernel
theorem dX6_copy_251 : decode cX6_copy 251 = .ok (.iinc 6 1, 3) := by decide +kernel
theorem dX6_copy_254 : decode cX6_copy 254 = .ok (.goto (-29), 3) := by decide +kernel
theorem dX6_copy_257 : decode cX6_copy 257 = .ok (.iload 5, 2) := by decide +kernel
theorem dX6_copy_259 : decode cX6_copy 259 = .ok (.ireturn, 1) := by decide +kernel
def fX6_copy_24 (s : SS) : Option (Int32 × SS) := ((fX6_refuse (-2 : Int32) s).bind fun z1 => some (z1.1, z1.2))
def fX6_copy_86 (s : SS) : Option (Int32 × SS) := ((fX6_refuse (-3 : Int32) s).bind fun z1 => some (z1.1, z1.2))
def fX6_copy_111 (s : SS) : Option (Int32 × SS) := ((fX6_refuse (-4 : Int32) s).bind fun z1 => some (z1.1, z1.2))
def fX6_copy_181 (s : SS) : Option (Int32 × SS) := ((fX6_refuse (-2 : Int32) s).bind fun z1 => some (z1.1, z1.2))
def fX6_copy_225 : Nat → Int32 → Int32 → Int32 → Int32 → SS → Option (Int32 × SS)
  | 0, _, _, _, _, _ => none
  | n + 1, x2, x4, x5, x6, s => if x5 ≤ x6 then (some (x5, s)) else (if ixB x2 8 then (if ixB x6 40 then (if ixB (x4 + x6) 40 then (fX6_copy_225 n x2 x4 x5 (x6 + (1 : Int32)) (wrL s (5 + x2.toNatClampNeg) ((x4 + x6).toNatClampNeg) (s.2 13 x6.toNatClampNeg))) else none) else none) else none)
def fX6_copy_191 : Nat → Int32 → Int32 → Int32 → Int32 → Int32 → Int32 → SS → Option (Int32 × SS)
  | 0, _, _, _, _, _, _, _ => none
  | n + 1, x1, x2, x3, x4, x5, x6, s => if x5 ≤ x6 then (fX6_copy_225 FU x2 x4 x5 (0 : Int32) s) else (if ixB x1 8 then (if ixB (x3 + x6) 40 then (if ixB x6 40 then (fX6_copy_191 n x1 x2 x3 x4 x5 (x6 + (1 : Int32)) (wrL s 13 x6.toNatClampNeg (s.2 (5 + x1.toNatClampNeg) ((x3 + x6).toNatClampNeg)))) else none) else none) else none)
def fX6_copy_93 (x1 : Int32) (x2 : Int32) (x3 : Int32) (x4 : Int32) (x5 : Int32) (s : SS) : Option (Int32 × SS) := if ixB x1 8 then (if (s.1 1 x1.toNatClampNeg) = 0 then (fX6_copy_111 s) else (if ixB x2 8 then (if (s.1 1 x2.toNatClampNeg) = 0 then (fX6_copy_111 s) else (if x5 < 0 then (fX6_copy_181 s) else (if x3 < 0 then (fX6_copy_181 s) else (if x4 < 0 then (fX6_copy_181 s) else (if ixB x1 8 then (if (s.1 3 x1.toNatClampNeg) < x5 then (fX6_copy_181 s) else (if ixB x2 8 then (if (s.1 3 x2.toNatClampNeg) < x5 then (fX6_copy_181 s) else (if ixB x1 8 then (if ((s.1 3 x1.toNatClampNeg) - x5) < x3 then (fX6_copy_181 s) else (if ixB x2 8 then (if x4 ≤ ((s.1 3 x2.toNatClampNeg) - x5) then (fX6_copy_191 FU x1 x2 x3 x4 x5 (0 : Int32) s) else (fX6_copy_181 s)) else none)) else none)) else none)) else none))))) else none)) else none
def fX6_copy_0 (x1 : Int32) (x2 : Int32) (x3 : Int32) (x4 : Int32) (x5 : Int32) (s : SS) : Option (Int32 × SS) := ((fX6_in x1.toInt64 (0 : Int64) (7 : Int64) s).bind fun z1 => if z1.1 = 0 then (fX6_copy_24 s) else (((fX6_in x2.toInt64 (0 : Int64) (7 : Int64) s).bind fun z3 => if z3.1 = 0 then (fX6_copy_24 s) else (if ixB x1 8 then (if (s.1 1 x1.toNatClampNeg) = (2 : Int32) then (fX6_copy_86 s) else (if ixB x2 8 then (if (s.1 1 x2.toNatClampNeg) = (2 : Int32) then (fX6_copy_86 s) else (if ixB x1 8 then (if (s.1 1 x1.toNatClampNeg) = (1 : Int32) then (if ixB x2 8 then (if (s.1 1 x2.toNatClampNeg) = (1 : Int32) then (if ixB x1 8 then (if ixB x2 8 then (if (s.1 2 x1.toNatClampNeg) = (s.1 2 x2.toNatClampNeg) then (fX6_copy_93 x1 x2 x3 x4 x5 s) else (fX6_copy_86 s)) else none) else none) else (fX6_copy_93 x1 x2 x3 x4 x5 s)) else none) else (fX6_copy_93 x1 x2 x3 x4 x5 s)) else none)) else none)) else none))))
def fX6_copy (x1 : Int32) (x2 : Int32) (x3 : Int32) (x4 : Int32) (x5 : Int32) (s : SS) : Option (Int32 × SS) := fX6_copy_0 x1 x2 x3 x4 x5 s
set_option maxRecDepth 100000 in
set_option maxHeartbeats 4000000 in
theorem okX6_copy_24 {G : GG} {pl : Nat → Nat} {h0 : PH} (s : SS) : EvF G 1 mX6_copy lyR pl h0 rvI (fX6_copy_24 s) 24 [(0, .ref (pl 0))] [] s := by
  unfold fX6_copy_24
  refine ef_aload_n (q := 25) 0 dX6_copy_24 rfl rfl rfl ?_
  refine ef_bipush (v := (-2 : Int32)) (q := 27) dX6_copy_25 (by decide) rfl ?_
  refine ef_invVI0 (k := 0) (As := [.int (-2 : Int32)]) (rest := []) (q := 30) (okX6_refuse (-2 : Int32)) rfl calX6_refuse ml6_102 (by decide) rfl rfl rfl (Nat.le_of_ble_eq_true rfl) dX6_copy_27 rfl (fun z1 => ?_)
  exact ef_iret rfl dX6_copy_30
set_option maxRecDepth 100000 in
set_option maxHeartbeats 4000000 in
theorem okX6_copy_86 {G : GG} {pl : Nat → Nat} {h0 : PH} (s : SS) : EvF G 1 mX6_copy lyR pl h0 rvI (fX6_copy_86 s) 86 [(0, .ref (pl 0))] [] s := by
  unfold fX6_copy_86
  refine ef_aload_n (q := 87) 0 dX6_copy_86 rfl rfl rfl ?_
  refine ef_bipush (v := (-3 : Int32)) (q := 89) dX6_copy_87 (by decide) rfl ?_
  refine ef_invVI0 (k := 0) (As := [.int (-3 : Int32)]) (rest := []) (q := 92) (okX6_refuse (-3 : Int32)) rfl calX6_refuse ml6_102 (by decide) rfl rfl rfl (Nat.le_of_ble_eq_true rfl) dX6_copy_89 rfl (fun z1 => ?_)
  exact ef_iret rfl dX6_copy_92
set_option maxRecDepth 100000 in
set_option maxHeartbeats 4000000 in
theorem okX6_copy_111 {G : GG} {pl : Nat → Nat} {h0 : PH} (s : SS) : EvF G 1 mX6_copy lyR pl h0 rvI (fX6_copy_111 s) 111 [(0, .ref (pl 0))] [] s := by
  unfold fX6_copy_111
  refine ef_aload_n (q := 112) 0 dX6_copy_111 rfl rfl rfl ?_
  refine ef_bipush (v := (-4 : Int32)) (q := 114) dX6_copy_112 (by decide) rfl ?_
  refine ef_invVI0 (k := 0) (As := [.int (-4 : Int32)]) (rest := []) (q := 117) (okX6_refuse (-4 : Int32)) rfl calX6_refuse ml6_102 (by decide) rfl rfl rfl (Nat.le_of_ble_eq_true rfl) dX6_copy_114 rfl (fun z1 => ?_)
  exact ef_iret rfl dX6_copy_117
set_option maxRecDepth 100000 in
set_option maxHeartbeats 4000000 in
theorem okX6_copy_181 {G : GG} {pl : Nat → Nat} {h0 : PH} (s : SS) : EvF G 1 mX6_copy lyR pl h0 rvI (fX6_copy_181 s) 181 [(0, .ref (pl 0))] [] s := by
  unfold fX6_copy_181
  refine ef_aload_n (q := 182) 0 dX6_copy_181 rfl rfl rfl ?_
  refine ef_bipush (v := (-2 : Int32)) (q := 184) dX6_copy_182 (by decide) rfl ?_
  refine ef_invVI0 (k := 0) (As := [.int (-2 : Int32)]) (rest := []) (q := 187) (okX6_refuse (-2 : Int32)) rfl calX6_refuse ml6_102 (by decide) rfl rfl rfl (Nat.le_of_ble_eq_true rfl) dX6_copy_184 rfl (fun z1 => ?_)
  exact ef_iret rfl dX6_copy_187
set_option maxRecDepth 100000 in
set_option maxHeartbeats 4000000 in
theorem okX6_copy_225 {G : GG} {pl : Nat → Nat} {h0 : PH} : ∀ (n : Nat) (x2 : Int32) (x4 : Int32) (x5 : Int32) (x6 : Int32) (s : SS), EvF G 1 mX6_copy lyR pl h0 rvI (fX6_copy_225 n x2 x4 x5 x6 s) 225 [(0, .ref (pl 0)), (2, .int x2), (4, .int x4), (5, .int x5), (6, .int x6)] [] s := by
  intro n
  induction n with
  | zero => intro x2 x4 x5 x6 s; rw [fX6_copy_225]; exact ef_none
  | succ n ih =>
    intro x2 x4 x5 x6 s
    rw [fX6_copy_225]
    refine ef_iload (q := 227) 4 dX6_copy_225 rfl rfl ?_
    refine ef_iload (q := 229) 3 dX6_copy_227 rfl rfl ?_
    refine ef_if (pt := 257) (pf := 232) (fun _ _ => ev_icmp_ge (tgt := 257) dX6_copy_229 (by decide)) (fun h1 => ?_) (fun h1 => ?_)
    · refine ef_iload (q := 259) 3 dX6_copy_257 rfl rfl ?_
      exact ef_iret rfl dX6_copy_259
    · refine ef_aload_n (q := 233) 0 dX6_copy_232 rfl rfl rfl ?_
      refine ef_getR (t := 4) (q := 236) rfl fl6_21 rfl rfl dX6_copy_233 rfl ?_
      refine ef_iload_n (q := 237) 1 dX6_copy_236 rfl rfl rfl ?_
      refine ef_guard (fun g2 => ?_)
      refine ef_aaload (t0 := 5 + x2.toNatClampNeg) (q := 238) rfl (by decide) lyR_t4 g2 dX6_copy_237 rfl rfl ?_
      refine ef_iload (q := 240) 2 dX6_copy_238 rfl rfl ?_
      refine ef_iload (q := 242) 4 dX6_copy_240 rfl rfl ?_
      refine ef_iadd (q := 243) dX6_copy_242 rfl ?_
      refine ef_aload_n (q := 244) 0 dX6_copy_243 rfl rfl rfl ?_
      refine ef_getR (t := 13) (q := 247) rfl fl6_24 rfl rfl dX6_copy_244 rfl ?_
      refine ef_iload (q := 249) 4 dX6_copy_247 rfl rfl ?_
      refine ef_guard (fun g3 => ?_)
      refine ef_laload (x := s.2 13 x6.toNatClampNeg) (q := 250) rfl g3 dX6_copy_249 rfl rfl ?_
      refine ef_guard (fun g4 => ?_)
      refine ef_lastore (j := (x4 + x6).toNatClampNeg) (q := 251) (lyR_f4_0 _ (ixB_lt g2)) g4 dX6_copy_250 rfl rfl ?_
      refine ef_iinc (v := x6 + (1 : Int32)) (lv' := [(6, .int (x6 + (1 : Int32))), (0, .ref (pl 0)), (2, .int x2), (4, .int x4), (5, .int x5)]) (q := 254) 4 dX6_copy_251 rfl rfl (by decide) rfl rfl ?_
      refine ef_goto (tgt := 225) dX6_copy_254 (by decide) ?_
      refine ef_sub (lv' := [(0, .ref (pl 0)), (2, .int x2), (4, .int x4), (5, .int x5), (6, .int (x6 + (1 : Int32)))]) [1, 2, 3, 4, 0] rfl ?_
      exact ih x2 x4 x5 (x6 + (1 : Int32)) (wrL s (5 + x2.toNatClampNeg) ((x4 + x6).toNatClampNeg) (s.2 13 x6.toNatClampNeg))
set_option maxRecDepth 100000 in
set_option maxHeartbeats 4000000 in
theorem okX6_copy_191 {G : GG} {pl : Nat → Nat} {h0 : PH} : ∀ (n : Nat) (x1 : Int32) (x2 : Int32) (x3 : Int32) (x4 : Int32) (x5 : Int32) (x6 : Int32) (s : SS), EvF G 1 mX6_copy lyR pl h0 rvI (fX6_copy_191 n x1 x2 x3 x4 x5 x6 s) 191 [(0, .ref (pl 0)), (1, .int x1), (2, .int x2), (3, .int x3), (4, .int x4), (5, .int x5), (6, .int x6)] [] s := by
  intro n
  induction n with
  | zero => intro x1 x2 x3 x4 x5 x6 s; rw [fX6_copy_191]; exact ef_none
  | succ n ih =>
    intro x1 x2 x3 x4 x5 x6 s
    rw [fX6_copy_191]
    refine ef_iload (q := 193) 6 dX6_copy_191 rfl rfl ?_
    refine ef_iload (q := 195) 5 dX6_copy_193 rfl rfl ?_
    refine ef_if (pt := 222) (pf := 198) (fun _ _ => ev_icmp_ge (tgt := 222) dX6_copy_195 (by decide)) (fun h1 => ?_) (fun h1 => ?_)
    · refine ef_iconst (v := (0 : Int32)) (q := 223) dX6_copy_222 (by decide) rfl ?_
      refine ef_istore (lv' := [(6, .int (0 : Int32)), (0, .ref (pl 0)), (1, .int x1), (2, .int x2), (3, .int x3), (4, .int x4), (5, .int x5)]) (q := 225) dX6_copy_223 (by decide) rfl rfl ?_
      refine ef_sub (lv' := [(0, .ref (pl 0)), (2, .int x2), (4, .int x4), (5, .int x5), (6, .int (0 : Int32))]) [1, 3, 5, 6, 0] rfl ?_
      exact okX6_copy_225 FU x2 x4 x5 (0 : Int32) s
    · refine ef_aload_n (q := 199) 0 dX6_copy_198 rfl rfl rfl ?_
      refine ef_getR (t := 13) (q := 202) rfl fl6_24 rfl rfl dX6_copy_199 rfl ?_
      refine ef_iload (q := 204) 6 dX6_copy_202 rfl rfl ?_
      refine ef_aload_n (q := 205) 0 dX6_copy_204 rfl rfl rfl ?_
      refine ef_getR (t := 4) (q := 208) rfl fl6_21 rfl rfl dX6_copy_205 rfl ?_
      refine ef_iload_n (q := 209) 1 dX6_copy_208 rfl rfl rfl ?_
      refine ef_guard (fun g2 => ?_)
      refine ef_aaload (t0 := 5 + x1.toNatClampNeg) (q := 210) rfl (by decide) lyR_t4 g2 dX6_copy_209 rfl rfl ?_
      refine ef_iload_n (q := 211) 3 dX6_copy_210 rfl rfl rfl ?_
      refine ef_iload (q := 213) 6 dX6_copy_211 rfl rfl ?_
      refine ef_iadd (q := 214) dX6_copy_213 rfl ?_
      refine ef_guard (fun g3 => ?_)
      refine ef_laload (x := s.2 (5 + x1.toNatClampNeg) ((x3 + x6).toNatClampNeg)) (q := 215) (lyR_f4_0 _ (ixB_lt g2)) g3 dX6_copy_214 rfl rfl ?_
      refine ef_guard (fun g4 => ?_)
      refine ef_lastore (j := x6.toNatClampNeg) (q := 216) rfl g4 dX6_copy_215 rfl rfl ?_
      refine ef_iinc (v := x6 + (1 : Int32)) (lv' := [(6, .int (x6 + (1 : Int32))), (0, .ref (pl 0)), (1, .int x1), (2, .int x2), (3, .int x3), (4, .int x4), (5, .int x5)]) (q := 219) 6 dX6_copy_216 rfl rfl (by decide) rfl rfl ?_
      refine ef_goto (tgt := 191) dX6_copy_219 (by decide) ?_
      refine ef_sub (lv' := [(0, .ref (pl 0)), (1, .int x1), (2, .int x2), (3, .int x3), (4, .int x4), (5, .int x5), (6, .int (x6 + (1 : Int32)))]) [1, 2, 3, 4, 5, 6, 0] rfl ?_
      exact ih x1 x2 x3 x4 x5 (x6 + (1 : Int32)) (wrL s 13 x6.toNatClampNeg (s.2 (5 + x1.toNatClampNeg) ((x3 + x6).toNatClampNeg)))
set_option maxRecDepth 100000 in
set_option maxHeartbeats 4000000 in
theorem okX6_copy_93 {G : GG} {pl : Nat → Nat} {h0 : PH} (x1 : Int32) (x2 : Int32) (x3 : Int32) (x4 : Int32) (x5 : Int32) (s : SS) : EvF G 1 mX6_copy lyR pl h0 rvI (fX6_copy_93 x1 x2 x3 x4 x5 s) 93 [(0, .ref (pl 0)), (1, .int x1), (2, .int x2), (3, .int x3), (4, .int x4), (5, .int x5)] [] s := by
  unfold fX6_copy_93
  refine ef_aload_n (q := 94) 0 dX6_copy_93 rfl rfl rfl ?_
  refine ef_getR (t := 1) (q := 97) rfl fl6_7 rfl rfl dX6_copy_94 rfl ?_
  refine ef_iload_n (q := 98) 1 dX6_copy_97 rfl rfl rfl ?_
  refine ef_guard (fun g1 => ?_)
  refine ef_iaload (x := s.1 1 x1.toNatClampNeg) (q := 99) rfl g1 dX6_copy_98 rfl rfl ?_
  refine ef_if (pt := 111) (pf := 102) (fun _ _ => ev_if_eq (tgt := 111) dX6_copy_99 (by decide)) (fun h2 => ?_) (fun h2 => ?_)
  · refine ef_sub (lv' := [(0, .ref (pl 0))]) [0] rfl ?_
    exact okX6_copy_111 s
  · refine ef_aload_n (q := 103) 0 dX6_copy_102 rfl rfl rfl ?_
    refine ef_getR (t := 1) (q := 106) rfl fl6_7 rfl rfl dX6_copy_103 rfl ?_
    refine ef_iload_n (q := 107) 2 dX6_copy_106 rfl rfl rfl ?_
    refine ef_guard (fun g3 => ?_)
    refine ef_iaload (x := s.1 1 x2.toNatClampNeg) (q := 108) rfl g3 dX6_copy_107 rfl rfl ?_
    refine ef_if (pt := 111) (pf := 118) (fun _ _ kt kf => ev_if_ne (tgt := 118) dX6_copy_108 (by decide) kf kt) (fun h4 => ?_) (fun h4 => ?_)
    · refine ef_sub (lv' := [(0, .ref (pl 0))]) [0] rfl ?_
      exact okX6_copy_111 s
    · refine ef_iload (q := 120) 5 dX6_copy_118 rfl rfl ?_
      refine ef_if (pt := 181) (pf := 123) (fun _ _ => ev_if_lt (tgt := 181) dX6_copy_120 (by decide)) (fun h5 => ?_) (fun h5 => ?_)
      · refine ef_sub (lv' := [(0, .ref (pl 0))]) [0] rfl ?_
        exact okX6_copy_181 s
      · refine ef_iload_n (q := 124) 3 dX6_copy_123 rfl rfl rfl ?_
        refine ef_if (pt := 181) (pf := 127) (fun _ _ => ev_if_lt (tgt := 181) dX6_copy_124 (by decide)) (fun h6 => ?_) (fun h6 => ?_)
        · refine ef_sub (lv' := [(0, .ref (pl 0))]) [0] rfl ?_
          exact okX6_copy_181 s
        · refine ef_iload (q := 129) 4 dX6_copy_127 rfl rfl ?_
          refine ef_if (pt := 181) (pf := 132) (fun _ _ => ev_if_lt (tgt := 181) dX6_copy_129 (by decide)) (fun h7 => ?_) (fun h7 => ?_)
          · refine ef_sub (lv' := [(0, .ref (pl 0))]) [0] rfl ?_
            exact okX6_copy_181 s
          · refine ef_iload (q := 134) 5 dX6_copy_132 rfl rfl ?_
            refine ef_aload_n (q := 135) 0 dX6_copy_134 rfl rfl rfl ?_
            refine ef_getR (t := 3) (q := 138) rfl fl6_16 rfl rfl dX6_copy_135 rfl ?_
            refine ef_iload_n (q := 139) 1 dX6_copy_138 rfl rfl rfl ?_
            refine ef_guard (fun g8 => ?_)
            refine ef_iaload (x := s.1 3 x1.toNatClampNeg) (q := 140) rfl g8 dX6_copy_139 rfl rfl ?_
            refine ef_if (pt := 181) (pf := 143) (fun _ _ => ev_icmp_gt (tgt := 181) dX6_copy_140 (by decide)) (fun h9 => ?_) (fun h9 => ?_)
            · refine ef_sub (lv' := [(0, .ref (pl 0))]) [0] rfl ?_
              exact okX6_copy_181 s
            · refine ef_iload (q := 145) 5 dX6_copy_143 rfl rfl ?_
              refine ef_aload_n (q := 146) 0 dX6_copy_145 rfl rfl rfl ?_
              refine ef_getR (t := 3) (q := 149) rfl fl6_16 rfl rfl dX6_copy_146 rfl ?_
              refine ef_iload_n (q := 150) 2 dX6_copy_149 rfl rfl rfl ?_
              refine ef_guard (fun g10 => ?_)
              refine ef_iaload (x := s.1 3 x2.toNatClampNeg) (q := 151) rfl g10 dX6_copy_150 rfl rfl ?_
              refine ef_if (pt := 181) (pf := 154) (fun _ _ => ev_icmp_gt (tgt := 181) dX6_copy_151 (by decide)) (fun h11 => ?_) (fun h11 => ?_)
              · refine ef_sub (lv' := [(0, .ref (pl 0))]) [0] rfl ?_
                exact okX6_copy_181 s
              · refine ef_iload_n (q := 155) 3 dX6_copy_154 rfl rfl rfl ?_
                refine ef_aload_n (q := 156) 0 dX6_copy_155 rfl rfl rfl ?_
                refine ef_getR (t := 3) (q := 159) rfl fl6_16 rfl rfl dX6_copy_156 rfl ?_
                refine ef_iload_n (q := 160) 1 dX6_copy_159 rfl rfl rfl ?_
                refine ef_guard (fun g12 => ?_)
                refine ef_iaload (x := s.1 3 x1.toNatClampNeg) (q := 161) rfl g12 dX6_copy_160 rfl rfl ?_
                refine ef_iload (q := 163) 5 dX6_copy_161 rfl rfl ?_
                refine ef_isub (q := 164) dX6_copy_163 rfl ?_
                refine ef_if (pt := 181) (pf := 167) (fun _ _ => ev_icmp_gt (tgt := 181) dX6_copy_164 (by decide)) (fun h13 => ?_) (fun h13 => ?_)
                · refine ef_sub (lv' := [(0, .ref (pl 0))]) [0] rfl ?_
                  exact okX6_copy_181 s
                · refine ef_iload (q := 169) 4 dX6_copy_167 rfl rfl ?_
                  refine ef_aload_n (q := 170) 0 dX6_copy_169 rfl rfl rfl ?_
                  refine ef_getR (t := 3) (q := 173) rfl fl6_16 rfl rfl dX6_copy_170 rfl ?_
                  refine ef_iload_n (q := 174) 2 dX6_copy_173 rfl rfl rfl ?_
                  refine ef_guard (fun g14 => ?_)
                  refine ef_iaload (x := s.1 3 x2.toNatClampNeg) (q := 175) rfl g14 dX6_copy_174 rfl rfl ?_
                  refine ef_iload (q := 177) 5 dX6_copy_175 rfl rfl ?_
                  refine ef_isub (q := 178) dX6_copy_177 rfl ?_
                  refine ef_if (pt := 188) (pf := 181) (fun _ _ => ev_icmp_le (tgt := 188) dX6_copy_178 (by decide)) (fun h15 => ?_) (fun h15 => ?_)
                  · refine ef_iconst (v := (0 : Int32)) (q := 189) dX6_copy_188 (by decide) rfl ?_
                    refine ef_istore (lv' := [(6, .int (0 : Int32)), (0, .ref (pl 0)), (1, .int x1), (2, .int x2), (3, .int x3), (4, .int x4), (5, .int x5)]) (q := 191) dX6_copy_189 (by decide) rfl rfl ?_
                    refine ef_sub (lv' := [(0, .ref (pl 0)), (1, .int x1), (2, .int x2), (3, .int x3), (4, .int x4), (5, .int x5), (6, .int (0 : Int32))]) [1, 2, 3, 4, 5, 6, 0] rfl ?_
                    exact okX6_copy_191 FU x1 x2 x3 x4 x5 (0 : Int32) s
                  · refine ef_sub (lv' := [(0, .ref (pl 0))]) [0] rfl ?_
                    exact okX6_copy_181 s
set_option maxRecDepth 100000 in
set_option maxHeartbeats 4000000 in
theorem okX6_copy_0 {G : GG} {pl : Nat → Nat} {h0 : PH} (x1 : Int32) (x2 : Int32) (x3 : Int32) (x4 : Int32) (x5 : Int32) (s : SS) : EvF G 1 mX6_copy lyR pl h0 rvI (fX6_copy_0 x1 x2 x3 x4 x5 s) 0 [(0, .ref (pl 0)), (1, .int x1), (2, .int x2), (3, .int x3), (4, .int x4), (5, .int x5)] [] s := by
  unfold fX6_copy_0
  refine ef_iload_n (q := 1) 1 dX6_copy_0 rfl rfl rfl ?_
  refine ef_i2l (v := x1.toInt64) (q := 2) dX6_copy_1 rfl rfl ?_
  refine ef_lconst (v := (0 : Int64)) (q := 3) dX6_copy_2 (by decide) rfl ?_
  refine ef_ldc2 (v := (7 : Int64)) (q := 6) k6_96 dX6_copy_3 rfl ?_
  refine ef_invPI0 (As := [.long x1.toInt64, .long (0 : Int64), .long (7 : Int64)]) (rest := []) (q := 9) (okX6_in x1.toInt64 (0 : Int64) (7 : Int64)) rfl calX6_in ml6_89 (by decide) rfl rfl (Nat.le_of_ble_eq_true rfl) dX6_copy_6 rfl (fun z1 => ?_)
  refine ef_if (pt := 24) (pf := 12) (fun _ _ => ev_if_eq (tgt := 24) dX6_copy_9 (by decide)) (fun h2 => ?_) (fun h2 => ?_)
  · refine ef_sub (lv' := [(0, .ref (pl 0))]) [0] rfl ?_
    exact okX6_copy_24 s
  · refine ef_iload_n (q := 13) 2 dX6_copy_12 rfl rfl rfl ?_
    refine ef_i2l (v := x2.toInt64) (q := 14) dX6_copy_13 rfl rfl ?_
    refine ef_lconst (v := (0 : Int64)) (q := 15) dX6_copy_14 (by decide) rfl ?_
    refine ef_ldc2 (v := (7 : Int64)) (q := 18) k6_96 dX6_copy_15 rfl ?_
    refine ef_invPI0 (As := [.long x2.toInt64, .long (0 : Int64), .long (7 : Int64)]) (rest := []) (q := 21) (okX6_in x2.toInt64 (0 : Int64) (7 : Int64)) rfl calX6_in ml6_89 (by decide) rfl rfl (Nat.le_of_ble_eq_true rfl) dX6_copy_18 rfl (fun z3 => ?_)
    refine ef_if (pt := 24) (pf := 31) (fun _ _ kt kf => ev_if_ne (tgt := 31) dX6_copy_21 (by decide) kf kt) (fun h4 => ?_) (fun h4 => ?_)
    · refine ef_sub (lv' := [(0, .ref (pl 0))]) [0] rfl ?_
      exact okX6_copy_24 s
    · refine ef_aload_n (q := 32) 0 dX6_copy_31 rfl rfl rfl ?_
      refine ef_getR (t := 1) (q := 35) rfl fl6_7 rfl rfl dX6_copy_32 rfl ?_
      refine ef_iload_n (q := 36) 1 dX6_copy_35 rfl rfl rfl ?_
      refine ef_guard (fun g5 => ?_)
      refine ef_iaload (x := s.1 1 x1.toNatClampNeg) (q := 37) rfl g5 dX6_copy_36 rfl rfl ?_
      refine ef_iconst (v := (2 : Int32)) (q := 38) dX6_copy_37 (by decide) rfl ?_
      refine ef_if (pt := 86) (pf := 41) (fun _ _ => ev_icmp_eq (tgt := 86) dX6_copy_38 (by decide)) (fun h6 => ?_) (fun h6 => ?_)
      · refine ef_sub (lv' := [(0, .ref (pl 0))]) [0] rfl ?_
        exact okX6_copy_86 s
      · refine ef_aload_n (q := 42) 0 dX6_copy_41 rfl rfl rfl ?_
        refine ef_getR (t := 1) (q := 45) rfl fl6_7 rfl rfl dX6_copy_42 rfl ?_
        refine ef_iload_n (q := 46) 2 dX6_copy_45 rfl rfl rfl ?_
        refine ef_guard (fun g7 => ?_)
        refine ef_iaload (x := s.1 1 x2.toNatClampNeg) (q := 47) rfl g7 dX6_copy_46 rfl rfl ?_
        refine ef_iconst (v := (2 : Int32)) (q := 48) dX6_copy_47 (by decide) rfl ?_
        refine ef_if (pt := 86) (pf := 51) (fun _ _ => ev_icmp_eq (tgt := 86) dX6_copy_48 (by decide)) (fun h8 => ?_) (fun h8 => ?_)
        · refine ef_sub (lv' := [(0, .ref (pl 0))]) [0] rfl ?_
          exact okX6_copy_86 s
        · refine ef_aload_n (q := 52) 0 dX6_copy_51 rfl rfl rfl ?_
          refine ef_getR (t := 1) (q := 55) rfl fl6_7 rfl rfl dX6_copy_52 rfl ?_
          refine ef_iload_n (q := 56) 1 dX6_copy_55 rfl rfl rfl ?_
          refine ef_guard (fun g9 => ?_)
          refine ef_iaload (x := s.1 1 x1.toNatClampNeg) (q := 57) rfl g9 dX6_copy_56 rfl rfl ?_
          refine ef_iconst (v := (1 : Int32)) (q := 58) dX6_copy_57 (by decide) rfl ?_
          refine ef_if (pt := 61) (pf := 93) (fun _ _ kt kf => ev_icmp_ne (tgt := 93) dX6_copy_58 (by decide) kf kt) (fun h10 => ?_) (fun h10 => ?_)
          · refine ef_aload_n (q := 62) 0 dX6_copy_61 rfl rfl rfl ?_
            refine ef_getR (t := 1) (q := 65) rfl fl6_7 rfl rfl dX6_copy_62 rfl ?_
            refine ef_iload_n (q := 66) 2 dX6_copy_65 rfl rfl rfl ?_
            refine ef_guard (fun g11 => ?_)
            refine ef_iaload (x := s.1 1 x2.toNatClampNeg) (q := 67) rfl g11 dX6_copy_66 rfl rfl ?_
            refine ef_iconst (v := (1 : Int32)) (q := 68) dX6_copy_67 (by decide) rfl ?_
            refine ef_if (pt := 71) (pf := 93) (fun _ _ kt kf => ev_icmp_ne (tgt := 93) dX6_copy_68 (by decide) kf kt) (fun h12 => ?_) (fun h12 => ?_)
            · refine ef_aload_n (q := 72) 0 dX6_copy_71 rfl rfl rfl ?_
              refine ef_getR (t := 2) (q := 75) rfl fl6_13 rfl rfl dX6_copy_72 rfl ?_
              refine ef_iload_n (q := 76) 1 dX6_copy_75 rfl rfl rfl ?_
              refine ef_guard (fun g13 => ?_)
              refine ef_iaload (x := s.1 2 x1.toNatClampNeg) (q := 77) rfl g13 dX6_copy_76 rfl rfl ?_
              refine ef_aload_n (q := 78) 0 dX6_copy_77 rfl rfl rfl ?_
              refine ef_getR (t := 2) (q := 81) rfl fl6_13 rfl rfl dX6_copy_78 rfl ?_
              refine ef_iload_n (q := 82) 2 dX6_copy_81 rfl rfl rfl ?_
              refine ef_guard (fun g14 => ?_)
              refine ef_iaload (x := s.1 2 x2.toNatClampNeg) (q := 83) rfl g14 dX6_copy_82 rfl rfl ?_
              refine ef_if (pt := 93) (pf := 86) (fun _ _ => ev_icmp_eq (tgt := 93) dX6_copy_83 (by decide)) (fun h15 => ?_) (fun h15 => ?_)
              · refine ef_sub (lv' := [(0, .ref (pl 0)), (1, .int x1), (2, .int x2), (3, .int x3), (4, .int x4), (5, .int x5)]) [0, 1, 2, 3, 4, 5] rfl ?_
                exact okX6_copy_93 x1 x2 x3 x4 x5 s
              · refine ef_sub (lv' := [(0, .ref (pl 0))]) [0] rfl ?_
                exact okX6_copy_86 s
            · refine ef_sub (lv' := [(0, .ref (pl 0)), (1, .int x1), (2, .int x2), (3, .int x3), (4, .int x4), (5, .int x5)]) [0, 1, 2, 3, 4, 5] rfl ?_
              exact okX6_copy_93 x1 x2 x3 x4 x5 s
          · refine ef_sub (lv' := [(0, .ref (pl 0)), (1, .int x1), (2, .int x2), (3, .int x3), (4, .int x4), (5, .int x5)]) [0, 1, 2, 3, 4, 5] rfl ?_
            exact okX6_copy_93 x1 x2 x3 x4 x5 s
theorem okX6_copy (x1 : Int32) (x2 : Int32) (x3 : Int32) (x4 : Int32) (x5 : Int32) : MtF 1 mX6_copy lyR rvI (fun _ pl => [.ref (pl 0), .int x1, .int x2, .int x3, .int x4, .int x5]) (fX6_copy x1 x2 x3 x4 x5) := by
  refine MtF.of (by decide +kernel) rfl (fun _ pl => Nat.le_of_ble_eq_true rfl) (fun G pl h0 s => ?_)
  refine ef_sub (lv := [(0, .ref (pl 0)), (1, .int x1), (2, .int x2), (3, .int x3), (4, .int x4), (5, .int x5)]) (lv' := [(0, .ref (pl 0)), (1, .int x1), (2, .int x2), (3, .int x3), (4, .int x4), (5, .int x5)]) [0, 1, 2, 3, 4, 5] rfl ?_
  exact okX6_copy_0  x1 x2 x3 x4 x5 s
-- X6_element
theorem dX6_element_0 : decode cX6_element 0 = .ok (.iload_n 1, 1) := by decide +kernel
theorem dX6_element_1 : decode cX6_element 1 = .ok (.i2l, 1) := by decide +kernel
theorem dX6_element_2 : decode cX6_element 2 = .ok (.lconst 0, 1) := by decide +kernel
theorem dX6_element_3 : decode cX6_element 3 = .ok (.ldc2_w 96, 3) := by decide +kernel
theorem dX6_element_6 : decode cX6_element 6 = .ok (.invokestatic 89, 3) := by decide +kernel
theorem dX6_element_9 : decode cX6_element 9 = .ok (.ifCond .eq 42, 3) := by decide +kernel
theorem dX6_element_12 : decode cX6_element 12 = .ok (.aload_n 0, 1) := by decide +kernel
theorem dX6_element_13 : decode cX6_element 13 = .ok (.getfield 7, 3) := by decide +kernel
theorem dX6_element_16 : decode cX6_element 16 = .ok (.iload_n 1, 1) := by decide +kernel
theorem dX6_element_17 : decode cX6_element 17 = .ok (.iaload, 1) := by decide +kernel
theorem dX6_element_18 : decode cX6_element 18 = .ok (.iconst 1, 1) := by decide +kernel
theorem dX6_element_19 : decode cX6_element 19 = .ok (.if_icmp .ne 32, 3) := by decide +kernel
theorem dX6_element_22 : decode cX6_element 22 = .ok (.iload_n 2, 1) := by decide +kernel
theorem dX6_element_23 : decode cX6_element 23 = .ok (.i2l, 1) := by decide +kernel
theorem dX6_element_24 : decode cX6_element 24 = .ok (.lconst 0, 1) := by decide +kernel
theorem dX6_element_25 : decode cX6_element 25 = .ok (.aload_n 0, 1) := by decide +kernel
theorem dX6_element_26 : decode cX6_element 26 = .ok (.getfield 16, 3) := by decide +kernel
theorem dX6_element_29 : decode cX6_element 29 = .ok (.iload_n 1, 1) := by decide +kernel
theorem dX6_element_30 : decode cX6_element 30 = .ok (.iaload, 1) := by decide +kernel
theorem dX6_element_31 : decode cX6_element 31 = .ok (.iconst 1, 1) := by decide +kernel
theorem dX6_element_32 : decode cX6_element 32 = .ok (.isub, 1) := by decide +kernel
theorem dX6_element_33 : decode cX6_element 33 = .ok (.i2l, 1) := by decide +kernel
theorem dX6_element_34 : decode cX6_element 34 = .ok (.invokestatic 89, 3) := by decide +kernel
theorem dX6_element_37 : decode cX6_element 37 = .ok (.ifCond .eq 14, 3) := by decide +kernel
theorem dX6_element_40 : decode cX6_element 40 = .ok (.aload_n 0, 1) := by decide +kernel
theorem dX6_element_41 : decode cX6_element 41 = .ok (.getfield 21, 3) := by decide +kernel
theorem dX6_element_44 : decode cX6_element 44 = .ok (.iload_n 1, 1) := by decide +kernel
theorem dX6_element_45 : decode cX6_element 45 = .ok (.aaload, 1) := by decide +kernel
theorem dX6_element_46 : decode cX6_element 46 = .ok (.iload_n 2, 1) := by decide +kernel
theorem dX6_element_47 : decode cX6_element 47 = .ok (.laload, 1) := by decide +kernel
theorem dX6_element_48 : decode cX6_element 48 = .ok (.goto 4, 3) := by decide +kernel
theorem dX6_element_51 : decode cX6_element 51 = .ok (.lconst 0, 1) := by decide +kernel
theorem dX6_element_52 : decode cX6_element 52 = .ok (.lreturn, 1) := by decide +kernel
def fX6_element_0 (x1 : Int32) (x2 : Int32) (s : SS) : Option (Int64 × SS) := ((fX6_in x1.toInt64 (0 : Int64) (7 : Int64) s).bind fun z1 => if z1.1 = 0 then (some ((0 : Int64), s)) else (if ixB x1 8 then (if (s.1 1 x1.toNatClampNeg) = (1 : Int32) then (if ixB x1 8 then (((fX6_in x2.toInt64 (0 : Int64) (((s.1 3 x1.toNatClampNeg) - (1 : Int32)).toInt64) s).bind fun z6 => if z6.1 = 0 then (some ((0 : Int64), s)) else (if ixB x1 8 then (if ixB x2 40 then (some (s.2 (5 + x1.toNatClampNeg) x2.toNatClampNeg, s)) else none) else none))) else none) else (some ((0 : Int64), s))) else none))
def fX6_element (x1 : Int32) (x2 : Int32) (s : SS) : Option (Int64 × SS) := fX6_element_0 x1 x2 s
set_option maxRecDepth 100000 in
set_option maxHeartbeats 4000000 in
theorem okX6_element_0 {G : GG} {pl : Nat → Nat} {h0 : PH} (x1 : Int32) (x2 : Int32) (s : SS) : EvF G 1 mX6_element lyR pl h0 rvL (fX6_element_0 x1 x2 s) 0 [(0, .ref (pl 0)), (1, .int x1), (2, .int x2)] [] s := by
  unfold fX6_element_0
  refine ef_iload_n (q := 1) 1 dX6_element_0 rfl rfl rfl ?_
  refine ef_i2l (v := x1.toInt64) (q := 2) dX6_element_1 rfl rfl ?_
  refine ef_lconst (v := (0 : Int64)) (q := 3) dX6_element_2 (by decide) rfl ?_
  refine ef_ldc2 (v := (7 : Int64)) (q := 6) k6_96 dX6_element_3 rfl ?_
  refine ef_invPI0 (As := [.long x1.toInt64, .long (0 : Int64), .long (7 : Int64)]) (rest := []) (q := 9) (okX6_in x1.toInt64 (0 : Int64) (7 : Int64)) rfl calX6_in ml6_89 (by decide) rfl rfl (Nat.le_of_ble_eq_true rfl) dX6_element_6 rfl (fun z1 => ?_)
  refine ef_if (pt := 51) (pf := 12) (fun _ _ => ev_if_eq (tgt := 51) dX6_element_9 (by decide)) (fun h2 => ?_) (fun h2 => ?_)
  · refine ef_lconst (v := (0 : Int64)) (q := 52) dX6_element_51 (by decide) rfl ?_
    exact ef_lret rfl dX6_element_52
  · refine ef_aload_n (q := 13) 0 dX6_element_12 rfl rfl rfl ?_
    refine ef_getR (t := 1) (q := 16) rfl fl6_7 rfl rfl dX6_element_13 rfl ?_
    refine ef_iload_n (q := 17) 1 dX6_element_16 rfl rfl rfl ?_
    refine ef_guard (fun g3 => ?_)
    refine ef_iaload (x := s.1 1 x1.toNatClampNeg) (q := 18) rfl g3 dX6_element_17 rfl rfl ?_
    refine ef_iconst (v := (1 : Int32)) (q := 19) dX6_element_18 (by decide) rfl ?_
    refine ef_if (pt := 22) (pf := 51) (fun _ _ kt kf => ev_icmp_ne (tgt := 51) dX6_element_19 (by decide) kf kt) (fun h4 => ?_) (fun h4 => ?_)
    · refine ef_iload_n (q := 23) 2 dX6_element_22 rfl rfl rfl ?_
      refine ef_i2l (v := x2.toInt64) (q := 24) dX6_element_23 rfl rfl ?_
      refine ef_lconst (v := (0 : Int64)) (q := 25) dX6_element_24 (by decide) rfl ?_
      refine ef_aload_n (q := 26) 0 dX6_element_25 rfl rfl rfl ?_
      refine ef_getR (t := 3) (q := 29) rfl fl6_16 rfl rfl dX6_element_26 rfl ?_
      refine ef_iload_n (q := 30) 1 dX6_element_29 rfl rfl rfl ?_
      refine ef_guard (fun g5 => ?_)
      refine ef_iaload (x := s.1 3 x1.toNatClampNeg) (q := 31) rfl g5 dX6_element_30 rfl rfl ?_
      refine ef_iconst (v := (1 : Int32)) (q := 32) dX6_element_31 (by decide) rfl ?_
      refine ef_isub (q := 33) dX6_element_32 rfl ?_
      refine ef_i2l (v := ((s.1 3 x1.toNatClampNeg) - (1 : Int32)).toInt64) (q := 34) dX6_element_33 rfl rfl ?_
      refine ef_invPI0 (As := [.long x2.toInt64, .long (0 : Int64), .long (((s.1 3 x1.toNatClampNeg) - (1 : Int32)).toInt64)]) (rest := []) (q := 37) (okX6_in x2.toInt64 (0 : Int64) (((s.1 3 x1.toNatClampNeg) - (1 : Int32)).toInt64)) rfl calX6_in ml6_89 (by decide) rfl rfl (Nat.le_of_ble_eq_true rfl) dX6_element_34 rfl (fun z6 => ?_)
      refine ef_if (pt := 51) (pf := 40) (fun _ _ => ev_if_eq (tgt := 51) dX6_element_37 (by decide)) (fun h7 => ?_) (fun h7 => ?_)
      · refine ef_lconst (v := (0 : Int64)) (q := 52) dX6_element_51 (by decide) rfl ?_
        exact ef_lret rfl dX6_element_52
      · refine ef_aload_n (q := 41) 0 dX6_element_40 rfl rfl rfl ?_
        refine ef_getR (t := 4) (q := 44) rfl fl6_21 rfl rfl dX6_element_41 rfl ?_
        refine ef_iload_n (q := 45) 1 dX6_element_44 rfl rfl rfl ?_
        refine ef_guard (fun g8 => ?_)
        refine ef_aaload (t0 := 5 + x1.toNatClampNeg) (q := 46) rfl (by decide) lyR_t4 g8 dX6_element_45 rfl rfl ?_
        refine ef_iload_n (q := 47) 2 dX6_element_46 rfl rfl rfl ?_
        refine ef_guard (fun g9 => ?_)
        refine ef_laload (x := s.2 (5 + x1.toNatClampNeg) x2.toNatClampNeg) (q := 48) (lyR_f4_0 _ (ixB_lt g8)) g9 dX6_element_47 rfl rfl ?_
        refine ef_goto (tgt := 52) dX6_element_48 (by decide) ?_
        exact ef_lret rfl dX6_element_52
    · refine ef_lconst (v := (0 : Int64)) (q := 52) dX6_element_51 (by decide) rfl ?_
      exact ef_lret rfl dX6_element_52
theorem okX6_element (x1 : Int32) (x2 : Int32) : MtF 1 mX6_element lyR rvL (fun _ pl => [.ref (pl 0), .int x1, .int x2]) (fX6_element x1 x2) := by
  refine MtF.of (by decide +kernel) rfl (fun _ pl => Nat.le_of_ble_eq_true rfl) (fun G pl h0 s => ?_)
  refine ef_sub (lv := [(0, .ref (pl 0)), (1, .int x1), (2, .int x2)]) (lv' := [(0, .ref (pl 0)), (1, .int x1), (2, .int x2)]) [0, 1, 2] rfl ?_
  exact okX6_element_0  x1 x2 s
-- X6_holds
theorem dX6_holds_0 : decode cX6_holds 0 = .ok (.iload_n 1, 1) := by decide +kernel
theorem dX6_holds_1 : decode cX6_holds 1 = .ok (.i2l, 1) := by decide +kernel
theorem dX6_holds_2 : decode cX6_holds 2 = .ok (.lconst 0, 1) := by decide +kernel
theorem dX6_holds_3 : decode cX6_holds 3 = .ok (.ldc2_w 96, 3) := by decide +kernel
theorem dX6_holds_6 : decode cX6_holds 6 = .ok (.invokestatic 89, 3) := by decide +kernel
theorem dX6_holds_9 : decode cX6_holds 9 = .ok (.ifCond .eq 12, 3) := by decide +kernel
theorem dX6_holds_12 : decode cX6_holds 12 = .ok (.aload_n 0, 1) := by decide +kernel
theorem dX6_holds_13 : decode cX6_holds 13 = .ok (.getfield 7, 3) := by decide +kernel
theorem dX6_holds_16 : decode cX6_holds 16 = .ok (.iload_n 1, 1) := by decide +kernel
theorem dX6_holds_17 : decode cX6_holds 17 = .ok (.iaload, 1) := by decide +kernel
theorem dX6_holds_18 : decode cX6_holds 18 = .ok (.ifCond .ne 5, 3) := by decide +kernel
theorem dX6_holds_21 : decode cX6_holds 21 = .ok (.iconst (-1), 1) := by decide +kernel
theorem dX6_holds_22 : decode cX6_holds 22 = .ok (.ireturn, 1) := by decide +kernel
theorem dX6_holds_23 : decode cX6_holds 23 = .ok (.aload_n 0, 1) := by decide +kernel
theorem dX6_holds_24 : decode cX6_holds 24 = .ok (.getfield 7, 3) := by decide +kernel
theorem dX6_holds_27 : decode cX6_holds 27 = .ok (.iload_n 1, 1) := by decide +kernel
theorem dX6_holds_28 : decode cX6_holds 28 = .ok (.iaload, 1) := by decide +kernel
theorem dX6_holds_29 : decode cX6_holds 29 = .ok (.iconst 1, 1) := by decide +kernel
theorem dX6_holds_30 : decode cX6_holds 30 = .ok (.if_icmp .ne 12, 3) := by decide +kernel
theorem dX6_holds_33 : decode cX6_holds 33 = .ok (.aload_n 0, 1) := by decide +kernel
theorem dX6_holds_34 : decode cX6_holds 34 = .ok (.getfield 13, 3) := by decide +kernel
theorem dX6_holds_37 : decode cX6_holds 37 = .ok (.iload_n 1, 1) := by decide +kernel
theorem dX6_holds_38 : decode cX6_holds 38 = .ok (.iaload, 1) := by decide +kernel
theorem dX6_holds_39 : decode cX6_holds 39 = .ok (.goto 12, 3) := by decide +kernel
theorem dX6_holds_42 : decode cX6_holds 42 = .ok (.bipush 10, 2) := by decide +kernel
theorem dX6_holds_44 : decode cX6_holds 44 = .ok (.aload_n 0, 1) := by decide +kernel
theorem dX6_holds_45 : decode cX6_holds 45 = .ok (.getfield 28, 3) := by decide +kernel
theorem dX6_holds_48 : decode cX6_holds 48 = .ok (.iload_n 1, 1) := by decide +kernel
theorem dX6_holds_49 : decode cX6_holds 49 = .ok (.iaload, 1) := by decide +kernel
theorem dX6_holds_50 : decode cX6_holds 50 = .ok (.iadd, 1) := by decide +kernel
theorem dX6_holds_51 : decode cX6_holds 51 = .ok (.ireturn, 1) := by decide +kernel
def fX6_holds_0 (x1 : Int32) (s : SS) : Option (Int32 × SS) := ((fX6_in x1.toInt64 (0 : Int64) (7 : Int64) s).bind fun z1 => if z1.1 = 0 then (some ((-1 : Int32), s)) else (if ixB x1 8 then (if (s.1 1 x1.toNatClampNeg) = 0 then (some ((-1 : Int32), s)) else (if ixB x1 8 then (if (s.1 1 x1.toNatClampNeg) = (1 : Int32) then (if ixB x1 8 then (some (s.1 2 x1.toNatClampNeg, s)) else none) else (if ixB x1 8 then (some ((10 : Int32) + (s.1 14 x1.toNatClampNeg), s)) else none)) else none)) else none))
def fX6_holds (x1 : Int32) (s : SS) : Option (Int32 × SS) := fX6_holds_0 x1 s
set_option maxRecDepth 100000 in
set_option maxHeartbeats 4000000 in
theorem okX6_holds_0 {G : GG} {pl : Nat → Nat} {h0 : PH} (x1 : Int32) (s : SS) : EvF G 1 mX6_holds lyR pl h0 rvI (fX6_holds_0 x1 s) 0 [(0, .ref (pl 0)), (1, .int x1)] [] s := by
  unfold fX6_holds_0
  refine ef_iload_n (q := 1) 1 dX6_holds_0 rfl rfl rfl ?_
  refine ef_i2l (v := x1.toInt64) (q := 2) dX6_holds_1 rfl rfl ?_
  refine ef_lconst (v := (0 : Int64)) (q := 3) dX6_holds_2 (by decide) rfl ?_
  refine ef_ldc2 (v := (7 : Int64)) (q := 6) k6_96 dX6_holds_3 rfl ?_
  refine ef_invPI0 (As := [.long x1.toInt64, .long (0 : Int64), .long (7 : Int64)]) (rest := []) (q := 9) (okX6_in x1.toInt64 (0 : Int64) (7 : Int64)) rfl calX6_in ml6_89 (by decide) rfl rfl (Nat.le_of_ble_eq_true rfl) dX6_holds_6 rfl (fun z1 => ?_)
  refine ef_if (pt := 21) (pf := 12) (fun _ _ => ev_if_eq (tgt := 21) dX6_holds_9 (by decide)) (fun h2 => ?_) (fun h2 => ?_)
  · refine ef_iconst (v := (-1 : Int32)) (q := 22) dX6_holds_21 (by decide) rfl ?_
    exact ef_iret rfl dX6_holds_22
  · refine ef_aload_n (q := 13) 0 dX6_holds_12 rfl rfl rfl ?_
    refine ef_getR (t := 1) (q := 16) rfl fl6_7 rfl rfl dX6_holds_13 rfl ?_
    refine ef_iload_n (q := 17) 1 dX6_holds_16 rfl rfl rfl ?_
    refine ef_guard (fun g3 => ?_)
    refine ef_iaload (x := s.1 1 x1.toNatClampNeg) (q := 18) rfl g3 dX6_holds_17 rfl rfl ?_
    refine ef_if (pt := 21) (pf := 23) (fun _ _ kt kf => ev_if_ne (tgt := 23) dX6_holds_18 (by decide) kf kt) (fun h4 => ?_) (fun h4 => ?_)
    · refine ef_iconst (v := (-1 : Int32)) (q := 22) dX6_holds_21 (by decide) rfl ?_
      exact ef_iret rfl dX6_holds_22
    · refine ef_aload_n (q := 24) 0 dX6_holds_23 rfl rfl rfl ?_
      refine ef_getR (t := 1) (q := 27) rfl fl6_7 rfl rfl dX6_holds_24 rfl ?_
      refine ef_iload_n (q := 28) 1 dX6_holds_27 rfl rfl rfl ?_
      refine ef_guard (fun g5 => ?_)
      refine ef_iaload (x := s.1 1 x1.toNatClampNeg) (q := 29) rfl g5 dX6_holds_28 rfl rfl ?_
      refine ef_iconst (v := (1 : Int32)) (q := 30) dX6_holds_29 (by decide) rfl ?_
      refine ef_if (pt := 33) (pf := 42) (fun _ _ kt kf => ev_icmp_ne (tgt := 42) dX6_holds_30 (by decide) kf kt) (fun h6 => ?_) (fun h6 => ?_)
      · refine ef_aload_n (q := 34) 0 dX6_holds_33 rfl rfl rfl ?_
        refine ef_getR (t := 2) (q := 37) rfl fl6_13 rfl rfl dX6_holds_34 rfl ?_
        refine ef_iload_n (q := 38) 1 dX6_holds_37 rfl rfl rfl ?_
        refine ef_guard (fun g7 => ?_)
        refine ef_iaload (x := s.1 2 x1.toNatClampNeg) (q := 39) rfl g7 dX6_holds_38 rfl rfl ?_
        refine ef_goto (tgt := 51) dX6_holds_39 (by decide) ?_
        exact ef_iret rfl dX6_holds_51
      · refine ef_bipush (v := (10 : Int32)) (q := 44) dX6_holds_42 (by decide) rfl ?_
        refine ef_aload_n (q := 45) 0 dX6_holds_44 rfl rfl rfl ?_
        refine ef_getR (t := 14) (q := 48) rfl fl6_28 rfl rfl dX6_holds_45 rfl ?_
        refine ef_iload_n (q := 49) 1 dX6_holds_48 rfl rfl rfl ?_
        refine ef_guard (fun g8 => ?_)
        refine ef_iaload (x := s.1 14 x1.toNatClampNeg) (q := 50) rfl g8 dX6_holds_49 rfl rfl ?_
        refine ef_iadd (q := 51) dX6_holds_50 rfl ?_
        exact ef_iret rfl dX6_holds_51
theorem okX6_holds (x1 : Int32) : MtF 1 mX6_holds lyR rvI (fun _ pl => [.ref (pl 0), .int x1]) (fX6_holds x1) := by
  refine MtF.of (by decide +kernel) rfl (fun _ pl => Nat.le_of_ble_eq_true rfl) (fun G pl h0 s => ?_)
  refine ef_sub (lv := [(0, .ref (pl 0)), (1, .int x1)]) (lv' := [(0, .ref (pl 0)), (1, .int x1)]) [0, 1] rfl ?_
  exact okX6_holds_0  x1 s
-- X6_show
theorem dX6_show_0 : decode cX6_show 0 = .ok (.iload_n 1, 1) := by decide +kernel
theorem dX6_show_1 : decode cX6_show 1 = .ok (.i2l, 1) := by decide +kernel
theorem dX6_show_2 : decode cX6_show 2 = .ok (.lconst 0, 1) := by decide +kernel
theorem dX6_show_3 : decode cX6_show 3 = .ok (.ldc2_w 96, 3) := by decide +kernel
theorem dX6_show_6 : decode cX6_show 6 = .ok (.invokestatic 89, 3) := by decide +kernel
theorem dX6_show_9 : decode cX6_show 9 = .ok (.ifCond .eq 16, 3) := by decide +kernel
theorem dX6_show_12 : decode cX6_show 12 = .ok (.iload_n 2, 1) := by decide +kernel
theorem dX6_show_13 : decode cX6_show 13 = .ok (.iconst (-1), 1) := by decide +kernel
theorem dX6_show_14 : decode cX6_show 14 = .ok (.if_icmp .eq 18, 3) := by decide +kernel
theorem dX6_show_17 : decode cX6_show 17 = .ok (.aload_n 0, 1) := by decide +kernel
theorem dX6_show_18 : decode cX6_show 18 = .ok (.iload_n 2, 1) := by decide +kernel
theorem dX6_show_19 : decode cX6_show 19 = .ok (.invokevirtual 113, 3) := by decide +kernel
theorem dX6_show_22 : decode cX6_show 22 = .ok (.ifCond .ne 10, 3) := by decide +kernel
theorem dX6_show_25 : decode cX6_show 25 = .ok (.aload_n 0, 1) := by decide +kernel
theorem dX6_show_26 : decode cX6_show 26 = .ok (.bipush (-2), 2) := by decide +kernel
theorem dX6_show_28 : decode cX6_show 28 = .ok (.invokevirtual 102, 3) := by decide +kernel
theorem dX6_show_31 : decode cX6_show 31 = .ok (.ireturn, 1) := by decide +kernel
theorem dX6_show_32 : decode cX6_show 32 = .ok (.aload_n 0, 1) := by decide +kernel
theorem dX6_show_33 : decode cX6_show 33 = .ok (.getfield 7, 3) := by decide +kernel
theorem dX6_show_36 : decode cX6_show 36 = .ok (.iload_n 1, 1) := by decide +kernel
theorem dX6_show_37 : decode cX6_show 37 = .ok (.iload_n 2, 1) := by decide +kernel
theorem dX6_show_38 : decode cX6_show 38 = .ok (.iconst (-1), 1) := by decide +kernel
theorem dX6_show_39 : decode cX6_show 39 = .ok (.if_icmp .ne 7, 3) := by decide +kernel
theorem dX6_show_42 : decode cX6_show 42 = .ok (.iconst 0, 1) := by decide +kernel
theorem dX6_show_43 : decode cX6_show 43 = .ok (.goto 4, 3) := by decide +kernel
theorem dX6_show_46 : decode cX6_show 46 = .ok (.iconst 2, 1) := by decide +kernel
theorem dX6_show_47 : decode cX6_show 47 = .ok (.iastore, 1) := by decide +kernel
theorem dX6_show_48 : decode cX6_show 48 = .ok (.aload_n 0, 1) := by decide +kernel
theorem dX6_show_49 : decode cX6_show 49 = .ok (.getfield 28, 3) := by decide +kernel
theorem dX6_show_52 : decode cX6_show 52 = .ok (.iload_n 1, 1) := by decide +kernel
theorem dX6_show_53 : decode cX6_show 53 = .ok (.iload_n 2, 1) := by decide +kernel
theorem dX6_show_54 : decode cX6_show 54 = .ok (.iastore, 1) := by decide +kernel
theorem dX6_show_55 : decode cX6_show 55 = .ok (.iconst 1, 1) := by decide +kernel
theorem dX6_show_56 : decode cX6_show 56 = .ok (.ireturn, 1) := by decide +kernel
def fX6_show_25 (s : SS) : Option (Int32 × SS) := ((fX6_refuse (-2 : Int32) s).bind fun z1 => some (z1.1, z1.2))
def fX6_show_47 (x1 : Int32) (x2 : Int32) (y1 : Int32) (y2 : Int32) (s : SS) : Option (Int32 × SS) := if ixB y1 8 then (if ixB x1 8 then (some ((1 : Int32), wrI (wrI s 1 y1.toNatClampNeg y2) 14 x1.toNatClampNeg x2)) else none) else none
def fX6_show_32 (x1 : Int32) (x2 : Int32) (s : SS) : Option (Int32 × SS) := if x2 = (-1 : Int32) then (fX6_show_47 x1 x2 x1 (0 : Int32) s) else (fX6_show_47 x1 x2 x1 (2 : Int32) s)
def fX6_show_0 (x1 : Int32) (x2 : Int32) (s : SS) : Option (Int32 × SS) := ((fX6_in x1.toInt64 (0 : Int64) (7 : Int64) s).bind fun z1 => if z1.1 = 0 then (fX6_show_25 s) else (if x2 = (-1 : Int32) then (fX6_show_32 x1 x2 s) else (((fX6_isLicker x2 s).bind fun z4 => if z4.1 = 0 then (fX6_show_25 z4.2) else (fX6_show_32 x1 x2 z4.2)))))
def fX6_show (x1 : Int32) (x2 : Int32) (s : SS) : Option (Int32 × SS) := fX6_show_0 x1 x2 s
set_option maxRecDepth 100000 in
set_option maxHeartbeats 4000000 in
theorem okX6_show_25 {G : GG} {pl : Nat → Nat} {h0 : PH} (s : SS) : EvF G 2 mX6_show lyR pl h0 rvI (fX6_show_25 s) 25 [(0, .ref (pl 0))] [] s := by
  unfold fX6_show_25
  refine ef_aload_n (q := 26) 0 dX6_show_25 rfl rfl rfl ?_
  refine ef_bipush (v := (-2 : Int32)) (q := 28) dX6_show_26 (by decide) rfl ?_
  refine ef_invVI0 (k := 0) (As := [.int (-2 : Int32)]) (rest := []) (q := 31) (okX6_refuse (-2 : Int32)) rfl calX6_refuse ml6_102 (by decide) rfl rfl rfl (Nat.le_of_ble_eq_true rfl) dX6_show_28 rfl (fun z1 => ?_)
  exact ef_iret rfl dX6_show_31
set_option maxRecDepth 100000 in
set_option maxHeartbeats 4000000 in
theorem okX6_show_47 {G : GG} {pl : Nat → Nat} {h0 : PH} (x1 : Int32) (x2 : Int32) (y1 : Int32) (y2 : Int32) (s : SS) : EvF G 2 mX6_show lyR pl h0 rvI (fX6_show_47 x1 x2 y1 y2 s) 47 [(0, .ref (pl 0)), (1, .int x1), (2, .int x2)] [.int y2, .int y1, .ref (pl 1)] s := by
  unfold fX6_show_47
  refine ef_guard (fun g1 => ?_)
  refine ef_iastore (j := y1.toNatClampNeg) (q := 48) rfl g1 dX6_show_47 rfl rfl ?_
  refine ef_aload_n (q := 49) 0 dX6_show_48 rfl rfl rfl ?_
  refine ef_getR (t := 14) (q := 52) rfl fl6_28 rfl rfl dX6_show_49 rfl ?_
  refine ef_iload_n (q := 53) 1 dX6_show_52 rfl rfl rfl ?_
  refine ef_iload_n (q := 54) 2 dX6_show_53 rfl rfl rfl ?_
  refine ef_guard (fun g2 => ?_)
  refine ef_iastore (j := x1.toNatClampNeg) (q := 55) rfl g2 dX6_show_54 rfl rfl ?_
  refine ef_iconst (v := (1 : Int32)) (q := 56) dX6_show_55 (by decide) rfl ?_
  exact ef_iret rfl dX6_show_56
set_option maxRecDepth 100000 in
set_option maxHeartbeats 4000000 in
theorem okX6_show_32 {G : GG} {pl : Nat → Nat} {h0 : PH} (x1 : Int32) (x2 : Int32) (s : SS) : EvF G 2 mX6_show lyR pl h0 rvI (fX6_show_32 x1 x2 s) 32 [(0, .ref (pl 0)), (1, .int x1), (2, .int x2)] [] s := by
  unfold fX6_show_32
  refine ef_aload_n (q := 33) 0 dX6_show_32 rfl rfl rfl ?_
  refine ef_getR (t := 1) (q := 36) rfl fl6_7 rfl rfl dX6_show_33 rfl ?_
  refine ef_iload_n (q := 37) 1 dX6_show_36 rfl rfl rfl ?_
  refine ef_iload_n (q := 38) 2 dX6_show_37 rfl rfl rfl ?_
  refine ef_iconst (v := (-1 : Int32)) (q := 39) dX6_show_38 (by decide) rfl ?_
  refine ef_if (pt := 42) (pf := 46) (fun _ _ kt kf => ev_icmp_ne (tgt := 46) dX6_show_39 (by decide) kf kt) (fun h1 => ?_) (fun h1 => ?_)
  · refine ef_iconst (v := (0 : Int32)) (q := 43) dX6_show_42 (by decide) rfl ?_
    refine ef_goto (tgt := 47) dX6_show_43 (by decide) ?_
    refine ef_sub (lv' := [(0, .ref (pl 0)), (1, .int x1), (2, .int x2)]) [0, 1, 2] rfl ?_
    exact okX6_show_47 x1 x2 x1 (0 : Int32) s
  · refine ef_iconst (v := (2 : Int32)) (q := 47) dX6_show_46 (by decide) rfl ?_
    refine ef_sub (lv' := [(0, .ref (pl 0)), (1, .int x1), (2, .int x2)]) [0, 1, 2] rfl ?_
    exact okX6_show_47 x1 x2 x1 (2 : Int32) s
set_option maxRecDepth 100000 in
set_option maxHeartbeats 4000000 in
theorem okX6_show_0 {G : GG} {pl : Nat → Nat} {h0 : PH} (x1 : Int32) (x2 : Int32) (s : SS) : EvF G 2 mX6_show lyR pl h0 rvI (fX6_show_0 x1 x2 s) 0 [(0, .ref (pl 0)), (1, .int x1), (2, .int x2)] [] s := by
  unfold fX6_show_0
  refine ef_iload_n (q := 1) 1 dX6_show_0 rfl rfl rfl ?_
  refine ef_i2l (v := x1.toInt64) (q := 2) dX6_show_1 rfl rfl ?_
  refine ef_lconst (v := (0 : Int64)) (q := 3) dX6_show_2 (by decide) rfl ?_
  refine ef_ldc2 (v := (7 : Int64)) (q := 6) k6_96 dX6_show_3 rfl ?_
  refine ef_invPI0 (As := [.long x1.toInt64, .long (0 : Int64), .long (7 : Int64)]) (rest := []) (q := 9) (okX6_in x1.toInt64 (0 : Int64) (7 : Int64)) rfl calX6_in ml6_89 (by decide) rfl rfl (Nat.le_of_ble_eq_true rfl) dX6_show_6 rfl (fun z1 => ?_)
  refine ef_if (pt := 25) (pf := 12) (fun _ _ => ev_if_eq (tgt := 25) dX6_show_9 (by decide)) (fun h2 => ?_) (fun h2 => ?_)
  · refine ef_sub (lv' := [(0, .ref (pl 0))]) [0] rfl ?_
    exact okX6_show_25 s
  · refine ef_iload_n (q := 13) 2 dX6_show_12 rfl rfl rfl ?_
    refine ef_iconst (v := (-1 : Int32)) (q := 14) dX6_show_13 (by decide) rfl ?_
    refine ef_if (pt := 32) (pf := 17) (fun _ _ => ev_icmp_eq (tgt := 32) dX6_show_14 (by decide)) (fun h3 => ?_) (fun h3 => ?_)
    · refine ef_sub (lv' := [(0, .ref (pl 0)), (1, .int x1), (2, .int x2)]) [0, 1, 2] rfl ?_
      exact okX6_show_32 x1 x2 s
    · refine ef_aload_n (q := 18) 0 dX6_show_17 rfl rfl rfl ?_
      refine ef_iload_n (q := 19) 2 dX6_show_18 rfl rfl rfl ?_
      refine ef_invVI0 (k := 0) (As := [.int x2]) (rest := []) (q := 22) (okX6_isLicker x2) rfl calX6_isLicker ml6_113 (by decide) rfl rfl rfl (Nat.le_of_ble_eq_true rfl) dX6_show_19 rfl (fun z4 => ?_)
      refine ef_if (pt := 25) (pf := 32) (fun _ _ kt kf => ev_if_ne (tgt := 32) dX6_show_22 (by decide) kf kt) (fun h5 => ?_) (fun h5 => ?_)
      · refine ef_sub (lv' := [(0, .ref (pl 0))]) [0] rfl ?_
        exact okX6_show_25 z4.2
      · refine ef_sub (lv' := [(0, .ref (pl 0)), (1, .int x1), (2, .int x2)]) [0, 1, 2] rfl ?_
        exact okX6_show_32 x1 x2 z4.2
theorem okX6_show (x1 : Int32) (x2 : Int32) : MtF 2 mX6_show lyR rvI (fun _ pl => [.ref (pl 0), .int x1, .int x2]) (fX6_show x1 x2) := by
  refine MtF.of (by decide +kernel) rfl (fun _ pl => Nat.le_of_ble_eq_true rfl) (fun G pl h0 s => ?_)
  refine ef_sub (lv := [(0, .ref (pl 0)), (1, .int x1), (2, .int x2)]) (lv' := [(0, .ref (pl 0)), (1, .int x1), (2, .int x2)]) [0, 1, 2] rfl ?_
  exact okX6_show_0  x1 x2 s
-- X6_isUnder
theorem dX6_isUnder_0 : decode cX6_isUnder 0 = .ok (.iload_n 1, 1) := by decide +kernel
theorem dX6_isUnder_1 : decode cX6_isUnder 1 = .ok (.ifCond .eq 8, 3) := by decide +kernel
theorem dX6_isUnder_4 : decode cX6_isUnder 4 = .ok (.iload_n 0, 1) := by decide +kernel
theorem dX6_isUnder_5 : decode cX6_isUnder 5 = .ok (.iload_n 1, 1) := by decide +kernel
theorem dX6_isUnder_6 : decode cX6_isUnder 6 = .ok (.if_icmp .ne 5, 3) := by decide +kernel
theorem dX6_isUnder_9 : decode cX6_isUnder 9 = .ok (.iconst 1, 1) := by decide +kernel
theorem dX6_isUnder_10 : decode cX6_isUnder 10 = .ok (.ireturn, 1) := by decide +kernel
theorem dX6_isUnder_11 : decode cX6_isUnder 11 = .ok (.iload_n 1, 1) := by decide +kernel
theorem dX6_isUnder_12 : decode cX6_isUnder 12 = .ok (.iconst 2, 1) := by decide +kernel
theorem dX6_isUnder_13 : decode cX6_isUnder 13 = .ok (.if_icmp .ne 13, 3) := by decide +kernel
theorem dX6_isUnder_16 : decode cX6_isUnder 16 = .ok (.iload_n 0, 1) := by decide +kernel
theorem dX6_isUnder_17 : decode cX6_isUnder 17 = .ok (.iconst 3, 1) := by decide +kernel
theorem dX6_isUnder_18 : decode cX6_isUnder 18 = .ok (.if_icmp .eq 18, 3) := by decide +kernel
theorem dX6_isUnder_21 : decode cX6_isUnder 21 = .ok (.iload_n 0, 1) := by decide +kernel
theorem dX6_isUnder_22 : decode cX6_isUnder 22 = .ok (.iconst 5, 1) := by decide +kernel
theorem dX6_isUnder_23 : decode cX6_isUnder 23 = .ok (.if_icmp .eq 13, 3) := by decide +kernel
theorem dX6_isUnder_26 : decode cX6_isUnder 26 = .ok (.iload_n 1, 1) := by decide +kernel
theorem dX6_isUnder_27 : decode cX6_isUnder 27 = .ok (.iconst 1, 1) := by decide +kernel
theorem dX6_isUnder_28 : decode cX6_isUnder 28 = .ok (.if_icmp .ne 12, 3) := by decide +kernel
theorem dX6_isUnder_31 : decode cX6_isUnder 31 = .ok (.iload_n 0, 1) := by decide +kernel
theorem dX6_isUnder_32 : decode cX6_isUnder 32 = .ok (.iconst 4, 1) := by decide +kernel
theorem dX6_isUnder_33 : decode cX6_isUnder 33 = .ok (.if_icmp .ne 7, 3) := by decide +kernel
theorem dX6_isUnder_36 : decode cX6_isUnder 36 = .ok (.iconst 1, 1) := by decide +kernel
theorem dX6_isUnder_37 : decode cX6_isUnder 37 = .ok (.goto 4, 3) := by decide +kernel
theorem dX6_isUnder_40 : decode cX6_isUnder 40 = .ok (.iconst 0, 1) := by decide +kernel
theorem dX6_isUnder_41 : decode cX6_isUnder 41 = .ok (.ireturn, 1) := by decide +kernel
def fX6_isUnder_26 (x0 : Int32) (x1 : Int32) (s : SS) : Option (Int32 × SS) := if x1 = (1 : Int32) then (if x0 = (4 : Int32) then (some ((1 : Int32), s)) else (some ((0 : Int32), s))) else (some ((0 : Int32), s))
def fX6_isUnder_0 (x0 : Int32) (x1 : Int32) (s : SS) : Option (Int32 × SS) := if x1 = 0 then (some ((1 : Int32), s)) else (if x0 = x1 then (some ((1 : Int32), s)) else (if x1 = (2 : Int32) then (if x0 = (3 : Int32) then (some ((1 : Int32), s)) else (if x0 = (5 : Int32) then (some ((1 : Int32), s)) else (fX6_isUnder_26 x0 x1 s))) else (fX6_isUnder_26 x0 x1 s)))
def fX6_isUnder (x0 : Int32) (x1 : Int32) (s : SS) : Option (Int32 × SS) := fX6_isUnder_0 x0 x1 s
set_option maxRecDepth 100000 in
set_option maxHeartbeats 4000000 in
theorem okX6_isUnder_26 {G : GG} {pl : Nat → Nat} {h0 : PH} (x0 : Int32) (x1 : Int32) (s : SS) : EvF G 0 mX6_isUnder ly pl h0 rvI (fX6_isUnder_26 x0 x1 s) 26 [(0, .int x0), (1, .int x1)] [] s := by
  unfold fX6_isUnder_26
  refine ef_iload_n (q := 27) 1 dX6_isUnder_26 rfl rfl rfl ?_
  refine ef_iconst (v := (1 : Int32)) (q := 28) dX6_isUnder_27 (by decide) rfl ?_
  refine ef_if (pt := 31) (pf := 40) (fun _ _ kt kf => ev_icmp_ne (tgt := 40) dX6_isUnder_28 (by decide) kf kt) (fun h1 => ?_) (fun h1 => ?_)
  · refine ef_iload_n (q := 32) 0 dX6_isUnder_31 rfl rfl rfl ?_
    refine ef_iconst (v := (4 : Int32)) (q := 33) dX6_isUnder_32 (by decide) rfl ?_
    refine ef_if (pt := 36) (pf := 40) (fun _ _ kt kf => ev_icmp_ne (tgt := 40) dX6_isUnder_33 (by decide) kf kt) (fun h2 => ?_) (fun h2 => ?_)
    · refine ef_iconst (v := (1 : Int32)) (q := 37) dX6_isUnder_36 (by decide) rfl ?_
      refine ef_goto (tgt := 41) dX6_isUnder_37 (by decide) ?_
      exact ef_zretc (x := (1 : Int32)) (by decide) rfl dX6_isUnder_41
    · refine ef_iconst (v := (0 : Int32)) (q := 41) dX6_isUnder_40 (by decide) rfl ?_
      exact ef_zretc (x := (0 : Int32)) (by decide) rfl dX6_isUnder_41
  · refine ef_iconst (v := (0 : Int32)) (q := 41) dX6_isUnder_40 (by decide) rfl ?_
    exact ef_zretc (x := (0 : Int32)) (by decide) rfl dX6_isUnder_41
set_option maxRecDepth 100000 in
set_option maxHeartbeats 4000000 in
theorem okX6_isUnder_0 {G : GG} {pl : Nat → Nat} {h0 : PH} (x0 : Int32) (x1 : Int32) (s : SS) : EvF G 0 mX6_isUnder ly pl h0 rvI (fX6_isUnder_0 x0 x1 s) 0 [(0, .int x0), (1, .int x1)] [] s := by
  unfold fX6_isUnder_0
  refine ef_iload_n (q := 1) 1 dX6_isUnder_0 rfl rfl rfl ?_
  refine ef_if (pt := 9) (pf := 4) (fun _ _ => ev_if_eq (tgt := 9) dX6_isUnder_1 (by decide)) (fun h1 => ?_) (fun h1 => ?_)
  · refine ef_iconst (v := (1 : Int32)) (q := 10) dX6_isUnder_9 (by decide) rfl ?_
    exact ef_zretc (x := (1 : Int32)) (by decide) rfl dX6_isUnder_10
  · refine ef_iload_n (q := 5) 0 dX6_isUnder_4 rfl rfl rfl ?_
    refine ef_iload_n (q := 6) 1 dX6_isUnder_5 rfl rfl rfl ?_
    refine ef_if (pt := 9) (pf := 11) (fun _ _ kt kf => ev_icmp_ne (tgt := 11) dX6_isUnder_6 (by decide) kf kt) (fun h2 => ?_) (fun h2 => ?_)
    · refine ef_iconst (v := (1 : Int32)) (q := 10) dX6_isUnder_9 (by decide) rfl ?_
      exact ef_zretc (x := (1 : Int32)) (by decide) rfl dX6_isUnder_10
    · refine ef_iload_n (q := 12) 1 dX6_isUnder_11 rfl rfl rfl ?_
      refine ef_iconst (v := (2 : Int32)) (q := 13) dX6_isUnder_12 (by decide) rfl ?_
      refine ef_if (pt := 16) (pf := 26) (fun _ _ kt kf => ev_icmp_ne (tgt := 26) dX6_isUnder_13 (by decide) kf kt) (fun h3 => ?_) (fun h3 => ?_)
      · refine ef_iload_n (q := 17) 0 dX6_isUnder_16 rfl rfl rfl ?_
        refine ef_iconst (v := (3 : Int32)) (q := 18) dX6_isUnder_17 (by decide) rfl ?_
        refine ef_if (pt := 36) (pf := 21) (fun _ _ => ev_icmp_eq (tgt := 36) dX6_isUnder_18 (by decide)) (fun h4 => ?_) (fun h4 => ?_)
        · refine ef_iconst (v := (1 : Int32)) (q := 37) dX6_isUnder_36 (by decide) rfl ?_
          refine ef_goto (tgt := 41) dX6_isUnder_37 (by decide) ?_
          exact ef_zretc (x := (1 : Int32)) (by decide) rfl dX6_isUnder_41
        · refine ef_iload_n (q := 22) 0 dX6_isUnder_21 rfl rfl rfl ?_
          refine ef_iconst (v := (5 : Int32)) (q := 23) dX6_isUnder_22 (by decide) rfl ?_
          refine ef_if (pt := 36) (pf := 26) (fun _ _ => ev_icmp_eq (tgt := 36) dX6_isUnder_23 (by decide)) (fun h5 => ?_) (fun h5 => ?_)
          · refine ef_iconst (v := (1 : Int32)) (q := 37) dX6_isUnder_36 (by decide) rfl ?_
            refine ef_goto (tgt := 41) dX6_isUnder_37 (by decide) ?_
            exact ef_zretc (x := (1 : Int32)) (by decide) rfl dX6_isUnder_41
          · refine ef_sub (lv' := [(0, .int x0), (1, .int x1)]) [0, 1] rfl ?_
            exact okX6_isUnder_26 x0 x1 s
      · refine ef_sub (lv' := [(0, .int x0), (1, .int x1)]) [0, 1] rfl ?_
        exact okX6_isUnder_26 x0 x1 s
theorem okX6_isUnder (x0 : Int32) (x1 : Int32) : MtF 0 mX6_isUnder ly rvI (fun _ pl => [.int x0, .int x1]) (fX6_isUnder x0 x1) := by
  refine MtF.of (by decide +kernel) rfl (fun _ pl => Nat.le_of_ble_eq_true rfl) (fun G pl h0 s => ?_)
  refine ef_sub (lv := [(0, .int x0), (1, .int x1)]) (lv' := [(0, .int x0), (1, .int x1)]) [0, 1] rfl ?_
  exact okX6_isUnder_0  x0 x1 s
-- X6_becomeSides
theorem dX6_becomeSides_0 : decode cX6_becomeSides 0 = .ok (.aload_n 0, 1) := by decide +kernel
theorem dX6_becomeSides_1 : decode cX6_becomeSides 1 = .ok (.iload_n 1, 1) := by decide +kernel
theorem dX6_becomeSides_2 : decode cX6_becomeSides 2 = .ok (.putfield 37, 3) := by decide +kernel
theorem dX6_becomeSides_5 : decode cX6_becomeSides 5 = .ok (.aload_n 0, 1) := by decide +kernel
theorem dX6_becomeSides_6 : decode cX6_becomeSides 6 = .ok (.iconst 0, 1) := by decide +kernel
theorem dX6_becomeSides_7 : decode cX6_becomeSides 7 = .ok (.putfield 126, 3) := by decide +kernel
theorem dX6_becomeSides_10 : decode cX6_becomeSides 10 = .ok (.aload_n 0, 1) := by decide +kernel
theorem dX6_becomeSides_11 : decode cX6_becomeSides 11 = .ok (.dup, 1) := by decide +kernel
theorem dX6_becomeSides_12 : decode cX6_becomeSides 12 = .ok (.getfield 129, 3) := by decide +kernel
theorem dX6_becomeSides_15 : decode cX6_becomeSides 15 = .ok (.iconst 1, 1) := by decide +kernel
theorem dX6_becomeSides_16 : decode cX6_becomeSides 16 = .ok (.iload_n 1, 1) := by decide +kernel
theorem dX6_becomeSides_17 : decode cX6_becomeSides 17 = .ok (.ishl, 1) := by decide +kernel
theorem dX6_becomeSides_18 : decode cX6_becomeSides 18 = .ok (.iconst 1, 1) := by decide +kernel
theorem dX6_becomeSides_19 : decode cX6_becomeSides 19 = .ok (.isub, 1) := by decide +kernel
theorem dX6_becomeSides_20 : decode cX6_becomeSides 20 = .ok (.iand, 1) := by decide +kernel
theorem dX6_becomeSides_21 : decode cX6_becomeSides 21 = .ok (.putfield 129, 3) := by decide +kernel
theorem dX6_becomeSides_24 : decode cX6_becomeSides 24 = .ok (.return_, 1) := by decide +kernel
def fX6_becomeSides_0 (x1 : Int32) (s : SS) : Option (Unit × SS) := some ((), wrI (wrI (wrI s 0 9 x1) 0 15 (0 : Int32)) 0 16 ((s.1 0 16) &&& (((1 : Int32) <<< (x1 &&& 31)) - (1 : Int32))))
def fX6_becomeSides (x1 : Int32) (s : SS) : Option (Unit × SS) := fX6_becomeSides_0 x1 s
set_option maxRecDepth 100000 in
set_option maxHeartbeats 4000000 in
theorem okX6_becomeSides_0 {G : GG} {pl : Nat → Nat} {h0 : PH} (x1 : Int32) (s : SS) : EvF G 0 mX6_becomeSides lyR pl h0 rvU (fX6_becomeSides_0 x1 s) 0 [(0, .ref (pl 0)), (1, .int x1)] [] s := by
  unfold fX6_becomeSides_0
  refine ef_aload_n (q := 1) 0 dX6_becomeSides_0 rfl rfl rfl ?_
  refine ef_iload_n (q := 2) 1 dX6_becomeSides_1 rfl rfl rfl ?_
  refine ef_putI (q := 5) rfl fl6_37 rfl rfl dX6_becomeSides_2 rfl ?_
  refine ef_aload_n (q := 6) 0 dX6_becomeSides_5 rfl rfl rfl ?_
  refine ef_iconst (v := (0 : Int32)) (q := 7) dX6_becomeSides_6 (by decide) rfl ?_
  refine ef_putI (q := 10) rfl fl6_126 rfl rfl dX6_becomeSides_7 rfl ?_
  refine ef_aload_n (q := 11) 0 dX6_becomeSides_10 rfl rfl rfl ?_
  refine ef_dup (q := 12) dX6_becomeSides_11 rfl rfl ?_
  refine ef_getI (x := s.1 0 16) (q := 15) rfl fl6_129 rfl rfl dX6_becomeSides_12 rfl ?_
  refine ef_iconst (v := (1 : Int32)) (q := 16) dX6_becomeSides_15 (by decide) rfl ?_
  refine ef_iload_n (q := 17) 1 dX6_becomeSides_16 rfl rfl rfl ?_
  refine ef_ishl (q := 18) dX6_becomeSides_17 rfl ?_
  refine ef_iconst (v := (1 : Int32)) (q := 19) dX6_becomeSides_18 (by decide) rfl ?_
  refine ef_isub (q := 20) dX6_becomeSides_19 rfl ?_
  refine ef_iand (q := 21) dX6_becomeSides_20 rfl ?_
  refine ef_putI (q := 24) rfl fl6_129 rfl rfl dX6_becomeSides_21 rfl ?_
  exact ef_vret rfl dX6_becomeSides_24
theorem okX6_becomeSides (x1 : Int32) : MtF 0 mX6_becomeSides lyR rvU (fun _ pl => [.ref (pl 0), .int x1]) (fX6_becomeSides x1) := by
  refine MtF.of (by decide +kernel) rfl (fun _ pl => Nat.le_of_ble_eq_true rfl) (fun G pl h0 s => ?_)
  refine ef_sub (lv := [(0, .ref (pl 0)), (1, .int x1)]) (lv' := [(0, .ref (pl 0)), (1, .int x1)]) [0, 1] rfl ?_
  exact okX6_becomeSides_0  x1 s
-- X6_sides
theorem dX6_sides_0 : decode cX6_sides 0 = .ok (.iload_n 1, 1) := by decide +kernel
theorem dX6_sides_1 : decode cX6_sides 1 = .ok (.i2l, 1) := by decide +kernel
theorem dX6_sides_2 : decode cX6_sides 2 = .ok (.ldc2_w 132, 3) := by decide +kernel
theorem dX6_sides_5 : decode cX6_sides 5 = .ok (.ldc2_w 134, 3) := by decide +kernel
theorem dX6_sides_8 : decode cX6_sides 8 = .ok (.invokestatic 89, 3) := by decide +kernel
theorem dX6_sides_11 : decode cX6_sides 11 = .ok (.ifCond .ne 10, 3) := by decide +kernel
theorem dX6_sides_14 : decode cX6_sides 14 = .ok (.aload_n 0, 1) := by decide +kernel
theorem dX6_sides_15 : decode cX6_sides 15 = .ok (.bipush (-2), 2) := by decide +kernel
theorem dX6_sides_17 : decode cX6_sides 17 = .ok (.invokevirtual 102, 3) := by decide +kernel
theorem dX6_sides_20 : decode cX6_sides 20 = .ok (.ireturn, 1) := by decide +kernel
theorem dX6_sides_21 : decode cX6_sides 21 = .ok (.aload_n 0, 1) := by decide +kernel
theorem dX6_sides_22 : decode cX6_sides 22 = .ok (.getfield 93, 3) := by decide +kernel
theorem dX6_sides_25 : decode cX6_sides 25 = .ok (.ifCond .le 10, 3) := by decide +kernel
theorem dX6_sides_28 : decode cX6_sides 28 = .ok (.aload_n 0, 1) := by decide +kernel
theorem dX6_sides_29 : decode cX6_sides 29 = .ok (.bipush (-5), 2) := by decide +kernel
theorem dX6_sides_31 : decode cX6_sides 31 = .ok (.invokevirtual 102, 3) := by decide +kernel
theorem dX6_sides_34 : decode cX6_sides 34 = .ok (.ireturn, 1) := by decide +kernel
theorem dX6_sides_35 : decode cX6_sides 35 = .ok (.aload_n 0, 1) := by decide +kernel
theorem dX6_sides_36 : decode cX6_sides 36 = .ok (.getfield 37, 3) := by decide +kernel
theorem dX6_sides_39 : decode cX6_sides 39 = .ok (.istore_n 2, 1) := by decide +kernel
theorem dX6_sides_40 : decode cX6_sides 40 = .ok (.aload_n 0, 1) := by decide +kernel
theorem dX6_sides_41 : decode cX6_sides 41 = .ok (.iload_n 1, 1) := by decide +kernel
theorem dX6_sides_42 : decode cX6_sides 42 = .ok (.invokevirtual 136, 3) := by decide +kernel
theorem dX6_sides_45 : decode cX6_sides 45 = .ok (.iload_n 2, 1) := by decide +kernel
theorem dX6_sides_46 : decode cX6_sides 46 = .ok (.ireturn, 1) := by decide +kernel
def fX6_sides_0 (x1 : Int32) (s : SS) : Option (Int32 × SS) := ((fX6_in x1.toInt64 (3 : Int64) (8 : Int64) s).bind fun z1 => if z1.1 = 0 then (((fX6_refuse (-2 : Int32) s).bind fun z3 => some (z3.1, z3.2))) else (if (s.1 0 10) ≤ 0 then (((fX6_becomeSides x1 s).bind fun z5 => some (s.1 0 9, z5.2))) else (((fX6_refuse (-5 : Int32) s).bind fun z6 => some (z6.1, z6.2)))))
def fX6_sides (x1 : Int32) (s : SS) : Option (Int32 × SS) := fX6_sides_0 x1 s
set_option maxRecDepth 100000 in
set_option maxHeartbeats 4000000 in
theorem okX6_sides_0 {G : GG} {pl : Nat → Nat} {h0 : PH} (x1 : Int32) (s : SS) : EvF G 1 mX6_sides lyR pl h0 rvI (fX6_sides_0 x1 s) 0 [(0, .ref (pl 0)), (1, .int x1)] [] s := by
  unfold fX6_sides_0
  refine ef_iload_n (q := 1) 1 dX6_sides_0 rfl rfl rfl ?_
  refine ef_i2l (v := x1.toInt64) (q := 2) dX6_sides_1 rfl rfl ?_
  refine ef_ldc2 (v := (3 : Int64)) (q := 5) k6_132 dX6_sides_2 rfl ?_
  refine ef_ldc2 (v := (8 : Int64)) (q := 8) k6_134 dX6_sides_5 rfl ?_
  refine ef_invPI0 (As := [.long x1.toInt64, .long (3 : Int64), .long (8 : Int64)]) (rest := []) (q := 11) (okX6_in x1.toInt64 (3 : Int64) (8 : Int64)) rfl calX6_in ml6_89 (by decide) rfl rfl (Nat.le_of_ble_eq_true rfl) dX6_sides_8 rfl (fun z1 => ?_)
  refine ef_if (pt := 14) (pf := 21) (fun _ _ kt kf => ev_if_ne (tgt := 21) dX6_sides_11 (by decide) kf kt) (fun h2 => ?_) (fun h2 => ?_)
  · refine ef_aload_n (q := 15) 0 dX6_sides_14 rfl rfl rfl ?_
    refine ef_bipush (v := (-2 : Int32)) (q := 17) dX6_sides_15 (by decide) rfl ?_
    refine ef_invVI0 (k := 0) (As := [.int (-2 : Int32)]) (rest := []) (q := 20) (okX6_refuse (-2 : Int32)) rfl calX6_refuse ml6_102 (by decide) rfl rfl rfl (Nat.le_of_ble_eq_true rfl) dX6_sides_17 rfl (fun z3 => ?_)
    exact ef_iret rfl dX6_sides_20
  · refine ef_aload_n (q := 22) 0 dX6_sides_21 rfl rfl rfl ?_
    refine ef_getI (x := s.1 0 10) (q := 25) rfl fl6_93 rfl rfl dX6_sides_22 rfl ?_
    refine ef_if (pt := 35) (pf := 28) (fun _ _ => ev_if_le (tgt := 35) dX6_sides_25 (by decide)) (fun h4 => ?_) (fun h4 => ?_)
    · refine ef_aload_n (q := 36) 0 dX6_sides_35 rfl rfl rfl ?_
      refine ef_getI (x := s.1 0 9) (q := 39) rfl fl6_37 rfl rfl dX6_sides_36 rfl ?_
      refine ef_istore_n (lv' := [(2, .int (s.1 0 9)), (0, .ref (pl 0)), (1, .int x1)]) (q := 40) dX6_sides_39 rfl (by decide) rfl rfl ?_
      refine ef_aload_n (q := 41) 1 dX6_sides_40 rfl rfl rfl ?_
      refine ef_iload_n (q := 42) 2 dX6_sides_41 rfl rfl rfl ?_
      refine ef_invVU0 (k := 0) (As := [.int x1]) (rest := []) (q := 45) (okX6_becomeSides x1) rfl calX6_becomeSides ml6_136 (by decide) rfl rfl rfl (Nat.le_of_ble_eq_true rfl) dX6_sides_42 rfl (fun z5 => ?_)
      refine ef_iload_n (q := 46) 0 dX6_sides_45 rfl rfl rfl ?_
      exact ef_iret rfl dX6_sides_46
    · refine ef_aload_n (q := 29) 0 dX6_sides_28 rfl rfl rfl ?_
      refine ef_bipush (v := (-5 : Int32)) (q := 31) dX6_sides_29 (by decide) rfl ?_
      refine ef_invVI0 (k := 0) (As := [.int (-5 : Int32)]) (rest := []) (q := 34) (okX6_refuse (-5 : Int32)) rfl calX6_refuse ml6_102 (by decide) rfl rfl rfl (Nat.le_of_ble_eq_true rfl) dX6_sides_31 rfl (fun z6 => ?_)
      exact ef_iret rfl dX6_sides_34
theorem okX6_sides (x1 : Int32) : MtF 1 mX6_sides lyR rvI (fun _ pl => [.ref (pl 0), .int x1]) (fX6_sides x1) := by
  refine MtF.of (by decide +kernel) rfl (fun _ pl => Nat.le_of_ble_eq_true rfl) (fun G pl h0 s => ?_)
  refine ef_sub (lv := [(0, .ref (pl 0)), (1, .int x1)]) (lv' := [(0, .ref (pl 0)), (1, .int x1)]) [0, 1] rfl ?_
  exact okX6_sides_0  x1 s
-- X6_addScoop
theorem dX6_addScoop_0 : decode cX6_addScoop 0 = .ok (.aload_n 0, 1) := by decide +kernel
theorem dX6_addScoop_1 : decode cX6_addScoop 1 = .ok (.getfield 41, 3) := by decide +kernel
theorem dX6_addScoop_4 : decode cX6_addScoop 4 = .ok (.aload_n 0, 1) := by decide +kernel
theorem dX6_addScoop_5 : decode cX6_addScoop 5 = .ok (.getfield 93, 3) := by decide +kernel
theorem dX6_addScoop_8 : decode cX6_addScoop 8 = .ok (.iload_n 1, 1) := by decide +kernel
theorem dX6_addScoop_9 : decode cX6_addScoop 9 = .ok (.iastore, 1) := by decide +kernel
theorem dX6_addScoop_10 : decode cX6_addScoop 10 = .ok (.aload_n 0, 1) := by decide +kernel
theorem dX6_addScoop_11 : decode cX6_addScoop 11 = .ok (.getfield 44, 3) := by decide +kernel
theorem dX6_addScoop_14 : decode cX6_addScoop 14 = .ok (.aload_n 0, 1) := by decide +kernel
theorem dX6_addScoop_15 : decode cX6_addScoop 15 = .ok (.getfield 93, 3) := by decide +kernel
theorem dX6_addScoop_18 : decode cX6_addScoop 18 = .ok (.iload_n 2, 1) := by decide +kernel
theorem dX6_addScoop_19 : decode cX6_addScoop 19 = .ok (.iastore, 1) := by decide +kernel
theorem dX6_addScoop_20 : decode cX6_addScoop 20 = .ok (.iconst 0, 1) := by decide +kernel
theorem dX6_addScoop_21 : decode cX6_addScoop 21 = .ok (.istore_n 3, 1) := by decide +kernel
theorem dX6_addScoop_22 : decode cX6_addScoop 22 = .ok (.iload_n 3, 1) := by decide +kernel
theorem dX6_addScoop_23 : decode cX6_addScoop 23 = .ok (.bipush 8, 2) := by decide +kernel
theorem dX6_addScoop_25 : decode cX6_addScoop 25 = .ok (.if_icmp .ge 21, 3) := by decide +kernel
theorem dX6_addScoop_28 : decode cX6_addScoop 28 = .ok (.aload_n 0, 1) := by decide +kernel
theorem dX6_addScoop_29 : decode cX6_addScoop 29 = .ok (.getfield 49, 3) := by decide +kernel
theorem dX6_addScoop_32 : decode cX6_addScoop 32 = .ok (.aload_n 0, 1) := by decide +kernel
theorem dX6_addScoop_33 : decode cX6_addScoop 33 = .ok (.getfield 93, 3) := by decide +kernel
theorem dX6_addScoop_36 : decode cX6_addScoop 36 = .ok (.aaload, 1) := by decide +kernel
theorem dX6_addScoop_37 : decode cX6_addScoop 37 = .ok (.iload_n 3, 1) := by decide +kernel
theorem dX6_addScoop_38 : decode cX6_addScoop 38 = .ok (.iconst 0, 1) := by decide +kernel
theorem dX6_addScoop_39 : decode cX6_addScoop 39 = .ok (.iastore, 1) := by decide +kernel
theorem dX6_addScoop_40 : decode cX6_addScoop 40 = .ok (.iinc 3 1, 3) := by decide +kernel
theorem dX6_addScoop_43 : decode cX6_addScoop 43 = .ok (.goto (-21), 3) := by decide +kernel
theorem dX6_addScoop_46 : decode cX6_addScoop 46 = .ok (.aload_n 0, 1) := by decide +kernel
theorem dX6_addScoop_47 : decode cX6_addScoop 47 = .ok (.dup, 1) := by decide +kernel
theorem dX6_addScoop_48 : decode cX6_addScoop 48 = .ok (.getfield 93, 3) := by decide +kernel
theorem dX6_addScoop_51 : decode cX6_addScoop 51 = .ok (.iconst 1, 1) := by decide +kernel
theorem dX6_addScoop_52 : decode cX6_addScoop 52 = .ok (.iadd, 1) := by decide +kernel
theorem dX6_addScoop_53 : decode cX6_addScoop 53 = .ok (.putfield 93, 3) := by decide +kernel
theorem dX6_addScoop_56 : decode cX6_addScoop 56 = .ok (.return_, 1) := by decide +kernel
def fX6_addScoop_22 : Nat → Int32 → SS → Option (Unit × SS)
  | 0, _, _ => none
  | n + 1, x3, s => if (8 : Int32) ≤ x3 then (some ((), wrI s 0 10 ((s.1 0 10) + (1 : Int32)))) else (if ixB (s.1 0 10) 3 then (if ixB x3 8 then (fX6_addScoop_22 n (x3 + (1 : Int32)) (wrI s (20 + ((s.1 0 10).toNatClampNeg)) x3.toNatClampNeg (0 : Int32))) else none) else none)
def fX6_addScoop_0 (x1 : Int32) (x2 : Int32) (s : SS) : Option (Unit × SS) := if ixB (s.1 0 10) 3 then (if ixB (s.1 0 10) 3 then (fX6_addScoop_22 FU (0 : Int32) (wrI (wrI s 17 ((s.1 0 10).toNatClampNeg) x1) 18 ((s.1 0 10).toNatClampNeg) x2)) else none) else none
def fX6_addScoop (x1 : Int32) (x2 : Int32) (s : SS) : Option (Unit × SS) := fX6_addScoop_0 x1 x2 s
set_option maxRecDepth 100000 in
set_option maxHeartbeats 4000000 in
theorem okX6_addScoop_22 {G : GG} {pl : Nat → Nat} {h0 : PH} : ∀ (n : Nat) (x3 : Int32) (s : SS), EvF G 0 mX6_addScoop lyR pl h0 rvU (fX6_addScoop_22 n x3 s) 22 [(0, .ref (pl 0)), (3, .int x3)] [] s := by
  intro n
  induction n with
  | zero => intro x3 s; rw [fX6_addScoop_22]; exact ef_none
  | succ n ih =>
    intro x3 s
    rw [fX6_addScoop_22]
    refine ef_iload_n (q := 23) 1 dX6_addScoop_22 rfl rfl rfl ?_
    refine ef_bipush (v := (8 : Int32)) (q := 25) dX6_addScoop_23 (by decide) rfl ?_
    refine ef_if (pt := 46) (pf := 28) (fun _ _ => ev_icmp_ge (tgt := 46) dX6_addScoop_25 (by decide)) (fun h1 => ?_) (fun h1 => ?_)
    · refine ef_aload_n (q := 47) 0 dX6_addScoop_46 rfl rfl rfl ?_
      refine ef_dup (q := 48) dX6_addScoop_47 rfl rfl ?_
      refine ef_getI (x := s.1 0 10) (q := 51) rfl fl6_93 rfl rfl dX6_addScoop_48 rfl ?_
      refine ef_iconst (v := (1 : Int32)) (q := 52) dX6_addScoop_51 (by decide) rfl ?_
      refine ef_iadd (q := 53) dX6_addScoop_52 rfl ?_
      refine ef_putI (q := 56) rfl fl6_93 rfl rfl dX6_addScoop_53 rfl ?_
      exact ef_vret rfl dX6_addScoop_56
    · refine ef_aload_n (q := 29) 0 dX6_addScoop_28 rfl rfl rfl ?_
      refine ef_getR (t := 19) (q := 32) rfl fl6_49 rfl rfl dX6_addScoop_29 rfl ?_
      refine ef_aload_n (q := 33) 0 dX6_addScoop_32 rfl rfl rfl ?_
      refine ef_getI (x := s.1 0 10) (q := 36) rfl fl6_93 rfl rfl dX6_addScoop_33 rfl ?_
      refine ef_guard (fun g2 => ?_)
      refine ef_aaload (t0 := 20 + ((s.1 0 10).toNatClampNeg)) (q := 37) rfl (by decide) lyR_t19 g2 dX6_addScoop_36 rfl rfl ?_
      refine ef_iload_n (q := 38) 1 dX6_addScoop_37 rfl rfl rfl ?_
      refine ef_iconst (v := (0 : Int32)) (q := 39) dX6_addScoop_38 (by decide) rfl ?_
      refine ef_guard (fun g3 => ?_)
      refine ef_iastore (j := x3.toNatClampNeg) (q := 40) (lyR_f19_0 _ (ixB_lt g2)) g3 dX6_addScoop_39 rfl rfl ?_
      refine ef_iinc (v := x3 + (1 : Int32)) (lv' := [(3, .int (x3 + (1 : Int32))), (0, .ref (pl 0))]) (q := 43) 1 dX6_addScoop_40 rfl rfl (by decide) rfl rfl ?_
      refine ef_goto (tgt := 22) dX6_addScoop_43 (by decide) ?_
      refine ef_sub (lv' := [(0, .ref (pl 0)), (3, .int (x3 + (1 : Int32)))]) [1, 0] rfl ?_
      exact ih (x3 + (1 : Int32)) (wrI s (20 + ((s.1 0 10).toNatClampNeg)) x3.toNatClampNeg (0 : Int32))
set_option maxRecDepth 100000 in
set_option maxHeartbeats 4000000 in
theorem okX6_addScoop_0 {G : GG} {pl : Nat → Nat} {h0 : PH} (x1 : Int32) (x2 : Int32) (s : SS) : EvF G 0 mX6_addScoop lyR pl h0 rvU (fX6_addScoop_0 x1 x2 s) 0 [(0, .ref (pl 0)), (1, .int x1), (2, .int x2)] [] s := by
  unfold fX6_addScoop_0
  refine ef_aload_n (q := 1) 0 dX6_addScoop_0 rfl rfl rfl ?_
  refine ef_getR (t := 17) (q := 4) rfl fl6_41 rfl rfl dX6_addScoop_1 rfl ?_
  refine ef_aload_n (q := 5) 0 dX6_addScoop_4 rfl rfl rfl ?_
  refine ef_getI (x := s.1 0 10) (q := 8) rfl fl6_93 rfl rfl dX6_addScoop_5 rfl ?_
  refine ef_iload_n (q := 9) 1 dX6_addScoop_8 rfl rfl rfl ?_
  refine ef_guard (fun g1 => ?_)
  refine ef_iastore (j := (s.1 0 10).toNatClampNeg) (q := 10) rfl g1 dX6_addScoop_9 rfl rfl ?_
  refine ef_aload_n (q := 11) 0 dX6_addScoop_10 rfl rfl rfl ?_
  refine ef_getR (t := 18) (q := 14) rfl fl6_44 rfl rfl dX6_addScoop_11 rfl ?_
  refine ef_aload_n (q := 15) 0 dX6_addScoop_14 rfl rfl rfl ?_
  refine ef_getI (x := s.1 0 10) (q := 18) rfl fl6_93 rfl rfl dX6_addScoop_15 rfl ?_
  refine ef_iload_n (q := 19) 2 dX6_addScoop_18 rfl rfl rfl ?_
  refine ef_guard (fun g2 => ?_)
  refine ef_iastore (j := (s.1 0 10).toNatClampNeg) (q := 20) rfl g2 dX6_addScoop_19 rfl rfl ?_
  refine ef_iconst (v := (0 : Int32)) (q := 21) dX6_addScoop_20 (by decide) rfl ?_
  refine ef_istore_n (lv' := [(3, .int (0 : Int32)), (0, .ref (pl 0)), (1, .int x1), (2, .int x2)]) (q := 22) dX6_addScoop_21 rfl (by decide) rfl rfl ?_
  refine ef_sub (lv' := [(0, .ref (pl 0)), (3, .int (0 : Int32))]) [1, 0] rfl ?_
  exact okX6_addScoop_22 FU (0 : Int32) (wrI (wrI s 17 ((s.1 0 10).toNatClampNeg) x1) 18 ((s.1 0 10).toNatClampNeg) x2)
theorem okX6_addScoop (x1 : Int32) (x2 : Int32) : MtF 0 mX6_addScoop lyR rvU (fun _ pl => [.ref (pl 0), .int x1, .int x2]) (fX6_addScoop x1 x2) := by
  refine MtF.of (by decide +kernel) rfl (fun _ pl => Nat.le_of_ble_eq_true rfl) (fun G pl h0 s => ?_)
  refine ef_sub (lv := [(0, .ref (pl 0)), (1, .int x1), (2, .int x2)]) (lv' := [(0, .ref (pl 0)), (1, .int x1), (2, .int x2)]) [0, 1, 2] rfl ?_
  exact okX6_addScoop_0  x1 x2 s
-- X6_scoop
theorem dX6_scoop_0 : decode cX6_scoop 0 = .ok (.iload_n 1, 1) := by decide +kernel
theorem dX6_scoop_1 : decode cX6_scoop 1 = .ok (.i2l, 1) := by decide +kernel
theorem dX6_scoop_2 : decode cX6_scoop 2 = .ok (.lconst 0, 1) := by decide +kernel
theorem dX6_scoop_3 : decode cX6_scoop 3 = .ok (.ldc2_w 140, 3) := by decide +kernel
theorem dX6_scoop_6 : decode cX6_scoop 6 = .ok (.invokestatic 89, 3) := by decide +kernel
theorem dX6_scoop_9 : decode cX6_scoop 9 = .ok (.ifCond .eq 15, 3) := by decide +kernel
theorem dX6_scoop_12 : decode cX6_scoop 12 = .ok (.iload_n 2, 1) := by decide +kernel
theorem dX6_scoop_13 : decode cX6_scoop 13 = .ok (.i2l, 1) := by decide +kernel
theorem dX6_scoop_14 : decode cX6_scoop 14 = .ok (.lconst 0, 1) := by decide +kernel
theorem dX6_scoop_15 : decode cX6_scoop 15 = .ok (.ldc2_w 142, 3) := by decide +kernel
theorem dX6_scoop_18 : decode cX6_scoop 18 = .ok (.invokestatic 89, 3) := by decide +kernel
theorem dX6_scoop_21 : decode cX6_scoop 21 = .ok (.ifCond .ne 10, 3) := by decide +kernel
theorem dX6_scoop_24 : decode cX6_scoop 24 = .ok (.aload_n 0, 1) := by decide +kernel
theorem dX6_scoop_25 : decode cX6_scoop 25 = .ok (.bipush (-2), 2) := by decide +kernel
theorem dX6_scoop_27 : decode cX6_scoop 27 = .ok (.invokevirtual 102, 3) := by decide +kernel
theorem dX6_scoop_30 : decode cX6_scoop 30 = .ok (.ireturn, 1) := by decide +kernel
theorem dX6_scoop_31 : decode cX6_scoop 31 = .ok (.aload_n 0, 1) := by decide +kernel
theorem dX6_scoop_32 : decode cX6_scoop 32 = .ok (.getfield 93, 3) := by decide +kernel
theorem dX6_scoop_35 : decode cX6_scoop 35 = .ok (.iconst 3, 1) := by decide +kernel
theorem dX6_scoop_36 : decode cX6_scoop 36 = .ok (.if_icmp .ne 10, 3) := by decide +kernel
theorem dX6_scoop_39 : decode cX6_scoop 39 = .ok (.aload_n 0, 1) := by decide +kernel
theorem dX6_scoop_40 : decode cX6_scoop 40 = .ok (.bipush (-6), 2) := by decide +kernel
theorem dX6_scoop_42 : decode cX6_scoop 42 = .ok (.invokevirtual 102, 3) := by decide +kernel
theorem dX6_scoop_45 : decode cX6_scoop 45 = .ok (.ireturn, 1) := by decide +kernel
theorem dX6_scoop_46 : decode cX6_scoop 46 = .ok (.aload_n 0, 1) := by decide +kernel
theorem dX6_scoop_47 : decode cX6_scoop 47 = .ok (.iload_n 1, 1) := by decide +kernel
theorem dX6_scoop_48 : decode cX6_scoop 48 = .ok (.iload_n 2, 1) := by decide +kernel
theorem dX6_scoop_49 : decode cX6_scoop 49 = .ok (.invokevirtual 144, 3) := by decide +kernel
theorem dX6_scoop_52 : decode cX6_scoop 52 = .ok (.aload_n 0, 1) := by decide +kernel
theorem dX6_scoop_53 : decode cX6_scoop 53 = .ok (.getfield 93, 3) := by decide +kernel
theorem dX6_scoop_56 : decode cX6_scoop 56 = .ok (.iconst 1, 1) := by decide +kernel
theorem dX6_scoop_57 : decode cX6_scoop 57 = .ok (.isub, 1) := by decide +kernel
theorem dX6_scoop_58 : decode cX6_scoop 58 = .ok (.ireturn, 1) := by decide +kernel
def fX6_scoop_24 (s : SS) : Option (Int32 × SS) := ((fX6_refuse (-2 : Int32) s).bind fun z1 => some (z1.1, z1.2))
def fX6_scoop_0 (x1 : Int32) (x2 : Int32) (s : SS) : Option (Int32 × SS) := ((fX6_in x1.toInt64 (0 : Int64) (9 : Int64) s).bind fun z1 => if z1.1 = 0 then (fX6_scoop_24 s) else (((fX6_in x2.toInt64 (0 : Int64) (99 : Int64) s).bind fun z3 => if z3.1 = 0 then (fX6_scoop_24 s) else (if (s.1 0 10) = (3 : Int32) then (((fX6_refuse (-6 : Int32) s).bind fun z6 => some (z6.1, z6.2))) else (((fX6_addScoop x1 x2 s).bind fun z7 => some ((z7.2.1 0 10) - (1 : Int32), z7.2)))))))
def fX6_scoop (x1 : Int32) (x2 : Int32) (s : SS) : Option (Int32 × SS) := fX6_scoop_0 x1 x2 s
set_option maxRecDepth 100000 in
set_option maxHeartbeats 4000000 in
theorem okX6_scoop_24 {G : GG} {pl : Nat → Nat} {h0 : PH} (s : SS) : EvF G 1 mX6_scoop lyR pl h0 rvI (fX6_scoop_24 s) 24 [(0, .ref (pl 0))] [] s := by
  unfold fX6_scoop_24
  refine ef_aload_n (q := 25) 0 dX6_scoop_24 rfl rfl rfl ?_
  refine ef_bipush (v := (-2 : Int32)) (q := 27) dX6_scoop_25 (by decide) rfl ?_
  refine ef_invVI0 (k := 0) (As := [.int (-2 : Int32)]) (rest := []) (q := 30) (okX6_refuse (-2 : Int32)) rfl calX6_refuse ml6_102 (by decide) rfl rfl rfl (Nat.le_of_ble_eq_true rfl) dX6_scoop_27 rfl (fun z1 => ?_)
  exact ef_iret rfl dX6_scoop_30
set_option maxRecDepth 100000 in
set_option maxHeartbeats 4000000 in
theorem okX6_scoop_0 {G : GG} {pl : Nat → Nat} {h0 : PH} (x1 : Int32) (x2 : Int32) (s : SS) : EvF G 1 mX6_scoop lyR pl h0 rvI (fX6_scoop_0 x1 x2 s) 0 [(0, .ref (pl 0)), (1, .int x1), (2, .int x2)] [] s := by
  unfold fX6_scoop_0
  refine ef_iload_n (q := 1) 1 dX6_scoop_0 rfl rfl rfl ?_
  refine ef_i2l (v := x1.toInt64) (q := 2) dX6_scoop_1 rfl rfl ?_
  refine ef_lconst (v := (0 : Int64)) (q := 3) dX6_scoop_2 (by decide) rfl ?_
  refine ef_ldc2 (v := (9 : Int64)) (q := 6) k6_140 dX6_scoop_3 rfl ?_
  refine ef_invPI0 (As := [.long x1.toInt64, .long (0 : Int64), .long (9 : Int64)]) (rest := []) (q := 9) (okX6_in x1.toInt64 (0 : Int64) (9 : Int64)) rfl calX6_in ml6_89 (by decide) rfl rfl (Nat.le_of_ble_eq_true rfl) dX6_scoop_6 rfl (fun z1 => ?_)
  refine ef_if (pt := 24) (pf := 12) (fun _ _ => ev_if_eq (tgt := 24) dX6_scoop_9 (by decide)) (fun h2 => ?_) (fun h2 => ?_)
  · refine ef_sub (lv' := [(0, .ref (pl 0))]) [0] rfl ?_
    exact okX6_scoop_24 s
  · refine ef_iload_n (q := 13) 2 dX6_scoop_12 rfl rfl rfl ?_
    refine ef_i2l (v := x2.toInt64) (q := 14) dX6_scoop_13 rfl rfl ?_
    refine ef_lconst (v := (0 : Int64)) (q := 15) dX6_scoop_14 (by decide) rfl ?_
    refine ef_ldc2 (v := (99 : Int64)) (q := 18) k6_142 dX6_scoop_15 rfl ?_
    refine ef_invPI0 (As := [.long x2.toInt64, .long (0 : Int64), .long (99 : Int64)]) (rest := []) (q := 21) (okX6_in x2.toInt64 (0 : Int64) (99 : Int64)) rfl calX6_in ml6_89 (by decide) rfl rfl (Nat.le_of_ble_eq_true rfl) dX6_scoop_18 rfl (fun z3 => ?_)
    refine ef_if (pt := 24) (pf := 31) (fun _ _ kt kf => ev_if_ne (tgt := 31) dX6_scoop_21 (by decide) kf kt) (fun h4 => ?_) (fun h4 => ?_)
    · refine ef_sub (lv' := [(0, .ref (pl 0))]) [0] rfl ?_
      exact okX6_scoop_24 s
    · refine ef_aload_n (q := 32) 0 dX6_scoop_31 rfl rfl rfl ?_
      refine ef_getI (x := s.1 0 10) (q := 35) rfl fl6_93 rfl rfl dX6_scoop_32 rfl ?_
      refine ef_iconst (v := (3 : Int32)) (q := 36) dX6_scoop_35 (by decide) rfl ?_
      refine ef_if (pt := 39) (pf := 46) (fun _ _ kt kf => ev_icmp_ne (tgt := 46) dX6_scoop_36 (by decide) kf kt) (fun h5 => ?_) (fun h5 => ?_)
      · refine ef_aload_n (q := 40) 0 dX6_scoop_39 rfl rfl rfl ?_
        refine ef_bipush (v := (-6 : Int32)) (q := 42) dX6_scoop_40 (by decide) rfl ?_
        refine ef_invVI0 (k := 0) (As := [.int (-6 : Int32)]) (rest := []) (q := 45) (okX6_refuse (-6 : Int32)) rfl calX6_refuse ml6_102 (by decide) rfl rfl rfl (Nat.le_of_ble_eq_true rfl) dX6_scoop_42 rfl (fun z6 => ?_)
        exact ef_iret rfl dX6_scoop_45
      · refine ef_aload_n (q := 47) 0 dX6_scoop_46 rfl rfl rfl ?_
        refine ef_iload_n (q := 48) 1 dX6_scoop_47 rfl rfl rfl ?_
        refine ef_iload_n (q := 49) 2 dX6_scoop_48 rfl rfl rfl ?_
        refine ef_invVU0 (k := 0) (As := [.int x1, .int x2]) (rest := []) (q := 52) (okX6_addScoop x1 x2) rfl calX6_addScoop ml6_144 (by decide) rfl rfl rfl (Nat.le_of_ble_eq_true rfl) dX6_scoop_49 rfl (fun z7 => ?_)
        refine ef_aload_n (q := 53) 0 dX6_scoop_52 rfl rfl rfl ?_
        refine ef_getI (x := z7.2.1 0 10) (q := 56) rfl fl6_93 rfl rfl dX6_scoop_53 rfl ?_
        refine ef_iconst (v := (1 : Int32)) (q := 57) dX6_scoop_56 (by decide) rfl ?_
        refine ef_isub (q := 58) dX6_scoop_57 rfl ?_
        exact ef_iret rfl dX6_scoop_58
theorem okX6_scoop (x1 : Int32) (x2 : Int32) : MtF 1 mX6_scoop lyR rvI (fun _ pl => [.ref (pl 0), .int x1, .int x2]) (fX6_scoop x1 x2) := by
  refine MtF.of (by decide +kernel) rfl (fun _ pl => Nat.le_of_ble_eq_true rfl) (fun G pl h0 s => ?_)
  refine ef_sub (lv := [(0, .ref (pl 0)), (1, .int x1), (2, .int x2)]) (lv' := [(0, .ref (pl 0)), (1, .int x1), (2, .int x2)]) [0, 1, 2] rfl ?_
  exact okX6_scoop_0  x1 x2 s
-- X6_sun
theorem dX6_sun_0 : decode cX6_sun 0 = .ok (.iload_n 1, 1) := by decide +kernel
theorem dX6_sun_1 : decode cX6_sun 1 = .ok (.i2l, 1) := by decide +kernel
theorem dX6_sun_2 : decode cX6_sun 2 = .ok (.lconst 0, 1) := by decide +kernel
theorem dX6_sun_3 : decode cX6_sun 3 = .ok (.iconst 1, 1) := by decide +kernel
theorem dX6_sun_4 : decode cX6_sun 4 = .ok (.aload_n 0, 1) := by decide +kernel
theorem dX6_sun_5 : decode cX6_sun 5 = .ok (.getfield 37, 3) := by decide +kernel
theorem dX6_sun_8 : decode cX6_sun 8 = .ok (.ishl, 1) := by decide +kernel
theorem dX6_sun_9 : decode cX6_sun 9 = .ok (.iconst 1, 1) := by decide +kernel
theorem dX6_sun_10 : decode cX6_sun 10 = .ok (.isub, 1) := by decide +kernel
theorem dX6_sun_11 : decode cX6_sun 11 = .ok (.i2l, 1) := by decide +kernel
theorem dX6_sun_12 : decode cX6_sun 12 = .ok (.invokestatic 89, 3) := by decide +kernel
theorem dX6_sun_15 : decode cX6_sun 15 = .ok (.ifCond .ne 10, 3) := by decide +kernel
theorem dX6_sun_18 : decode cX6_sun 18 = .ok (.aload_n 0, 1) := by decide +kernel
theorem dX6_sun_19 : decode cX6_sun 19 = .ok (.bipush (-2), 2) := by decide +kernel
theorem dX6_sun_21 : decode cX6_sun 21 = .ok (.invokevirtual 102, 3) := by decide +kernel
theorem dX6_sun_24 : decode cX6_sun 24 = .ok (.ireturn, 1) := by decide +kernel
theorem dX6_sun_25 : decode cX6_sun 25 = .ok (.aload_n 0, 1) := by decide +kernel
theorem dX6_sun_26 : decode cX6_sun 26 = .ok (.getfield 129, 3) := by decide +kernel
theorem dX6_sun_29 : decode cX6_sun 29 = .ok (.istore_n 2, 1) := by decide +kernel
theorem dX6_sun_30 : decode cX6_sun 30 = .ok (.aload_n 0, 1) := by decide +kernel
theorem dX6_sun_31 : decode cX6_sun 31 = .ok (.iload_n 1, 1) := by decide +kernel
theorem dX6_sun_32 : decode cX6_sun 32 = .ok (.putfield 129, 3) := by decide +kernel
theorem dX6_sun_35 : decode cX6_sun 35 = .ok (.iload_n 2, 1) := by decide +kernel
theorem dX6_sun_36 : decode cX6_sun 36 = .ok (.ireturn, 1) := by decide +kernel
def fX6_sun_0 (x1 : Int32) (s : SS) : Option (Int32 × SS) := ((fX6_in x1.toInt64 (0 : Int64) ((((1 : Int32) <<< ((s.1 0 9) &&& 31)) - (1 : Int32)).toInt64) s).bind fun z1 => if z1.1 = 0 then (((fX6_refuse (-2 : Int32) s).bind fun z3 => some (z3.1, z3.2))) else (some (s.1 0 16, wrI s 0 16 x1)))
def fX6_sun (x1 : Int32) (s : SS) : Option (Int32 × SS) := fX6_sun_0 x1 s
set_option maxRecDepth 100000 in
set_option maxHeartbeats 4000000 in
theorem okX6_sun_0 {G : GG} {pl : Nat → Nat} {h0 : PH} (x1 : Int32) (s : SS) : EvF G 1 mX6_sun lyR pl h0 rvI (fX6_sun_0 x1 s) 0 [(0, .ref (pl 0)), (1, .int x1)] [] s := by
  unfold fX6_sun_0
  refine ef_iload_n (q := 1) 1 dX6_sun_0 rfl rfl rfl ?_
  refine ef_i2l (v := x1.toInt64) (q := 2) dX6_sun_1 rfl rfl ?_
  refine ef_lconst (v := (0 : Int64)) (q := 3) dX6_sun_2 (by decide) rfl ?_
  refine ef_iconst (v := (1 : Int32)) (q := 4) dX6_sun_3 (by decide) rfl ?_
  refine ef_aload_n (q := 5) 0 dX6_sun_4 rfl rfl rfl ?_
  refine ef_getI (x := s.1 0 9) (q := 8) rfl fl6_37 rfl rfl dX6_sun_5 rfl ?_
  refine ef_ishl (q := 9) dX6_sun_8 rfl ?_
  refine ef_iconst (v := (1 : Int32)) (q := 10) dX6_sun_9 (by decide) rfl ?_
  refine ef_isub (q := 11) dX6_sun_10 rfl ?_
  refine ef_i2l (v := (((1 : Int32) <<< ((s.1 0 9) &&& 31)) - (1 : Int32)).toInt64) (q := 12) dX6_sun_11 rfl rfl ?_
  refine ef_invPI0 (As := [.long x1.toInt64, .long (0 : Int64), .long ((((1 : Int32) <<< ((s.1 0 9) &&& 31)) - (1 : Int32)).toInt64)]) (rest := []) (q := 15) (okX6_in x1.toInt64 (0 : Int64) ((((1 : Int32) <<< ((s.1 0 9) &&& 31)) - (1 : Int32)).toInt64)) rfl calX6_in ml6_89 (by decide) rfl rfl (Nat.le_of_ble_eq_true rfl) dX6_sun_12 rfl (fun z1 => ?_)
  refine ef_if (pt := 18) (pf := 25) (fun _ _ kt kf => ev_if_ne (tgt := 25) dX6_sun_15 (by decide) kf kt) (fun h2 => ?_) (fun h2 => ?_)
  · refine ef_aload_n (q := 19) 0 dX6_sun_18 rfl rfl rfl ?_
    refine ef_bipush (v := (-2 : Int32)) (q := 21) dX6_sun_19 (by decide) rfl ?_
    refine ef_invVI0 (k := 0) (As := [.int (-2 : Int32)]) (rest := []) (q := 24) (okX6_refuse (-2 : Int32)) rfl calX6_refuse ml6_102 (by decide) rfl rfl rfl (Nat.le_of_ble_eq_true rfl) dX6_sun_21 rfl (fun z3 => ?_)
    exact ef_iret rfl dX6_sun_24
  · refine ef_aload_n (q := 26) 0 dX6_sun_25 rfl rfl rfl ?_
    refine ef_getI (x := s.1 0 16) (q := 29) rfl fl6_129 rfl rfl dX6_sun_26 rfl ?_
    refine ef_istore_n (lv' := [(2, .int (s.1 0 16)), (0, .ref (pl 0)), (1, .int x1)]) (q := 30) dX6_sun_29 rfl (by decide) rfl rfl ?_
    refine ef_aload_n (q := 31) 1 dX6_sun_30 rfl rfl rfl ?_
    refine ef_iload_n (q := 32) 2 dX6_sun_31 rfl rfl rfl ?_
    refine ef_putI (q := 35) rfl fl6_129 rfl rfl dX6_sun_32 rfl ?_
    refine ef_iload_n (q := 36) 0 dX6_sun_35 rfl rfl rfl ?_
    exact ef_iret rfl dX6_sun_36
theorem okX6_sun (x1 : Int32) : MtF 1 mX6_sun lyR rvI (fun _ pl => [.ref (pl 0), .int x1]) (fX6_sun x1) := by
  refine MtF.of (by decide +kernel) rfl (fun _ pl => Nat.le_of_ble_eq_true rfl) (fun G pl h0 s => ?_)
  refine ef_sub (lv := [(0, .ref (pl 0)), (1, .int x1)]) (lv' := [(0, .ref (pl 0)), (1, .int x1)]) [0, 1] rfl ?_
  exact okX6_sun_0  x1 s
-- X6_mayAsk
theorem dX6_mayAsk_0 : decode cX6_mayAsk 0 = .ok (.iload_n 1, 1) := by decide +kernel
theorem dX6_mayAsk_1 : decode cX6_mayAsk 1 = .ok (.tableswitch 61 0 3 #[31, 31, 41, 51], 31) := by decide +kernel
theorem dX6_mayAsk_32 : decode cX6_mayAsk 32 = .ok (.iload_n 2, 1) := by decide +kernel
theorem dX6_mayAsk_33 : decode cX6_mayAsk 33 = .ok (.i2l, 1) := by decide +kernel
theorem dX6_mayAsk_34 : decode cX6_mayAsk 34 = .ok (.lconst 0, 1) := by decide +kernel
theorem dX6_mayAsk_35 : decode cX6_mayAsk 35 = .ok (.ldc2_w 148, 3) := by decide +kernel
theorem dX6_mayAsk_38 : decode cX6_mayAsk 38 = .ok (.invokestatic 89, 3) := by decide +kernel
theorem dX6_mayAsk_41 : decode cX6_mayAsk 41 = .ok (.ireturn, 1) := by decide +kernel
theorem dX6_mayAsk_42 : decode cX6_mayAsk 42 = .ok (.iload_n 2, 1) := by decide +kernel
theorem dX6_mayAsk_43 : decode cX6_mayAsk 43 = .ok (.i2l, 1) := by decide +kernel
theorem dX6_mayAsk_44 : decode cX6_mayAsk 44 = .ok (.lconst 1, 1) := by decide +kernel
theorem dX6_mayAsk_45 : decode cX6_mayAsk 45 = .ok (.ldc2_w 148, 3) := by decide +kernel
theorem dX6_mayAsk_48 : decode cX6_mayAsk 48 = .ok (.invokestatic 89, 3) := by decide +kernel
theorem dX6_mayAsk_51 : decode cX6_mayAsk 51 = .ok (.ireturn, 1) := by decide +kernel
theorem dX6_mayAsk_52 : decode cX6_mayAsk 52 = .ok (.iload_n 2, 1) := by decide +kernel
theorem dX6_mayAsk_53 : decode cX6_mayAsk 53 = .ok (.i2l, 1) := by decide +kernel
theorem dX6_mayAsk_54 : decode cX6_mayAsk 54 = .ok (.lconst 1, 1) := by decide +kernel
theorem dX6_mayAsk_55 : decode cX6_mayAsk 55 = .ok (.ldc2_w 150, 3) := by decide +kernel
theorem dX6_mayAsk_58 : decode cX6_mayAsk 58 = .ok (.invokestatic 89, 3) := by decide +kernel
theorem dX6_mayAsk_61 : decode cX6_mayAsk 61 = .ok (.ireturn, 1) := by decide +kernel
theorem dX6_mayAsk_62 : decode cX6_mayAsk 62 = .ok (.iload_n 1, 1) := by decide +kernel
theorem dX6_mayAsk_63 : decode cX6_mayAsk 63 = .ok (.iconst 4, 1) := by decide +kernel
theorem dX6_mayAsk_64 : decode cX6_mayAsk 64 = .ok (.if_icmp .ne 15, 3) := by decide +kernel
theorem dX6_mayAsk_67 : decode cX6_mayAsk 67 = .ok (.aload_n 0, 1) := by decide +kernel
theorem dX6_mayAsk_68 : decode cX6_mayAsk 68 = .ok (.iload_n 2, 1) := by decide +kernel
theorem dX6_mayAsk_69 : decode cX6_mayAsk 69 = .ok (.invokevirtual 152, 3) := by decide +kernel
theorem dX6_mayAsk_72 : decode cX6_mayAsk 72 = .ok (.ifCond .eq 7, 3) := by decide +kernel
theorem dX6_mayAsk_75 : decode cX6_mayAsk 75 = .ok (.iconst 1, 1) := by decide +kernel
theorem dX6_mayAsk_76 : decode cX6_mayAsk 76 = .ok (.goto 4, 3) := by decide +kernel
theorem dX6_mayAsk_79 : decode cX6_mayAsk 79 = .ok (.iconst 0, 1) := by decide +kernel
theorem dX6_mayAsk_80 : decode cX6_mayAsk 80 = .ok (.ireturn, 1) := by decide +kernel
def fX6_mayAsk_0 (x1 : Int32) (x2 : Int32) (s : SS) : Option (Int32 × SS) := if x1 = (0 : Int32) then (((fX6_in x2.toInt64 (0 : Int64) (20 : Int64) s).bind fun z2 => some (nbZ z2.1, s))) else (if x1 = (1 : Int32) then (((fX6_in x2.toInt64 (0 : Int64) (20 : Int64) s).bind fun z4 => some (nbZ z4.1, s))) else (if x1 = (2 : Int32) then (((fX6_in x2.toInt64 (1 : Int64) (20 : Int64) s).bind fun z6 => some (nbZ z6.1, s))) else (if x1 = (3 : Int32) then (((fX6_in x2.toInt64 (1 : Int64) (999 : Int64) s).bind fun z8 => some (nbZ z8.1, s))) else (if x1 = (4 : Int32) then (((fX6_isSide x2 s).bind fun z10 => if z10.1 = 0 then (some ((0 : Int32), z10.2)) else (some ((1 : Int32), z10.2)))) else (some ((0 : Int32), s))))))
def fX6_mayAsk (x1 : Int32) (x2 : Int32) (s : SS) : Option (Int32 × SS) := fX6_mayAsk_0 x1 x2 s
set_option maxRecDepth 100000 in
set_option maxHeartbeats 4000000 in
theorem okX6_mayAsk_0 {G : GG} {pl : Nat → Nat} {h0 : PH} (x1 : Int32) (x2 : Int32) (s : SS) : EvF G 2 mX6_mayAsk lyR pl h0 rvI (fX6_mayAsk_0 x1 x2 s) 0 [(0, .ref (pl 0)), (1, .int x1), (2, .int x2)] [] s := by
  unfold fX6_mayAsk_0
  refine ef_iload_n (q := 1) 1 dX6_mayAsk_0 rfl rfl rfl ?_
  refine ef_dec (fun h1 => ?_) (fun h1 => ?_)
  · refine ef_of (fun _ _ => ev_tableIn (tgt := 32) dX6_mayAsk_1 (by rw [h1]; decide) (by rw [h1]; decide) (off := 31) (by rw [h1]; rfl) (by decide)) ?_
    refine ef_iload_n (q := 33) 2 dX6_mayAsk_32 rfl rfl rfl ?_
    refine ef_i2l (v := x2.toInt64) (q := 34) dX6_mayAsk_33 rfl rfl ?_
    refine ef_lconst (v := (0 : Int64)) (q := 35) dX6_mayAsk_34 (by decide) rfl ?_
    refine ef_ldc2 (v := (20 : Int64)) (q := 38) k6_148 dX6_mayAsk_35 rfl ?_
    refine ef_invPI0 (As := [.long x2.toInt64, .long (0 : Int64), .long (20 : Int64)]) (rest := []) (q := 41) (okX6_in x2.toInt64 (0 : Int64) (20 : Int64)) rfl calX6_in ml6_89 (by decide) rfl rfl (Nat.le_of_ble_eq_true rfl) dX6_mayAsk_38 rfl (fun z2 => ?_)
    exact ef_zret rfl dX6_mayAsk_41
  refine ef_dec (fun h3 => ?_) (fun h3 => ?_)
  · refine ef_of (fun _ _ => ev_tableIn (tgt := 32) dX6_mayAsk_1 (by rw [h3]; decide) (by rw [h3]; decide) (off := 31) (by rw [h3]; rfl) (by decide)) ?_
    refine ef_iload_n (q := 33) 2 dX6_mayAsk_32 rfl rfl rfl ?_
    refine ef_i2l (v := x2.toInt64) (q := 34) dX6_mayAsk_33 rfl rfl ?_
    refine ef_lconst (v := (0 : Int64)) (q := 35) dX6_mayAsk_34 (by decide) rfl ?_
    refine ef_ldc2 (v := (20 : Int64)) (q := 38) k6_148 dX6_mayAsk_35 rfl ?_
    refine ef_invPI0 (As := [.long x2.toInt64, .long (0 : Int64), .long (20 : Int64)]) (rest := []) (q := 41) (okX6_in x2.toInt64 (0 : Int64) (20 : Int64)) rfl calX6_in ml6_89 (by decide) rfl rfl (Nat.le_of_ble_eq_true rfl) dX6_mayAsk_38 rfl (fun z4 => ?_)
    exact ef_zret rfl dX6_mayAsk_41
  refine ef_dec (fun h5 => ?_) (fun h5 => ?_)
  · refine ef_of (fun _ _ => ev_tableIn (tgt := 42) dX6_mayAsk_1 (by rw [h5]; decide) (by rw [h5]; decide) (off := 41) (by rw [h5]; rfl) (by decide)) ?_
    refine ef_iload_n (q := 43) 2 dX6_mayAsk_42 rfl rfl rfl ?_
    refine ef_i2l (v := x2.toInt64) (q := 44) dX6_mayAsk_43 rfl rfl ?_
    refine ef_lconst (v := (1 : Int64)) (q := 45) dX6_mayAsk_44 (by decide) rfl ?_
    refine ef_ldc2 (v := (20 : Int64)) (q := 48) k6_148 dX6_mayAsk_45 rfl ?_
    refine ef_invPI0 (As := [.long x2.toInt64, .long (1 : Int64), .long (20 : Int64)]) (rest := []) (q := 51) (okX6_in x2.toInt64 (1 : Int64) (20 : Int64)) rfl calX6_in ml6_89 (by decide) rfl rfl (Nat.le_of_ble_eq_true rfl) dX6_mayAsk_48 rfl (fun z6 => ?_)
    exact ef_zret rfl dX6_mayAsk_51
  refine ef_dec (fun h7 => ?_) (fun h7 => ?_)
  · refine ef_of (fun _ _ => ev_tableIn (tgt := 52) dX6_mayAsk_1 (by rw [h7]; decide) (by rw [h7]; decide) (off := 51) (by rw [h7]; rfl) (by decide)) ?_
    refine ef_iload_n (q := 53) 2 dX6_mayAsk_52 rfl rfl rfl ?_
    refine ef_i2l (v := x2.toInt64) (q := 54) dX6_mayAsk_53 rfl rfl ?_
    refine ef_lconst (v := (1 : Int64)) (q := 55) dX6_mayAsk_54 (by decide) rfl ?_
    refine ef_ldc2 (v := (999 : Int64)) (q := 58) k6_150 dX6_mayAsk_55 rfl ?_
    refine ef_invPI0 (As := [.long x2.toInt64, .long (1 : Int64), .long (999 : Int64)]) (rest := []) (q := 61) (okX6_in x2.toInt64 (1 : Int64) (999 : Int64)) rfl calX6_in ml6_89 (by decide) rfl rfl (Nat.le_of_ble_eq_true rfl) dX6_mayAsk_58 rfl (fun z8 => ?_)
    exact ef_zret rfl dX6_mayAsk_61
  have hsw : (x1 : Int32).toInt < 0 ∨ 3 < (x1 : Int32).toInt := by
    have th1 := ne_toI (k := 0) h1 (by decide)
    have th3 := ne_toI (k := 1) h3 (by decide)
    have th5 := ne_toI (k := 2) h5 (by decide)
    have th7 := ne_toI (k := 3) h7 (by decide)
    omega
  refine ef_of (fun _ _ => ev_tableOut (tgt := 62) dX6_mayAsk_1 hsw (by decide)) ?_
  refine ef_iload_n (q := 63) 1 dX6_mayAsk_62 rfl rfl rfl ?_
  refine ef_iconst (v := (4 : Int32)) (q := 64) dX6_mayAsk_63 (by decide) rfl ?_
  refine ef_if (pt := 67) (pf := 79) (fun _ _ kt kf => ev_icmp_ne (tgt := 79) dX6_mayAsk_64 (by decide) kf kt) (fun h9 => ?_) (fun h9 => ?_)
  · refine ef_aload_n (q := 68) 0 dX6_mayAsk_67 rfl rfl rfl ?_
    refine ef_iload_n (q := 69) 2 dX6_mayAsk_68 rfl rfl rfl ?_
    refine ef_invVI0 (k := 0) (As := [.int x2]) (rest := []) (q := 72) (okX6_isSide x2) rfl calX6_isSide ml6_152 (by decide) rfl rfl rfl (Nat.le_of_ble_eq_true rfl) dX6_mayAsk_69 rfl (fun z10 => ?_)
    refine ef_if (pt := 79) (pf := 75) (fun _ _ => ev_if_eq (tgt := 79) dX6_mayAsk_72 (by decide)) (fun h11 => ?_) (fun h11 => ?_)
    · refine ef_iconst (v := (0 : Int32)) (q := 80) dX6_mayAsk_79 (by decide) rfl ?_
      exact ef_zretc (x := (0 : Int32)) (by decide) rfl dX6_mayAsk_80
    · refine ef_iconst (v := (1 : Int32)) (q := 76) dX6_mayAsk_75 (by decide) rfl ?_
      refine ef_goto (tgt := 80) dX6_mayAsk_76 (by decide) ?_
      exact ef_zretc (x := (1 : Int32)) (by decide) rfl dX6_mayAsk_80
  · refine ef_iconst (v := (0 : Int32)) (q := 80) dX6_mayAsk_79 (by decide) rfl ?_
    exact ef_zretc (x := (0 : Int32)) (by decide) rfl dX6_mayAsk_80
theorem okX6_mayAsk (x1 : Int32) (x2 : Int32) : MtF 2 mX6_mayAsk lyR rvI (fun _ pl => [.ref (pl 0), .int x1, .int x2]) (fX6_mayAsk x1 x2) := by
  refine MtF.of (by decide +kernel) rfl (fun _ pl => Nat.le_of_ble_eq_true rfl) (fun G pl h0 s => ?_)
  refine ef_sub (lv := [(0, .ref (pl 0)), (1, .int x1), (2, .int x2)]) (lv' := [(0, .ref (pl 0)), (1, .int x1), (2, .int x2)]) [0, 1, 2] rfl ?_
  exact okX6_mayAsk_0  x1 x2 s
-- X6_ask
theorem dX6_ask_0 : decode cX6_ask 0 = .ok (.aload_n 0, 1) := by decide +kernel
theorem dX6_ask_1 : decode cX6_ask 1 = .ok (.iload_n 1, 1) := by decide +kernel
theorem dX6_ask_2 : decode cX6_ask 2 = .ok (.iload_n 2, 1) := by decide +kernel
theorem dX6_ask_3 : decode cX6_ask 3 = .ok (.invokevirtual 155, 3) := by decide +kernel
theorem dX6_ask_6 : decode cX6_ask 6 = .ok (.ifCond .ne 10, 3) := by decide +kernel
theorem dX6_ask_9 : decode cX6_ask 9 = .ok (.aload_n 0, 1) := by decide +kernel
theorem dX6_ask_10 : decode cX6_ask 10 = .ok (.bipush (-2), 2) := by decide +kernel
theorem dX6_ask_12 : decode cX6_ask 12 = .ok (.invokevirtual 102, 3) := by decide +kernel
theorem dX6_ask_15 : decode cX6_ask 15 = .ok (.ireturn, 1) := by decide +kernel
theorem dX6_ask_16 : decode cX6_ask 16 = .ok (.iload_n 1, 1) := by decide +kernel
theorem dX6_ask_17 : decode cX6_ask 17 = .ok (.iconst 4, 1) := by decide +kernel
theorem dX6_ask_18 : decode cX6_ask 18 = .ok (.if_icmp .ne 10, 3) := by decide +kernel
theorem dX6_ask_21 : decode cX6_ask 21 = .ok (.aload_n 0, 1) := by decide +kernel
theorem dX6_ask_22 : decode cX6_ask 22 = .ok (.getfield 126, 3) := by decide +kernel
theorem dX6_ask_25 : decode cX6_ask 25 = .ok (.goto 9, 3) := by decide +kernel
theorem dX6_ask_28 : decode cX6_ask 28 = .ok (.aload_n 0, 1) := by decide +kernel
theorem dX6_ask_29 : decode cX6_ask 29 = .ok (.getfield 55, 3) := by decide +kernel
theorem dX6_ask_32 : decode cX6_ask 32 = .ok (.iload_n 1, 1) := by decide +kernel
theorem dX6_ask_33 : decode cX6_ask 33 = .ok (.iaload, 1) := by decide +kernel
theorem dX6_ask_34 : decode cX6_ask 34 = .ok (.istore_n 3, 1) := by decide +kernel
theorem dX6_ask_35 : decode cX6_ask 35 = .ok (.iload_n 1, 1) := by decide +kernel
theorem dX6_ask_36 : decode cX6_ask 36 = .ok (.iconst 4, 1) := by decide +kernel
theorem dX6_ask_37 : decode cX6_ask 37 = .ok (.if_icmp .ne 11, 3) := by decide +kernel
theorem dX6_ask_40 : decode cX6_ask 40 = .ok (.aload_n 0, 1) := by decide +kernel
theorem dX6_ask_41 : decode cX6_ask 41 = .ok (.iload_n 2, 1) := by decide +kernel
theorem dX6_ask_42 : decode cX6_ask 42 = .ok (.putfield 126, 3) := by decide +kernel
theorem dX6_ask_45 : decode cX6_ask 45 = .ok (.goto 10, 3) := by decide +kernel
theorem dX6_ask_48 : decode cX6_ask 48 = .ok (.aload_n 0, 1) := by decide +kernel
theorem dX6_ask_49 : decode cX6_ask 49 = .ok (.getfield 55, 3) := by decide +kernel
theorem dX6_ask_52 : decode cX6_ask 52 = .ok (.iload_n 1, 1) := by decide +kernel
theorem dX6_ask_53 : decode cX6_ask 53 = .ok (.iload_n 2, 1) := by decide +kernel
theorem dX6_ask_54 : decode cX6_ask 54 = .ok (.iastore, 1) := by decide +kernel
theorem dX6_ask_55 : decode cX6_ask 55 = .ok (.iload_n 3, 1) := by decide +kernel
theorem dX6_ask_56 : decode cX6_ask 56 = .ok (.ireturn, 1) := by decide +kernel
def fX6_ask_34 (x1 : Int32) (x2 : Int32) (y0 : Int32) (s : SS) : Option (Int32 × SS) := if x1 = (4 : Int32) then (some (y0, wrI s 0 15 x2)) else (if ixB x1 4 then (some (y0, wrI s 24 x1.toNatClampNeg x2)) else none)
def fX6_ask_0 (x1 : Int32) (x2 : Int32) (s : SS) : Option (Int32 × SS) := ((fX6_mayAsk x1 x2 s).bind fun z1 => if z1.1 = 0 then (((fX6_refuse (-2 : Int32) z1.2).bind fun z3 => some (z3.1, z3.2))) else (if x1 = (4 : Int32) then (fX6_ask_34 x1 x2 (z1.2.1 0 15) z1.2) else (if ixB x1 4 then (fX6_ask_34 x1 x2 (z1.2.1 24 x1.toNatClampNeg) z1.2) else none)))
def fX6_ask (x1 : Int32) (x2 : Int32) (s : SS) : Option (Int32 × SS) := fX6_ask_0 x1 x2 s
set_option maxRecDepth 100000 in
set_option maxHeartbeats 4000000 in
theorem okX6_ask_34 {G : GG} {pl : Nat → Nat} {h0 : PH} (x1 : Int32) (x2 : Int32) (y0 : Int32) (s : SS) : EvF G 3 mX6_ask lyR pl h0 rvI (fX6_ask_34 x1 x2 y0 s) 34 [(0, .ref (pl 0)), (1, .int x1), (2, .int x2)] [.int y0] s := by
  unfold fX6_ask_34
  refine ef_istore_n (lv' := [(3, .int y0), (0, .ref (pl 0)), (1, .int x1), (2, .int x2)]) (q := 35) dX6_ask_34 rfl (by decide) rfl rfl ?_
  refine ef_iload_n (q := 36) 2 dX6_ask_35 rfl rfl rfl ?_
  refine ef_iconst (v := (4 : Int32)) (q := 37) dX6_ask_36 (by decide) rfl ?_
  refine ef_if (pt := 40) (pf := 48) (fun _ _ kt kf => ev_icmp_ne (tgt := 48) dX6_ask_37 (by decide) kf kt) (fun h1 => ?_) (fun h1 => ?_)
  · refine ef_aload_n (q := 41) 1 dX6_ask_40 rfl rfl rfl ?_
    refine ef_iload_n (q := 42) 3 dX6_ask_41 rfl rfl rfl ?_
    refine ef_putI (q := 45) rfl fl6_126 rfl rfl dX6_ask_42 rfl ?_
    refine ef_goto (tgt := 55) dX6_ask_45 (by decide) ?_
    refine ef_iload_n (q := 56) 0 dX6_ask_55 rfl rfl rfl ?_
    exact ef_iret rfl dX6_ask_56
  · refine ef_aload_n (q := 49) 1 dX6_ask_48 rfl rfl rfl ?_
    refine ef_getR (t := 24) (q := 52) rfl fl6_55 rfl rfl dX6_ask_49 rfl ?_
    refine ef_iload_n (q := 53) 2 dX6_ask_52 rfl rfl rfl ?_
    refine ef_iload_n (q := 54) 3 dX6_ask_53 rfl rfl rfl ?_
    refine ef_guard (fun g2 => ?_)
    refine ef_iastore (j := x1.toNatClampNeg) (q := 55) rfl g2 dX6_ask_54 rfl rfl ?_
    refine ef_iload_n (q := 56) 0 dX6_ask_55 rfl rfl rfl ?_
    exact ef_iret rfl dX6_ask_56
set_option maxRecDepth 100000 in
set_option maxHeartbeats 4000000 in
theorem okX6_ask_0 {G : GG} {pl : Nat → Nat} {h0 : PH} (x1 : Int32) (x2 : Int32) (s : SS) : EvF G 3 mX6_ask lyR pl h0 rvI (fX6_ask_0 x1 x2 s) 0 [(0, .ref (pl 0)), (1, .int x1), (2, .int x2)] [] s := by
  unfold fX6_ask_0
  refine ef_aload_n (q := 1) 0 dX6_ask_0 rfl rfl rfl ?_
  refine ef_iload_n (q := 2) 1 dX6_ask_1 rfl rfl rfl ?_
  refine ef_iload_n (q := 3) 2 dX6_ask_2 rfl rfl rfl ?_
  refine ef_invVI0 (k := 0) (As := [.int x1, .int x2]) (rest := []) (q := 6) (okX6_mayAsk x1 x2) rfl calX6_mayAsk ml6_155 (by decide) rfl rfl rfl (Nat.le_of_ble_eq_true rfl) dX6_ask_3 rfl (fun z1 => ?_)
  refine ef_if (pt := 9) (pf := 16) (fun _ _ kt kf => ev_if_ne (tgt := 16) dX6_ask_6 (by decide) kf kt) (fun h2 => ?_) (fun h2 => ?_)
  · refine ef_aload_n (q := 10) 0 dX6_ask_9 rfl rfl rfl ?_
    refine ef_bipush (v := (-2 : Int32)) (q := 12) dX6_ask_10 (by decide) rfl ?_
    refine ef_invVI0 (k := 0) (As := [.int (-2 : Int32)]) (rest := []) (q := 15) (okX6_refuse (-2 : Int32)) rfl calX6_refuse ml6_102 (by decide) rfl rfl rfl (Nat.le_of_ble_eq_true rfl) dX6_ask_12 rfl (fun z3 => ?_)
    exact ef_iret rfl dX6_ask_15
  · refine ef_iload_n (q := 17) 1 dX6_ask_16 rfl rfl rfl ?_
    refine ef_iconst (v := (4 : Int32)) (q := 18) dX6_ask_17 (by decide) rfl ?_
    refine ef_if (pt := 21) (pf := 28) (fun _ _ kt kf => ev_icmp_ne (tgt := 28) dX6_ask_18 (by decide) kf kt) (fun h4 => ?_) (fun h4 => ?_)
    · refine ef_aload_n (q := 22) 0 dX6_ask_21 rfl rfl rfl ?_
      refine ef_getI (x := z1.2.1 0 15) (q := 25) rfl fl6_126 rfl rfl dX6_ask_22 rfl ?_
      refine ef_goto (tgt := 34) dX6_ask_25 (by decide) ?_
      refine ef_sub (lv' := [(0, .ref (pl 0)), (1, .int x1), (2, .int x2)]) [0, 1, 2] rfl ?_
      exact okX6_ask_34 x1 x2 (z1.2.1 0 15) z1.2
    · refine ef_aload_n (q := 29) 0 dX6_ask_28 rfl rfl rfl ?_
      refine ef_getR (t := 24) (q := 32) rfl fl6_55 rfl rfl dX6_ask_29 rfl ?_
      refine ef_iload_n (q := 33) 1 dX6_ask_32 rfl rfl rfl ?_
      refine ef_guard (fun g5 => ?_)
      refine ef_iaload (x := z1.2.1 24 x1.toNatClampNeg) (q := 34) rfl g5 dX6_ask_33 rfl rfl ?_
      refine ef_sub (lv' := [(0, .ref (pl 0)), (1, .int x1), (2, .int x2)]) [0, 1, 2] rfl ?_
      exact okX6_ask_34 x1 x2 (z1.2.1 24 x1.toNatClampNeg) z1.2
theorem okX6_ask (x1 : Int32) (x2 : Int32) : MtF 3 mX6_ask lyR rvI (fun _ pl => [.ref (pl 0), .int x1, .int x2]) (fX6_ask x1 x2) := by
  refine MtF.of (by decide +kernel) rfl (fun _ pl => Nat.le_of_ble_eq_true rfl) (fun G pl h0 s => ?_)
  refine ef_sub (lv := [(0, .ref (pl 0)), (1, .int x1), (2, .int x2)]) (lv' := [(0, .ref (pl 0)), (1, .int x1), (2, .int x2)]) [0, 1, 2] rfl ?_
  exact okX6_ask_0  x1 x2 s
-- X6_addLicker
theorem dX6_addLicker_0 : decode cX6_addLicker 0 = .ok (.aload_n 0, 1) := by decide +kernel
theorem dX6_addLicker_1 : decode cX6_addLicker 1 = .ok (.getfield 58, 3) := by decide +kernel
theorem dX6_addLicker_4 : decode cX6_addLicker 4 = .ok (.aload_n 0, 1) := by decide +kernel
theorem dX6_addLicker_5 : decode cX6_addLicker 5 = .ok (.getfield 86, 3) := by decide +kernel
theorem dX6_addLicker_8 : decode cX6_addLicker 8 = .ok (.iload_n 1, 1) := by decide +kernel
theorem dX6_addLicker_9 : decode cX6_addLicker 9 = .ok (.iastore, 1) := by decide +kernel
theorem dX6_addLicker_10 : decode cX6_addLicker 10 = .ok (.aload_n 0, 1) := by decide +kernel
theorem dX6_addLicker_11 : decode cX6_addLicker 11 = .ok (.getfield 61, 3) := by decide +kernel
theorem dX6_addLicker_14 : decode cX6_addLicker 14 = .ok (.aload_n 0, 1) := by decide +kernel
theorem dX6_addLicker_15 : decode cX6_addLicker 15 = .ok (.getfield 86, 3) := by decide +kernel
theorem dX6_addLicker_18 : decode cX6_addLicker 18 = .ok (.iload_n 2, 1) := by decide +kernel
theorem dX6_addLicker_19 : decode cX6_addLicker 19 = .ok (.iastore, 1) := by decide +kernel
theorem dX6_addLicker_20 : decode cX6_addLicker 20 = .ok (.aload_n 0, 1) := by decide +kernel
theorem dX6_addLicker_21 : decode cX6_addLicker 21 = .ok (.dup, 1) := by decide +kernel
theorem dX6_addLicker_22 : decode cX6_addLicker 22 = .ok (.getfield 86, 3) := by decide +kernel
theorem dX6_addLicker_25 : decode cX6_addLicker 25 = .ok (.iconst 1, 1) := by decide +kernel
theorem dX6_addLicker_26 : decode cX6_addLicker 26 = .ok (.iadd, 1) := by decide +kernel
theorem dX6_addLicker_27 : decode cX6_addLicker 27 = .ok (.putfield 86, 3) := by decide +kernel
theorem dX6_addLicker_30 : decode cX6_addLicker 30 = .ok (.return_, 1) := by decide +kernel
def fX6_addLicker_0 (x1 : Int32) (x2 : Int32) (s : SS) : Option (Unit × SS) := if ixB (s.1 0 22) 4 then (if ixB (s.1 0 22) 4 then (some ((), wrI (wrI (wrI s 25 ((s.1 0 22).toNatClampNeg) x1) 26 ((s.1 0 22).toNatClampNeg) x2) 0 22 ((s.1 0 22) + (1 : Int32)))) else none) else none
def fX6_addLicker (x1 : Int32) (x2 : Int32) (s : SS) : Option (Unit × SS) := fX6_addLicker_0 x1 x2 s
set_option maxRecDepth 100000 in
set_option maxHeartbeats 4000000 in
theorem okX6_addLicker_0 {G : GG} {pl : Nat → Nat} {h0 : PH} (x1 : Int32) (x2 : Int32) (s : SS) : EvF G 0 mX6_addLicker lyR pl h0 rvU (fX6_addLicker_0 x1 x2 s) 0 [(0, .ref (pl 0)), (1, .int x1), (2, .int x2)] [] s := by
  unfold fX6_addLicker_0
  refine ef_aload_n (q := 1) 0 dX6_addLicker_0 rfl rfl rfl ?_
  refine ef_getR (t := 25) (q := 4) rfl fl6_58 rfl rfl dX6_addLicker_1 rfl ?_
  refine ef_aload_n (q := 5) 0 dX6_addLicker_4 rfl rfl rfl ?_
  refine ef_getI (x := s.1 0 22) (q := 8) rfl fl6_86 rfl rfl dX6_addLicker_5 rfl ?_
  refine ef_iload_n (q := 9) 1 dX6_addLicker_8 rfl rfl rfl ?_
  refine ef_guard (fun g1 => ?_)
  refine ef_iastore (j := (s.1 0 22).toNatClampNeg) (q := 10) rfl g1 dX6_addLicker_9 rfl rfl ?_
  refine ef_aload_n (q := 11) 0 dX6_addLicker_10 rfl rfl rfl ?_
  refine ef_getR (t := 26) (q := 14) rfl fl6_61 rfl rfl dX6_addLicker_11 rfl ?_
  refine ef_aload_n (q := 15) 0 dX6_addLicker_14 rfl rfl rfl ?_
  refine ef_getI (x := s.1 0 22) (q := 18) rfl fl6_86 rfl rfl dX6_addLicker_15 rfl ?_
  refine ef_iload_n (q := 19) 2 dX6_addLicker_18 rfl rfl rfl ?_
  refine ef_guard (fun g2 => ?_)
  refine ef_iastore (j := (s.1 0 22).toNatClampNeg) (q := 20) rfl g2 dX6_addLicker_19 rfl rfl ?_
  refine ef_aload_n (q := 21) 0 dX6_addLicker_20 rfl rfl rfl ?_
  refine ef_dup (q := 22) dX6_addLicker_21 rfl rfl ?_
  refine ef_getI (x := s.1 0 22) (q := 25) rfl fl6_86 rfl rfl dX6_addLicker_22 rfl ?_
  refine ef_iconst (v := (1 : Int32)) (q := 26) dX6_addLicker_25 (by decide) rfl ?_
  refine ef_iadd (q := 27) dX6_addLicker_26 rfl ?_
  refine ef_putI (q := 30) rfl fl6_86 rfl rfl dX6_addLicker_27 rfl ?_
  exact ef_vret rfl dX6_addLicker_30
theorem okX6_addLicker (x1 : Int32) (x2 : Int32) : MtF 0 mX6_addLicker lyR rvU (fun _ pl => [.ref (pl 0), .int x1, .int x2]) (fX6_addLicker x1 x2) := by
  refine MtF.of (by decide +kernel) rfl (fun _ pl => Nat.le_of_ble_eq_true rfl) (fun G pl h0 s => ?_)
  refine ef_sub (lv := [(0, .ref (pl 0)), (1, .int x1), (2, .int x2)]) (lv' := [(0, .ref (pl 0)), (1, .int x1), (2, .int x2)]) [0, 1, 2] rfl ?_
  exact okX6_addLicker_0  x1 x2 s
-- X6_licker
theorem dX6_licker_0 : decode cX6_licker 0 = .ok (.iload_n 1, 1) := by decide +kernel
theorem dX6_licker_1 : decode cX6_licker 1 = .ok (.i2l, 1) := by decide +kernel
theorem dX6_licker_2 : decode cX6_licker 2 = .ok (.lconst 0, 1) := by decide +kernel
theorem dX6_licker_3 : decode cX6_licker 3 = .ok (.ldc2_w 117, 3) := by decide +kernel
theorem dX6_licker_6 : decode cX6_licker 6 = .ok (.invokestatic 89, 3) := by decide +kernel
theorem dX6_licker_9 : decode cX6_licker 9 = .ok (.ifCond .eq 15, 3) := by decide +kernel
theorem dX6_licker_12 : decode cX6_licker 12 = .ok (.iload_n 2, 1) := by decide +kernel
theorem dX6_licker_13 : decode cX6_licker 13 = .ok (.i2l, 1) := by decide +kernel
theorem dX6_licker_14 : decode cX6_licker 14 = .ok (.lconst 0, 1) := by decide +kernel
theorem dX6_licker_15 : decode cX6_licker 15 = .ok (.ldc2_w 140, 3) := by decide +kernel
theorem dX6_licker_18 : decode cX6_licker 18 = .ok (.invokestatic 89, 3) := by decide +kernel
theorem dX6_licker_21 : decode cX6_licker 21 = .ok (.ifCond .ne 10, 3) := by decide +kernel
theorem dX6_licker_24 : decode cX6_licker 24 = .ok (.aload_n 0, 1) := by decide +kernel
theorem dX6_licker_25 : decode cX6_licker 25 = .ok (.bipush (-2), 2) := by decide +kernel
theorem dX6_licker_27 : decode cX6_licker 27 = .ok (.invokevirtual 102, 3) := by decide +kernel
theorem dX6_licker_30 : decode cX6_licker 30 = .ok (.ireturn, 1) := by decide +kernel
theorem dX6_licker_31 : decode cX6_licker 31 = .ok (.aload_n 0, 1) := by decide +kernel
theorem dX6_licker_32 : decode cX6_licker 32 = .ok (.getfield 86, 3) := by decide +kernel
theorem dX6_licker_35 : decode cX6_licker 35 = .ok (.iconst 4, 1) := by decide +kernel
theorem dX6_licker_36 : decode cX6_licker 36 = .ok (.if_icmp .ne 10, 3) := by decide +kernel
theorem dX6_licker_39 : decode cX6_licker 39 = .ok (.aload_n 0, 1) := by decide +kernel
theorem dX6_licker_40 : decode cX6_licker 40 = .ok (.bipush (-6), 2) := by decide +kernel
theorem dX6_licker_42 : decode cX6_licker 42 = .ok (.invokevirtual 102, 3) := by decide +kernel
theorem dX6_licker_45 : decode cX6_licker 45 = .ok (.ireturn, 1) := by decide +kernel
theorem dX6_licker_46 : decode cX6_licker 46 = .ok (.aload_n 0, 1) := by decide +kernel
theorem dX6_licker_47 : decode cX6_licker 47 = .ok (.iload_n 1, 1) := by decide +kernel
theorem dX6_licker_48 : decode cX6_licker 48 = .ok (.iload_n 2, 1) := by decide +kernel
theorem dX6_licker_49 : decode cX6_licker 49 = .ok (.invokevirtual 158, 3) := by decide +kernel
theorem dX6_licker_52 : decode cX6_licker 52 = .ok (.aload_n 0, 1) := by decide +kernel
theorem dX6_licker_53 : decode cX6_licker 53 = .ok (.getfield 86, 3) := by decide +kernel
theorem dX6_licker_56 : decode cX6_licker 56 = .ok (.iconst 1, 1) := by decide +kernel
theorem dX6_licker_57 : decode cX6_licker 57 = .ok (.isub, 1) := by decide +kernel
theorem dX6_licker_58 : decode cX6_licker 58 = .ok (.ireturn, 1) := by decide +kernel
def fX6_licker_24 (s : SS) : Option (Int32 × SS) := ((fX6_refuse (-2 : Int32) s).bind fun z1 => some (z1.1, z1.2))
def fX6_licker_0 (x1 : Int32) (x2 : Int32) (s : SS) : Option (Int32 × SS) := ((fX6_in x1.toInt64 (0 : Int64) (5 : Int64) s).bind fun z1 => if z1.1 = 0 then (fX6_licker_24 s) else (((fX6_in x2.toInt64 (0 : Int64) (9 : Int64) s).bind fun z3 => if z3.1 = 0 then (fX6_licker_24 s) else (if (s.1 0 22) = (4 : Int32) then (((fX6_refuse (-6 : Int32) s).bind fun z6 => some (z6.1, z6.2))) else (((fX6_addLicker x1 x2 s).bind fun z7 => some ((z7.2.1 0 22) - (1 : Int32), z7.2)))))))
def fX6_licker (x1 : Int32) (x2 : Int32) (s : SS) : Option (Int32 × SS) := fX6_licker_0 x1 x2 s
set_option maxRecDepth 100000 in
set_option maxHeartbeats 4000000 in
theorem okX6_licker_24 {G : GG} {pl : Nat → Nat} {h0 : PH} (s : SS) : EvF G 1 mX6_licker lyR pl h0 rvI (fX6_licker_24 s) 24 [(0, .ref (pl 0))] [] s := by
  unfold fX6_licker_24
  refine ef_aload_n (q := 25) 0 dX6_licker_24 rfl rfl rfl ?_
  refine ef_bipush (v := (-2 : Int32)) (q := 27) dX6_licker_25 (by decide) rfl ?_
  refine ef_invVI0 (k := 0) (As := [.int (-2 : Int32)]) (rest := []) (q := 30) (okX6_refuse (-2 : Int32)) rfl calX6_refuse ml6_102 (by decide) rfl rfl rfl (Nat.le_of_ble_eq_true rfl) dX6_licker_27 rfl (fun z1 => ?_)
  exact ef_iret rfl dX6_licker_30
set_option maxRecDepth 100000 in
set_option maxHeartbeats 4000000 in
theorem okX6_licker_0 {G : GG} {pl : Nat → Nat} {h0 : PH} (x1 : Int32) (x2 : Int32) (s : SS) : EvF G 1 mX6_licker lyR pl h0 rvI (fX6_licker_0 x1 x2 s) 0 [(0, .ref (pl 0)), (1, .int x1), (2, .int x2)] [] s := by
  unfold fX6_licker_0
  refine ef_iload_n (q := 1) 1 dX6_licker_0 rfl rfl rfl ?_
  refine ef_i2l (v := x1.toInt64) (q := 2) dX6_licker_1 rfl rfl ?_
  refine ef_lconst (v := (0 : Int64)) (q := 3) dX6_licker_2 (by decide) rfl ?_
  refine ef_ldc2 (v := (5 : Int64)) (q := 6) k6_117 dX6_licker_3 rfl ?_
  refine ef_invPI0 (As := [.long x1.toInt64, .long (0 : Int64), .long (5 : Int64)]) (rest := []) (q := 9) (okX6_in x1.toInt64 (0 : Int64) (5 : Int64)) rfl calX6_in ml6_89 (by decide) rfl rfl (Nat.le_of_ble_eq_true rfl) dX6_licker_6 rfl (fun z1 => ?_)
  refine ef_if (pt := 24) (pf := 12) (fun _ _ => ev_if_eq (tgt := 24) dX6_licker_9 (by decide)) (fun h2 => ?_) (fun h2 => ?_)
  · refine ef_sub (lv' := [(0, .ref (pl 0))]) [0] rfl ?_
    exact okX6_licker_24 s
  · refine ef_iload_n (q := 13) 2 dX6_licker_12 rfl rfl rfl ?_
    refine ef_i2l (v := x2.toInt64) (q := 14) dX6_licker_13 rfl rfl ?_
    refine ef_lconst (v := (0 : Int64)) (q := 15) dX6_licker_14 (by decide) rfl ?_
    refine ef_ldc2 (v := (9 : Int64)) (q := 18) k6_140 dX6_licker_15 rfl ?_
    refine ef_invPI0 (As := [.long x2.toInt64, .long (0 : Int64), .long (9 : Int64)]) (rest := []) (q := 21) (okX6_in x2.toInt64 (0 : Int64) (9 : Int64)) rfl calX6_in ml6_89 (by decide) rfl rfl (Nat.le_of_ble_eq_true rfl) dX6_licker_18 rfl (fun z3 => ?_)
    refine ef_if (pt := 24) (pf := 31) (fun _ _ kt kf => ev_if_ne (tgt := 31) dX6_licker_21 (by decide) kf kt) (fun h4 => ?_) (fun h4 => ?_)
    · refine ef_sub (lv' := [(0, .ref (pl 0))]) [0] rfl ?_
      exact okX6_licker_24 s
    · refine ef_aload_n (q := 32) 0 dX6_licker_31 rfl rfl rfl ?_
      refine ef_getI (x := s.1 0 22) (q := 35) rfl fl6_86 rfl rfl dX6_licker_32 rfl ?_
      refine ef_iconst (v := (4 : Int32)) (q := 36) dX6_licker_35 (by decide) rfl ?_
      refine ef_if (pt := 39) (pf := 46) (fun _ _ kt kf => ev_icmp_ne (tgt := 46) dX6_licker_36 (by decide) kf kt) (fun h5 => ?_) (fun h5 => ?_)
      · refine ef_aload_n (q := 40) 0 dX6_licker_39 rfl rfl rfl ?_
        refine ef_bipush (v := (-6 : Int32)) (q := 42) dX6_licker_40 (by decide) rfl ?_
        refine ef_invVI0 (k := 0) (As := [.int (-6 : Int32)]) (rest := []) (q := 45) (okX6_refuse (-6 : Int32)) rfl calX6_refuse ml6_102 (by decide) rfl rfl rfl (Nat.le_of_ble_eq_true rfl) dX6_licker_42 rfl (fun z6 => ?_)
        exact ef_iret rfl dX6_licker_45
      · refine ef_aload_n (q := 47) 0 dX6_licker_46 rfl rfl rfl ?_
        refine ef_iload_n (q := 48) 1 dX6_licker_47 rfl rfl rfl ?_
        refine ef_iload_n (q := 49) 2 dX6_licker_48 rfl rfl rfl ?_
        refine ef_invVU0 (k := 0) (As := [.int x1, .int x2]) (rest := []) (q := 52) (okX6_addLicker x1 x2) rfl calX6_addLicker ml6_158 (by decide) rfl rfl rfl (Nat.le_of_ble_eq_true rfl) dX6_licker_49 rfl (fun z7 => ?_)
        refine ef_aload_n (q := 53) 0 dX6_licker_52 rfl rfl rfl ?_
        refine ef_getI (x := z7.2.1 0 22) (q := 56) rfl fl6_86 rfl rfl dX6_licker_53 rfl ?_
        refine ef_iconst (v := (1 : Int32)) (q := 57) dX6_licker_56 (by decide) rfl ?_
        refine ef_isub (q := 58) dX6_licker_57 rfl ?_
        exact ef_iret rfl dX6_licker_58
theorem okX6_licker (x1 : Int32) (x2 : Int32) : MtF 1 mX6_licker lyR rvI (fun _ pl => [.ref (pl 0), .int x1, .int x2]) (fX6_licker x1 x2) := by
  refine MtF.of (by decide +kernel) rfl (fun _ pl => Nat.le_of_ble_eq_true rfl) (fun G pl h0 s => ?_)
  refine ef_sub (lv := [(0, .ref (pl 0)), (1, .int x1), (2, .int x2)]) (lv' := [(0, .ref (pl 0)), (1, .int x1), (2, .int x2)]) [0, 1, 2] rfl ?_
  exact okX6_licker_0  x1 x2 s
-- X6_feed
theorem dX6_feed_0 : decode cX6_feed 0 = .ok (.iload_n 1, 1) := by decide +kernel
theorem dX6_feed_1 : decode cX6_feed 1 = .ok (.i2l, 1) := by decide +kernel
theorem dX6_feed_2 : decode cX6_feed 2 = .ok (.lconst 0, 1) := by decide +kernel
theorem dX6_feed_3 : decode cX6_feed 3 = .ok (.ldc2_w 161, 3) := by decide +kernel
theorem dX6_feed_6 : decode cX6_feed 6 = .ok (.invokestatic 89, 3) := by decide +kernel
theorem dX6_feed_9 : decode cX6_feed 9 = .ok (.ifCond .ne 10, 3) := by decide +kernel
theorem dX6_feed_12 : decode cX6_feed 12 = .ok (.aload_n 0, 1) := by decide +kernel
theorem dX6_feed_13 : decode cX6_feed 13 = .ok (.bipush (-2), 2) := by decide +kernel
theorem dX6_feed_15 : decode cX6_feed 15 = .ok (.invokevirtual 102, 3) := by decide +kernel
theorem dX6_feed_18 : decode cX6_feed 18 = .ok (.ireturn, 1) := by decide +kernel
theorem dX6_feed_19 : decode cX6_feed 19 = .ok (.aload_n 0, 1) := by decide +kernel
theorem dX6_feed_20 : decode cX6_feed 20 = .ok (.getfield 163, 3) := by decide +kernel
theorem dX6_feed_23 : decode cX6_feed 23 = .ok (.sipush 250, 3) := by decide +kernel
theorem dX6_feed_26 : decode cX6_feed 26 = .ok (.if_icmp .ne 10, 3) := by decide +kernel
theorem dX6_feed_29 : decode cX6_feed 29 = .ok (.aload_n 0, 1) := by decide +kernel
theorem dX6_feed_30 : decode cX6_feed 30 = .ok (.bipush (-6), 2) := by decide +kernel
theorem dX6_feed_32 : decode cX6_feed 32 = .ok (.invokevirtual 102, 3) := by decide +kernel
theorem dX6_feed_35 : decode cX6_feed 35 = .ok (.ireturn, 1) := by decide +kernel
theorem dX6_feed_36 : decode cX6_feed 36 = .ok (.aload_n 0, 1) := by decide +kernel
theorem dX6_feed_37 : decode cX6_feed 37 = .ok (.getfield 31, 3) := by decide +kernel
theorem dX6_feed_40 : decode cX6_feed 40 = .ok (.aload_n 0, 1) := by decide +kernel
theorem dX6_feed_41 : decode cX6_feed 41 = .ok (.dup, 1) := by decide +kernel
theorem dX6_feed_42 : decode cX6_feed 42 = .ok (.getfield 163, 3) := by decide +kernel
theorem dX6_feed_45 : decode cX6_feed 45 = .ok (.dup_x1, 1) := by decide +kernel
theorem dX6_feed_46 : decode cX6_feed 46 = .ok (.iconst 1, 1) := by decide +kernel
theorem dX6_feed_47 : decode cX6_feed 47 = .ok (.iadd, 1) := by decide +kernel
theorem dX6_feed_48 : decode cX6_feed 48 = .ok (.putfield 163, 3) := by decide +kernel
theorem dX6_feed_51 : decode cX6_feed 51 = .ok (.iload_n 1, 1) := by decide +kernel
theorem dX6_feed_52 : decode cX6_feed 52 = .ok (.iastore, 1) := by decide +kernel
theorem dX6_feed_53 : decode cX6_feed 53 = .ok (.aload_n 0, 1) := by decide +kernel
theorem dX6_feed_54 : decode cX6_feed 54 = .ok (.getfield 163, 3) := by decide +kernel
theorem dX6_feed_57 : decode cX6_feed 57 = .ok (.ireturn, 1) := by decide +kernel
def fX6_feed_0 (x1 : Int32) (s : SS) : Option (Int32 × SS) := ((fX6_in x1.toInt64 (0 : Int64) (255 : Int64) s).bind fun z1 => if z1.1 = 0 then (((fX6_refuse (-2 : Int32) s).bind fun z3 => some (z3.1, z3.2))) else (if (s.1 0 7) = (250 : Int32) then (((fX6_refuse (-6 : Int32) s).bind fun z5 => some (z5.1, z5.2))) else (if ixB (s.1 0 7) 250 then (some ((s.1 0 7) + (1 : Int32), wrI (wrI s 0 7 ((s.1 0 7) + (1 : Int32))) 15 ((s.1 0 7).toNatClampNeg) x1)) else none)))
def fX6_feed (x1 : Int32) (s : SS) : Option (Int32 × SS) := fX6_feed_0 x1 s
set_option maxRecDepth 100000 in
set_option maxHeartbeats 4000000 in
theorem okX6_feed_0 {G : GG} {pl : Nat → Nat} {h0 : PH} (x1 : Int32) (s : SS) : EvF G 1 mX6_feed lyR pl h0 rvI (fX6_feed_0 x1 s) 0 [(0, .ref (pl 0)), (1, .int x1)] [] s := by
  unfold fX6_feed_0
  refine ef_iload_n (q := 1) 1 dX6_feed_0 rfl rfl rfl ?_
  refine ef_i2l (v := x1.toInt64) (q := 2) dX6_feed_1 rfl rfl ?_
  refine ef_lconst (v := (0 : Int64)) (q := 3) dX6_feed_2 (by decide) rfl ?_
  refine ef_ldc2 (v := (255 : Int64)) (q := 6) k6_161 dX6_feed_3 rfl ?_
  refine ef_invPI0 (As := [.long x1.toInt64, .long (0 : Int64), .long (255 : Int64)]) (rest := []) (q := 9) (okX6_in x1.toInt64 (0 : Int64) (255 : Int64)) rfl calX6_in ml6_89 (by decide) rfl rfl (Nat.le_of_ble_eq_true rfl) dX6_feed_6 rfl (fun z1 => ?_)
  refine ef_if (pt := 12) (pf := 19) (fun _ _ kt kf => ev_if_ne (tgt := 19) dX6_feed_9 (by decide) kf kt) (fun h2 => ?_) (fun h2 => ?_)
  · refine ef_aload_n (q := 13) 0 dX6_feed_12 rfl rfl rfl ?_
    refine ef_bipush (v := (-2 : Int32)) (q := 15) dX6_feed_13 (by decide) rfl ?_
    refine ef_invVI0 (k := 0) (As := [.int (-2 : Int32)]) (rest := []) (q := 18) (okX6_refuse (-2 : Int32)) rfl calX6_refuse ml6_102 (by decide) rfl rfl rfl (Nat.le_of_ble_eq_true rfl) dX6_feed_15 rfl (fun z3 => ?_)
    exact ef_iret rfl dX6_feed_18
  · refine ef_aload_n (q := 20) 0 dX6_feed_19 rfl rfl rfl ?_
    refine ef_getI (x := s.1 0 7) (q := 23) rfl fl6_163 rfl rfl dX6_feed_20 rfl ?_
    refine ef_sipush (v := (250 : Int32)) (q := 26) dX6_feed_23 (by decide) rfl ?_
    refine ef_if (pt := 29) (pf := 36) (fun _ _ kt kf => ev_icmp_ne (tgt := 36) dX6_feed_26 (by decide) kf kt) (fun h4 => ?_) (fun h4 => ?_)
    · refine ef_aload_n (q := 30) 0 dX6_feed_29 rfl rfl rfl ?_
      refine ef_bipush (v := (-6 : Int32)) (q := 32) dX6_feed_30 (by decide) rfl ?_
      refine ef_invVI0 (k := 0) (As := [.int (-6 : Int32)]) (rest := []) (q := 35) (okX6_refuse (-6 : Int32)) rfl calX6_refuse ml6_102 (by decide) rfl rfl rfl (Nat.le_of_ble_eq_true rfl) dX6_feed_32 rfl (fun z5 => ?_)
      exact ef_iret rfl dX6_feed_35
    · refine ef_aload_n (q := 37) 0 dX6_feed_36 rfl rfl rfl ?_
      refine ef_getR (t := 15) (q := 40) rfl fl6_31 rfl rfl dX6_feed_37 rfl ?_
      refine ef_aload_n (q := 41) 0 dX6_feed_40 rfl rfl rfl ?_
      refine ef_dup (q := 42) dX6_feed_41 rfl rfl ?_
      refine ef_getI (x := s.1 0 7) (q := 45) rfl fl6_163 rfl rfl dX6_feed_42 rfl ?_
      refine ef_dup_x1 (q := 46) dX6_feed_45 rfl rfl rfl ?_
      refine ef_iconst (v := (1 : Int32)) (q := 47) dX6_feed_46 (by decide) rfl ?_
      refine ef_iadd (q := 48) dX6_feed_47 rfl ?_
      refine ef_putI (q := 51) rfl fl6_163 rfl rfl dX6_feed_48 rfl ?_
      refine ef_iload_n (q := 52) 1 dX6_feed_51 rfl rfl rfl ?_
      refine ef_guard (fun g6 => ?_)
      refine ef_iastore (j := (s.1 0 7).toNatClampNeg) (q := 53) rfl g6 dX6_feed_52 rfl rfl ?_
      refine ef_aload_n (q := 54) 0 dX6_feed_53 rfl rfl rfl ?_
      refine ef_getI (x := (s.1 0 7) + (1 : Int32)) (q := 57) rfl fl6_163 rfl rfl dX6_feed_54 rfl ?_
      exact ef_iret rfl dX6_feed_57
theorem okX6_feed (x1 : Int32) : MtF 1 mX6_feed lyR rvI (fun _ pl => [.ref (pl 0), .int x1]) (fX6_feed x1) := by
  refine MtF.of (by decide +kernel) rfl (fun _ pl => Nat.le_of_ble_eq_true rfl) (fun G pl h0 s => ?_)
  refine ef_sub (lv := [(0, .ref (pl 0)), (1, .int x1)]) (lv' := [(0, .ref (pl 0)), (1, .int x1)]) [0, 1] rfl ?_
  exact okX6_feed_0  x1 s
-- X6_wipe
theorem dX6_wipe_0 : decode cX6_wipe 0 = .ok (.aload_n 0, 1) := by decide +kernel
theorem dX6_wipe_1 : decode cX6_wipe 1 = .ok (.getfield 163, 3) := by decide +kernel
theorem dX6_wipe_4 : decode cX6_wipe 4 = .ok (.istore_n 1, 1) := by decide +kernel
theorem dX6_wipe_5 : decode cX6_wipe 5 = .ok (.aload_n 0, 1) := by decide +kernel
theorem dX6_wipe_6 : decode cX6_wipe 6 = .ok (.iconst 0, 1) := by decide +kernel
theorem dX6_wipe_7 : decode cX6_wipe 7 = .ok (.putfield 163, 3) := by decide +kernel
theorem dX6_wipe_10 : decode cX6_wipe 10 = .ok (.iload_n 1, 1) := by decide +kernel
theorem dX6_wipe_11 : decode cX6_wipe 11 = .ok (.ireturn, 1) := by decide +kernel
def fX6_wipe_0 (s : SS) : Option (Int32 × SS) := some (s.1 0 7, wrI s 0 7 (0 : Int32))
def fX6_wipe (s : SS) : Option (Int32 × SS) := fX6_wipe_0 s
set_option maxRecDepth 100000 in
set_option maxHeartbeats 4000000 in
theorem okX6_wipe_0 {G : GG} {pl : Nat → Nat} {h0 : PH} (s : SS) : EvF G 0 mX6_wipe lyR pl h0 rvI (fX6_wipe_0 s) 0 [(0, .ref (pl 0))] [] s := by
  unfold fX6_wipe_0
  refine ef_aload_n (q := 1) 0 dX6_wipe_0 rfl rfl rfl ?_
  refine ef_getI (x := s.1 0 7) (q := 4) rfl fl6_163 rfl rfl dX6_wipe_1 rfl ?_
  refine ef_istore_n (lv' := [(1, .int (s.1 0 7)), (0, .ref (pl 0))]) (q := 5) dX6_wipe_4 rfl (by decide) rfl rfl ?_
  refine ef_aload_n (q := 6) 1 dX6_wipe_5 rfl rfl rfl ?_
  refine ef_iconst (v := (0 : Int32)) (q := 7) dX6_wipe_6 (by decide) rfl ?_
  refine ef_putI (q := 10) rfl fl6_163 rfl rfl dX6_wipe_7 rfl ?_
  refine ef_iload_n (q := 11) 0 dX6_wipe_10 rfl rfl rfl ?_
  exact ef_iret rfl dX6_wipe_11
theorem okX6_wipe : MtF 0 mX6_wipe lyR rvI (fun _ pl => [.ref (pl 0)]) (fX6_wipe) := by
  refine MtF.of (by decide +kernel) rfl (fun _ pl => Nat.le_of_ble_eq_true rfl) (fun G pl h0 s => ?_)
  refine ef_sub (lv := [(0, .ref (pl 0))]) (lv' := [(0, .ref (pl 0))]) [0] rfl ?_
  exact okX6_wipe_0  s
-- X6_isLetter
theorem dX6_isLetter_0 : decode cX6_isLetter 0 = .ok (.iload_n 0, 1) := by decide +kernel
theorem dX6_isLetter_1 : decode cX6_isLetter 1 = .ok (.bipush 97, 2) := by decide +kernel
theorem dX6_isLetter_3 : decode cX6_isLetter 3 = .ok (.if_icmp .lt 13, 3) := by decide +kernel
theorem dX6_isLetter_6 : decode cX6_isLetter 6 = .ok (.iload_n 0, 1) := by decide +kernel
theorem dX6_isLetter_7 : decode cX6_isLetter 7 = .ok (.bipush 122, 2) := by decide +kernel
theorem dX6_isLetter_9 : decode cX6_isLetter 9 = .ok (.if_icmp .gt 7, 3) := by decide +kernel
theorem dX6_isLetter_12 : decode cX6_isLetter 12 = .ok (.iconst 1, 1) := by decide +kernel
theorem dX6_isLetter_13 : decode cX6_isLetter 13 = .ok (.goto 4, 3) := by decide +kernel
theorem dX6_isLetter_16 : decode cX6_isLetter 16 = .ok (.iconst 0, 1) := by decide +kernel
theorem dX6_isLetter_17 : decode cX6_isLetter 17 = .ok (.ireturn, 1) := by decide +kernel
def fX6_isLetter_0 (x0 : Int32) (s : SS) : Option (Int32 × SS) := if x0 < (97 : Int32) then (some ((0 : Int32), s)) else (if (122 : Int32) < x0 then (some ((0 : Int32), s)) else (some ((1 : Int32), s)))
def fX6_isLetter (x0 : Int32) (s : SS) : Option (Int32 × SS) := fX6_isLetter_0 x0 s
set_option maxRecDepth 100000 in
set_option maxHeartbeats 4000000 in
theorem okX6_isLetter_0 {G : GG} {pl : Nat → Nat} {h0 : PH} (x0 : Int32) (s : SS) : EvF G 0 mX6_isLetter ly pl h0 rvI (fX6_isLetter_0 x0 s) 0 [(0, .int x0)] [] s := by
  unfold fX6_isLetter_0
  refine ef_iload_n (q := 1) 0 dX6_isLetter_0 rfl rfl rfl ?_
  refine ef_bipush (v := (97 : Int32)) (q := 3) dX6_isLetter_1 (by decide) rfl ?_
  refine ef_if (pt := 16) (pf := 6) (fun _ _ => ev_icmp_lt (tgt := 16) dX6_isLetter_3 (by decide)) (fun h1 => ?_) (fun h1 => ?_)
  · refine ef_iconst (v := (0 : Int32)) (q := 17) dX6_isLetter_16 (by decide) rfl ?_
    exact ef_zretc (x := (0 : Int32)) (by decide) rfl dX6_isLetter_17
  · refine ef_iload_n (q := 7) 0 dX6_isLetter_6 rfl rfl rfl ?_
    refine ef_bipush (v := (122 : Int32)) (q := 9) dX6_isLetter_7 (by decide) rfl ?_
    refine ef_if (pt := 16) (pf := 12) (fun _ _ => ev_icmp_gt (tgt := 16) dX6_isLetter_9 (by decide)) (fun h2 => ?_) (fun h2 => ?_)
    · refine ef_iconst (v := (0 : Int32)) (q := 17) dX6_isLetter_16 (by decide) rfl ?_
      exact ef_zretc (x := (0 : Int32)) (by decide) rfl dX6_isLetter_17
    · refine ef_iconst (v := (1 : Int32)) (q := 13) dX6_isLetter_12 (by decide) rfl ?_
      refine ef_goto (tgt := 17) dX6_isLetter_13 (by decide) ?_
      exact ef_zretc (x := (1 : Int32)) (by decide) rfl dX6_isLetter_17
theorem okX6_isLetter (x0 : Int32) : MtF 0 mX6_isLetter ly rvI (fun _ pl => [.int x0]) (fX6_isLetter x0) := by
  refine MtF.of (by decide +kernel) rfl (fun _ pl => Nat.le_of_ble_eq_true rfl) (fun G pl h0 s => ?_)
  refine ef_sub (lv := [(0, .int x0)]) (lv' := [(0, .int x0)]) [0] rfl ?_
  exact okX6_isLetter_0  x0 s
-- X6_isDigit
theorem dX6_isDigit_0 : decode cX6_isDigit 0 = .ok (.iload_n 0, 1) := by decide +kernel
theorem dX6_isDigit_1 : decode cX6_isDigit 1 = .ok (.bipush 48, 2) := by decide +kernel
theorem dX6_isDigit_3 : decode cX6_isDigit 3 = .ok (.if_icmp .lt 13, 3) := by decide +kernel
theorem dX6_isDigit_6 : decode cX6_isDigit 6 = .ok (.iload_n 0, 1) := by decide +kernel
theorem dX6_isDigit_7 : decode cX6_isDigit 7 = .ok (.bipush 57, 2) := by decide +kernel
theorem dX6_isDigit_9 : decode cX6_isDigit 9 = .ok (.if_icmp .gt 7, 3) := by decide +kernel
theorem dX6_isDigit_12 : decode cX6_isDigit 12 = .ok (.iconst 1, 1) := by decide +kernel
theorem dX6_isDigit_13 : decode cX6_isDigit 13 = .ok (.goto 4, 3) := by decide +kernel
theorem dX6_isDigit_16 : decode cX6_isDigit 16 = .ok (.iconst 0, 1) := by decide +kernel
theorem dX6_isDigit_17 : decode cX6_isDigit 17 = .ok (.ireturn, 1) := by decide +kernel
def fX6_isDigit_0 (x0 : Int32) (s : SS) : Option (Int32 × SS) := if x0 < (48 : Int32) then (some ((0 : Int32), s)) else (if (57 : Int32) < x0 then (some ((0 : Int32), s)) else (some ((1 : Int32), s)))
def fX6_isDigit (x0 : Int32) (s : SS) : Option (Int32 × SS) := fX6_isDigit_0 x0 s
set_option maxRecDepth 100000 in
set_option maxHeartbeats 4000000 in
theorem okX6_isDigit_0 {G : GG} {pl : Nat → Nat} {h0 : PH} (x0 : Int32) (s : SS) : EvF G 0 mX6_isDigit ly pl h0 rvI (fX6_isDigit_0 x0 s) 0 [(0, .int x0)] [] s := by
  unfold fX6_isDigit_0
  refine ef_iload_n (q := 1) 0 dX6_isDigit_0 rfl rfl rfl ?_
  refine ef_bipush (v := (48 : Int32)) (q := 3) dX6_isDigit_1 (by decide) rfl ?_
  refine ef_if (pt := 16) (pf := 6) (fun _ _ => ev_icmp_lt (tgt := 16) dX6_isDigit_3 (by decide)) (fun h1 => ?_) (fun h1 => ?_)
  · refine ef_iconst (v := (0 : Int32)) (q := 17) dX6_isDigit_16 (by decide) rfl ?_
    exact ef_zretc (x := (0 : Int32)) (by decide) rfl dX6_isDigit_17
  · refine ef_iload_n (q := 7) 0 dX6_isDigit_6 rfl rfl rfl ?_
    refine ef_bipush (v := (57 : Int32)) (q := 9) dX6_isDigit_7 (by decide) rfl ?_
    refine ef_if (pt := 16) (pf := 12) (fun _ _ => ev_icmp_gt (tgt := 16) dX6_isDigit_9 (by decide)) (fun h2 => ?_) (fun h2 => ?_)
    · refine ef_iconst (v := (0 : Int32)) (q := 17) dX6_isDigit_16 (by decide) rfl ?_
      exact ef_zretc (x := (0 : Int32)) (by decide) rfl dX6_isDigit_17
    · refine ef_iconst (v := (1 : Int32)) (q := 13) dX6_isDigit_12 (by decide) rfl ?_
      refine ef_goto (tgt := 17) dX6_isDigit_13 (by decide) ?_
      exact ef_zretc (x := (1 : Int32)) (by decide) rfl dX6_isDigit_17
theorem okX6_isDigit (x0 : Int32) : MtF 0 mX6_isDigit ly rvI (fun _ pl => [.int x0]) (fX6_isDigit x0) := by
  refine MtF.of (by decide +kernel) rfl (fun _ pl => Nat.le_of_ble_eq_true rfl) (fun G pl h0 s => ?_)
  refine ef_sub (lv := [(0, .int x0)]) (lv' := [(0, .int x0)]) [0] rfl ?_
  exact okX6_isDigit_0  x0 s
-- X6_look
theorem dX6_look_0 : decode cX6_look 0 = .ok (.aload_n 0, 1) := by decide +kernel
theorem dX6_look_1 : decode cX6_look 1 = .ok (.getfield 166, 3) := by decide +kernel
theorem dX6_look_4 : decode cX6_look 4 = .ok (.aload_n 0, 1) := by decide +kernel
theorem dX6_look_5 : decode cX6_look 5 = .ok (.getfield 163, 3) := by decide +kernel
theorem dX6_look_8 : decode cX6_look 8 = .ok (.if_icmp .ge 30, 3) := by decide +kernel
theorem dX6_look_11 : decode cX6_look 11 = .ok (.aload_n 0, 1) := by decide +kernel
theorem dX6_look_12 : decode cX6_look 12 = .ok (.getfield 31, 3) := by decide +kernel
theorem dX6_look_15 : decode cX6_look 15 = .ok (.aload_n 0, 1) := by decide +kernel
theorem dX6_look_16 : decode cX6_look 16 = .ok (.getfield 166, 3) := by decide +kernel
theorem dX6_look_19 : decode cX6_look 19 = .ok (.iaload, 1) := by decide +kernel
theorem dX6_look_20 : decode cX6_look 20 = .ok (.bipush 32, 2) := by decide +kernel
theorem dX6_look_22 : decode cX6_look 22 = .ok (.if_icmp .ne 16, 3) := by decide +kernel
theorem dX6_look_25 : decode cX6_look 25 = .ok (.aload_n 0, 1) := by decide +kernel
theorem dX6_look_26 : decode cX6_look 26 = .ok (.dup, 1) := by decide +kernel
theorem dX6_look_27 : decode cX6_look 27 = .ok (.getfield 166, 3) := by decide +kernel
theorem dX6_look_30 : decode cX6_look 30 = .ok (.iconst 1, 1) := by decide +kernel
theorem dX6_look_31 : decode cX6_look 31 = .ok (.iadd, 1) := by decide +kernel
theorem dX6_look_32 : decode cX6_look 32 = .ok (.putfield 166, 3) := by decide +kernel
theorem dX6_look_35 : decode cX6_look 35 = .ok (.goto (-35), 3) := by decide +kernel
theorem dX6_look_38 : decode cX6_look 38 = .ok (.aload_n 0, 1) := by decide +kernel
theorem dX6_look_39 : decode cX6_look 39 = .ok (.aload_n 0, 1) := by decide +kernel
theorem dX6_look_40 : decode cX6_look 40 = .ok (.getfield 166, 3) := by decide +kernel
theorem dX6_look_43 : decode cX6_look 43 = .ok (.putfield 169, 3) := by decide +kernel
theorem dX6_look_46 : decode cX6_look 46 = .ok (.aload_n 0, 1) := by decide +kernel
theorem dX6_look_47 : decode cX6_look 47 = .ok (.iconst 0, 1) := by decide +kernel
theorem dX6_look_48 : decode cX6_look 48 = .ok (.putfield 172, 3) := by decide +kernel
theorem dX6_look_51 : decode cX6_look 51 = .ok (.aload_n 0, 1) := by decide +kernel
theorem dX6_look_52 : decode cX6_look 52 = .ok (.getfield 166, 3) := by decide +kernel
theorem dX6_look_55 : decode cX6_look 55 = .ok (.aload_n 0, 1) := by decide +kernel
theorem dX6_look_56 : decode cX6_look 56 = .ok (.getfield 163, 3) := by decide +kernel
theorem dX6_look_59 : decode cX6_look 59 = .ok (.if_icmp .ne 11, 3) := by decide +kernel
theorem dX6_look_62 : decode cX6_look 62 = .ok (.aload_n 0, 1) := by decide +kernel
theorem dX6_look_63 : decode cX6_look 63 = .ok (.iconst 0, 1) := by decide +kernel
theorem dX6_look_64 : decode cX6_look 64 = .ok (.putfield 175, 3) := by decide +kernel
theorem dX6_look_67 : decode cX6_look 67 = .ok (.goto 197, 3) := by decide +kernel
theorem dX6_look_70 : decode cX6_look 70 = .ok (.aload_n 0, 1) := by decide +kernel
theorem dX6_look_71 : decode cX6_look 71 = .ok (.getfield 31, 3) := by decide +kernel
theorem dX6_look_74 : decode cX6_look 74 = .ok (.aload_n 0, 1) := by decide +kernel
theorem dX6_look_75 : decode cX6_look 75 = .ok (.getfield 166, 3) := by decide +kernel
theorem dX6_look_78 : decode cX6_look 78 = .ok (.iaload, 1) := by decide +kernel
theorem dX6_look_79 : decode cX6_look 79 = .ok (.invokestatic 178, 3) := by decide +kernel
theorem dX6_look_82 : decode cX6_look 82 = .ok (.ifCond .eq 47, 3) := by decide +kernel
theorem dX6_look_85 : decode cX6_look 85 = .ok (.aload_n 0, 1) := by decide +kernel
theorem dX6_look_86 : decode cX6_look 86 = .ok (.iconst 1, 1) := by decide +kernel
theorem dX6_look_87 : decode cX6_look 87 = .ok (.putfield 175, 3) := by decide +kernel
theorem dX6_look_90 : decode cX6_look 90 = .ok (.aload_n 0, 1) := by decide +kernel
theorem dX6_look_91 : decode cX6_look 91 = .ok (.getfield 166, 3) := by decide +kernel
theorem dX6_look_94 : decode cX6_look 94 = .ok (.aload_n 0, 1) := by decide +kernel
theorem dX6_look_95 : decode cX6_look 95 = .ok (.getfield 163, 3) := by decide +kernel
theorem dX6_look_98 : decode cX6_look 98 = .ok (.if_icmp .ge 166, 3) := by decide +kernel
theorem dX6_look_101 : decode cX6_look 101 = .ok (.aload_n 0, 1) := by decide +kernel
theorem dX6_look_102 : decode cX6_look 102 = .ok (.getfield 31, 3) := by decide +kernel
theorem dX6_look_105 : decode cX6_look 105 = .ok (.aload_n 0, 1) := by decide +kernel
theorem dX6_look_106 : decode cX6_look 106 = .ok (.getfield 166, 3) := by decide +kernel
theorem dX6_look_109 : decode cX6_look 109 = .ok (.iaload, 1) := by decide +kernel
theorem dX6_look_110 : decode cX6_look 110 = .ok (.invokestatic 178, 3) := by decide +kernel
theorem dX6_look_113 : decode cX6_look 113 = .ok (.ifCond .eq 151, 3) := by decide +kernel
theorem dX6_look_116 : decode cX6_look 116 = .ok (.aload_n 0, 1) := by decide +kernel
theorem dX6_look_117 : decode cX6_look 117 = .ok (.dup, 1) := by decide +kernel
theorem dX6_look_118 : decode cX6_look 118 = .ok (.getfield 166, 3) := by decide +kernel
theorem dX6_look_121 : decode cX6_look 121 = .ok (.iconst 1, 1) := by decide +kernel
theorem dX6_look_122 : decode cX6_look 122 = .ok (.iadd, 1) := by decide +kernel
theorem dX6_look_123 : decode cX6_look 123 = .ok (.putfield 166, 3) := by decide +kernel
theorem dX6_look_126 : decode cX6_look 126 = .ok (.goto (-36), 3) := by decide +kernel
theorem dX6_look_129 : decode cX6_look 129 = .ok (.aload_n 0, 1) := by decide +kernel
theorem dX6_look_130 : decode cX6_look 130 = .ok (.getfield 31, 3) := by decide +kernel
theorem dX6_look_133 : decode cX6_look 133 = .ok (.aload_n 0, 1) := by decide +kernel
theorem dX6_look_134 : decode cX6_look 134 = .ok (.getfield 166, 3) := by decide +kernel
theorem dX6_look_137 : decode cX6_look 137 = .ok (.iaload, 1) := by decide +kernel
theorem dX6_look_138 : decode cX6_look 138 = .ok (.invokestatic 181, 3) := by decide +kernel
theorem dX6_look_141 : decode cX6_look 141 = .ok (.ifCond .eq 90, 3) := by decide +kernel
theorem dX6_look_144 : decode cX6_look 144 = .ok (.aload_n 0, 1) := by decide +kernel
theorem dX6_look_145 : decode cX6_look 145 = .ok (.iconst 2, 1) := by decide +kernel
theorem dX6_look_146 : decode cX6_look 146 = .ok (.putfield 175, 3) := by decide +kernel
theorem dX6_look_149 : decode cX6_look 149 = .ok (.aload_n 0, 1) := by decide +kernel
theorem dX6_look_150 : decode cX6_look 150 = .ok (.getfield 166, 3) := by decide +kernel
theorem dX6_look_153 : decode cX6_look 153 = .ok (.aload_n 0, 1) := by decide +kernel
theorem dX6_look_154 : decode cX6_look 154 = .ok (.getfield 163, 3) := by decide +kernel
theorem dX6_look_157 : decode cX6_look 157 = .ok (.if_icmp .ge 107, 3) := by decide +kernel
theorem dX6_look_160 : decode cX6_look 160 = .ok (.aload_n 0, 1) := by decide +kernel
theorem dX6_look_161 : decode cX6_look 161 = .ok (.getfield 31, 3) := by decide +kernel
theorem dX6_look_164 : decode cX6_look 164 = .ok (.aload_n 0, 1) := by decide +kernel
theorem dX6_look_165 : decode cX6_look 165 = .ok (.getfield 166, 3) := by decide +kernel
theorem dX6_look_168 : decode cX6_look 168 = .ok (.iaload, 1) := by decide +kernel
theorem dX6_look_169 : decode cX6_look 169 = .ok (.invokestatic 181, 3) := by decide +kernel
theorem dX6_look_172 : decode cX6_look 172 = .ok (.ifCond .eq 92, 3) := by decide +kernel
theorem dX6_look_175 : decode cX6_look 175 = .ok (.aload_n 0, 1) := by decide +kernel
theorem dX6_look_176 : decode cX6_look 176 = .ok (.aload_n 0, 1) := by decide +kernel
theorem dX6_look_177 : decode cX6_look 177 = .ok (.getfield 166, 3) := by decide +kernel
theorem dX6_look_180 : decode cX6_look 180 = .ok (.aload_n 0, 1) := by decide +kernel
theorem dX6_look_181 : decode cX6_look 181 = .ok (.getfield 169, 3) := by decide +kernel
theorem dX6_look_184 : decode cX6_look 184 = .ok (.isub, 1) := by decide +kernel
theorem dX6_look_185 : decode cX6_look 185 = .ok (.iconst 2, 1) := by decide +kernel
theorem dX6_look_186 : decode cX6_look 186 = .ok (.if_icmp .ge 26, 3) := by decide +kernel
theorem dX6_look_189 : decode cX6_look 189 = .ok (.aload_n 0, 1) := by decide +kernel
theorem dX6_look_190 : decode cX6_look 190 = .ok (.getfield 172, 3) := by decide +kernel
theorem dX6_look_193 : decode cX6_look 193 = .ok (.bipush 10, 2) := by decide +kernel
theorem dX6_look_195 : decode cX6_look 195 = .ok (.imul, 1) := by decide +kernel
theorem dX6_look_196 : decode cX6_look 196 = .ok (.aload_n 0, 1) := by decide +kernel
theorem dX6_look_197 : decode cX6_look 197 = .ok (.getfield 31, 3) := by decide +kernel
theorem dX6_look_200 : decode cX6_look 200 = .ok (.aload_n 0, 1) := by decide +kernel
theorem dX6_look_201 : decode cX6_look 201 = .ok (.getfield 166, 3) := by decide +kernel
theorem dX6_look_204 : decode cX6_look 204 = .ok (.iaload, 1) := by decide +kernel
theorem dX6_look_205 : decode cX6_look 205 = .ok (.iadd, 1) := by decide +kernel
theorem dX6_look_206 : decode cX6_look 206 = .ok (.bipush 48, 2) := by decide +kernel
theorem dX6_look_208 : decode cX6_look 208 = .ok (.isub, 1) := by decide +kernel
theorem dX6_look_209 : decode cX6_look 209 = .ok (.goto 6, 3) := by decide +kernel
theorem dX6_look_212 : decode cX6_look 212 = .ok (.sipush 1000, 3) := by decide +kernel
theorem dX6_look_215 : decode cX6_look 215 = .ok (.putfield 172, 3) := by decide +kernel
theorem dX6_look_218 : decode cX6_look 218 = .ok (.aload_n 0, 1) := by decide +kernel
theorem dX6_look_219 : decode cX6_look 219 = .ok (.dup, 1) := by decide +kernel
theorem dX6_look_220 : decode cX6_look 220 = .ok (.getfield 166, 3) := by decide +kernel
theorem dX6_look_223 : decode cX6_look 223 = .ok (.iconst 1, 1) := by decide +kernel
theorem dX6_look_224 : decode cX6_look 224 = .ok (.iadd, 1) := by decide +kernel
theorem dX6_look_225 : decode cX6_look 225 = .ok (.putfield 166, 3) := by decide +kernel
theorem dX6_look_228 : decode cX6_look 228 = .ok (.goto (-79), 3) := by decide +kernel
theorem dX6_look_231 : decode cX6_look 231 = .ok (.aload_n 0, 1) := by decide +kernel
theorem dX6_look_232 : decode cX6_look 232 = .ok (.aload_n 0, 1) := by decide +kernel
theorem dX6_look_233 : decode cX6_look 233 = .ok (.getfield 31, 3) := by decide +kernel
theorem dX6_look_236 : decode cX6_look 236 = .ok (.aload_n 0, 1) := by decide +kernel
theorem dX6_look_237 : decode cX6_look 237 = .ok (.getfield 166, 3) := by decide +kernel
theorem dX6_look_240 : decode cX6_look 240 = .ok (.iaload, 1) := by decide +kernel
theorem dX6_look_241 : decode cX6_look 241 = .ok (.bipush 59, 2) := by decide +kernel
theorem dX6_look_243 : decode cX6_look 243 = .ok (.if_icmp .ne 7, 3) := by decide +kernel
theorem dX6_look_246 : decode cX6_look 246 = .ok (.iconst 3, 1) := by decide +kernel
theorem dX6_look_247 : decode cX6_look 247 = .ok (.goto 4, 3) := by decide +kernel
theorem dX6_look_250 : decode cX6_look 250 = .ok (.iconst 4, 1) := by decide +kernel
theorem dX6_look_251 : decode cX6_look 251 = .ok (.putfield 175, 3) := by decide +kernel
theorem dX6_look_254 : decode cX6_look 254 = .ok (.aload_n 0, 1) := by decide +kernel
theorem dX6_look_255 : decode cX6_look 255 = .ok (.dup, 1) := by decide +kernel
theorem dX6_look_256 : decode cX6_look 256 = .ok (.getfield 166, 3) := by decide +kernel
theorem dX6_look_259 : decode cX6_look 259 = .ok (.iconst 1, 1) := by decide +kernel
theorem dX6_look_260 : decode cX6_look 260 = .ok (.iadd, 1) := by decide +kernel
theorem dX6_look_261 : decode cX6_look 261 = .ok (.putfield 166, 3) := by decide +kernel
theorem dX6_look_264 : decode cX6_look 264 = .ok (.return_, 1) := by decide +kernel
def fX6_look_90 : Nat → SS → Option (Unit × SS)
  | 0, _ => none
  | n + 1, s => if (s.1 0 7) ≤ (s.1 0 31) then (some ((), s)) else (if ixB (s.1 0 31) 250 then (((fX6_isLetter (s.1 15 ((s.1 0 31).toNatClampNeg)) s).bind fun z3 => if z3.1 = 0 then (some ((), s)) else (fX6_look_90 n (wrI s 0 31 ((s.1 0 31) + (1 : Int32)))))) else none)
def fX6_look_215 (rec_149 : SS → Option (Unit × SS)) (y1 : Int32) (s : SS) : Option (Unit × SS) := rec_149 (wrI (wrI s 0 34 y1) 0 31 ((s.1 0 31) + (1 : Int32)))
def fX6_look_149 : Nat → SS → Option (Unit × SS)
  | 0, _ => none
  | n + 1, s => if (s.1 0 7) ≤ (s.1 0 31) then (some ((), s)) else (if ixB (s.1 0 31) 250 then (((fX6_isDigit (s.1 15 ((s.1 0 31).toNatClampNeg)) s).bind fun z3 => if z3.1 = 0 then (some ((), s)) else (if (2 : Int32) ≤ ((s.1 0 31) - (s.1 0 33)) then (fX6_look_215 (fX6_look_149 n) (1000 : Int32) s) else (if ixB (s.1 0 31) 250 then (fX6_look_215 (fX6_look_149 n) ((((s.1 0 34) * (10 : Int32)) + (s.1 15 ((s.1 0 31).toNatClampNeg))) - (48 : Int32)) s) else none)))) else none)
def fX6_look_251 (y1 : Int32) (s : SS) : Option (Unit × SS) := some ((), wrI (wrI s 0 32 y1) 0 31 ((s.1 0 31) + (1 : Int32)))
def fX6_look_38 (s : SS) : Option (Unit × SS) := if (s.1 0 31) = (s.1 0 7) then (some ((), wrI (wrI (wrI s 0 33 (s.1 0 31)) 0 34 (0 : Int32)) 0 32 (0 : Int32))) else (if ixB (s.1 0 31) 250 then (((fX6_isLetter (s.1 15 ((s.1 0 31).toNatClampNeg)) (wrI (wrI s 0 33 (s.1 0 31)) 0 34 (0 : Int32))).bind fun z3 => if z3.1 = 0 then (if ixB (s.1 0 31) 250 then (((fX6_isDigit (s.1 15 ((s.1 0 31).toNatClampNeg)) (wrI (wrI s 0 33 (s.1 0 31)) 0 34 (0 : Int32))).bind fun z6 => if z6.1 = 0 then (if ixB (s.1 0 31) 250 then (if (s.1 15 ((s.1 0 31).toNatClampNeg)) = (59 : Int32) then (fX6_look_251 (3 : Int32) (wrI (wrI s 0 33 (s.1 0 31)) 0 34 (0 : Int32))) else (fX6_look_251 (4 : Int32) (wrI (wrI s 0 33 (s.1 0 31)) 0 34 (0 : Int32)))) else none) else (fX6_look_149 FU (wrI (wrI (wrI s 0 33 (s.1 0 31)) 0 34 (0 : Int32)) 0 32 (2 : Int32))))) else none) else (fX6_look_90 FU (wrI (wrI (wrI s 0 33 (s.1 0 31)) 0 34 (0 : Int32)) 0 32 (1 : Int32))))) else none)
def fX6_look_0 : Nat → SS → Option (Unit × SS)
  | 0, _ => none
  | n + 1, s => if (s.1 0 7) ≤ (s.1 0 31) then (fX6_look_38 s) else (if ixB (s.1 0 31) 250 then (if (s.1 15 ((s.1 0 31).toNatClampNeg)) = (32 : Int32) then (fX6_look_0 n (wrI s 0 31 ((s.1 0 31) + (1 : Int32)))) else (fX6_look_38 s)) else none)
def fX6_look (s : SS) : Option (Unit × SS) := fX6_look_0 FU s
set_option maxRecDepth 100000 in
set_option maxHeartbeats 4000000 in
theorem okX6_look_90 {G : GG} {pl : Nat → Nat} {h0 : PH} : ∀ (n : Nat) (s : SS), EvF G 1 mX6_look lyR pl h0 rvU (fX6_look_90 n s) 90 [(0, .ref (pl 0))] [] s := by
  intro n
  induction n with
  | zero => intro s; rw [fX6_look_90]; exact ef_none
  | succ n ih =>
    intro s
    rw [fX6_look_90]
    refine ef_aload_n (q := 91) 0 dX6_look_90 rfl rfl rfl ?_
    refine ef_getI (x := s.1 0 31) (q := 94) rfl fl6_166 rfl rfl dX6_look_91 rfl ?_
    refine ef_aload_n (q := 95) 0 dX6_look_94 rfl rfl rfl ?_
    refine ef_getI (x := s.1 0 7) (q := 98) rfl fl6_163 rfl rfl dX6_look_95 rfl ?_
    refine ef_if (pt := 264) (pf := 101) (fun _ _ => ev_icmp_ge (tgt := 264) dX6_look_98 (by decide)) (fun h1 => ?_) (fun h1 => ?_)
    · exact ef_vret rfl dX6_look_264
    · refine ef_aload_n (q := 102) 0 dX6_look_101 rfl rfl rfl ?_
      refine ef_getR (t := 15) (q := 105) rfl fl6_31 rfl rfl dX6_look_102 rfl ?_
      refine ef_aload_n (q := 106) 0 dX6_look_105 rfl rfl rfl ?_
      refine ef_getI (x := s.1 0 31) (q := 109) rfl fl6_166 rfl rfl dX6_look_106 rfl ?_
      refine ef_guard (fun g2 => ?_)
      refine ef_iaload (x := s.1 15 ((s.1 0 31).toNatClampNeg)) (q := 110) rfl g2 dX6_look_109 rfl rfl ?_
      refine ef_invPI0 (As := [.int (s.1 15 ((s.1 0 31).toNatClampNeg))]) (rest := []) (q := 113) (okX6_isLetter (s.1 15 ((s.1 0 31).toNatClampNeg))) rfl calX6_isLetter ml6_178 (by decide) rfl rfl (Nat.le_of_ble_eq_true rfl) dX6_look_110 rfl (fun z3 => ?_)
      refine ef_if (pt := 264) (pf := 116) (fun _ _ => ev_if_eq (tgt := 264) dX6_look_113 (by decide)) (fun h4 => ?_) (fun h4 => ?_)
      · exact ef_vret rfl dX6_look_264
      · refine ef_aload_n (q := 117) 0 dX6_look_116 rfl rfl rfl ?_
        refine ef_dup (q := 118) dX6_look_117 rfl rfl ?_
        refine ef_getI (x := s.1 0 31) (q := 121) rfl fl6_166 rfl rfl dX6_look_118 rfl ?_
        refine ef_iconst (v := (1 : Int32)) (q := 122) dX6_look_121 (by decide) rfl ?_
        refine ef_iadd (q := 123) dX6_look_122 rfl ?_
        refine ef_putI (q := 126) rfl fl6_166 rfl rfl dX6_look_123 rfl ?_
        refine ef_goto (tgt := 90) dX6_look_126 (by decide) ?_
        refine ef_sub (lv' := [(0, .ref (pl 0))]) [0] rfl ?_
        exact ih (wrI s 0 31 ((s.1 0 31) + (1 : Int32)))
set_option maxRecDepth 100000 in
set_option maxHeartbeats 4000000 in
theorem okX6_look_215 {G : GG} {pl : Nat → Nat} {h0 : PH} (rec_149 : SS → Option (Unit × SS)) (hrec_149 : ∀ (s : SS), EvF G 1 mX6_look lyR pl h0 rvU (rec_149 s) 149 [(0, .ref (pl 0))] [] s) (y1 : Int32) (s : SS) : EvF G 1 mX6_look lyR pl h0 rvU (fX6_look_215 rec_149 y1 s) 215 [(0, .ref (pl 0))] [.int y1, .ref (pl 0)] s := by
  unfold fX6_look_215
  refine ef_putI (q := 218) rfl fl6_172 rfl rfl dX6_look_215 rfl ?_
  refine ef_aload_n (q := 219) 0 dX6_look_218 rfl rfl rfl ?_
  refine ef_dup (q := 220) dX6_look_219 rfl rfl ?_
  refine ef_getI (x := s.1 0 31) (q := 223) rfl fl6_166 rfl rfl dX6_look_220 rfl ?_
  refine ef_iconst (v := (1 : Int32)) (q := 224) dX6_look_223 (by decide) rfl ?_
  refine ef_iadd (q := 225) dX6_look_224 rfl ?_
  refine ef_putI (q := 228) rfl fl6_166 rfl rfl dX6_look_225 rfl ?_
  refine ef_goto (tgt := 149) dX6_look_228 (by decide) ?_
  refine ef_sub (lv' := [(0, .ref (pl 0))]) [0] rfl ?_
  exact hrec_149 (wrI (wrI s 0 34 y1) 0 31 ((s.1 0 31) + (1 : Int32)))
set_option maxRecDepth 100000 in
set_option maxHeartbeats 4000000 in
theorem okX6_look_149 {G : GG} {pl : Nat → Nat} {h0 : PH} : ∀ (n : Nat) (s : SS), EvF G 1 mX6_look lyR pl h0 rvU (fX6_look_149 n s) 149 [(0, .ref (pl 0))] [] s := by
  intro n
  induction n with
  | zero => intro s; rw [fX6_look_149]; exact ef_none
  | succ n ih =>
    intro s
    rw [fX6_look_149]
    refine ef_aload_n (q := 150) 0 dX6_look_149 rfl rfl rfl ?_
    refine ef_getI (x := s.1 0 31) (q := 153) rfl fl6_166 rfl rfl dX6_look_150 rfl ?_
    refine ef_aload_n (q := 154) 0 dX6_look_153 rfl rfl rfl ?_
    refine ef_getI (x := s.1 0 7) (q := 157) rfl fl6_163 rfl rfl dX6_look_154 rfl ?_
    refine ef_if (pt := 264) (pf := 160) (fun _ _ => ev_icmp_ge (tgt := 264) dX6_look_157 (by decide)) (fun h1 => ?_) (fun h1 => ?_)
    · exact ef_vret rfl dX6_look_264
    · refine ef_aload_n (q := 161) 0 dX6_look_160 rfl rfl rfl ?_
      refine ef_getR (t := 15) (q := 164) rfl fl6_31 rfl rfl dX6_look_161 rfl ?_
      refine ef_aload_n (q := 165) 0 dX6_look_164 rfl rfl rfl ?_
      refine ef_getI (x := s.1 0 31) (q := 168) rfl fl6_166 rfl rfl dX6_look_165 rfl ?_
      refine ef_guard (fun g2 => ?_)
      refine ef_iaload (x := s.1 15 ((s.1 0 31).toNatClampNeg)) (q := 169) rfl g2 dX6_look_168 rfl rfl ?_
      refine ef_invPI0 (As := [.int (s.1 15 ((s.1 0 31).toNatClampNeg))]) (rest := []) (q := 172) (okX6_isDigit (s.1 15 ((s.1 0 31).toNatClampNeg))) rfl calX6_isDigit ml6_181 (by decide) rfl rfl (Nat.le_of_ble_eq_true rfl) dX6_look_169 rfl (fun z3 => ?_)
      refine ef_if (pt := 264) (pf := 175) (fun _ _ => ev_if_eq (tgt := 264) dX6_look_172 (by decide)) (fun h4 => ?_) (fun h4 => ?_)
      · exact ef_vret rfl dX6_look_264
      · refine ef_aload_n (q := 176) 0 dX6_look_175 rfl rfl rfl ?_
        refine ef_aload_n (q := 177) 0 dX6_look_176 rfl rfl rfl ?_
        refine ef_getI (x := s.1 0 31) (q := 180) rfl fl6_166 rfl rfl dX6_look_177 rfl ?_
        refine ef_aload_n (q := 181) 0 dX6_look_180 rfl rfl rfl ?_
        refine ef_getI (x := s.1 0 33) (q := 184) rfl fl6_169 rfl rfl dX6_look_181 rfl ?_
        refine ef_isub (q := 185) dX6_look_184 rfl ?_
        refine ef_iconst (v := (2 : Int32)) (q := 186) dX6_look_185 (by decide) rfl ?_
        refine ef_if (pt := 212) (pf := 189) (fun _ _ => ev_icmp_ge (tgt := 212) dX6_look_186 (by decide)) (fun h5 => ?_) (fun h5 => ?_)
        · refine ef_sipush (v := (1000 : Int32)) (q := 215) dX6_look_212 (by decide) rfl ?_
          refine ef_sub (lv' := [(0, .ref (pl 0))]) [0] rfl ?_
          exact okX6_look_215 (fX6_look_149 n) ih (1000 : Int32) s
        · refine ef_aload_n (q := 190) 0 dX6_look_189 rfl rfl rfl ?_
          refine ef_getI (x := s.1 0 34) (q := 193) rfl fl6_172 rfl rfl dX6_look_190 rfl ?_
          refine ef_bipush (v := (10 : Int32)) (q := 195) dX6_look_193 (by decide) rfl ?_
          refine ef_imul (q := 196) dX6_look_195 rfl ?_
          refine ef_aload_n (q := 197) 0 dX6_look_196 rfl rfl rfl ?_
          refine ef_getR (t := 15) (q := 200) rfl fl6_31 rfl rfl dX6_look_197 rfl ?_
          refine ef_aload_n (q := 201) 0 dX6_look_200 rfl rfl rfl ?_
          refine ef_getI (x := s.1 0 31) (q := 204) rfl fl6_166 rfl rfl dX6_look_201 rfl ?_
          refine ef_guard (fun g6 => ?_)
          refine ef_iaload (x := s.1 15 ((s.1 0 31).toNatClampNeg)) (q := 205) rfl g6 dX6_look_204 rfl rfl ?_
          refine ef_iadd (q := 206) dX6_look_205 rfl ?_
          refine ef_bipush (v := (48 : Int32)) (q := 208) dX6_look_206 (by decide) rfl ?_
          refine ef_isub (q := 209) dX6_look_208 rfl ?_
          refine ef_goto (tgt := 215) dX6_look_209 (by decide) ?_
          refine ef_sub (lv' := [(0, .ref (pl 0))]) [0] rfl ?_
          exact okX6_look_215 (fX6_look_149 n) ih ((((s.1 0 34) * (10 : Int32)) + (s.1 15 ((s.1 0 31).toNatClampNeg))) - (48 : Int32)) s
set_option maxRecDepth 100000 in
set_option maxHeartbeats 4000000 in
theorem okX6_look_251 {G : GG} {pl : Nat → Nat} {h0 : PH} (y1 : Int32) (s : SS) : EvF G 1 mX6_look lyR pl h0 rvU (fX6_look_251 y1 s) 251 [(0, .ref (pl 0))] [.int y1, .ref (pl 0)] s := by
  unfold fX6_look_251
  refine ef_putI (q := 254) rfl fl6_175 rfl rfl dX6_look_251 rfl ?_
  refine ef_aload_n (q := 255) 0 dX6_look_254 rfl rfl rfl ?_
  refine ef_dup (q := 256) dX6_look_255 rfl rfl ?_
  refine ef_getI (x := s.1 0 31) (q := 259) rfl fl6_166 rfl rfl dX6_look_256 rfl ?_
  refine ef_iconst (v := (1 : Int32)) (q := 260) dX6_look_259 (by decide) rfl ?_
  refine ef_iadd (q := 261) dX6_look_260 rfl ?_
  refine ef_putI (q := 264) rfl fl6_166 rfl rfl dX6_look_261 rfl ?_
  exact ef_vret rfl dX6_look_264
set_option maxRecDepth 100000 in
set_option maxHeartbeats 4000000 in
theorem okX6_look_38 {G : GG} {pl : Nat → Nat} {h0 : PH} (s : SS) : EvF G 1 mX6_look lyR pl h0 rvU (fX6_look_38 s) 38 [(0, .ref (pl 0))] [] s := by
  unfold fX6_look_38
  refine ef_aload_n (q := 39) 0 dX6_look_38 rfl rfl rfl ?_
  refine ef_aload_n (q := 40) 0 dX6_look_39 rfl rfl rfl ?_
  refine ef_getI (x := s.1 0 31) (q := 43) rfl fl6_166 rfl rfl dX6_look_40 rfl ?_
  refine ef_putI (q := 46) rfl fl6_169 rfl rfl dX6_look_43 rfl ?_
  refine ef_aload_n (q := 47) 0 dX6_look_46 rfl rfl rfl ?_
  refine ef_iconst (v := (0 : Int32)) (q := 48) dX6_look_47 (by decide) rfl ?_
  refine ef_putI (q := 51) rfl fl6_172 rfl rfl dX6_look_48 rfl ?_
  refine ef_aload_n (q := 52) 0 dX6_look_51 rfl rfl rfl ?_
  refine ef_getI (x := s.1 0 31) (q := 55) rfl fl6_166 rfl rfl dX6_look_52 rfl ?_
  refine ef_aload_n (q := 56) 0 dX6_look_55 rfl rfl rfl ?_
  refine ef_getI (x := s.1 0 7) (q := 59) rfl fl6_163 rfl rfl dX6_look_56 rfl ?_
  refine ef_if (pt := 62) (pf := 70) (fun _ _ kt kf => ev_icmp_ne (tgt := 70) dX6_look_59 (by decide) kf kt) (fun h1 => ?_) (fun h1 => ?_)
  · refine ef_aload_n (q := 63) 0 dX6_look_62 rfl rfl rfl ?_
    refine ef_iconst (v := (0 : Int32)) (q := 64) dX6_look_63 (by decide) rfl ?_
    refine ef_putI (q := 67) rfl fl6_175 rfl rfl dX6_look_64 rfl ?_
    refine ef_goto (tgt := 264) dX6_look_67 (by decide) ?_
    exact ef_vret rfl dX6_look_264
  · refine ef_aload_n (q := 71) 0 dX6_look_70 rfl rfl rfl ?_
    refine ef_getR (t := 15) (q := 74) rfl fl6_31 rfl rfl dX6_look_71 rfl ?_
    refine ef_aload_n (q := 75) 0 dX6_look_74 rfl rfl rfl ?_
    refine ef_getI (x := s.1 0 31) (q := 78) rfl fl6_166 rfl rfl dX6_look_75 rfl ?_
    refine ef_guard (fun g2 => ?_)
    refine ef_iaload (x := s.1 15 ((s.1 0 31).toNatClampNeg)) (q := 79) rfl g2 dX6_look_78 rfl rfl ?_
    refine ef_invPI0 (As := [.int (s.1 15 ((s.1 0 31).toNatClampNeg))]) (rest := []) (q := 82) (okX6_isLetter (s.1 15 ((s.1 0 31).toNatClampNeg))) rfl calX6_isLetter ml6_178 (by decide) rfl rfl (Nat.le_of_ble_eq_true rfl) dX6_look_79 rfl (fun z3 => ?_)
    refine ef_if (pt := 129) (pf := 85) (fun _ _ => ev_if_eq (tgt := 129) dX6_look_82 (by decide)) (fun h4 => ?_) (fun h4 => ?_)
    · refine ef_aload_n (q := 130) 0 dX6_look_129 rfl rfl rfl ?_
      refine ef_getR (t := 15) (q := 133) rfl fl6_31 rfl rfl dX6_look_130 rfl ?_
      refine ef_aload_n (q := 134) 0 dX6_look_133 rfl rfl rfl ?_
      refine ef_getI (x := s.1 0 31) (q := 137) rfl fl6_166 rfl rfl dX6_look_134 rfl ?_
      refine ef_guard (fun g5 => ?_)
      refine ef_iaload (x := s.1 15 ((s.1 0 31).toNatClampNeg)) (q := 138) rfl g5 dX6_look_137 rfl rfl ?_
      refine ef_invPI0 (As := [.int (s.1 15 ((s.1 0 31).toNatClampNeg))]) (rest := []) (q := 141) (okX6_isDigit (s.1 15 ((s.1 0 31).toNatClampNeg))) rfl calX6_isDigit ml6_181 (by decide) rfl rfl (Nat.le_of_ble_eq_true rfl) dX6_look_138 rfl (fun z6 => ?_)
      refine ef_if (pt := 231) (pf := 144) (fun _ _ => ev_if_eq (tgt := 231) dX6_look_141 (by decide)) (fun h7 => ?_) (fun h7 => ?_)
      · refine ef_aload_n (q := 232) 0 dX6_look_231 rfl rfl rfl ?_
        refine ef_aload_n (q := 233) 0 dX6_look_232 rfl rfl rfl ?_
        refine ef_getR (t := 15) (q := 236) rfl fl6_31 rfl rfl dX6_look_233 rfl ?_
        refine ef_aload_n (q := 237) 0 dX6_look_236 rfl rfl rfl ?_
        refine ef_getI (x := s.1 0 31) (q := 240) rfl fl6_166 rfl rfl dX6_look_237 rfl ?_
        refine ef_guard (fun g8 => ?_)
        refine ef_iaload (x := s.1 15 ((s.1 0 31).toNatClampNeg)) (q := 241) rfl g8 dX6_look_240 rfl rfl ?_
        refine ef_bipush (v := (59 : Int32)) (q := 243) dX6_look_241 (by decide) rfl ?_
        refine ef_if (pt := 246) (pf := 250) (fun _ _ kt kf => ev_icmp_ne (tgt := 250) dX6_look_243 (by decide) kf kt) (fun h9 => ?_) (fun h9 => ?_)
        · refine ef_iconst (v := (3 : Int32)) (q := 247) dX6_look_246 (by decide) rfl ?_
          refine ef_goto (tgt := 251) dX6_look_247 (by decide) ?_
          refine ef_sub (lv' := [(0, .ref (pl 0))]) [0] rfl ?_
          exact okX6_look_251 (3 : Int32) (wrI (wrI s 0 33 (s.1 0 31)) 0 34 (0 : Int32))
        · refine ef_iconst (v := (4 : Int32)) (q := 251) dX6_look_250 (by decide) rfl ?_
          refine ef_sub (lv' := [(0, .ref (pl 0))]) [0] rfl ?_
          exact okX6_look_251 (4 : Int32) (wrI (wrI s 0 33 (s.1 0 31)) 0 34 (0 : Int32))
      · refine ef_aload_n (q := 145) 0 dX6_look_144 rfl rfl rfl ?_
        refine ef_iconst (v := (2 : Int32)) (q := 146) dX6_look_145 (by decide) rfl ?_
        refine ef_putI (q := 149) rfl fl6_175 rfl rfl dX6_look_146 rfl ?_
        refine ef_sub (lv' := [(0, .ref (pl 0))]) [0] rfl ?_
        exact okX6_look_149 FU (wrI (wrI (wrI s 0 33 (s.1 0 31)) 0 34 (0 : Int32)) 0 32 (2 : Int32))
    · refine ef_aload_n (q := 86) 0 dX6_look_85 rfl rfl rfl ?_
      refine ef_iconst (v := (1 : Int32)) (q := 87) dX6_look_86 (by decide) rfl ?_
      refine ef_putI (q := 90) rfl fl6_175 rfl rfl dX6_look_87 rfl ?_
      refine ef_sub (lv' := [(0, .ref (pl 0))]) [0] rfl ?_
      exact okX6_look_90 FU (wrI (wrI (wrI s 0 33 (s.1 0 31)) 0 34 (0 : Int32)) 0 32 (1 : Int32))
set_option maxRecDepth 100000 in
set_option maxHeartbeats 4000000 in
theorem okX6_look_0 {G : GG} {pl : Nat → Nat} {h0 : PH} : ∀ (n : Nat) (s : SS), EvF G 1 mX6_look lyR pl h0 rvU (fX6_look_0 n s) 0 [(0, .ref (pl 0))] [] s := by
  intro n
  induction n with
  | zero => intro s; rw [fX6_look_0]; exact ef_none
  | succ n ih =>
    intro s
    rw [fX6_look_0]
    refine ef_aload_n (q := 1) 0 dX6_look_0 rfl rfl rfl ?_
    refine ef_getI (x := s.1 0 31) (q := 4) rfl fl6_166 rfl rfl dX6_look_1 rfl ?_
    refine ef_aload_n (q := 5) 0 dX6_look_4 rfl rfl rfl ?_
    refine ef_getI (x := s.1 0 7) (q := 8) rfl fl6_163 rfl rfl dX6_look_5 rfl ?_
    refine ef_if (pt := 38) (pf := 11) (fun _ _ => ev_icmp_ge (tgt := 38) dX6_look_8 (by decide)) (fun h1 => ?_) (fun h1 => ?_)
    · refine ef_sub (lv' := [(0, .ref (pl 0))]) [0] rfl ?_
      exact okX6_look_38 s
    · refine ef_aload_n (q := 12) 0 dX6_look_11 rfl rfl rfl ?_
      refine ef_getR (t := 15) (q := 15) rfl fl6_31 rfl rfl dX6_look_12 rfl ?_
      refine ef_aload_n (q := 16) 0 dX6_look_15 rfl rfl rfl ?_
      refine ef_getI (x := s.1 0 31) (q := 19) rfl fl6_166 rfl rfl dX6_look_16 rfl ?_
      refine ef_guard (fun g2 => ?_)
      refine ef_iaload (x := s.1 15 ((s.1 0 31).toNatClampNeg)) (q := 20) rfl g2 dX6_look_19 rfl rfl ?_
      refine ef_bipush (v := (32 : Int32)) (q := 22) dX6_look_20 (by decide) rfl ?_
      refine ef_if (pt := 25) (pf := 38) (fun _ _ kt kf => ev_icmp_ne (tgt := 38) dX6_look_22 (by decide) kf kt) (fun h3 => ?_) (fun h3 => ?_)
      · refine ef_aload_n (q := 26) 0 dX6_look_25 rfl rfl rfl ?_
        refine ef_dup (q := 27) dX6_look_26 rfl rfl ?_
        refine ef_getI (x := s.1 0 31) (q := 30) rfl fl6_166 rfl rfl dX6_look_27 rfl ?_
        refine ef_iconst (v := (1 : Int32)) (q := 31) dX6_look_30 (by decide) rfl ?_
        refine ef_iadd (q := 32) dX6_look_31 rfl ?_
        refine ef_putI (q := 35) rfl fl6_166 rfl rfl dX6_look_32 rfl ?_
        refine ef_goto (tgt := 0) dX6_look_35 (by decide) ?_
        refine ef_sub (lv' := [(0, .ref (pl 0))]) [0] rfl ?_
        exact ih (wrI s 0 31 ((s.1 0 31) + (1 : Int32)))
      · refine ef_sub (lv' := [(0, .ref (pl 0))]) [0] rfl ?_
        exact okX6_look_38 s
theorem okX6_look : MtF 1 mX6_look lyR rvU (fun _ pl => [.ref (pl 0)]) (fX6_look) := by
  refine MtF.of (by decide +kernel) rfl (fun _ pl => Nat.le_of_ble_eq_true rfl) (fun G pl h0 s => ?_)
  refine ef_sub (lv := [(0, .ref (pl 0))]) (lv' := [(0, .ref (pl 0))]) [0] rfl ?_
  exact okX6_look_0  FU s
-- X6_wrong
theorem dX6_wrong_0 : decode cX6_wrong 0 = .ok (.aload_n 0, 1) := by decide +kernel
theorem dX6_wrong_1 : decode cX6_wrong 1 = .ok (.aload_n 0, 1) := by decide +kernel
theorem dX6_wrong_2 : decode cX6_wrong 2 = .ok (.getfield 169, 3) := by decide +kernel
theorem dX6_wrong_5 : decode cX6_wrong 5 = .ok (.putfield 184, 3) := by decide +kernel
theorem dX6_wrong_8 : decode cX6_wrong 8 = .ok (.iconst 0, 1) := by decide +kernel
theorem dX6_wrong_9 : decode cX6_wrong 9 = .ok (.ireturn, 1) := by decide +kernel
def fX6_wrong_0 (s : SS) : Option (Int32 × SS) := some ((0 : Int32), wrI s 0 35 (s.1 0 33))
def fX6_wrong (s : SS) : Option (Int32 × SS) := fX6_wrong_0 s
set_option maxRecDepth 100000 in
set_option maxHeartbeats 4000000 in
theorem okX6_wrong_0 {G : GG} {pl : Nat → Nat} {h0 : PH} (s : SS) : EvF G 0 mX6_wrong lyR pl h0 rvI (fX6_wrong_0 s) 0 [(0, .ref (pl 0))] [] s := by
  unfold fX6_wrong_0
  refine ef_aload_n (q := 1) 0 dX6_wrong_0 rfl rfl rfl ?_
  refine ef_aload_n (q := 2) 0 dX6_wrong_1 rfl rfl rfl ?_
  refine ef_getI (x := s.1 0 33) (q := 5) rfl fl6_169 rfl rfl dX6_wrong_2 rfl ?_
  refine ef_putI (q := 8) rfl fl6_184 rfl rfl dX6_wrong_5 rfl ?_
  refine ef_iconst (v := (0 : Int32)) (q := 9) dX6_wrong_8 (by decide) rfl ?_
  exact ef_zretc (x := (0 : Int32)) (by decide) rfl dX6_wrong_9
theorem okX6_wrong : MtF 0 mX6_wrong lyR rvI (fun _ pl => [.ref (pl 0)]) (fX6_wrong) := by
  refine MtF.of (by decide +kernel) rfl (fun _ pl => Nat.le_of_ble_eq_true rfl) (fun G pl h0 s => ?_)
  refine ef_sub (lv := [(0, .ref (pl 0))]) (lv' := [(0, .ref (pl 0))]) [0] rfl ?_
  exact okX6_wrong_0  s
-- X6_isWord
theorem dX6_isWord_0 : decode cX6_isWord 0 = .ok (.aload_n 0, 1) := by decide +kernel
theorem dX6_isWord_1 : decode cX6_isWord 1 = .ok (.getfield 175, 3) := by decide +kernel
theorem dX6_isWord_4 : decode cX6_isWord 4 = .ok (.iconst 1, 1) := by decide +kernel
theorem dX6_isWord_5 : decode cX6_isWord 5 = .ok (.if_icmp .ne 19, 3) := by decide +kernel
theorem dX6_isWord_8 : decode cX6_isWord 8 = .ok (.aload_n 0, 1) := by decide +kernel
theorem dX6_isWord_9 : decode cX6_isWord 9 = .ok (.getfield 166, 3) := by decide +kernel
theorem dX6_isWord_12 : decode cX6_isWord 12 = .ok (.aload_n 0, 1) := by decide +kernel
theorem dX6_isWord_13 : decode cX6_isWord 13 = .ok (.getfield 169, 3) := by decide +kernel
theorem dX6_isWord_16 : decode cX6_isWord 16 = .ok (.isub, 1) := by decide +kernel
theorem dX6_isWord_17 : decode cX6_isWord 17 = .ok (.aload_n 1, 1) := by decide +kernel
theorem dX6_isWord_18 : decode cX6_isWord 18 = .ok (.invokevirtual 187, 3) := by decide +kernel
theorem dX6_isWord_21 : decode cX6_isWord 21 = .ok (.if_icmp .eq 5, 3) := by decide +kernel
theorem dX6_isWord_24 : decode cX6_isWord 24 = .ok (.iconst 0, 1) := by decide +kernel
theorem dX6_isWord_25 : decode cX6_isWord 25 = .ok (.ireturn, 1) := by decide +kernel
theorem dX6_isWord_26 : decode cX6_isWord 26 = .ok (.iconst 0, 1) := by decide +kernel
theorem dX6_isWord_27 : decode cX6_isWord 27 = .ok (.istore_n 2, 1) := by decide +kernel
theorem dX6_isWord_28 : decode cX6_isWord 28 = .ok (.iload_n 2, 1) := by decide +kernel
theorem dX6_isWord_29 : decode cX6_isWord 29 = .ok (.aload_n 1, 1) := by decide +kernel
theorem dX6_isWord_30 : decode cX6_isWord 30 = .ok (.invokevirtual 187, 3) := by decide +kernel
theorem dX6_isWord_33 : decode cX6_isWord 33 = .ok (.if_icmp .ge 30, 3) := by decide +kernel
theorem dX6_isWord_36 : decode cX6_isWord 36 = .ok (.aload_n 0, 1) := by decide +kernel
theorem dX6_isWord_37 : decode cX6_isWord 37 = .ok (.getfield 31, 3) := by decide +kernel
theorem dX6_isWord_40 : decode cX6_isWord 40 = .ok (.aload_n 0, 1) := by decide +kernel
theorem dX6_isWord_41 : decode cX6_isWord 41 = .ok (.getfield 169, 3) := by decide +kernel
theorem dX6_isWord_44 : decode cX6_isWord 44 = .ok (.iload_n 2, 1) := by decide +kernel
theorem dX6_isWord_45 : decode cX6_isWord 45 = .ok (.iadd, 1) := by decide +kernel
theorem dX6_isWord_46 : decode cX6_isWord 46 = .ok (.iaload, 1) := by decide +kernel
theorem dX6_isWord_47 : decode cX6_isWord 47 = .ok (.aload_n 1, 1) := by decide +kernel
theorem dX6_isWord_48 : decode cX6_isWord 48 = .ok (.iload_n 2, 1) := by decide +kernel
theorem dX6_isWord_49 : decode cX6_isWord 49 = .ok (.invokevirtual 193, 3) := by decide +kernel
theorem dX6_isWord_52 : decode cX6_isWord 52 = .ok (.if_icmp .eq 5, 3) := by decide +kernel
theorem dX6_isWord_55 : decode cX6_isWord 55 = .ok (.iconst 0, 1) := by decide +kernel
theorem dX6_isWord_56 : decode cX6_isWord 56 = .ok (.ireturn, 1) := by decide +kernel
theorem dX6_isWord_57 : decode cX6_isWord 57 = .ok (.iinc 2 1, 3) := by decide +kernel
theorem dX6_isWord_60 : decode cX6_isWord 60 = .ok (.goto (-32), 3) := by decide +kernel
theorem dX6_isWord_63 : decode cX6_isWord 63 = .ok (.iconst 1, 1) := by decide +kernel
theorem dX6_isWord_64 : decode cX6_isWord 64 = .ok (.ireturn, 1) := by decide +kernel
def fX6_isWord_28 : Nat → Nat → Int32 → SS → Option (Int32 × SS)
  | 0, _, _, _ => none
  | n + 1, x1, x2, s => if x1 < 7 then (if (slen x1) ≤ x2 then (some ((1 : Int32), s)) else (if ixB ((s.1 0 33) + x2) 250 then (if x1 < 7 then (if ixB x2 (strLen.getD x1 0) then (if (s.1 15 (((s.1 0 33) + x2).toNatClampNeg)) = (sch x1 x2.toNatClampNeg) then (fX6_isWord_28 n x1 (x2 + (1 : Int32)) s) else (some ((0 : Int32), s))) else none) else none) else none)) else none
def fX6_isWord_0 (x1 : Nat) (s : SS) : Option (Int32 × SS) := if (s.1 0 32) = (1 : Int32) then (if x1 < 7 then (if ((s.1 0 31) - (s.1 0 33)) = (slen x1) then (fX6_isWord_28 FU x1 (0 : Int32) s) else (some ((0 : Int32), s))) else none) else (some ((0 : Int32), s))
def fX6_isWord (x1 : Nat) (s : SS) : Option (Int32 × SS) := fX6_isWord_0 x1 s
set_option maxRecDepth 100000 in
set_option maxHeartbeats 4000000 in
theorem okX6_isWord_28 {G : GG} {pl : Nat → Nat} {h0 : PH} : ∀ (n : Nat) (x1 : Nat) (x2 : Int32) (s : SS), EvF G 4 mX6_isWord lyR pl h0 rvI (fX6_isWord_28 n x1 x2 s) 28 [(0, .ref (pl 0)), (1, .ref (G.2.2.2.1 x1)), (2, .int x2)] [] s := by
  intro n
  induction n with
  | zero => intro x1 x2 s; rw [fX6_isWord_28]; exact ef_none
  | succ n ih =>
    intro x1 x2 s
    rw [fX6_isWord_28]
    refine ef_iload_n (q := 29) 2 dX6_isWord_28 rfl rfl rfl ?_
    refine ef_aload_n (q := 30) 1 dX6_isWord_29 rfl rfl rfl ?_
    refine ef_guard (fun g1 => ?_)
    refine ef_strlen (q := 33) g1 tlRX6_187 (by decide) (Nat.le_of_ble_eq_true rfl) dX6_isWord_30 rfl ?_
    refine ef_if (pt := 63) (pf := 36) (fun _ _ => ev_icmp_ge (tgt := 63) dX6_isWord_33 (by decide)) (fun h2 => ?_) (fun h2 => ?_)
    · refine ef_iconst (v := (1 : Int32)) (q := 64) dX6_isWord_63 (by decide) rfl ?_
      exact ef_zretc (x := (1 : Int32)) (by decide) rfl dX6_isWord_64
    · refine ef_aload_n (q := 37) 0 dX6_isWord_36 rfl rfl rfl ?_
      refine ef_getR (t := 15) (q := 40) rfl fl6_31 rfl rfl dX6_isWord_37 rfl ?_
      refine ef_aload_n (q := 41) 0 dX6_isWord_40 rfl rfl rfl ?_
      refine ef_getI (x := s.1 0 33) (q := 44) rfl fl6_169 rfl rfl dX6_isWord_41 rfl ?_
      refine ef_iload_n (q := 45) 2 dX6_isWord_44 rfl rfl rfl ?_
      refine ef_iadd (q := 46) dX6_isWord_45 rfl ?_
      refine ef_guard (fun g3 => ?_)
      refine ef_iaload (x := s.1 15 (((s.1 0 33) + x2).toNatClampNeg)) (q := 47) rfl g3 dX6_isWord_46 rfl rfl ?_
      refine ef_aload_n (q := 48) 1 dX6_isWord_47 rfl rfl rfl ?_
      refine ef_iload_n (q := 49) 2 dX6_isWord_48 rfl rfl rfl ?_
      refine ef_guard (fun g4 => ?_)
      refine ef_guard (fun g5 => ?_)
      refine ef_charAt (q := 52) g4 g5 tlRX6_193 (by decide) (Nat.le_of_ble_eq_true rfl) dX6_isWord_49 rfl ?_
      refine ef_if (pt := 57) (pf := 55) (fun _ _ => ev_icmp_eq (tgt := 57) dX6_isWord_52 (by decide)) (fun h6 => ?_) (fun h6 => ?_)
      · refine ef_iinc (v := x2 + (1 : Int32)) (lv' := [(2, .int (x2 + (1 : Int32))), (0, .ref (pl 0)), (1, .ref (G.2.2.2.1 x1))]) (q := 60) 2 dX6_isWord_57 rfl rfl (by decide) rfl rfl ?_
        refine ef_goto (tgt := 28) dX6_isWord_60 (by decide) ?_
        refine ef_sub (lv' := [(0, .ref (pl 0)), (1, .ref (G.2.2.2.1 x1)), (2, .int (x2 + (1 : Int32)))]) [1, 2, 0] rfl ?_
        exact ih x1 (x2 + (1 : Int32)) s
      · refine ef_iconst (v := (0 : Int32)) (q := 56) dX6_isWord_55 (by decide) rfl ?_
        exact ef_zretc (x := (0 : Int32)) (by decide) rfl dX6_isWord_56
set_option maxRecDepth 100000 in
set_option maxHeartbeats 4000000 in
theorem okX6_isWord_0 {G : GG} {pl : Nat → Nat} {h0 : PH} (x1 : Nat) (s : SS) : EvF G 4 mX6_isWord lyR pl h0 rvI (fX6_isWord_0 x1 s) 0 [(0, .ref (pl 0)), (1, .ref (G.2.2.2.1 x1))] [] s := by
  unfold fX6_isWord_0
  refine ef_aload_n (q := 1) 0 dX6_isWord_0 rfl rfl rfl ?_
  refine ef_getI (x := s.1 0 32) (q := 4) rfl fl6_175 rfl rfl dX6_isWord_1 rfl ?_
  refine ef_iconst (v := (1 : Int32)) (q := 5) dX6_isWord_4 (by decide) rfl ?_
  refine ef_if (pt := 8) (pf := 24) (fun _ _ kt kf => ev_icmp_ne (tgt := 24) dX6_isWord_5 (by decide) kf kt) (fun h1 => ?_) (fun h1 => ?_)
  · refine ef_aload_n (q := 9) 0 dX6_isWord_8 rfl rfl rfl ?_
    refine ef_getI (x := s.1 0 31) (q := 12) rfl fl6_166 rfl rfl dX6_isWord_9 rfl ?_
    refine ef_aload_n (q := 13) 0 dX6_isWord_12 rfl rfl rfl ?_
    refine ef_getI (x := s.1 0 33) (q := 16) rfl fl6_169 rfl rfl dX6_isWord_13 rfl ?_
    refine ef_isub (q := 17) dX6_isWord_16 rfl ?_
    refine ef_aload_n (q := 18) 1 dX6_isWord_17 rfl rfl rfl ?_
    refine ef_guard (fun g2 => ?_)
    refine ef_strlen (q := 21) g2 tlRX6_187 (by decide) (Nat.le_of_ble_eq_true rfl) dX6_isWord_18 rfl ?_
    refine ef_if (pt := 26) (pf := 24) (fun _ _ => ev_icmp_eq (tgt := 26) dX6_isWord_21 (by decide)) (fun h3 => ?_) (fun h3 => ?_)
    · refine ef_iconst (v := (0 : Int32)) (q := 27) dX6_isWord_26 (by decide) rfl ?_
      refine ef_istore_n (lv' := [(2, .int (0 : Int32)), (0, .ref (pl 0)), (1, .ref (G.2.2.2.1 x1))]) (q := 28) dX6_isWord_27 rfl (by decide) rfl rfl ?_
      refine ef_sub (lv' := [(0, .ref (pl 0)), (1, .ref (G.2.2.2.1 x1)), (2, .int (0 : Int32))]) [1, 2, 0] rfl ?_
      exact okX6_isWord_28 FU x1 (0 : Int32) s
    · refine ef_iconst (v := (0 : Int32)) (q := 25) dX6_isWord_24 (by decide) rfl ?_
      exact ef_zretc (x := (0 : Int32)) (by decide) rfl dX6_isWord_25
  · refine ef_iconst (v := (0 : Int32)) (q := 25) dX6_isWord_24 (by decide) rfl ?_
    exact ef_zretc (x := (0 : Int32)) (by decide) rfl dX6_isWord_25
theorem okX6_isWord (x1 : Nat) : MtF 4 mX6_isWord lyR rvI (fun G pl => [.ref (pl 0), .ref (G.2.2.2.1 x1)]) (fX6_isWord x1) := by
  refine MtF.of (by decide +kernel) rfl (fun _ pl => Nat.le_of_ble_eq_true rfl) (fun G pl h0 s => ?_)
  refine ef_sub (lv := [(0, .ref (pl 0)), (1, .ref (G.2.2.2.1 x1))]) (lv' := [(0, .ref (pl 0)), (1, .ref (G.2.2.2.1 x1))]) [0, 1] rfl ?_
  exact okX6_isWord_0  x1 s
-- X6_number
theorem dX6_number_0 : decode cX6_number 0 = .ok (.aload_n 0, 1) := by decide +kernel
theorem dX6_number_1 : decode cX6_number 1 = .ok (.getfield 175, 3) := by decide +kernel
theorem dX6_number_4 : decode cX6_number 4 = .ok (.iconst 2, 1) := by decide +kernel
theorem dX6_number_5 : decode cX6_number 5 = .ok (.if_icmp .ne 18, 3) := by decide +kernel
theorem dX6_number_8 : decode cX6_number 8 = .ok (.aload_n 0, 1) := by decide +kernel
theorem dX6_number_9 : decode cX6_number 9 = .ok (.getfield 172, 3) := by decide +kernel
theorem dX6_number_12 : decode cX6_number 12 = .ok (.i2l, 1) := by decide +kernel
theorem dX6_number_13 : decode cX6_number 13 = .ok (.iload_n 2, 1) := by decide +kernel
theorem dX6_number_14 : decode cX6_number 14 = .ok (.i2l, 1) := by decide +kernel
theorem dX6_number_15 : decode cX6_number 15 = .ok (.iload_n 3, 1) := by decide +kernel
theorem dX6_number_16 : decode cX6_number 16 = .ok (.i2l, 1) := by decide +kernel
theorem dX6_number_17 : decode cX6_number 17 = .ok (.invokestatic 89, 3) := by decide +kernel
theorem dX6_number_20 : decode cX6_number 20 = .ok (.ifCond .ne 8, 3) := by decide +kernel
theorem dX6_number_23 : decode cX6_number 23 = .ok (.aload_n 0, 1) := by decide +kernel
theorem dX6_number_24 : decode cX6_number 24 = .ok (.invokevirtual 197, 3) := by decide +kernel
theorem dX6_number_27 : decode cX6_number 27 = .ok (.ireturn, 1) := by decide +kernel
theorem dX6_number_28 : decode cX6_number 28 = .ok (.aload_n 0, 1) := by decide +kernel
theorem dX6_number_29 : decode cX6_number 29 = .ok (.getfield 74, 3) := by decide +kernel
theorem dX6_number_32 : decode cX6_number 32 = .ok (.iload_n 1, 1) := by decide +kernel
theorem dX6_number_33 : decode cX6_number 33 = .ok (.aload_n 0, 1) := by decide +kernel
theorem dX6_number_34 : decode cX6_number 34 = .ok (.getfield 172, 3) := by decide +kernel
theorem dX6_number_37 : decode cX6_number 37 = .ok (.iastore, 1) := by decide +kernel
theorem dX6_number_38 : decode cX6_number 38 = .ok (.aload_n 0, 1) := by decide +kernel
theorem dX6_number_39 : decode cX6_number 39 = .ok (.invokevirtual 201, 3) := by decide +kernel
theorem dX6_number_42 : decode cX6_number 42 = .ok (.iconst 1, 1) := by decide +kernel
theorem dX6_number_43 : decode cX6_number 43 = .ok (.ireturn, 1) := by decide +kernel
def fX6_number_23 (s : SS) : Option (Int32 × SS) := ((fX6_wrong s).bind fun z1 => some (nbZ z1.1, z1.2))
def fX6_number_0 (x1 : Int32) (x2 : Int32) (x3 : Int32) (s : SS) : Option (Int32 × SS) := if (s.1 0 32) = (2 : Int32) then (((fX6_in ((s.1 0 34).toInt64) x2.toInt64 x3.toInt64 s).bind fun z2 => if z2.1 = 0 then (fX6_number_23 s) else (if ixB x1 2 then (((fX6_look (wrI s 29 x1.toNatClampNeg (s.1 0 34))).bind fun z5 => some ((1 : Int32), z5.2))) else none))) else (fX6_number_23 s)
def fX6_number (x1 : Int32) (x2 : Int32) (x3 : Int32) (s : SS) : Option (Int32 × SS) := fX6_number_0 x1 x2 x3 s
set_option maxRecDepth 100000 in
set_option maxHeartbeats 4000000 in
theorem okX6_number_23 {G : GG} {pl : Nat → Nat} {h0 : PH} (s : SS) : EvF G 2 mX6_number lyR pl h0 rvI (fX6_number_23 s) 23 [(0, .ref (pl 0))] [] s := by
  unfold fX6_number_23
  refine ef_aload_n (q := 24) 0 dX6_number_23 rfl rfl rfl ?_
  refine ef_invVI0 (k := 0) (As := []) (rest := []) (q := 27) (okX6_wrong) rfl calX6_wrong ml6_197 (by decide) rfl rfl rfl (Nat.le_of_ble_eq_true rfl) dX6_number_24 rfl (fun z1 => ?_)
  exact ef_zret rfl dX6_number_27
set_option maxRecDepth 100000 in
set_option maxHeartbeats 4000000 in
theorem okX6_number_0 {G : GG} {pl : Nat → Nat} {h0 : PH} (x1 : Int32) (x2 : Int32) (x3 : Int32) (s : SS) : EvF G 2 mX6_number lyR pl h0 rvI (fX6_number_0 x1 x2 x3 s) 0 [(0, .ref (pl 0)), (1, .int x1), (2, .int x2), (3, .int x3)] [] s := by
  unfold fX6_number_0
  refine ef_aload_n (q := 1) 0 dX6_number_0 rfl rfl rfl ?_
  refine ef_getI (x := s.1 0 32) (q := 4) rfl fl6_175 rfl rfl dX6_number_1 rfl ?_
  refine ef_iconst (v := (2 : Int32)) (q := 5) dX6_number_4 (by decide) rfl ?_
  refine ef_if (pt := 8) (pf := 23) (fun _ _ kt kf => ev_icmp_ne (tgt := 23) dX6_number_5 (by decide) kf kt) (fun h1 => ?_) (fun h1 => ?_)
  · refine ef_aload_n (q := 9) 0 dX6_number_8 rfl rfl rfl ?_
    refine ef_getI (x := s.1 0 34) (q := 12) rfl fl6_172 rfl rfl dX6_number_9 rfl ?_
    refine ef_i2l (v := (s.1 0 34).toInt64) (q := 13) dX6_number_12 rfl rfl ?_
    refine ef_iload_n (q := 14) 2 dX6_number_13 rfl rfl rfl ?_
    refine ef_i2l (v := x2.toInt64) (q := 15) dX6_number_14 rfl rfl ?_
    refine ef_iload_n (q := 16) 3 dX6_number_15 rfl rfl rfl ?_
    refine ef_i2l (v := x3.toInt64) (q := 17) dX6_number_16 rfl rfl ?_
    refine ef_invPI0 (As := [.long ((s.1 0 34).toInt64), .long x2.toInt64, .long x3.toInt64]) (rest := []) (q := 20) (okX6_in ((s.1 0 34).toInt64) x2.toInt64 x3.toInt64) rfl calX6_in ml6_89 (by decide) rfl rfl (Nat.le_of_ble_eq_true rfl) dX6_number_17 rfl (fun z2 => ?_)
    refine ef_if (pt := 23) (pf := 28) (fun _ _ kt kf => ev_if_ne (tgt := 28) dX6_number_20 (by decide) kf kt) (fun h3 => ?_) (fun h3 => ?_)
    · refine ef_sub (lv' := [(0, .ref (pl 0))]) [0] rfl ?_
      exact okX6_number_23 s
    · refine ef_aload_n (q := 29) 0 dX6_number_28 rfl rfl rfl ?_
      refine ef_getR (t := 29) (q := 32) rfl fl6_74 rfl rfl dX6_number_29 rfl ?_
      refine ef_iload_n (q := 33) 1 dX6_number_32 rfl rfl rfl ?_
      refine ef_aload_n (q := 34) 0 dX6_number_33 rfl rfl rfl ?_
      refine ef_getI (x := s.1 0 34) (q := 37) rfl fl6_172 rfl rfl dX6_number_34 rfl ?_
      refine ef_guard (fun g4 => ?_)
      refine ef_iastore (j := x1.toNatClampNeg) (q := 38) rfl g4 dX6_number_37 rfl rfl ?_
      refine ef_aload_n (q := 39) 0 dX6_number_38 rfl rfl rfl ?_
      refine ef_invVU0 (k := 0) (As := []) (rest := []) (q := 42) (okX6_look) rfl calX6_look ml6_201 (by decide) rfl rfl rfl (Nat.le_of_ble_eq_true rfl) dX6_number_39 rfl (fun z5 => ?_)
      refine ef_iconst (v := (1 : Int32)) (q := 43) dX6_number_42 (by decide) rfl ?_
      exact ef_zretc (x := (1 : Int32)) (by decide) rfl dX6_number_43
  · refine ef_sub (lv' := [(0, .ref (pl 0))]) [0] rfl ?_
    exact okX6_number_23 s
theorem okX6_number (x1 : Int32) (x2 : Int32) (x3 : Int32) : MtF 2 mX6_number lyR rvI (fun _ pl => [.ref (pl 0), .int x1, .int x2, .int x3]) (fX6_number x1 x2 x3) := by
  refine MtF.of (by decide +kernel) rfl (fun _ pl => Nat.le_of_ble_eq_true rfl) (fun G pl h0 s => ?_)
  refine ef_sub (lv := [(0, .ref (pl 0)), (1, .int x1), (2, .int x2), (3, .int x3)]) (lv' := [(0, .ref (pl 0)), (1, .int x1), (2, .int x2), (3, .int x3)]) [0, 1, 2, 3] rfl ?_
  exact okX6_number_0  x1 x2 x3 s
-- X6_tells
theorem dX6_tells_0 : decode cX6_tells 0 = .ok (.aload_n 0, 1) := by decide +kernel
theorem dX6_tells_1 : decode cX6_tells 1 = .ok (.invokevirtual 201, 3) := by decide +kernel
theorem dX6_tells_4 : decode cX6_tells 4 = .ok (.aload_n 0, 1) := by decide +kernel
theorem dX6_tells_5 : decode cX6_tells 5 = .ok (.iconst 0, 1) := by decide +kernel
theorem dX6_tells_6 : decode cX6_tells 6 = .ok (.iload_n 1, 1) := by decide +kernel
theorem dX6_tells_7 : decode cX6_tells 7 = .ok (.iload_n 2, 1) := by decide +kernel
theorem dX6_tells_8 : decode cX6_tells 8 = .ok (.invokevirtual 204, 3) := by decide +kernel
theorem dX6_tells_11 : decode cX6_tells 11 = .ok (.ireturn, 1) := by decide +kernel
def fX6_tells_0 (x1 : Int32) (x2 : Int32) (s : SS) : Option (Int32 × SS) := ((fX6_look s).bind fun z1 => ((fX6_number (0 : Int32) x1 x2 z1.2).bind fun z2 => some (nbZ z2.1, z2.2)))
def fX6_tells (x1 : Int32) (x2 : Int32) (s : SS) : Option (Int32 × SS) := fX6_tells_0 x1 x2 s
set_option maxRecDepth 100000 in
set_option maxHeartbeats 4000000 in
theorem okX6_tells_0 {G : GG} {pl : Nat → Nat} {h0 : PH} (x1 : Int32) (x2 : Int32) (s : SS) : EvF G 3 mX6_tells lyR pl h0 rvI (fX6_tells_0 x1 x2 s) 0 [(0, .ref (pl 0)), (1, .int x1), (2, .int x2)] [] s := by
  unfold fX6_tells_0
  refine ef_aload_n (q := 1) 0 dX6_tells_0 rfl rfl rfl ?_
  refine ef_invVU0 (k := 0) (As := []) (rest := []) (q := 4) (okX6_look) rfl calX6_look ml6_201 (by decide) rfl rfl rfl (Nat.le_of_ble_eq_true rfl) dX6_tells_1 rfl (fun z1 => ?_)
  refine ef_aload_n (q := 5) 0 dX6_tells_4 rfl rfl rfl ?_
  refine ef_iconst (v := (0 : Int32)) (q := 6) dX6_tells_5 (by decide) rfl ?_
  refine ef_iload_n (q := 7) 1 dX6_tells_6 rfl rfl rfl ?_
  refine ef_iload_n (q := 8) 2 dX6_tells_7 rfl rfl rfl ?_
  refine ef_invVI0 (k := 0) (As := [.int (0 : Int32), .int x1, .int x2]) (rest := []) (q := 11) (okX6_number (0 : Int32) x1 x2) rfl calX6_number ml6_204 (by decide) rfl rfl rfl (Nat.le_of_ble_eq_true rfl) dX6_tells_8 rfl (fun z2 => ?_)
  exact ef_zret rfl dX6_tells_11
theorem okX6_tells (x1 : Int32) (x2 : Int32) : MtF 3 mX6_tells lyR rvI (fun _ pl => [.ref (pl 0), .int x1, .int x2]) (fX6_tells x1 x2) := by
  refine MtF.of (by decide +kernel) rfl (fun _ pl => Nat.le_of_ble_eq_true rfl) (fun G pl h0 s => ?_)
  refine ef_sub (lv := [(0, .ref (pl 0)), (1, .int x1), (2, .int x2)]) (lv' := [(0, .ref (pl 0)), (1, .int x1), (2, .int x2)]) [0, 1, 2] rfl ?_
  exact okX6_tells_0  x1 x2 s
-- X6_sunTold
theorem dX6_sunTold_0 : decode cX6_sunTold 0 = .ok (.iconst 0, 1) := by decide +kernel
theorem dX6_sunTold_1 : decode cX6_sunTold 1 = .ok (.istore_n 1, 1) := by decide +kernel
theorem dX6_sunTold_2 : decode cX6_sunTold 2 = .ok (.aload_n 0, 1) := by decide +kernel
theorem dX6_sunTold_3 : decode cX6_sunTold 3 = .ok (.invokevirtual 201, 3) := by decide +kernel
theorem dX6_sunTold_6 : decode cX6_sunTold 6 = .ok (.aload_n 0, 1) := by decide +kernel
theorem dX6_sunTold_7 : decode cX6_sunTold 7 = .ok (.getfield 175, 3) := by decide +kernel
theorem dX6_sunTold_10 : decode cX6_sunTold 10 = .ok (.iconst 2, 1) := by decide +kernel
theorem dX6_sunTold_11 : decode cX6_sunTold 11 = .ok (.if_icmp .ne 25, 3) := by decide +kernel
theorem dX6_sunTold_14 : decode cX6_sunTold 14 = .ok (.aload_n 0, 1) := by decide +kernel
theorem dX6_sunTold_15 : decode cX6_sunTold 15 = .ok (.aload_n 0, 1) := by decide +kernel
theorem dX6_sunTold_16 : decode cX6_sunTold 16 = .ok (.getfield 172, 3) := by decide +kernel
theorem dX6_sunTold_19 : decode cX6_sunTold 19 = .ok (.invokevirtual 152, 3) := by decide +kernel
theorem dX6_sunTold_22 : decode cX6_sunTold 22 = .ok (.ifCond .eq 14, 3) := by decide +kernel
theorem dX6_sunTold_25 : decode cX6_sunTold 25 = .ok (.iload_n 1, 1) := by decide +kernel
theorem dX6_sunTold_26 : decode cX6_sunTold 26 = .ok (.aload_n 0, 1) := by decide +kernel
theorem dX6_sunTold_27 : decode cX6_sunTold 27 = .ok (.getfield 172, 3) := by decide +kernel
theorem dX6_sunTold_30 : decode cX6_sunTold 30 = .ok (.ishr, 1) := by decide +kernel
theorem dX6_sunTold_31 : decode cX6_sunTold 31 = .ok (.iconst 1, 1) := by decide +kernel
theorem dX6_sunTold_32 : decode cX6_sunTold 32 = .ok (.iand, 1) := by decide +kernel
theorem dX6_sunTold_33 : decode cX6_sunTold 33 = .ok (.ifCond .eq 8, 3) := by decide +kernel
theorem dX6_sunTold_36 : decode cX6_sunTold 36 = .ok (.aload_n 0, 1) := by decide +kernel
theorem dX6_sunTold_37 : decode cX6_sunTold 37 = .ok (.invokevirtual 197, 3) := by decide +kernel
theorem dX6_sunTold_40 : decode cX6_sunTold 40 = .ok (.ireturn, 1) := by decide +kernel
theorem dX6_sunTold_41 : decode cX6_sunTold 41 = .ok (.iload_n 1, 1) := by decide +kernel
theorem dX6_sunTold_42 : decode cX6_sunTold 42 = .ok (.iconst 1, 1) := by decide +kernel
theorem dX6_sunTold_43 : decode cX6_sunTold 43 = .ok (.aload_n 0, 1) := by decide +kernel
theorem dX6_sunTold_44 : decode cX6_sunTold 44 = .ok (.getfield 172, 3) := by decide +kernel
theorem dX6_sunTold_47 : decode cX6_sunTold 47 = .ok (.ishl, 1) := by decide +kernel
theorem dX6_sunTold_48 : decode cX6_sunTold 48 = .ok (.ior, 1) := by decide +kernel
theorem dX6_sunTold_49 : decode cX6_sunTold 49 = .ok (.istore_n 1, 1) := by decide +kernel
theorem dX6_sunTold_50 : decode cX6_sunTold 50 = .ok (.aload_n 0, 1) := by decide +kernel
theorem dX6_sunTold_51 : decode cX6_sunTold 51 = .ok (.invokevirtual 201, 3) := by decide +kernel
theorem dX6_sunTold_54 : decode cX6_sunTold 54 = .ok (.aload_n 0, 1) := by decide +kernel
theorem dX6_sunTold_55 : decode cX6_sunTold 55 = .ok (.getfield 175, 3) := by decide +kernel
theorem dX6_sunTold_58 : decode cX6_sunTold 58 = .ok (.iconst 2, 1) := by decide +kernel
theorem dX6_sunTold_59 : decode cX6_sunTold 59 = .ok (.if_icmp .eq (-53), 3) := by decide +kernel
theorem dX6_sunTold_62 : decode cX6_sunTold 62 = .ok (.aload_n 0, 1) := by decide +kernel
theorem dX6_sunTold_63 : decode cX6_sunTold 63 = .ok (.iload_n 1, 1) := by decide +kernel
theorem dX6_sunTold_64 : decode cX6_sunTold 64 = .ok (.putfield 129, 3) := by decide +kernel
theorem dX6_sunTold_67 : decode cX6_sunTold 67 = .ok (.iconst 1, 1) := by decide +kernel
theorem dX6_sunTold_68 : decode cX6_sunTold 68 = .ok (.ireturn, 1) := by decide +kernel
def fX6_sunTold_36 (s : SS) : Option (Int32 × SS) := ((fX6_wrong s).bind fun z1 => some (nbZ z1.1, z1.2))
def fX6_sunTold_6 : Nat → Int32 → SS → Option (Int32 × SS)
  | 0, _, _ => none
  | n + 1, x1, s => if (s.1 0 32) = (2 : Int32) then (((fX6_isSide (s.1 0 34) s).bind fun z2 => if z2.1 = 0 then (fX6_sunTold_36 z2.2) else (if ((x1 >>> ((z2.2.1 0 34) &&& 31)) &&& (1 : Int32)) = 0 then (((fX6_look z2.2).bind fun z5 => if (z5.2.1 0 32) = (2 : Int32) then (fX6_sunTold_6 n (x1 ||| ((1 : Int32) <<< ((z2.2.1 0 34) &&& 31))) z5.2) else (some ((1 : Int32), wrI z5.2 0 16 (x1 ||| ((1 : Int32) <<< ((z2.2.1 0 34) &&& 31))))))) else (fX6_sunTold_36 z2.2)))) else (fX6_sunTold_36 s)
def fX6_sunTold_0 (s : SS) : Option (Int32 × SS) := ((fX6_look s).bind fun z1 => fX6_sunTold_6 FU (0 : Int32) z1.2)
def fX6_sunTold (s : SS) : Option (Int32 × SS) := fX6_sunTold_0 s
set_option maxRecDepth 100000 in
set_option maxHeartbeats 4000000 in
theorem okX6_sunTold_36 {G : GG} {pl : Nat → Nat} {h0 : PH} (s : SS) : EvF G 2 mX6_sunTold lyR pl h0 rvI (fX6_sunTold_36 s) 36 [(0, .ref (pl 0))] [] s := by
  unfold fX6_sunTold_36
  refine ef_aload_n (q := 37) 0 dX6_sunTold_36 rfl rfl rfl ?_
  refine ef_invVI0 (k := 0) (As := []) (rest := []) (q := 40) (okX6_wrong) rfl calX6_wrong ml6_197 (by decide) rfl rfl rfl (Nat.le_of_ble_eq_true rfl) dX6_sunTold_37 rfl (fun z1 => ?_)
  exact ef_zret rfl dX6_sunTold_40
set_option maxRecDepth 100000 in
set_option maxHeartbeats 4000000 in
theorem okX6_sunTold_6 {G : GG} {pl : Nat → Nat} {h0 : PH} : ∀ (n : Nat) (x1 : Int32) (s : SS), EvF G 2 mX6_sunTold lyR pl h0 rvI (fX6_sunTold_6 n x1 s) 6 [(0, .ref (pl 0)), (1, .int x1)] [] s := by
  intro n
  induction n with
  | zero => intro x1 s; rw [fX6_sunTold_6]; exact ef_none
  | succ n ih =>
    intro x1 s
    rw [fX6_sunTold_6]
    refine ef_aload_n (q := 7) 0 dX6_sunTold_6 rfl rfl rfl ?_
    refine ef_getI (x := s.1 0 32) (q := 10) rfl fl6_175 rfl rfl dX6_sunTold_7 rfl ?_
    refine ef_iconst (v := (2 : Int32)) (q := 11) dX6_sunTold_10 (by decide) rfl ?_
    refine ef_if (pt := 14) (pf := 36) (fun _ _ kt kf => ev_icmp_ne (tgt := 36) dX6_sunTold_11 (by decide) kf kt) (fun h1 => ?_) (fun h1 => ?_)
    · refine ef_aload_n (q := 15) 0 dX6_sunTold_14 rfl rfl rfl ?_
      refine ef_aload_n (q := 16) 0 dX6_sunTold_15 rfl rfl rfl ?_
      refine ef_getI (x := s.1 0 34) (q := 19) rfl fl6_172 rfl rfl dX6_sunTold_16 rfl ?_
      refine ef_invVI0 (k := 0) (As := [.int (s.1 0 34)]) (rest := []) (q := 22) (okX6_isSide (s.1 0 34)) rfl calX6_isSide ml6_152 (by decide) rfl rfl rfl (Nat.le_of_ble_eq_true rfl) dX6_sunTold_19 rfl (fun z2 => ?_)
      refine ef_if (pt := 36) (pf := 25) (fun _ _ => ev_if_eq (tgt := 36) dX6_sunTold_22 (by decide)) (fun h3 => ?_) (fun h3 => ?_)
      · refine ef_sub (lv' := [(0, .ref (pl 0))]) [0] rfl ?_
        exact okX6_sunTold_36 z2.2
      · refine ef_iload_n (q := 26) 1 dX6_sunTold_25 rfl rfl rfl ?_
        refine ef_aload_n (q := 27) 0 dX6_sunTold_26 rfl rfl rfl ?_
        refine ef_getI (x := z2.2.1 0 34) (q := 30) rfl fl6_172 rfl rfl dX6_sunTold_27 rfl ?_
        refine ef_ishr (q := 31) dX6_sunTold_30 rfl ?_
        refine ef_iconst (v := (1 : Int32)) (q := 32) dX6_sunTold_31 (by decide) rfl ?_
        refine ef_iand (q := 33) dX6_sunTold_32 rfl ?_
        refine ef_if (pt := 41) (pf := 36) (fun _ _ => ev_if_eq (tgt := 41) dX6_sunTold_33 (by decide)) (fun h4 => ?_) (fun h4 => ?_)
        · refine ef_iload_n (q := 42) 1 dX6_sunTold_41 rfl rfl rfl ?_
          refine ef_iconst (v := (1 : Int32)) (q := 43) dX6_sunTold_42 (by decide) rfl ?_
          refine ef_aload_n (q := 44) 0 dX6_sunTold_43 rfl rfl rfl ?_
          refine ef_getI (x := z2.2.1 0 34) (q := 47) rfl fl6_172 rfl rfl dX6_sunTold_44 rfl ?_
          refine ef_ishl (q := 48) dX6_sunTold_47 rfl ?_
          refine ef_ior (q := 49) dX6_sunTold_48 rfl ?_
          refine ef_istore_n (lv' := [(1, .int (x1 ||| ((1 : Int32) <<< ((z2.2.1 0 34) &&& 31)))), (0, .ref (pl 0))]) (q := 50) dX6_sunTold_49 rfl (by decide) rfl rfl ?_
          refine ef_aload_n (q := 51) 1 dX6_sunTold_50 rfl rfl rfl ?_
          refine ef_invVU0 (k := 0) (As := []) (rest := []) (q := 54) (okX6_look) rfl calX6_look ml6_201 (by decide) rfl rfl rfl (Nat.le_of_ble_eq_true rfl) dX6_sunTold_51 rfl (fun z5 => ?_)
          refine ef_aload_n (q := 55) 1 dX6_sunTold_54 rfl rfl rfl ?_
          refine ef_getI (x := z5.2.1 0 32) (q := 58) rfl fl6_175 rfl rfl dX6_sunTold_55 rfl ?_
          refine ef_iconst (v := (2 : Int32)) (q := 59) dX6_sunTold_58 (by decide) rfl ?_
          refine ef_if (pt := 6) (pf := 62) (fun _ _ => ev_icmp_eq (tgt := 6) dX6_sunTold_59 (by decide)) (fun h6 => ?_) (fun h6 => ?_)
          · refine ef_sub (lv' := [(0, .ref (pl 0)), (1, .int (x1 ||| ((1 : Int32) <<< ((z2.2.1 0 34) &&& 31))))]) [1, 0] rfl ?_
            exact ih (x1 ||| ((1 : Int32) <<< ((z2.2.1 0 34) &&& 31))) z5.2
          · refine ef_aload_n (q := 63) 1 dX6_sunTold_62 rfl rfl rfl ?_
            refine ef_iload_n (q := 64) 0 dX6_sunTold_63 rfl rfl rfl ?_
            refine ef_putI (q := 67) rfl fl6_129 rfl rfl dX6_sunTold_64 rfl ?_
            refine ef_iconst (v := (1 : Int32)) (q := 68) dX6_sunTold_67 (by decide) rfl ?_
            exact ef_zretc (x := (1 : Int32)) (by decide) rfl dX6_sunTold_68
        · refine ef_sub (lv' := [(0, .ref (pl 0))]) [0] rfl ?_
          exact okX6_sunTold_36 z2.2
    · refine ef_sub (lv' := [(0, .ref (pl 0))]) [0] rfl ?_
      exact okX6_sunTold_36 s
set_option maxRecDepth 100000 in
set_option maxHeartbeats 4000000 in
theorem okX6_sunTold_0 {G : GG} {pl : Nat → Nat} {h0 : PH} (s : SS) : EvF G 2 mX6_sunTold lyR pl h0 rvI (fX6_sunTold_0 s) 0 [(0, .ref (pl 0))] [] s := by
  unfold fX6_sunTold_0
  refine ef_iconst (v := (0 : Int32)) (q := 1) dX6_sunTold_0 (by decide) rfl ?_
  refine ef_istore_n (lv' := [(1, .int (0 : Int32)), (0, .ref (pl 0))]) (q := 2) dX6_sunTold_1 rfl (by decide) rfl rfl ?_
  refine ef_aload_n (q := 3) 1 dX6_sunTold_2 rfl rfl rfl ?_
  refine ef_invVU0 (k := 0) (As := []) (rest := []) (q := 6) (okX6_look) rfl calX6_look ml6_201 (by decide) rfl rfl rfl (Nat.le_of_ble_eq_true rfl) dX6_sunTold_3 rfl (fun z1 => ?_)
  refine ef_sub (lv' := [(0, .ref (pl 0)), (1, .int (0 : Int32))]) [1, 0] rfl ?_
  exact okX6_sunTold_6 FU (0 : Int32) z1.2
theorem okX6_sunTold : MtF 2 mX6_sunTold lyR rvI (fun _ pl => [.ref (pl 0)]) (fX6_sunTold) := by
  refine MtF.of (by decide +kernel) rfl (fun _ pl => Nat.le_of_ble_eq_true rfl) (fun G pl h0 s => ?_)
  refine ef_sub (lv := [(0, .ref (pl 0))]) (lv' := [(0, .ref (pl 0))]) [0] rfl ?_
  exact okX6_sunTold_0  s
-- X6_canAct
theorem dX6_canAct_0 : decode cX6_canAct 0 = .ok (.lload_n 1, 1) := by decide +kernel
theorem dX6_canAct_1 : decode cX6_canAct 1 = .ok (.lconst 0, 1) := by decide +kernel
theorem dX6_canAct_2 : decode cX6_canAct 2 = .ok (.ldc2_w 269, 3) := by decide +kernel
theorem dX6_canAct_5 : decode cX6_canAct 5 = .ok (.invokestatic 89, 3) := by decide +kernel
theorem dX6_canAct_8 : decode cX6_canAct 8 = .ok (.ifCond .eq 31, 3) := by decide +kernel
theorem dX6_canAct_11 : decode cX6_canAct 11 = .ok (.lload_n 1, 1) := by decide +kernel
theorem dX6_canAct_12 : decode cX6_canAct 12 = .ok (.lconst 1, 1) := by decide +kernel
theorem dX6_canAct_13 : decode cX6_canAct 13 = .ok (.lcmp, 1) := by decide +kernel
theorem dX6_canAct_14 : decode cX6_canAct 14 = .ok (.ifCond .lt 21, 3) := by decide +kernel
theorem dX6_canAct_17 : decode cX6_canAct 17 = .ok (.lload_n 1, 1) := by decide +kernel
theorem dX6_canAct_18 : decode cX6_canAct 18 = .ok (.ldc2_w 132, 3) := by decide +kernel
theorem dX6_canAct_21 : decode cX6_canAct 21 = .ok (.lcmp, 1) := by decide +kernel
theorem dX6_canAct_22 : decode cX6_canAct 22 = .ok (.ifCond .gt 13, 3) := by decide +kernel
theorem dX6_canAct_25 : decode cX6_canAct 25 = .ok (.lload_n 1, 1) := by decide +kernel
theorem dX6_canAct_26 : decode cX6_canAct 26 = .ok (.aload_n 0, 1) := by decide +kernel
theorem dX6_canAct_27 : decode cX6_canAct 27 = .ok (.getfield 93, 3) := by decide +kernel
theorem dX6_canAct_30 : decode cX6_canAct 30 = .ok (.i2l, 1) := by decide +kernel
theorem dX6_canAct_31 : decode cX6_canAct 31 = .ok (.lcmp, 1) := by decide +kernel
theorem dX6_canAct_32 : decode cX6_canAct 32 = .ok (.ifCond .gt 7, 3) := by decide +kernel
theorem dX6_canAct_35 : decode cX6_canAct 35 = .ok (.iconst 1, 1) := by decide +kernel
theorem dX6_canAct_36 : decode cX6_canAct 36 = .ok (.goto 4, 3) := by decide +kernel
theorem dX6_canAct_39 : decode cX6_canAct 39 = .ok (.iconst 0, 1) := by decide +kernel
theorem dX6_canAct_40 : decode cX6_canAct 40 = .ok (.ireturn, 1) := by decide +kernel
def fX6_canAct_0 (x1 : Int64) (s : SS) : Option (Int32 × SS) := ((fX6_in x1 (0 : Int64) (6 : Int64) s).bind fun z1 => if z1.1 = 0 then (some ((0 : Int32), s)) else (if (lg_cmp x1 (1 : Int64)) < 0 then (some ((1 : Int32), s)) else (if 0 < (lg_cmp x1 (3 : Int64)) then (some ((1 : Int32), s)) else (if 0 < (lg_cmp x1 ((s.1 0 10).toInt64)) then (some ((0 : Int32), s)) else (some ((1 : Int32), s))))))
def fX6_canAct (x1 : Int64) (s : SS) : Option (Int32 × SS) := fX6_canAct_0 x1 s
set_option maxRecDepth 100000 in
set_option maxHeartbeats 4000000 in
theorem okX6_canAct_0 {G : GG} {pl : Nat → Nat} {h0 : PH} (x1 : Int64) (s : SS) : EvF G 1 mX6_canAct lyR pl h0 rvI (fX6_canAct_0 x1 s) 0 [(0, .ref (pl 0)), (1, .long x1)] [] s := by
  unfold fX6_canAct_0
  refine ef_lload_n (q := 1) 1 dX6_canAct_0 rfl rfl rfl ?_
  refine ef_lconst (v := (0 : Int64)) (q := 2) dX6_canAct_1 (by decide) rfl ?_
  refine ef_ldc2 (v := (6 : Int64)) (q := 5) k6_269 dX6_canAct_2 rfl ?_
  refine ef_invPI0 (As := [.long x1, .long (0 : Int64), .long (6 : Int64)]) (rest := []) (q := 8) (okX6_in x1 (0 : Int64) (6 : Int64)) rfl calX6_in ml6_89 (by decide) rfl rfl (Nat.le_of_ble_eq_true rfl) dX6_canAct_5 rfl (fun z1 => ?_)
  refine ef_if (pt := 39) (pf := 11) (fun _ _ => ev_if_eq (tgt := 39) dX6_canAct_8 (by decide)) (fun h2 => ?_) (fun h2 => ?_)
  · refine ef_iconst (v := (0 : Int32)) (q := 40) dX6_canAct_39 (by decide) rfl ?_
    exact ef_zretc (x := (0 : Int32)) (by decide) rfl dX6_canAct_40
  · refine ef_lload_n (q := 12) 1 dX6_canAct_11 rfl rfl rfl ?_
    refine ef_lconst (v := (1 : Int64)) (q := 13) dX6_canAct_12 (by decide) rfl ?_
    refine ef_lcmp (q := 14) dX6_canAct_13 rfl ?_
    refine ef_if (pt := 35) (pf := 17) (fun _ _ => ev_if_lt (tgt := 35) dX6_canAct_14 (by decide)) (fun h3 => ?_) (fun h3 => ?_)
    · refine ef_iconst (v := (1 : Int32)) (q := 36) dX6_canAct_35 (by decide) rfl ?_
      refine ef_goto (tgt := 40) dX6_canAct_36 (by decide) ?_
      exact ef_zretc (x := (1 : Int32)) (by decide) rfl dX6_canAct_40
    · refine ef_lload_n (q := 18) 1 dX6_canAct_17 rfl rfl rfl ?_
      refine ef_ldc2 (v := (3 : Int64)) (q := 21) k6_132 dX6_canAct_18 rfl ?_
      refine ef_lcmp (q := 22) dX6_canAct_21 rfl ?_
      refine ef_if (pt := 35) (pf := 25) (fun _ _ => ev_if_gt (tgt := 35) dX6_canAct_22 (by decide)) (fun h4 => ?_) (fun h4 => ?_)
      · refine ef_iconst (v := (1 : Int32)) (q := 36) dX6_canAct_35 (by decide) rfl ?_
        refine ef_goto (tgt := 40) dX6_canAct_36 (by decide) ?_
        exact ef_zretc (x := (1 : Int32)) (by decide) rfl dX6_canAct_40
      · refine ef_lload_n (q := 26) 1 dX6_canAct_25 rfl rfl rfl ?_
        refine ef_aload_n (q := 27) 0 dX6_canAct_26 rfl rfl rfl ?_
        refine ef_getI (x := s.1 0 10) (q := 30) rfl fl6_93 rfl rfl dX6_canAct_27 rfl ?_
        refine ef_i2l (v := (s.1 0 10).toInt64) (q := 31) dX6_canAct_30 rfl rfl ?_
        refine ef_lcmp (q := 32) dX6_canAct_31 rfl ?_
        refine ef_if (pt := 39) (pf := 35) (fun _ _ => ev_if_gt (tgt := 39) dX6_canAct_32 (by decide)) (fun h5 => ?_) (fun h5 => ?_)
        · refine ef_iconst (v := (0 : Int32)) (q := 40) dX6_canAct_39 (by decide) rfl ?_
          exact ef_zretc (x := (0 : Int32)) (by decide) rfl dX6_canAct_40
        · refine ef_iconst (v := (1 : Int32)) (q := 36) dX6_canAct_35 (by decide) rfl ?_
          refine ef_goto (tgt := 40) dX6_canAct_36 (by decide) ?_
          exact ef_zretc (x := (1 : Int32)) (by decide) rfl dX6_canAct_40
theorem okX6_canAct (x1 : Int64) : MtF 1 mX6_canAct lyR rvI (fun _ pl => [.ref (pl 0), .long x1]) (fX6_canAct x1) := by
  refine MtF.of (by decide +kernel) rfl (fun _ pl => Nat.le_of_ble_eq_true rfl) (fun G pl h0 s => ?_)
  refine ef_sub (lv := [(0, .ref (pl 0)), (1, .long x1)]) (lv' := [(0, .ref (pl 0)), (1, .long x1)]) [0, 1] rfl ?_
  exact okX6_canAct_0  x1 s
-- X6_lickedOf
theorem dX6_lickedOf_0 : decode cX6_lickedOf 0 = .ok (.iload_n 1, 1) := by decide +kernel
theorem dX6_lickedOf_1 : decode cX6_lickedOf 1 = .ok (.aload_n 0, 1) := by decide +kernel
theorem dX6_lickedOf_2 : decode cX6_lickedOf 2 = .ok (.getfield 55, 3) := by decide +kernel
theorem dX6_lickedOf_5 : decode cX6_lickedOf 5 = .ok (.iconst 2, 1) := by decide +kernel
theorem dX6_lickedOf_6 : decode cX6_lickedOf 6 = .ok (.iaload, 1) := by decide +kernel
theorem dX6_lickedOf_7 : decode cX6_lickedOf 7 = .ok (.if_icmp .ge 7, 3) := by decide +kernel
theorem dX6_lickedOf_10 : decode cX6_lickedOf 10 = .ok (.iload_n 1, 1) := by decide +kernel
theorem dX6_lickedOf_11 : decode cX6_lickedOf 11 = .ok (.goto 9, 3) := by decide +kernel
theorem dX6_lickedOf_14 : decode cX6_lickedOf 14 = .ok (.aload_n 0, 1) := by decide +kernel
theorem dX6_lickedOf_15 : decode cX6_lickedOf 15 = .ok (.getfield 55, 3) := by decide +kernel
theorem dX6_lickedOf_18 : decode cX6_lickedOf 18 = .ok (.iconst 2, 1) := by decide +kernel
theorem dX6_lickedOf_19 : decode cX6_lickedOf 19 = .ok (.iaload, 1) := by decide +kernel
theorem dX6_lickedOf_20 : decode cX6_lickedOf 20 = .ok (.ireturn, 1) := by decide +kernel
def fX6_lickedOf_0 (x1 : Int32) (s : SS) : Option (Int32 × SS) := if (s.1 24 2) ≤ x1 then (some (s.1 24 2, s)) else (some (x1, s))
def fX6_lickedOf (x1 : Int32) (s : SS) : Option (Int32 × SS) := fX6_lickedOf_0 x1 s
set_option maxRecDepth 100000 in
set_option maxHeartbeats 4000000 in
theorem okX6_lickedOf_0 {G : GG} {pl : Nat → Nat} {h0 : PH} (x1 : Int32) (s : SS) : EvF G 0 mX6_lickedOf lyR pl h0 rvI (fX6_lickedOf_0 x1 s) 0 [(0, .ref (pl 0)), (1, .int x1)] [] s := by
  unfold fX6_lickedOf_0
  refine ef_iload_n (q := 1) 1 dX6_lickedOf_0 rfl rfl rfl ?_
  refine ef_aload_n (q := 2) 0 dX6_lickedOf_1 rfl rfl rfl ?_
  refine ef_getR (t := 24) (q := 5) rfl fl6_55 rfl rfl dX6_lickedOf_2 rfl ?_
  refine ef_iconst (v := (2 : Int32)) (q := 6) dX6_lickedOf_5 (by decide) rfl ?_
  refine ef_iaload (x := s.1 24 2) (q := 7) rfl (by decide) dX6_lickedOf_6 rfl rfl ?_
  refine ef_if (pt := 14) (pf := 10) (fun _ _ => ev_icmp_ge (tgt := 14) dX6_lickedOf_7 (by decide)) (fun h1 => ?_) (fun h1 => ?_)
  · refine ef_aload_n (q := 15) 0 dX6_lickedOf_14 rfl rfl rfl ?_
    refine ef_getR (t := 24) (q := 18) rfl fl6_55 rfl rfl dX6_lickedOf_15 rfl ?_
    refine ef_iconst (v := (2 : Int32)) (q := 19) dX6_lickedOf_18 (by decide) rfl ?_
    refine ef_iaload (x := s.1 24 2) (q := 20) rfl (by decide) dX6_lickedOf_19 rfl rfl ?_
    exact ef_iret rfl dX6_lickedOf_20
  · refine ef_iload_n (q := 11) 1 dX6_lickedOf_10 rfl rfl rfl ?_
    refine ef_goto (tgt := 20) dX6_lickedOf_11 (by decide) ?_
    exact ef_iret rfl dX6_lickedOf_20
theorem okX6_lickedOf (x1 : Int32) : MtF 0 mX6_lickedOf lyR rvI (fun _ pl => [.ref (pl 0), .int x1]) (fX6_lickedOf x1) := by
  refine MtF.of (by decide +kernel) rfl (fun _ pl => Nat.le_of_ble_eq_true rfl) (fun G pl h0 s => ?_)
  refine ef_sub (lv := [(0, .ref (pl 0)), (1, .int x1)]) (lv' := [(0, .ref (pl 0)), (1, .int x1)]) [0, 1] rfl ?_
  exact okX6_lickedOf_0  x1 s
-- X6_isSunny
theorem dX6_isSunny_0 : decode cX6_isSunny 0 = .ok (.aload_n 0, 1) := by decide +kernel
theorem dX6_isSunny_1 : decode cX6_isSunny 1 = .ok (.getfield 129, 3) := by decide +kernel
theorem dX6_isSunny_4 : decode cX6_isSunny 4 = .ok (.iload_n 1, 1) := by decide +kernel
theorem dX6_isSunny_5 : decode cX6_isSunny 5 = .ok (.aload_n 0, 1) := by decide +kernel
theorem dX6_isSunny_6 : decode cX6_isSunny 6 = .ok (.getfield 37, 3) := by decide +kernel
theorem dX6_isSunny_9 : decode cX6_isSunny 9 = .ok (.iadd, 1) := by decide +kernel
theorem dX6_isSunny_10 : decode cX6_isSunny 10 = .ok (.aload_n 0, 1) := by decide +kernel
theorem dX6_isSunny_11 : decode cX6_isSunny 11 = .ok (.getfield 126, 3) := by decide +kernel
theorem dX6_isSunny_14 : decode cX6_isSunny 14 = .ok (.isub, 1) := by decide +kernel
theorem dX6_isSunny_15 : decode cX6_isSunny 15 = .ok (.aload_n 0, 1) := by decide +kernel
theorem dX6_isSunny_16 : decode cX6_isSunny 16 = .ok (.getfield 37, 3) := by decide +kernel
theorem dX6_isSunny_19 : decode cX6_isSunny 19 = .ok (.irem, 1) := by decide +kernel
theorem dX6_isSunny_20 : decode cX6_isSunny 20 = .ok (.ishr, 1) := by decide +kernel
theorem dX6_isSunny_21 : decode cX6_isSunny 21 = .ok (.iconst 1, 1) := by decide +kernel
theorem dX6_isSunny_22 : decode cX6_isSunny 22 = .ok (.iand, 1) := by decide +kernel
theorem dX6_isSunny_23 : decode cX6_isSunny 23 = .ok (.ifCond .eq 7, 3) := by decide +kernel
theorem dX6_isSunny_26 : decode cX6_isSunny 26 = .ok (.iconst 1, 1) := by decide +kernel
theorem dX6_isSunny_27 : decode cX6_isSunny 27 = .ok (.goto 4, 3) := by decide +kernel
theorem dX6_isSunny_30 : decode cX6_isSunny 30 = .ok (.iconst 0, 1) := by decide +kernel
theorem dX6_isSunny_31 : decode cX6_isSunny 31 = .ok (.ireturn, 1) := by decide +kernel
def fX6_isSunny_0 (x1 : Int32) (s : SS) : Option (Int32 × SS) := if ¬ (s.1 0 9) = 0 then (if (((s.1 0 16) >>> ((((x1 + (s.1 0 9)) - (s.1 0 15)) - ((x1 + (s.1 0 9)) - (s.1 0 15)) / (s.1 0 9) * (s.1 0 9)) &&& 31)) &&& (1 : Int32)) = 0 then (some ((0 : Int32), s)) else (some ((1 : Int32), s))) else none
def fX6_isSunny (x1 : Int32) (s : SS) : Option (Int32 × SS) := fX6_isSunny_0 x1 s
set_option maxRecDepth 100000 in
set_option maxHeartbeats 4000000 in
theorem okX6_isSunny_0 {G : GG} {pl : Nat → Nat} {h0 : PH} (x1 : Int32) (s : SS) : EvF G 0 mX6_isSunny lyR pl h0 rvI (fX6_isSunny_0 x1 s) 0 [(0, .ref (pl 0)), (1, .int x1)] [] s := by
  unfold fX6_isSunny_0
  refine ef_aload_n (q := 1) 0 dX6_isSunny_0 rfl rfl rfl ?_
  refine ef_getI (x := s.1 0 16) (q := 4) rfl fl6_129 rfl rfl dX6_isSunny_1 rfl ?_
  refine ef_iload_n (q := 5) 1 dX6_isSunny_4 rfl rfl rfl ?_
  refine ef_aload_n (q := 6) 0 dX6_isSunny_5 rfl rfl rfl ?_
  refine ef_getI (x := s.1 0 9) (q := 9) rfl fl6_37 rfl rfl dX6_isSunny_6 rfl ?_
  refine ef_iadd (q := 10) dX6_isSunny_9 rfl ?_
  refine ef_aload_n (q := 11) 0 dX6_isSunny_10 rfl rfl rfl ?_
  refine ef_getI (x := s.1 0 15) (q := 14) rfl fl6_126 rfl rfl dX6_isSunny_11 rfl ?_
  refine ef_isub (q := 15) dX6_isSunny_14 rfl ?_
  refine ef_aload_n (q := 16) 0 dX6_isSunny_15 rfl rfl rfl ?_
  refine ef_getI (x := s.1 0 9) (q := 19) rfl fl6_37 rfl rfl dX6_isSunny_16 rfl ?_
  refine ef_guard (fun g1 => ?_)
  refine ef_irem (q := 20) dX6_isSunny_19 g1 rfl ?_
  refine ef_ishr (q := 21) dX6_isSunny_20 rfl ?_
  refine ef_iconst (v := (1 : Int32)) (q := 22) dX6_isSunny_21 (by decide) rfl ?_
  refine ef_iand (q := 23) dX6_isSunny_22 rfl ?_
  refine ef_if (pt := 30) (pf := 26) (fun _ _ => ev_if_eq (tgt := 30) dX6_isSunny_23 (by decide)) (fun h2 => ?_) (fun h2 => ?_)
  · refine ef_iconst (v := (0 : Int32)) (q := 31) dX6_isSunny_30 (by decide) rfl ?_
    exact ef_zretc (x := (0 : Int32)) (by decide) rfl dX6_isSunny_31
  · refine ef_iconst (v := (1 : Int32)) (q := 27) dX6_isSunny_26 (by decide) rfl ?_
    refine ef_goto (tgt := 31) dX6_isSunny_27 (by decide) ?_
    exact ef_zretc (x := (1 : Int32)) (by decide) rfl dX6_isSunny_31
theorem okX6_isSunny (x1 : Int32) : MtF 0 mX6_isSunny lyR rvI (fun _ pl => [.ref (pl 0), .int x1]) (fX6_isSunny x1) := by
  refine MtF.of (by decide +kernel) rfl (fun _ pl => Nat.le_of_ble_eq_true rfl) (fun G pl h0 s => ?_)
  refine ef_sub (lv := [(0, .ref (pl 0)), (1, .int x1)]) (lv' := [(0, .ref (pl 0)), (1, .int x1)]) [0, 1] rfl ?_
  exact okX6_isSunny_0  x1 s
-- X6_melts
theorem dX6_melts_0 : decode cX6_melts 0 = .ok (.iconst 0, 1) := by decide +kernel
theorem dX6_melts_1 : decode cX6_melts 1 = .ok (.istore_n 2, 1) := by decide +kernel
theorem dX6_melts_2 : decode cX6_melts 2 = .ok (.iload_n 2, 1) := by decide +kernel
theorem dX6_melts_3 : decode cX6_melts 3 = .ok (.aload_n 0, 1) := by decide +kernel
theorem dX6_melts_4 : decode cX6_melts 4 = .ok (.getfield 37, 3) := by decide +kernel
theorem dX6_melts_7 : decode cX6_melts 7 = .ok (.if_icmp .ge 78, 3) := by decide +kernel
theorem dX6_melts_10 : decode cX6_melts 10 = .ok (.aload_n 0, 1) := by decide +kernel
theorem dX6_melts_11 : decode cX6_melts 11 = .ok (.iload_n 2, 1) := by decide +kernel
theorem dX6_melts_12 : decode cX6_melts 12 = .ok (.invokevirtual 266, 3) := by decide +kernel
theorem dX6_melts_15 : decode cX6_melts 15 = .ok (.ifCond .eq 12, 3) := by decide +kernel
theorem dX6_melts_18 : decode cX6_melts 18 = .ok (.aload_n 0, 1) := by decide +kernel
theorem dX6_melts_19 : decode cX6_melts 19 = .ok (.getfield 41, 3) := by decide +kernel
theorem dX6_melts_22 : decode cX6_melts 22 = .ok (.iload_n 1, 1) := by decide +kernel
theorem dX6_melts_23 : decode cX6_melts 23 = .ok (.iaload, 1) := by decide +kernel
theorem dX6_melts_24 : decode cX6_melts 24 = .ok (.goto 11, 3) := by decide +kernel
theorem dX6_melts_27 : decode cX6_melts 27 = .ok (.aload_n 0, 1) := by decide +kernel
theorem dX6_melts_28 : decode cX6_melts 28 = .ok (.getfield 41, 3) := by decide +kernel
theorem dX6_melts_31 : decode cX6_melts 31 = .ok (.iload_n 1, 1) := by decide +kernel
theorem dX6_melts_32 : decode cX6_melts 32 = .ok (.iaload, 1) := by decide +kernel
theorem dX6_melts_33 : decode cX6_melts 33 = .ok (.iconst 2, 1) := by decide +kernel
theorem dX6_melts_34 : decode cX6_melts 34 = .ok (.idiv, 1) := by decide +kernel
theorem dX6_melts_35 : decode cX6_melts 35 = .ok (.istore_n 3, 1) := by decide +kernel
theorem dX6_melts_36 : decode cX6_melts 36 = .ok (.iload_n 3, 1) := by decide +kernel
theorem dX6_melts_37 : decode cX6_melts 37 = .ok (.aload_n 0, 1) := by decide +kernel
theorem dX6_melts_38 : decode cX6_melts 38 = .ok (.getfield 44, 3) := by decide +kernel
theorem dX6_melts_41 : decode cX6_melts 41 = .ok (.iload_n 1, 1) := by decide +kernel
theorem dX6_melts_42 : decode cX6_melts 42 = .ok (.iaload, 1) := by decide +kernel
theorem dX6_melts_43 : decode cX6_melts 43 = .ok (.if_icmp .ge 7, 3) := by decide +kernel
theorem dX6_melts_46 : decode cX6_melts 46 = .ok (.iload_n 3, 1) := by decide +kernel
theorem dX6_melts_47 : decode cX6_melts 47 = .ok (.goto 9, 3) := by decide +kernel
theorem dX6_melts_50 : decode cX6_melts 50 = .ok (.aload_n 0, 1) := by decide +kernel
theorem dX6_melts_51 : decode cX6_melts 51 = .ok (.getfield 44, 3) := by decide +kernel
theorem dX6_melts_54 : decode cX6_melts 54 = .ok (.iload_n 1, 1) := by decide +kernel
theorem dX6_melts_55 : decode cX6_melts 55 = .ok (.iaload, 1) := by decide +kernel
theorem dX6_melts_56 : decode cX6_melts 56 = .ok (.istore_n 3, 1) := by decide +kernel
theorem dX6_melts_57 : decode cX6_melts 57 = .ok (.aload_n 0, 1) := by decide +kernel
theorem dX6_melts_58 : decode cX6_melts 58 = .ok (.getfield 44, 3) := by decide +kernel
theorem dX6_melts_61 : decode cX6_melts 61 = .ok (.iload_n 1, 1) := by decide +kernel
theorem dX6_melts_62 : decode cX6_melts 62 = .ok (.dup2, 1) := by decide +kernel
theorem dX6_melts_63 : decode cX6_melts 63 = .ok (.iaload, 1) := by decide +kernel
theorem dX6_melts_64 : decode cX6_melts 64 = .ok (.iload_n 3, 1) := by decide +kernel
theorem dX6_melts_65 : decode cX6_melts 65 = .ok (.isub, 1) := by decide +kernel
theorem dX6_melts_66 : decode cX6_melts 66 = .ok (.iastore, 1) := by decide +kernel
theorem dX6_melts_67 : decode cX6_melts 67 = .ok (.aload_n 0, 1) := by decide +kernel
theorem dX6_melts_68 : decode cX6_melts 68 = .ok (.getfield 49, 3) := by decide +kernel
theorem dX6_melts_71 : decode cX6_melts 71 = .ok (.iload_n 1, 1) := by decide +kernel
theorem dX6_melts_72 : decode cX6_melts 72 = .ok (.aaload, 1) := by decide +kernel
theorem dX6_melts_73 : decode cX6_melts 73 = .ok (.iload_n 2, 1) := by decide +kernel
theorem dX6_melts_74 : decode cX6_melts 74 = .ok (.dup2, 1) := by decide +kernel
theorem dX6_melts_75 : decode cX6_melts 75 = .ok (.iaload, 1) := by decide +kernel
theorem dX6_melts_76 : decode cX6_melts 76 = .ok (.iload_n 3, 1) := by decide +kernel
theorem dX6_melts_77 : decode cX6_melts 77 = .ok (.iadd, 1) := by decide +kernel
theorem dX6_melts_78 : decode cX6_melts 78 = .ok (.iastore, 1) := by decide +kernel
theorem dX6_melts_79 : decode cX6_melts 79 = .ok (.iinc 2 1, 3) := by decide +kernel
theorem dX6_melts_82 : decode cX6_melts 82 = .ok (.goto (-80), 3) := by decide +kernel
theorem dX6_melts_85 : decode cX6_melts 85 = .ok (.return_, 1) := by decide +kernel
def fX6_melts_56 (rec_2 : Int32 → Int32 → SS → Option (Unit × SS)) (x1 : Int32) (x2 : Int32) (y0 : Int32) (s : SS) : Option (Unit × SS) := if ixB x1 3 then (if ixB x1 3 then (if ixB x1 3 then (if ixB x2 8 then (if ixB x2 8 then (rec_2 x1 (x2 + (1 : Int32)) (wrI (wrI s 18 x1.toNatClampNeg ((s.1 18 x1.toNatClampNeg) - y0)) (20 + x1.toNatClampNeg) x2.toNatClampNeg (((wrI s 18 x1.toNatClampNeg ((s.1 18 x1.toNatClampNeg) - y0)).1 (20 + x1.toNatClampNeg) x2.toNatClampNeg) + y0))) else none) else none) else none) else none) else none
def fX6_melts_35 (rec_2 : Int32 → Int32 → SS → Option (Unit × SS)) (x1 : Int32) (x2 : Int32) (y0 : Int32) (s : SS) : Option (Unit × SS) := if ixB x1 3 then (if (s.1 18 x1.toNatClampNeg) ≤ y0 then (if ixB x1 3 then (fX6_melts_56 rec_2 x1 x2 (s.1 18 x1.toNatClampNeg) s) else none) else (fX6_melts_56 rec_2 x1 x2 y0 s)) else none
def fX6_melts_2 : Nat → Int32 → Int32 → SS → Option (Unit × SS)
  | 0, _, _, _ => none
  | n + 1, x1, x2, s => if (s.1 0 9) ≤ x2 then (some ((), s)) else (((fX6_isSunny x2 s).bind fun z2 => if z2.1 = 0 then (if ixB x1 3 then (fX6_melts_35 (fX6_melts_2 n) x1 x2 ((z2.2.1 17 x1.toNatClampNeg) / (2 : Int32)) z2.2) else none) else (if ixB x1 3 then (fX6_melts_35 (fX6_melts_2 n) x1 x2 (z2.2.1 17 x1.toNatClampNeg) z2.2) else none)))
def fX6_melts_0 (x1 : Int32) (s : SS) : Option (Unit × SS) := fX6_melts_2 FU x1 (0 : Int32) s
def fX6_melts (x1 : Int32) (s : SS) : Option (Unit × SS) := fX6_melts_0 x1 s
set_option maxRecDepth 100000 in
set_option maxHeartbeats 4000000 in
theorem okX6_melts_56 {G : GG} {pl : Nat → Nat} {h0 : PH} (rec_2 : Int32 → Int32 → SS → Option (Unit × SS)) (hrec_2 : ∀ (x1 : Int32) (x2 : Int32) (s : SS), EvF G 1 mX6_melts lyR pl h0 rvU (rec_2 x1 x2 s) 2 [(0, .ref (pl 0)), (1, .int x1), (2, .int x2)] [] s) (x1 : Int32) (x2 : Int32) (y0 : Int32) (s : SS) : EvF G 1 mX6_melts lyR pl h0 rvU (fX6_melts_56 rec_2 x1 x2 y0 s) 56 [(0, .ref (pl 0)), (1, .int x1), (2, .int x2)] [.int y0] s := by
  unfold fX6_melts_56
  refine ef_istore_n (lv' := [(3, .int y0), (0, .ref (pl 0)), (1, .int x1), (2, .int x2)]) (q := 57) dX6_melts_56 rfl (by decide) rfl rfl ?_
  refine ef_aload_n (q := 58) 1 dX6_melts_57 rfl rfl rfl ?_
  refine ef_getR (t := 18) (q := 61) rfl fl6_44 rfl rfl dX6_melts_58 rfl ?_
  refine ef_iload_n (q := 62) 2 dX6_melts_61 rfl rfl rfl ?_
  refine ef_dup2_11 (q := 63) dX6_melts_62 rfl rfl rfl ?_
  refine ef_guard (fun g1 => ?_)
  refine ef_iaload (x := s.1 18 x1.toNatClampNeg) (q := 64) rfl g1 dX6_melts_63 rfl rfl ?_
  refine ef_iload_n (q := 65) 0 dX6_melts_64 rfl rfl rfl ?_
  refine ef_isub (q := 66) dX6_melts_65 rfl ?_
  refine ef_guard (fun g2 => ?_)
  refine ef_iastore (j := x1.toNatClampNeg) (q := 67) rfl g2 dX6_melts_66 rfl rfl ?_
  refine ef_aload_n (q := 68) 1 dX6_melts_67 rfl rfl rfl ?_
  refine ef_getR (t := 19) (q := 71) rfl fl6_49 rfl rfl dX6_melts_68 rfl ?_
  refine ef_iload_n (q := 72) 2 dX6_melts_71 rfl rfl rfl ?_
  refine ef_guard (fun g3 => ?_)
  refine ef_aaload (t0 := 20 + x1.toNatClampNeg) (q := 73) rfl (by decide) lyR_t19 g3 dX6_melts_72 rfl rfl ?_
  refine ef_iload_n (q := 74) 3 dX6_melts_73 rfl rfl rfl ?_
  refine ef_dup2_11 (q := 75) dX6_melts_74 rfl rfl rfl ?_
  refine ef_guard (fun g4 => ?_)
  refine ef_iaload (x := (wrI s 18 x1.toNatClampNeg ((s.1 18 x1.toNatClampNeg) - y0)).1 (20 + x1.toNatClampNeg) x2.toNatClampNeg) (q := 76) (lyR_f19_0 _ (ixB_lt g3)) g4 dX6_melts_75 rfl rfl ?_
  refine ef_iload_n (q := 77) 0 dX6_melts_76 rfl rfl rfl ?_
  refine ef_iadd (q := 78) dX6_melts_77 rfl ?_
  refine ef_guard (fun g5 => ?_)
  refine ef_iastore (j := x2.toNatClampNeg) (q := 79) (lyR_f19_0 _ (ixB_lt g3)) g5 dX6_melts_78 rfl rfl ?_
  refine ef_iinc (v := x2 + (1 : Int32)) (lv' := [(2, .int (x2 + (1 : Int32))), (3, .int y0), (0, .ref (pl 0)), (1, .int x1)]) (q := 82) 3 dX6_melts_79 rfl rfl (by decide) rfl rfl ?_
  refine ef_goto (tgt := 2) dX6_melts_82 (by decide) ?_
  refine ef_sub (lv' := [(0, .ref (pl 0)), (1, .int x1), (2, .int (x2 + (1 : Int32)))]) [2, 3, 0] rfl ?_
  exact hrec_2 x1 (x2 + (1 : Int32)) (wrI (wrI s 18 x1.toNatClampNeg ((s.1 18 x1.toNatClampNeg) - y0)) (20 + x1.toNatClampNeg) x2.toNatClampNeg (((wrI s 18 x1.toNatClampNeg ((s.1 18 x1.toNatClampNeg) - y0)).1 (20 + x1.toNatClampNeg) x2.toNatClampNeg) + y0))
set_option maxRecDepth 100000 in
set_option maxHeartbeats 4000000 in
theorem okX6_melts_35 {G : GG} {pl : Nat → Nat} {h0 : PH} (rec_2 : Int32 → Int32 → SS → Option (Unit × SS)) (hrec_2 : ∀ (x1 : Int32) (x2 : Int32) (s : SS), EvF G 1 mX6_melts lyR pl h0 rvU (rec_2 x1 x2 s) 2 [(0, .ref (pl 0)), (1, .int x1), (2, .int x2)] [] s) (x1 : Int32) (x2 : Int32) (y0 : Int32) (s : SS) : EvF G 1 mX6_melts lyR pl h0 rvU (fX6_melts_35 rec_2 x1 x2 y0 s) 35 [(0, .ref (pl 0)), (1, .int x1), (2, .int x2)] [.int y0] s := by
  unfold fX6_melts_35
  refine ef_istore_n (lv' := [(3, .int y0), (0, .ref (pl 0)), (1, .int x1), (2, .int x2)]) (q := 36) dX6_melts_35 rfl (by decide) rfl rfl ?_
  refine ef_iload_n (q := 37) 0 dX6_melts_36 rfl rfl rfl ?_
  refine ef_aload_n (q := 38) 1 dX6_melts_37 rfl rfl rfl ?_
  refine ef_getR (t := 18) (q := 41) rfl fl6_44 rfl rfl dX6_melts_38 rfl ?_
  refine ef_iload_n (q := 42) 2 dX6_melts_41 rfl rfl rfl ?_
  refine ef_guard (fun g1 => ?_)
  refine ef_iaload (x := s.1 18 x1.toNatClampNeg) (q := 43) rfl g1 dX6_melts_42 rfl rfl ?_
  refine ef_if (pt := 50) (pf := 46) (fun _ _ => ev_icmp_ge (tgt := 50) dX6_melts_43 (by decide)) (fun h2 => ?_) (fun h2 => ?_)
  · refine ef_aload_n (q := 51) 1 dX6_melts_50 rfl rfl rfl ?_
    refine ef_getR (t := 18) (q := 54) rfl fl6_44 rfl rfl dX6_melts_51 rfl ?_
    refine ef_iload_n (q := 55) 2 dX6_melts_54 rfl rfl rfl ?_
    refine ef_guard (fun g3 => ?_)
    refine ef_iaload (x := s.1 18 x1.toNatClampNeg) (q := 56) rfl g3 dX6_melts_55 rfl rfl ?_
    refine ef_sub (lv' := [(0, .ref (pl 0)), (1, .int x1), (2, .int x2)]) [1, 2, 3] rfl ?_
    exact okX6_melts_56 rec_2 hrec_2 x1 x2 (s.1 18 x1.toNatClampNeg) s
  · refine ef_iload_n (q := 47) 0 dX6_melts_46 rfl rfl rfl ?_
    refine ef_goto (tgt := 56) dX6_melts_47 (by decide) ?_
    refine ef_sub (lv' := [(0, .ref (pl 0)), (1, .int x1), (2, .int x2)]) [1, 2, 3] rfl ?_
    exact okX6_melts_56 rec_2 hrec_2 x1 x2 y0 s
set_option maxRecDepth 100000 in
set_option maxHeartbeats 4000000 in
theorem okX6_melts_2 {G : GG} {pl : Nat → Nat} {h0 : PH} : ∀ (n : Nat) (x1 : Int32) (x2 : Int32) (s : SS), EvF G 1 mX6_melts lyR pl h0 rvU (fX6_melts_2 n x1 x2 s) 2 [(0, .ref (pl 0)), (1, .int x1), (2, .int x2)] [] s := by
  intro n
  induction n with
  | zero => intro x1 x2 s; rw [fX6_melts_2]; exact ef_none
  | succ n ih =>
    intro x1 x2 s
    rw [fX6_melts_2]
    refine ef_iload_n (q := 3) 2 dX6_melts_2 rfl rfl rfl ?_
    refine ef_aload_n (q := 4) 0 dX6_melts_3 rfl rfl rfl ?_
    refine ef_getI (x := s.1 0 9) (q := 7) rfl fl6_37 rfl rfl dX6_melts_4 rfl ?_
    refine ef_if (pt := 85) (pf := 10) (fun _ _ => ev_icmp_ge (tgt := 85) dX6_melts_7 (by decide)) (fun h1 => ?_) (fun h1 => ?_)
    · exact ef_vret rfl dX6_melts_85
    · refine ef_aload_n (q := 11) 0 dX6_melts_10 rfl rfl rfl ?_
      refine ef_iload_n (q := 12) 2 dX6_melts_11 rfl rfl rfl ?_
      refine ef_invVI0 (k := 0) (As := [.int x2]) (rest := []) (q := 15) (okX6_isSunny x2) rfl calX6_isSunny ml6_266 (by decide) rfl rfl rfl (Nat.le_of_ble_eq_true rfl) dX6_melts_12 rfl (fun z2 => ?_)
      refine ef_if (pt := 27) (pf := 18) (fun _ _ => ev_if_eq (tgt := 27) dX6_melts_15 (by decide)) (fun h3 => ?_) (fun h3 => ?_)
      · refine ef_aload_n (q := 28) 0 dX6_melts_27 rfl rfl rfl ?_
        refine ef_getR (t := 17) (q := 31) rfl fl6_41 rfl rfl dX6_melts_28 rfl ?_
        refine ef_iload_n (q := 32) 1 dX6_melts_31 rfl rfl rfl ?_
        refine ef_guard (fun g4 => ?_)
        refine ef_iaload (x := z2.2.1 17 x1.toNatClampNeg) (q := 33) rfl g4 dX6_melts_32 rfl rfl ?_
        refine ef_iconst (v := (2 : Int32)) (q := 34) dX6_melts_33 (by decide) rfl ?_
        refine ef_idiv (q := 35) dX6_melts_34 (by decide) rfl ?_
        refine ef_sub (lv' := [(0, .ref (pl 0)), (1, .int x1), (2, .int x2)]) [0, 1, 2] rfl ?_
        exact okX6_melts_35 (fX6_melts_2 n) ih x1 x2 ((z2.2.1 17 x1.toNatClampNeg) / (2 : Int32)) z2.2
      · refine ef_aload_n (q := 19) 0 dX6_melts_18 rfl rfl rfl ?_
        refine ef_getR (t := 17) (q := 22) rfl fl6_41 rfl rfl dX6_melts_19 rfl ?_
        refine ef_iload_n (q := 23) 1 dX6_melts_22 rfl rfl rfl ?_
        refine ef_guard (fun g5 => ?_)
        refine ef_iaload (x := z2.2.1 17 x1.toNatClampNeg) (q := 24) rfl g5 dX6_melts_23 rfl rfl ?_
        refine ef_goto (tgt := 35) dX6_melts_24 (by decide) ?_
        refine ef_sub (lv' := [(0, .ref (pl 0)), (1, .int x1), (2, .int x2)]) [0, 1, 2] rfl ?_
        exact okX6_melts_35 (fX6_melts_2 n) ih x1 x2 (z2.2.1 17 x1.toNatClampNeg) z2.2
set_option maxRecDepth 100000 in
set_option maxHeartbeats 4000000 in
theorem okX6_melts_0 {G : GG} {pl : Nat → Nat} {h0 : PH} (x1 : Int32) (s : SS) : EvF G 1 mX6_melts lyR pl h0 rvU (fX6_melts_0 x1 s) 0 [(0, .ref (pl 0)), (1, .int x1)] [] s := by
  unfold fX6_melts_0
  refine ef_iconst (v := (0 : Int32)) (q := 1) dX6_melts_0 (by decide) rfl ?_
  refine ef_istore_n (lv' := [(2, .int (0 : Int32)), (0, .ref (pl 0)), (1, .int x1)]) (q := 2) dX6_melts_1 rfl (by decide) rfl rfl ?_
  refine ef_sub (lv' := [(0, .ref (pl 0)), (1, .int x1), (2, .int (0 : Int32))]) [1, 2, 0] rfl ?_
  exact okX6_melts_2 FU x1 (0 : Int32) s
theorem okX6_melts (x1 : Int32) : MtF 1 mX6_melts lyR rvU (fun _ pl => [.ref (pl 0), .int x1]) (fX6_melts x1) := by
  refine MtF.of (by decide +kernel) rfl (fun _ pl => Nat.le_of_ble_eq_true rfl) (fun G pl h0 s => ?_)
  refine ef_sub (lv := [(0, .ref (pl 0)), (1, .int x1)]) (lv' := [(0, .ref (pl 0)), (1, .int x1)]) [0, 1] rfl ?_
  exact okX6_melts_0  x1 s
-- X6_runsDown
theorem dX6_runsDown_0 : decode cX6_runsDown 0 = .ok (.iconst 0, 1) := by decide +kernel
theorem dX6_runsDown_1 : decode cX6_runsDown 1 = .ok (.istore_n 2, 1) := by decide +kernel
theorem dX6_runsDown_2 : decode cX6_runsDown 2 = .ok (.iload_n 2, 1) := by decide +kernel
theorem dX6_runsDown_3 : decode cX6_runsDown 3 = .ok (.aload_n 0, 1) := by decide +kernel
theorem dX6_runsDown_4 : decode cX6_runsDown 4 = .ok (.getfield 37, 3) := by decide +kernel
theorem dX6_runsDown_7 : decode cX6_runsDown 7 = .ok (.if_icmp .ge 72, 3) := by decide +kernel
theorem dX6_runsDown_10 : decode cX6_runsDown 10 = .ok (.aload_n 0, 1) := by decide +kernel
theorem dX6_runsDown_11 : decode cX6_runsDown 11 = .ok (.getfield 49, 3) := by decide +kernel
theorem dX6_runsDown_14 : decode cX6_runsDown 14 = .ok (.iload_n 1, 1) := by decide +kernel
theorem dX6_runsDown_15 : decode cX6_runsDown 15 = .ok (.aaload, 1) := by decide +kernel
theorem dX6_runsDown_16 : decode cX6_runsDown 16 = .ok (.iload_n 2, 1) := by decide +kernel
theorem dX6_runsDown_17 : decode cX6_runsDown 17 = .ok (.iaload, 1) := by decide +kernel
theorem dX6_runsDown_18 : decode cX6_runsDown 18 = .ok (.aload_n 0, 1) := by decide +kernel
theorem dX6_runsDown_19 : decode cX6_runsDown 19 = .ok (.getfield 55, 3) := by decide +kernel
theorem dX6_runsDown_22 : decode cX6_runsDown 22 = .ok (.iconst 0, 1) := by decide +kernel
theorem dX6_runsDown_23 : decode cX6_runsDown 23 = .ok (.iaload, 1) := by decide +kernel
theorem dX6_runsDown_24 : decode cX6_runsDown 24 = .ok (.isub, 1) := by decide +kernel
theorem dX6_runsDown_25 : decode cX6_runsDown 25 = .ok (.istore_n 3, 1) := by decide +kernel
theorem dX6_runsDown_26 : decode cX6_runsDown 26 = .ok (.iload_n 3, 1) := by decide +kernel
theorem dX6_runsDown_27 : decode cX6_runsDown 27 = .ok (.ifCond .le 46, 3) := by decide +kernel
theorem dX6_runsDown_30 : decode cX6_runsDown 30 = .ok (.aload_n 0, 1) := by decide +kernel
theorem dX6_runsDown_31 : decode cX6_runsDown 31 = .ok (.getfield 49, 3) := by decide +kernel
theorem dX6_runsDown_34 : decode cX6_runsDown 34 = .ok (.iload_n 1, 1) := by decide +kernel
theorem dX6_runsDown_35 : decode cX6_runsDown 35 = .ok (.aaload, 1) := by decide +kernel
theorem dX6_runsDown_36 : decode cX6_runsDown 36 = .ok (.iload_n 2, 1) := by decide +kernel
theorem dX6_runsDown_37 : decode cX6_runsDown 37 = .ok (.dup2, 1) := by decide +kernel
theorem dX6_runsDown_38 : decode cX6_runsDown 38 = .ok (.iaload, 1) := by decide +kernel
theorem dX6_runsDown_39 : decode cX6_runsDown 39 = .ok (.iload_n 3, 1) := by decide +kernel
theorem dX6_runsDown_40 : decode cX6_runsDown 40 = .ok (.isub, 1) := by decide +kernel
theorem dX6_runsDown_41 : decode cX6_runsDown 41 = .ok (.iastore, 1) := by decide +kernel
theorem dX6_runsDown_42 : decode cX6_runsDown 42 = .ok (.iload_n 1, 1) := by decide +kernel
theorem dX6_runsDown_43 : decode cX6_runsDown 43 = .ok (.ifCond .ne 16, 3) := by decide +kernel
theorem dX6_runsDown_46 : decode cX6_runsDown 46 = .ok (.aload_n 0, 1) := by decide +kernel
theorem dX6_runsDown_47 : decode cX6_runsDown 47 = .ok (.getfield 52, 3) := by decide +kernel
theorem dX6_runsDown_50 : decode cX6_runsDown 50 = .ok (.iload_n 2, 1) := by decide +kernel
theorem dX6_runsDown_51 : decode cX6_runsDown 51 = .ok (.dup2, 1) := by decide +kernel
theorem dX6_runsDown_52 : decode cX6_runsDown 52 = .ok (.iaload, 1) := by decide +kernel
theorem dX6_runsDown_53 : decode cX6_runsDown 53 = .ok (.iload_n 3, 1) := by decide +kernel
theorem dX6_runsDown_54 : decode cX6_runsDown 54 = .ok (.iadd, 1) := by decide +kernel
theorem dX6_runsDown_55 : decode cX6_runsDown 55 = .ok (.iastore, 1) := by decide +kernel
theorem dX6_runsDown_56 : decode cX6_runsDown 56 = .ok (.goto 17, 3) := by decide +kernel
theorem dX6_runsDown_59 : decode cX6_runsDown 59 = .ok (.aload_n 0, 1) := by decide +kernel
theorem dX6_runsDown_60 : decode cX6_runsDown 60 = .ok (.getfield 49, 3) := by decide +kernel
theorem dX6_runsDown_63 : decode cX6_runsDown 63 = .ok (.iload_n 1, 1) := by decide +kernel
theorem dX6_runsDown_64 : decode cX6_runsDown 64 = .ok (.iconst 1, 1) := by decide +kernel
theorem dX6_runsDown_65 : decode cX6_runsDown 65 = .ok (.isub, 1) := by decide +kernel
theorem dX6_runsDown_66 : decode cX6_runsDown 66 = .ok (.aaload, 1) := by decide +kernel
theorem dX6_runsDown_67 : decode cX6_runsDown 67 = .ok (.iload_n 2, 1) := by decide +kernel
theorem dX6_runsDown_68 : decode cX6_runsDown 68 = .ok (.dup2, 1) := by decide +kernel
theorem dX6_runsDown_69 : decode cX6_runsDown 69 = .ok (.iaload, 1) := by decide +kernel
theorem dX6_runsDown_70 : decode cX6_runsDown 70 = .ok (.iload_n 3, 1) := by decide +kernel
theorem dX6_runsDown_71 : decode cX6_runsDown 71 = .ok (.iadd, 1) := by decide +kernel
theorem dX6_runsDown_72 : decode cX6_runsDown 72 = .ok (.iastore, 1) := by decide +kernel
theorem dX6_runsDown_73 : decode cX6_runsDown 73 = .ok (.iinc 2 1, 3) := by decide +kernel
theorem dX6_runsDown_76 : decode cX6_runsDown 76 = .ok (.goto (-74), 3) := by decide +kernel
theorem dX6_runsDown_79 : decode cX6_runsDown 79 = .ok (.return_, 1) := by decide +kernel
def fX6_runsDown_2 : Nat → Int32 → Int32 → SS → Option (Unit × SS)
  | 0, _, _, _ => none
  | n + 1, x1, x2, s => if (s.1 0 9) ≤ x2 then (some ((), s)) else (if ixB x1 3 then (if ixB x2 8 then (if ((s.1 (20 + x1.toNatClampNeg) x2.toNatClampNeg) - (s.1 24 0)) ≤ 0 then (fX6_runsDown_2 n x1 (x2 + (1 : Int32)) s) else (if ixB x1 3 then (if ixB x2 8 then (if ixB x2 8 then (if x1 = 0 then (if ixB x2 8 then (if ixB x2 8 then (fX6_runsDown_2 n x1 (x2 + (1 : Int32)) (wrI (wrI s (20 + x1.toNatClampNeg) x2.toNatClampNeg ((s.1 (20 + x1.toNatClampNeg) x2.toNatClampNeg) - ((s.1 (20 + x1.toNatClampNeg) x2.toNatClampNeg) - (s.1 24 0)))) 23 x2.toNatClampNeg (((wrI s (20 + x1.toNatClampNeg) x2.toNatClampNeg ((s.1 (20 + x1.toNatClampNeg) x2.toNatClampNeg) - ((s.1 (20 + x1.toNatClampNeg) x2.toNatClampNeg) - (s.1 24 0)))).1 23 x2.toNatClampNeg) + ((s.1 (20 + x1.toNatClampNeg) x2.toNatClampNeg) - (s.1 24 0))))) else none) else none) else (if ixB (x1 - (1 : Int32)) 3 then (if ixB x2 8 then (if ixB x2 8 then (fX6_runsDown_2 n x1 (x2 + (1 : Int32)) (wrI (wrI s (20 + x1.toNatClampNeg) x2.toNatClampNeg ((s.1 (20 + x1.toNatClampNeg) x2.toNatClampNeg) - ((s.1 (20 + x1.toNatClampNeg) x2.toNatClampNeg) - (s.1 24 0)))) (20 + ((x1 - (1 : Int32)).toNatClampNeg)) x2.toNatClampNeg (((wrI s (20 + x1.toNatClampNeg) x2.toNatClampNeg ((s.1 (20 + x1.toNatClampNeg) x2.toNatClampNeg) - ((s.1 (20 + x1.toNatClampNeg) x2.toNatClampNeg) - (s.1 24 0)))).1 (20 + ((x1 - (1 : Int32)).toNatClampNeg)) x2.toNatClampNeg) + ((s.1 (20 + x1.toNatClampNeg) x2.toNatClampNeg) - (s.1 24 0))))) else none) else none) else none)) else none) else none) else none)) else none) else none)
def fX6_runsDown_0 (x1 : Int32) (s : SS) : Option (Unit × SS) := fX6_runsDown_2 FU x1 (0 : Int32) s
def fX6_runsDown (x1 : Int32) (s : SS) : Option (Unit × SS) := fX6_runsDown_0 x1 s
set_option maxRecDepth 100000 in
set_option maxHeartbeats 4000000 in
theorem okX6_runsDown_2 {G : GG} {pl : Nat → Nat} {h0 : PH} : ∀ (n : Nat) (x1 : Int32) (x2 : Int32) (s : SS), EvF G 0 mX6_runsDown lyR pl h0 rvU (fX6_runsDown_2 n x1 x2 s) 2 [(0, .ref (pl 0)), (1, .int x1), (2, .int x2)] [] s := by
  intro n
  induction n with
  | zero => intro x1 x2 s; rw [fX6_runsDown_2]; exact ef_none
  | succ n ih =>
    intro x1 x2 s
    rw [fX6_runsDown_2]
    refine ef_iload_n (q := 3) 2 dX6_runsDown_2 rfl rfl rfl ?_
    refine ef_aload_n (q := 4) 0 dX6_runsDown_3 rfl rfl rfl ?_
    refine ef_getI (x := s.1 0 9) (q := 7) rfl fl6_37 rfl rfl dX6_runsDown_4 rfl ?_
    refine ef_if (pt := 79) (pf := 10) (fun _ _ => ev_icmp_ge (tgt := 79) dX6_runsDown_7 (by decide)) (fun h1 => ?_) (fun h1 => ?_)
    · exact ef_vret rfl dX6_runsDown_79
    · refine ef_aload_n (q := 11) 0 dX6_runsDown_10 rfl rfl rfl ?_
      refine ef_getR (t := 19) (q := 14) rfl fl6_49 rfl rfl dX6_runsDown_11 rfl ?_
      refine ef_iload_n (q := 15) 1 dX6_runsDown_14 rfl rfl rfl ?_
      refine ef_guard (fun g2 => ?_)
      refine ef_aaload (t0 := 20 + x1.toNatClampNeg) (q := 16) rfl (by decide) lyR_t19 g2 dX6_runsDown_15 rfl rfl ?_
      refine ef_iload_n (q := 17) 2 dX6_runsDown_16 rfl rfl rfl ?_
      refine ef_guard (fun g3 => ?_)
      refine ef_iaload (x := s.1 (20 + x1.toNatClampNeg) x2.toNatClampNeg) (q := 18) (lyR_f19_0 _ (ixB_lt g2)) g3 dX6_runsDown_17 rfl rfl ?_
      refine ef_aload_n (q := 19) 0 dX6_runsDown_18 rfl rfl rfl ?_
      refine ef_getR (t := 24) (q := 22) rfl fl6_55 rfl rfl dX6_runsDown_19 rfl ?_
      refine ef_iconst (v := (0 : Int32)) (q := 23) dX6_runsDown_22 (by decide) rfl ?_
      refine ef_iaload (x := s.1 24 0) (q := 24) rfl (by decide) dX6_runsDown_23 rfl rfl ?_
      refine ef_isub (q := 25) dX6_runsDown_24 rfl ?_
      refine ef_istore_n (lv' := [(3, .int ((s.1 (20 + x1.toNatClampNeg) x2.toNatClampNeg) - (s.1 24 0))), (0, .ref (pl 0)), (1, .int x1), (2, .int x2)]) (q := 26) dX6_runsDown_25 rfl (by decide) rfl rfl ?_
      refine ef_iload_n (q := 27) 0 dX6_runsDown_26 rfl rfl rfl ?_
      refine ef_if (pt := 73) (pf := 30) (fun _ _ => ev_if_le (tgt := 73) dX6_runsDown_27 (by decide)) (fun h4 => ?_) (fun h4 => ?_)
      · refine ef_iinc (v := x2 + (1 : Int32)) (lv' := [(2, .int (x2 + (1 : Int32))), (3, .int ((s.1 (20 + x1.toNatClampNeg) x2.toNatClampNeg) - (s.1 24 0))), (0, .ref (pl 0)), (1, .int x1)]) (q := 76) 3 dX6_runsDown_73 rfl rfl (by decide) rfl rfl ?_
        refine ef_goto (tgt := 2) dX6_runsDown_76 (by decide) ?_
        refine ef_sub (lv' := [(0, .ref (pl 0)), (1, .int x1), (2, .int (x2 + (1 : Int32)))]) [2, 3, 0] rfl ?_
        exact ih x1 (x2 + (1 : Int32)) s
      · refine ef_aload_n (q := 31) 1 dX6_runsDown_30 rfl rfl rfl ?_
        refine ef_getR (t := 19) (q := 34) rfl fl6_49 rfl rfl dX6_runsDown_31 rfl ?_
        refine ef_iload_n (q := 35) 2 dX6_runsDown_34 rfl rfl rfl ?_
        refine ef_guard (fun g5 => ?_)
        refine ef_aaload (t0 := 20 + x1.toNatClampNeg) (q := 36) rfl (by decide) lyR_t19 g5 dX6_runsDown_35 rfl rfl ?_
        refine ef_iload_n (q := 37) 3 dX6_runsDown_36 rfl rfl rfl ?_
        refine ef_dup2_11 (q := 38) dX6_runsDown_37 rfl rfl rfl ?_
        refine ef_guard (fun g6 => ?_)
        refine ef_iaload (x := s.1 (20 + x1.toNatClampNeg) x2.toNatClampNeg) (q := 39) (lyR_f19_0 _ (ixB_lt g5)) g6 dX6_runsDown_38 rfl rfl ?_
        refine ef_iload_n (q := 40) 0 dX6_runsDown_39 rfl rfl rfl ?_
        refine ef_isub (q := 41) dX6_runsDown_40 rfl ?_
        refine ef_guard (fun g7 => ?_)
        refine ef_iastore (j := x2.toNatClampNeg) (q := 42) (lyR_f19_0 _ (ixB_lt g5)) g7 dX6_runsDown_41 rfl rfl ?_
        refine ef_iload_n (q := 43) 2 dX6_runsDown_42 rfl rfl rfl ?_
        refine ef_if (pt := 46) (pf := 59) (fun _ _ kt kf => ev_if_ne (tgt := 59) dX6_runsDown_43 (by decide) kf kt) (fun h8 => ?_) (fun h8 => ?_)
        · refine ef_aload_n (q := 47) 1 dX6_runsDown_46 rfl rfl rfl ?_
          refine ef_getR (t := 23) (q := 50) rfl fl6_52 rfl rfl dX6_runsDown_47 rfl ?_
          refine ef_iload_n (q := 51) 3 dX6_runsDown_50 rfl rfl rfl ?_
          refine ef_dup2_11 (q := 52) dX6_runsDown_51 rfl rfl rfl ?_
          refine ef_guard (fun g9 => ?_)
          refine ef_iaload (x := (wrI s (20 + x1.toNatClampNeg) x2.toNatClampNeg ((s.1 (20 + x1.toNatClampNeg) x2.toNatClampNeg) - ((s.1 (20 + x1.toNatClampNeg) x2.toNatClampNeg) - (s.1 24 0)))).1 23 x2.toNatClampNeg) (q := 53) rfl g9 dX6_runsDown_52 rfl rfl ?_
          refine ef_iload_n (q := 54) 0 dX6_runsDown_53 rfl rfl rfl ?_
          refine ef_iadd (q := 55) dX6_runsDown_54 rfl ?_
          refine ef_guard (fun g10 => ?_)
          refine ef_iastore (j := x2.toNatClampNeg) (q := 56) rfl g10 dX6_runsDown_55 rfl rfl ?_
          refine ef_goto (tgt := 73) dX6_runsDown_56 (by decide) ?_
          refine ef_iinc (v := x2 + (1 : Int32)) (lv' := [(2, .int (x2 + (1 : Int32))), (3, .int ((s.1 (20 + x1.toNatClampNeg) x2.toNatClampNeg) - (s.1 24 0))), (0, .ref (pl 0)), (1, .int x1)]) (q := 76) 3 dX6_runsDown_73 rfl rfl (by decide) rfl rfl ?_
          refine ef_goto (tgt := 2) dX6_runsDown_76 (by decide) ?_
          refine ef_sub (lv' := [(0, .ref (pl 0)), (1, .int x1), (2, .int (x2 + (1 : Int32)))]) [2, 3, 0] rfl ?_
          exact ih x1 (x2 + (1 : Int32)) (wrI (wrI s (20 + x1.toNatClampNeg) x2.toNatClampNeg ((s.1 (20 + x1.toNatClampNeg) x2.toNatClampNeg) - ((s.1 (20 + x1.toNatClampNeg) x2.toNatClampNeg) - (s.1 24 0)))) 23 x2.toNatClampNeg (((wrI s (20 + x1.toNatClampNeg) x2.toNatClampNeg ((s.1 (20 + x1.toNatClampNeg) x2.toNatClampNeg) - ((s.1 (20 + x1.toNatClampNeg) x2.toNatClampNeg) - (s.1 24 0)))).1 23 x2.toNatClampNeg) + ((s.1 (20 + x1.toNatClampNeg) x2.toNatClampNeg) - (s.1 24 0))))
        · refine ef_aload_n (q := 60) 1 dX6_runsDown_59 rfl rfl rfl ?_
          refine ef_getR (t := 19) (q := 63) rfl fl6_49 rfl rfl dX6_runsDown_60 rfl ?_
          refine ef_iload_n (q := 64) 2 dX6_runsDown_63 rfl rfl rfl ?_
          refine ef_iconst (v := (1 : Int32)) (q := 65) dX6_runsDown_64 (by decide) rfl ?_
          refine ef_isub (q := 66) dX6_runsDown_65 rfl ?_
          refine ef_guard (fun g11 => ?_)
          refine ef_aaload (t0 := 20 + ((x1 - (1 : Int32)).toNatClampNeg)) (q := 67) rfl (by decide) lyR_t19 g11 dX6_runsDown_66 rfl rfl ?_
          refine ef_iload_n (q := 68) 3 dX6_runsDown_67 rfl rfl rfl ?_
          refine ef_dup2_11 (q := 69) dX6_runsDown_68 rfl rfl rfl ?_
          refine ef_guard (fun g12 => ?_)
          refine ef_iaload (x := (wrI s (20 + x1.toNatClampNeg) x2.toNatClampNeg ((s.1 (20 + x1.toNatClampNeg) x2.toNatClampNeg) - ((s.1 (20 + x1.toNatClampNeg) x2.toNatClampNeg) - (s.1 24 0)))).1 (20 + ((x1 - (1 : Int32)).toNatClampNeg)) x2.toNatClampNeg) (q := 70) (lyR_f19_0 _ (ixB_lt g11)) g12 dX6_runsDown_69 rfl rfl ?_
          refine ef_iload_n (q := 71) 0 dX6_runsDown_70 rfl rfl rfl ?_
          refine ef_iadd (q := 72) dX6_runsDown_71 rfl ?_
          refine ef_guard (fun g13 => ?_)
          refine ef_iastore (j := x2.toNatClampNeg) (q := 73) (lyR_f19_0 _ (ixB_lt g11)) g13 dX6_runsDown_72 rfl rfl ?_
          refine ef_iinc (v := x2 + (1 : Int32)) (lv' := [(2, .int (x2 + (1 : Int32))), (3, .int ((s.1 (20 + x1.toNatClampNeg) x2.toNatClampNeg) - (s.1 24 0))), (0, .ref (pl 0)), (1, .int x1)]) (q := 76) 3 dX6_runsDown_73 rfl rfl (by decide) rfl rfl ?_
          refine ef_goto (tgt := 2) dX6_runsDown_76 (by decide) ?_
          refine ef_sub (lv' := [(0, .ref (pl 0)), (1, .int x1), (2, .int (x2 + (1 : Int32)))]) [2, 3, 0] rfl ?_
          exact ih x1 (x2 + (1 : Int32)) (wrI (wrI s (20 + x1.toNatClampNeg) x2.toNatClampNeg ((s.1 (20 + x1.toNatClampNeg) x2.toNatClampNeg) - ((s.1 (20 + x1.toNatClampNeg) x2.toNatClampNeg) - (s.1 24 0)))) (20 + ((x1 - (1 : Int32)).toNatClampNeg)) x2.toNatClampNeg (((wrI s (20 + x1.toNatClampNeg) x2.toNatClampNeg ((s.1 (20 + x1.toNatClampNeg) x2.toNatClampNeg) - ((s.1 (20 + x1.toNatClampNeg) x2.toNatClampNeg) - (s.1 24 0)))).1 (20 + ((x1 - (1 : Int32)).toNatClampNeg)) x2.toNatClampNeg) + ((s.1 (20 + x1.toNatClampNeg) x2.toNatClampNeg) - (s.1 24 0))))
set_option maxRecDepth 100000 in
set_option maxHeartbeats 4000000 in
theorem okX6_runsDown_0 {G : GG} {pl : Nat → Nat} {h0 : PH} (x1 : Int32) (s : SS) : EvF G 0 mX6_runsDown lyR pl h0 rvU (fX6_runsDown_0 x1 s) 0 [(0, .ref (pl 0)), (1, .int x1)] [] s := by
  unfold fX6_runsDown_0
  refine ef_iconst (v := (0 : Int32)) (q := 1) dX6_runsDown_0 (by decide) rfl ?_
  refine ef_istore_n (lv' := [(2, .int (0 : Int32)), (0, .ref (pl 0)), (1, .int x1)]) (q := 2) dX6_runsDown_1 rfl (by decide) rfl rfl ?_
  refine ef_sub (lv' := [(0, .ref (pl 0)), (1, .int x1), (2, .int (0 : Int32))]) [1, 2, 0] rfl ?_
  exact okX6_runsDown_2 FU x1 (0 : Int32) s
theorem okX6_runsDown (x1 : Int32) : MtF 0 mX6_runsDown lyR rvU (fun _ pl => [.ref (pl 0), .int x1]) (fX6_runsDown x1) := by
  refine MtF.of (by decide +kernel) rfl (fun _ pl => Nat.le_of_ble_eq_true rfl) (fun G pl h0 s => ?_)
  refine ef_sub (lv := [(0, .ref (pl 0)), (1, .int x1)]) (lv' := [(0, .ref (pl 0)), (1, .int x1)]) [0, 1] rfl ?_
  exact okX6_runsDown_0  x1 s
-- X6_goes
theorem dX6_goes_0 : decode cX6_goes 0 = .ok (.iload_n 1, 1) := by decide +kernel
theorem dX6_goes_1 : decode cX6_goes 1 = .ok (.iconst 4, 1) := by decide +kernel
theorem dX6_goes_2 : decode cX6_goes 2 = .ok (.if_icmp .ne 43, 3) := by decide +kernel
theorem dX6_goes_5 : decode cX6_goes 5 = .ok (.aload_n 0, 1) := by decide +kernel
theorem dX6_goes_6 : decode cX6_goes 6 = .ok (.aload_n 0, 1) := by decide +kernel
theorem dX6_goes_7 : decode cX6_goes 7 = .ok (.getfield 52, 3) := by decide +kernel
theorem dX6_goes_10 : decode cX6_goes 10 = .ok (.aload_n 0, 1) := by decide +kernel
theorem dX6_goes_11 : decode cX6_goes 11 = .ok (.getfield 126, 3) := by decide +kernel
theorem dX6_goes_14 : decode cX6_goes 14 = .ok (.iaload, 1) := by decide +kernel
theorem dX6_goes_15 : decode cX6_goes 15 = .ok (.invokevirtual 271, 3) := by decide +kernel
theorem dX6_goes_18 : decode cX6_goes 18 = .ok (.istore_n 3, 1) := by decide +kernel
theorem dX6_goes_19 : decode cX6_goes 19 = .ok (.aload_n 0, 1) := by decide +kernel
theorem dX6_goes_20 : decode cX6_goes 20 = .ok (.getfield 52, 3) := by decide +kernel
theorem dX6_goes_23 : decode cX6_goes 23 = .ok (.aload_n 0, 1) := by decide +kernel
theorem dX6_goes_24 : decode cX6_goes 24 = .ok (.getfield 126, 3) := by decide +kernel
theorem dX6_goes_27 : decode cX6_goes 27 = .ok (.dup2, 1) := by decide +kernel
theorem dX6_goes_28 : decode cX6_goes 28 = .ok (.iaload, 1) := by decide +kernel
theorem dX6_goes_29 : decode cX6_goes 29 = .ok (.iload_n 3, 1) := by decide +kernel
theorem dX6_goes_30 : decode cX6_goes 30 = .ok (.isub, 1) := by decide +kernel
theorem dX6_goes_31 : decode cX6_goes 31 = .ok (.iastore, 1) := by decide +kernel
theorem dX6_goes_32 : decode cX6_goes 32 = .ok (.aload_n 0, 1) := by decide +kernel
theorem dX6_goes_33 : decode cX6_goes 33 = .ok (.dup, 1) := by decide +kernel
theorem dX6_goes_34 : decode cX6_goes 34 = .ok (.getfield 274, 3) := by decide +kernel
theorem dX6_goes_37 : decode cX6_goes 37 = .ok (.iload_n 3, 1) := by decide +kernel
theorem dX6_goes_38 : decode cX6_goes 38 = .ok (.iadd, 1) := by decide +kernel
theorem dX6_goes_39 : decode cX6_goes 39 = .ok (.putfield 274, 3) := by decide +kernel
theorem dX6_goes_42 : decode cX6_goes 42 = .ok (.goto 94, 3) := by decide +kernel
theorem dX6_goes_45 : decode cX6_goes 45 = .ok (.iload_n 1, 1) := by decide +kernel
theorem dX6_goes_46 : decode cX6_goes 46 = .ok (.ifCond .le 56, 3) := by decide +kernel
theorem dX6_goes_49 : decode cX6_goes 49 = .ok (.iload_n 1, 1) := by decide +kernel
theorem dX6_goes_50 : decode cX6_goes 50 = .ok (.iconst 4, 1) := by decide +kernel
theorem dX6_goes_51 : decode cX6_goes 51 = .ok (.if_icmp .ge 51, 3) := by decide +kernel
theorem dX6_goes_54 : decode cX6_goes 54 = .ok (.aload_n 0, 1) := by decide +kernel
theorem dX6_goes_55 : decode cX6_goes 55 = .ok (.aload_n 0, 1) := by decide +kernel
theorem dX6_goes_56 : decode cX6_goes 56 = .ok (.getfield 49, 3) := by decide +kernel
theorem dX6_goes_59 : decode cX6_goes 59 = .ok (.iload_n 1, 1) := by decide +kernel
theorem dX6_goes_60 : decode cX6_goes 60 = .ok (.iconst 1, 1) := by decide +kernel
theorem dX6_goes_61 : decode cX6_goes 61 = .ok (.isub, 1) := by decide +kernel
theorem dX6_goes_62 : decode cX6_goes 62 = .ok (.aaload, 1) := by decide +kernel
theorem dX6_goes_63 : decode cX6_goes 63 = .ok (.aload_n 0, 1) := by decide +kernel
theorem dX6_goes_64 : decode cX6_goes 64 = .ok (.getfield 126, 3) := by decide +kernel
theorem dX6_goes_67 : decode cX6_goes 67 = .ok (.iaload, 1) := by decide +kernel
theorem dX6_goes_68 : decode cX6_goes 68 = .ok (.invokevirtual 271, 3) := by decide +kernel
theorem dX6_goes_71 : decode cX6_goes 71 = .ok (.istore_n 3, 1) := by decide +kernel
theorem dX6_goes_72 : decode cX6_goes 72 = .ok (.aload_n 0, 1) := by decide +kernel
theorem dX6_goes_73 : decode cX6_goes 73 = .ok (.getfield 49, 3) := by decide +kernel
theorem dX6_goes_76 : decode cX6_goes 76 = .ok (.iload_n 1, 1) := by decide +kernel
theorem dX6_goes_77 : decode cX6_goes 77 = .ok (.iconst 1, 1) := by decide +kernel
theorem dX6_goes_78 : decode cX6_goes 78 = .ok (.isub, 1) := by decide +kernel
theorem dX6_goes_79 : decode cX6_goes 79 = .ok (.aaload, 1) := by decide +kernel
theorem dX6_goes_80 : decode cX6_goes 80 = .ok (.aload_n 0, 1) := by decide +kernel
theorem dX6_goes_81 : decode cX6_goes 81 = .ok (.getfield 126, 3) := by decide +kernel
theorem dX6_goes_84 : decode cX6_goes 84 = .ok (.dup2, 1) := by decide +kernel
theorem dX6_goes_85 : decode cX6_goes 85 = .ok (.iaload, 1) := by decide +kernel
theorem dX6_goes_86 : decode cX6_goes 86 = .ok (.iload_n 3, 1) := by decide +kernel
theorem dX6_goes_87 : decode cX6_goes 87 = .ok (.isub, 1) := by decide +kernel
theorem dX6_goes_88 : decode cX6_goes 88 = .ok (.iastore, 1) := by decide +kernel
theorem dX6_goes_89 : decode cX6_goes 89 = .ok (.aload_n 0, 1) := by decide +kernel
theorem dX6_goes_90 : decode cX6_goes 90 = .ok (.dup, 1) := by decide +kernel
theorem dX6_goes_91 : decode cX6_goes 91 = .ok (.getfield 274, 3) := by decide +kernel
theorem dX6_goes_94 : decode cX6_goes 94 = .ok (.iload_n 3, 1) := by decide +kernel
theorem dX6_goes_95 : decode cX6_goes 95 = .ok (.iadd, 1) := by decide +kernel
theorem dX6_goes_96 : decode cX6_goes 96 = .ok (.putfield 274, 3) := by decide +kernel
theorem dX6_goes_99 : decode cX6_goes 99 = .ok (.goto 37, 3) := by decide +kernel
theorem dX6_goes_102 : decode cX6_goes 102 = .ok (.iload_n 1, 1) := by decide +kernel
theorem dX6_goes_103 : decode cX6_goes 103 = .ok (.iconst 4, 1) := by decide +kernel
theorem dX6_goes_104 : decode cX6_goes 104 = .ok (.if_icmp .le 32, 3) := by decide +kernel
theorem dX6_goes_107 : decode cX6_goes 107 = .ok (.aload_n 0, 1) := by decide +kernel
theorem dX6_goes_108 : decode cX6_goes 108 = .ok (.aload_n 0, 1) := by decide +kernel
theorem dX6_goes_109 : decode cX6_goes 109 = .ok (.getfield 126, 3) := by decide +kernel
theorem dX6_goes_112 : decode cX6_goes 112 = .ok (.iload_n 1, 1) := by decide +kernel
theorem dX6_goes_113 : decode cX6_goes 113 = .ok (.iconst 5, 1) := by decide +kernel
theorem dX6_goes_114 : decode cX6_goes 114 = .ok (.if_icmp .ne 7, 3) := by decide +kernel
theorem dX6_goes_117 : decode cX6_goes 117 = .ok (.iconst 1, 1) := by decide +kernel
theorem dX6_goes_118 : decode cX6_goes 118 = .ok (.goto 9, 3) := by decide +kernel
theorem dX6_goes_121 : decode cX6_goes 121 = .ok (.aload_n 0, 1) := by decide +kernel
theorem dX6_goes_122 : decode cX6_goes 122 = .ok (.getfield 37, 3) := by decide +kernel
theorem dX6_goes_125 : decode cX6_goes 125 = .ok (.iconst 1, 1) := by decide +kernel
theorem dX6_goes_126 : decode cX6_goes 126 = .ok (.isub, 1) := by decide +kernel
theorem dX6_goes_127 : decode cX6_goes 127 = .ok (.iadd, 1) := by decide +kernel
theorem dX6_goes_128 : decode cX6_goes 128 = .ok (.aload_n 0, 1) := by decide +kernel
theorem dX6_goes_129 : decode cX6_goes 129 = .ok (.getfield 37, 3) := by decide +kernel
theorem dX6_goes_132 : decode cX6_goes 132 = .ok (.irem, 1) := by decide +kernel
theorem dX6_goes_133 : decode cX6_goes 133 = .ok (.putfield 126, 3) := by decide +kernel
theorem dX6_goes_136 : decode cX6_goes 136 = .ok (.iconst 0, 1) := by decide +kernel
theorem dX6_goes_137 : decode cX6_goes 137 = .ok (.istore_n 3, 1) := by decide +kernel
theorem dX6_goes_138 : decode cX6_goes 138 = .ok (.iload_n 3, 1) := by decide +kernel
theorem dX6_goes_139 : decode cX6_goes 139 = .ok (.aload_n 0, 1) := by decide +kernel
theorem dX6_goes_140 : decode cX6_goes 140 = .ok (.getfield 93, 3) := by decide +kernel
theorem dX6_goes_143 : decode cX6_goes 143 = .ok (.if_icmp .ge 14, 3) := by decide +kernel
theorem dX6_goes_146 : decode cX6_goes 146 = .ok (.aload_n 0, 1) := by decide +kernel
theorem dX6_goes_147 : decode cX6_goes 147 = .ok (.iload_n 3, 1) := by decide +kernel
theorem dX6_goes_148 : decode cX6_goes 148 = .ok (.invokevirtual 277, 3) := by decide +kernel
theorem dX6_goes_151 : decode cX6_goes 151 = .ok (.iinc 3 1, 3) := by decide +kernel
theorem dX6_goes_154 : decode cX6_goes 154 = .ok (.goto (-16), 3) := by decide +kernel
theorem dX6_goes_157 : decode cX6_goes 157 = .ok (.aload_n 0, 1) := by decide +kernel
theorem dX6_goes_158 : decode cX6_goes 158 = .ok (.getfield 93, 3) := by decide +kernel
theorem dX6_goes_161 : decode cX6_goes 161 = .ok (.iconst 1, 1) := by decide +kernel
theorem dX6_goes_162 : decode cX6_goes 162 = .ok (.isub, 1) := by decide +kernel
theorem dX6_goes_163 : decode cX6_goes 163 = .ok (.istore_n 3, 1) := by decide +kernel
theorem dX6_goes_164 : decode cX6_goes 164 = .ok (.iload_n 3, 1) := by decide +kernel
theorem dX6_goes_165 : decode cX6_goes 165 = .ok (.ifCond .lt 14, 3) := by decide +kernel
theorem dX6_goes_168 : decode cX6_goes 168 = .ok (.aload_n 0, 1) := by decide +kernel
theorem dX6_goes_169 : decode cX6_goes 169 = .ok (.iload_n 3, 1) := by decide +kernel
theorem dX6_goes_170 : decode cX6_goes 170 = .ok (.invokevirtual 280, 3) := by decide +kernel
theorem dX6_goes_173 : decode cX6_goes 173 = .ok (.iinc 3 (-1), 3) := by decide +kernel
theorem dX6_goes_176 : decode cX6_goes 176 = .ok (.goto (-12), 3) := by decide +kernel
theorem dX6_goes_179 : decode cX6_goes 179 = .ok (.aload_n 0, 1) := by decide +kernel
theorem dX6_goes_180 : decode cX6_goes 180 = .ok (.getfield 283, 3) := by decide +kernel
theorem dX6_goes_183 : decode cX6_goes 183 = .ok (.istore_n 3, 1) := by decide +kernel
theorem dX6_goes_184 : decode cX6_goes 184 = .ok (.iconst 0, 1) := by decide +kernel
theorem dX6_goes_185 : decode cX6_goes 185 = .ok (.istore 4, 2) := by decide +kernel
theorem dX6_goes_187 : decode cX6_goes 187 = .ok (.iload 4, 2) := by decide +kernel
theorem dX6_goes_189 : decode cX6_goes 189 = .ok (.aload_n 0, 1) := by decide +kernel
theorem dX6_goes_190 : decode cX6_goes 190 = .ok (.getfield 37, 3) := by decide +kernel
theorem dX6_goes_193 : decode cX6_goes 193 = .ok (.if_icmp .ge 77, 3) := by decide +kernel
theorem dX6_goes_196 : decode cX6_goes 196 = .ok (.aload_n 0, 1) := by decide +kernel
theorem dX6_goes_197 : decode cX6_goes 197 = .ok (.getfield 52, 3) := by decide +kernel
theorem dX6_goes_200 : decode cX6_goes 200 = .ok (.iload 4, 2) := by decide +kernel
theorem dX6_goes_202 : decode cX6_goes 202 = .ok (.iaload, 1) := by decide +kernel
theorem dX6_goes_203 : decode cX6_goes 203 = .ok (.aload_n 0, 1) := by decide +kernel
theorem dX6_goes_204 : decode cX6_goes 204 = .ok (.getfield 55, 3) := by decide +kernel
theorem dX6_goes_207 : decode cX6_goes 207 = .ok (.iconst 1, 1) := by decide +kernel
theorem dX6_goes_208 : decode cX6_goes 208 = .ok (.iaload, 1) := by decide +kernel
theorem dX6_goes_209 : decode cX6_goes 209 = .ok (.isub, 1) := by decide +kernel
theorem dX6_goes_210 : decode cX6_goes 210 = .ok (.istore 5, 2) := by decide +kernel
theorem dX6_goes_212 : decode cX6_goes 212 = .ok (.iload 5, 2) := by decide +kernel
theorem dX6_goes_214 : decode cX6_goes 214 = .ok (.ifCond .le 26, 3) := by decide +kernel
theorem dX6_goes_217 : decode cX6_goes 217 = .ok (.aload_n 0, 1) := by decide +kernel
theorem dX6_goes_218 : decode cX6_goes 218 = .ok (.getfield 52, 3) := by decide +kernel
theorem dX6_goes_221 : decode cX6_goes 221 = .ok (.iload 4, 2) := by decide +kernel
theorem dX6_goes_223 : decode cX6_goes 223 = .ok (.dup2, 1) := by decide +kernel
theorem dX6_goes_224 : decode cX6_goes 224 = .ok (.iaload, 1) := by decide +kernel
theorem dX6_goes_225 : decode cX6_goes 225 = .ok (.iload 5, 2) := by decide +kernel
theorem dX6_goes_227 : decode cX6_goes 227 = .ok (.isub, 1) := by decide +kernel
theorem dX6_goes_228 : decode cX6_goes 228 = .ok (.iastore, 1) := by decide +kernel
theorem dX6_goes_229 : decode cX6_goes 229 = .ok (.aload_n 0, 1) := by decide +kernel
theorem dX6_goes_230 : decode cX6_goes 230 = .ok (.dup, 1) := by decide +kernel
theorem dX6_goes_231 : decode cX6_goes 231 = .ok (.getfield 283, 3) := by decide +kernel
theorem dX6_goes_234 : decode cX6_goes 234 = .ok (.iload 5, 2) := by decide +kernel
theorem dX6_goes_236 : decode cX6_goes 236 = .ok (.iadd, 1) := by decide +kernel
theorem dX6_goes_237 : decode cX6_goes 237 = .ok (.putfield 283, 3) := by decide +kernel
theorem dX6_goes_240 : decode cX6_goes 240 = .ok (.aload_n 0, 1) := by decide +kernel
theorem dX6_goes_241 : decode cX6_goes 241 = .ok (.dup, 1) := by decide +kernel
theorem dX6_goes_242 : decode cX6_goes 242 = .ok (.getfield 286, 3) := by decide +kernel
theorem dX6_goes_245 : decode cX6_goes 245 = .ok (.aload_n 0, 1) := by decide +kernel
theorem dX6_goes_246 : decode cX6_goes 246 = .ok (.getfield 52, 3) := by decide +kernel
theorem dX6_goes_249 : decode cX6_goes 249 = .ok (.iload 4, 2) := by decide +kernel
theorem dX6_goes_251 : decode cX6_goes 251 = .ok (.iaload, 1) := by decide +kernel
theorem dX6_goes_252 : decode cX6_goes 252 = .ok (.ifCond .le 7, 3) := by decide +kernel
theorem dX6_goes_255 : decode cX6_goes 255 = .ok (.iconst 1, 1) := by decide +kernel
theorem dX6_goes_256 : decode cX6_goes 256 = .ok (.goto 4, 3) := by decide +kernel
theorem dX6_goes_259 : decode cX6_goes 259 = .ok (.iconst 0, 1) := by decide +kernel
theorem dX6_goes_260 : decode cX6_goes 260 = .ok (.iadd, 1) := by decide +kernel
theorem dX6_goes_261 : decode cX6_goes 261 = .ok (.putfield 286, 3) := by decide +kernel
theorem dX6_goes_264 : decode cX6_goes 264 = .ok (.iinc 4 1, 3) := by decide +kernel
theorem dX6_goes_267 : decode cX6_goes 267 = .ok (.goto (-80), 3) := by decide +kernel
theorem dX6_goes_270 : decode cX6_goes 270 = .ok (.aload_n 0, 1) := by decide +kernel
theorem dX6_goes_271 : decode cX6_goes 271 = .ok (.dup, 1) := by decide +kernel
theorem dX6_goes_272 : decode cX6_goes 272 = .ok (.getfield 289, 3) := by decide +kernel
theorem dX6_goes_275 : decode cX6_goes 275 = .ok (.iconst 1, 1) := by decide +kernel
theorem dX6_goes_276 : decode cX6_goes 276 = .ok (.iadd, 1) := by decide +kernel
theorem dX6_goes_277 : decode cX6_goes 277 = .ok (.putfield 289, 3) := by decide +kernel
theorem dX6_goes_280 : decode cX6_goes 280 = .ok (.iload_n 2, 1) := by decide +kernel
theorem dX6_goes_281 : decode cX6_goes 281 = .ok (.ifCond .eq 40, 3) := by decide +kernel
theorem dX6_goes_284 : decode cX6_goes 284 = .ok (.aload_n 0, 1) := by decide +kernel
theorem dX6_goes_285 : decode cX6_goes 285 = .ok (.getfield 283, 3) := by decide +kernel
theorem dX6_goes_288 : decode cX6_goes 288 = .ok (.iload_n 3, 1) := by decide +kernel
theorem dX6_goes_289 : decode cX6_goes 289 = .ok (.if_icmp .le 32, 3) := by decide +kernel
theorem dX6_goes_292 : decode cX6_goes 292 = .ok (.aload_n 0, 1) := by decide +kernel
theorem dX6_goes_293 : decode cX6_goes 293 = .ok (.getfield 292, 3) := by decide +kernel
theorem dX6_goes_296 : decode cX6_goes 296 = .ok (.bipush 20, 2) := by decide +kernel
theorem dX6_goes_298 : decode cX6_goes 298 = .ok (.if_icmp .ge 23, 3) := by decide +kernel
theorem dX6_goes_301 : decode cX6_goes 301 = .ok (.aload_n 0, 1) := by decide +kernel
theorem dX6_goes_302 : decode cX6_goes 302 = .ok (.getfield 64, 3) := by decide +kernel
theorem dX6_goes_305 : decode cX6_goes 305 = .ok (.aload_n 0, 1) := by decide +kernel
theorem dX6_goes_306 : decode cX6_goes 306 = .ok (.dup, 1) := by decide +kernel
theorem dX6_goes_307 : decode cX6_goes 307 = .ok (.getfield 292, 3) := by decide +kernel
theorem dX6_goes_310 : decode cX6_goes 310 = .ok (.dup_x1, 1) := by decide +kernel
theorem dX6_goes_311 : decode cX6_goes 311 = .ok (.iconst 1, 1) := by decide +kernel
theorem dX6_goes_312 : decode cX6_goes 312 = .ok (.iadd, 1) := by decide +kernel
theorem dX6_goes_313 : decode cX6_goes 313 = .ok (.putfield 292, 3) := by decide +kernel
theorem dX6_goes_316 : decode cX6_goes 316 = .ok (.aload_n 0, 1) := by decide +kernel
theorem dX6_goes_317 : decode cX6_goes 317 = .ok (.getfield 289, 3) := by decide +kernel
theorem dX6_goes_320 : decode cX6_goes 320 = .ok (.iastore, 1) := by decide +kernel
theorem dX6_goes_321 : decode cX6_goes 321 = .ok (.return_, 1) := by decide +kernel
def fX6_goes_240 (rec_187 : Int32 → Int32 → Int32 → SS → Option (Unit × SS)) (x2 : Int32) (x3 : Int32) (x4 : Int32) (s : SS) : Option (Unit × SS) := if ixB x4 8 then (if (s.1 23 x4.toNatClampNeg) ≤ 0 then (rec_187 x2 x3 (x4 + (1 : Int32)) (wrI s 0 21 ((s.1 0 21) + (0 : Int32)))) else (rec_187 x2 x3 (x4 + (1 : Int32)) (wrI s 0 21 ((s.1 0 21) + (1 : Int32))))) else none
def fX6_goes_187 : Nat → Int32 → Int32 → Int32 → SS → Option (Unit × SS)
  | 0, _, _, _, _ => none
  | n + 1, x2, x3, x4, s => if (s.1 0 9) ≤ x4 then (if x2 = 0 then (some ((), wrI s 0 18 ((s.1 0 18) + (1 : Int32)))) else (if (s.1 0 19) ≤ x3 then (some ((), wrI s 0 18 ((s.1 0 18) + (1 : Int32)))) else (if (20 : Int32) ≤ (s.1 0 25) then (some ((), wrI s 0 18 ((s.1 0 18) + (1 : Int32)))) else (if ixB (s.1 0 25) 20 then (some ((), wrI (wrI (wrI s 0 18 ((s.1 0 18) + (1 : Int32))) 0 25 ((s.1 0 25) + (1 : Int32))) 27 ((s.1 0 25).toNatClampNeg) ((s.1 0 18) + (1 : Int32)))) else none)))) else (if ixB x4 8 then (if ((s.1 23 x4.toNatClampNeg) - (s.1 24 1)) ≤ 0 then (fX6_goes_240 (fX6_goes_187 n) x2 x3 x4 s) else (if ixB x4 8 then (if ixB x4 8 then (fX6_goes_240 (fX6_goes_187 n) x2 x3 x4 (wrI (wrI s 23 x4.toNatClampNeg ((s.1 23 x4.toNatClampNeg) - ((s.1 23 x4.toNatClampNeg) - (s.1 24 1)))) 0 19 ((s.1 0 19) + ((s.1 23 x4.toNatClampNeg) - (s.1 24 1))))) else none) else none)) else none)
def fX6_goes_164 : Nat → Int32 → Int32 → SS → Option (Unit × SS)
  | 0, _, _, _ => none
  | n + 1, x2, x3, s => if x3 < 0 then (fX6_goes_187 FU x2 (s.1 0 19) (0 : Int32) s) else (((fX6_runsDown x3 s).bind fun z2 => fX6_goes_164 n x2 (x3 + (-1 : Int32)) z2.2))
def fX6_goes_138 : Nat → Int32 → Int32 → SS → Option (Unit × SS)
  | 0, _, _, _ => none
  | n + 1, x2, x3, s => if (s.1 0 10) ≤ x3 then (fX6_goes_164 FU x2 ((s.1 0 10) - (1 : Int32)) s) else (((fX6_melts x3 s).bind fun z2 => fX6_goes_138 n x2 (x3 + (1 : Int32)) z2.2))
def fX6_goes_127 (x2 : Int32) (y1 : Int32) (y2 : Int32) (s : SS) : Option (Unit × SS) := if ¬ (s.1 0 9) = 0 then (fX6_goes_138 FU x2 (0 : Int32) (wrI s 0 15 ((y1 + y2) - (y1 + y2) / (s.1 0 9) * (s.1 0 9)))) else none
def fX6_goes_102 (x1 : Int32) (x2 : Int32) (s : SS) : Option (Unit × SS) := if x1 ≤ (4 : Int32) then (fX6_goes_138 FU x2 (0 : Int32) s) else (if x1 = (5 : Int32) then (fX6_goes_127 x2 (s.1 0 15) (1 : Int32) s) else (fX6_goes_127 x2 (s.1 0 15) ((s.1 0 9) - (1 : Int32)) s))
def fX6_goes_0 (x1 : Int32) (x2 : Int32) (s : SS) : Option (Unit × SS) := if x1 = (4 : Int32) then (if ixB (s.1 0 15) 8 then (((fX6_lickedOf (s.1 23 ((s.1 0 15).toNatClampNeg)) s).bind fun z3 => if ixB (z3.2.1 0 15) 8 then (if ixB (z3.2.1 0 15) 8 then (fX6_goes_138 FU x2 (0 : Int32) (wrI (wrI z3.2 23 ((z3.2.1 0 15).toNatClampNeg) ((z3.2.1 23 ((z3.2.1 0 15).toNatClampNeg)) - z3.1)) 0 20 ((z3.2.1 0 20) + z3.1))) else none) else none)) else none) else (if x1 ≤ 0 then (fX6_goes_102 x1 x2 s) else (if (4 : Int32) ≤ x1 then (fX6_goes_102 x1 x2 s) else (if ixB (x1 - (1 : Int32)) 3 then (if ixB (s.1 0 15) 8 then (((fX6_lickedOf (s.1 (20 + ((x1 - (1 : Int32)).toNatClampNeg)) ((s.1 0 15).toNatClampNeg)) s).bind fun z10 => if ixB (x1 - (1 : Int32)) 3 then (if ixB (z10.2.1 0 15) 8 then (if ixB (z10.2.1 0 15) 8 then (fX6_goes_138 FU x2 (0 : Int32) (wrI (wrI z10.2 (20 + ((x1 - (1 : Int32)).toNatClampNeg)) ((z10.2.1 0 15).toNatClampNeg) ((z10.2.1 (20 + ((x1 - (1 : Int32)).toNatClampNeg)) ((z10.2.1 0 15).toNatClampNeg)) - z10.1)) 0 20 (((wrI z10.2 (20 + ((x1 - (1 : Int32)).toNatClampNeg)) ((z10.2.1 0 15).toNatClampNeg) ((z10.2.1 (20 + ((x1 - (1 : Int32)).toNatClampNeg)) ((z10.2.1 0 15).toNatClampNeg)) - z10.1)).1 0 20) + z10.1))) else none) else none) else none)) else none) else none)))
def fX6_goes (x1 : Int32) (x2 : Int32) (s : SS) : Option (Unit × SS) := fX6_goes_0 x1 x2 s
set_option maxRecDepth 100000 in
set_option maxHeartbeats 4000000 in
theorem okX6_goes_240 {G : GG} {pl : Nat → Nat} {h0 : PH} (rec_187 : Int32 → Int32 → Int32 → SS → Option (Unit × SS)) (hrec_187 : ∀ (x2 : Int32) (x3 : Int32) (x4 : Int32) (s : SS), EvF G 2 mX6_goes lyR pl h0 rvU (rec_187 x2 x3 x4 s) 187 [(0, .ref (pl 0)), (2, .int x2), (3, .int x3), (4, .int x4)] [] s) (x2 : Int32) (x3 : Int32) (x4 : Int32) (s : SS) : EvF G 2 mX6_goes lyR pl h0 rvU (fX6_goes_240 rec_187 x2 x3 x4 s) 240 [(0, .ref (pl 0)), (2, .int x2), (3, .int x3), (4, .int x4)] [] s := by
  unfold fX6_goes_240
  refine ef_aload_n (q := 241) 0 dX6_goes_240 rfl rfl rfl ?_
  refine ef_dup (q := 242) dX6_goes_241 rfl rfl ?_
  refine ef_getI (x := s.1 0 21) (q := 245) rfl fl6_286 rfl rfl dX6_goes_242 rfl ?_
  refine ef_aload_n (q := 246) 0 dX6_goes_245 rfl rfl rfl ?_
  refine ef_getR (t := 23) (q := 249) rfl fl6_52 rfl rfl dX6_goes_246 rfl ?_
  refine ef_iload (q := 251) 3 dX6_goes_249 rfl rfl ?_
  refine ef_guard (fun g1 => ?_)
  refine ef_iaload (x := s.1 23 x4.toNatClampNeg) (q := 252) rfl g1 dX6_goes_251 rfl rfl ?_
  refine ef_if (pt := 259) (pf := 255) (fun _ _ => ev_if_le (tgt := 259) dX6_goes_252 (by decide)) (fun h2 => ?_) (fun h2 => ?_)
  · refine ef_iconst (v := (0 : Int32)) (q := 260) dX6_goes_259 (by decide) rfl ?_
    refine ef_iadd (q := 261) dX6_goes_260 rfl ?_
    refine ef_putI (q := 264) rfl fl6_286 rfl rfl dX6_goes_261 rfl ?_
    refine ef_iinc (v := x4 + (1 : Int32)) (lv' := [(4, .int (x4 + (1 : Int32))), (0, .ref (pl 0)), (2, .int x2), (3, .int x3)]) (q := 267) 3 dX6_goes_264 rfl rfl (by decide) rfl rfl ?_
    refine ef_goto (tgt := 187) dX6_goes_267 (by decide) ?_
    refine ef_sub (lv' := [(0, .ref (pl 0)), (2, .int x2), (3, .int x3), (4, .int (x4 + (1 : Int32)))]) [1, 2, 3, 0] rfl ?_
    exact hrec_187 x2 x3 (x4 + (1 : Int32)) (wrI s 0 21 ((s.1 0 21) + (0 : Int32)))
  · refine ef_iconst (v := (1 : Int32)) (q := 256) dX6_goes_255 (by decide) rfl ?_
    refine ef_goto (tgt := 260) dX6_goes_256 (by decide) ?_
    refine ef_iadd (q := 261) dX6_goes_260 rfl ?_
    refine ef_putI (q := 264) rfl fl6_286 rfl rfl dX6_goes_261 rfl ?_
    refine ef_iinc (v := x4 + (1 : Int32)) (lv' := [(4, .int (x4 + (1 : Int32))), (0, .ref (pl 0)), (2, .int x2), (3, .int x3)]) (q := 267) 3 dX6_goes_264 rfl rfl (by decide) rfl rfl ?_
    refine ef_goto (tgt := 187) dX6_goes_267 (by decide) ?_
    refine ef_sub (lv' := [(0, .ref (pl 0)), (2, .int x2), (3, .int x3), (4, .int (x4 + (1 : Int32)))]) [1, 2, 3, 0] rfl ?_
    exact hrec_187 x2 x3 (x4 + (1 : Int32)) (wrI s 0 21 ((s.1 0 21) + (1 : Int32)))
set_option maxRecDepth 100000 in
set_option maxHeartbeats 4000000 in
theorem okX6_goes_187 {G : GG} {pl : Nat → Nat} {h0 : PH} : ∀ (n : Nat) (x2 : Int32) (x3 : Int32) (x4 : Int32) (s : SS), EvF G 2 mX6_goes lyR pl h0 rvU (fX6_goes_187 n x2 x3 x4 s) 187 [(0, .ref (pl 0)), (2, .int x2), (3, .int x3), (4, .int x4)] [] s := by
  intro n
  induction n with
  | zero => intro x2 x3 x4 s; rw [fX6_goes_187]; exact ef_none
  | succ n ih =>
    intro x2 x3 x4 s
    rw [fX6_goes_187]
    refine ef_iload (q := 189) 3 dX6_goes_187 rfl rfl ?_
    refine ef_aload_n (q := 190) 0 dX6_goes_189 rfl rfl rfl ?_
    refine ef_getI (x := s.1 0 9) (q := 193) rfl fl6_37 rfl rfl dX6_goes_190 rfl ?_
    refine ef_if (pt := 270) (pf := 196) (fun _ _ => ev_icmp_ge (tgt := 270) dX6_goes_193 (by decide)) (fun h1 => ?_) (fun h1 => ?_)
    · refine ef_aload_n (q := 271) 0 dX6_goes_270 rfl rfl rfl ?_
      refine ef_dup (q := 272) dX6_goes_271 rfl rfl ?_
      refine ef_getI (x := s.1 0 18) (q := 275) rfl fl6_289 rfl rfl dX6_goes_272 rfl ?_
      refine ef_iconst (v := (1 : Int32)) (q := 276) dX6_goes_275 (by decide) rfl ?_
      refine ef_iadd (q := 277) dX6_goes_276 rfl ?_
      refine ef_putI (q := 280) rfl fl6_289 rfl rfl dX6_goes_277 rfl ?_
      refine ef_iload_n (q := 281) 1 dX6_goes_280 rfl rfl rfl ?_
      refine ef_if (pt := 321) (pf := 284) (fun _ _ => ev_if_eq (tgt := 321) dX6_goes_281 (by decide)) (fun h2 => ?_) (fun h2 => ?_)
      · exact ef_vret rfl dX6_goes_321
      · refine ef_aload_n (q := 285) 0 dX6_goes_284 rfl rfl rfl ?_
        refine ef_getI (x := s.1 0 19) (q := 288) rfl fl6_283 rfl rfl dX6_goes_285 rfl ?_
        refine ef_iload_n (q := 289) 2 dX6_goes_288 rfl rfl rfl ?_
        refine ef_if (pt := 321) (pf := 292) (fun _ _ => ev_icmp_le (tgt := 321) dX6_goes_289 (by decide)) (fun h3 => ?_) (fun h3 => ?_)
        · exact ef_vret rfl dX6_goes_321
        · refine ef_aload_n (q := 293) 0 dX6_goes_292 rfl rfl rfl ?_
          refine ef_getI (x := s.1 0 25) (q := 296) rfl fl6_292 rfl rfl dX6_goes_293 rfl ?_
          refine ef_bipush (v := (20 : Int32)) (q := 298) dX6_goes_296 (by decide) rfl ?_
          refine ef_if (pt := 321) (pf := 301) (fun _ _ => ev_icmp_ge (tgt := 321) dX6_goes_298 (by decide)) (fun h4 => ?_) (fun h4 => ?_)
          · exact ef_vret rfl dX6_goes_321
          · refine ef_aload_n (q := 302) 0 dX6_goes_301 rfl rfl rfl ?_
            refine ef_getR (t := 27) (q := 305) rfl fl6_64 rfl rfl dX6_goes_302 rfl ?_
            refine ef_aload_n (q := 306) 0 dX6_goes_305 rfl rfl rfl ?_
            refine ef_dup (q := 307) dX6_goes_306 rfl rfl ?_
            refine ef_getI (x := s.1 0 25) (q := 310) rfl fl6_292 rfl rfl dX6_goes_307 rfl ?_
            refine ef_dup_x1 (q := 311) dX6_goes_310 rfl rfl rfl ?_
            refine ef_iconst (v := (1 : Int32)) (q := 312) dX6_goes_311 (by decide) rfl ?_
            refine ef_iadd (q := 313) dX6_goes_312 rfl ?_
            refine ef_putI (q := 316) rfl fl6_292 rfl rfl dX6_goes_313 rfl ?_
            refine ef_aload_n (q := 317) 0 dX6_goes_316 rfl rfl rfl ?_
            refine ef_getI (x := (s.1 0 18) + (1 : Int32)) (q := 320) rfl fl6_289 rfl rfl dX6_goes_317 rfl ?_
            refine ef_guard (fun g5 => ?_)
            refine ef_iastore (j := (s.1 0 25).toNatClampNeg) (q := 321) rfl g5 dX6_goes_320 rfl rfl ?_
            exact ef_vret rfl dX6_goes_321
    · refine ef_aload_n (q := 197) 0 dX6_goes_196 rfl rfl rfl ?_
      refine ef_getR (t := 23) (q := 200) rfl fl6_52 rfl rfl dX6_goes_197 rfl ?_
      refine ef_iload (q := 202) 3 dX6_goes_200 rfl rfl ?_
      refine ef_guard (fun g6 => ?_)
      refine ef_iaload (x := s.1 23 x4.toNatClampNeg) (q := 203) rfl g6 dX6_goes_202 rfl rfl ?_
      refine ef_aload_n (q := 204) 0 dX6_goes_203 rfl rfl rfl ?_
      refine ef_getR (t := 24) (q := 207) rfl fl6_55 rfl rfl dX6_goes_204 rfl ?_
      refine ef_iconst (v := (1 : Int32)) (q := 208) dX6_goes_207 (by decide) rfl ?_
      refine ef_iaload (x := s.1 24 1) (q := 209) rfl (by decide) dX6_goes_208 rfl rfl ?_
      refine ef_isub (q := 210) dX6_goes_209 rfl ?_
      refine ef_istore (lv' := [(5, .int ((s.1 23 x4.toNatClampNeg) - (s.1 24 1))), (0, .ref (pl 0)), (2, .int x2), (3, .int x3), (4, .int x4)]) (q := 212) dX6_goes_210 (by decide) rfl rfl ?_
      refine ef_iload (q := 214) 0 dX6_goes_212 rfl rfl ?_
      refine ef_if (pt := 240) (pf := 217) (fun _ _ => ev_if_le (tgt := 240) dX6_goes_214 (by decide)) (fun h7 => ?_) (fun h7 => ?_)
      · refine ef_sub (lv' := [(0, .ref (pl 0)), (2, .int x2), (3, .int x3), (4, .int x4)]) [1, 2, 3, 4] rfl ?_
        exact okX6_goes_240 (fX6_goes_187 n) ih x2 x3 x4 s
      · refine ef_aload_n (q := 218) 1 dX6_goes_217 rfl rfl rfl ?_
        refine ef_getR (t := 23) (q := 221) rfl fl6_52 rfl rfl dX6_goes_218 rfl ?_
        refine ef_iload (q := 223) 4 dX6_goes_221 rfl rfl ?_
        refine ef_dup2_11 (q := 224) dX6_goes_223 rfl rfl rfl ?_
        refine ef_guard (fun g8 => ?_)
        refine ef_iaload (x := s.1 23 x4.toNatClampNeg) (q := 225) rfl g8 dX6_goes_224 rfl rfl ?_
        refine ef_iload (q := 227) 0 dX6_goes_225 rfl rfl ?_
        refine ef_isub (q := 228) dX6_goes_227 rfl ?_
        refine ef_guard (fun g9 => ?_)
        refine ef_iastore (j := x4.toNatClampNeg) (q := 229) rfl g9 dX6_goes_228 rfl rfl ?_
        refine ef_aload_n (q := 230) 1 dX6_goes_229 rfl rfl rfl ?_
        refine ef_dup (q := 231) dX6_goes_230 rfl rfl ?_
        refine ef_getI (x := s.1 0 19) (q := 234) rfl fl6_283 rfl rfl dX6_goes_231 rfl ?_
        refine ef_iload (q := 236) 0 dX6_goes_234 rfl rfl ?_
        refine ef_iadd (q := 237) dX6_goes_236 rfl ?_
        refine ef_putI (q := 240) rfl fl6_283 rfl rfl dX6_goes_237 rfl ?_
        refine ef_sub (lv' := [(0, .ref (pl 0)), (2, .int x2), (3, .int x3), (4, .int x4)]) [1, 2, 3, 4] rfl ?_
        exact okX6_goes_240 (fX6_goes_187 n) ih x2 x3 x4 (wrI (wrI s 23 x4.toNatClampNeg ((s.1 23 x4.toNatClampNeg) - ((s.1 23 x4.toNatClampNeg) - (s.1 24 1)))) 0 19 ((s.1 0 19) + ((s.1 23 x4.toNatClampNeg) - (s.1 24 1))))
set_option maxRecDepth 100000 in
set_option maxHeartbeats 4000000 in
theorem okX6_goes_164 {G : GG} {pl : Nat → Nat} {h0 : PH} : ∀ (n : Nat) (x2 : Int32) (x3 : Int32) (s : SS), EvF G 2 mX6_goes lyR pl h0 rvU (fX6_goes_164 n x2 x3 s) 164 [(0, .ref (pl 0)), (2, .int x2), (3, .int x3)] [] s := by
  intro n
  induction n with
  | zero => intro x2 x3 s; rw [fX6_goes_164]; exact ef_none
  | succ n ih =>
    intro x2 x3 s
    rw [fX6_goes_164]
    refine ef_iload_n (q := 165) 2 dX6_goes_164 rfl rfl rfl ?_
    refine ef_if (pt := 179) (pf := 168) (fun _ _ => ev_if_lt (tgt := 179) dX6_goes_165 (by decide)) (fun h1 => ?_) (fun h1 => ?_)
    · refine ef_aload_n (q := 180) 0 dX6_goes_179 rfl rfl rfl ?_
      refine ef_getI (x := s.1 0 19) (q := 183) rfl fl6_283 rfl rfl dX6_goes_180 rfl ?_
      refine ef_istore_n (lv' := [(3, .int (s.1 0 19)), (0, .ref (pl 0)), (2, .int x2)]) (q := 184) dX6_goes_183 rfl (by decide) rfl rfl ?_
      refine ef_iconst (v := (0 : Int32)) (q := 185) dX6_goes_184 (by decide) rfl ?_
      refine ef_istore (lv' := [(4, .int (0 : Int32)), (3, .int (s.1 0 19)), (0, .ref (pl 0)), (2, .int x2)]) (q := 187) dX6_goes_185 (by decide) rfl rfl ?_
      refine ef_sub (lv' := [(0, .ref (pl 0)), (2, .int x2), (3, .int (s.1 0 19)), (4, .int (0 : Int32))]) [2, 3, 1, 0] rfl ?_
      exact okX6_goes_187 FU x2 (s.1 0 19) (0 : Int32) s
    · refine ef_aload_n (q := 169) 0 dX6_goes_168 rfl rfl rfl ?_
      refine ef_iload_n (q := 170) 2 dX6_goes_169 rfl rfl rfl ?_
      refine ef_invVU0 (k := 0) (As := [.int x3]) (rest := []) (q := 173) (okX6_runsDown x3) rfl calX6_runsDown ml6_280 (by decide) rfl rfl rfl (Nat.le_of_ble_eq_true rfl) dX6_goes_170 rfl (fun z2 => ?_)
      refine ef_iinc (v := x3 + (-1 : Int32)) (lv' := [(3, .int (x3 + (-1 : Int32))), (0, .ref (pl 0)), (2, .int x2)]) (q := 176) 2 dX6_goes_173 rfl rfl (by decide) rfl rfl ?_
      refine ef_goto (tgt := 164) dX6_goes_176 (by decide) ?_
      refine ef_sub (lv' := [(0, .ref (pl 0)), (2, .int x2), (3, .int (x3 + (-1 : Int32)))]) [1, 2, 0] rfl ?_
      exact ih x2 (x3 + (-1 : Int32)) z2.2
set_option maxRecDepth 100000 in
set_option maxHeartbeats 4000000 in
theorem okX6_goes_138 {G : GG} {pl : Nat → Nat} {h0 : PH} : ∀ (n : Nat) (x2 : Int32) (x3 : Int32) (s : SS), EvF G 2 mX6_goes lyR pl h0 rvU (fX6_goes_138 n x2 x3 s) 138 [(0, .ref (pl 0)), (2, .int x2), (3, .int x3)] [] s := by
  intro n
  induction n with
  | zero => intro x2 x3 s; rw [fX6_goes_138]; exact ef_none
  | succ n ih =>
    intro x2 x3 s
    rw [fX6_goes_138]
    refine ef_iload_n (q := 139) 2 dX6_goes_138 rfl rfl rfl ?_
    refine ef_aload_n (q := 140) 0 dX6_goes_139 rfl rfl rfl ?_
    refine ef_getI (x := s.1 0 10) (q := 143) rfl fl6_93 rfl rfl dX6_goes_140 rfl ?_
    refine ef_if (pt := 157) (pf := 146) (fun _ _ => ev_icmp_ge (tgt := 157) dX6_goes_143 (by decide)) (fun h1 => ?_) (fun h1 => ?_)
    · refine ef_aload_n (q := 158) 0 dX6_goes_157 rfl rfl rfl ?_
      refine ef_getI (x := s.1 0 10) (q := 161) rfl fl6_93 rfl rfl dX6_goes_158 rfl ?_
      refine ef_iconst (v := (1 : Int32)) (q := 162) dX6_goes_161 (by decide) rfl ?_
      refine ef_isub (q := 163) dX6_goes_162 rfl ?_
      refine ef_istore_n (lv' := [(3, .int ((s.1 0 10) - (1 : Int32))), (0, .ref (pl 0)), (2, .int x2)]) (q := 164) dX6_goes_163 rfl (by decide) rfl rfl ?_
      refine ef_sub (lv' := [(0, .ref (pl 0)), (2, .int x2), (3, .int ((s.1 0 10) - (1 : Int32)))]) [1, 2, 0] rfl ?_
      exact okX6_goes_164 FU x2 ((s.1 0 10) - (1 : Int32)) s
    · refine ef_aload_n (q := 147) 0 dX6_goes_146 rfl rfl rfl ?_
      refine ef_iload_n (q := 148) 2 dX6_goes_147 rfl rfl rfl ?_
      refine ef_invVU0 (k := 0) (As := [.int x3]) (rest := []) (q := 151) (okX6_melts x3) rfl calX6_melts ml6_277 (by decide) rfl rfl rfl (Nat.le_of_ble_eq_true rfl) dX6_goes_148 rfl (fun z2 => ?_)
      refine ef_iinc (v := x3 + (1 : Int32)) (lv' := [(3, .int (x3 + (1 : Int32))), (0, .ref (pl 0)), (2, .int x2)]) (q := 154) 2 dX6_goes_151 rfl rfl (by decide) rfl rfl ?_
      refine ef_goto (tgt := 138) dX6_goes_154 (by decide) ?_
      refine ef_sub (lv' := [(0, .ref (pl 0)), (2, .int x2), (3, .int (x3 + (1 : Int32)))]) [1, 2, 0] rfl ?_
      exact ih x2 (x3 + (1 : Int32)) z2.2
set_option maxRecDepth 100000 in
set_option maxHeartbeats 4000000 in
theorem okX6_goes_127 {G : GG} {pl : Nat → Nat} {h0 : PH} (x2 : Int32) (y1 : Int32) (y2 : Int32) (s : SS) : EvF G 2 mX6_goes lyR pl h0 rvU (fX6_goes_127 x2 y1 y2 s) 127 [(0, .ref (pl 0)), (2, .int x2)] [.int y2, .int y1, .ref (pl 0)] s := by
  unfold fX6_goes_127
  refine ef_iadd (q := 128) dX6_goes_127 rfl ?_
  refine ef_aload_n (q := 129) 0 dX6_goes_128 rfl rfl rfl ?_
  refine ef_getI (x := s.1 0 9) (q := 132) rfl fl6_37 rfl rfl dX6_goes_129 rfl ?_
  refine ef_guard (fun g1 => ?_)
  refine ef_irem (q := 133) dX6_goes_132 g1 rfl ?_
  refine ef_putI (q := 136) rfl fl6_126 rfl rfl dX6_goes_133 rfl ?_
  refine ef_iconst (v := (0 : Int32)) (q := 137) dX6_goes_136 (by decide) rfl ?_
  refine ef_istore_n (lv' := [(3, .int (0 : Int32)), (0, .ref (pl 0)), (2, .int x2)]) (q := 138) dX6_goes_137 rfl (by decide) rfl rfl ?_
  refine ef_sub (lv' := [(0, .ref (pl 0)), (2, .int x2), (3, .int (0 : Int32))]) [1, 2, 0] rfl ?_
  exact okX6_goes_138 FU x2 (0 : Int32) (wrI s 0 15 ((y1 + y2) - (y1 + y2) / (s.1 0 9) * (s.1 0 9)))
set_option maxRecDepth 100000 in
set_option maxHeartbeats 4000000 in
theorem okX6_goes_102 {G : GG} {pl : Nat → Nat} {h0 : PH} (x1 : Int32) (x2 : Int32) (s : SS) : EvF G 2 mX6_goes lyR pl h0 rvU (fX6_goes_102 x1 x2 s) 102 [(0, .ref (pl 0)), (1, .int x1), (2, .int x2)] [] s := by
  unfold fX6_goes_102
  refine ef_iload_n (q := 103) 1 dX6_goes_102 rfl rfl rfl ?_
  refine ef_iconst (v := (4 : Int32)) (q := 104) dX6_goes_103 (by decide) rfl ?_
  refine ef_if (pt := 136) (pf := 107) (fun _ _ => ev_icmp_le (tgt := 136) dX6_goes_104 (by decide)) (fun h1 => ?_) (fun h1 => ?_)
  · refine ef_iconst (v := (0 : Int32)) (q := 137) dX6_goes_136 (by decide) rfl ?_
    refine ef_istore_n (lv' := [(3, .int (0 : Int32)), (0, .ref (pl 0)), (1, .int x1), (2, .int x2)]) (q := 138) dX6_goes_137 rfl (by decide) rfl rfl ?_
    refine ef_sub (lv' := [(0, .ref (pl 0)), (2, .int x2), (3, .int (0 : Int32))]) [1, 3, 0] rfl ?_
    exact okX6_goes_138 FU x2 (0 : Int32) s
  · refine ef_aload_n (q := 108) 0 dX6_goes_107 rfl rfl rfl ?_
    refine ef_aload_n (q := 109) 0 dX6_goes_108 rfl rfl rfl ?_
    refine ef_getI (x := s.1 0 15) (q := 112) rfl fl6_126 rfl rfl dX6_goes_109 rfl ?_
    refine ef_iload_n (q := 113) 1 dX6_goes_112 rfl rfl rfl ?_
    refine ef_iconst (v := (5 : Int32)) (q := 114) dX6_goes_113 (by decide) rfl ?_
    refine ef_if (pt := 117) (pf := 121) (fun _ _ kt kf => ev_icmp_ne (tgt := 121) dX6_goes_114 (by decide) kf kt) (fun h2 => ?_) (fun h2 => ?_)
    · refine ef_iconst (v := (1 : Int32)) (q := 118) dX6_goes_117 (by decide) rfl ?_
      refine ef_goto (tgt := 127) dX6_goes_118 (by decide) ?_
      refine ef_sub (lv' := [(0, .ref (pl 0)), (2, .int x2)]) [0, 2] rfl ?_
      exact okX6_goes_127 x2 (s.1 0 15) (1 : Int32) s
    · refine ef_aload_n (q := 122) 0 dX6_goes_121 rfl rfl rfl ?_
      refine ef_getI (x := s.1 0 9) (q := 125) rfl fl6_37 rfl rfl dX6_goes_122 rfl ?_
      refine ef_iconst (v := (1 : Int32)) (q := 126) dX6_goes_125 (by decide) rfl ?_
      refine ef_isub (q := 127) dX6_goes_126 rfl ?_
      refine ef_sub (lv' := [(0, .ref (pl 0)), (2, .int x2)]) [0, 2] rfl ?_
      exact okX6_goes_127 x2 (s.1 0 15) ((s.1 0 9) - (1 : Int32)) s
set_option maxRecDepth 100000 in
set_option maxHeartbeats 4000000 in
theorem okX6_goes_0 {G : GG} {pl : Nat → Nat} {h0 : PH} (x1 : Int32) (x2 : Int32) (s : SS) : EvF G 2 mX6_goes lyR pl h0 rvU (fX6_goes_0 x1 x2 s) 0 [(0, .ref (pl 0)), (1, .int x1), (2, .int x2)] [] s := by
  unfold fX6_goes_0
  refine ef_iload_n (q := 1) 1 dX6_goes_0 rfl rfl rfl ?_
  refine ef_iconst (v := (4 : Int32)) (q := 2) dX6_goes_1 (by decide) rfl ?_
  refine ef_if (pt := 5) (pf := 45) (fun _ _ kt kf => ev_icmp_ne (tgt := 45) dX6_goes_2 (by decide) kf kt) (fun h1 => ?_) (fun h1 => ?_)
  · refine ef_aload_n (q := 6) 0 dX6_goes_5 rfl rfl rfl ?_
    refine ef_aload_n (q := 7) 0 dX6_goes_6 rfl rfl rfl ?_
    refine ef_getR (t := 23) (q := 10) rfl fl6_52 rfl rfl dX6_goes_7 rfl ?_
    refine ef_aload_n (q := 11) 0 dX6_goes_10 rfl rfl rfl ?_
    refine ef_getI (x := s.1 0 15) (q := 14) rfl fl6_126 rfl rfl dX6_goes_11 rfl ?_
    refine ef_guard (fun g2 => ?_)
    refine ef_iaload (x := s.1 23 ((s.1 0 15).toNatClampNeg)) (q := 15) rfl g2 dX6_goes_14 rfl rfl ?_
    refine ef_invVI0 (k := 0) (As := [.int (s.1 23 ((s.1 0 15).toNatClampNeg))]) (rest := []) (q := 18) (okX6_lickedOf (s.1 23 ((s.1 0 15).toNatClampNeg))) rfl calX6_lickedOf ml6_271 (by decide) rfl rfl rfl (Nat.le_of_ble_eq_true rfl) dX6_goes_15 rfl (fun z3 => ?_)
    refine ef_istore_n (lv' := [(3, .int z3.1), (0, .ref (pl 0)), (1, .int x1), (2, .int x2)]) (q := 19) dX6_goes_18 rfl (by decide) rfl rfl ?_
    refine ef_aload_n (q := 20) 1 dX6_goes_19 rfl rfl rfl ?_
    refine ef_getR (t := 23) (q := 23) rfl fl6_52 rfl rfl dX6_goes_20 rfl ?_
    refine ef_aload_n (q := 24) 1 dX6_goes_23 rfl rfl rfl ?_
    refine ef_getI (x := z3.2.1 0 15) (q := 27) rfl fl6_126 rfl rfl dX6_goes_24 rfl ?_
    refine ef_dup2_11 (q := 28) dX6_goes_27 rfl rfl rfl ?_
    refine ef_guard (fun g4 => ?_)
    refine ef_iaload (x := z3.2.1 23 ((z3.2.1 0 15).toNatClampNeg)) (q := 29) rfl g4 dX6_goes_28 rfl rfl ?_
    refine ef_iload_n (q := 30) 0 dX6_goes_29 rfl rfl rfl ?_
    refine ef_isub (q := 31) dX6_goes_30 rfl ?_
    refine ef_guard (fun g5 => ?_)
    refine ef_iastore (j := (z3.2.1 0 15).toNatClampNeg) (q := 32) rfl g5 dX6_goes_31 rfl rfl ?_
    refine ef_aload_n (q := 33) 1 dX6_goes_32 rfl rfl rfl ?_
    refine ef_dup (q := 34) dX6_goes_33 rfl rfl ?_
    refine ef_getI (x := z3.2.1 0 20) (q := 37) rfl fl6_274 rfl rfl dX6_goes_34 rfl ?_
    refine ef_iload_n (q := 38) 0 dX6_goes_37 rfl rfl rfl ?_
    refine ef_iadd (q := 39) dX6_goes_38 rfl ?_
    refine ef_putI (q := 42) rfl fl6_274 rfl rfl dX6_goes_39 rfl ?_
    refine ef_goto (tgt := 136) dX6_goes_42 (by decide) ?_
    refine ef_iconst (v := (0 : Int32)) (q := 137) dX6_goes_136 (by decide) rfl ?_
    refine ef_istore_n (lv' := [(3, .int (0 : Int32)), (0, .ref (pl 0)), (1, .int x1), (2, .int x2)]) (q := 138) dX6_goes_137 rfl (by decide) rfl rfl ?_
    refine ef_sub (lv' := [(0, .ref (pl 0)), (2, .int x2), (3, .int (0 : Int32))]) [1, 3, 0] rfl ?_
    exact okX6_goes_138 FU x2 (0 : Int32) (wrI (wrI z3.2 23 ((z3.2.1 0 15).toNatClampNeg) ((z3.2.1 23 ((z3.2.1 0 15).toNatClampNeg)) - z3.1)) 0 20 ((z3.2.1 0 20) + z3.1))
  · refine ef_iload_n (q := 46) 1 dX6_goes_45 rfl rfl rfl ?_
    refine ef_if (pt := 102) (pf := 49) (fun _ _ => ev_if_le (tgt := 102) dX6_goes_46 (by decide)) (fun h6 => ?_) (fun h6 => ?_)
    · refine ef_sub (lv' := [(0, .ref (pl 0)), (1, .int x1), (2, .int x2)]) [0, 1, 2] rfl ?_
      exact okX6_goes_102 x1 x2 s
    · refine ef_iload_n (q := 50) 1 dX6_goes_49 rfl rfl rfl ?_
      refine ef_iconst (v := (4 : Int32)) (q := 51) dX6_goes_50 (by decide) rfl ?_
      refine ef_if (pt := 102) (pf := 54) (fun _ _ => ev_icmp_ge (tgt := 102) dX6_goes_51 (by decide)) (fun h7 => ?_) (fun h7 => ?_)
      · refine ef_sub (lv' := [(0, .ref (pl 0)), (1, .int x1), (2, .int x2)]) [0, 1, 2] rfl ?_
        exact okX6_goes_102 x1 x2 s
      · refine ef_aload_n (q := 55) 0 dX6_goes_54 rfl rfl rfl ?_
        refine ef_aload_n (q := 56) 0 dX6_goes_55 rfl rfl rfl ?_
        refine ef_getR (t := 19) (q := 59) rfl fl6_49 rfl rfl dX6_goes_56 rfl ?_
        refine ef_iload_n (q := 60) 1 dX6_goes_59 rfl rfl rfl ?_
        refine ef_iconst (v := (1 : Int32)) (q := 61) dX6_goes_60 (by decide) rfl ?_
        refine ef_isub (q := 62) dX6_goes_61 rfl ?_
        refine ef_guard (fun g8 => ?_)
        refine ef_aaload (t0 := 20 + ((x1 - (1 : Int32)).toNatClampNeg)) (q := 63) rfl (by decide) lyR_t19 g8 dX6_goes_62 rfl rfl ?_
        refine ef_aload_n (q := 64) 0 dX6_goes_63 rfl rfl rfl ?_
        refine ef_getI (x := s.1 0 15) (q := 67) rfl fl6_126 rfl rfl dX6_goes_64 rfl ?_
        refine ef_guard (fun g9 => ?_)
        refine ef_iaload (x := s.1 (20 + ((x1 - (1 : Int32)).toNatClampNeg)) ((s.1 0 15).toNatClampNeg)) (q := 68) (lyR_f19_0 _ (ixB_lt g8)) g9 dX6_goes_67 rfl rfl ?_
        refine ef_invVI0 (k := 0) (As := [.int (s.1 (20 + ((x1 - (1 : Int32)).toNatClampNeg)) ((s.1 0 15).toNatClampNeg))]) (rest := []) (q := 71) (okX6_lickedOf (s.1 (20 + ((x1 - (1 : Int32)).toNatClampNeg)) ((s.1 0 15).toNatClampNeg))) rfl calX6_lickedOf ml6_271 (by decide) rfl rfl rfl (Nat.le_of_ble_eq_true rfl) dX6_goes_68 rfl (fun z10 => ?_)
        refine ef_istore_n (lv' := [(3, .int z10.1), (0, .ref (pl 0)), (1, .int x1), (2, .int x2)]) (q := 72) dX6_goes_71 rfl (by decide) rfl rfl ?_
        refine ef_aload_n (q := 73) 1 dX6_goes_72 rfl rfl rfl ?_
        refine ef_getR (t := 19) (q := 76) rfl fl6_49 rfl rfl dX6_goes_73 rfl ?_
        refine ef_iload_n (q := 77) 2 dX6_goes_76 rfl rfl rfl ?_
        refine ef_iconst (v := (1 : Int32)) (q := 78) dX6_goes_77 (by decide) rfl ?_
        refine ef_isub (q := 79) dX6_goes_78 rfl ?_
        refine ef_guard (fun g11 => ?_)
        refine ef_aaload (t0 := 20 + ((x1 - (1 : Int32)).toNatClampNeg)) (q := 80) rfl (by decide) lyR_t19 g11 dX6_goes_79 rfl rfl ?_
        refine ef_aload_n (q := 81) 1 dX6_goes_80 rfl rfl rfl ?_
        refine ef_getI (x := z10.2.1 0 15) (q := 84) rfl fl6_126 rfl rfl dX6_goes_81 rfl ?_
        refine ef_dup2_11 (q := 85) dX6_goes_84 rfl rfl rfl ?_
        refine ef_guard (fun g12 => ?_)
        refine ef_iaload (x := z10.2.1 (20 + ((x1 - (1 : Int32)).toNatClampNeg)) ((z10.2.1 0 15).toNatClampNeg)) (q := 86) (lyR_f19_0 _ (ixB_lt g11)) g12 dX6_goes_85 rfl rfl ?_
        refine ef_iload_n (q := 87) 0 dX6_goes_86 rfl rfl rfl ?_
        refine ef_isub (q := 88) dX6_goes_87 rfl ?_
        refine ef_guard (fun g13 => ?_)
        refine ef_iastore (j := (z10.2.1 0 15).toNatClampNeg) (q := 89) (lyR_f19_0 _ (ixB_lt g11)) g13 dX6_goes_88 rfl rfl ?_
        refine ef_aload_n (q := 90) 1 dX6_goes_89 rfl rfl rfl ?_
        refine ef_dup (q := 91) dX6_goes_90 rfl rfl ?_
        refine ef_getI (x := (wrI z10.2 (20 + ((x1 - (1 : Int32)).toNatClampNeg)) ((z10.2.1 0 15).toNatClampNeg) ((z10.2.1 (20 + ((x1 - (1 : Int32)).toNatClampNeg)) ((z10.2.1 0 15).toNatClampNeg)) - z10.1)).1 0 20) (q := 94) rfl fl6_274 rfl rfl dX6_goes_91 rfl ?_
        refine ef_iload_n (q := 95) 0 dX6_goes_94 rfl rfl rfl ?_
        refine ef_iadd (q := 96) dX6_goes_95 rfl ?_
        refine ef_putI (q := 99) rfl fl6_274 rfl rfl dX6_goes_96 rfl ?_
        refine ef_goto (tgt := 136) dX6_goes_99 (by decide) ?_
        refine ef_iconst (v := (0 : Int32)) (q := 137) dX6_goes_136 (by decide) rfl ?_
        refine ef_istore_n (lv' := [(3, .int (0 : Int32)), (0, .ref (pl 0)), (1, .int x1), (2, .int x2)]) (q := 138) dX6_goes_137 rfl (by decide) rfl rfl ?_
        refine ef_sub (lv' := [(0, .ref (pl 0)), (2, .int x2), (3, .int (0 : Int32))]) [1, 3, 0] rfl ?_
        exact okX6_goes_138 FU x2 (0 : Int32) (wrI (wrI z10.2 (20 + ((x1 - (1 : Int32)).toNatClampNeg)) ((z10.2.1 0 15).toNatClampNeg) ((z10.2.1 (20 + ((x1 - (1 : Int32)).toNatClampNeg)) ((z10.2.1 0 15).toNatClampNeg)) - z10.1)) 0 20 (((wrI z10.2 (20 + ((x1 - (1 : Int32)).toNatClampNeg)) ((z10.2.1 0 15).toNatClampNeg) ((z10.2.1 (20 + ((x1 - (1 : Int32)).toNatClampNeg)) ((z10.2.1 0 15).toNatClampNeg)) - z10.1)).1 0 20) + z10.1))
theorem okX6_goes (x1 : Int32) (x2 : Int32) : MtF 2 mX6_goes lyR rvU (fun _ pl => [.ref (pl 0), .int x1, .int x2]) (fX6_goes x1 x2) := by
  refine MtF.of (by decide +kernel) rfl (fun _ pl => Nat.le_of_ble_eq_true rfl) (fun G pl h0 s => ?_)
  refine ef_sub (lv := [(0, .ref (pl 0)), (1, .int x1), (2, .int x2)]) (lv' := [(0, .ref (pl 0)), (1, .int x1), (2, .int x2)]) [0, 1, 2] rfl ?_
  exact okX6_goes_0  x1 x2 s
-- X6_lickTold
theorem dX6_lickTold_0 : decode cX6_lickTold 0 = .ok (.aload_n 0, 1) := by decide +kernel
theorem dX6_lickTold_1 : decode cX6_lickTold 1 = .ok (.invokevirtual 201, 3) := by decide +kernel
theorem dX6_lickTold_4 : decode cX6_lickTold 4 = .ok (.aload_n 0, 1) := by decide +kernel
theorem dX6_lickTold_5 : decode cX6_lickTold 5 = .ok (.getfield 175, 3) := by decide +kernel
theorem dX6_lickTold_8 : decode cX6_lickTold 8 = .ok (.iconst 2, 1) := by decide +kernel
theorem dX6_lickTold_9 : decode cX6_lickTold 9 = .ok (.if_icmp .ne 15, 3) := by decide +kernel
theorem dX6_lickTold_12 : decode cX6_lickTold 12 = .ok (.aload_n 0, 1) := by decide +kernel
theorem dX6_lickTold_13 : decode cX6_lickTold 13 = .ok (.aload_n 0, 1) := by decide +kernel
theorem dX6_lickTold_14 : decode cX6_lickTold 14 = .ok (.getfield 172, 3) := by decide +kernel
theorem dX6_lickTold_17 : decode cX6_lickTold 17 = .ok (.i2l, 1) := by decide +kernel
theorem dX6_lickTold_18 : decode cX6_lickTold 18 = .ok (.invokevirtual 208, 3) := by decide +kernel
theorem dX6_lickTold_21 : decode cX6_lickTold 21 = .ok (.ifCond .ne 8, 3) := by decide +kernel
theorem dX6_lickTold_24 : decode cX6_lickTold 24 = .ok (.aload_n 0, 1) := by decide +kernel
theorem dX6_lickTold_25 : decode cX6_lickTold 25 = .ok (.invokevirtual 197, 3) := by decide +kernel
theorem dX6_lickTold_28 : decode cX6_lickTold 28 = .ok (.ireturn, 1) := by decide +kernel
theorem dX6_lickTold_29 : decode cX6_lickTold 29 = .ok (.aload_n 0, 1) := by decide +kernel
theorem dX6_lickTold_30 : decode cX6_lickTold 30 = .ok (.aload_n 0, 1) := by decide +kernel
theorem dX6_lickTold_31 : decode cX6_lickTold 31 = .ok (.getfield 172, 3) := by decide +kernel
theorem dX6_lickTold_34 : decode cX6_lickTold 34 = .ok (.iconst 1, 1) := by decide +kernel
theorem dX6_lickTold_35 : decode cX6_lickTold 35 = .ok (.invokevirtual 212, 3) := by decide +kernel
theorem dX6_lickTold_38 : decode cX6_lickTold 38 = .ok (.aload_n 0, 1) := by decide +kernel
theorem dX6_lickTold_39 : decode cX6_lickTold 39 = .ok (.invokevirtual 201, 3) := by decide +kernel
theorem dX6_lickTold_42 : decode cX6_lickTold 42 = .ok (.iconst 1, 1) := by decide +kernel
theorem dX6_lickTold_43 : decode cX6_lickTold 43 = .ok (.ireturn, 1) := by decide +kernel
def fX6_lickTold_24 (s : SS) : Option (Int32 × SS) := ((fX6_wrong s).bind fun z1 => some (nbZ z1.1, z1.2))
def fX6_lickTold_0 (s : SS) : Option (Int32 × SS) := ((fX6_look s).bind fun z1 => if (z1.2.1 0 32) = (2 : Int32) then (((fX6_canAct ((z1.2.1 0 34).toInt64) z1.2).bind fun z3 => if z3.1 = 0 then (fX6_lickTold_24 z3.2) else (((fX6_goes (z3.2.1 0 34) (1 : Int32) z3.2).bind fun z5 => ((fX6_look z5.2).bind fun z6 => some ((1 : Int32), z6.2)))))) else (fX6_lickTold_24 z1.2))
def fX6_lickTold (s : SS) : Option (Int32 × SS) := fX6_lickTold_0 s
set_option maxRecDepth 100000 in
set_option maxHeartbeats 4000000 in
theorem okX6_lickTold_24 {G : GG} {pl : Nat → Nat} {h0 : PH} (s : SS) : EvF G 3 mX6_lickTold lyR pl h0 rvI (fX6_lickTold_24 s) 24 [(0, .ref (pl 0))] [] s := by
  unfold fX6_lickTold_24
  refine ef_aload_n (q := 25) 0 dX6_lickTold_24 rfl rfl rfl ?_
  refine ef_invVI0 (k := 0) (As := []) (rest := []) (q := 28) (okX6_wrong) rfl calX6_wrong ml6_197 (by decide) rfl rfl rfl (Nat.le_of_ble_eq_true rfl) dX6_lickTold_25 rfl (fun z1 => ?_)
  exact ef_zret rfl dX6_lickTold_28
set_option maxRecDepth 100000 in
set_option maxHeartbeats 4000000 in
theorem okX6_lickTold_0 {G : GG} {pl : Nat → Nat} {h0 : PH} (s : SS) : EvF G 3 mX6_lickTold lyR pl h0 rvI (fX6_lickTold_0 s) 0 [(0, .ref (pl 0))] [] s := by
  unfold fX6_lickTold_0
  refine ef_aload_n (q := 1) 0 dX6_lickTold_0 rfl rfl rfl ?_
  refine ef_invVU0 (k := 0) (As := []) (rest := []) (q := 4) (okX6_look) rfl calX6_look ml6_201 (by decide) rfl rfl rfl (Nat.le_of_ble_eq_true rfl) dX6_lickTold_1 rfl (fun z1 => ?_)
  refine ef_aload_n (q := 5) 0 dX6_lickTold_4 rfl rfl rfl ?_
  refine ef_getI (x := z1.2.1 0 32) (q := 8) rfl fl6_175 rfl rfl dX6_lickTold_5 rfl ?_
  refine ef_iconst (v := (2 : Int32)) (q := 9) dX6_lickTold_8 (by decide) rfl ?_
  refine ef_if (pt := 12) (pf := 24) (fun _ _ kt kf => ev_icmp_ne (tgt := 24) dX6_lickTold_9 (by decide) kf kt) (fun h2 => ?_) (fun h2 => ?_)
  · refine ef_aload_n (q := 13) 0 dX6_lickTold_12 rfl rfl rfl ?_
    refine ef_aload_n (q := 14) 0 dX6_lickTold_13 rfl rfl rfl ?_
    refine ef_getI (x := z1.2.1 0 34) (q := 17) rfl fl6_172 rfl rfl dX6_lickTold_14 rfl ?_
    refine ef_i2l (v := (z1.2.1 0 34).toInt64) (q := 18) dX6_lickTold_17 rfl rfl ?_
    refine ef_invVI0 (k := 0) (As := [.long ((z1.2.1 0 34).toInt64)]) (rest := []) (q := 21) (okX6_canAct ((z1.2.1 0 34).toInt64)) rfl calX6_canAct ml6_208 (by decide) rfl rfl rfl (Nat.le_of_ble_eq_true rfl) dX6_lickTold_18 rfl (fun z3 => ?_)
    refine ef_if (pt := 24) (pf := 29) (fun _ _ kt kf => ev_if_ne (tgt := 29) dX6_lickTold_21 (by decide) kf kt) (fun h4 => ?_) (fun h4 => ?_)
    · refine ef_sub (lv' := [(0, .ref (pl 0))]) [0] rfl ?_
      exact okX6_lickTold_24 z3.2
    · refine ef_aload_n (q := 30) 0 dX6_lickTold_29 rfl rfl rfl ?_
      refine ef_aload_n (q := 31) 0 dX6_lickTold_30 rfl rfl rfl ?_
      refine ef_getI (x := z3.2.1 0 34) (q := 34) rfl fl6_172 rfl rfl dX6_lickTold_31 rfl ?_
      refine ef_iconst (v := (1 : Int32)) (q := 35) dX6_lickTold_34 (by decide) rfl ?_
      refine ef_invVU0 (k := 0) (As := [.int (z3.2.1 0 34), .int (1 : Int32)]) (rest := []) (q := 38) (okX6_goes (z3.2.1 0 34) (1 : Int32)) rfl calX6_goes ml6_212 (by decide) rfl rfl rfl (Nat.le_of_ble_eq_true rfl) dX6_lickTold_35 rfl (fun z5 => ?_)
      refine ef_aload_n (q := 39) 0 dX6_lickTold_38 rfl rfl rfl ?_
      refine ef_invVU0 (k := 0) (As := []) (rest := []) (q := 42) (okX6_look) rfl calX6_look ml6_201 (by decide) rfl rfl rfl (Nat.le_of_ble_eq_true rfl) dX6_lickTold_39 rfl (fun z6 => ?_)
      refine ef_iconst (v := (1 : Int32)) (q := 43) dX6_lickTold_42 (by decide) rfl ?_
      exact ef_zretc (x := (1 : Int32)) (by decide) rfl dX6_lickTold_43
  · refine ef_sub (lv' := [(0, .ref (pl 0))]) [0] rfl ?_
    exact okX6_lickTold_24 z1.2
theorem okX6_lickTold : MtF 3 mX6_lickTold lyR rvI (fun _ pl => [.ref (pl 0)]) (fX6_lickTold) := by
  refine MtF.of (by decide +kernel) rfl (fun _ pl => Nat.le_of_ble_eq_true rfl) (fun G pl h0 s => ?_)
  refine ef_sub (lv := [(0, .ref (pl 0))]) (lv' := [(0, .ref (pl 0))]) [0] rfl ?_
  exact okX6_lickTold_0  s
-- X6_statement
theorem dX6_statement_0 : decode cX6_statement 0 = .ok (.aload_n 0, 1) := by decide +kernel
theorem dX6_statement_1 : decode cX6_statement 1 = .ok (.ldc 216, 2) := by decide +kernel
theorem dX6_statement_3 : decode cX6_statement 3 = .ok (.invokevirtual 217, 3) := by decide +kernel
theorem dX6_statement_6 : decode cX6_statement 6 = .ok (.ifCond .eq 34, 3) := by decide +kernel
theorem dX6_statement_9 : decode cX6_statement 9 = .ok (.aload_n 0, 1) := by decide +kernel
theorem dX6_statement_10 : decode cX6_statement 10 = .ok (.getfield 93, 3) := by decide +kernel
theorem dX6_statement_13 : decode cX6_statement 13 = .ok (.ifCond .ne 27, 3) := by decide +kernel
theorem dX6_statement_16 : decode cX6_statement 16 = .ok (.aload_n 0, 1) := by decide +kernel
theorem dX6_statement_17 : decode cX6_statement 17 = .ok (.iconst 3, 1) := by decide +kernel
theorem dX6_statement_18 : decode cX6_statement 18 = .ok (.bipush 8, 2) := by decide +kernel
theorem dX6_statement_20 : decode cX6_statement 20 = .ok (.invokevirtual 221, 3) := by decide +kernel
theorem dX6_statement_23 : decode cX6_statement 23 = .ok (.istore_n 1, 1) := by decide +kernel
theorem dX6_statement_24 : decode cX6_statement 24 = .ok (.iload_n 1, 1) := by decide +kernel
theorem dX6_statement_25 : decode cX6_statement 25 = .ok (.ifCond .eq 13, 3) := by decide +kernel
theorem dX6_statement_28 : decode cX6_statement 28 = .ok (.aload_n 0, 1) := by decide +kernel
theorem dX6_statement_29 : decode cX6_statement 29 = .ok (.aload_n 0, 1) := by decide +kernel
theorem dX6_statement_30 : decode cX6_statement 30 = .ok (.getfield 74, 3) := by decide +kernel
theorem dX6_statement_33 : decode cX6_statement 33 = .ok (.iconst 0, 1) := by decide +kernel
theorem dX6_statement_34 : decode cX6_statement 34 = .ok (.iaload, 1) := by decide +kernel
theorem dX6_statement_35 : decode cX6_statement 35 = .ok (.invokevirtual 136, 3) := by decide +kernel
theorem dX6_statement_38 : decode cX6_statement 38 = .ok (.iload_n 1, 1) := by decide +kernel
theorem dX6_statement_39 : decode cX6_statement 39 = .ok (.ireturn, 1) := by decide +kernel
theorem dX6_statement_40 : decode cX6_statement 40 = .ok (.aload_n 0, 1) := by decide +kernel
theorem dX6_statement_41 : decode cX6_statement 41 = .ok (.ldc 224, 2) := by decide +kernel
theorem dX6_statement_43 : decode cX6_statement 43 = .ok (.invokevirtual 217, 3) := by decide +kernel
theorem dX6_statement_46 : decode cX6_statement 46 = .ok (.ifCond .eq 60, 3) := by decide +kernel
theorem dX6_statement_49 : decode cX6_statement 49 = .ok (.aload_n 0, 1) := by decide +kernel
theorem dX6_statement_50 : decode cX6_statement 50 = .ok (.getfield 93, 3) := by decide +kernel
theorem dX6_statement_53 : decode cX6_statement 53 = .ok (.iconst 3, 1) := by decide +kernel
theorem dX6_statement_54 : decode cX6_statement 54 = .ok (.if_icmp .ge 52, 3) := by decide +kernel
theorem dX6_statement_57 : decode cX6_statement 57 = .ok (.aload_n 0, 1) := by decide +kernel
theorem dX6_statement_58 : decode cX6_statement 58 = .ok (.iconst 0, 1) := by decide +kernel
theorem dX6_statement_59 : decode cX6_statement 59 = .ok (.bipush 9, 2) := by decide +kernel
theorem dX6_statement_61 : decode cX6_statement 61 = .ok (.invokevirtual 221, 3) := by decide +kernel
theorem dX6_statement_64 : decode cX6_statement 64 = .ok (.ifCond .eq 18, 3) := by decide +kernel
theorem dX6_statement_67 : decode cX6_statement 67 = .ok (.aload_n 0, 1) := by decide +kernel
theorem dX6_statement_68 : decode cX6_statement 68 = .ok (.iconst 1, 1) := by decide +kernel
theorem dX6_statement_69 : decode cX6_statement 69 = .ok (.iconst 0, 1) := by decide +kernel
theorem dX6_statement_70 : decode cX6_statement 70 = .ok (.bipush 99, 2) := by decide +kernel
theorem dX6_statement_72 : decode cX6_statement 72 = .ok (.invokevirtual 204, 3) := by decide +kernel
theorem dX6_statement_75 : decode cX6_statement 75 = .ok (.ifCond .eq 7, 3) := by decide +kernel
theorem dX6_statement_78 : decode cX6_statement 78 = .ok (.iconst 1, 1) := by decide +kernel
theorem dX6_statement_79 : decode cX6_statement 79 = .ok (.goto 4, 3) := by decide +kernel
theorem dX6_statement_82 : decode cX6_statement 82 = .ok (.iconst 0, 1) := by decide +kernel
theorem dX6_statement_83 : decode cX6_statement 83 = .ok (.istore_n 1, 1) := by decide +kernel
theorem dX6_statement_84 : decode cX6_statement 84 = .ok (.iload_n 1, 1) := by decide +kernel
theorem dX6_statement_85 : decode cX6_statement 85 = .ok (.ifCond .eq 19, 3) := by decide +kernel
theorem dX6_statement_88 : decode cX6_statement 88 = .ok (.aload_n 0, 1) := by decide +kernel
theorem dX6_statement_89 : decode cX6_statement 89 = .ok (.aload_n 0, 1) := by decide +kernel
theorem dX6_statement_90 : decode cX6_statement 90 = .ok (.getfield 74, 3) := by decide +kernel
theorem dX6_statement_93 : decode cX6_statement 93 = .ok (.iconst 0, 1) := by decide +kernel
theorem dX6_statement_94 : decode cX6_statement 94 = .ok (.iaload, 1) := by decide +kernel
theorem dX6_statement_95 : decode cX6_statement 95 = .ok (.aload_n 0, 1) := by decide +kernel
theorem dX6_statement_96 : decode cX6_statement 96 = .ok (.getfield 74, 3) := by decide +kernel
theorem dX6_statement_99 : decode cX6_statement 99 = .ok (.iconst 1, 1) := by decide +kernel
theorem dX6_statement_100 : decode cX6_statement 100 = .ok (.iaload, 1) := by decide +kernel
theorem dX6_statement_101 : decode cX6_statement 101 = .ok (.invokevirtual 144, 3) := by decide +kernel
theorem dX6_statement_104 : decode cX6_statement 104 = .ok (.iload_n 1, 1) := by decide +kernel
theorem dX6_statement_105 : decode cX6_statement 105 = .ok (.ireturn, 1) := by decide +kernel
theorem dX6_statement_106 : decode cX6_statement 106 = .ok (.aload_n 0, 1) := by decide +kernel
theorem dX6_statement_107 : decode cX6_statement 107 = .ok (.ldc 226, 2) := by decide +kernel
theorem dX6_statement_109 : decode cX6_statement 109 = .ok (.invokevirtual 217, 3) := by decide +kernel
theorem dX6_statement_112 : decode cX6_statement 112 = .ok (.ifCond .eq 8, 3) := by decide +kernel
theorem dX6_statement_115 : decode cX6_statement 115 = .ok (.aload_n 0, 1) := by decide +kernel
theorem dX6_statement_116 : decode cX6_statement 116 = .ok (.invokevirtual 227, 3) := by decide +kernel
theorem dX6_statement_119 : decode cX6_statement 119 = .ok (.ireturn, 1) := by decide +kernel
theorem dX6_statement_120 : decode cX6_statement 120 = .ok (.aload_n 0, 1) := by decide +kernel
theorem dX6_statement_121 : decode cX6_statement 121 = .ok (.ldc 230, 2) := by decide +kernel
theorem dX6_statement_123 : decode cX6_statement 123 = .ok (.invokevirtual 217, 3) := by decide +kernel
theorem dX6_statement_126 : decode cX6_statement 126 = .ok (.ifCond .eq 38, 3) := by decide +kernel
theorem dX6_statement_129 : decode cX6_statement 129 = .ok (.aload_n 0, 1) := by decide +kernel
theorem dX6_statement_130 : decode cX6_statement 130 = .ok (.iconst 0, 1) := by decide +kernel
theorem dX6_statement_131 : decode cX6_statement 131 = .ok (.bipush 20, 2) := by decide +kernel
theorem dX6_statement_133 : decode cX6_statement 133 = .ok (.invokevirtual 221, 3) := by decide +kernel
theorem dX6_statement_136 : decode cX6_statement 136 = .ok (.istore_n 1, 1) := by decide +kernel
theorem dX6_statement_137 : decode cX6_statement 137 = .ok (.aload_n 0, 1) := by decide +kernel
theorem dX6_statement_138 : decode cX6_statement 138 = .ok (.getfield 55, 3) := by decide +kernel
theorem dX6_statement_141 : decode cX6_statement 141 = .ok (.iconst 0, 1) := by decide +kernel
theorem dX6_statement_142 : decode cX6_statement 142 = .ok (.iload_n 1, 1) := by decide +kernel
theorem dX6_statement_143 : decode cX6_statement 143 = .ok (.ifCond .eq 12, 3) := by decide +kernel
theorem dX6_statement_146 : decode cX6_statement 146 = .ok (.aload_n 0, 1) := by decide +kernel
theorem dX6_statement_147 : decode cX6_statement 147 = .ok (.getfield 74, 3) := by decide +kernel
theorem dX6_statement_150 : decode cX6_statement 150 = .ok (.iconst 0, 1) := by decide +kernel
theorem dX6_statement_151 : decode cX6_statement 151 = .ok (.iaload, 1) := by decide +kernel
theorem dX6_statement_152 : decode cX6_statement 152 = .ok (.goto 9, 3) := by decide +kernel
theorem dX6_statement_155 : decode cX6_statement 155 = .ok (.aload_n 0, 1) := by decide +kernel
theorem dX6_statement_156 : decode cX6_statement 156 = .ok (.getfield 55, 3) := by decide +kernel
theorem dX6_statement_159 : decode cX6_statement 159 = .ok (.iconst 0, 1) := by decide +kernel
theorem dX6_statement_160 : decode cX6_statement 160 = .ok (.iaload, 1) := by decide +kernel
theorem dX6_statement_161 : decode cX6_statement 161 = .ok (.iastore, 1) := by decide +kernel
theorem dX6_statement_162 : decode cX6_statement 162 = .ok (.iload_n 1, 1) := by decide +kernel
theorem dX6_statement_163 : decode cX6_statement 163 = .ok (.ireturn, 1) := by decide +kernel
theorem dX6_statement_164 : decode cX6_statement 164 = .ok (.aload_n 0, 1) := by decide +kernel
theorem dX6_statement_165 : decode cX6_statement 165 = .ok (.ldc 232, 2) := by decide +kernel
theorem dX6_statement_167 : decode cX6_statement 167 = .ok (.invokevirtual 217, 3) := by decide +kernel
theorem dX6_statement_170 : decode cX6_statement 170 = .ok (.ifCond .eq 38, 3) := by decide +kernel
theorem dX6_statement_173 : decode cX6_statement 173 = .ok (.aload_n 0, 1) := by decide +kernel
theorem dX6_statement_174 : decode cX6_statement 174 = .ok (.iconst 0, 1) := by decide +kernel
theorem dX6_statement_175 : decode cX6_statement 175 = .ok (.bipush 20, 2) := by decide +kernel
theorem dX6_statement_177 : decode cX6_statement 177 = .ok (.invokevirtual 221, 3) := by decide +kernel
theorem dX6_statement_180 : decode cX6_statement 180 = .ok (.istore_n 1, 1) := by decide +kernel
theorem dX6_statement_181 : decode cX6_statement 181 = .ok (.aload_n 0, 1) := by decide +kernel
theorem dX6_statement_182 : decode cX6_statement 182 = .ok (.getfield 55, 3) := by decide +kernel
theorem dX6_statement_185 : decode cX6_statement 185 = .ok (.iconst 1, 1) := by decide +kernel
theorem dX6_statement_186 : decode cX6_statement 186 = .ok (.iload_n 1, 1) := by decide +kernel
theorem dX6_statement_187 : decode cX6_statement 187 = .ok (.ifCond .eq 12, 3) := by decide +kernel
theorem dX6_statement_190 : decode cX6_statement 190 = .ok (.aload_n 0, 1) := by decide +kernel
theorem dX6_statement_191 : decode cX6_statement 191 = .ok (.getfield 74, 3) := by decide +kernel
theorem dX6_statement_194 : decode cX6_statement 194 = .ok (.iconst 0, 1) := by decide +kernel
theorem dX6_statement_195 : decode cX6_statement 195 = .ok (.iaload, 1) := by decide +kernel
theorem dX6_statement_196 : decode cX6_statement 196 = .ok (.goto 9, 3) := by decide +kernel
theorem dX6_statement_199 : decode cX6_statement 199 = .ok (.aload_n 0, 1) := by decide +kernel
theorem dX6_statement_200 : decode cX6_statement 200 = .ok (.getfield 55, 3) := by decide +kernel
theorem dX6_statement_203 : decode cX6_statement 203 = .ok (.iconst 1, 1) := by decide +kernel
theorem dX6_statement_204 : decode cX6_statement 204 = .ok (.iaload, 1) := by decide +kernel
theorem dX6_statement_205 : decode cX6_statement 205 = .ok (.iastore, 1) := by decide +kernel
theorem dX6_statement_206 : decode cX6_statement 206 = .ok (.iload_n 1, 1) := by decide +kernel
theorem dX6_statement_207 : decode cX6_statement 207 = .ok (.ireturn, 1) := by decide +kernel
theorem dX6_statement_208 : decode cX6_statement 208 = .ok (.aload_n 0, 1) := by decide +kernel
theorem dX6_statement_209 : decode cX6_statement 209 = .ok (.ldc 234, 2) := by decide +kernel
theorem dX6_statement_211 : decode cX6_statement 211 = .ok (.invokevirtual 217, 3) := by decide +kernel
theorem dX6_statement_214 : decode cX6_statement 214 = .ok (.ifCond .eq 59, 3) := by decide +kernel
theorem dX6_statement_217 : decode cX6_statement 217 = .ok (.aload_n 0, 1) := by decide +kernel
theorem dX6_statement_218 : decode cX6_statement 218 = .ok (.getfield 86, 3) := by decide +kernel
theorem dX6_statement_221 : decode cX6_statement 221 = .ok (.iconst 4, 1) := by decide +kernel
theorem dX6_statement_222 : decode cX6_statement 222 = .ok (.if_icmp .ge 51, 3) := by decide +kernel
theorem dX6_statement_225 : decode cX6_statement 225 = .ok (.aload_n 0, 1) := by decide +kernel
theorem dX6_statement_226 : decode cX6_statement 226 = .ok (.iconst 0, 1) := by decide +kernel
theorem dX6_statement_227 : decode cX6_statement 227 = .ok (.iconst 5, 1) := by decide +kernel
theorem dX6_statement_228 : decode cX6_statement 228 = .ok (.invokevirtual 221, 3) := by decide +kernel
theorem dX6_statement_231 : decode cX6_statement 231 = .ok (.ifCond .eq 18, 3) := by decide +kernel
theorem dX6_statement_234 : decode cX6_statement 234 = .ok (.aload_n 0, 1) := by decide +kernel
theorem dX6_statement_235 : decode cX6_statement 235 = .ok (.iconst 1, 1) := by decide +kernel
theorem dX6_statement_236 : decode cX6_statement 236 = .ok (.iconst 0, 1) := by decide +kernel
theorem dX6_statement_237 : decode cX6_statement 237 = .ok (.bipush 9, 2) := by decide +kernel
theorem dX6_statement_239 : decode cX6_statement 239 = .ok (.invokevirtual 204, 3) := by decide +kernel
theorem dX6_statement_242 : decode cX6_statement 242 = .ok (.ifCond .eq 7, 3) := by decide +kernel
theorem dX6_statement_245 : decode cX6_statement 245 = .ok (.iconst 1, 1) := by decide +kernel
theorem dX6_statement_246 : decode cX6_statement 246 = .ok (.goto 4, 3) := by decide +kernel
theorem dX6_statement_249 : decode cX6_statement 249 = .ok (.iconst 0, 1) := by decide +kernel
theorem dX6_statement_250 : decode cX6_statement 250 = .ok (.istore_n 1, 1) := by decide +kernel
theorem dX6_statement_251 : decode cX6_statement 251 = .ok (.iload_n 1, 1) := by decide +kernel
theorem dX6_statement_252 : decode cX6_statement 252 = .ok (.ifCond .eq 19, 3) := by decide +kernel
theorem dX6_statement_255 : decode cX6_statement 255 = .ok (.aload_n 0, 1) := by decide +kernel
theorem dX6_statement_256 : decode cX6_statement 256 = .ok (.aload_n 0, 1) := by decide +kernel
theorem dX6_statement_257 : decode cX6_statement 257 = .ok (.getfield 74, 3) := by decide +kernel
theorem dX6_statement_260 : decode cX6_statement 260 = .ok (.iconst 0, 1) := by decide +kernel
theorem dX6_statement_261 : decode cX6_statement 261 = .ok (.iaload, 1) := by decide +kernel
theorem dX6_statement_262 : decode cX6_statement 262 = .ok (.aload_n 0, 1) := by decide +kernel
theorem dX6_statement_263 : decode cX6_statement 263 = .ok (.getfield 74, 3) := by decide +kernel
theorem dX6_statement_266 : decode cX6_statement 266 = .ok (.iconst 1, 1) := by decide +kernel
theorem dX6_statement_267 : decode cX6_statement 267 = .ok (.iaload, 1) := by decide +kernel
theorem dX6_statement_268 : decode cX6_statement 268 = .ok (.invokevirtual 158, 3) := by decide +kernel
theorem dX6_statement_271 : decode cX6_statement 271 = .ok (.iload_n 1, 1) := by decide +kernel
theorem dX6_statement_272 : decode cX6_statement 272 = .ok (.ireturn, 1) := by decide +kernel
theorem dX6_statement_273 : decode cX6_statement 273 = .ok (.aload_n 0, 1) := by decide +kernel
theorem dX6_statement_274 : decode cX6_statement 274 = .ok (.ldc 236, 2) := by decide +kernel
theorem dX6_statement_276 : decode cX6_statement 276 = .ok (.invokevirtual 217, 3) := by decide +kernel
theorem dX6_statement_279 : decode cX6_statement 279 = .ok (.ifCond .eq 10, 3) := by decide +kernel
theorem dX6_statement_282 : decode cX6_statement 282 = .ok (.aload_n 0, 1) := by decide +kernel
theorem dX6_statement_283 : decode cX6_statement 283 = .ok (.invokevirtual 238, 3) := by decide +kernel
theorem dX6_statement_286 : decode cX6_statement 286 = .ok (.goto 7, 3) := by decide +kernel
theorem dX6_statement_289 : decode cX6_statement 289 = .ok (.aload_n 0, 1) := by decide +kernel
theorem dX6_statement_290 : decode cX6_statement 290 = .ok (.invokevirtual 197, 3) := by decide +kernel
theorem dX6_statement_293 : decode cX6_statement 293 = .ok (.ireturn, 1) := by decide +kernel
def fX6_statement_83 (y0 : Int32) (s : SS) : Option (Int32 × SS) := if y0 = 0 then (some (nbZ y0, s)) else (((fX6_addScoop (s.1 29 0) (s.1 29 1) s).bind fun z2 => some (nbZ y0, z2.2)))
def fX6_statement_82 (s : SS) : Option (Int32 × SS) := fX6_statement_83 (0 : Int32) s
def fX6_statement_161 (x1 : Int32) (y1 : Int32) (y2 : Int32) (s : SS) : Option (Int32 × SS) := if ixB y1 4 then (some (nbZ x1, wrI s 24 y1.toNatClampNeg y2)) else none
def fX6_statement_205 (x1 : Int32) (y1 : Int32) (y2 : Int32) (s : SS) : Option (Int32 × SS) := if ixB y1 4 then (some (nbZ x1, wrI s 24 y1.toNatClampNeg y2)) else none
def fX6_statement_250 (y0 : Int32) (s : SS) : Option (Int32 × SS) := if y0 = 0 then (some (nbZ y0, s)) else (((fX6_addLicker (s.1 29 0) (s.1 29 1) s).bind fun z2 => some (nbZ y0, z2.2)))
def fX6_statement_249 (s : SS) : Option (Int32 × SS) := fX6_statement_250 (0 : Int32) s
def fX6_statement_273 (s : SS) : Option (Int32 × SS) := ((fX6_isWord 6 s).bind fun z1 => if z1.1 = 0 then (((fX6_wrong z1.2).bind fun z3 => some (nbZ z3.1, z3.2))) else (((fX6_lickTold z1.2).bind fun z4 => some (nbZ z4.1, z4.2))))
def fX6_statement_106 (s : SS) : Option (Int32 × SS) := ((fX6_isWord 2 s).bind fun z1 => if z1.1 = 0 then (((fX6_isWord 3 z1.2).bind fun z3 => if z3.1 = 0 then (((fX6_isWord 4 z3.2).bind fun z5 => if z5.1 = 0 then (((fX6_isWord 5 z5.2).bind fun z7 => if z7.1 = 0 then (fX6_statement_273 z7.2) else (if (4 : Int32) ≤ (z7.2.1 0 22) then (fX6_statement_273 z7.2) else (((fX6_tells (0 : Int32) (5 : Int32) z7.2).bind fun z10 => if z10.1 = 0 then (fX6_statement_249 z10.2) else (((fX6_number (1 : Int32) (0 : Int32) (9 : Int32) z10.2).bind fun z12 => if z12.1 = 0 then (fX6_statement_249 z12.2) else (fX6_statement_250 (1 : Int32) z12.2)))))))) else (((fX6_tells (0 : Int32) (20 : Int32) z5.2).bind fun z14 => if z14.1 = 0 then (fX6_statement_205 z14.1 (1 : Int32) (z14.2.1 24 1) z14.2) else (fX6_statement_205 z14.1 (1 : Int32) (z14.2.1 29 0) z14.2))))) else (((fX6_tells (0 : Int32) (20 : Int32) z3.2).bind fun z16 => if z16.1 = 0 then (fX6_statement_161 z16.1 (0 : Int32) (z16.2.1 24 0) z16.2) else (fX6_statement_161 z16.1 (0 : Int32) (z16.2.1 29 0) z16.2))))) else (((fX6_sunTold z1.2).bind fun z18 => some (nbZ z18.1, z18.2))))
def fX6_statement_40 (s : SS) : Option (Int32 × SS) := ((fX6_isWord 1 s).bind fun z1 => if z1.1 = 0 then (fX6_statement_106 z1.2) else (if (3 : Int32) ≤ (z1.2.1 0 10) then (fX6_statement_106 z1.2) else (((fX6_tells (0 : Int32) (9 : Int32) z1.2).bind fun z4 => if z4.1 = 0 then (fX6_statement_82 z4.2) else (((fX6_number (1 : Int32) (0 : Int32) (99 : Int32) z4.2).bind fun z6 => if z6.1 = 0 then (fX6_statement_82 z6.2) else (fX6_statement_83 (1 : Int32) z6.2)))))))
def fX6_statement_0 (s : SS) : Option (Int32 × SS) := ((fX6_isWord 0 s).bind fun z1 => if z1.1 = 0 then (fX6_statement_40 z1.2) else (if (z1.2.1 0 10) = 0 then (((fX6_tells (3 : Int32) (8 : Int32) z1.2).bind fun z4 => if z4.1 = 0 then (some (nbZ z4.1, z4.2)) else (((fX6_becomeSides (z4.2.1 29 0) z4.2).bind fun z6 => some (nbZ z4.1, z6.2))))) else (fX6_statement_40 z1.2)))
def fX6_statement (s : SS) : Option (Int32 × SS) := fX6_statement_0 s
set_option maxRecDepth 100000 in
set_option maxHeartbeats 4000000 in
theorem okX6_statement_83 {G : GG} {pl : Nat → Nat} {h0 : PH} (y0 : Int32) (s : SS) : EvF G 5 mX6_statement lyR pl h0 rvI (fX6_statement_83 y0 s) 83 [(0, .ref (pl 0))] [.int y0] s := by
  unfold fX6_statement_83
  refine ef_istore_n (lv' := [(1, .int y0), (0, .ref (pl 0))]) (q := 84) dX6_statement_83 rfl (by decide) rfl rfl ?_
  refine ef_iload_n (q := 85) 0 dX6_statement_84 rfl rfl rfl ?_
  refine ef_if (pt := 104) (pf := 88) (fun _ _ => ev_if_eq (tgt := 104) dX6_statement_85 (by decide)) (fun h1 => ?_) (fun h1 => ?_)
  · refine ef_iload_n (q := 105) 0 dX6_statement_104 rfl rfl rfl ?_
    exact ef_zret rfl dX6_statement_105
  · refine ef_aload_n (q := 89) 1 dX6_statement_88 rfl rfl rfl ?_
    refine ef_aload_n (q := 90) 1 dX6_statement_89 rfl rfl rfl ?_
    refine ef_getR (t := 29) (q := 93) rfl fl6_74 rfl rfl dX6_statement_90 rfl ?_
    refine ef_iconst (v := (0 : Int32)) (q := 94) dX6_statement_93 (by decide) rfl ?_
    refine ef_iaload (x := s.1 29 0) (q := 95) rfl (by decide) dX6_statement_94 rfl rfl ?_
    refine ef_aload_n (q := 96) 1 dX6_statement_95 rfl rfl rfl ?_
    refine ef_getR (t := 29) (q := 99) rfl fl6_74 rfl rfl dX6_statement_96 rfl ?_
    refine ef_iconst (v := (1 : Int32)) (q := 100) dX6_statement_99 (by decide) rfl ?_
    refine ef_iaload (x := s.1 29 1) (q := 101) rfl (by decide) dX6_statement_100 rfl rfl ?_
    refine ef_invVU0 (k := 0) (As := [.int (s.1 29 0), .int (s.1 29 1)]) (rest := []) (q := 104) (okX6_addScoop (s.1 29 0) (s.1 29 1)) rfl calX6_addScoop ml6_144 (by decide) rfl rfl rfl (Nat.le_of_ble_eq_true rfl) dX6_statement_101 rfl (fun z2 => ?_)
    refine ef_iload_n (q := 105) 0 dX6_statement_104 rfl rfl rfl ?_
    exact ef_zret rfl dX6_statement_105
set_option maxRecDepth 100000 in
set_option maxHeartbeats 4000000 in
theorem okX6_statement_82 {G : GG} {pl : Nat → Nat} {h0 : PH} (s : SS) : EvF G 5 mX6_statement lyR pl h0 rvI (fX6_statement_82 s) 82 [(0, .ref (pl 0))] [] s := by
  unfold fX6_statement_82
  refine ef_iconst (v := (0 : Int32)) (q := 83) dX6_statement_82 (by decide) rfl ?_
  refine ef_sub (lv' := [(0, .ref (pl 0))]) [0] rfl ?_
  exact okX6_statement_83 (0 : Int32) s
set_option maxRecDepth 100000 in
set_option maxHeartbeats 4000000 in
theorem okX6_statement_161 {G : GG} {pl : Nat → Nat} {h0 : PH} (x1 : Int32) (y1 : Int32) (y2 : Int32) (s : SS) : EvF G 5 mX6_statement lyR pl h0 rvI (fX6_statement_161 x1 y1 y2 s) 161 [(1, .int x1)] [.int y2, .int y1, .ref (pl 24)] s := by
  unfold fX6_statement_161
  refine ef_guard (fun g1 => ?_)
  refine ef_iastore (j := y1.toNatClampNeg) (q := 162) rfl g1 dX6_statement_161 rfl rfl ?_
  refine ef_iload_n (q := 163) 0 dX6_statement_162 rfl rfl rfl ?_
  exact ef_zret rfl dX6_statement_163
set_option maxRecDepth 100000 in
set_option maxHeartbeats 4000000 in
theorem okX6_statement_205 {G : GG} {pl : Nat → Nat} {h0 : PH} (x1 : Int32) (y1 : Int32) (y2 : Int32) (s : SS) : EvF G 5 mX6_statement lyR pl h0 rvI (fX6_statement_205 x1 y1 y2 s) 205 [(1, .int x1)] [.int y2, .int y1, .ref (pl 24)] s := by
  unfold fX6_statement_205
  refine ef_guard (fun g1 => ?_)
  refine ef_iastore (j := y1.toNatClampNeg) (q := 206) rfl g1 dX6_statement_205 rfl rfl ?_
  refine ef_iload_n (q := 207) 0 dX6_statement_206 rfl rfl rfl ?_
  exact ef_zret rfl dX6_statement_207
set_option maxRecDepth 100000 in
set_option maxHeartbeats 4000000 in
theorem okX6_statement_250 {G : GG} {pl : Nat → Nat} {h0 : PH} (y0 : Int32) (s : SS) : EvF G 5 mX6_statement lyR pl h0 rvI (fX6_statement_250 y0 s) 250 [(0, .ref (pl 0))] [.int y0] s := by
  unfold fX6_statement_250
  refine ef_istore_n (lv' := [(1, .int y0), (0, .ref (pl 0))]) (q := 251) dX6_statement_250 rfl (by decide) rfl rfl ?_
  refine ef_iload_n (q := 252) 0 dX6_statement_251 rfl rfl rfl ?_
  refine ef_if (pt := 271) (pf := 255) (fun _ _ => ev_if_eq (tgt := 271) dX6_statement_252 (by decide)) (fun h1 => ?_) (fun h1 => ?_)
  · refine ef_iload_n (q := 272) 0 dX6_statement_271 rfl rfl rfl ?_
    exact ef_zret rfl dX6_statement_272
  · refine ef_aload_n (q := 256) 1 dX6_statement_255 rfl rfl rfl ?_
    refine ef_aload_n (q := 257) 1 dX6_statement_256 rfl rfl rfl ?_
    refine ef_getR (t := 29) (q := 260) rfl fl6_74 rfl rfl dX6_statement_257 rfl ?_
    refine ef_iconst (v := (0 : Int32)) (q := 261) dX6_statement_260 (by decide) rfl ?_
    refine ef_iaload (x := s.1 29 0) (q := 262) rfl (by decide) dX6_statement_261 rfl rfl ?_
    refine ef_aload_n (q := 263) 1 dX6_statement_262 rfl rfl rfl ?_
    refine ef_getR (t := 29) (q := 266) rfl fl6_74 rfl rfl dX6_statement_263 rfl ?_
    refine ef_iconst (v := (1 : Int32)) (q := 267) dX6_statement_266 (by decide) rfl ?_
    refine ef_iaload (x := s.1 29 1) (q := 268) rfl (by decide) dX6_statement_267 rfl rfl ?_
    refine ef_invVU0 (k := 0) (As := [.int (s.1 29 0), .int (s.1 29 1)]) (rest := []) (q := 271) (okX6_addLicker (s.1 29 0) (s.1 29 1)) rfl calX6_addLicker ml6_158 (by decide) rfl rfl rfl (Nat.le_of_ble_eq_true rfl) dX6_statement_268 rfl (fun z2 => ?_)
    refine ef_iload_n (q := 272) 0 dX6_statement_271 rfl rfl rfl ?_
    exact ef_zret rfl dX6_statement_272
set_option maxRecDepth 100000 in
set_option maxHeartbeats 4000000 in
theorem okX6_statement_249 {G : GG} {pl : Nat → Nat} {h0 : PH} (s : SS) : EvF G 5 mX6_statement lyR pl h0 rvI (fX6_statement_249 s) 249 [(0, .ref (pl 0))] [] s := by
  unfold fX6_statement_249
  refine ef_iconst (v := (0 : Int32)) (q := 250) dX6_statement_249 (by decide) rfl ?_
  refine ef_sub (lv' := [(0, .ref (pl 0))]) [0] rfl ?_
  exact okX6_statement_250 (0 : Int32) s
set_option maxRecDepth 100000 in
set_option maxHeartbeats 4000000 in
theorem okX6_statement_273 {G : GG} {pl : Nat → Nat} {h0 : PH} (s : SS) : EvF G 5 mX6_statement lyR pl h0 rvI (fX6_statement_273 s) 273 [(0, .ref (pl 0))] [] s := by
  unfold fX6_statement_273
  refine ef_aload_n (q := 274) 0 dX6_statement_273 rfl rfl rfl ?_
  refine ef_ldcS (i := 13) (q := 276) (by decide) rfl rfl dX6_statement_274 rfl ?_
  refine ef_invVI0 (k := 0) (As := [.ref (G.2.2.2.1 6)]) (rest := []) (q := 279) (okX6_isWord 6) rfl calX6_isWord ml6_217 (by decide) rfl rfl rfl (Nat.le_of_ble_eq_true rfl) dX6_statement_276 rfl (fun z1 => ?_)
  refine ef_if (pt := 289) (pf := 282) (fun _ _ => ev_if_eq (tgt := 289) dX6_statement_279 (by decide)) (fun h2 => ?_) (fun h2 => ?_)
  · refine ef_aload_n (q := 290) 0 dX6_statement_289 rfl rfl rfl ?_
    refine ef_invVI0 (k := 0) (As := []) (rest := []) (q := 293) (okX6_wrong) rfl calX6_wrong ml6_197 (by decide) rfl rfl rfl (Nat.le_of_ble_eq_true rfl) dX6_statement_290 rfl (fun z3 => ?_)
    exact ef_zret rfl dX6_statement_293
  · refine ef_aload_n (q := 283) 0 dX6_statement_282 rfl rfl rfl ?_
    refine ef_invVI0 (k := 0) (As := []) (rest := []) (q := 286) (okX6_lickTold) rfl calX6_lickTold ml6_238 (by decide) rfl rfl rfl (Nat.le_of_ble_eq_true rfl) dX6_statement_283 rfl (fun z4 => ?_)
    refine ef_goto (tgt := 293) dX6_statement_286 (by decide) ?_
    exact ef_zret rfl dX6_statement_293
set_option maxRecDepth 100000 in
set_option maxHeartbeats 4000000 in
theorem okX6_statement_106 {G : GG} {pl : Nat → Nat} {h0 : PH} (s : SS) : EvF G 5 mX6_statement lyR pl h0 rvI (fX6_statement_106 s) 106 [(0, .ref (pl 0))] [] s := by
  unfold fX6_statement_106
  refine ef_aload_n (q := 107) 0 dX6_statement_106 rfl rfl rfl ?_
  refine ef_ldcS (i := 9) (q := 109) (by decide) rfl rfl dX6_statement_107 rfl ?_
  refine ef_invVI0 (k := 0) (As := [.ref (G.2.2.2.1 2)]) (rest := []) (q := 112) (okX6_isWord 2) rfl calX6_isWord ml6_217 (by decide) rfl rfl rfl (Nat.le_of_ble_eq_true rfl) dX6_statement_109 rfl (fun z1 => ?_)
  refine ef_if (pt := 120) (pf := 115) (fun _ _ => ev_if_eq (tgt := 120) dX6_statement_112 (by decide)) (fun h2 => ?_) (fun h2 => ?_)
  · refine ef_aload_n (q := 121) 0 dX6_statement_120 rfl rfl rfl ?_
    refine ef_ldcS (i := 10) (q := 123) (by decide) rfl rfl dX6_statement_121 rfl ?_
    refine ef_invVI0 (k := 0) (As := [.ref (G.2.2.2.1 3)]) (rest := []) (q := 126) (okX6_isWord 3) rfl calX6_isWord ml6_217 (by decide) rfl rfl rfl (Nat.le_of_ble_eq_true rfl) dX6_statement_123 rfl (fun z3 => ?_)
    refine ef_if (pt := 164) (pf := 129) (fun _ _ => ev_if_eq (tgt := 164) dX6_statement_126 (by decide)) (fun h4 => ?_) (fun h4 => ?_)
    · refine ef_aload_n (q := 165) 0 dX6_statement_164 rfl rfl rfl ?_
      refine ef_ldcS (i := 11) (q := 167) (by decide) rfl rfl dX6_statement_165 rfl ?_
      refine ef_invVI0 (k := 0) (As := [.ref (G.2.2.2.1 4)]) (rest := []) (q := 170) (okX6_isWord 4) rfl calX6_isWord ml6_217 (by decide) rfl rfl rfl (Nat.le_of_ble_eq_true rfl) dX6_statement_167 rfl (fun z5 => ?_)
      refine ef_if (pt := 208) (pf := 173) (fun _ _ => ev_if_eq (tgt := 208) dX6_statement_170 (by decide)) (fun h6 => ?_) (fun h6 => ?_)
      · refine ef_aload_n (q := 209) 0 dX6_statement_208 rfl rfl rfl ?_
        refine ef_ldcS (i := 12) (q := 211) (by decide) rfl rfl dX6_statement_209 rfl ?_
        refine ef_invVI0 (k := 0) (As := [.ref (G.2.2.2.1 5)]) (rest := []) (q := 214) (okX6_isWord 5) rfl calX6_isWord ml6_217 (by decide) rfl rfl rfl (Nat.le_of_ble_eq_true rfl) dX6_statement_211 rfl (fun z7 => ?_)
        refine ef_if (pt := 273) (pf := 217) (fun _ _ => ev_if_eq (tgt := 273) dX6_statement_214 (by decide)) (fun h8 => ?_) (fun h8 => ?_)
        · refine ef_sub (lv' := [(0, .ref (pl 0))]) [0] rfl ?_
          exact okX6_statement_273 z7.2
        · refine ef_aload_n (q := 218) 0 dX6_statement_217 rfl rfl rfl ?_
          refine ef_getI (x := z7.2.1 0 22) (q := 221) rfl fl6_86 rfl rfl dX6_statement_218 rfl ?_
          refine ef_iconst (v := (4 : Int32)) (q := 222) dX6_statement_221 (by decide) rfl ?_
          refine ef_if (pt := 273) (pf := 225) (fun _ _ => ev_icmp_ge (tgt := 273) dX6_statement_222 (by decide)) (fun h9 => ?_) (fun h9 => ?_)
          · refine ef_sub (lv' := [(0, .ref (pl 0))]) [0] rfl ?_
            exact okX6_statement_273 z7.2
          · refine ef_aload_n (q := 226) 0 dX6_statement_225 rfl rfl rfl ?_
            refine ef_iconst (v := (0 : Int32)) (q := 227) dX6_statement_226 (by decide) rfl ?_
            refine ef_iconst (v := (5 : Int32)) (q := 228) dX6_statement_227 (by decide) rfl ?_
            refine ef_invVI0 (k := 0) (As := [.int (0 : Int32), .int (5 : Int32)]) (rest := []) (q := 231) (okX6_tells (0 : Int32) (5 : Int32)) rfl calX6_tells ml6_221 (by decide) rfl rfl rfl (Nat.le_of_ble_eq_true rfl) dX6_statement_228 rfl (fun z10 => ?_)
            refine ef_if (pt := 249) (pf := 234) (fun _ _ => ev_if_eq (tgt := 249) dX6_statement_231 (by decide)) (fun h11 => ?_) (fun h11 => ?_)
            · refine ef_sub (lv' := [(0, .ref (pl 0))]) [0] rfl ?_
              exact okX6_statement_249 z10.2
            · refine ef_aload_n (q := 235) 0 dX6_statement_234 rfl rfl rfl ?_
              refine ef_iconst (v := (1 : Int32)) (q := 236) dX6_statement_235 (by decide) rfl ?_
              refine ef_iconst (v := (0 : Int32)) (q := 237) dX6_statement_236 (by decide) rfl ?_
              refine ef_bipush (v := (9 : Int32)) (q := 239) dX6_statement_237 (by decide) rfl ?_
              refine ef_invVI0 (k := 0) (As := [.int (1 : Int32), .int (0 : Int32), .int (9 : Int32)]) (rest := []) (q := 242) (okX6_number (1 : Int32) (0 : Int32) (9 : Int32)) rfl calX6_number ml6_204 (by decide) rfl rfl rfl (Nat.le_of_ble_eq_true rfl) dX6_statement_239 rfl (fun z12 => ?_)
              refine ef_if (pt := 249) (pf := 245) (fun _ _ => ev_if_eq (tgt := 249) dX6_statement_242 (by decide)) (fun h13 => ?_) (fun h13 => ?_)
              · refine ef_sub (lv' := [(0, .ref (pl 0))]) [0] rfl ?_
                exact okX6_statement_249 z12.2
              · refine ef_iconst (v := (1 : Int32)) (q := 246) dX6_statement_245 (by decide) rfl ?_
                refine ef_goto (tgt := 250) dX6_statement_246 (by decide) ?_
                refine ef_sub (lv' := [(0, .ref (pl 0))]) [0] rfl ?_
                exact okX6_statement_250 (1 : Int32) z12.2
      · refine ef_aload_n (q := 174) 0 dX6_statement_173 rfl rfl rfl ?_
        refine ef_iconst (v := (0 : Int32)) (q := 175) dX6_statement_174 (by decide) rfl ?_
        refine ef_bipush (v := (20 : Int32)) (q := 177) dX6_statement_175 (by decide) rfl ?_
        refine ef_invVI0 (k := 0) (As := [.int (0 : Int32), .int (20 : Int32)]) (rest := []) (q := 180) (okX6_tells (0 : Int32) (20 : Int32)) rfl calX6_tells ml6_221 (by decide) rfl rfl rfl (Nat.le_of_ble_eq_true rfl) dX6_statement_177 rfl (fun z14 => ?_)
        refine ef_istore_n (lv' := [(1, .int z14.1), (0, .ref (pl 0))]) (q := 181) dX6_statement_180 rfl (by decide) rfl rfl ?_
        refine ef_aload_n (q := 182) 1 dX6_statement_181 rfl rfl rfl ?_
        refine ef_getR (t := 24) (q := 185) rfl fl6_55 rfl rfl dX6_statement_182 rfl ?_
        refine ef_iconst (v := (1 : Int32)) (q := 186) dX6_statement_185 (by decide) rfl ?_
        refine ef_iload_n (q := 187) 0 dX6_statement_186 rfl rfl rfl ?_
        refine ef_if (pt := 199) (pf := 190) (fun _ _ => ev_if_eq (tgt := 199) dX6_statement_187 (by decide)) (fun h15 => ?_) (fun h15 => ?_)
        · refine ef_aload_n (q := 200) 1 dX6_statement_199 rfl rfl rfl ?_
          refine ef_getR (t := 24) (q := 203) rfl fl6_55 rfl rfl dX6_statement_200 rfl ?_
          refine ef_iconst (v := (1 : Int32)) (q := 204) dX6_statement_203 (by decide) rfl ?_
          refine ef_iaload (x := z14.2.1 24 1) (q := 205) rfl (by decide) dX6_statement_204 rfl rfl ?_
          refine ef_sub (lv' := [(1, .int z14.1)]) [0] rfl ?_
          exact okX6_statement_205 z14.1 (1 : Int32) (z14.2.1 24 1) z14.2
        · refine ef_aload_n (q := 191) 1 dX6_statement_190 rfl rfl rfl ?_
          refine ef_getR (t := 29) (q := 194) rfl fl6_74 rfl rfl dX6_statement_191 rfl ?_
          refine ef_iconst (v := (0 : Int32)) (q := 195) dX6_statement_194 (by decide) rfl ?_
          refine ef_iaload (x := z14.2.1 29 0) (q := 196) rfl (by decide) dX6_statement_195 rfl rfl ?_
          refine ef_goto (tgt := 205) dX6_statement_196 (by decide) ?_
          refine ef_sub (lv' := [(1, .int z14.1)]) [0] rfl ?_
          exact okX6_statement_205 z14.1 (1 : Int32) (z14.2.1 29 0) z14.2
    · refine ef_aload_n (q := 130) 0 dX6_statement_129 rfl rfl rfl ?_
      refine ef_iconst (v := (0 : Int32)) (q := 131) dX6_statement_130 (by decide) rfl ?_
      refine ef_bipush (v := (20 : Int32)) (q := 133) dX6_statement_131 (by decide) rfl ?_
      refine ef_invVI0 (k := 0) (As := [.int (0 : Int32), .int (20 : Int32)]) (rest := []) (q := 136) (okX6_tells (0 : Int32) (20 : Int32)) rfl calX6_tells ml6_221 (by decide) rfl rfl rfl (Nat.le_of_ble_eq_true rfl) dX6_statement_133 rfl (fun z16 => ?_)
      refine ef_istore_n (lv' := [(1, .int z16.1), (0, .ref (pl 0))]) (q := 137) dX6_statement_136 rfl (by decide) rfl rfl ?_
      refine ef_aload_n (q := 138) 1 dX6_statement_137 rfl rfl rfl ?_
      refine ef_getR (t := 24) (q := 141) rfl fl6_55 rfl rfl dX6_statement_138 rfl ?_
      refine ef_iconst (v := (0 : Int32)) (q := 142) dX6_statement_141 (by decide) rfl ?_
      refine ef_iload_n (q := 143) 0 dX6_statement_142 rfl rfl rfl ?_
      refine ef_if (pt := 155) (pf := 146) (fun _ _ => ev_if_eq (tgt := 155) dX6_statement_143 (by decide)) (fun h17 => ?_) (fun h17 => ?_)
      · refine ef_aload_n (q := 156) 1 dX6_statement_155 rfl rfl rfl ?_
        refine ef_getR (t := 24) (q := 159) rfl fl6_55 rfl rfl dX6_statement_156 rfl ?_
        refine ef_iconst (v := (0 : Int32)) (q := 160) dX6_statement_159 (by decide) rfl ?_
        refine ef_iaload (x := z16.2.1 24 0) (q := 161) rfl (by decide) dX6_statement_160 rfl rfl ?_
        refine ef_sub (lv' := [(1, .int z16.1)]) [0] rfl ?_
        exact okX6_statement_161 z16.1 (0 : Int32) (z16.2.1 24 0) z16.2
      · refine ef_aload_n (q := 147) 1 dX6_statement_146 rfl rfl rfl ?_
        refine ef_getR (t := 29) (q := 150) rfl fl6_74 rfl rfl dX6_statement_147 rfl ?_
        refine ef_iconst (v := (0 : Int32)) (q := 151) dX6_statement_150 (by decide) rfl ?_
        refine ef_iaload (x := z16.2.1 29 0) (q := 152) rfl (by decide) dX6_statement_151 rfl rfl ?_
        refine ef_goto (tgt := 161) dX6_statement_152 (by decide) ?_
        refine ef_sub (lv' := [(1, .int z16.1)]) [0] rfl ?_
        exact okX6_statement_161 z16.1 (0 : Int32) (z16.2.1 29 0) z16.2
  · refine ef_aload_n (q := 116) 0 dX6_statement_115 rfl rfl rfl ?_
    refine ef_invVI0 (k := 0) (As := []) (rest := []) (q := 119) (okX6_sunTold) rfl calX6_sunTold ml6_227 (by decide) rfl rfl rfl (Nat.le_of_ble_eq_true rfl) dX6_statement_116 rfl (fun z18 => ?_)
    exact ef_zret rfl dX6_statement_119
set_option maxRecDepth 100000 in
set_option maxHeartbeats 4000000 in
theorem okX6_statement_40 {G : GG} {pl : Nat → Nat} {h0 : PH} (s : SS) : EvF G 5 mX6_statement lyR pl h0 rvI (fX6_statement_40 s) 40 [(0, .ref (pl 0))] [] s := by
  unfold fX6_statement_40
  refine ef_aload_n (q := 41) 0 dX6_statement_40 rfl rfl rfl ?_
  refine ef_ldcS (i := 8) (q := 43) (by decide) rfl rfl dX6_statement_41 rfl ?_
  refine ef_invVI0 (k := 0) (As := [.ref (G.2.2.2.1 1)]) (rest := []) (q := 46) (okX6_isWord 1) rfl calX6_isWord ml6_217 (by decide) rfl rfl rfl (Nat.le_of_ble_eq_true rfl) dX6_statement_43 rfl (fun z1 => ?_)
  refine ef_if (pt := 106) (pf := 49) (fun _ _ => ev_if_eq (tgt := 106) dX6_statement_46 (by decide)) (fun h2 => ?_) (fun h2 => ?_)
  · refine ef_sub (lv' := [(0, .ref (pl 0))]) [0] rfl ?_
    exact okX6_statement_106 z1.2
  · refine ef_aload_n (q := 50) 0 dX6_statement_49 rfl rfl rfl ?_
    refine ef_getI (x := z1.2.1 0 10) (q := 53) rfl fl6_93 rfl rfl dX6_statement_50 rfl ?_
    refine ef_iconst (v := (3 : Int32)) (q := 54) dX6_statement_53 (by decide) rfl ?_
    refine ef_if (pt := 106) (pf := 57) (fun _ _ => ev_icmp_ge (tgt := 106) dX6_statement_54 (by decide)) (fun h3 => ?_) (fun h3 => ?_)
    · refine ef_sub (lv' := [(0, .ref (pl 0))]) [0] rfl ?_
      exact okX6_statement_106 z1.2
    · refine ef_aload_n (q := 58) 0 dX6_statement_57 rfl rfl rfl ?_
      refine ef_iconst (v := (0 : Int32)) (q := 59) dX6_statement_58 (by decide) rfl ?_
      refine ef_bipush (v := (9 : Int32)) (q := 61) dX6_statement_59 (by decide) rfl ?_
      refine ef_invVI0 (k := 0) (As := [.int (0 : Int32), .int (9 : Int32)]) (rest := []) (q := 64) (okX6_tells (0 : Int32) (9 : Int32)) rfl calX6_tells ml6_221 (by decide) rfl rfl rfl (Nat.le_of_ble_eq_true rfl) dX6_statement_61 rfl (fun z4 => ?_)
      refine ef_if (pt := 82) (pf := 67) (fun _ _ => ev_if_eq (tgt := 82) dX6_statement_64 (by decide)) (fun h5 => ?_) (fun h5 => ?_)
      · refine ef_sub (lv' := [(0, .ref (pl 0))]) [0] rfl ?_
        exact okX6_statement_82 z4.2
      · refine ef_aload_n (q := 68) 0 dX6_statement_67 rfl rfl rfl ?_
        refine ef_iconst (v := (1 : Int32)) (q := 69) dX6_statement_68 (by decide) rfl ?_
        refine ef_iconst (v := (0 : Int32)) (q := 70) dX6_statement_69 (by decide) rfl ?_
        refine ef_bipush (v := (99 : Int32)) (q := 72) dX6_statement_70 (by decide) rfl ?_
        refine ef_invVI0 (k := 0) (As := [.int (1 : Int32), .int (0 : Int32), .int (99 : Int32)]) (rest := []) (q := 75) (okX6_number (1 : Int32) (0 : Int32) (99 : Int32)) rfl calX6_number ml6_204 (by decide) rfl rfl rfl (Nat.le_of_ble_eq_true rfl) dX6_statement_72 rfl (fun z6 => ?_)
        refine ef_if (pt := 82) (pf := 78) (fun _ _ => ev_if_eq (tgt := 82) dX6_statement_75 (by decide)) (fun h7 => ?_) (fun h7 => ?_)
        · refine ef_sub (lv' := [(0, .ref (pl 0))]) [0] rfl ?_
          exact okX6_statement_82 z6.2
        · refine ef_iconst (v := (1 : Int32)) (q := 79) dX6_statement_78 (by decide) rfl ?_
          refine ef_goto (tgt := 83) dX6_statement_79 (by decide) ?_
          refine ef_sub (lv' := [(0, .ref (pl 0))]) [0] rfl ?_
          exact okX6_statement_83 (1 : Int32) z6.2
set_option maxRecDepth 100000 in
set_option maxHeartbeats 4000000 in
theorem okX6_statement_0 {G : GG} {pl : Nat → Nat} {h0 : PH} (s : SS) : EvF G 5 mX6_statement lyR pl h0 rvI (fX6_statement_0 s) 0 [(0, .ref (pl 0))] [] s := by
  unfold fX6_statement_0
  refine ef_aload_n (q := 1) 0 dX6_statement_0 rfl rfl rfl ?_
  refine ef_ldcS (i := 7) (q := 3) (by decide) rfl rfl dX6_statement_1 rfl ?_
  refine ef_invVI0 (k := 0) (As := [.ref (G.2.2.2.1 0)]) (rest := []) (q := 6) (okX6_isWord 0) rfl calX6_isWord ml6_217 (by decide) rfl rfl rfl (Nat.le_of_ble_eq_true rfl) dX6_statement_3 rfl (fun z1 => ?_)
  refine ef_if (pt := 40) (pf := 9) (fun _ _ => ev_if_eq (tgt := 40) dX6_statement_6 (by decide)) (fun h2 => ?_) (fun h2 => ?_)
  · refine ef_sub (lv' := [(0, .ref (pl 0))]) [0] rfl ?_
    exact okX6_statement_40 z1.2
  · refine ef_aload_n (q := 10) 0 dX6_statement_9 rfl rfl rfl ?_
    refine ef_getI (x := z1.2.1 0 10) (q := 13) rfl fl6_93 rfl rfl dX6_statement_10 rfl ?_
    refine ef_if (pt := 16) (pf := 40) (fun _ _ kt kf => ev_if_ne (tgt := 40) dX6_statement_13 (by decide) kf kt) (fun h3 => ?_) (fun h3 => ?_)
    · refine ef_aload_n (q := 17) 0 dX6_statement_16 rfl rfl rfl ?_
      refine ef_iconst (v := (3 : Int32)) (q := 18) dX6_statement_17 (by decide) rfl ?_
      refine ef_bipush (v := (8 : Int32)) (q := 20) dX6_statement_18 (by decide) rfl ?_
      refine ef_invVI0 (k := 0) (As := [.int (3 : Int32), .int (8 : Int32)]) (rest := []) (q := 23) (okX6_tells (3 : Int32) (8 : Int32)) rfl calX6_tells ml6_221 (by decide) rfl rfl rfl (Nat.le_of_ble_eq_true rfl) dX6_statement_20 rfl (fun z4 => ?_)
      refine ef_istore_n (lv' := [(1, .int z4.1), (0, .ref (pl 0))]) (q := 24) dX6_statement_23 rfl (by decide) rfl rfl ?_
      refine ef_iload_n (q := 25) 0 dX6_statement_24 rfl rfl rfl ?_
      refine ef_if (pt := 38) (pf := 28) (fun _ _ => ev_if_eq (tgt := 38) dX6_statement_25 (by decide)) (fun h5 => ?_) (fun h5 => ?_)
      · refine ef_iload_n (q := 39) 0 dX6_statement_38 rfl rfl rfl ?_
        exact ef_zret rfl dX6_statement_39
      · refine ef_aload_n (q := 29) 1 dX6_statement_28 rfl rfl rfl ?_
        refine ef_aload_n (q := 30) 1 dX6_statement_29 rfl rfl rfl ?_
        refine ef_getR (t := 29) (q := 33) rfl fl6_74 rfl rfl dX6_statement_30 rfl ?_
        refine ef_iconst (v := (0 : Int32)) (q := 34) dX6_statement_33 (by decide) rfl ?_
        refine ef_iaload (x := z4.2.1 29 0) (q := 35) rfl (by decide) dX6_statement_34 rfl rfl ?_
        refine ef_invVU0 (k := 0) (As := [.int (z4.2.1 29 0)]) (rest := []) (q := 38) (okX6_becomeSides (z4.2.1 29 0)) rfl calX6_becomeSides ml6_136 (by decide) rfl rfl rfl (Nat.le_of_ble_eq_true rfl) dX6_statement_35 rfl (fun z6 => ?_)
        refine ef_iload_n (q := 39) 0 dX6_statement_38 rfl rfl rfl ?_
        exact ef_zret rfl dX6_statement_39
    · refine ef_sub (lv' := [(0, .ref (pl 0))]) [0] rfl ?_
      exact okX6_statement_40 z1.2
theorem okX6_statement : MtF 5 mX6_statement lyR rvI (fun _ pl => [.ref (pl 0)]) (fX6_statement) := by
  refine MtF.of (by decide +kernel) rfl (fun _ pl => Nat.le_of_ble_eq_true rfl) (fun G pl h0 s => ?_)
  refine ef_sub (lv := [(0, .ref (pl 0))]) (lv' := [(0, .ref (pl 0))]) [0] rfl ?_
  exact okX6_statement_0  s
-- X6_readAll
theorem dX6_readAll_0 : decode cX6_readAll 0 = .ok (.aload_n 0, 1) := by decide +kernel
theorem dX6_readAll_1 : decode cX6_readAll 1 = .ok (.iconst 1, 1) := by decide +kernel
theorem dX6_readAll_2 : decode cX6_readAll 2 = .ok (.putfield 241, 3) := by decide +kernel
theorem dX6_readAll_5 : decode cX6_readAll 5 = .ok (.aload_n 0, 1) := by decide +kernel
theorem dX6_readAll_6 : decode cX6_readAll 6 = .ok (.iconst 0, 1) := by decide +kernel
theorem dX6_readAll_7 : decode cX6_readAll 7 = .ok (.putfield 166, 3) := by decide +kernel
theorem dX6_readAll_10 : decode cX6_readAll 10 = .ok (.aload_n 0, 1) := by decide +kernel
theorem dX6_readAll_11 : decode cX6_readAll 11 = .ok (.invokevirtual 201, 3) := by decide +kernel
theorem dX6_readAll_14 : decode cX6_readAll 14 = .ok (.aload_n 0, 1) := by decide +kernel
theorem dX6_readAll_15 : decode cX6_readAll 15 = .ok (.invokevirtual 244, 3) := by decide +kernel
theorem dX6_readAll_18 : decode cX6_readAll 18 = .ok (.ifCond .ne 5, 3) := by decide +kernel
theorem dX6_readAll_21 : decode cX6_readAll 21 = .ok (.iconst 0, 1) := by decide +kernel
theorem dX6_readAll_22 : decode cX6_readAll 22 = .ok (.ireturn, 1) := by decide +kernel
theorem dX6_readAll_23 : decode cX6_readAll 23 = .ok (.aload_n 0, 1) := by decide +kernel
theorem dX6_readAll_24 : decode cX6_readAll 24 = .ok (.getfield 175, 3) := by decide +kernel
theorem dX6_readAll_27 : decode cX6_readAll 27 = .ok (.ifCond .eq 42, 3) := by decide +kernel
theorem dX6_readAll_30 : decode cX6_readAll 30 = .ok (.aload_n 0, 1) := by decide +kernel
theorem dX6_readAll_31 : decode cX6_readAll 31 = .ok (.getfield 175, 3) := by decide +kernel
theorem dX6_readAll_34 : decode cX6_readAll 34 = .ok (.iconst 3, 1) := by decide +kernel
theorem dX6_readAll_35 : decode cX6_readAll 35 = .ok (.if_icmp .eq 8, 3) := by decide +kernel
theorem dX6_readAll_38 : decode cX6_readAll 38 = .ok (.aload_n 0, 1) := by decide +kernel
theorem dX6_readAll_39 : decode cX6_readAll 39 = .ok (.invokevirtual 197, 3) := by decide +kernel
theorem dX6_readAll_42 : decode cX6_readAll 42 = .ok (.ireturn, 1) := by decide +kernel
theorem dX6_readAll_43 : decode cX6_readAll 43 = .ok (.aload_n 0, 1) := by decide +kernel
theorem dX6_readAll_44 : decode cX6_readAll 44 = .ok (.invokevirtual 201, 3) := by decide +kernel
theorem dX6_readAll_47 : decode cX6_readAll 47 = .ok (.aload_n 0, 1) := by decide +kernel
theorem dX6_readAll_48 : decode cX6_readAll 48 = .ok (.invokevirtual 244, 3) := by decide +kernel
theorem dX6_readAll_51 : decode cX6_readAll 51 = .ok (.ifCond .ne 5, 3) := by decide +kernel
theorem dX6_readAll_54 : decode cX6_readAll 54 = .ok (.iconst 0, 1) := by decide +kernel
theorem dX6_readAll_55 : decode cX6_readAll 55 = .ok (.ireturn, 1) := by decide +kernel
theorem dX6_readAll_56 : decode cX6_readAll 56 = .ok (.aload_n 0, 1) := by decide +kernel
theorem dX6_readAll_57 : decode cX6_readAll 57 = .ok (.dup, 1) := by decide +kernel
theorem dX6_readAll_58 : decode cX6_readAll 58 = .ok (.getfield 241, 3) := by decide +kernel
theorem dX6_readAll_61 : decode cX6_readAll 61 = .ok (.iconst 1, 1) := by decide +kernel
theorem dX6_readAll_62 : decode cX6_readAll 62 = .ok (.iadd, 1) := by decide +kernel
theorem dX6_readAll_63 : decode cX6_readAll 63 = .ok (.putfield 241, 3) := by decide +kernel
theorem dX6_readAll_66 : decode cX6_readAll 66 = .ok (.goto (-43), 3) := by decide +kernel
theorem dX6_readAll_69 : decode cX6_readAll 69 = .ok (.iconst 1, 1) := by decide +kernel
theorem dX6_readAll_70 : decode cX6_readAll 70 = .ok (.ireturn, 1) := by decide +kernel
def fX6_readAll_23 : Nat → SS → Option (Int32 × SS)
  | 0, _ => none
  | n + 1, s => if (s.1 0 32) = 0 then (some ((1 : Int32), s)) else (if (s.1 0 32) = (3 : Int32) then (((fX6_look s).bind fun z3 => ((fX6_statement z3.2).bind fun z4 => if z4.1 = 0 then (some ((0 : Int32), z4.2)) else (fX6_readAll_23 n (wrI z4.2 0 37 ((z4.2.1 0 37) + (1 : Int32))))))) else (((fX6_wrong s).bind fun z6 => some (nbZ z6.1, z6.2))))
def fX6_readAll_0 (s : SS) : Option (Int32 × SS) := ((fX6_look (wrI (wrI s 0 37 (1 : Int32)) 0 31 (0 : Int32))).bind fun z1 => ((fX6_statement z1.2).bind fun z2 => if z2.1 = 0 then (some ((0 : Int32), z2.2)) else (fX6_readAll_23 FU z2.2)))
def fX6_readAll (s : SS) : Option (Int32 × SS) := fX6_readAll_0 s
set_option maxRecDepth 100000 in
set_option maxHeartbeats 4000000 in
theorem okX6_readAll_23 {G : GG} {pl : Nat → Nat} {h0 : PH} : ∀ (n : Nat) (s : SS), EvF G 6 mX6_readAll lyR pl h0 rvI (fX6_readAll_23 n s) 23 [(0, .ref (pl 0))] [] s := by
  intro n
  induction n with
  | zero => intro s; rw [fX6_readAll_23]; exact ef_none
  | succ n ih =>
    intro s
    rw [fX6_readAll_23]
    refine ef_aload_n (q := 24) 0 dX6_readAll_23 rfl rfl rfl ?_
    refine ef_getI (x := s.1 0 32) (q := 27) rfl fl6_175 rfl rfl dX6_readAll_24 rfl ?_
    refine ef_if (pt := 69) (pf := 30) (fun _ _ => ev_if_eq (tgt := 69) dX6_readAll_27 (by decide)) (fun h1 => ?_) (fun h1 => ?_)
    · refine ef_iconst (v := (1 : Int32)) (q := 70) dX6_readAll_69 (by decide) rfl ?_
      exact ef_zretc (x := (1 : Int32)) (by decide) rfl dX6_readAll_70
    · refine ef_aload_n (q := 31) 0 dX6_readAll_30 rfl rfl rfl ?_
      refine ef_getI (x := s.1 0 32) (q := 34) rfl fl6_175 rfl rfl dX6_readAll_31 rfl ?_
      refine ef_iconst (v := (3 : Int32)) (q := 35) dX6_readAll_34 (by decide) rfl ?_
      refine ef_if (pt := 43) (pf := 38) (fun _ _ => ev_icmp_eq (tgt := 43) dX6_readAll_35 (by decide)) (fun h2 => ?_) (fun h2 => ?_)
      · refine ef_aload_n (q := 44) 0 dX6_readAll_43 rfl rfl rfl ?_
        refine ef_invVU0 (k := 0) (As := []) (rest := []) (q := 47) (okX6_look) rfl calX6_look ml6_201 (by decide) rfl rfl rfl (Nat.le_of_ble_eq_true rfl) dX6_readAll_44 rfl (fun z3 => ?_)
        refine ef_aload_n (q := 48) 0 dX6_readAll_47 rfl rfl rfl ?_
        refine ef_invVI0 (k := 0) (As := []) (rest := []) (q := 51) (okX6_statement) rfl calX6_statement ml6_244 (by decide) rfl rfl rfl (Nat.le_of_ble_eq_true rfl) dX6_readAll_48 rfl (fun z4 => ?_)
        refine ef_if (pt := 54) (pf := 56) (fun _ _ kt kf => ev_if_ne (tgt := 56) dX6_readAll_51 (by decide) kf kt) (fun h5 => ?_) (fun h5 => ?_)
        · refine ef_iconst (v := (0 : Int32)) (q := 55) dX6_readAll_54 (by decide) rfl ?_
          exact ef_zretc (x := (0 : Int32)) (by decide) rfl dX6_readAll_55
        · refine ef_aload_n (q := 57) 0 dX6_readAll_56 rfl rfl rfl ?_
          refine ef_dup (q := 58) dX6_readAll_57 rfl rfl ?_
          refine ef_getI (x := z4.2.1 0 37) (q := 61) rfl fl6_241 rfl rfl dX6_readAll_58 rfl ?_
          refine ef_iconst (v := (1 : Int32)) (q := 62) dX6_readAll_61 (by decide) rfl ?_
          refine ef_iadd (q := 63) dX6_readAll_62 rfl ?_
          refine ef_putI (q := 66) rfl fl6_241 rfl rfl dX6_readAll_63 rfl ?_
          refine ef_goto (tgt := 23) dX6_readAll_66 (by decide) ?_
          refine ef_sub (lv' := [(0, .ref (pl 0))]) [0] rfl ?_
          exact ih (wrI z4.2 0 37 ((z4.2.1 0 37) + (1 : Int32)))
      · refine ef_aload_n (q := 39) 0 dX6_readAll_38 rfl rfl rfl ?_
        refine ef_invVI0 (k := 0) (As := []) (rest := []) (q := 42) (okX6_wrong) rfl calX6_wrong ml6_197 (by decide) rfl rfl rfl (Nat.le_of_ble_eq_true rfl) dX6_readAll_39 rfl (fun z6 => ?_)
        exact ef_zret rfl dX6_readAll_42
set_option maxRecDepth 100000 in
set_option maxHeartbeats 4000000 in
theorem okX6_readAll_0 {G : GG} {pl : Nat → Nat} {h0 : PH} (s : SS) : EvF G 6 mX6_readAll lyR pl h0 rvI (fX6_readAll_0 s) 0 [(0, .ref (pl 0))] [] s := by
  unfold fX6_readAll_0
  refine ef_aload_n (q := 1) 0 dX6_readAll_0 rfl rfl rfl ?_
  refine ef_iconst (v := (1 : Int32)) (q := 2) dX6_readAll_1 (by decide) rfl ?_
  refine ef_putI (q := 5) rfl fl6_241 rfl rfl dX6_readAll_2 rfl ?_
  refine ef_aload_n (q := 6) 0 dX6_readAll_5 rfl rfl rfl ?_
  refine ef_iconst (v := (0 : Int32)) (q := 7) dX6_readAll_6 (by decide) rfl ?_
  refine ef_putI (q := 10) rfl fl6_166 rfl rfl dX6_readAll_7 rfl ?_
  refine ef_aload_n (q := 11) 0 dX6_readAll_10 rfl rfl rfl ?_
  refine ef_invVU0 (k := 0) (As := []) (rest := []) (q := 14) (okX6_look) rfl calX6_look ml6_201 (by decide) rfl rfl rfl (Nat.le_of_ble_eq_true rfl) dX6_readAll_11 rfl (fun z1 => ?_)
  refine ef_aload_n (q := 15) 0 dX6_readAll_14 rfl rfl rfl ?_
  refine ef_invVI0 (k := 0) (As := []) (rest := []) (q := 18) (okX6_statement) rfl calX6_statement ml6_244 (by decide) rfl rfl rfl (Nat.le_of_ble_eq_true rfl) dX6_readAll_15 rfl (fun z2 => ?_)
  refine ef_if (pt := 21) (pf := 23) (fun _ _ kt kf => ev_if_ne (tgt := 23) dX6_readAll_18 (by decide) kf kt) (fun h3 => ?_) (fun h3 => ?_)
  · refine ef_iconst (v := (0 : Int32)) (q := 22) dX6_readAll_21 (by decide) rfl ?_
    exact ef_zretc (x := (0 : Int32)) (by decide) rfl dX6_readAll_22
  · refine ef_sub (lv' := [(0, .ref (pl 0))]) [0] rfl ?_
    exact okX6_readAll_23 FU z2.2
theorem okX6_readAll : MtF 6 mX6_readAll lyR rvI (fun _ pl => [.ref (pl 0)]) (fX6_readAll) := by
  refine MtF.of (by decide +kernel) rfl (fun _ pl => Nat.le_of_ble_eq_true rfl) (fun G pl h0 s => ?_)
  refine ef_sub (lv := [(0, .ref (pl 0))]) (lv' := [(0, .ref (pl 0))]) [0] rfl ?_
  exact okX6_readAll_0  s
-- X6_wetOf
theorem dX6_wetOf_0 : decode cX6_wetOf 0 = .ok (.iconst 0, 1) := by decide +kernel
theorem dX6_wetOf_1 : decode cX6_wetOf 1 = .ok (.istore_n 2, 1) := by decide +kernel
theorem dX6_wetOf_2 : decode cX6_wetOf 2 = .ok (.iconst 0, 1) := by decide +kernel
theorem dX6_wetOf_3 : decode cX6_wetOf 3 = .ok (.istore_n 3, 1) := by decide +kernel
theorem dX6_wetOf_4 : decode cX6_wetOf 4 = .ok (.iload_n 3, 1) := by decide +kernel
theorem dX6_wetOf_5 : decode cX6_wetOf 5 = .ok (.aload_n 0, 1) := by decide +kernel
theorem dX6_wetOf_6 : decode cX6_wetOf 6 = .ok (.getfield 37, 3) := by decide +kernel
theorem dX6_wetOf_9 : decode cX6_wetOf 9 = .ok (.if_icmp .ge 20, 3) := by decide +kernel
theorem dX6_wetOf_12 : decode cX6_wetOf 12 = .ok (.iload_n 2, 1) := by decide +kernel
theorem dX6_wetOf_13 : decode cX6_wetOf 13 = .ok (.aload_n 0, 1) := by decide +kernel
theorem dX6_wetOf_14 : decode cX6_wetOf 14 = .ok (.getfield 49, 3) := by decide +kernel
theorem dX6_wetOf_17 : decode cX6_wetOf 17 = .ok (.iload_n 1, 1) := by decide +kernel
theorem dX6_wetOf_18 : decode cX6_wetOf 18 = .ok (.aaload, 1) := by decide +kernel
theorem dX6_wetOf_19 : decode cX6_wetOf 19 = .ok (.iload_n 3, 1) := by decide +kernel
theorem dX6_wetOf_20 : decode cX6_wetOf 20 = .ok (.iaload, 1) := by decide +kernel
theorem dX6_wetOf_21 : decode cX6_wetOf 21 = .ok (.iadd, 1) := by decide +kernel
theorem dX6_wetOf_22 : decode cX6_wetOf 22 = .ok (.istore_n 2, 1) := by decide +kernel
theorem dX6_wetOf_23 : decode cX6_wetOf 23 = .ok (.iinc 3 1, 3) := by decide +kernel
theorem dX6_wetOf_26 : decode cX6_wetOf 26 = .ok (.goto (-22), 3) := by decide +kernel
theorem dX6_wetOf_29 : decode cX6_wetOf 29 = .ok (.iload_n 2, 1) := by decide +kernel
theorem dX6_wetOf_30 : decode cX6_wetOf 30 = .ok (.ireturn, 1) := by decide +kernel
def fX6_wetOf_4 : Nat → Int32 → Int32 → Int32 → SS → Option (Int32 × SS)
  | 0, _, _, _, _ => none
  | n + 1, x1, x2, x3, s => if (s.1 0 9) ≤ x3 then (some (x2, s)) else (if ixB x1 3 then (if ixB x3 8 then (fX6_wetOf_4 n x1 (x2 + (s.1 (20 + x1.toNatClampNeg) x3.toNatClampNeg)) (x3 + (1 : Int32)) s) else none) else none)
def fX6_wetOf_0 (x1 : Int32) (s : SS) : Option (Int32 × SS) := fX6_wetOf_4 FU x1 (0 : Int32) (0 : Int32) s
def fX6_wetOf (x1 : Int32) (s : SS) : Option (Int32 × SS) := fX6_wetOf_0 x1 s
set_option maxRecDepth 100000 in
set_option maxHeartbeats 4000000 in
theorem okX6_wetOf_4 {G : GG} {pl : Nat → Nat} {h0 : PH} : ∀ (n : Nat) (x1 : Int32) (x2 : Int32) (x3 : Int32) (s : SS), EvF G 0 mX6_wetOf lyR pl h0 rvI (fX6_wetOf_4 n x1 x2 x3 s) 4 [(0, .ref (pl 0)), (1, .int x1), (2, .int x2), (3, .int x3)] [] s := by
  intro n
  induction n with
  | zero => intro x1 x2 x3 s; rw [fX6_wetOf_4]; exact ef_none
  | succ n ih =>
    intro x1 x2 x3 s
    rw [fX6_wetOf_4]
    refine ef_iload_n (q := 5) 3 dX6_wetOf_4 rfl rfl rfl ?_
    refine ef_aload_n (q := 6) 0 dX6_wetOf_5 rfl rfl rfl ?_
    refine ef_getI (x := s.1 0 9) (q := 9) rfl fl6_37 rfl rfl dX6_wetOf_6 rfl ?_
    refine ef_if (pt := 29) (pf := 12) (fun _ _ => ev_icmp_ge (tgt := 29) dX6_wetOf_9 (by decide)) (fun h1 => ?_) (fun h1 => ?_)
    · refine ef_iload_n (q := 30) 2 dX6_wetOf_29 rfl rfl rfl ?_
      exact ef_iret rfl dX6_wetOf_30
    · refine ef_iload_n (q := 13) 2 dX6_wetOf_12 rfl rfl rfl ?_
      refine ef_aload_n (q := 14) 0 dX6_wetOf_13 rfl rfl rfl ?_
      refine ef_getR (t := 19) (q := 17) rfl fl6_49 rfl rfl dX6_wetOf_14 rfl ?_
      refine ef_iload_n (q := 18) 1 dX6_wetOf_17 rfl rfl rfl ?_
      refine ef_guard (fun g2 => ?_)
      refine ef_aaload (t0 := 20 + x1.toNatClampNeg) (q := 19) rfl (by decide) lyR_t19 g2 dX6_wetOf_18 rfl rfl ?_
      refine ef_iload_n (q := 20) 3 dX6_wetOf_19 rfl rfl rfl ?_
      refine ef_guard (fun g3 => ?_)
      refine ef_iaload (x := s.1 (20 + x1.toNatClampNeg) x3.toNatClampNeg) (q := 21) (lyR_f19_0 _ (ixB_lt g2)) g3 dX6_wetOf_20 rfl rfl ?_
      refine ef_iadd (q := 22) dX6_wetOf_21 rfl ?_
      refine ef_istore_n (lv' := [(2, .int (x2 + (s.1 (20 + x1.toNatClampNeg) x3.toNatClampNeg))), (0, .ref (pl 0)), (1, .int x1), (3, .int x3)]) (q := 23) dX6_wetOf_22 rfl (by decide) rfl rfl ?_
      refine ef_iinc (v := x3 + (1 : Int32)) (lv' := [(3, .int (x3 + (1 : Int32))), (2, .int (x2 + (s.1 (20 + x1.toNatClampNeg) x3.toNatClampNeg))), (0, .ref (pl 0)), (1, .int x1)]) (q := 26) 3 dX6_wetOf_23 rfl rfl (by decide) rfl rfl ?_
      refine ef_goto (tgt := 4) dX6_wetOf_26 (by decide) ?_
      refine ef_sub (lv' := [(0, .ref (pl 0)), (1, .int x1), (2, .int (x2 + (s.1 (20 + x1.toNatClampNeg) x3.toNatClampNeg))), (3, .int (x3 + (1 : Int32)))]) [2, 3, 1, 0] rfl ?_
      exact ih x1 (x2 + (s.1 (20 + x1.toNatClampNeg) x3.toNatClampNeg)) (x3 + (1 : Int32)) s
set_option maxRecDepth 100000 in
set_option maxHeartbeats 4000000 in
theorem okX6_wetOf_0 {G : GG} {pl : Nat → Nat} {h0 : PH} (x1 : Int32) (s : SS) : EvF G 0 mX6_wetOf lyR pl h0 rvI (fX6_wetOf_0 x1 s) 0 [(0, .ref (pl 0)), (1, .int x1)] [] s := by
  unfold fX6_wetOf_0
  refine ef_iconst (v := (0 : Int32)) (q := 1) dX6_wetOf_0 (by decide) rfl ?_
  refine ef_istore_n (lv' := [(2, .int (0 : Int32)), (0, .ref (pl 0)), (1, .int x1)]) (q := 2) dX6_wetOf_1 rfl (by decide) rfl rfl ?_
  refine ef_iconst (v := (0 : Int32)) (q := 3) dX6_wetOf_2 (by decide) rfl ?_
  refine ef_istore_n (lv' := [(3, .int (0 : Int32)), (2, .int (0 : Int32)), (0, .ref (pl 0)), (1, .int x1)]) (q := 4) dX6_wetOf_3 rfl (by decide) rfl rfl ?_
  refine ef_sub (lv' := [(0, .ref (pl 0)), (1, .int x1), (2, .int (0 : Int32)), (3, .int (0 : Int32))]) [2, 3, 1, 0] rfl ?_
  exact okX6_wetOf_4 FU x1 (0 : Int32) (0 : Int32) s
theorem okX6_wetOf (x1 : Int32) : MtF 0 mX6_wetOf lyR rvI (fun _ pl => [.ref (pl 0), .int x1]) (fX6_wetOf x1) := by
  refine MtF.of (by decide +kernel) rfl (fun _ pl => Nat.le_of_ble_eq_true rfl) (fun G pl h0 s => ?_)
  refine ef_sub (lv := [(0, .ref (pl 0)), (1, .int x1)]) (lv' := [(0, .ref (pl 0)), (1, .int x1)]) [0, 1] rfl ?_
  exact okX6_wetOf_0  x1 s
-- X6_scoopOf
theorem dX6_scoopOf_0 : decode cX6_scoopOf 0 = .ok (.aload_n 0, 1) := by decide +kernel
theorem dX6_scoopOf_1 : decode cX6_scoopOf 1 = .ok (.iload_n 1, 1) := by decide +kernel
theorem dX6_scoopOf_2 : decode cX6_scoopOf 2 = .ok (.invokevirtual 258, 3) := by decide +kernel
theorem dX6_scoopOf_5 : decode cX6_scoopOf 5 = .ok (.ifCond .eq 15, 3) := by decide +kernel
theorem dX6_scoopOf_8 : decode cX6_scoopOf 8 = .ok (.iload_n 2, 1) := by decide +kernel
theorem dX6_scoopOf_9 : decode cX6_scoopOf 9 = .ok (.i2l, 1) := by decide +kernel
theorem dX6_scoopOf_10 : decode cX6_scoopOf 10 = .ok (.lconst 0, 1) := by decide +kernel
theorem dX6_scoopOf_11 : decode cX6_scoopOf 11 = .ok (.ldc2_w 261, 3) := by decide +kernel
theorem dX6_scoopOf_14 : decode cX6_scoopOf 14 = .ok (.invokestatic 89, 3) := by decide +kernel
theorem dX6_scoopOf_17 : decode cX6_scoopOf 17 = .ok (.ifCond .ne 10, 3) := by decide +kernel
theorem dX6_scoopOf_20 : decode cX6_scoopOf 20 = .ok (.aload_n 0, 1) := by decide +kernel
theorem dX6_scoopOf_21 : decode cX6_scoopOf 21 = .ok (.bipush (-2), 2) := by decide +kernel
theorem dX6_scoopOf_23 : decode cX6_scoopOf 23 = .ok (.invokevirtual 102, 3) := by decide +kernel
theorem dX6_scoopOf_26 : decode cX6_scoopOf 26 = .ok (.ireturn, 1) := by decide +kernel
theorem dX6_scoopOf_27 : decode cX6_scoopOf 27 = .ok (.iload_n 2, 1) := by decide +kernel
theorem dX6_scoopOf_28 : decode cX6_scoopOf 28 = .ok (.ifCond .ne 12, 3) := by decide +kernel
theorem dX6_scoopOf_31 : decode cX6_scoopOf 31 = .ok (.aload_n 0, 1) := by decide +kernel
theorem dX6_scoopOf_32 : decode cX6_scoopOf 32 = .ok (.getfield 41, 3) := by decide +kernel
theorem dX6_scoopOf_35 : decode cX6_scoopOf 35 = .ok (.iload_n 1, 1) := by decide +kernel
theorem dX6_scoopOf_36 : decode cX6_scoopOf 36 = .ok (.iaload, 1) := by decide +kernel
theorem dX6_scoopOf_37 : decode cX6_scoopOf 37 = .ok (.goto 22, 3) := by decide +kernel
theorem dX6_scoopOf_40 : decode cX6_scoopOf 40 = .ok (.iload_n 2, 1) := by decide +kernel
theorem dX6_scoopOf_41 : decode cX6_scoopOf 41 = .ok (.iconst 1, 1) := by decide +kernel
theorem dX6_scoopOf_42 : decode cX6_scoopOf 42 = .ok (.if_icmp .ne 12, 3) := by decide +kernel
theorem dX6_scoopOf_45 : decode cX6_scoopOf 45 = .ok (.aload_n 0, 1) := by decide +kernel
theorem dX6_scoopOf_46 : decode cX6_scoopOf 46 = .ok (.getfield 44, 3) := by decide +kernel
theorem dX6_scoopOf_49 : decode cX6_scoopOf 49 = .ok (.iload_n 1, 1) := by decide +kernel
theorem dX6_scoopOf_50 : decode cX6_scoopOf 50 = .ok (.iaload, 1) := by decide +kernel
theorem dX6_scoopOf_51 : decode cX6_scoopOf 51 = .ok (.goto 8, 3) := by decide +kernel
theorem dX6_scoopOf_54 : decode cX6_scoopOf 54 = .ok (.aload_n 0, 1) := by decide +kernel
theorem dX6_scoopOf_55 : decode cX6_scoopOf 55 = .ok (.iload_n 1, 1) := by decide +kernel
theorem dX6_scoopOf_56 : decode cX6_scoopOf 56 = .ok (.invokevirtual 263, 3) := by decide +kernel
theorem dX6_scoopOf_59 : decode cX6_scoopOf 59 = .ok (.ireturn, 1) := by decide +kernel
def fX6_scoopOf_20 (s : SS) : Option (Int32 × SS) := ((fX6_refuse (-2 : Int32) s).bind fun z1 => some (z1.1, z1.2))
def fX6_scoopOf_0 (x1 : Int32) (x2 : Int32) (s : SS) : Option (Int32 × SS) := ((fX6_isScoop x1 s).bind fun z1 => if z1.1 = 0 then (fX6_scoopOf_20 z1.2) else (((fX6_in x2.toInt64 (0 : Int64) (2 : Int64) z1.2).bind fun z3 => if z3.1 = 0 then (fX6_scoopOf_20 z1.2) else (if x2 = 0 then (if ixB x1 3 then (some (z1.2.1 17 x1.toNatClampNeg, z1.2)) else none) else (if x2 = (1 : Int32) then (if ixB x1 3 then (some (z1.2.1 18 x1.toNatClampNeg, z1.2)) else none) else (((fX6_wetOf x1 z1.2).bind fun z9 => some (z9.1, z9.2))))))))
def fX6_scoopOf (x1 : Int32) (x2 : Int32) (s : SS) : Option (Int32 × SS) := fX6_scoopOf_0 x1 x2 s
set_option maxRecDepth 100000 in
set_option maxHeartbeats 4000000 in
theorem okX6_scoopOf_20 {G : GG} {pl : Nat → Nat} {h0 : PH} (s : SS) : EvF G 2 mX6_scoopOf lyR pl h0 rvI (fX6_scoopOf_20 s) 20 [(0, .ref (pl 0))] [] s := by
  unfold fX6_scoopOf_20
  refine ef_aload_n (q := 21) 0 dX6_scoopOf_20 rfl rfl rfl ?_
  refine ef_bipush (v := (-2 : Int32)) (q := 23) dX6_scoopOf_21 (by decide) rfl ?_
  refine ef_invVI0 (k := 0) (As := [.int (-2 : Int32)]) (rest := []) (q := 26) (okX6_refuse (-2 : Int32)) rfl calX6_refuse ml6_102 (by decide) rfl rfl rfl (Nat.le_of_ble_eq_true rfl) dX6_scoopOf_23 rfl (fun z1 => ?_)
  exact ef_iret rfl dX6_scoopOf_26
set_option maxRecDepth 100000 in
set_option maxHeartbeats 4000000 in
theorem okX6_scoopOf_0 {G : GG} {pl : Nat → Nat} {h0 : PH} (x1 : Int32) (x2 : Int32) (s : SS) : EvF G 2 mX6_scoopOf lyR pl h0 rvI (fX6_scoopOf_0 x1 x2 s) 0 [(0, .ref (pl 0)), (1, .int x1), (2, .int x2)] [] s := by
  unfold fX6_scoopOf_0
  refine ef_aload_n (q := 1) 0 dX6_scoopOf_0 rfl rfl rfl ?_
  refine ef_iload_n (q := 2) 1 dX6_scoopOf_1 rfl rfl rfl ?_
  refine ef_invVI0 (k := 0) (As := [.int x1]) (rest := []) (q := 5) (okX6_isScoop x1) rfl calX6_isScoop ml6_258 (by decide) rfl rfl rfl (Nat.le_of_ble_eq_true rfl) dX6_scoopOf_2 rfl (fun z1 => ?_)
  refine ef_if (pt := 20) (pf := 8) (fun _ _ => ev_if_eq (tgt := 20) dX6_scoopOf_5 (by decide)) (fun h2 => ?_) (fun h2 => ?_)
  · refine ef_sub (lv' := [(0, .ref (pl 0))]) [0] rfl ?_
    exact okX6_scoopOf_20 z1.2
  · refine ef_iload_n (q := 9) 2 dX6_scoopOf_8 rfl rfl rfl ?_
    refine ef_i2l (v := x2.toInt64) (q := 10) dX6_scoopOf_9 rfl rfl ?_
    refine ef_lconst (v := (0 : Int64)) (q := 11) dX6_scoopOf_10 (by decide) rfl ?_
    refine ef_ldc2 (v := (2 : Int64)) (q := 14) k6_261 dX6_scoopOf_11 rfl ?_
    refine ef_invPI0 (As := [.long x2.toInt64, .long (0 : Int64), .long (2 : Int64)]) (rest := []) (q := 17) (okX6_in x2.toInt64 (0 : Int64) (2 : Int64)) rfl calX6_in ml6_89 (by decide) rfl rfl (Nat.le_of_ble_eq_true rfl) dX6_scoopOf_14 rfl (fun z3 => ?_)
    refine ef_if (pt := 20) (pf := 27) (fun _ _ kt kf => ev_if_ne (tgt := 27) dX6_scoopOf_17 (by decide) kf kt) (fun h4 => ?_) (fun h4 => ?_)
    · refine ef_sub (lv' := [(0, .ref (pl 0))]) [0] rfl ?_
      exact okX6_scoopOf_20 z1.2
    · refine ef_iload_n (q := 28) 2 dX6_scoopOf_27 rfl rfl rfl ?_
      refine ef_if (pt := 31) (pf := 40) (fun _ _ kt kf => ev_if_ne (tgt := 40) dX6_scoopOf_28 (by decide) kf kt) (fun h5 => ?_) (fun h5 => ?_)
      · refine ef_aload_n (q := 32) 0 dX6_scoopOf_31 rfl rfl rfl ?_
        refine ef_getR (t := 17) (q := 35) rfl fl6_41 rfl rfl dX6_scoopOf_32 rfl ?_
        refine ef_iload_n (q := 36) 1 dX6_scoopOf_35 rfl rfl rfl ?_
        refine ef_guard (fun g6 => ?_)
        refine ef_iaload (x := z1.2.1 17 x1.toNatClampNeg) (q := 37) rfl g6 dX6_scoopOf_36 rfl rfl ?_
        refine ef_goto (tgt := 59) dX6_scoopOf_37 (by decide) ?_
        exact ef_iret rfl dX6_scoopOf_59
      · refine ef_iload_n (q := 41) 2 dX6_scoopOf_40 rfl rfl rfl ?_
        refine ef_iconst (v := (1 : Int32)) (q := 42) dX6_scoopOf_41 (by decide) rfl ?_
        refine ef_if (pt := 45) (pf := 54) (fun _ _ kt kf => ev_icmp_ne (tgt := 54) dX6_scoopOf_42 (by decide) kf kt) (fun h7 => ?_) (fun h7 => ?_)
        · refine ef_aload_n (q := 46) 0 dX6_scoopOf_45 rfl rfl rfl ?_
          refine ef_getR (t := 18) (q := 49) rfl fl6_44 rfl rfl dX6_scoopOf_46 rfl ?_
          refine ef_iload_n (q := 50) 1 dX6_scoopOf_49 rfl rfl rfl ?_
          refine ef_guard (fun g8 => ?_)
          refine ef_iaload (x := z1.2.1 18 x1.toNatClampNeg) (q := 51) rfl g8 dX6_scoopOf_50 rfl rfl ?_
          refine ef_goto (tgt := 59) dX6_scoopOf_51 (by decide) ?_
          exact ef_iret rfl dX6_scoopOf_59
        · refine ef_aload_n (q := 55) 0 dX6_scoopOf_54 rfl rfl rfl ?_
          refine ef_iload_n (q := 56) 1 dX6_scoopOf_55 rfl rfl rfl ?_
          refine ef_invVI0 (k := 0) (As := [.int x1]) (rest := []) (q := 59) (okX6_wetOf x1) rfl calX6_wetOf ml6_263 (by decide) rfl rfl rfl (Nat.le_of_ble_eq_true rfl) dX6_scoopOf_56 rfl (fun z9 => ?_)
          exact ef_iret rfl dX6_scoopOf_59
theorem okX6_scoopOf (x1 : Int32) (x2 : Int32) : MtF 2 mX6_scoopOf lyR rvI (fun _ pl => [.ref (pl 0), .int x1, .int x2]) (fX6_scoopOf x1 x2) := by
  refine MtF.of (by decide +kernel) rfl (fun _ pl => Nat.le_of_ble_eq_true rfl) (fun G pl h0 s => ?_)
  refine ef_sub (lv := [(0, .ref (pl 0)), (1, .int x1), (2, .int x2)]) (lv' := [(0, .ref (pl 0)), (1, .int x1), (2, .int x2)]) [0, 1, 2] rfl ?_
  exact okX6_scoopOf_0  x1 x2 s
-- X6_wet
theorem dX6_wet_0 : decode cX6_wet 0 = .ok (.iload_n 1, 1) := by decide +kernel
theorem dX6_wet_1 : decode cX6_wet 1 = .ok (.iconst (-1), 1) := by decide +kernel
theorem dX6_wet_2 : decode cX6_wet 2 = .ok (.if_icmp .eq 11, 3) := by decide +kernel
theorem dX6_wet_5 : decode cX6_wet 5 = .ok (.aload_n 0, 1) := by decide +kernel
theorem dX6_wet_6 : decode cX6_wet 6 = .ok (.iload_n 1, 1) := by decide +kernel
theorem dX6_wet_7 : decode cX6_wet 7 = .ok (.invokevirtual 258, 3) := by decide +kernel
theorem dX6_wet_10 : decode cX6_wet 10 = .ok (.ifCond .eq 11, 3) := by decide +kernel
theorem dX6_wet_13 : decode cX6_wet 13 = .ok (.aload_n 0, 1) := by decide +kernel
theorem dX6_wet_14 : decode cX6_wet 14 = .ok (.iload_n 2, 1) := by decide +kernel
theorem dX6_wet_15 : decode cX6_wet 15 = .ok (.invokevirtual 152, 3) := by decide +kernel
theorem dX6_wet_18 : decode cX6_wet 18 = .ok (.ifCond .ne 10, 3) := by decide +kernel
theorem dX6_wet_21 : decode cX6_wet 21 = .ok (.aload_n 0, 1) := by decide +kernel
theorem dX6_wet_22 : decode cX6_wet 22 = .ok (.bipush (-2), 2) := by decide +kernel
theorem dX6_wet_24 : decode cX6_wet 24 = .ok (.invokevirtual 102, 3) := by decide +kernel
theorem dX6_wet_27 : decode cX6_wet 27 = .ok (.ireturn, 1) := by decide +kernel
theorem dX6_wet_28 : decode cX6_wet 28 = .ok (.iload_n 1, 1) := by decide +kernel
theorem dX6_wet_29 : decode cX6_wet 29 = .ok (.iconst (-1), 1) := by decide +kernel
theorem dX6_wet_30 : decode cX6_wet 30 = .ok (.if_icmp .ne 12, 3) := by decide +kernel
theorem dX6_wet_33 : decode cX6_wet 33 = .ok (.aload_n 0, 1) := by decide +kernel
theorem dX6_wet_34 : decode cX6_wet 34 = .ok (.getfield 52, 3) := by decide +kernel
theorem dX6_wet_37 : decode cX6_wet 37 = .ok (.iload_n 2, 1) := by decide +kernel
theorem dX6_wet_38 : decode cX6_wet 38 = .ok (.iaload, 1) := by decide +kernel
theorem dX6_wet_39 : decode cX6_wet 39 = .ok (.goto 11, 3) := by decide +kernel
theorem dX6_wet_42 : decode cX6_wet 42 = .ok (.aload_n 0, 1) := by decide +kernel
theorem dX6_wet_43 : decode cX6_wet 43 = .ok (.getfield 49, 3) := by decide +kernel
theorem dX6_wet_46 : decode cX6_wet 46 = .ok (.iload_n 1, 1) := by decide +kernel
theorem dX6_wet_47 : decode cX6_wet 47 = .ok (.aaload, 1) := by decide +kernel
theorem dX6_wet_48 : decode cX6_wet 48 = .ok (.iload_n 2, 1) := by decide +kernel
theorem dX6_wet_49 : decode cX6_wet 49 = .ok (.iaload, 1) := by decide +kernel
theorem dX6_wet_50 : decode cX6_wet 50 = .ok (.ireturn, 1) := by decide +kernel
def fX6_wet_21 (s : SS) : Option (Int32 × SS) := ((fX6_refuse (-2 : Int32) s).bind fun z1 => some (z1.1, z1.2))
def fX6_wet_13 (x1 : Int32) (x2 : Int32) (s : SS) : Option (Int32 × SS) := ((fX6_isSide x2 s).bind fun z1 => if z1.1 = 0 then (fX6_wet_21 z1.2) else (if x1 = (-1 : Int32) then (if ixB x2 8 then (some (z1.2.1 23 x2.toNatClampNeg, z1.2)) else none) else (if ixB x1 3 then (if ixB x2 8 then (some (z1.2.1 (20 + x1.toNatClampNeg) x2.toNatClampNeg, z1.2)) else none) else none)))
def fX6_wet_0 (x1 : Int32) (x2 : Int32) (s : SS) : Option (Int32 × SS) := if x1 = (-1 : Int32) then (fX6_wet_13 x1 x2 s) else (((fX6_isScoop x1 s).bind fun z2 => if z2.1 = 0 then (fX6_wet_21 z2.2) else (fX6_wet_13 x1 x2 z2.2)))
def fX6_wet (x1 : Int32) (x2 : Int32) (s : SS) : Option (Int32 × SS) := fX6_wet_0 x1 x2 s
set_option maxRecDepth 100000 in
set_option maxHeartbeats 4000000 in
theorem okX6_wet_21 {G : GG} {pl : Nat → Nat} {h0 : PH} (s : SS) : EvF G 2 mX6_wet lyR pl h0 rvI (fX6_wet_21 s) 21 [(0, .ref (pl 0))] [] s := by
  unfold fX6_wet_21
  refine ef_aload_n (q := 22) 0 dX6_wet_21 rfl rfl rfl ?_
  refine ef_bipush (v := (-2 : Int32)) (q := 24) dX6_wet_22 (by decide) rfl ?_
  refine ef_invVI0 (k := 0) (As := [.int (-2 : Int32)]) (rest := []) (q := 27) (okX6_refuse (-2 : Int32)) rfl calX6_refuse ml6_102 (by decide) rfl rfl rfl (Nat.le_of_ble_eq_true rfl) dX6_wet_24 rfl (fun z1 => ?_)
  exact ef_iret rfl dX6_wet_27
set_option maxRecDepth 100000 in
set_option maxHeartbeats 4000000 in
theorem okX6_wet_13 {G : GG} {pl : Nat → Nat} {h0 : PH} (x1 : Int32) (x2 : Int32) (s : SS) : EvF G 2 mX6_wet lyR pl h0 rvI (fX6_wet_13 x1 x2 s) 13 [(0, .ref (pl 0)), (1, .int x1), (2, .int x2)] [] s := by
  unfold fX6_wet_13
  refine ef_aload_n (q := 14) 0 dX6_wet_13 rfl rfl rfl ?_
  refine ef_iload_n (q := 15) 2 dX6_wet_14 rfl rfl rfl ?_
  refine ef_invVI0 (k := 0) (As := [.int x2]) (rest := []) (q := 18) (okX6_isSide x2) rfl calX6_isSide ml6_152 (by decide) rfl rfl rfl (Nat.le_of_ble_eq_true rfl) dX6_wet_15 rfl (fun z1 => ?_)
  refine ef_if (pt := 21) (pf := 28) (fun _ _ kt kf => ev_if_ne (tgt := 28) dX6_wet_18 (by decide) kf kt) (fun h2 => ?_) (fun h2 => ?_)
  · refine ef_sub (lv' := [(0, .ref (pl 0))]) [0] rfl ?_
    exact okX6_wet_21 z1.2
  · refine ef_iload_n (q := 29) 1 dX6_wet_28 rfl rfl rfl ?_
    refine ef_iconst (v := (-1 : Int32)) (q := 30) dX6_wet_29 (by decide) rfl ?_
    refine ef_if (pt := 33) (pf := 42) (fun _ _ kt kf => ev_icmp_ne (tgt := 42) dX6_wet_30 (by decide) kf kt) (fun h3 => ?_) (fun h3 => ?_)
    · refine ef_aload_n (q := 34) 0 dX6_wet_33 rfl rfl rfl ?_
      refine ef_getR (t := 23) (q := 37) rfl fl6_52 rfl rfl dX6_wet_34 rfl ?_
      refine ef_iload_n (q := 38) 2 dX6_wet_37 rfl rfl rfl ?_
      refine ef_guard (fun g4 => ?_)
      refine ef_iaload (x := z1.2.1 23 x2.toNatClampNeg) (q := 39) rfl g4 dX6_wet_38 rfl rfl ?_
      refine ef_goto (tgt := 50) dX6_wet_39 (by decide) ?_
      exact ef_iret rfl dX6_wet_50
    · refine ef_aload_n (q := 43) 0 dX6_wet_42 rfl rfl rfl ?_
      refine ef_getR (t := 19) (q := 46) rfl fl6_49 rfl rfl dX6_wet_43 rfl ?_
      refine ef_iload_n (q := 47) 1 dX6_wet_46 rfl rfl rfl ?_
      refine ef_guard (fun g5 => ?_)
      refine ef_aaload (t0 := 20 + x1.toNatClampNeg) (q := 48) rfl (by decide) lyR_t19 g5 dX6_wet_47 rfl rfl ?_
      refine ef_iload_n (q := 49) 2 dX6_wet_48 rfl rfl rfl ?_
      refine ef_guard (fun g6 => ?_)
      refine ef_iaload (x := z1.2.1 (20 + x1.toNatClampNeg) x2.toNatClampNeg) (q := 50) (lyR_f19_0 _ (ixB_lt g5)) g6 dX6_wet_49 rfl rfl ?_
      exact ef_iret rfl dX6_wet_50
set_option maxRecDepth 100000 in
set_option maxHeartbeats 4000000 in
theorem okX6_wet_0 {G : GG} {pl : Nat → Nat} {h0 : PH} (x1 : Int32) (x2 : Int32) (s : SS) : EvF G 2 mX6_wet lyR pl h0 rvI (fX6_wet_0 x1 x2 s) 0 [(0, .ref (pl 0)), (1, .int x1), (2, .int x2)] [] s := by
  unfold fX6_wet_0
  refine ef_iload_n (q := 1) 1 dX6_wet_0 rfl rfl rfl ?_
  refine ef_iconst (v := (-1 : Int32)) (q := 2) dX6_wet_1 (by decide) rfl ?_
  refine ef_if (pt := 13) (pf := 5) (fun _ _ => ev_icmp_eq (tgt := 13) dX6_wet_2 (by decide)) (fun h1 => ?_) (fun h1 => ?_)
  · refine ef_sub (lv' := [(0, .ref (pl 0)), (1, .int x1), (2, .int x2)]) [0, 1, 2] rfl ?_
    exact okX6_wet_13 x1 x2 s
  · refine ef_aload_n (q := 6) 0 dX6_wet_5 rfl rfl rfl ?_
    refine ef_iload_n (q := 7) 1 dX6_wet_6 rfl rfl rfl ?_
    refine ef_invVI0 (k := 0) (As := [.int x1]) (rest := []) (q := 10) (okX6_isScoop x1) rfl calX6_isScoop ml6_258 (by decide) rfl rfl rfl (Nat.le_of_ble_eq_true rfl) dX6_wet_7 rfl (fun z2 => ?_)
    refine ef_if (pt := 21) (pf := 13) (fun _ _ => ev_if_eq (tgt := 21) dX6_wet_10 (by decide)) (fun h3 => ?_) (fun h3 => ?_)
    · refine ef_sub (lv' := [(0, .ref (pl 0))]) [0] rfl ?_
      exact okX6_wet_21 z2.2
    · refine ef_sub (lv' := [(0, .ref (pl 0)), (1, .int x1), (2, .int x2)]) [0, 1, 2] rfl ?_
      exact okX6_wet_13 x1 x2 z2.2
theorem okX6_wet (x1 : Int32) (x2 : Int32) : MtF 2 mX6_wet lyR rvI (fun _ pl => [.ref (pl 0), .int x1, .int x2]) (fX6_wet x1 x2) := by
  refine MtF.of (by decide +kernel) rfl (fun _ pl => Nat.le_of_ble_eq_true rfl) (fun G pl h0 s => ?_)
  refine ef_sub (lv := [(0, .ref (pl 0)), (1, .int x1), (2, .int x2)]) (lv' := [(0, .ref (pl 0)), (1, .int x1), (2, .int x2)]) [0, 1, 2] rfl ?_
  exact okX6_wet_0  x1 x2 s
-- X6_lickerOf
theorem dX6_lickerOf_0 : decode cX6_lickerOf 0 = .ok (.aload_n 0, 1) := by decide +kernel
theorem dX6_lickerOf_1 : decode cX6_lickerOf 1 = .ok (.iload_n 1, 1) := by decide +kernel
theorem dX6_lickerOf_2 : decode cX6_lickerOf 2 = .ok (.invokevirtual 113, 3) := by decide +kernel
theorem dX6_lickerOf_5 : decode cX6_lickerOf 5 = .ok (.ifCond .eq 13, 3) := by decide +kernel
theorem dX6_lickerOf_8 : decode cX6_lickerOf 8 = .ok (.iload_n 2, 1) := by decide +kernel
theorem dX6_lickerOf_9 : decode cX6_lickerOf 9 = .ok (.i2l, 1) := by decide +kernel
theorem dX6_lickerOf_10 : decode cX6_lickerOf 10 = .ok (.lconst 0, 1) := by decide +kernel
theorem dX6_lickerOf_11 : decode cX6_lickerOf 11 = .ok (.lconst 1, 1) := by decide +kernel
theorem dX6_lickerOf_12 : decode cX6_lickerOf 12 = .ok (.invokestatic 89, 3) := by decide +kernel
theorem dX6_lickerOf_15 : decode cX6_lickerOf 15 = .ok (.ifCond .ne 10, 3) := by decide +kernel
theorem dX6_lickerOf_18 : decode cX6_lickerOf 18 = .ok (.aload_n 0, 1) := by decide +kernel
theorem dX6_lickerOf_19 : decode cX6_lickerOf 19 = .ok (.bipush (-2), 2) := by decide +kernel
theorem dX6_lickerOf_21 : decode cX6_lickerOf 21 = .ok (.invokevirtual 102, 3) := by decide +kernel
theorem dX6_lickerOf_24 : decode cX6_lickerOf 24 = .ok (.ireturn, 1) := by decide +kernel
theorem dX6_lickerOf_25 : decode cX6_lickerOf 25 = .ok (.iload_n 2, 1) := by decide +kernel
theorem dX6_lickerOf_26 : decode cX6_lickerOf 26 = .ok (.ifCond .ne 12, 3) := by decide +kernel
theorem dX6_lickerOf_29 : decode cX6_lickerOf 29 = .ok (.aload_n 0, 1) := by decide +kernel
theorem dX6_lickerOf_30 : decode cX6_lickerOf 30 = .ok (.getfield 58, 3) := by decide +kernel
theorem dX6_lickerOf_33 : decode cX6_lickerOf 33 = .ok (.iload_n 1, 1) := by decide +kernel
theorem dX6_lickerOf_34 : decode cX6_lickerOf 34 = .ok (.iaload, 1) := by decide +kernel
theorem dX6_lickerOf_35 : decode cX6_lickerOf 35 = .ok (.goto 9, 3) := by decide +kernel
theorem dX6_lickerOf_38 : decode cX6_lickerOf 38 = .ok (.aload_n 0, 1) := by decide +kernel
theorem dX6_lickerOf_39 : decode cX6_lickerOf 39 = .ok (.getfield 61, 3) := by decide +kernel
theorem dX6_lickerOf_42 : decode cX6_lickerOf 42 = .ok (.iload_n 1, 1) := by decide +kernel
theorem dX6_lickerOf_43 : decode cX6_lickerOf 43 = .ok (.iaload, 1) := by decide +kernel
theorem dX6_lickerOf_44 : decode cX6_lickerOf 44 = .ok (.ireturn, 1) := by decide +kernel
def fX6_lickerOf_18 (s : SS) : Option (Int32 × SS) := ((fX6_refuse (-2 : Int32) s).bind fun z1 => some (z1.1, z1.2))
def fX6_lickerOf_0 (x1 : Int32) (x2 : Int32) (s : SS) : Option (Int32 × SS) := ((fX6_isLicker x1 s).bind fun z1 => if z1.1 = 0 then (fX6_lickerOf_18 z1.2) else (((fX6_in x2.toInt64 (0 : Int64) (1 : Int64) z1.2).bind fun z3 => if z3.1 = 0 then (fX6_lickerOf_18 z1.2) else (if x2 = 0 then (if ixB x1 4 then (some (z1.2.1 25 x1.toNatClampNeg, z1.2)) else none) else (if ixB x1 4 then (some (z1.2.1 26 x1.toNatClampNeg, z1.2)) else none)))))
def fX6_lickerOf (x1 : Int32) (x2 : Int32) (s : SS) : Option (Int32 × SS) := fX6_lickerOf_0 x1 x2 s
set_option maxRecDepth 100000 in
set_option maxHeartbeats 4000000 in
theorem okX6_lickerOf_18 {G : GG} {pl : Nat → Nat} {h0 : PH} (s : SS) : EvF G 2 mX6_lickerOf lyR pl h0 rvI (fX6_lickerOf_18 s) 18 [(0, .ref (pl 0))] [] s := by
  unfold fX6_lickerOf_18
  refine ef_aload_n (q := 19) 0 dX6_lickerOf_18 rfl rfl rfl ?_
  refine ef_bipush (v := (-2 : Int32)) (q := 21) dX6_lickerOf_19 (by decide) rfl ?_
  refine ef_invVI0 (k := 0) (As := [.int (-2 : Int32)]) (rest := []) (q := 24) (okX6_refuse (-2 : Int32)) rfl calX6_refuse ml6_102 (by decide) rfl rfl rfl (Nat.le_of_ble_eq_true rfl) dX6_lickerOf_21 rfl (fun z1 => ?_)
  exact ef_iret rfl dX6_lickerOf_24
set_option maxRecDepth 100000 in
set_option maxHeartbeats 4000000 in
theorem okX6_lickerOf_0 {G : GG} {pl : Nat → Nat} {h0 : PH} (x1 : Int32) (x2 : Int32) (s : SS) : EvF G 2 mX6_lickerOf lyR pl h0 rvI (fX6_lickerOf_0 x1 x2 s) 0 [(0, .ref (pl 0)), (1, .int x1), (2, .int x2)] [] s := by
  unfold fX6_lickerOf_0
  refine ef_aload_n (q := 1) 0 dX6_lickerOf_0 rfl rfl rfl ?_
  refine ef_iload_n (q := 2) 1 dX6_lickerOf_1 rfl rfl rfl ?_
  refine ef_invVI0 (k := 0) (As := [.int x1]) (rest := []) (q := 5) (okX6_isLicker x1) rfl calX6_isLicker ml6_113 (by decide) rfl rfl rfl (Nat.le_of_ble_eq_true rfl) dX6_lickerOf_2 rfl (fun z1 => ?_)
  refine ef_if (pt := 18) (pf := 8) (fun _ _ => ev_if_eq (tgt := 18) dX6_lickerOf_5 (by decide)) (fun h2 => ?_) (fun h2 => ?_)
  · refine ef_sub (lv' := [(0, .ref (pl 0))]) [0] rfl ?_
    exact okX6_lickerOf_18 z1.2
  · refine ef_iload_n (q := 9) 2 dX6_lickerOf_8 rfl rfl rfl ?_
    refine ef_i2l (v := x2.toInt64) (q := 10) dX6_lickerOf_9 rfl rfl ?_
    refine ef_lconst (v := (0 : Int64)) (q := 11) dX6_lickerOf_10 (by decide) rfl ?_
    refine ef_lconst (v := (1 : Int64)) (q := 12) dX6_lickerOf_11 (by decide) rfl ?_
    refine ef_invPI0 (As := [.long x2.toInt64, .long (0 : Int64), .long (1 : Int64)]) (rest := []) (q := 15) (okX6_in x2.toInt64 (0 : Int64) (1 : Int64)) rfl calX6_in ml6_89 (by decide) rfl rfl (Nat.le_of_ble_eq_true rfl) dX6_lickerOf_12 rfl (fun z3 => ?_)
    refine ef_if (pt := 18) (pf := 25) (fun _ _ kt kf => ev_if_ne (tgt := 25) dX6_lickerOf_15 (by decide) kf kt) (fun h4 => ?_) (fun h4 => ?_)
    · refine ef_sub (lv' := [(0, .ref (pl 0))]) [0] rfl ?_
      exact okX6_lickerOf_18 z1.2
    · refine ef_iload_n (q := 26) 2 dX6_lickerOf_25 rfl rfl rfl ?_
      refine ef_if (pt := 29) (pf := 38) (fun _ _ kt kf => ev_if_ne (tgt := 38) dX6_lickerOf_26 (by decide) kf kt) (fun h5 => ?_) (fun h5 => ?_)
      · refine ef_aload_n (q := 30) 0 dX6_lickerOf_29 rfl rfl rfl ?_
        refine ef_getR (t := 25) (q := 33) rfl fl6_58 rfl rfl dX6_lickerOf_30 rfl ?_
        refine ef_iload_n (q := 34) 1 dX6_lickerOf_33 rfl rfl rfl ?_
        refine ef_guard (fun g6 => ?_)
        refine ef_iaload (x := z1.2.1 25 x1.toNatClampNeg) (q := 35) rfl g6 dX6_lickerOf_34 rfl rfl ?_
        refine ef_goto (tgt := 44) dX6_lickerOf_35 (by decide) ?_
        exact ef_iret rfl dX6_lickerOf_44
      · refine ef_aload_n (q := 39) 0 dX6_lickerOf_38 rfl rfl rfl ?_
        refine ef_getR (t := 26) (q := 42) rfl fl6_61 rfl rfl dX6_lickerOf_39 rfl ?_
        refine ef_iload_n (q := 43) 1 dX6_lickerOf_42 rfl rfl rfl ?_
        refine ef_guard (fun g7 => ?_)
        refine ef_iaload (x := z1.2.1 26 x1.toNatClampNeg) (q := 44) rfl g7 dX6_lickerOf_43 rfl rfl ?_
        exact ef_iret rfl dX6_lickerOf_44
theorem okX6_lickerOf (x1 : Int32) (x2 : Int32) : MtF 2 mX6_lickerOf lyR rvI (fun _ pl => [.ref (pl 0), .int x1, .int x2]) (fX6_lickerOf x1 x2) := by
  refine MtF.of (by decide +kernel) rfl (fun _ pl => Nat.le_of_ble_eq_true rfl) (fun G pl h0 s => ?_)
  refine ef_sub (lv := [(0, .ref (pl 0)), (1, .int x1), (2, .int x2)]) (lv' := [(0, .ref (pl 0)), (1, .int x1), (2, .int x2)]) [0, 1, 2] rfl ?_
  exact okX6_lickerOf_0  x1 x2 s
-- X6_sunny
theorem dX6_sunny_0 : decode cX6_sunny 0 = .ok (.aload_n 0, 1) := by decide +kernel
theorem dX6_sunny_1 : decode cX6_sunny 1 = .ok (.iload_n 1, 1) := by decide +kernel
theorem dX6_sunny_2 : decode cX6_sunny 2 = .ok (.invokevirtual 152, 3) := by decide +kernel
theorem dX6_sunny_5 : decode cX6_sunny 5 = .ok (.ifCond .eq 19, 3) := by decide +kernel
theorem dX6_sunny_8 : decode cX6_sunny 8 = .ok (.aload_n 0, 1) := by decide +kernel
theorem dX6_sunny_9 : decode cX6_sunny 9 = .ok (.iload_n 1, 1) := by decide +kernel
theorem dX6_sunny_10 : decode cX6_sunny 10 = .ok (.invokevirtual 266, 3) := by decide +kernel
theorem dX6_sunny_13 : decode cX6_sunny 13 = .ok (.ifCond .eq 7, 3) := by decide +kernel
theorem dX6_sunny_16 : decode cX6_sunny 16 = .ok (.iconst 1, 1) := by decide +kernel
theorem dX6_sunny_17 : decode cX6_sunny 17 = .ok (.goto 13, 3) := by decide +kernel
theorem dX6_sunny_20 : decode cX6_sunny 20 = .ok (.iconst 0, 1) := by decide +kernel
theorem dX6_sunny_21 : decode cX6_sunny 21 = .ok (.goto 9, 3) := by decide +kernel
theorem dX6_sunny_24 : decode cX6_sunny 24 = .ok (.aload_n 0, 1) := by decide +kernel
theorem dX6_sunny_25 : decode cX6_sunny 25 = .ok (.bipush (-2), 2) := by decide +kernel
theorem dX6_sunny_27 : decode cX6_sunny 27 = .ok (.invokevirtual 102, 3) := by decide +kernel
theorem dX6_sunny_30 : decode cX6_sunny 30 = .ok (.ireturn, 1) := by decide +kernel
def fX6_sunny_0 (x1 : Int32) (s : SS) : Option (Int32 × SS) := ((fX6_isSide x1 s).bind fun z1 => if z1.1 = 0 then (((fX6_refuse (-2 : Int32) z1.2).bind fun z3 => some (z3.1, z3.2))) else (((fX6_isSunny x1 z1.2).bind fun z4 => if z4.1 = 0 then (some ((0 : Int32), z4.2)) else (some ((1 : Int32), z4.2)))))
def fX6_sunny (x1 : Int32) (s : SS) : Option (Int32 × SS) := fX6_sunny_0 x1 s
set_option maxRecDepth 100000 in
set_option maxHeartbeats 4000000 in
theorem okX6_sunny_0 {G : GG} {pl : Nat → Nat} {h0 : PH} (x1 : Int32) (s : SS) : EvF G 2 mX6_sunny lyR pl h0 rvI (fX6_sunny_0 x1 s) 0 [(0, .ref (pl 0)), (1, .int x1)] [] s := by
  unfold fX6_sunny_0
  refine ef_aload_n (q := 1) 0 dX6_sunny_0 rfl rfl rfl ?_
  refine ef_iload_n (q := 2) 1 dX6_sunny_1 rfl rfl rfl ?_
  refine ef_invVI0 (k := 0) (As := [.int x1]) (rest := []) (q := 5) (okX6_isSide x1) rfl calX6_isSide ml6_152 (by decide) rfl rfl rfl (Nat.le_of_ble_eq_true rfl) dX6_sunny_2 rfl (fun z1 => ?_)
  refine ef_if (pt := 24) (pf := 8) (fun _ _ => ev_if_eq (tgt := 24) dX6_sunny_5 (by decide)) (fun h2 => ?_) (fun h2 => ?_)
  · refine ef_aload_n (q := 25) 0 dX6_sunny_24 rfl rfl rfl ?_
    refine ef_bipush (v := (-2 : Int32)) (q := 27) dX6_sunny_25 (by decide) rfl ?_
    refine ef_invVI0 (k := 0) (As := [.int (-2 : Int32)]) (rest := []) (q := 30) (okX6_refuse (-2 : Int32)) rfl calX6_refuse ml6_102 (by decide) rfl rfl rfl (Nat.le_of_ble_eq_true rfl) dX6_sunny_27 rfl (fun z3 => ?_)
    exact ef_iret rfl dX6_sunny_30
  · refine ef_aload_n (q := 9) 0 dX6_sunny_8 rfl rfl rfl ?_
    refine ef_iload_n (q := 10) 1 dX6_sunny_9 rfl rfl rfl ?_
    refine ef_invVI0 (k := 0) (As := [.int x1]) (rest := []) (q := 13) (okX6_isSunny x1) rfl calX6_isSunny ml6_266 (by decide) rfl rfl rfl (Nat.le_of_ble_eq_true rfl) dX6_sunny_10 rfl (fun z4 => ?_)
    refine ef_if (pt := 20) (pf := 16) (fun _ _ => ev_if_eq (tgt := 20) dX6_sunny_13 (by decide)) (fun h5 => ?_) (fun h5 => ?_)
    · refine ef_iconst (v := (0 : Int32)) (q := 21) dX6_sunny_20 (by decide) rfl ?_
      refine ef_goto (tgt := 30) dX6_sunny_21 (by decide) ?_
      exact ef_iret rfl dX6_sunny_30
    · refine ef_iconst (v := (1 : Int32)) (q := 17) dX6_sunny_16 (by decide) rfl ?_
      refine ef_goto (tgt := 30) dX6_sunny_17 (by decide) ?_
      exact ef_iret rfl dX6_sunny_30
theorem okX6_sunny (x1 : Int32) : MtF 2 mX6_sunny lyR rvI (fun _ pl => [.ref (pl 0), .int x1]) (fX6_sunny x1) := by
  refine MtF.of (by decide +kernel) rfl (fun _ pl => Nat.le_of_ble_eq_true rfl) (fun G pl h0 s => ?_)
  refine ef_sub (lv := [(0, .ref (pl 0)), (1, .int x1)]) (lv' := [(0, .ref (pl 0)), (1, .int x1)]) [0, 1] rfl ?_
  exact okX6_sunny_0  x1 s
-- X6_leftNow
theorem dX6_leftNow_0 : decode cX6_leftNow 0 = .ok (.iconst 0, 1) := by decide +kernel
theorem dX6_leftNow_1 : decode cX6_leftNow 1 = .ok (.istore_n 1, 1) := by decide +kernel
theorem dX6_leftNow_2 : decode cX6_leftNow 2 = .ok (.iconst 0, 1) := by decide +kernel
theorem dX6_leftNow_3 : decode cX6_leftNow 3 = .ok (.istore_n 2, 1) := by decide +kernel
theorem dX6_leftNow_4 : decode cX6_leftNow 4 = .ok (.iload_n 2, 1) := by decide +kernel
theorem dX6_leftNow_5 : decode cX6_leftNow 5 = .ok (.aload_n 0, 1) := by decide +kernel
theorem dX6_leftNow_6 : decode cX6_leftNow 6 = .ok (.getfield 93, 3) := by decide +kernel
theorem dX6_leftNow_9 : decode cX6_leftNow 9 = .ok (.if_icmp .ge 24, 3) := by decide +kernel
theorem dX6_leftNow_12 : decode cX6_leftNow 12 = .ok (.iload_n 1, 1) := by decide +kernel
theorem dX6_leftNow_13 : decode cX6_leftNow 13 = .ok (.aload_n 0, 1) := by decide +kernel
theorem dX6_leftNow_14 : decode cX6_leftNow 14 = .ok (.getfield 44, 3) := by decide +kernel
theorem dX6_leftNow_17 : decode cX6_leftNow 17 = .ok (.iload_n 2, 1) := by decide +kernel
theorem dX6_leftNow_18 : decode cX6_leftNow 18 = .ok (.iaload, 1) := by decide +kernel
theorem dX6_leftNow_19 : decode cX6_leftNow 19 = .ok (.aload_n 0, 1) := by decide +kernel
theorem dX6_leftNow_20 : decode cX6_leftNow 20 = .ok (.iload_n 2, 1) := by decide +kernel
theorem dX6_leftNow_21 : decode cX6_leftNow 21 = .ok (.invokevirtual 263, 3) := by decide +kernel
theorem dX6_leftNow_24 : decode cX6_leftNow 24 = .ok (.iadd, 1) := by decide +kernel
theorem dX6_leftNow_25 : decode cX6_leftNow 25 = .ok (.iadd, 1) := by decide +kernel
theorem dX6_leftNow_26 : decode cX6_leftNow 26 = .ok (.istore_n 1, 1) := by decide +kernel
theorem dX6_leftNow_27 : decode cX6_leftNow 27 = .ok (.iinc 2 1, 3) := by decide +kernel
theorem dX6_leftNow_30 : decode cX6_leftNow 30 = .ok (.goto (-26), 3) := by decide +kernel
theorem dX6_leftNow_33 : decode cX6_leftNow 33 = .ok (.iconst 0, 1) := by decide +kernel
theorem dX6_leftNow_34 : decode cX6_leftNow 34 = .ok (.istore_n 2, 1) := by decide +kernel
theorem dX6_leftNow_35 : decode cX6_leftNow 35 = .ok (.iload_n 2, 1) := by decide +kernel
theorem dX6_leftNow_36 : decode cX6_leftNow 36 = .ok (.aload_n 0, 1) := by decide +kernel
theorem dX6_leftNow_37 : decode cX6_leftNow 37 = .ok (.getfield 37, 3) := by decide +kernel
theorem dX6_leftNow_40 : decode cX6_leftNow 40 = .ok (.if_icmp .ge 18, 3) := by decide +kernel
theorem dX6_leftNow_43 : decode cX6_leftNow 43 = .ok (.iload_n 1, 1) := by decide +kernel
theorem dX6_leftNow_44 : decode cX6_leftNow 44 = .ok (.aload_n 0, 1) := by decide +kernel
theorem dX6_leftNow_45 : decode cX6_leftNow 45 = .ok (.getfield 52, 3) := by decide +kernel
theorem dX6_leftNow_48 : decode cX6_leftNow 48 = .ok (.iload_n 2, 1) := by decide +kernel
theorem dX6_leftNow_49 : decode cX6_leftNow 49 = .ok (.iaload, 1) := by decide +kernel
theorem dX6_leftNow_50 : decode cX6_leftNow 50 = .ok (.iadd, 1) := by decide +kernel
theorem dX6_leftNow_51 : decode cX6_leftNow 51 = .ok (.istore_n 1, 1) := by decide +kernel
theorem dX6_leftNow_52 : decode cX6_leftNow 52 = .ok (.iinc 2 1, 3) := by decide +kernel
theorem dX6_leftNow_55 : decode cX6_leftNow 55 = .ok (.goto (-20), 3) := by decide +kernel
theorem dX6_leftNow_58 : decode cX6_leftNow 58 = .ok (.iload_n 1, 1) := by decide +kernel
theorem dX6_leftNow_59 : decode cX6_leftNow 59 = .ok (.ireturn, 1) := by decide +kernel
def fX6_leftNow_35 : Nat → Int32 → Int32 → SS → Option (Int32 × SS)
  | 0, _, _, _ => none
  | n + 1, x1, x2, s => if (s.1 0 9) ≤ x2 then (some (x1, s)) else (if ixB x2 8 then (fX6_leftNow_35 n (x1 + (s.1 23 x2.toNatClampNeg)) (x2 + (1 : Int32)) s) else none)
def fX6_leftNow_4 : Nat → Int32 → Int32 → SS → Option (Int32 × SS)
  | 0, _, _, _ => none
  | n + 1, x1, x2, s => if (s.1 0 10) ≤ x2 then (fX6_leftNow_35 FU x1 (0 : Int32) s) else (if ixB x2 3 then (((fX6_wetOf x2 s).bind fun z3 => fX6_leftNow_4 n (x1 + ((s.1 18 x2.toNatClampNeg) + z3.1)) (x2 + (1 : Int32)) z3.2)) else none)
def fX6_leftNow_0 (s : SS) : Option (Int32 × SS) := fX6_leftNow_4 FU (0 : Int32) (0 : Int32) s
def fX6_leftNow (s : SS) : Option (Int32 × SS) := fX6_leftNow_0 s
set_option maxRecDepth 100000 in
set_option maxHeartbeats 4000000 in
theorem okX6_leftNow_35 {G : GG} {pl : Nat → Nat} {h0 : PH} : ∀ (n : Nat) (x1 : Int32) (x2 : Int32) (s : SS), EvF G 1 mX6_leftNow lyR pl h0 rvI (fX6_leftNow_35 n x1 x2 s) 35 [(0, .ref (pl 0)), (1, .int x1), (2, .int x2)] [] s := by
  intro n
  induction n with
  | zero => intro x1 x2 s; rw [fX6_leftNow_35]; exact ef_none
  | succ n ih =>
    intro x1 x2 s
    rw [fX6_leftNow_35]
    refine ef_iload_n (q := 36) 2 dX6_leftNow_35 rfl rfl rfl ?_
    refine ef_aload_n (q := 37) 0 dX6_leftNow_36 rfl rfl rfl ?_
    refine ef_getI (x := s.1 0 9) (q := 40) rfl fl6_37 rfl rfl dX6_leftNow_37 rfl ?_
    refine ef_if (pt := 58) (pf := 43) (fun _ _ => ev_icmp_ge (tgt := 58) dX6_leftNow_40 (by decide)) (fun h1 => ?_) (fun h1 => ?_)
    · refine ef_iload_n (q := 59) 1 dX6_leftNow_58 rfl rfl rfl ?_
      exact ef_iret rfl dX6_leftNow_59
    · refine ef_iload_n (q := 44) 1 dX6_leftNow_43 rfl rfl rfl ?_
      refine ef_aload_n (q := 45) 0 dX6_leftNow_44 rfl rfl rfl ?_
      refine ef_getR (t := 23) (q := 48) rfl fl6_52 rfl rfl dX6_leftNow_45 rfl ?_
      refine ef_iload_n (q := 49) 2 dX6_leftNow_48 rfl rfl rfl ?_
      refine ef_guard (fun g2 => ?_)
      refine ef_iaload (x := s.1 23 x2.toNatClampNeg) (q := 50) rfl g2 dX6_leftNow_49 rfl rfl ?_
      refine ef_iadd (q := 51) dX6_leftNow_50 rfl ?_
      refine ef_istore_n (lv' := [(1, .int (x1 + (s.1 23 x2.toNatClampNeg))), (0, .ref (pl 0)), (2, .int x2)]) (q := 52) dX6_leftNow_51 rfl (by decide) rfl rfl ?_
      refine ef_iinc (v := x2 + (1 : Int32)) (lv' := [(2, .int (x2 + (1 : Int32))), (1, .int (x1 + (s.1 23 x2.toNatClampNeg))), (0, .ref (pl 0))]) (q := 55) 2 dX6_leftNow_52 rfl rfl (by decide) rfl rfl ?_
      refine ef_goto (tgt := 35) dX6_leftNow_55 (by decide) ?_
      refine ef_sub (lv' := [(0, .ref (pl 0)), (1, .int (x1 + (s.1 23 x2.toNatClampNeg))), (2, .int (x2 + (1 : Int32)))]) [2, 1, 0] rfl ?_
      exact ih (x1 + (s.1 23 x2.toNatClampNeg)) (x2 + (1 : Int32)) s
set_option maxRecDepth 100000 in
set_option maxHeartbeats 4000000 in
theorem okX6_leftNow_4 {G : GG} {pl : Nat → Nat} {h0 : PH} : ∀ (n : Nat) (x1 : Int32) (x2 : Int32) (s : SS), EvF G 1 mX6_leftNow lyR pl h0 rvI (fX6_leftNow_4 n x1 x2 s) 4 [(0, .ref (pl 0)), (1, .int x1), (2, .int x2)] [] s := by
  intro n
  induction n with
  | zero => intro x1 x2 s; rw [fX6_leftNow_4]; exact ef_none
  | succ n ih =>
    intro x1 x2 s
    rw [fX6_leftNow_4]
    refine ef_iload_n (q := 5) 2 dX6_leftNow_4 rfl rfl rfl ?_
    refine ef_aload_n (q := 6) 0 dX6_leftNow_5 rfl rfl rfl ?_
    refine ef_getI (x := s.1 0 10) (q := 9) rfl fl6_93 rfl rfl dX6_leftNow_6 rfl ?_
    refine ef_if (pt := 33) (pf := 12) (fun _ _ => ev_icmp_ge (tgt := 33) dX6_leftNow_9 (by decide)) (fun h1 => ?_) (fun h1 => ?_)
    · refine ef_iconst (v := (0 : Int32)) (q := 34) dX6_leftNow_33 (by decide) rfl ?_
      refine ef_istore_n (lv' := [(2, .int (0 : Int32)), (0, .ref (pl 0)), (1, .int x1)]) (q := 35) dX6_leftNow_34 rfl (by decide) rfl rfl ?_
      refine ef_sub (lv' := [(0, .ref (pl 0)), (1, .int x1), (2, .int (0 : Int32))]) [1, 2, 0] rfl ?_
      exact okX6_leftNow_35 FU x1 (0 : Int32) s
    · refine ef_iload_n (q := 13) 1 dX6_leftNow_12 rfl rfl rfl ?_
      refine ef_aload_n (q := 14) 0 dX6_leftNow_13 rfl rfl rfl ?_
      refine ef_getR (t := 18) (q := 17) rfl fl6_44 rfl rfl dX6_leftNow_14 rfl ?_
      refine ef_iload_n (q := 18) 2 dX6_leftNow_17 rfl rfl rfl ?_
      refine ef_guard (fun g2 => ?_)
      refine ef_iaload (x := s.1 18 x2.toNatClampNeg) (q := 19) rfl g2 dX6_leftNow_18 rfl rfl ?_
      refine ef_aload_n (q := 20) 0 dX6_leftNow_19 rfl rfl rfl ?_
      refine ef_iload_n (q := 21) 2 dX6_leftNow_20 rfl rfl rfl ?_
      refine ef_invVI0 (k := 0) (As := [.int x2]) (rest := [.int (s.1 18 x2.toNatClampNeg), .int x1]) (q := 24) (okX6_wetOf x2) rfl calX6_wetOf ml6_263 (by decide) rfl rfl rfl (Nat.le_of_ble_eq_true rfl) dX6_leftNow_21 rfl (fun z3 => ?_)
      refine ef_iadd (q := 25) dX6_leftNow_24 rfl ?_
      refine ef_iadd (q := 26) dX6_leftNow_25 rfl ?_
      refine ef_istore_n (lv' := [(1, .int (x1 + ((s.1 18 x2.toNatClampNeg) + z3.1))), (0, .ref (pl 0)), (2, .int x2)]) (q := 27) dX6_leftNow_26 rfl (by decide) rfl rfl ?_
      refine ef_iinc (v := x2 + (1 : Int32)) (lv' := [(2, .int (x2 + (1 : Int32))), (1, .int (x1 + ((s.1 18 x2.toNatClampNeg) + z3.1))), (0, .ref (pl 0))]) (q := 30) 2 dX6_leftNow_27 rfl rfl (by decide) rfl rfl ?_
      refine ef_goto (tgt := 4) dX6_leftNow_30 (by decide) ?_
      refine ef_sub (lv' := [(0, .ref (pl 0)), (1, .int (x1 + ((s.1 18 x2.toNatClampNeg) + z3.1))), (2, .int (x2 + (1 : Int32)))]) [2, 1, 0] rfl ?_
      exact ih (x1 + ((s.1 18 x2.toNatClampNeg) + z3.1)) (x2 + (1 : Int32)) z3.2
set_option maxRecDepth 100000 in
set_option maxHeartbeats 4000000 in
theorem okX6_leftNow_0 {G : GG} {pl : Nat → Nat} {h0 : PH} (s : SS) : EvF G 1 mX6_leftNow lyR pl h0 rvI (fX6_leftNow_0 s) 0 [(0, .ref (pl 0))] [] s := by
  unfold fX6_leftNow_0
  refine ef_iconst (v := (0 : Int32)) (q := 1) dX6_leftNow_0 (by decide) rfl ?_
  refine ef_istore_n (lv' := [(1, .int (0 : Int32)), (0, .ref (pl 0))]) (q := 2) dX6_leftNow_1 rfl (by decide) rfl rfl ?_
  refine ef_iconst (v := (0 : Int32)) (q := 3) dX6_leftNow_2 (by decide) rfl ?_
  refine ef_istore_n (lv' := [(2, .int (0 : Int32)), (1, .int (0 : Int32)), (0, .ref (pl 0))]) (q := 4) dX6_leftNow_3 rfl (by decide) rfl rfl ?_
  refine ef_sub (lv' := [(0, .ref (pl 0)), (1, .int (0 : Int32)), (2, .int (0 : Int32))]) [2, 1, 0] rfl ?_
  exact okX6_leftNow_4 FU (0 : Int32) (0 : Int32) s
theorem okX6_leftNow : MtF 1 mX6_leftNow lyR rvI (fun _ pl => [.ref (pl 0)]) (fX6_leftNow) := by
  refine MtF.of (by decide +kernel) rfl (fun _ pl => Nat.le_of_ble_eq_true rfl) (fun G pl h0 s => ?_)
  refine ef_sub (lv := [(0, .ref (pl 0))]) (lv' := [(0, .ref (pl 0))]) [0] rfl ?_
  exact okX6_leftNow_0  s
-- X6_roundAct
theorem dX6_roundAct_0 : decode cX6_roundAct 0 = .ok (.aload_n 0, 1) := by decide +kernel
theorem dX6_roundAct_1 : decode cX6_roundAct 1 = .ok (.getfield 52, 3) := by decide +kernel
theorem dX6_roundAct_4 : decode cX6_roundAct 4 = .ok (.aload_n 0, 1) := by decide +kernel
theorem dX6_roundAct_5 : decode cX6_roundAct 5 = .ok (.getfield 126, 3) := by decide +kernel
theorem dX6_roundAct_8 : decode cX6_roundAct 8 = .ok (.iaload, 1) := by decide +kernel
theorem dX6_roundAct_9 : decode cX6_roundAct 9 = .ok (.ifCond .le 5, 3) := by decide +kernel
theorem dX6_roundAct_12 : decode cX6_roundAct 12 = .ok (.iconst 4, 1) := by decide +kernel
theorem dX6_roundAct_13 : decode cX6_roundAct 13 = .ok (.ireturn, 1) := by decide +kernel
theorem dX6_roundAct_14 : decode cX6_roundAct 14 = .ok (.iconst 0, 1) := by decide +kernel
theorem dX6_roundAct_15 : decode cX6_roundAct 15 = .ok (.istore_n 1, 1) := by decide +kernel
theorem dX6_roundAct_16 : decode cX6_roundAct 16 = .ok (.iload_n 1, 1) := by decide +kernel
theorem dX6_roundAct_17 : decode cX6_roundAct 17 = .ok (.aload_n 0, 1) := by decide +kernel
theorem dX6_roundAct_18 : decode cX6_roundAct 18 = .ok (.getfield 93, 3) := by decide +kernel
theorem dX6_roundAct_21 : decode cX6_roundAct 21 = .ok (.if_icmp .ge 27, 3) := by decide +kernel
theorem dX6_roundAct_24 : decode cX6_roundAct 24 = .ok (.aload_n 0, 1) := by decide +kernel
theorem dX6_roundAct_25 : decode cX6_roundAct 25 = .ok (.getfield 49, 3) := by decide +kernel
theorem dX6_roundAct_28 : decode cX6_roundAct 28 = .ok (.iload_n 1, 1) := by decide +kernel
theorem dX6_roundAct_29 : decode cX6_roundAct 29 = .ok (.aaload, 1) := by decide +kernel
theorem dX6_roundAct_30 : decode cX6_roundAct 30 = .ok (.aload_n 0, 1) := by decide +kernel
theorem dX6_roundAct_31 : decode cX6_roundAct 31 = .ok (.getfield 126, 3) := by decide +kernel
theorem dX6_roundAct_34 : decode cX6_roundAct 34 = .ok (.iaload, 1) := by decide +kernel
theorem dX6_roundAct_35 : decode cX6_roundAct 35 = .ok (.ifCond .le 7, 3) := by decide +kernel
theorem dX6_roundAct_38 : decode cX6_roundAct 38 = .ok (.iload_n 1, 1) := by decide +kernel
theorem dX6_roundAct_39 : decode cX6_roundAct 39 = .ok (.iconst 1, 1) := by decide +kernel
theorem dX6_roundAct_40 : decode cX6_roundAct 40 = .ok (.iadd, 1) := by decide +kernel
theorem dX6_roundAct_41 : decode cX6_roundAct 41 = .ok (.ireturn, 1) := by decide +kernel
theorem dX6_roundAct_42 : decode cX6_roundAct 42 = .ok (.iinc 1 1, 3) := by decide +kernel
theorem dX6_roundAct_45 : decode cX6_roundAct 45 = .ok (.goto (-29), 3) := by decide +kernel
theorem dX6_roundAct_48 : decode cX6_roundAct 48 = .ok (.iconst 5, 1) := by decide +kernel
theorem dX6_roundAct_49 : decode cX6_roundAct 49 = .ok (.ireturn, 1) := by decide +kernel
def fX6_roundAct_16 : Nat → Int32 → SS → Option (Int32 × SS)
  | 0, _, _ => none
  | n + 1, x1, s => if (s.1 0 10) ≤ x1 then (some ((5 : Int32), s)) else (if ixB x1 3 then (if ixB (s.1 0 15) 8 then (if (s.1 (20 + x1.toNatClampNeg) ((s.1 0 15).toNatClampNeg)) ≤ 0 then (fX6_roundAct_16 n (x1 + (1 : Int32)) s) else (some (x1 + (1 : Int32), s))) else none) else none)
def fX6_roundAct_0 (s : SS) : Option (Int32 × SS) := if ixB (s.1 0 15) 8 then (if (s.1 23 ((s.1 0 15).toNatClampNeg)) ≤ 0 then (fX6_roundAct_16 FU (0 : Int32) s) else (some ((4 : Int32), s))) else none
def fX6_roundAct (s : SS) : Option (Int32 × SS) := fX6_roundAct_0 s
set_option maxRecDepth 100000 in
set_option maxHeartbeats 4000000 in
theorem okX6_roundAct_16 {G : GG} {pl : Nat → Nat} {h0 : PH} : ∀ (n : Nat) (x1 : Int32) (s : SS), EvF G 0 mX6_roundAct lyR pl h0 rvI (fX6_roundAct_16 n x1 s) 16 [(0, .ref (pl 0)), (1, .int x1)] [] s := by
  intro n
  induction n with
  | zero => intro x1 s; rw [fX6_roundAct_16]; exact ef_none
  | succ n ih =>
    intro x1 s
    rw [fX6_roundAct_16]
    refine ef_iload_n (q := 17) 1 dX6_roundAct_16 rfl rfl rfl ?_
    refine ef_aload_n (q := 18) 0 dX6_roundAct_17 rfl rfl rfl ?_
    refine ef_getI (x := s.1 0 10) (q := 21) rfl fl6_93 rfl rfl dX6_roundAct_18 rfl ?_
    refine ef_if (pt := 48) (pf := 24) (fun _ _ => ev_icmp_ge (tgt := 48) dX6_roundAct_21 (by decide)) (fun h1 => ?_) (fun h1 => ?_)
    · refine ef_iconst (v := (5 : Int32)) (q := 49) dX6_roundAct_48 (by decide) rfl ?_
      exact ef_iret rfl dX6_roundAct_49
    · refine ef_aload_n (q := 25) 0 dX6_roundAct_24 rfl rfl rfl ?_
      refine ef_getR (t := 19) (q := 28) rfl fl6_49 rfl rfl dX6_roundAct_25 rfl ?_
      refine ef_iload_n (q := 29) 1 dX6_roundAct_28 rfl rfl rfl ?_
      refine ef_guard (fun g2 => ?_)
      refine ef_aaload (t0 := 20 + x1.toNatClampNeg) (q := 30) rfl (by decide) lyR_t19 g2 dX6_roundAct_29 rfl rfl ?_
      refine ef_aload_n (q := 31) 0 dX6_roundAct_30 rfl rfl rfl ?_
      refine ef_getI (x := s.1 0 15) (q := 34) rfl fl6_126 rfl rfl dX6_roundAct_31 rfl ?_
      refine ef_guard (fun g3 => ?_)
      refine ef_iaload (x := s.1 (20 + x1.toNatClampNeg) ((s.1 0 15).toNatClampNeg)) (q := 35) (lyR_f19_0 _ (ixB_lt g2)) g3 dX6_roundAct_34 rfl rfl ?_
      refine ef_if (pt := 42) (pf := 38) (fun _ _ => ev_if_le (tgt := 42) dX6_roundAct_35 (by decide)) (fun h4 => ?_) (fun h4 => ?_)
      · refine ef_iinc (v := x1 + (1 : Int32)) (lv' := [(1, .int (x1 + (1 : Int32))), (0, .ref (pl 0))]) (q := 45) 1 dX6_roundAct_42 rfl rfl (by decide) rfl rfl ?_
        refine ef_goto (tgt := 16) dX6_roundAct_45 (by decide) ?_
        refine ef_sub (lv' := [(0, .ref (pl 0)), (1, .int (x1 + (1 : Int32)))]) [1, 0] rfl ?_
        exact ih (x1 + (1 : Int32)) s
      · refine ef_iload_n (q := 39) 1 dX6_roundAct_38 rfl rfl rfl ?_
        refine ef_iconst (v := (1 : Int32)) (q := 40) dX6_roundAct_39 (by decide) rfl ?_
        refine ef_iadd (q := 41) dX6_roundAct_40 rfl ?_
        exact ef_iret rfl dX6_roundAct_41
set_option maxRecDepth 100000 in
set_option maxHeartbeats 4000000 in
theorem okX6_roundAct_0 {G : GG} {pl : Nat → Nat} {h0 : PH} (s : SS) : EvF G 0 mX6_roundAct lyR pl h0 rvI (fX6_roundAct_0 s) 0 [(0, .ref (pl 0))] [] s := by
  unfold fX6_roundAct_0
  refine ef_aload_n (q := 1) 0 dX6_roundAct_0 rfl rfl rfl ?_
  refine ef_getR (t := 23) (q := 4) rfl fl6_52 rfl rfl dX6_roundAct_1 rfl ?_
  refine ef_aload_n (q := 5) 0 dX6_roundAct_4 rfl rfl rfl ?_
  refine ef_getI (x := s.1 0 15) (q := 8) rfl fl6_126 rfl rfl dX6_roundAct_5 rfl ?_
  refine ef_guard (fun g1 => ?_)
  refine ef_iaload (x := s.1 23 ((s.1 0 15).toNatClampNeg)) (q := 9) rfl g1 dX6_roundAct_8 rfl rfl ?_
  refine ef_if (pt := 14) (pf := 12) (fun _ _ => ev_if_le (tgt := 14) dX6_roundAct_9 (by decide)) (fun h2 => ?_) (fun h2 => ?_)
  · refine ef_iconst (v := (0 : Int32)) (q := 15) dX6_roundAct_14 (by decide) rfl ?_
    refine ef_istore_n (lv' := [(1, .int (0 : Int32)), (0, .ref (pl 0))]) (q := 16) dX6_roundAct_15 rfl (by decide) rfl rfl ?_
    refine ef_sub (lv' := [(0, .ref (pl 0)), (1, .int (0 : Int32))]) [1, 0] rfl ?_
    exact okX6_roundAct_16 FU (0 : Int32) s
  · refine ef_iconst (v := (4 : Int32)) (q := 13) dX6_roundAct_12 (by decide) rfl ?_
    exact ef_iret rfl dX6_roundAct_13
theorem okX6_roundAct : MtF 0 mX6_roundAct lyR rvI (fun _ pl => [.ref (pl 0)]) (fX6_roundAct) := by
  refine MtF.of (by decide +kernel) rfl (fun _ pl => Nat.le_of_ble_eq_true rfl) (fun G pl h0 s => ?_)
  refine ef_sub (lv := [(0, .ref (pl 0))]) (lv' := [(0, .ref (pl 0))]) [0] rfl ?_
  exact okX6_roundAct_0  s
-- X6_allAt
theorem dX6_allAt_0 : decode cX6_allAt 0 = .ok (.aload_n 0, 1) := by decide +kernel
theorem dX6_allAt_1 : decode cX6_allAt 1 = .ok (.getfield 52, 3) := by decide +kernel
theorem dX6_allAt_4 : decode cX6_allAt 4 = .ok (.iload_n 1, 1) := by decide +kernel
theorem dX6_allAt_5 : decode cX6_allAt 5 = .ok (.iaload, 1) := by decide +kernel
theorem dX6_allAt_6 : decode cX6_allAt 6 = .ok (.istore_n 2, 1) := by decide +kernel
theorem dX6_allAt_7 : decode cX6_allAt 7 = .ok (.iconst 0, 1) := by decide +kernel
theorem dX6_allAt_8 : decode cX6_allAt 8 = .ok (.istore_n 3, 1) := by decide +kernel
theorem dX6_allAt_9 : decode cX6_allAt 9 = .ok (.iload_n 3, 1) := by decide +kernel
theorem dX6_allAt_10 : decode cX6_allAt 10 = .ok (.aload_n 0, 1) := by decide +kernel
theorem dX6_allAt_11 : decode cX6_allAt 11 = .ok (.getfield 93, 3) := by decide +kernel
theorem dX6_allAt_14 : decode cX6_allAt 14 = .ok (.if_icmp .ge 20, 3) := by decide +kernel
theorem dX6_allAt_17 : decode cX6_allAt 17 = .ok (.iload_n 2, 1) := by decide +kernel
theorem dX6_allAt_18 : decode cX6_allAt 18 = .ok (.aload_n 0, 1) := by decide +kernel
theorem dX6_allAt_19 : decode cX6_allAt 19 = .ok (.getfield 49, 3) := by decide +kernel
theorem dX6_allAt_22 : decode cX6_allAt 22 = .ok (.iload_n 3, 1) := by decide +kernel
theorem dX6_allAt_23 : decode cX6_allAt 23 = .ok (.aaload, 1) := by decide +kernel
theorem dX6_allAt_24 : decode cX6_allAt 24 = .ok (.iload_n 1, 1) := by decide +kernel
theorem dX6_allAt_25 : decode cX6_allAt 25 = .ok (.iaload, 1) := by decide +kernel
theorem dX6_allAt_26 : decode cX6_allAt 26 = .ok (.iadd, 1) := by decide +kernel
theorem dX6_allAt_27 : decode cX6_allAt 27 = .ok (.istore_n 2, 1) := by decide +kernel
theorem dX6_allAt_28 : decode cX6_allAt 28 = .ok (.iinc 3 1, 3) := by decide +kernel
theorem dX6_allAt_31 : decode cX6_allAt 31 = .ok (.goto (-22), 3) := by decide +kernel
theorem dX6_allAt_34 : decode cX6_allAt 34 = .ok (.iload_n 2, 1) := by decide +kernel
theorem dX6_allAt_35 : decode cX6_allAt 35 = .ok (.ireturn, 1) := by decide +kernel
def fX6_allAt_9 : Nat → Int32 → Int32 → Int32 → SS → Option (Int32 × SS)
  | 0, _, _, _, _ => none
  | n + 1, x1, x2, x3, s => if (s.1 0 10) ≤ x3 then (some (x2, s)) else (if ixB x3 3 then (if ixB x1 8 then (fX6_allAt_9 n x1 (x2 + (s.1 (20 + x3.toNatClampNeg) x1.toNatClampNeg)) (x3 + (1 : Int32)) s) else none) else none)
def fX6_allAt_0 (x1 : Int32) (s : SS) : Option (Int32 × SS) := if ixB x1 8 then (fX6_allAt_9 FU x1 (s.1 23 x1.toNatClampNeg) (0 : Int32) s) else none
def fX6_allAt (x1 : Int32) (s : SS) : Option (Int32 × SS) := fX6_allAt_0 x1 s
set_option maxRecDepth 100000 in
set_option maxHeartbeats 4000000 in
theorem okX6_allAt_9 {G : GG} {pl : Nat → Nat} {h0 : PH} : ∀ (n : Nat) (x1 : Int32) (x2 : Int32) (x3 : Int32) (s : SS), EvF G 0 mX6_allAt lyR pl h0 rvI (fX6_allAt_9 n x1 x2 x3 s) 9 [(0, .ref (pl 0)), (1, .int x1), (2, .int x2), (3, .int x3)] [] s := by
  intro n
  induction n with
  | zero => intro x1 x2 x3 s; rw [fX6_allAt_9]; exact ef_none
  | succ n ih =>
    intro x1 x2 x3 s
    rw [fX6_allAt_9]
    refine ef_iload_n (q := 10) 3 dX6_allAt_9 rfl rfl rfl ?_
    refine ef_aload_n (q := 11) 0 dX6_allAt_10 rfl rfl rfl ?_
    refine ef_getI (x := s.1 0 10) (q := 14) rfl fl6_93 rfl rfl dX6_allAt_11 rfl ?_
    refine ef_if (pt := 34) (pf := 17) (fun _ _ => ev_icmp_ge (tgt := 34) dX6_allAt_14 (by decide)) (fun h1 => ?_) (fun h1 => ?_)
    · refine ef_iload_n (q := 35) 2 dX6_allAt_34 rfl rfl rfl ?_
      exact ef_iret rfl dX6_allAt_35
    · refine ef_iload_n (q := 18) 2 dX6_allAt_17 rfl rfl rfl ?_
      refine ef_aload_n (q := 19) 0 dX6_allAt_18 rfl rfl rfl ?_
      refine ef_getR (t := 19) (q := 22) rfl fl6_49 rfl rfl dX6_allAt_19 rfl ?_
      refine ef_iload_n (q := 23) 3 dX6_allAt_22 rfl rfl rfl ?_
      refine ef_guard (fun g2 => ?_)
      refine ef_aaload (t0 := 20 + x3.toNatClampNeg) (q := 24) rfl (by decide) lyR_t19 g2 dX6_allAt_23 rfl rfl ?_
      refine ef_iload_n (q := 25) 1 dX6_allAt_24 rfl rfl rfl ?_
      refine ef_guard (fun g3 => ?_)
      refine ef_iaload (x := s.1 (20 + x3.toNatClampNeg) x1.toNatClampNeg) (q := 26) (lyR_f19_0 _ (ixB_lt g2)) g3 dX6_allAt_25 rfl rfl ?_
      refine ef_iadd (q := 27) dX6_allAt_26 rfl ?_
      refine ef_istore_n (lv' := [(2, .int (x2 + (s.1 (20 + x3.toNatClampNeg) x1.toNatClampNeg))), (0, .ref (pl 0)), (1, .int x1), (3, .int x3)]) (q := 28) dX6_allAt_27 rfl (by decide) rfl rfl ?_
      refine ef_iinc (v := x3 + (1 : Int32)) (lv' := [(3, .int (x3 + (1 : Int32))), (2, .int (x2 + (s.1 (20 + x3.toNatClampNeg) x1.toNatClampNeg))), (0, .ref (pl 0)), (1, .int x1)]) (q := 31) 3 dX6_allAt_28 rfl rfl (by decide) rfl rfl ?_
      refine ef_goto (tgt := 9) dX6_allAt_31 (by decide) ?_
      refine ef_sub (lv' := [(0, .ref (pl 0)), (1, .int x1), (2, .int (x2 + (s.1 (20 + x3.toNatClampNeg) x1.toNatClampNeg))), (3, .int (x3 + (1 : Int32)))]) [2, 3, 1, 0] rfl ?_
      exact ih x1 (x2 + (s.1 (20 + x3.toNatClampNeg) x1.toNatClampNeg)) (x3 + (1 : Int32)) s
set_option maxRecDepth 100000 in
set_option maxHeartbeats 4000000 in
theorem okX6_allAt_0 {G : GG} {pl : Nat → Nat} {h0 : PH} (x1 : Int32) (s : SS) : EvF G 0 mX6_allAt lyR pl h0 rvI (fX6_allAt_0 x1 s) 0 [(0, .ref (pl 0)), (1, .int x1)] [] s := by
  unfold fX6_allAt_0
  refine ef_aload_n (q := 1) 0 dX6_allAt_0 rfl rfl rfl ?_
  refine ef_getR (t := 23) (q := 4) rfl fl6_52 rfl rfl dX6_allAt_1 rfl ?_
  refine ef_iload_n (q := 5) 1 dX6_allAt_4 rfl rfl rfl ?_
  refine ef_guard (fun g1 => ?_)
  refine ef_iaload (x := s.1 23 x1.toNatClampNeg) (q := 6) rfl g1 dX6_allAt_5 rfl rfl ?_
  refine ef_istore_n (lv' := [(2, .int (s.1 23 x1.toNatClampNeg)), (0, .ref (pl 0)), (1, .int x1)]) (q := 7) dX6_allAt_6 rfl (by decide) rfl rfl ?_
  refine ef_iconst (v := (0 : Int32)) (q := 8) dX6_allAt_7 (by decide) rfl ?_
  refine ef_istore_n (lv' := [(3, .int (0 : Int32)), (2, .int (s.1 23 x1.toNatClampNeg)), (0, .ref (pl 0)), (1, .int x1)]) (q := 9) dX6_allAt_8 rfl (by decide) rfl rfl ?_
  refine ef_sub (lv' := [(0, .ref (pl 0)), (1, .int x1), (2, .int (s.1 23 x1.toNatClampNeg)), (3, .int (0 : Int32))]) [2, 3, 1, 0] rfl ?_
  exact okX6_allAt_9 FU x1 (s.1 23 x1.toNatClampNeg) (0 : Int32) s
theorem okX6_allAt (x1 : Int32) : MtF 0 mX6_allAt lyR rvI (fun _ pl => [.ref (pl 0), .int x1]) (fX6_allAt x1) := by
  refine MtF.of (by decide +kernel) rfl (fun _ pl => Nat.le_of_ble_eq_true rfl) (fun G pl h0 s => ?_)
  refine ef_sub (lv := [(0, .ref (pl 0)), (1, .int x1)]) (lv' := [(0, .ref (pl 0)), (1, .int x1)]) [0, 1] rfl ?_
  exact okX6_allAt_0  x1 s
-- X6_wettestSide
theorem dX6_wettestSide_0 : decode cX6_wettestSide 0 = .ok (.iconst 0, 1) := by decide +kernel
theorem dX6_wettestSide_1 : decode cX6_wettestSide 1 = .ok (.istore_n 1, 1) := by decide +kernel
theorem dX6_wettestSide_2 : decode cX6_wettestSide 2 = .ok (.iconst 1, 1) := by decide +kernel
theorem dX6_wettestSide_3 : decode cX6_wettestSide 3 = .ok (.istore_n 2, 1) := by decide +kernel
theorem dX6_wettestSide_4 : decode cX6_wettestSide 4 = .ok (.iload_n 2, 1) := by decide +kernel
theorem dX6_wettestSide_5 : decode cX6_wettestSide 5 = .ok (.aload_n 0, 1) := by decide +kernel
theorem dX6_wettestSide_6 : decode cX6_wettestSide 6 = .ok (.getfield 37, 3) := by decide +kernel
theorem dX6_wettestSide_9 : decode cX6_wettestSide 9 = .ok (.if_icmp .ge 28, 3) := by decide +kernel
theorem dX6_wettestSide_12 : decode cX6_wettestSide 12 = .ok (.aload_n 0, 1) := by decide +kernel
theorem dX6_wettestSide_13 : decode cX6_wettestSide 13 = .ok (.iload_n 2, 1) := by decide +kernel
theorem dX6_wettestSide_14 : decode cX6_wettestSide 14 = .ok (.invokevirtual 295, 3) := by decide +kernel
theorem dX6_wettestSide_17 : decode cX6_wettestSide 17 = .ok (.aload_n 0, 1) := by decide +kernel
theorem dX6_wettestSide_18 : decode cX6_wettestSide 18 = .ok (.iload_n 1, 1) := by decide +kernel
theorem dX6_wettestSide_19 : decode cX6_wettestSide 19 = .ok (.invokevirtual 295, 3) := by decide +kernel
theorem dX6_wettestSide_22 : decode cX6_wettestSide 22 = .ok (.if_icmp .le 7, 3) := by decide +kernel
theorem dX6_wettestSide_25 : decode cX6_wettestSide 25 = .ok (.iload_n 2, 1) := by decide +kernel
theorem dX6_wettestSide_26 : decode cX6_wettestSide 26 = .ok (.goto 4, 3) := by decide +kernel
theorem dX6_wettestSide_29 : decode cX6_wettestSide 29 = .ok (.iload_n 1, 1) := by decide +kernel
theorem dX6_wettestSide_30 : decode cX6_wettestSide 30 = .ok (.istore_n 1, 1) := by decide +kernel
theorem dX6_wettestSide_31 : decode cX6_wettestSide 31 = .ok (.iinc 2 1, 3) := by decide +kernel
theorem dX6_wettestSide_34 : decode cX6_wettestSide 34 = .ok (.goto (-30), 3) := by decide +kernel
theorem dX6_wettestSide_37 : decode cX6_wettestSide 37 = .ok (.iload_n 1, 1) := by decide +kernel
theorem dX6_wettestSide_38 : decode cX6_wettestSide 38 = .ok (.ireturn, 1) := by decide +kernel
def fX6_wettestSide_4 : Nat → Int32 → Int32 → SS → Option (Int32 × SS)
  | 0, _, _, _ => none
  | n + 1, x1, x2, s => if (s.1 0 9) ≤ x2 then (some (x1, s)) else (((fX6_allAt x2 s).bind fun z2 => ((fX6_allAt x1 z2.2).bind fun z3 => if z2.1 ≤ z3.1 then (fX6_wettestSide_4 n x1 (x2 + (1 : Int32)) z3.2) else (fX6_wettestSide_4 n x2 (x2 + (1 : Int32)) z3.2))))
def fX6_wettestSide_0 (s : SS) : Option (Int32 × SS) := fX6_wettestSide_4 FU (0 : Int32) (1 : Int32) s
def fX6_wettestSide (s : SS) : Option (Int32 × SS) := fX6_wettestSide_0 s
set_option maxRecDepth 100000 in
set_option maxHeartbeats 4000000 in
theorem okX6_wettestSide_4 {G : GG} {pl : Nat → Nat} {h0 : PH} : ∀ (n : Nat) (x1 : Int32) (x2 : Int32) (s : SS), EvF G 1 mX6_wettestSide lyR pl h0 rvI (fX6_wettestSide_4 n x1 x2 s) 4 [(0, .ref (pl 0)), (1, .int x1), (2, .int x2)] [] s := by
  intro n
  induction n with
  | zero => intro x1 x2 s; rw [fX6_wettestSide_4]; exact ef_none
  | succ n ih =>
    intro x1 x2 s
    rw [fX6_wettestSide_4]
    refine ef_iload_n (q := 5) 2 dX6_wettestSide_4 rfl rfl rfl ?_
    refine ef_aload_n (q := 6) 0 dX6_wettestSide_5 rfl rfl rfl ?_
    refine ef_getI (x := s.1 0 9) (q := 9) rfl fl6_37 rfl rfl dX6_wettestSide_6 rfl ?_
    refine ef_if (pt := 37) (pf := 12) (fun _ _ => ev_icmp_ge (tgt := 37) dX6_wettestSide_9 (by decide)) (fun h1 => ?_) (fun h1 => ?_)
    · refine ef_iload_n (q := 38) 1 dX6_wettestSide_37 rfl rfl rfl ?_
      exact ef_iret rfl dX6_wettestSide_38
    · refine ef_aload_n (q := 13) 0 dX6_wettestSide_12 rfl rfl rfl ?_
      refine ef_iload_n (q := 14) 2 dX6_wettestSide_13 rfl rfl rfl ?_
      refine ef_invVI0 (k := 0) (As := [.int x2]) (rest := []) (q := 17) (okX6_allAt x2) rfl calX6_allAt ml6_295 (by decide) rfl rfl rfl (Nat.le_of_ble_eq_true rfl) dX6_wettestSide_14 rfl (fun z2 => ?_)
      refine ef_aload_n (q := 18) 0 dX6_wettestSide_17 rfl rfl rfl ?_
      refine ef_iload_n (q := 19) 1 dX6_wettestSide_18 rfl rfl rfl ?_
      refine ef_invVI0 (k := 0) (As := [.int x1]) (rest := [.int z2.1]) (q := 22) (okX6_allAt x1) rfl calX6_allAt ml6_295 (by decide) rfl rfl rfl (Nat.le_of_ble_eq_true rfl) dX6_wettestSide_19 rfl (fun z3 => ?_)
      refine ef_if (pt := 29) (pf := 25) (fun _ _ => ev_icmp_le (tgt := 29) dX6_wettestSide_22 (by decide)) (fun h4 => ?_) (fun h4 => ?_)
      · refine ef_iload_n (q := 30) 1 dX6_wettestSide_29 rfl rfl rfl ?_
        refine ef_istore_n (lv' := [(1, .int x1), (0, .ref (pl 0)), (2, .int x2)]) (q := 31) dX6_wettestSide_30 rfl (by decide) rfl rfl ?_
        refine ef_iinc (v := x2 + (1 : Int32)) (lv' := [(2, .int (x2 + (1 : Int32))), (1, .int x1), (0, .ref (pl 0))]) (q := 34) 2 dX6_wettestSide_31 rfl rfl (by decide) rfl rfl ?_
        refine ef_goto (tgt := 4) dX6_wettestSide_34 (by decide) ?_
        refine ef_sub (lv' := [(0, .ref (pl 0)), (1, .int x1), (2, .int (x2 + (1 : Int32)))]) [2, 1, 0] rfl ?_
        exact ih x1 (x2 + (1 : Int32)) z3.2
      · refine ef_iload_n (q := 26) 2 dX6_wettestSide_25 rfl rfl rfl ?_
        refine ef_goto (tgt := 30) dX6_wettestSide_26 (by decide) ?_
        refine ef_istore_n (lv' := [(1, .int x2), (0, .ref (pl 0)), (2, .int x2)]) (q := 31) dX6_wettestSide_30 rfl (by decide) rfl rfl ?_
        refine ef_iinc (v := x2 + (1 : Int32)) (lv' := [(2, .int (x2 + (1 : Int32))), (1, .int x2), (0, .ref (pl 0))]) (q := 34) 2 dX6_wettestSide_31 rfl rfl (by decide) rfl rfl ?_
        refine ef_goto (tgt := 4) dX6_wettestSide_34 (by decide) ?_
        refine ef_sub (lv' := [(0, .ref (pl 0)), (1, .int x2), (2, .int (x2 + (1 : Int32)))]) [2, 1, 0] rfl ?_
        exact ih x2 (x2 + (1 : Int32)) z3.2
set_option maxRecDepth 100000 in
set_option maxHeartbeats 4000000 in
theorem okX6_wettestSide_0 {G : GG} {pl : Nat → Nat} {h0 : PH} (s : SS) : EvF G 1 mX6_wettestSide lyR pl h0 rvI (fX6_wettestSide_0 s) 0 [(0, .ref (pl 0))] [] s := by
  unfold fX6_wettestSide_0
  refine ef_iconst (v := (0 : Int32)) (q := 1) dX6_wettestSide_0 (by decide) rfl ?_
  refine ef_istore_n (lv' := [(1, .int (0 : Int32)), (0, .ref (pl 0))]) (q := 2) dX6_wettestSide_1 rfl (by decide) rfl rfl ?_
  refine ef_iconst (v := (1 : Int32)) (q := 3) dX6_wettestSide_2 (by decide) rfl ?_
  refine ef_istore_n (lv' := [(2, .int (1 : Int32)), (1, .int (0 : Int32)), (0, .ref (pl 0))]) (q := 4) dX6_wettestSide_3 rfl (by decide) rfl rfl ?_
  refine ef_sub (lv' := [(0, .ref (pl 0)), (1, .int (0 : Int32)), (2, .int (1 : Int32))]) [2, 1, 0] rfl ?_
  exact okX6_wettestSide_4 FU (0 : Int32) (1 : Int32) s
theorem okX6_wettestSide : MtF 1 mX6_wettestSide lyR rvI (fun _ pl => [.ref (pl 0)]) (fX6_wettestSide) := by
  refine MtF.of (by decide +kernel) rfl (fun _ pl => Nat.le_of_ble_eq_true rfl) (fun G pl h0 s => ?_)
  refine ef_sub (lv := [(0, .ref (pl 0))]) (lv' := [(0, .ref (pl 0))]) [0] rfl ?_
  exact okX6_wettestSide_0  s
-- X6_turnTo
theorem dX6_turnTo_0 : decode cX6_turnTo 0 = .ok (.iload_n 1, 1) := by decide +kernel
theorem dX6_turnTo_1 : decode cX6_turnTo 1 = .ok (.aload_n 0, 1) := by decide +kernel
theorem dX6_turnTo_2 : decode cX6_turnTo 2 = .ok (.getfield 126, 3) := by decide +kernel
theorem dX6_turnTo_5 : decode cX6_turnTo 5 = .ok (.isub, 1) := by decide +kernel
theorem dX6_turnTo_6 : decode cX6_turnTo 6 = .ok (.aload_n 0, 1) := by decide +kernel
theorem dX6_turnTo_7 : decode cX6_turnTo 7 = .ok (.getfield 37, 3) := by decide +kernel
theorem dX6_turnTo_10 : decode cX6_turnTo 10 = .ok (.iadd, 1) := by decide +kernel
theorem dX6_turnTo_11 : decode cX6_turnTo 11 = .ok (.aload_n 0, 1) := by decide +kernel
theorem dX6_turnTo_12 : decode cX6_turnTo 12 = .ok (.getfield 37, 3) := by decide +kernel
theorem dX6_turnTo_15 : decode cX6_turnTo 15 = .ok (.irem, 1) := by decide +kernel
theorem dX6_turnTo_16 : decode cX6_turnTo 16 = .ok (.istore_n 2, 1) := by decide +kernel
theorem dX6_turnTo_17 : decode cX6_turnTo 17 = .ok (.iload_n 2, 1) := by decide +kernel
theorem dX6_turnTo_18 : decode cX6_turnTo 18 = .ok (.aload_n 0, 1) := by decide +kernel
theorem dX6_turnTo_19 : decode cX6_turnTo 19 = .ok (.getfield 37, 3) := by decide +kernel
theorem dX6_turnTo_22 : decode cX6_turnTo 22 = .ok (.iload_n 2, 1) := by decide +kernel
theorem dX6_turnTo_23 : decode cX6_turnTo 23 = .ok (.isub, 1) := by decide +kernel
theorem dX6_turnTo_24 : decode cX6_turnTo 24 = .ok (.if_icmp .gt 7, 3) := by decide +kernel
theorem dX6_turnTo_27 : decode cX6_turnTo 27 = .ok (.iconst 5, 1) := by decide +kernel
theorem dX6_turnTo_28 : decode cX6_turnTo 28 = .ok (.goto 5, 3) := by decide +kernel
theorem dX6_turnTo_31 : decode cX6_turnTo 31 = .ok (.bipush 6, 2) := by decide +kernel
theorem dX6_turnTo_33 : decode cX6_turnTo 33 = .ok (.ireturn, 1) := by decide +kernel
def fX6_turnTo_0 (x1 : Int32) (s : SS) : Option (Int32 × SS) := if ¬ (s.1 0 9) = 0 then (if ((s.1 0 9) - (((x1 - (s.1 0 15)) + (s.1 0 9)) - ((x1 - (s.1 0 15)) + (s.1 0 9)) / (s.1 0 9) * (s.1 0 9))) < (((x1 - (s.1 0 15)) + (s.1 0 9)) - ((x1 - (s.1 0 15)) + (s.1 0 9)) / (s.1 0 9) * (s.1 0 9)) then (some ((6 : Int32), s)) else (some ((5 : Int32), s))) else none
def fX6_turnTo (x1 : Int32) (s : SS) : Option (Int32 × SS) := fX6_turnTo_0 x1 s
set_option maxRecDepth 100000 in
set_option maxHeartbeats 4000000 in
theorem okX6_turnTo_0 {G : GG} {pl : Nat → Nat} {h0 : PH} (x1 : Int32) (s : SS) : EvF G 0 mX6_turnTo lyR pl h0 rvI (fX6_turnTo_0 x1 s) 0 [(0, .ref (pl 0)), (1, .int x1)] [] s := by
  unfold fX6_turnTo_0
  refine ef_iload_n (q := 1) 1 dX6_turnTo_0 rfl rfl rfl ?_
  refine ef_aload_n (q := 2) 0 dX6_turnTo_1 rfl rfl rfl ?_
  refine ef_getI (x := s.1 0 15) (q := 5) rfl fl6_126 rfl rfl dX6_turnTo_2 rfl ?_
  refine ef_isub (q := 6) dX6_turnTo_5 rfl ?_
  refine ef_aload_n (q := 7) 0 dX6_turnTo_6 rfl rfl rfl ?_
  refine ef_getI (x := s.1 0 9) (q := 10) rfl fl6_37 rfl rfl dX6_turnTo_7 rfl ?_
  refine ef_iadd (q := 11) dX6_turnTo_10 rfl ?_
  refine ef_aload_n (q := 12) 0 dX6_turnTo_11 rfl rfl rfl ?_
  refine ef_getI (x := s.1 0 9) (q := 15) rfl fl6_37 rfl rfl dX6_turnTo_12 rfl ?_
  refine ef_guard (fun g1 => ?_)
  refine ef_irem (q := 16) dX6_turnTo_15 g1 rfl ?_
  refine ef_istore_n (lv' := [(2, .int (((x1 - (s.1 0 15)) + (s.1 0 9)) - ((x1 - (s.1 0 15)) + (s.1 0 9)) / (s.1 0 9) * (s.1 0 9))), (0, .ref (pl 0)), (1, .int x1)]) (q := 17) dX6_turnTo_16 rfl (by decide) rfl rfl ?_
  refine ef_iload_n (q := 18) 0 dX6_turnTo_17 rfl rfl rfl ?_
  refine ef_aload_n (q := 19) 1 dX6_turnTo_18 rfl rfl rfl ?_
  refine ef_getI (x := s.1 0 9) (q := 22) rfl fl6_37 rfl rfl dX6_turnTo_19 rfl ?_
  refine ef_iload_n (q := 23) 0 dX6_turnTo_22 rfl rfl rfl ?_
  refine ef_isub (q := 24) dX6_turnTo_23 rfl ?_
  refine ef_if (pt := 31) (pf := 27) (fun _ _ => ev_icmp_gt (tgt := 31) dX6_turnTo_24 (by decide)) (fun h2 => ?_) (fun h2 => ?_)
  · refine ef_bipush (v := (6 : Int32)) (q := 33) dX6_turnTo_31 (by decide) rfl ?_
    exact ef_iret rfl dX6_turnTo_33
  · refine ef_iconst (v := (5 : Int32)) (q := 28) dX6_turnTo_27 (by decide) rfl ?_
    refine ef_goto (tgt := 33) dX6_turnTo_28 (by decide) ?_
    exact ef_iret rfl dX6_turnTo_33
theorem okX6_turnTo (x1 : Int32) : MtF 0 mX6_turnTo lyR rvI (fun _ pl => [.ref (pl 0), .int x1]) (fX6_turnTo x1) := by
  refine MtF.of (by decide +kernel) rfl (fun _ pl => Nat.le_of_ble_eq_true rfl) (fun G pl h0 s => ?_)
  refine ef_sub (lv := [(0, .ref (pl 0)), (1, .int x1)]) (lv' := [(0, .ref (pl 0)), (1, .int x1)]) [0, 1] rfl ?_
  exact okX6_turnTo_0  x1 s
-- X6_wettestAct
theorem dX6_wettestAct_0 : decode cX6_wettestAct 0 = .ok (.aload_n 0, 1) := by decide +kernel
theorem dX6_wettestAct_1 : decode cX6_wettestAct 1 = .ok (.invokevirtual 298, 3) := by decide +kernel
theorem dX6_wettestAct_4 : decode cX6_wettestAct 4 = .ok (.istore_n 1, 1) := by decide +kernel
theorem dX6_wettestAct_5 : decode cX6_wettestAct 5 = .ok (.iload_n 1, 1) := by decide +kernel
theorem dX6_wettestAct_6 : decode cX6_wettestAct 6 = .ok (.aload_n 0, 1) := by decide +kernel
theorem dX6_wettestAct_7 : decode cX6_wettestAct 7 = .ok (.getfield 126, 3) := by decide +kernel
theorem dX6_wettestAct_10 : decode cX6_wettestAct 10 = .ok (.if_icmp .eq 9, 3) := by decide +kernel
theorem dX6_wettestAct_13 : decode cX6_wettestAct 13 = .ok (.aload_n 0, 1) := by decide +kernel
theorem dX6_wettestAct_14 : decode cX6_wettestAct 14 = .ok (.iload_n 1, 1) := by decide +kernel
theorem dX6_wettestAct_15 : decode cX6_wettestAct 15 = .ok (.invokevirtual 301, 3) := by decide +kernel
theorem dX6_wettestAct_18 : decode cX6_wettestAct 18 = .ok (.ireturn, 1) := by decide +kernel
theorem dX6_wettestAct_19 : decode cX6_wettestAct 19 = .ok (.aload_n 0, 1) := by decide +kernel
theorem dX6_wettestAct_20 : decode cX6_wettestAct 20 = .ok (.getfield 52, 3) := by decide +kernel
theorem dX6_wettestAct_23 : decode cX6_wettestAct 23 = .ok (.aload_n 0, 1) := by decide +kernel
theorem dX6_wettestAct_24 : decode cX6_wettestAct 24 = .ok (.getfield 126, 3) := by decide +kernel
theorem dX6_wettestAct_27 : decode cX6_wettestAct 27 = .ok (.iaload, 1) := by decide +kernel
theorem dX6_wettestAct_28 : decode cX6_wettestAct 28 = .ok (.ifCond .le 7, 3) := by decide +kernel
theorem dX6_wettestAct_31 : decode cX6_wettestAct 31 = .ok (.iconst 4, 1) := by decide +kernel
theorem dX6_wettestAct_32 : decode cX6_wettestAct 32 = .ok (.goto 4, 3) := by decide +kernel
theorem dX6_wettestAct_35 : decode cX6_wettestAct 35 = .ok (.iconst 0, 1) := by decide +kernel
theorem dX6_wettestAct_36 : decode cX6_wettestAct 36 = .ok (.istore_n 2, 1) := by decide +kernel
theorem dX6_wettestAct_37 : decode cX6_wettestAct 37 = .ok (.aload_n 0, 1) := by decide +kernel
theorem dX6_wettestAct_38 : decode cX6_wettestAct 38 = .ok (.getfield 52, 3) := by decide +kernel
theorem dX6_wettestAct_41 : decode cX6_wettestAct 41 = .ok (.aload_n 0, 1) := by decide +kernel
theorem dX6_wettestAct_42 : decode cX6_wettestAct 42 = .ok (.getfield 126, 3) := by decide +kernel
theorem dX6_wettestAct_45 : decode cX6_wettestAct 45 = .ok (.iaload, 1) := by decide +kernel
theorem dX6_wettestAct_46 : decode cX6_wettestAct 46 = .ok (.istore_n 3, 1) := by decide +kernel
theorem dX6_wettestAct_47 : decode cX6_wettestAct 47 = .ok (.iconst 0, 1) := by decide +kernel
theorem dX6_wettestAct_48 : decode cX6_wettestAct 48 = .ok (.istore 4, 2) := by decide +kernel
theorem dX6_wettestAct_50 : decode cX6_wettestAct 50 = .ok (.iload 4, 2) := by decide +kernel
theorem dX6_wettestAct_52 : decode cX6_wettestAct 52 = .ok (.aload_n 0, 1) := by decide +kernel
theorem dX6_wettestAct_53 : decode cX6_wettestAct 53 = .ok (.getfield 93, 3) := by decide +kernel
theorem dX6_wettestAct_56 : decode cX6_wettestAct 56 = .ok (.if_icmp .ge 43, 3) := by decide +kernel
theorem dX6_wettestAct_59 : decode cX6_wettestAct 59 = .ok (.aload_n 0, 1) := by decide +kernel
theorem dX6_wettestAct_60 : decode cX6_wettestAct 60 = .ok (.getfield 49, 3) := by decide +kernel
theorem dX6_wettestAct_63 : decode cX6_wettestAct 63 = .ok (.iload 4, 2) := by decide +kernel
theorem dX6_wettestAct_65 : decode cX6_wettestAct 65 = .ok (.aaload, 1) := by decide +kernel
theorem dX6_wettestAct_66 : decode cX6_wettestAct 66 = .ok (.aload_n 0, 1) := by decide +kernel
theorem dX6_wettestAct_67 : decode cX6_wettestAct 67 = .ok (.getfield 126, 3) := by decide +kernel
theorem dX6_wettestAct_70 : decode cX6_wettestAct 70 = .ok (.iaload, 1) := by decide +kernel
theorem dX6_wettestAct_71 : decode cX6_wettestAct 71 = .ok (.iload_n 3, 1) := by decide +kernel
theorem dX6_wettestAct_72 : decode cX6_wettestAct 72 = .ok (.if_icmp .le 21, 3) := by decide +kernel
theorem dX6_wettestAct_75 : decode cX6_wettestAct 75 = .ok (.iload 4, 2) := by decide +kernel
theorem dX6_wettestAct_77 : decode cX6_wettestAct 77 = .ok (.iconst 1, 1) := by decide +kernel
theorem dX6_wettestAct_78 : decode cX6_wettestAct 78 = .ok (.iadd, 1) := by decide +kernel
theorem dX6_wettestAct_79 : decode cX6_wettestAct 79 = .ok (.istore_n 2, 1) := by decide +kernel
theorem dX6_wettestAct_80 : decode cX6_wettestAct 80 = .ok (.aload_n 0, 1) := by decide +kernel
theorem dX6_wettestAct_81 : decode cX6_wettestAct 81 = .ok (.getfield 49, 3) := by decide +kernel
theorem dX6_wettestAct_84 : decode cX6_wettestAct 84 = .ok (.iload 4, 2) := by decide +kernel
theorem dX6_wettestAct_86 : decode cX6_wettestAct 86 = .ok (.aaload, 1) := by decide +kernel
theorem dX6_wettestAct_87 : decode cX6_wettestAct 87 = .ok (.aload_n 0, 1) := by decide +kernel
theorem dX6_wettestAct_88 : decode cX6_wettestAct 88 = .ok (.getfield 126, 3) := by decide +kernel
theorem dX6_wettestAct_91 : decode cX6_wettestAct 91 = .ok (.iaload, 1) := by decide +kernel
theorem dX6_wettestAct_92 : decode cX6_wettestAct 92 = .ok (.istore_n 3, 1) := by decide +kernel
theorem dX6_wettestAct_93 : decode cX6_wettestAct 93 = .ok (.iinc 4 1, 3) := by decide +kernel
theorem dX6_wettestAct_96 : decode cX6_wettestAct 96 = .ok (.goto (-46), 3) := by decide +kernel
theorem dX6_wettestAct_99 : decode cX6_wettestAct 99 = .ok (.iload_n 2, 1) := by decide +kernel
theorem dX6_wettestAct_100 : decode cX6_wettestAct 100 = .ok (.ireturn, 1) := by decide +kernel
def fX6_wettestAct_50 : Nat → Int32 → Int32 → Int32 → SS → Option (Int32 × SS)
  | 0, _, _, _, _ => none
  | n + 1, x2, x3, x4, s => if (s.1 0 10) ≤ x4 then (some (x2, s)) else (if ixB x4 3 then (if ixB (s.1 0 15) 8 then (if (s.1 (20 + x4.toNatClampNeg) ((s.1 0 15).toNatClampNeg)) ≤ x3 then (fX6_wettestAct_50 n x2 x3 (x4 + (1 : Int32)) s) else (if ixB x4 3 then (if ixB (s.1 0 15) 8 then (fX6_wettestAct_50 n (x4 + (1 : Int32)) (s.1 (20 + x4.toNatClampNeg) ((s.1 0 15).toNatClampNeg)) (x4 + (1 : Int32)) s) else none) else none)) else none) else none)
def fX6_wettestAct_36 (y0 : Int32) (s : SS) : Option (Int32 × SS) := if ixB (s.1 0 15) 8 then (fX6_wettestAct_50 FU y0 (s.1 23 ((s.1 0 15).toNatClampNeg)) (0 : Int32) s) else none
def fX6_wettestAct_0 (s : SS) : Option (Int32 × SS) := ((fX6_wettestSide s).bind fun z1 => if z1.1 = (z1.2.1 0 15) then (if ixB (z1.2.1 0 15) 8 then (if (z1.2.1 23 ((z1.2.1 0 15).toNatClampNeg)) ≤ 0 then (fX6_wettestAct_36 (0 : Int32) z1.2) else (fX6_wettestAct_36 (4 : Int32) z1.2)) else none) else (((fX6_turnTo z1.1 z1.2).bind fun z5 => some (z5.1, z5.2))))
def fX6_wettestAct (s : SS) : Option (Int32 × SS) := fX6_wettestAct_0 s
set_option maxRecDepth 100000 in
set_option maxHeartbeats 4000000 in
theorem okX6_wettestAct_50 {G : GG} {pl : Nat → Nat} {h0 : PH} : ∀ (n : Nat) (x2 : Int32) (x3 : Int32) (x4 : Int32) (s : SS), EvF G 2 mX6_wettestAct lyR pl h0 rvI (fX6_wettestAct_50 n x2 x3 x4 s) 50 [(0, .ref (pl 0)), (2, .int x2), (3, .int x3), (4, .int x4)] [] s := by
  intro n
  induction n with
  | zero => intro x2 x3 x4 s; rw [fX6_wettestAct_50]; exact ef_none
  | succ n ih =>
    intro x2 x3 x4 s
    rw [fX6_wettestAct_50]
    refine ef_iload (q := 52) 3 dX6_wettestAct_50 rfl rfl ?_
    refine ef_aload_n (q := 53) 0 dX6_wettestAct_52 rfl rfl rfl ?_
    refine ef_getI (x := s.1 0 10) (q := 56) rfl fl6_93 rfl rfl dX6_wettestAct_53 rfl ?_
    refine ef_if (pt := 99) (pf := 59) (fun _ _ => ev_icmp_ge (tgt := 99) dX6_wettestAct_56 (by decide)) (fun h1 => ?_) (fun h1 => ?_)
    · refine ef_iload_n (q := 100) 1 dX6_wettestAct_99 rfl rfl rfl ?_
      exact ef_iret rfl dX6_wettestAct_100
    · refine ef_aload_n (q := 60) 0 dX6_wettestAct_59 rfl rfl rfl ?_
      refine ef_getR (t := 19) (q := 63) rfl fl6_49 rfl rfl dX6_wettestAct_60 rfl ?_
      refine ef_iload (q := 65) 3 dX6_wettestAct_63 rfl rfl ?_
      refine ef_guard (fun g2 => ?_)
      refine ef_aaload (t0 := 20 + x4.toNatClampNeg) (q := 66) rfl (by decide) lyR_t19 g2 dX6_wettestAct_65 rfl rfl ?_
      refine ef_aload_n (q := 67) 0 dX6_wettestAct_66 rfl rfl rfl ?_
      refine ef_getI (x := s.1 0 15) (q := 70) rfl fl6_126 rfl rfl dX6_wettestAct_67 rfl ?_
      refine ef_guard (fun g3 => ?_)
      refine ef_iaload (x := s.1 (20 + x4.toNatClampNeg) ((s.1 0 15).toNatClampNeg)) (q := 71) (lyR_f19_0 _ (ixB_lt g2)) g3 dX6_wettestAct_70 rfl rfl ?_
      refine ef_iload_n (q := 72) 2 dX6_wettestAct_71 rfl rfl rfl ?_
      refine ef_if (pt := 93) (pf := 75) (fun _ _ => ev_icmp_le (tgt := 93) dX6_wettestAct_72 (by decide)) (fun h4 => ?_) (fun h4 => ?_)
      · refine ef_iinc (v := x4 + (1 : Int32)) (lv' := [(4, .int (x4 + (1 : Int32))), (0, .ref (pl 0)), (2, .int x2), (3, .int x3)]) (q := 96) 3 dX6_wettestAct_93 rfl rfl (by decide) rfl rfl ?_
        refine ef_goto (tgt := 50) dX6_wettestAct_96 (by decide) ?_
        refine ef_sub (lv' := [(0, .ref (pl 0)), (2, .int x2), (3, .int x3), (4, .int (x4 + (1 : Int32)))]) [1, 2, 3, 0] rfl ?_
        exact ih x2 x3 (x4 + (1 : Int32)) s
      · refine ef_iload (q := 77) 3 dX6_wettestAct_75 rfl rfl ?_
        refine ef_iconst (v := (1 : Int32)) (q := 78) dX6_wettestAct_77 (by decide) rfl ?_
        refine ef_iadd (q := 79) dX6_wettestAct_78 rfl ?_
        refine ef_istore_n (lv' := [(2, .int (x4 + (1 : Int32))), (0, .ref (pl 0)), (3, .int x3), (4, .int x4)]) (q := 80) dX6_wettestAct_79 rfl (by decide) rfl rfl ?_
        refine ef_aload_n (q := 81) 1 dX6_wettestAct_80 rfl rfl rfl ?_
        refine ef_getR (t := 19) (q := 84) rfl fl6_49 rfl rfl dX6_wettestAct_81 rfl ?_
        refine ef_iload (q := 86) 3 dX6_wettestAct_84 rfl rfl ?_
        refine ef_guard (fun g5 => ?_)
        refine ef_aaload (t0 := 20 + x4.toNatClampNeg) (q := 87) rfl (by decide) lyR_t19 g5 dX6_wettestAct_86 rfl rfl ?_
        refine ef_aload_n (q := 88) 1 dX6_wettestAct_87 rfl rfl rfl ?_
        refine ef_getI (x := s.1 0 15) (q := 91) rfl fl6_126 rfl rfl dX6_wettestAct_88 rfl ?_
        refine ef_guard (fun g6 => ?_)
        refine ef_iaload (x := s.1 (20 + x4.toNatClampNeg) ((s.1 0 15).toNatClampNeg)) (q := 92) (lyR_f19_0 _ (ixB_lt g5)) g6 dX6_wettestAct_91 rfl rfl ?_
        refine ef_istore_n (lv' := [(3, .int (s.1 (20 + x4.toNatClampNeg) ((s.1 0 15).toNatClampNeg))), (2, .int (x4 + (1 : Int32))), (0, .ref (pl 0)), (4, .int x4)]) (q := 93) dX6_wettestAct_92 rfl (by decide) rfl rfl ?_
        refine ef_iinc (v := x4 + (1 : Int32)) (lv' := [(4, .int (x4 + (1 : Int32))), (3, .int (s.1 (20 + x4.toNatClampNeg) ((s.1 0 15).toNatClampNeg))), (2, .int (x4 + (1 : Int32))), (0, .ref (pl 0))]) (q := 96) 3 dX6_wettestAct_93 rfl rfl (by decide) rfl rfl ?_
        refine ef_goto (tgt := 50) dX6_wettestAct_96 (by decide) ?_
        refine ef_sub (lv' := [(0, .ref (pl 0)), (2, .int (x4 + (1 : Int32))), (3, .int (s.1 (20 + x4.toNatClampNeg) ((s.1 0 15).toNatClampNeg))), (4, .int (x4 + (1 : Int32)))]) [3, 2, 1, 0] rfl ?_
        exact ih (x4 + (1 : Int32)) (s.1 (20 + x4.toNatClampNeg) ((s.1 0 15).toNatClampNeg)) (x4 + (1 : Int32)) s
set_option maxRecDepth 100000 in
set_option maxHeartbeats 4000000 in
theorem okX6_wettestAct_36 {G : GG} {pl : Nat → Nat} {h0 : PH} (y0 : Int32) (s : SS) : EvF G 2 mX6_wettestAct lyR pl h0 rvI (fX6_wettestAct_36 y0 s) 36 [(0, .ref (pl 0))] [.int y0] s := by
  unfold fX6_wettestAct_36
  refine ef_istore_n (lv' := [(2, .int y0), (0, .ref (pl 0))]) (q := 37) dX6_wettestAct_36 rfl (by decide) rfl rfl ?_
  refine ef_aload_n (q := 38) 1 dX6_wettestAct_37 rfl rfl rfl ?_
  refine ef_getR (t := 23) (q := 41) rfl fl6_52 rfl rfl dX6_wettestAct_38 rfl ?_
  refine ef_aload_n (q := 42) 1 dX6_wettestAct_41 rfl rfl rfl ?_
  refine ef_getI (x := s.1 0 15) (q := 45) rfl fl6_126 rfl rfl dX6_wettestAct_42 rfl ?_
  refine ef_guard (fun g1 => ?_)
  refine ef_iaload (x := s.1 23 ((s.1 0 15).toNatClampNeg)) (q := 46) rfl g1 dX6_wettestAct_45 rfl rfl ?_
  refine ef_istore_n (lv' := [(3, .int (s.1 23 ((s.1 0 15).toNatClampNeg))), (2, .int y0), (0, .ref (pl 0))]) (q := 47) dX6_wettestAct_46 rfl (by decide) rfl rfl ?_
  refine ef_iconst (v := (0 : Int32)) (q := 48) dX6_wettestAct_47 (by decide) rfl ?_
  refine ef_istore (lv' := [(4, .int (0 : Int32)), (3, .int (s.1 23 ((s.1 0 15).toNatClampNeg))), (2, .int y0), (0, .ref (pl 0))]) (q := 50) dX6_wettestAct_48 (by decide) rfl rfl ?_
  refine ef_sub (lv' := [(0, .ref (pl 0)), (2, .int y0), (3, .int (s.1 23 ((s.1 0 15).toNatClampNeg))), (4, .int (0 : Int32))]) [3, 2, 1, 0] rfl ?_
  exact okX6_wettestAct_50 FU y0 (s.1 23 ((s.1 0 15).toNatClampNeg)) (0 : Int32) s
set_option maxRecDepth 100000 in
set_option maxHeartbeats 4000000 in
theorem okX6_wettestAct_0 {G : GG} {pl : Nat → Nat} {h0 : PH} (s : SS) : EvF G 2 mX6_wettestAct lyR pl h0 rvI (fX6_wettestAct_0 s) 0 [(0, .ref (pl 0))] [] s := by
  unfold fX6_wettestAct_0
  refine ef_aload_n (q := 1) 0 dX6_wettestAct_0 rfl rfl rfl ?_
  refine ef_invVI0 (k := 0) (As := []) (rest := []) (q := 4) (okX6_wettestSide) rfl calX6_wettestSide ml6_298 (by decide) rfl rfl rfl (Nat.le_of_ble_eq_true rfl) dX6_wettestAct_1 rfl (fun z1 => ?_)
  refine ef_istore_n (lv' := [(1, .int z1.1), (0, .ref (pl 0))]) (q := 5) dX6_wettestAct_4 rfl (by decide) rfl rfl ?_
  refine ef_iload_n (q := 6) 0 dX6_wettestAct_5 rfl rfl rfl ?_
  refine ef_aload_n (q := 7) 1 dX6_wettestAct_6 rfl rfl rfl ?_
  refine ef_getI (x := z1.2.1 0 15) (q := 10) rfl fl6_126 rfl rfl dX6_wettestAct_7 rfl ?_
  refine ef_if (pt := 19) (pf := 13) (fun _ _ => ev_icmp_eq (tgt := 19) dX6_wettestAct_10 (by decide)) (fun h2 => ?_) (fun h2 => ?_)
  · refine ef_aload_n (q := 20) 1 dX6_wettestAct_19 rfl rfl rfl ?_
    refine ef_getR (t := 23) (q := 23) rfl fl6_52 rfl rfl dX6_wettestAct_20 rfl ?_
    refine ef_aload_n (q := 24) 1 dX6_wettestAct_23 rfl rfl rfl ?_
    refine ef_getI (x := z1.2.1 0 15) (q := 27) rfl fl6_126 rfl rfl dX6_wettestAct_24 rfl ?_
    refine ef_guard (fun g3 => ?_)
    refine ef_iaload (x := z1.2.1 23 ((z1.2.1 0 15).toNatClampNeg)) (q := 28) rfl g3 dX6_wettestAct_27 rfl rfl ?_
    refine ef_if (pt := 35) (pf := 31) (fun _ _ => ev_if_le (tgt := 35) dX6_wettestAct_28 (by decide)) (fun h4 => ?_) (fun h4 => ?_)
    · refine ef_iconst (v := (0 : Int32)) (q := 36) dX6_wettestAct_35 (by decide) rfl ?_
      refine ef_sub (lv' := [(0, .ref (pl 0))]) [1] rfl ?_
      exact okX6_wettestAct_36 (0 : Int32) z1.2
    · refine ef_iconst (v := (4 : Int32)) (q := 32) dX6_wettestAct_31 (by decide) rfl ?_
      refine ef_goto (tgt := 36) dX6_wettestAct_32 (by decide) ?_
      refine ef_sub (lv' := [(0, .ref (pl 0))]) [1] rfl ?_
      exact okX6_wettestAct_36 (4 : Int32) z1.2
  · refine ef_aload_n (q := 14) 1 dX6_wettestAct_13 rfl rfl rfl ?_
    refine ef_iload_n (q := 15) 0 dX6_wettestAct_14 rfl rfl rfl ?_
    refine ef_invVI0 (k := 0) (As := [.int z1.1]) (rest := []) (q := 18) (okX6_turnTo z1.1) rfl calX6_turnTo ml6_301 (by decide) rfl rfl rfl (Nat.le_of_ble_eq_true rfl) dX6_wettestAct_15 rfl (fun z5 => ?_)
    exact ef_iret rfl dX6_wettestAct_18
theorem okX6_wettestAct : MtF 2 mX6_wettestAct lyR rvI (fun _ pl => [.ref (pl 0)]) (fX6_wettestAct) := by
  refine MtF.of (by decide +kernel) rfl (fun _ pl => Nat.le_of_ble_eq_true rfl) (fun G pl h0 s => ?_)
  refine ef_sub (lv := [(0, .ref (pl 0))]) (lv' := [(0, .ref (pl 0))]) [0] rfl ?_
  exact okX6_wettestAct_0  s
-- X6_isMore
theorem dX6_isMore_0 : decode cX6_isMore 0 = .ok (.aload_n 0, 1) := by decide +kernel
theorem dX6_isMore_1 : decode cX6_isMore 1 = .ok (.getfield 52, 3) := by decide +kernel
theorem dX6_isMore_4 : decode cX6_isMore 4 = .ok (.iload_n 1, 1) := by decide +kernel
theorem dX6_isMore_5 : decode cX6_isMore 5 = .ok (.iaload, 1) := by decide +kernel
theorem dX6_isMore_6 : decode cX6_isMore 6 = .ok (.aload_n 0, 1) := by decide +kernel
theorem dX6_isMore_7 : decode cX6_isMore 7 = .ok (.getfield 52, 3) := by decide +kernel
theorem dX6_isMore_10 : decode cX6_isMore 10 = .ok (.iload_n 2, 1) := by decide +kernel
theorem dX6_isMore_11 : decode cX6_isMore 11 = .ok (.iaload, 1) := by decide +kernel
theorem dX6_isMore_12 : decode cX6_isMore 12 = .ok (.if_icmp .eq 24, 3) := by decide +kernel
theorem dX6_isMore_15 : decode cX6_isMore 15 = .ok (.aload_n 0, 1) := by decide +kernel
theorem dX6_isMore_16 : decode cX6_isMore 16 = .ok (.getfield 52, 3) := by decide +kernel
theorem dX6_isMore_19 : decode cX6_isMore 19 = .ok (.iload_n 1, 1) := by decide +kernel
theorem dX6_isMore_20 : decode cX6_isMore 20 = .ok (.iaload, 1) := by decide +kernel
theorem dX6_isMore_21 : decode cX6_isMore 21 = .ok (.aload_n 0, 1) := by decide +kernel
theorem dX6_isMore_22 : decode cX6_isMore 22 = .ok (.getfield 52, 3) := by decide +kernel
theorem dX6_isMore_25 : decode cX6_isMore 25 = .ok (.iload_n 2, 1) := by decide +kernel
theorem dX6_isMore_26 : decode cX6_isMore 26 = .ok (.iaload, 1) := by decide +kernel
theorem dX6_isMore_27 : decode cX6_isMore 27 = .ok (.if_icmp .le 7, 3) := by decide +kernel
theorem dX6_isMore_30 : decode cX6_isMore 30 = .ok (.iconst 1, 1) := by decide +kernel
theorem dX6_isMore_31 : decode cX6_isMore 31 = .ok (.goto 4, 3) := by decide +kernel
theorem dX6_isMore_34 : decode cX6_isMore 34 = .ok (.iconst 0, 1) := by decide +kernel
theorem dX6_isMore_35 : decode cX6_isMore 35 = .ok (.ireturn, 1) := by decide +kernel
theorem dX6_isMore_36 : decode cX6_isMore 36 = .ok (.iconst 0, 1) := by decide +kernel
theorem dX6_isMore_37 : decode cX6_isMore 37 = .ok (.istore_n 3, 1) := by decide +kernel
theorem dX6_isMore_38 : decode cX6_isMore 38 = .ok (.iload_n 3, 1) := by decide +kernel
theorem dX6_isMore_39 : decode cX6_isMore 39 = .ok (.aload_n 0, 1) := by decide +kernel
theorem dX6_isMore_40 : decode cX6_isMore 40 = .ok (.getfield 93, 3) := by decide +kernel
theorem dX6_isMore_43 : decode cX6_isMore 43 = .ok (.if_icmp .ge 53, 3) := by decide +kernel
theorem dX6_isMore_46 : decode cX6_isMore 46 = .ok (.aload_n 0, 1) := by decide +kernel
theorem dX6_isMore_47 : decode cX6_isMore 47 = .ok (.getfield 49, 3) := by decide +kernel
theorem dX6_isMore_50 : decode cX6_isMore 50 = .ok (.iload_n 3, 1) := by decide +kernel
theorem dX6_isMore_51 : decode cX6_isMore 51 = .ok (.aaload, 1) := by decide +kernel
theorem dX6_isMore_52 : decode cX6_isMore 52 = .ok (.iload_n 1, 1) := by decide +kernel
theorem dX6_isMore_53 : decode cX6_isMore 53 = .ok (.iaload, 1) := by decide +kernel
theorem dX6_isMore_54 : decode cX6_isMore 54 = .ok (.aload_n 0, 1) := by decide +kernel
theorem dX6_isMore_55 : decode cX6_isMore 55 = .ok (.getfield 49, 3) := by decide +kernel
theorem dX6_isMore_58 : decode cX6_isMore 58 = .ok (.iload_n 3, 1) := by decide +kernel
theorem dX6_isMore_59 : decode cX6_isMore 59 = .ok (.aaload, 1) := by decide +kernel
theorem dX6_isMore_60 : decode cX6_isMore 60 = .ok (.iload_n 2, 1) := by decide +kernel
theorem dX6_isMore_61 : decode cX6_isMore 61 = .ok (.iaload, 1) := by decide +kernel
theorem dX6_isMore_62 : decode cX6_isMore 62 = .ok (.if_icmp .eq 28, 3) := by decide +kernel
theorem dX6_isMore_65 : decode cX6_isMore 65 = .ok (.aload_n 0, 1) := by decide +kernel
theorem dX6_isMore_66 : decode cX6_isMore 66 = .ok (.getfield 49, 3) := by decide +kernel
theorem dX6_isMore_69 : decode cX6_isMore 69 = .ok (.iload_n 3, 1) := by decide +kernel
theorem dX6_isMore_70 : decode cX6_isMore 70 = .ok (.aaload, 1) := by decide +kernel
theorem dX6_isMore_71 : decode cX6_isMore 71 = .ok (.iload_n 1, 1) := by decide +kernel
theorem dX6_isMore_72 : decode cX6_isMore 72 = .ok (.iaload, 1) := by decide +kernel
theorem dX6_isMore_73 : decode cX6_isMore 73 = .ok (.aload_n 0, 1) := by decide +kernel
theorem dX6_isMore_74 : decode cX6_isMore 74 = .ok (.getfield 49, 3) := by decide +kernel
theorem dX6_isMore_77 : decode cX6_isMore 77 = .ok (.iload_n 3, 1) := by decide +kernel
theorem dX6_isMore_78 : decode cX6_isMore 78 = .ok (.aaload, 1) := by decide +kernel
theorem dX6_isMore_79 : decode cX6_isMore 79 = .ok (.iload_n 2, 1) := by decide +kernel
theorem dX6_isMore_80 : decode cX6_isMore 80 = .ok (.iaload, 1) := by decide +kernel
theorem dX6_isMore_81 : decode cX6_isMore 81 = .ok (.if_icmp .le 7, 3) := by decide +kernel
theorem dX6_isMore_84 : decode cX6_isMore 84 = .ok (.iconst 1, 1) := by decide +kernel
theorem dX6_isMore_85 : decode cX6_isMore 85 = .ok (.goto 4, 3) := by decide +kernel
theorem dX6_isMore_88 : decode cX6_isMore 88 = .ok (.iconst 0, 1) := by decide +kernel
theorem dX6_isMore_89 : decode cX6_isMore 89 = .ok (.ireturn, 1) := by decide +kernel
theorem dX6_isMore_90 : decode cX6_isMore 90 = .ok (.iinc 3 1, 3) := by decide +kernel
theorem dX6_isMore_93 : decode cX6_isMore 93 = .ok (.goto (-55), 3) := by decide +kernel
theorem dX6_isMore_96 : decode cX6_isMore 96 = .ok (.iconst 0, 1) := by decide +kernel
theorem dX6_isMore_97 : decode cX6_isMore 97 = .ok (.ireturn, 1) := by decide +kernel
def fX6_isMore_38 : Nat → Int32 → Int32 → Int32 → SS → Option (Int32 × SS)
  | 0, _, _, _, _ => none
  | n + 1, x1, x2, x3, s => if (s.1 0 10) ≤ x3 then (some ((0 : Int32), s)) else (if ixB x3 3 then (if ixB x1 8 then (if ixB x3 3 then (if ixB x2 8 then (if (s.1 (20 + x3.toNatClampNeg) x1.toNatClampNeg) = (s.1 (20 + x3.toNatClampNeg) x2.toNatClampNeg) then (fX6_isMore_38 n x1 x2 (x3 + (1 : Int32)) s) else (if ixB x3 3 then (if ixB x1 8 then (if ixB x3 3 then (if ixB x2 8 then (if (s.1 (20 + x3.toNatClampNeg) x1.toNatClampNeg) ≤ (s.1 (20 + x3.toNatClampNeg) x2.toNatClampNeg) then (some ((0 : Int32), s)) else (some ((1 : Int32), s))) else none) else none) else none) else none)) else none) else none) else none) else none)
def fX6_isMore_0 (x1 : Int32) (x2 : Int32) (s : SS) : Option (Int32 × SS) := if ixB x1 8 then (if ixB x2 8 then (if (s.1 23 x1.toNatClampNeg) = (s.1 23 x2.toNatClampNeg) then (fX6_isMore_38 FU x1 x2 (0 : Int32) s) else (if ixB x1 8 then (if ixB x2 8 then (if (s.1 23 x1.toNatClampNeg) ≤ (s.1 23 x2.toNatClampNeg) then (some ((0 : Int32), s)) else (some ((1 : Int32), s))) else none) else none)) else none) else none
def fX6_isMore (x1 : Int32) (x2 : Int32) (s : SS) : Option (Int32 × SS) := fX6_isMore_0 x1 x2 s
set_option maxRecDepth 100000 in
set_option maxHeartbeats 4000000 in
theorem okX6_isMore_38 {G : GG} {pl : Nat → Nat} {h0 : PH} : ∀ (n : Nat) (x1 : Int32) (x2 : Int32) (x3 : Int32) (s : SS), EvF G 0 mX6_isMore lyR pl h0 rvI (fX6_isMore_38 n x1 x2 x3 s) 38 [(0, .ref (pl 0)), (1, .int x1), (2, .int x2), (3, .int x3)] [] s := by
  intro n
  induction n with
  | zero => intro x1 x2 x3 s; rw [fX6_isMore_38]; exact ef_none
  | succ n ih =>
    intro x1 x2 x3 s
    rw [fX6_isMore_38]
    refine ef_iload_n (q := 39) 3 dX6_isMore_38 rfl rfl rfl ?_
    refine ef_aload_n (q := 40) 0 dX6_isMore_39 rfl rfl rfl ?_
    refine ef_getI (x := s.1 0 10) (q := 43) rfl fl6_93 rfl rfl dX6_isMore_40 rfl ?_
    refine ef_if (pt := 96) (pf := 46) (fun _ _ => ev_icmp_ge (tgt := 96) dX6_isMore_43 (by decide)) (fun h1 => ?_) (fun h1 => ?_)
    · refine ef_iconst (v := (0 : Int32)) (q := 97) dX6_isMore_96 (by decide) rfl ?_
      exact ef_zretc (x := (0 : Int32)) (by decide) rfl dX6_isMore_97
    · refine ef_aload_n (q := 47) 0 dX6_isMore_46 rfl rfl rfl ?_
      refine ef_getR (t := 19) (q := 50) rfl fl6_49 rfl rfl dX6_isMore_47 rfl ?_
      refine ef_iload_n (q := 51) 3 dX6_isMore_50 rfl rfl rfl ?_
      refine ef_guard (fun g2 => ?_)
      refine ef_aaload (t0 := 20 + x3.toNatClampNeg) (q := 52) rfl (by decide) lyR_t19 g2 dX6_isMore_51 rfl rfl ?_
      refine ef_iload_n (q := 53) 1 dX6_isMore_52 rfl rfl rfl ?_
      refine ef_guard (fun g3 => ?_)
      refine ef_iaload (x := s.1 (20 + x3.toNatClampNeg) x1.toNatClampNeg) (q := 54) (lyR_f19_0 _ (ixB_lt g2)) g3 dX6_isMore_53 rfl rfl ?_
      refine ef_aload_n (q := 55) 0 dX6_isMore_54 rfl rfl rfl ?_
      refine ef_getR (t := 19) (q := 58) rfl fl6_49 rfl rfl dX6_isMore_55 rfl ?_
      refine ef_iload_n (q := 59) 3 dX6_isMore_58 rfl rfl rfl ?_
      refine ef_guard (fun g4 => ?_)
      refine ef_aaload (t0 := 20 + x3.toNatClampNeg) (q := 60) rfl (by decide) lyR_t19 g4 dX6_isMore_59 rfl rfl ?_
      refine ef_iload_n (q := 61) 2 dX6_isMore_60 rfl rfl rfl ?_
      refine ef_guard (fun g5 => ?_)
      refine ef_iaload (x := s.1 (20 + x3.toNatClampNeg) x2.toNatClampNeg) (q := 62) (lyR_f19_0 _ (ixB_lt g4)) g5 dX6_isMore_61 rfl rfl ?_
      refine ef_if (pt := 90) (pf := 65) (fun _ _ => ev_icmp_eq (tgt := 90) dX6_isMore_62 (by decide)) (fun h6 => ?_) (fun h6 => ?_)
      · refine ef_iinc (v := x3 + (1 : Int32)) (lv' := [(3, .int (x3 + (1 : Int32))), (0, .ref (pl 0)), (1, .int x1), (2, .int x2)]) (q := 93) 3 dX6_isMore_90 rfl rfl (by decide) rfl rfl ?_
        refine ef_goto (tgt := 38) dX6_isMore_93 (by decide) ?_
        refine ef_sub (lv' := [(0, .ref (pl 0)), (1, .int x1), (2, .int x2), (3, .int (x3 + (1 : Int32)))]) [1, 2, 3, 0] rfl ?_
        exact ih x1 x2 (x3 + (1 : Int32)) s
      · refine ef_aload_n (q := 66) 0 dX6_isMore_65 rfl rfl rfl ?_
        refine ef_getR (t := 19) (q := 69) rfl fl6_49 rfl rfl dX6_isMore_66 rfl ?_
        refine ef_iload_n (q := 70) 3 dX6_isMore_69 rfl rfl rfl ?_
        refine ef_guard (fun g7 => ?_)
        refine ef_aaload (t0 := 20 + x3.toNatClampNeg) (q := 71) rfl (by decide) lyR_t19 g7 dX6_isMore_70 rfl rfl ?_
        refine ef_iload_n (q := 72) 1 dX6_isMore_71 rfl rfl rfl ?_
        refine ef_guard (fun g8 => ?_)
        refine ef_iaload (x := s.1 (20 + x3.toNatClampNeg) x1.toNatClampNeg) (q := 73) (lyR_f19_0 _ (ixB_lt g7)) g8 dX6_isMore_72 rfl rfl ?_
        refine ef_aload_n (q := 74) 0 dX6_isMore_73 rfl rfl rfl ?_
        refine ef_getR (t := 19) (q := 77) rfl fl6_49 rfl rfl dX6_isMore_74 rfl ?_
        refine ef_iload_n (q := 78) 3 dX6_isMore_77 rfl rfl rfl ?_
        refine ef_guard (fun g9 => ?_)
        refine ef_aaload (t0 := 20 + x3.toNatClampNeg) (q := 79) rfl (by decide) lyR_t19 g9 dX6_isMore_78 rfl rfl ?_
        refine ef_iload_n (q := 80) 2 dX6_isMore_79 rfl rfl rfl ?_
        refine ef_guard (fun g10 => ?_)
        refine ef_iaload (x := s.1 (20 + x3.toNatClampNeg) x2.toNatClampNeg) (q := 81) (lyR_f19_0 _ (ixB_lt g9)) g10 dX6_isMore_80 rfl rfl ?_
        refine ef_if (pt := 88) (pf := 84) (fun _ _ => ev_icmp_le (tgt := 88) dX6_isMore_81 (by decide)) (fun h11 => ?_) (fun h11 => ?_)
        · refine ef_iconst (v := (0 : Int32)) (q := 89) dX6_isMore_88 (by decide) rfl ?_
          exact ef_zretc (x := (0 : Int32)) (by decide) rfl dX6_isMore_89
        · refine ef_iconst (v := (1 : Int32)) (q := 85) dX6_isMore_84 (by decide) rfl ?_
          refine ef_goto (tgt := 89) dX6_isMore_85 (by decide) ?_
          exact ef_zretc (x := (1 : Int32)) (by decide) rfl dX6_isMore_89
set_option maxRecDepth 100000 in
set_option maxHeartbeats 4000000 in
theorem okX6_isMore_0 {G : GG} {pl : Nat → Nat} {h0 : PH} (x1 : Int32) (x2 : Int32) (s : SS) : EvF G 0 mX6_isMore lyR pl h0 rvI (fX6_isMore_0 x1 x2 s) 0 [(0, .ref (pl 0)), (1, .int x1), (2, .int x2)] [] s := by
  unfold fX6_isMore_0
  refine ef_aload_n (q := 1) 0 dX6_isMore_0 rfl rfl rfl ?_
  refine ef_getR (t := 23) (q := 4) rfl fl6_52 rfl rfl dX6_isMore_1 rfl ?_
  refine ef_iload_n (q := 5) 1 dX6_isMore_4 rfl rfl rfl ?_
  refine ef_guard (fun g1 => ?_)
  refine ef_iaload (x := s.1 23 x1.toNatClampNeg) (q := 6) rfl g1 dX6_isMore_5 rfl rfl ?_
  refine ef_aload_n (q := 7) 0 dX6_isMore_6 rfl rfl rfl ?_
  refine ef_getR (t := 23) (q := 10) rfl fl6_52 rfl rfl dX6_isMore_7 rfl ?_
  refine ef_iload_n (q := 11) 2 dX6_isMore_10 rfl rfl rfl ?_
  refine ef_guard (fun g2 => ?_)
  refine ef_iaload (x := s.1 23 x2.toNatClampNeg) (q := 12) rfl g2 dX6_isMore_11 rfl rfl ?_
  refine ef_if (pt := 36) (pf := 15) (fun _ _ => ev_icmp_eq (tgt := 36) dX6_isMore_12 (by decide)) (fun h3 => ?_) (fun h3 => ?_)
  · refine ef_iconst (v := (0 : Int32)) (q := 37) dX6_isMore_36 (by decide) rfl ?_
    refine ef_istore_n (lv' := [(3, .int (0 : Int32)), (0, .ref (pl 0)), (1, .int x1), (2, .int x2)]) (q := 38) dX6_isMore_37 rfl (by decide) rfl rfl ?_
    refine ef_sub (lv' := [(0, .ref (pl 0)), (1, .int x1), (2, .int x2), (3, .int (0 : Int32))]) [1, 2, 3, 0] rfl ?_
    exact okX6_isMore_38 FU x1 x2 (0 : Int32) s
  · refine ef_aload_n (q := 16) 0 dX6_isMore_15 rfl rfl rfl ?_
    refine ef_getR (t := 23) (q := 19) rfl fl6_52 rfl rfl dX6_isMore_16 rfl ?_
    refine ef_iload_n (q := 20) 1 dX6_isMore_19 rfl rfl rfl ?_
    refine ef_guard (fun g4 => ?_)
    refine ef_iaload (x := s.1 23 x1.toNatClampNeg) (q := 21) rfl g4 dX6_isMore_20 rfl rfl ?_
    refine ef_aload_n (q := 22) 0 dX6_isMore_21 rfl rfl rfl ?_
    refine ef_getR (t := 23) (q := 25) rfl fl6_52 rfl rfl dX6_isMore_22 rfl ?_
    refine ef_iload_n (q := 26) 2 dX6_isMore_25 rfl rfl rfl ?_
    refine ef_guard (fun g5 => ?_)
    refine ef_iaload (x := s.1 23 x2.toNatClampNeg) (q := 27) rfl g5 dX6_isMore_26 rfl rfl ?_
    refine ef_if (pt := 34) (pf := 30) (fun _ _ => ev_icmp_le (tgt := 34) dX6_isMore_27 (by decide)) (fun h6 => ?_) (fun h6 => ?_)
    · refine ef_iconst (v := (0 : Int32)) (q := 35) dX6_isMore_34 (by decide) rfl ?_
      exact ef_zretc (x := (0 : Int32)) (by decide) rfl dX6_isMore_35
    · refine ef_iconst (v := (1 : Int32)) (q := 31) dX6_isMore_30 (by decide) rfl ?_
      refine ef_goto (tgt := 35) dX6_isMore_31 (by decide) ?_
      exact ef_zretc (x := (1 : Int32)) (by decide) rfl dX6_isMore_35
theorem okX6_isMore (x1 : Int32) (x2 : Int32) : MtF 0 mX6_isMore lyR rvI (fun _ pl => [.ref (pl 0), .int x1, .int x2]) (fX6_isMore x1 x2) := by
  refine MtF.of (by decide +kernel) rfl (fun _ pl => Nat.le_of_ble_eq_true rfl) (fun G pl h0 s => ?_)
  refine ef_sub (lv := [(0, .ref (pl 0)), (1, .int x1), (2, .int x2)]) (lv' := [(0, .ref (pl 0)), (1, .int x1), (2, .int x2)]) [0, 1, 2] rfl ?_
  exact okX6_isMore_0  x1 x2 s
-- X6_lowestAct
theorem dX6_lowestAct_0 : decode cX6_lowestAct 0 = .ok (.iconst 0, 1) := by decide +kernel
theorem dX6_lowestAct_1 : decode cX6_lowestAct 1 = .ok (.istore_n 1, 1) := by decide +kernel
theorem dX6_lowestAct_2 : decode cX6_lowestAct 2 = .ok (.iconst 1, 1) := by decide +kernel
theorem dX6_lowestAct_3 : decode cX6_lowestAct 3 = .ok (.istore_n 2, 1) := by decide +kernel
theorem dX6_lowestAct_4 : decode cX6_lowestAct 4 = .ok (.iload_n 2, 1) := by decide +kernel
theorem dX6_lowestAct_5 : decode cX6_lowestAct 5 = .ok (.aload_n 0, 1) := by decide +kernel
theorem dX6_lowestAct_6 : decode cX6_lowestAct 6 = .ok (.getfield 37, 3) := by decide +kernel
theorem dX6_lowestAct_9 : decode cX6_lowestAct 9 = .ok (.if_icmp .ge 24, 3) := by decide +kernel
theorem dX6_lowestAct_12 : decode cX6_lowestAct 12 = .ok (.aload_n 0, 1) := by decide +kernel
theorem dX6_lowestAct_13 : decode cX6_lowestAct 13 = .ok (.iload_n 2, 1) := by decide +kernel
theorem dX6_lowestAct_14 : decode cX6_lowestAct 14 = .ok (.iload_n 1, 1) := by decide +kernel
theorem dX6_lowestAct_15 : decode cX6_lowestAct 15 = .ok (.invokevirtual 304, 3) := by decide +kernel
theorem dX6_lowestAct_18 : decode cX6_lowestAct 18 = .ok (.ifCond .eq 7, 3) := by decide +kernel
theorem dX6_lowestAct_21 : decode cX6_lowestAct 21 = .ok (.iload_n 2, 1) := by decide +kernel
theorem dX6_lowestAct_22 : decode cX6_lowestAct 22 = .ok (.goto 4, 3) := by decide +kernel
theorem dX6_lowestAct_25 : decode cX6_lowestAct 25 = .ok (.iload_n 1, 1) := by decide +kernel
theorem dX6_lowestAct_26 : decode cX6_lowestAct 26 = .ok (.istore_n 1, 1) := by decide +kernel
theorem dX6_lowestAct_27 : decode cX6_lowestAct 27 = .ok (.iinc 2 1, 3) := by decide +kernel
theorem dX6_lowestAct_30 : decode cX6_lowestAct 30 = .ok (.goto (-26), 3) := by decide +kernel
theorem dX6_lowestAct_33 : decode cX6_lowestAct 33 = .ok (.iload_n 1, 1) := by decide +kernel
theorem dX6_lowestAct_34 : decode cX6_lowestAct 34 = .ok (.aload_n 0, 1) := by decide +kernel
theorem dX6_lowestAct_35 : decode cX6_lowestAct 35 = .ok (.getfield 126, 3) := by decide +kernel
theorem dX6_lowestAct_38 : decode cX6_lowestAct 38 = .ok (.if_icmp .eq 9, 3) := by decide +kernel
theorem dX6_lowestAct_41 : decode cX6_lowestAct 41 = .ok (.aload_n 0, 1) := by decide +kernel
theorem dX6_lowestAct_42 : decode cX6_lowestAct 42 = .ok (.iload_n 1, 1) := by decide +kernel
theorem dX6_lowestAct_43 : decode cX6_lowestAct 43 = .ok (.invokevirtual 301, 3) := by decide +kernel
theorem dX6_lowestAct_46 : decode cX6_lowestAct 46 = .ok (.ireturn, 1) := by decide +kernel
theorem dX6_lowestAct_47 : decode cX6_lowestAct 47 = .ok (.aload_n 0, 1) := by decide +kernel
theorem dX6_lowestAct_48 : decode cX6_lowestAct 48 = .ok (.invokevirtual 307, 3) := by decide +kernel
theorem dX6_lowestAct_51 : decode cX6_lowestAct 51 = .ok (.istore_n 2, 1) := by decide +kernel
theorem dX6_lowestAct_52 : decode cX6_lowestAct 52 = .ok (.iload_n 2, 1) := by decide +kernel
theorem dX6_lowestAct_53 : decode cX6_lowestAct 53 = .ok (.iconst 5, 1) := by decide +kernel
theorem dX6_lowestAct_54 : decode cX6_lowestAct 54 = .ok (.if_icmp .ne 7, 3) := by decide +kernel
theorem dX6_lowestAct_57 : decode cX6_lowestAct 57 = .ok (.iconst 0, 1) := by decide +kernel
theorem dX6_lowestAct_58 : decode cX6_lowestAct 58 = .ok (.goto 4, 3) := by decide +kernel
theorem dX6_lowestAct_61 : decode cX6_lowestAct 61 = .ok (.iload_n 2, 1) := by decide +kernel
theorem dX6_lowestAct_62 : decode cX6_lowestAct 62 = .ok (.ireturn, 1) := by decide +kernel
def fX6_lowestAct_4 : Nat → Int32 → Int32 → SS → Option (Int32 × SS)
  | 0, _, _, _ => none
  | n + 1, x1, x2, s => if (s.1 0 9) ≤ x2 then (if x1 = (s.1 0 15) then (((fX6_roundAct s).bind fun z3 => if z3.1 = (5 : Int32) then (some ((0 : Int32), z3.2)) else (some (z3.1, z3.2)))) else (((fX6_turnTo x1 s).bind fun z5 => some (z5.1, z5.2)))) else (((fX6_isMore x2 x1 s).bind fun z6 => if z6.1 = 0 then (fX6_lowestAct_4 n x1 (x2 + (1 : Int32)) z6.2) else (fX6_lowestAct_4 n x2 (x2 + (1 : Int32)) z6.2)))
def fX6_lowestAct_0 (s : SS) : Option (Int32 × SS) := fX6_lowestAct_4 FU (0 : Int32) (1 : Int32) s
def fX6_lowestAct (s : SS) : Option (Int32 × SS) := fX6_lowestAct_0 s
set_option maxRecDepth 100000 in
set_option maxHeartbeats 4000000 in
theorem okX6_lowestAct_4 {G : GG} {pl : Nat → Nat} {h0 : PH} : ∀ (n : Nat) (x1 : Int32) (x2 : Int32) (s : SS), EvF G 1 mX6_lowestAct lyR pl h0 rvI (fX6_lowestAct_4 n x1 x2 s) 4 [(0, .ref (pl 0)), (1, .int x1), (2, .int x2)] [] s := by
  intro n
  induction n with
  | zero => intro x1 x2 s; rw [fX6_lowestAct_4]; exact ef_none
  | succ n ih =>
    intro x1 x2 s
    rw [fX6_lowestAct_4]
    refine ef_iload_n (q := 5) 2 dX6_lowestAct_4 rfl rfl rfl ?_
    refine ef_aload_n (q := 6) 0 dX6_lowestAct_5 rfl rfl rfl ?_
    refine ef_getI (x := s.1 0 9) (q := 9) rfl fl6_37 rfl rfl dX6_lowestAct_6 rfl ?_
    refine ef_if (pt := 33) (pf := 12) (fun _ _ => ev_icmp_ge (tgt := 33) dX6_lowestAct_9 (by decide)) (fun h1 => ?_) (fun h1 => ?_)
    · refine ef_iload_n (q := 34) 1 dX6_lowestAct_33 rfl rfl rfl ?_
      refine ef_aload_n (q := 35) 0 dX6_lowestAct_34 rfl rfl rfl ?_
      refine ef_getI (x := s.1 0 15) (q := 38) rfl fl6_126 rfl rfl dX6_lowestAct_35 rfl ?_
      refine ef_if (pt := 47) (pf := 41) (fun _ _ => ev_icmp_eq (tgt := 47) dX6_lowestAct_38 (by decide)) (fun h2 => ?_) (fun h2 => ?_)
      · refine ef_aload_n (q := 48) 0 dX6_lowestAct_47 rfl rfl rfl ?_
        refine ef_invVI0 (k := 0) (As := []) (rest := []) (q := 51) (okX6_roundAct) rfl calX6_roundAct ml6_307 (by decide) rfl rfl rfl (Nat.le_of_ble_eq_true rfl) dX6_lowestAct_48 rfl (fun z3 => ?_)
        refine ef_istore_n (lv' := [(2, .int z3.1), (0, .ref (pl 0)), (1, .int x1)]) (q := 52) dX6_lowestAct_51 rfl (by decide) rfl rfl ?_
        refine ef_iload_n (q := 53) 0 dX6_lowestAct_52 rfl rfl rfl ?_
        refine ef_iconst (v := (5 : Int32)) (q := 54) dX6_lowestAct_53 (by decide) rfl ?_
        refine ef_if (pt := 57) (pf := 61) (fun _ _ kt kf => ev_icmp_ne (tgt := 61) dX6_lowestAct_54 (by decide) kf kt) (fun h4 => ?_) (fun h4 => ?_)
        · refine ef_iconst (v := (0 : Int32)) (q := 58) dX6_lowestAct_57 (by decide) rfl ?_
          refine ef_goto (tgt := 62) dX6_lowestAct_58 (by decide) ?_
          exact ef_iret rfl dX6_lowestAct_62
        · refine ef_iload_n (q := 62) 0 dX6_lowestAct_61 rfl rfl rfl ?_
          exact ef_iret rfl dX6_lowestAct_62
      · refine ef_aload_n (q := 42) 0 dX6_lowestAct_41 rfl rfl rfl ?_
        refine ef_iload_n (q := 43) 1 dX6_lowestAct_42 rfl rfl rfl ?_
        refine ef_invVI0 (k := 0) (As := [.int x1]) (rest := []) (q := 46) (okX6_turnTo x1) rfl calX6_turnTo ml6_301 (by decide) rfl rfl rfl (Nat.le_of_ble_eq_true rfl) dX6_lowestAct_43 rfl (fun z5 => ?_)
        exact ef_iret rfl dX6_lowestAct_46
    · refine ef_aload_n (q := 13) 0 dX6_lowestAct_12 rfl rfl rfl ?_
      refine ef_iload_n (q := 14) 2 dX6_lowestAct_13 rfl rfl rfl ?_
      refine ef_iload_n (q := 15) 1 dX6_lowestAct_14 rfl rfl rfl ?_
      refine ef_invVI0 (k := 0) (As := [.int x2, .int x1]) (rest := []) (q := 18) (okX6_isMore x2 x1) rfl calX6_isMore ml6_304 (by decide) rfl rfl rfl (Nat.le_of_ble_eq_true rfl) dX6_lowestAct_15 rfl (fun z6 => ?_)
      refine ef_if (pt := 25) (pf := 21) (fun _ _ => ev_if_eq (tgt := 25) dX6_lowestAct_18 (by decide)) (fun h7 => ?_) (fun h7 => ?_)
      · refine ef_iload_n (q := 26) 1 dX6_lowestAct_25 rfl rfl rfl ?_
        refine ef_istore_n (lv' := [(1, .int x1), (0, .ref (pl 0)), (2, .int x2)]) (q := 27) dX6_lowestAct_26 rfl (by decide) rfl rfl ?_
        refine ef_iinc (v := x2 + (1 : Int32)) (lv' := [(2, .int (x2 + (1 : Int32))), (1, .int x1), (0, .ref (pl 0))]) (q := 30) 2 dX6_lowestAct_27 rfl rfl (by decide) rfl rfl ?_
        refine ef_goto (tgt := 4) dX6_lowestAct_30 (by decide) ?_
        refine ef_sub (lv' := [(0, .ref (pl 0)), (1, .int x1), (2, .int (x2 + (1 : Int32)))]) [2, 1, 0] rfl ?_
        exact ih x1 (x2 + (1 : Int32)) z6.2
      · refine ef_iload_n (q := 22) 2 dX6_lowestAct_21 rfl rfl rfl ?_
        refine ef_goto (tgt := 26) dX6_lowestAct_22 (by decide) ?_
        refine ef_istore_n (lv' := [(1, .int x2), (0, .ref (pl 0)), (2, .int x2)]) (q := 27) dX6_lowestAct_26 rfl (by decide) rfl rfl ?_
        refine ef_iinc (v := x2 + (1 : Int32)) (lv' := [(2, .int (x2 + (1 : Int32))), (1, .int x2), (0, .ref (pl 0))]) (q := 30) 2 dX6_lowestAct_27 rfl rfl (by decide) rfl rfl ?_
        refine ef_goto (tgt := 4) dX6_lowestAct_30 (by decide) ?_
        refine ef_sub (lv' := [(0, .ref (pl 0)), (1, .int x2), (2, .int (x2 + (1 : Int32)))]) [2, 1, 0] rfl ?_
        exact ih x2 (x2 + (1 : Int32)) z6.2
set_option maxRecDepth 100000 in
set_option maxHeartbeats 4000000 in
theorem okX6_lowestAct_0 {G : GG} {pl : Nat → Nat} {h0 : PH} (s : SS) : EvF G 1 mX6_lowestAct lyR pl h0 rvI (fX6_lowestAct_0 s) 0 [(0, .ref (pl 0))] [] s := by
  unfold fX6_lowestAct_0
  refine ef_iconst (v := (0 : Int32)) (q := 1) dX6_lowestAct_0 (by decide) rfl ?_
  refine ef_istore_n (lv' := [(1, .int (0 : Int32)), (0, .ref (pl 0))]) (q := 2) dX6_lowestAct_1 rfl (by decide) rfl rfl ?_
  refine ef_iconst (v := (1 : Int32)) (q := 3) dX6_lowestAct_2 (by decide) rfl ?_
  refine ef_istore_n (lv' := [(2, .int (1 : Int32)), (1, .int (0 : Int32)), (0, .ref (pl 0))]) (q := 4) dX6_lowestAct_3 rfl (by decide) rfl rfl ?_
  refine ef_sub (lv' := [(0, .ref (pl 0)), (1, .int (0 : Int32)), (2, .int (1 : Int32))]) [2, 1, 0] rfl ?_
  exact okX6_lowestAct_4 FU (0 : Int32) (1 : Int32) s
theorem okX6_lowestAct : MtF 1 mX6_lowestAct lyR rvI (fun _ pl => [.ref (pl 0)]) (fX6_lowestAct) := by
  refine MtF.of (by decide +kernel) rfl (fun _ pl => Nat.le_of_ble_eq_true rfl) (fun G pl h0 s => ?_)
  refine ef_sub (lv := [(0, .ref (pl 0))]) (lv' := [(0, .ref (pl 0))]) [0] rfl ?_
  exact okX6_lowestAct_0  s
-- X6_stands
theorem dX6_stands_0 : decode cX6_stands 0 = .ok (.iconst 0, 1) := by decide +kernel
theorem dX6_stands_1 : decode cX6_stands 1 = .ok (.istore_n 2, 1) := by decide +kernel
theorem dX6_stands_2 : decode cX6_stands 2 = .ok (.iload_n 2, 1) := by decide +kernel
theorem dX6_stands_3 : decode cX6_stands 3 = .ok (.iload_n 1, 1) := by decide +kernel
theorem dX6_stands_4 : decode cX6_stands 4 = .ok (.if_icmp .ge 15, 3) := by decide +kernel
theorem dX6_stands_7 : decode cX6_stands 7 = .ok (.aload_n 0, 1) := by decide +kernel
theorem dX6_stands_8 : decode cX6_stands 8 = .ok (.iconst 0, 1) := by decide +kernel
theorem dX6_stands_9 : decode cX6_stands 9 = .ok (.iconst 0, 1) := by decide +kernel
theorem dX6_stands_10 : decode cX6_stands 10 = .ok (.invokevirtual 212, 3) := by decide +kernel
theorem dX6_stands_13 : decode cX6_stands 13 = .ok (.iinc 2 1, 3) := by decide +kernel
theorem dX6_stands_16 : decode cX6_stands 16 = .ok (.goto (-14), 3) := by decide +kernel
theorem dX6_stands_19 : decode cX6_stands 19 = .ok (.return_, 1) := by decide +kernel
def fX6_stands_2 : Nat → Int32 → Int32 → SS → Option (Unit × SS)
  | 0, _, _, _ => none
  | n + 1, x1, x2, s => if x1 ≤ x2 then (some ((), s)) else (((fX6_goes (0 : Int32) (0 : Int32) s).bind fun z2 => fX6_stands_2 n x1 (x2 + (1 : Int32)) z2.2))
def fX6_stands_0 (x1 : Int32) (s : SS) : Option (Unit × SS) := fX6_stands_2 FU x1 (0 : Int32) s
def fX6_stands (x1 : Int32) (s : SS) : Option (Unit × SS) := fX6_stands_0 x1 s
set_option maxRecDepth 100000 in
set_option maxHeartbeats 4000000 in
theorem okX6_stands_2 {G : GG} {pl : Nat → Nat} {h0 : PH} : ∀ (n : Nat) (x1 : Int32) (x2 : Int32) (s : SS), EvF G 3 mX6_stands lyR pl h0 rvU (fX6_stands_2 n x1 x2 s) 2 [(0, .ref (pl 0)), (1, .int x1), (2, .int x2)] [] s := by
  intro n
  induction n with
  | zero => intro x1 x2 s; rw [fX6_stands_2]; exact ef_none
  | succ n ih =>
    intro x1 x2 s
    rw [fX6_stands_2]
    refine ef_iload_n (q := 3) 2 dX6_stands_2 rfl rfl rfl ?_
    refine ef_iload_n (q := 4) 1 dX6_stands_3 rfl rfl rfl ?_
    refine ef_if (pt := 19) (pf := 7) (fun _ _ => ev_icmp_ge (tgt := 19) dX6_stands_4 (by decide)) (fun h1 => ?_) (fun h1 => ?_)
    · exact ef_vret rfl dX6_stands_19
    · refine ef_aload_n (q := 8) 0 dX6_stands_7 rfl rfl rfl ?_
      refine ef_iconst (v := (0 : Int32)) (q := 9) dX6_stands_8 (by decide) rfl ?_
      refine ef_iconst (v := (0 : Int32)) (q := 10) dX6_stands_9 (by decide) rfl ?_
      refine ef_invVU0 (k := 0) (As := [.int (0 : Int32), .int (0 : Int32)]) (rest := []) (q := 13) (okX6_goes (0 : Int32) (0 : Int32)) rfl calX6_goes ml6_212 (by decide) rfl rfl rfl (Nat.le_of_ble_eq_true rfl) dX6_stands_10 rfl (fun z2 => ?_)
      refine ef_iinc (v := x2 + (1 : Int32)) (lv' := [(2, .int (x2 + (1 : Int32))), (0, .ref (pl 0)), (1, .int x1)]) (q := 16) 2 dX6_stands_13 rfl rfl (by decide) rfl rfl ?_
      refine ef_goto (tgt := 2) dX6_stands_16 (by decide) ?_
      refine ef_sub (lv' := [(0, .ref (pl 0)), (1, .int x1), (2, .int (x2 + (1 : Int32)))]) [1, 2, 0] rfl ?_
      exact ih x1 (x2 + (1 : Int32)) z2.2
set_option maxRecDepth 100000 in
set_option maxHeartbeats 4000000 in
theorem okX6_stands_0 {G : GG} {pl : Nat → Nat} {h0 : PH} (x1 : Int32) (s : SS) : EvF G 3 mX6_stands lyR pl h0 rvU (fX6_stands_0 x1 s) 0 [(0, .ref (pl 0)), (1, .int x1)] [] s := by
  unfold fX6_stands_0
  refine ef_iconst (v := (0 : Int32)) (q := 1) dX6_stands_0 (by decide) rfl ?_
  refine ef_istore_n (lv' := [(2, .int (0 : Int32)), (0, .ref (pl 0)), (1, .int x1)]) (q := 2) dX6_stands_1 rfl (by decide) rfl rfl ?_
  refine ef_sub (lv' := [(0, .ref (pl 0)), (1, .int x1), (2, .int (0 : Int32))]) [1, 2, 0] rfl ?_
  exact okX6_stands_2 FU x1 (0 : Int32) s
theorem okX6_stands (x1 : Int32) : MtF 3 mX6_stands lyR rvU (fun _ pl => [.ref (pl 0), .int x1]) (fX6_stands x1) := by
  refine MtF.of (by decide +kernel) rfl (fun _ pl => Nat.le_of_ble_eq_true rfl) (fun G pl h0 s => ?_)
  refine ef_sub (lv := [(0, .ref (pl 0)), (1, .int x1)]) (lv' := [(0, .ref (pl 0)), (1, .int x1)]) [0, 1] rfl ?_
  exact okX6_stands_0  x1 s
-- X6_toldOf
theorem dX6_toldOf_0 : decode cX6_toldOf 0 = .ok (.iload_n 2, 1) := by decide +kernel
theorem dX6_toldOf_1 : decode cX6_toldOf 1 = .ok (.ifCond .ne 15, 3) := by decide +kernel
theorem dX6_toldOf_4 : decode cX6_toldOf 4 = .ok (.aload_n 1, 1) := by decide +kernel
theorem dX6_toldOf_5 : decode cX6_toldOf 5 = .ok (.getfield 283, 3) := by decide +kernel
theorem dX6_toldOf_8 : decode cX6_toldOf 8 = .ok (.aload_n 0, 1) := by decide +kernel
theorem dX6_toldOf_9 : decode cX6_toldOf 9 = .ok (.getfield 283, 3) := by decide +kernel
theorem dX6_toldOf_12 : decode cX6_toldOf 12 = .ok (.isub, 1) := by decide +kernel
theorem dX6_toldOf_13 : decode cX6_toldOf 13 = .ok (.goto 36, 3) := by decide +kernel
theorem dX6_toldOf_16 : decode cX6_toldOf 16 = .ok (.iload_n 2, 1) := by decide +kernel
theorem dX6_toldOf_17 : decode cX6_toldOf 17 = .ok (.iconst 1, 1) := by decide +kernel
theorem dX6_toldOf_18 : decode cX6_toldOf 18 = .ok (.if_icmp .ne 15, 3) := by decide +kernel
theorem dX6_toldOf_21 : decode cX6_toldOf 21 = .ok (.aload_n 1, 1) := by decide +kernel
theorem dX6_toldOf_22 : decode cX6_toldOf 22 = .ok (.getfield 274, 3) := by decide +kernel
theorem dX6_toldOf_25 : decode cX6_toldOf 25 = .ok (.aload_n 0, 1) := by decide +kernel
theorem dX6_toldOf_26 : decode cX6_toldOf 26 = .ok (.getfield 274, 3) := by decide +kernel
theorem dX6_toldOf_29 : decode cX6_toldOf 29 = .ok (.isub, 1) := by decide +kernel
theorem dX6_toldOf_30 : decode cX6_toldOf 30 = .ok (.goto 19, 3) := by decide +kernel
theorem dX6_toldOf_33 : decode cX6_toldOf 33 = .ok (.iload_n 2, 1) := by decide +kernel
theorem dX6_toldOf_34 : decode cX6_toldOf 34 = .ok (.iconst 2, 1) := by decide +kernel
theorem dX6_toldOf_35 : decode cX6_toldOf 35 = .ok (.if_icmp .ne 10, 3) := by decide +kernel
theorem dX6_toldOf_38 : decode cX6_toldOf 38 = .ok (.aload_n 1, 1) := by decide +kernel
theorem dX6_toldOf_39 : decode cX6_toldOf 39 = .ok (.invokevirtual 343, 3) := by decide +kernel
theorem dX6_toldOf_42 : decode cX6_toldOf 42 = .ok (.goto 7, 3) := by decide +kernel
theorem dX6_toldOf_45 : decode cX6_toldOf 45 = .ok (.aload_n 1, 1) := by decide +kernel
theorem dX6_toldOf_46 : decode cX6_toldOf 46 = .ok (.getfield 126, 3) := by decide +kernel
theorem dX6_toldOf_49 : decode cX6_toldOf 49 = .ok (.ireturn, 1) := by decide +kernel
def fX6_toldOf_0 (x2 : Int32) (s : SS) : Option (Int32 × SS) := if x2 = 0 then (some ((s.1 33 19) - (s.1 0 19), s)) else (if x2 = (1 : Int32) then (some ((s.1 33 20) - (s.1 0 20), s)) else (if x2 = (2 : Int32) then (((fX6_leftNow (selS (fun k => 33 + k) s)).bind fun z4 => some (z4.1, mrgS (fun k => 33 + k) 33 s z4.2))) else (some (s.1 33 15, s))))
def fX6_toldOf (x2 : Int32) (s : SS) : Option (Int32 × SS) := fX6_toldOf_0 x2 s
set_option maxRecDepth 100000 in
set_option maxHeartbeats 4000000 in
theorem okX6_toldOf_0 {G : GG} {pl : Nat → Nat} {h0 : PH} (x2 : Int32) (s : SS) : EvF G 2 mX6_toldOf lyRR pl h0 rvI (fX6_toldOf_0 x2 s) 0 [(0, .ref (pl 0)), (1, .ref (pl 33)), (2, .int x2)] [] s := by
  unfold fX6_toldOf_0
  refine ef_iload_n (q := 1) 2 dX6_toldOf_0 rfl rfl rfl ?_
  refine ef_if (pt := 4) (pf := 16) (fun _ _ kt kf => ev_if_ne (tgt := 16) dX6_toldOf_1 (by decide) kf kt) (fun h1 => ?_) (fun h1 => ?_)
  · refine ef_aload_n (q := 5) 1 dX6_toldOf_4 rfl rfl rfl ?_
    refine ef_getI (x := s.1 33 19) (q := 8) rfl fl6_283 rfl rfl dX6_toldOf_5 rfl ?_
    refine ef_aload_n (q := 9) 0 dX6_toldOf_8 rfl rfl rfl ?_
    refine ef_getI (x := s.1 0 19) (q := 12) rfl fl6_283 rfl rfl dX6_toldOf_9 rfl ?_
    refine ef_isub (q := 13) dX6_toldOf_12 rfl ?_
    refine ef_goto (tgt := 49) dX6_toldOf_13 (by decide) ?_
    exact ef_iret rfl dX6_toldOf_49
  · refine ef_iload_n (q := 17) 2 dX6_toldOf_16 rfl rfl rfl ?_
    refine ef_iconst (v := (1 : Int32)) (q := 18) dX6_toldOf_17 (by decide) rfl ?_
    refine ef_if (pt := 21) (pf := 33) (fun _ _ kt kf => ev_icmp_ne (tgt := 33) dX6_toldOf_18 (by decide) kf kt) (fun h2 => ?_) (fun h2 => ?_)
    · refine ef_aload_n (q := 22) 1 dX6_toldOf_21 rfl rfl rfl ?_
      refine ef_getI (x := s.1 33 20) (q := 25) rfl fl6_274 rfl rfl dX6_toldOf_22 rfl ?_
      refine ef_aload_n (q := 26) 0 dX6_toldOf_25 rfl rfl rfl ?_
      refine ef_getI (x := s.1 0 20) (q := 29) rfl fl6_274 rfl rfl dX6_toldOf_26 rfl ?_
      refine ef_isub (q := 30) dX6_toldOf_29 rfl ?_
      refine ef_goto (tgt := 49) dX6_toldOf_30 (by decide) ?_
      exact ef_iret rfl dX6_toldOf_49
    · refine ef_iload_n (q := 34) 2 dX6_toldOf_33 rfl rfl rfl ?_
      refine ef_iconst (v := (2 : Int32)) (q := 35) dX6_toldOf_34 (by decide) rfl ?_
      refine ef_if (pt := 38) (pf := 45) (fun _ _ kt kf => ev_icmp_ne (tgt := 45) dX6_toldOf_35 (by decide) kf kt) (fun h3 => ?_) (fun h3 => ?_)
      · refine ef_aload_n (q := 39) 1 dX6_toldOf_38 rfl rfl rfl ?_
        refine ef_invVI (k := 33) (nn := 33) (π := (fun k => 33 + k)) (As := []) (rest := []) (q := 42) (okX6_leftNow) (by decide +kernel) rfl calX6_leftNow ml6_343 (by decide) rfl rfl rfl (Nat.le_of_ble_eq_true rfl) dX6_toldOf_39 rfl rfl (fun z4 => ?_)
        refine ef_goto (tgt := 49) dX6_toldOf_42 (by decide) ?_
        exact ef_iret rfl dX6_toldOf_49
      · refine ef_aload_n (q := 46) 1 dX6_toldOf_45 rfl rfl rfl ?_
        refine ef_getI (x := s.1 33 15) (q := 49) rfl fl6_126 rfl rfl dX6_toldOf_46 rfl ?_
        exact ef_iret rfl dX6_toldOf_49
theorem okX6_toldOf (x2 : Int32) : MtF 2 mX6_toldOf lyRR rvI (fun _ pl => [.ref (pl 0), .ref (pl 33), .int x2]) (fX6_toldOf x2) := by
  refine MtF.of (by decide +kernel) rfl (fun _ pl => Nat.le_of_ble_eq_true rfl) (fun G pl h0 s => ?_)
  refine ef_sub (lv := [(0, .ref (pl 0)), (1, .ref (pl 33)), (2, .int x2)]) (lv' := [(0, .ref (pl 0)), (1, .ref (pl 33)), (2, .int x2)]) [0, 1, 2] rfl ?_
  exact okX6_toldOf_0  x2 s
-- X6_copied3
theorem dX6_copied3_0 : decode cX6_copied 0 = .ok (.iconst 0, 1) := by decide +kernel
theorem dX6_copied3_1 : decode cX6_copied 1 = .ok (.istore_n 2, 1) := by decide +kernel
theorem dX6_copied3_2 : decode cX6_copied 2 = .ok (.iload_n 2, 1) := by decide +kernel
theorem dX6_copied3_3 : decode cX6_copied 3 = .ok (.aload_n 0, 1) := by decide +kernel
theorem dX6_copied3_4 : decode cX6_copied 4 = .ok (.arraylength, 1) := by decide +kernel
theorem dX6_copied3_5 : decode cX6_copied 5 = .ok (.if_icmp .ge 15, 3) := by decide +kernel
theorem dX6_copied3_8 : decode cX6_copied 8 = .ok (.aload_n 1, 1) := by decide +kernel
theorem dX6_copied3_9 : decode cX6_copied 9 = .ok (.iload_n 2, 1) := by decide +kernel
theorem dX6_copied3_10 : decode cX6_copied 10 = .ok (.aload_n 0, 1) := by decide +kernel
theorem dX6_copied3_11 : decode cX6_copied 11 = .ok (.iload_n 2, 1) := by decide +kernel
theorem dX6_copied3_12 : decode cX6_copied 12 = .ok (.iaload, 1) := by decide +kernel
theorem dX6_copied3_13 : decode cX6_copied 13 = .ok (.iastore, 1) := by decide +kernel
theorem dX6_copied3_14 : decode cX6_copied 14 = .ok (.iinc 2 1, 3) := by decide +kernel
theorem dX6_copied3_17 : decode cX6_copied 17 = .ok (.goto (-15), 3) := by decide +kernel
theorem dX6_copied3_20 : decode cX6_copied 20 = .ok (.return_, 1) := by decide +kernel
def fX6_copied3_2 : Nat → Int32 → SS → Option (Unit × SS)
  | 0, _, _ => none
  | n + 1, x2, s => if (3 : Int32) ≤ x2 then (some ((), s)) else (if ixB x2 3 then (if ixB x2 3 then (fX6_copied3_2 n (x2 + (1 : Int32)) (wrI s 1 x2.toNatClampNeg (s.1 0 x2.toNatClampNeg))) else none) else none)
def fX6_copied3_0 (s : SS) : Option (Unit × SS) := fX6_copied3_2 FU (0 : Int32) s
def fX6_copied3 (s : SS) : Option (Unit × SS) := fX6_copied3_0 s
set_option maxRecDepth 100000 in
set_option maxHeartbeats 4000000 in
theorem okX6_copied3_2 {G : GG} {pl : Nat → Nat} {h0 : PH} : ∀ (n : Nat) (x2 : Int32) (s : SS), EvF G 0 mX6_copied lyI3I3 pl h0 rvU (fX6_copied3_2 n x2 s) 2 [(0, .ref (pl 0)), (1, .ref (pl 1)), (2, .int x2)] [] s := by
  intro n
  induction n with
  | zero => intro x2 s; rw [fX6_copied3_2]; exact ef_none
  | succ n ih =>
    intro x2 s
    rw [fX6_copied3_2]
    refine ef_iload_n (q := 3) 2 dX6_copied3_2 rfl rfl rfl ?_
    refine ef_aload_n (q := 4) 0 dX6_copied3_3 rfl rfl rfl ?_
    refine ef_alenI (v := (3 : Int32)) (q := 5) rfl (by decide) dX6_copied3_4 rfl ?_
    refine ef_if (pt := 20) (pf := 8) (fun _ _ => ev_icmp_ge (tgt := 20) dX6_copied3_5 (by decide)) (fun h1 => ?_) (fun h1 => ?_)
    · exact ef_vret rfl dX6_copied3_20
    · refine ef_aload_n (q := 9) 1 dX6_copied3_8 rfl rfl rfl ?_
      refine ef_iload_n (q := 10) 2 dX6_copied3_9 rfl rfl rfl ?_
      refine ef_aload_n (q := 11) 0 dX6_copied3_10 rfl rfl rfl ?_
      refine ef_iload_n (q := 12) 2 dX6_copied3_11 rfl rfl rfl ?_
      refine ef_guard (fun g2 => ?_)
      refine ef_iaload (x := s.1 0 x2.toNatClampNeg) (q := 13) rfl g2 dX6_copied3_12 rfl rfl ?_
      refine ef_guard (fun g3 => ?_)
      refine ef_iastore (j := x2.toNatClampNeg) (q := 14) rfl g3 dX6_copied3_13 rfl rfl ?_
      refine ef_iinc (v := x2 + (1 : Int32)) (lv' := [(2, .int (x2 + (1 : Int32))), (0, .ref (pl 0)), (1, .ref (pl 1))]) (q := 17) 2 dX6_copied3_14 rfl rfl (by decide) rfl rfl ?_
      refine ef_goto (tgt := 2) dX6_copied3_17 (by decide) ?_
      refine ef_sub (lv' := [(0, .ref (pl 0)), (1, .ref (pl 1)), (2, .int (x2 + (1 : Int32)))]) [1, 2, 0] rfl ?_
      exact ih (x2 + (1 : Int32)) (wrI s 1 x2.toNatClampNeg (s.1 0 x2.toNatClampNeg))
set_option maxRecDepth 100000 in
set_option maxHeartbeats 4000000 in
theorem okX6_copied3_0 {G : GG} {pl : Nat → Nat} {h0 : PH} (s : SS) : EvF G 0 mX6_copied lyI3I3 pl h0 rvU (fX6_copied3_0 s) 0 [(0, .ref (pl 0)), (1, .ref (pl 1))] [] s := by
  unfold fX6_copied3_0
  refine ef_iconst (v := (0 : Int32)) (q := 1) dX6_copied3_0 (by decide) rfl ?_
  refine ef_istore_n (lv' := [(2, .int (0 : Int32)), (0, .ref (pl 0)), (1, .ref (pl 1))]) (q := 2) dX6_copied3_1 rfl (by decide) rfl rfl ?_
  refine ef_sub (lv' := [(0, .ref (pl 0)), (1, .ref (pl 1)), (2, .int (0 : Int32))]) [1, 2, 0] rfl ?_
  exact okX6_copied3_2 FU (0 : Int32) s
theorem okX6_copied3 : MtF 0 mX6_copied lyI3I3 rvU (fun _ pl => [.ref (pl 0), .ref (pl 1)]) (fX6_copied3) := by
  refine MtF.of (by decide +kernel) rfl (fun _ pl => Nat.le_of_ble_eq_true rfl) (fun G pl h0 s => ?_)
  refine ef_sub (lv := [(0, .ref (pl 0)), (1, .ref (pl 1))]) (lv' := [(0, .ref (pl 0)), (1, .ref (pl 1))]) [0, 1] rfl ?_
  exact okX6_copied3_0  s
-- X6_copied4
theorem dX6_copied4_0 : decode cX6_copied 0 = .ok (.iconst 0, 1) := by decide +kernel
theorem dX6_copied4_1 : decode cX6_copied 1 = .ok (.istore_n 2, 1) := by decide +kernel
theorem dX6_copied4_2 : decode cX6_copied 2 = .ok (.iload_n 2, 1) := by decide +kernel
theorem dX6_copied4_3 : decode cX6_copied 3 = .ok (.aload_n 0, 1) := by decide +kernel
theorem dX6_copied4_4 : decode cX6_copied 4 = .ok (.arraylength, 1) := by decide +kernel
theorem dX6_copied4_5 : decode cX6_copied 5 = .ok (.if_icmp .ge 15, 3) := by decide +kernel
theorem dX6_copied4_8 : decode cX6_copied 8 = .ok (.aload_n 1, 1) := by decide +kernel
theorem dX6_copied4_9 : decode cX6_copied 9 = .ok (.iload_n 2, 1) := by decide +kernel
theorem dX6_copied4_10 : decode cX6_copied 10 = .ok (.aload_n 0, 1) := by decide +kernel
theorem dX6_copied4_11 : decode cX6_copied 11 = .ok (.iload_n 2, 1) := by decide +kernel
theorem dX6_copied4_12 : decode cX6_copied 12 = .ok (.iaload, 1) := by decide +kernel
theorem dX6_copied4_13 : decode cX6_copied 13 = .ok (.iastore, 1) := by decide +kernel
theorem dX6_copied4_14 : decode cX6_copied 14 = .ok (.iinc 2 1, 3) := by decide +kernel
theorem dX6_copied4_17 : decode cX6_copied 17 = .ok (.goto (-15), 3) := by decide +kernel
theorem dX6_copied4_20 : decode cX6_copied 20 = .ok (.return_, 1) := by decide +kernel
def fX6_copied4_2 : Nat → Int32 → SS → Option (Unit × SS)
  | 0, _, _ => none
  | n + 1, x2, s => if (4 : Int32) ≤ x2 then (some ((), s)) else (if ixB x2 4 then (if ixB x2 4 then (fX6_copied4_2 n (x2 + (1 : Int32)) (wrI s 1 x2.toNatClampNeg (s.1 0 x2.toNatClampNeg))) else none) else none)
def fX6_copied4_0 (s : SS) : Option (Unit × SS) := fX6_copied4_2 FU (0 : Int32) s
def fX6_copied4 (s : SS) : Option (Unit × SS) := fX6_copied4_0 s
set_option maxRecDepth 100000 in
set_option maxHeartbeats 4000000 in
theorem okX6_copied4_2 {G : GG} {pl : Nat → Nat} {h0 : PH} : ∀ (n : Nat) (x2 : Int32) (s : SS), EvF G 0 mX6_copied lyI4I4 pl h0 rvU (fX6_copied4_2 n x2 s) 2 [(0, .ref (pl 0)), (1, .ref (pl 1)), (2, .int x2)] [] s := by
  intro n
  induction n with
  | zero => intro x2 s; rw [fX6_copied4_2]; exact ef_none
  | succ n ih =>
    intro x2 s
    rw [fX6_copied4_2]
    refine ef_iload_n (q := 3) 2 dX6_copied4_2 rfl rfl rfl ?_
    refine ef_aload_n (q := 4) 0 dX6_copied4_3 rfl rfl rfl ?_
    refine ef_alenI (v := (4 : Int32)) (q := 5) rfl (by decide) dX6_copied4_4 rfl ?_
    refine ef_if (pt := 20) (pf := 8) (fun _ _ => ev_icmp_ge (tgt := 20) dX6_copied4_5 (by decide)) (fun h1 => ?_) (fun h1 => ?_)
    · exact ef_vret rfl dX6_copied4_20
    · refine ef_aload_n (q := 9) 1 dX6_copied4_8 rfl rfl rfl ?_
      refine ef_iload_n (q := 10) 2 dX6_copied4_9 rfl rfl rfl ?_
      refine ef_aload_n (q := 11) 0 dX6_copied4_10 rfl rfl rfl ?_
      refine ef_iload_n (q := 12) 2 dX6_copied4_11 rfl rfl rfl ?_
      refine ef_guard (fun g2 => ?_)
      refine ef_iaload (x := s.1 0 x2.toNatClampNeg) (q := 13) rfl g2 dX6_copied4_12 rfl rfl ?_
      refine ef_guard (fun g3 => ?_)
      refine ef_iastore (j := x2.toNatClampNeg) (q := 14) rfl g3 dX6_copied4_13 rfl rfl ?_
      refine ef_iinc (v := x2 + (1 : Int32)) (lv' := [(2, .int (x2 + (1 : Int32))), (0, .ref (pl 0)), (1, .ref (pl 1))]) (q := 17) 2 dX6_copied4_14 rfl rfl (by decide) rfl rfl ?_
      refine ef_goto (tgt := 2) dX6_copied4_17 (by decide) ?_
      refine ef_sub (lv' := [(0, .ref (pl 0)), (1, .ref (pl 1)), (2, .int (x2 + (1 : Int32)))]) [1, 2, 0] rfl ?_
      exact ih (x2 + (1 : Int32)) (wrI s 1 x2.toNatClampNeg (s.1 0 x2.toNatClampNeg))
set_option maxRecDepth 100000 in
set_option maxHeartbeats 4000000 in
theorem okX6_copied4_0 {G : GG} {pl : Nat → Nat} {h0 : PH} (s : SS) : EvF G 0 mX6_copied lyI4I4 pl h0 rvU (fX6_copied4_0 s) 0 [(0, .ref (pl 0)), (1, .ref (pl 1))] [] s := by
  unfold fX6_copied4_0
  refine ef_iconst (v := (0 : Int32)) (q := 1) dX6_copied4_0 (by decide) rfl ?_
  refine ef_istore_n (lv' := [(2, .int (0 : Int32)), (0, .ref (pl 0)), (1, .ref (pl 1))]) (q := 2) dX6_copied4_1 rfl (by decide) rfl rfl ?_
  refine ef_sub (lv' := [(0, .ref (pl 0)), (1, .ref (pl 1)), (2, .int (0 : Int32))]) [1, 2, 0] rfl ?_
  exact okX6_copied4_2 FU (0 : Int32) s
theorem okX6_copied4 : MtF 0 mX6_copied lyI4I4 rvU (fun _ pl => [.ref (pl 0), .ref (pl 1)]) (fX6_copied4) := by
  refine MtF.of (by decide +kernel) rfl (fun _ pl => Nat.le_of_ble_eq_true rfl) (fun G pl h0 s => ?_)
  refine ef_sub (lv := [(0, .ref (pl 0)), (1, .ref (pl 1))]) (lv' := [(0, .ref (pl 0)), (1, .ref (pl 1))]) [0, 1] rfl ?_
  exact okX6_copied4_0  s
-- X6_copied8
theorem dX6_copied8_0 : decode cX6_copied 0 = .ok (.iconst 0, 1) := by decide +kernel
theorem dX6_copied8_1 : decode cX6_copied 1 = .ok (.istore_n 2, 1) := by decide +kernel
theorem dX6_copied8_2 : decode cX6_copied 2 = .ok (.iload_n 2, 1) := by decide +kernel
theorem dX6_copied8_3 : decode cX6_copied 3 = .ok (.aload_n 0, 1) := by decide +kernel
theorem dX6_copied8_4 : decode cX6_copied 4 = .ok (.arraylength, 1) := by decide +kernel
theorem dX6_copied8_5 : decode cX6_copied 5 = .ok (.if_icmp .ge 15, 3) := by decide +kernel
theorem dX6_copied8_8 : decode cX6_copied 8 = .ok (.aload_n 1, 1) := by decide +kernel
theorem dX6_copied8_9 : decode cX6_copied 9 = .ok (.iload_n 2, 1) := by decide +kernel
theorem dX6_copied8_10 : decode cX6_copied 10 = .ok (.aload_n 0, 1) := by decide +kernel
theorem dX6_copied8_11 : decode cX6_copied 11 = .ok (.iload_n 2, 1) := by decide +kernel
theorem dX6_copied8_12 : decode cX6_copied 12 = .ok (.iaload, 1) := by decide +kernel
theorem dX6_copied8_13 : decode cX6_copied 13 = .ok (.iastore, 1) := by decide +kernel
theorem dX6_copied8_14 : decode cX6_copied 14 = .ok (.iinc 2 1, 3) := by decide +kernel
theorem dX6_copied8_17 : decode cX6_copied 17 = .ok (.goto (-15), 3) := by decide +kernel
theorem dX6_copied8_20 : decode cX6_copied 20 = .ok (.return_, 1) := by decide +kernel
def fX6_copied8_2 : Nat → Int32 → SS → Option (Unit × SS)
  | 0, _, _ => none
  | n + 1, x2, s => if (8 : Int32) ≤ x2 then (some ((), s)) else (if ixB x2 8 then (if ixB x2 8 then (fX6_copied8_2 n (x2 + (1 : Int32)) (wrI s 1 x2.toNatClampNeg (s.1 0 x2.toNatClampNeg))) else none) else none)
def fX6_copied8_0 (s : SS) : Option (Unit × SS) := fX6_copied8_2 FU (0 : Int32) s
def fX6_copied8 (s : SS) : Option (Unit × SS) := fX6_copied8_0 s
set_option maxRecDepth 100000 in
set_option maxHeartbeats 4000000 in
theorem okX6_copied8_2 {G : GG} {pl : Nat → Nat} {h0 : PH} : ∀ (n : Nat) (x2 : Int32) (s : SS), EvF G 0 mX6_copied lyI8I8 pl h0 rvU (fX6_copied8_2 n x2 s) 2 [(0, .ref (pl 0)), (1, .ref (pl 1)), (2, .int x2)] [] s := by
  intro n
  induction n with
  | zero => intro x2 s; rw [fX6_copied8_2]; exact ef_none
  | succ n ih =>
    intro x2 s
    rw [fX6_copied8_2]
    refine ef_iload_n (q := 3) 2 dX6_copied8_2 rfl rfl rfl ?_
    refine ef_aload_n (q := 4) 0 dX6_copied8_3 rfl rfl rfl ?_
    refine ef_alenI (v := (8 : Int32)) (q := 5) rfl (by decide) dX6_copied8_4 rfl ?_
    refine ef_if (pt := 20) (pf := 8) (fun _ _ => ev_icmp_ge (tgt := 20) dX6_copied8_5 (by decide)) (fun h1 => ?_) (fun h1 => ?_)
    · exact ef_vret rfl dX6_copied8_20
    · refine ef_aload_n (q := 9) 1 dX6_copied8_8 rfl rfl rfl ?_
      refine ef_iload_n (q := 10) 2 dX6_copied8_9 rfl rfl rfl ?_
      refine ef_aload_n (q := 11) 0 dX6_copied8_10 rfl rfl rfl ?_
      refine ef_iload_n (q := 12) 2 dX6_copied8_11 rfl rfl rfl ?_
      refine ef_guard (fun g2 => ?_)
      refine ef_iaload (x := s.1 0 x2.toNatClampNeg) (q := 13) rfl g2 dX6_copied8_12 rfl rfl ?_
      refine ef_guard (fun g3 => ?_)
      refine ef_iastore (j := x2.toNatClampNeg) (q := 14) rfl g3 dX6_copied8_13 rfl rfl ?_
      refine ef_iinc (v := x2 + (1 : Int32)) (lv' := [(2, .int (x2 + (1 : Int32))), (0, .ref (pl 0)), (1, .ref (pl 1))]) (q := 17) 2 dX6_copied8_14 rfl rfl (by decide) rfl rfl ?_
      refine ef_goto (tgt := 2) dX6_copied8_17 (by decide) ?_
      refine ef_sub (lv' := [(0, .ref (pl 0)), (1, .ref (pl 1)), (2, .int (x2 + (1 : Int32)))]) [1, 2, 0] rfl ?_
      exact ih (x2 + (1 : Int32)) (wrI s 1 x2.toNatClampNeg (s.1 0 x2.toNatClampNeg))
set_option maxRecDepth 100000 in
set_option maxHeartbeats 4000000 in
theorem okX6_copied8_0 {G : GG} {pl : Nat → Nat} {h0 : PH} (s : SS) : EvF G 0 mX6_copied lyI8I8 pl h0 rvU (fX6_copied8_0 s) 0 [(0, .ref (pl 0)), (1, .ref (pl 1))] [] s := by
  unfold fX6_copied8_0
  refine ef_iconst (v := (0 : Int32)) (q := 1) dX6_copied8_0 (by decide) rfl ?_
  refine ef_istore_n (lv' := [(2, .int (0 : Int32)), (0, .ref (pl 0)), (1, .ref (pl 1))]) (q := 2) dX6_copied8_1 rfl (by decide) rfl rfl ?_
  refine ef_sub (lv' := [(0, .ref (pl 0)), (1, .ref (pl 1)), (2, .int (0 : Int32))]) [1, 2, 0] rfl ?_
  exact okX6_copied8_2 FU (0 : Int32) s
theorem okX6_copied8 : MtF 0 mX6_copied lyI8I8 rvU (fun _ pl => [.ref (pl 0), .ref (pl 1)]) (fX6_copied8) := by
  refine MtF.of (by decide +kernel) rfl (fun _ pl => Nat.le_of_ble_eq_true rfl) (fun G pl h0 s => ?_)
  refine ef_sub (lv := [(0, .ref (pl 0)), (1, .ref (pl 1))]) (lv' := [(0, .ref (pl 0)), (1, .ref (pl 1))]) [0, 1] rfl ?_
  exact okX6_copied8_0  s
-- X6_copied20
theorem dX6_copied20_0 : decode cX6_copied 0 = .ok (.iconst 0, 1) := by decide +kernel
theorem dX6_copied20_1 : decode cX6_copied 1 = .ok (.istore_n 2, 1) := by decide +kernel
theorem dX6_copied20_2 : decode cX6_copied 2 = .ok (.iload_n 2, 1) := by decide +kernel
theorem dX6_copied20_3 : decode cX6_copied 3 = .ok (.aload_n 0, 1) := by decide +kernel
theorem dX6_copied20_4 : decode cX6_copied 4 = .ok (.arraylength, 1) := by decide +kernel
theorem dX6_copied20_5 : decode cX6_copied 5 = .ok (.if_icmp .ge 15, 3) := by decide +kernel
theorem dX6_copied20_8 : decode cX6_copied 8 = .ok (.aload_n 1, 1) := by decide +kernel
theorem dX6_copied20_9 : decode cX6_copied 9 = .ok (.iload_n 2, 1) := by decide +kernel
theorem dX6_copied20_10 : decode cX6_copied 10 = .ok (.aload_n 0, 1) := by decide +kernel
theorem dX6_copied20_11 : decode cX6_copied 11 = .ok (.iload_n 2, 1) := by decide +kernel
theorem dX6_copied20_12 : decode cX6_copied 12 = .ok (.iaload, 1) := by decide +kernel
theorem dX6_copied20_13 : decode cX6_copied 13 = .ok (.iastore, 1) := by decide +kernel
theorem dX6_copied20_14 : decode cX6_copied 14 = .ok (.iinc 2 1, 3) := by decide +kernel
theorem dX6_copied20_17 : decode cX6_copied 17 = .ok (.goto (-15), 3) := by decide +kernel
theorem dX6_copied20_20 : decode cX6_copied 20 = .ok (.return_, 1) := by decide +kernel
def fX6_copied20_2 : Nat → Int32 → SS → Option (Unit × SS)
  | 0, _, _ => none
  | n + 1, x2, s => if (20 : Int32) ≤ x2 then (some ((), s)) else (if ixB x2 20 then (if ixB x2 20 then (fX6_copied20_2 n (x2 + (1 : Int32)) (wrI s 1 x2.toNatClampNeg (s.1 0 x2.toNatClampNeg))) else none) else none)
def fX6_copied20_0 (s : SS) : Option (Unit × SS) := fX6_copied20_2 FU (0 : Int32) s
def fX6_copied20 (s : SS) : Option (Unit × SS) := fX6_copied20_0 s
set_option maxRecDepth 100000 in
set_option maxHeartbeats 4000000 in
theorem okX6_copied20_2 {G : GG} {pl : Nat → Nat} {h0 : PH} : ∀ (n : Nat) (x2 : Int32) (s : SS), EvF G 0 mX6_copied lyI20I20 pl h0 rvU (fX6_copied20_2 n x2 s) 2 [(0, .ref (pl 0)), (1, .ref (pl 1)), (2, .int x2)] [] s := by
  intro n
  induction n with
  | zero => intro x2 s; rw [fX6_copied20_2]; exact ef_none
  | succ n ih =>
    intro x2 s
    rw [fX6_copied20_2]
    refine ef_iload_n (q := 3) 2 dX6_copied20_2 rfl rfl rfl ?_
    refine ef_aload_n (q := 4) 0 dX6_copied20_3 rfl rfl rfl ?_
    refine ef_alenI (v := (20 : Int32)) (q := 5) rfl (by decide) dX6_copied20_4 rfl ?_
    refine ef_if (pt := 20) (pf := 8) (fun _ _ => ev_icmp_ge (tgt := 20) dX6_copied20_5 (by decide)) (fun h1 => ?_) (fun h1 => ?_)
    · exact ef_vret rfl dX6_copied20_20
    · refine ef_aload_n (q := 9) 1 dX6_copied20_8 rfl rfl rfl ?_
      refine ef_iload_n (q := 10) 2 dX6_copied20_9 rfl rfl rfl ?_
      refine ef_aload_n (q := 11) 0 dX6_copied20_10 rfl rfl rfl ?_
      refine ef_iload_n (q := 12) 2 dX6_copied20_11 rfl rfl rfl ?_
      refine ef_guard (fun g2 => ?_)
      refine ef_iaload (x := s.1 0 x2.toNatClampNeg) (q := 13) rfl g2 dX6_copied20_12 rfl rfl ?_
      refine ef_guard (fun g3 => ?_)
      refine ef_iastore (j := x2.toNatClampNeg) (q := 14) rfl g3 dX6_copied20_13 rfl rfl ?_
      refine ef_iinc (v := x2 + (1 : Int32)) (lv' := [(2, .int (x2 + (1 : Int32))), (0, .ref (pl 0)), (1, .ref (pl 1))]) (q := 17) 2 dX6_copied20_14 rfl rfl (by decide) rfl rfl ?_
      refine ef_goto (tgt := 2) dX6_copied20_17 (by decide) ?_
      refine ef_sub (lv' := [(0, .ref (pl 0)), (1, .ref (pl 1)), (2, .int (x2 + (1 : Int32)))]) [1, 2, 0] rfl ?_
      exact ih (x2 + (1 : Int32)) (wrI s 1 x2.toNatClampNeg (s.1 0 x2.toNatClampNeg))
set_option maxRecDepth 100000 in
set_option maxHeartbeats 4000000 in
theorem okX6_copied20_0 {G : GG} {pl : Nat → Nat} {h0 : PH} (s : SS) : EvF G 0 mX6_copied lyI20I20 pl h0 rvU (fX6_copied20_0 s) 0 [(0, .ref (pl 0)), (1, .ref (pl 1))] [] s := by
  unfold fX6_copied20_0
  refine ef_iconst (v := (0 : Int32)) (q := 1) dX6_copied20_0 (by decide) rfl ?_
  refine ef_istore_n (lv' := [(2, .int (0 : Int32)), (0, .ref (pl 0)), (1, .ref (pl 1))]) (q := 2) dX6_copied20_1 rfl (by decide) rfl rfl ?_
  refine ef_sub (lv' := [(0, .ref (pl 0)), (1, .ref (pl 1)), (2, .int (0 : Int32))]) [1, 2, 0] rfl ?_
  exact okX6_copied20_2 FU (0 : Int32) s
theorem okX6_copied20 : MtF 0 mX6_copied lyI20I20 rvU (fun _ pl => [.ref (pl 0), .ref (pl 1)]) (fX6_copied20) := by
  refine MtF.of (by decide +kernel) rfl (fun _ pl => Nat.le_of_ble_eq_true rfl) (fun G pl h0 s => ?_)
  refine ef_sub (lv := [(0, .ref (pl 0)), (1, .ref (pl 1))]) (lv' := [(0, .ref (pl 0)), (1, .ref (pl 1))]) [0, 1] rfl ?_
  exact okX6_copied20_0  s
-- X6_putFrom
theorem dX6_putFrom_0 : decode cX6_putFrom 0 = .ok (.aload_n 0, 1) := by decide +kernel
theorem dX6_putFrom_1 : decode cX6_putFrom 1 = .ok (.getfield 41, 3) := by decide +kernel
theorem dX6_putFrom_4 : decode cX6_putFrom 4 = .ok (.iload_n 2, 1) := by decide +kernel
theorem dX6_putFrom_5 : decode cX6_putFrom 5 = .ok (.aload_n 1, 1) := by decide +kernel
theorem dX6_putFrom_6 : decode cX6_putFrom 6 = .ok (.getfield 41, 3) := by decide +kernel
theorem dX6_putFrom_9 : decode cX6_putFrom 9 = .ok (.iload_n 3, 1) := by decide +kernel
theorem dX6_putFrom_10 : decode cX6_putFrom 10 = .ok (.iaload, 1) := by decide +kernel
theorem dX6_putFrom_11 : decode cX6_putFrom 11 = .ok (.iastore, 1) := by decide +kernel
theorem dX6_putFrom_12 : decode cX6_putFrom 12 = .ok (.aload_n 0, 1) := by decide +kernel
theorem dX6_putFrom_13 : decode cX6_putFrom 13 = .ok (.getfield 44, 3) := by decide +kernel
theorem dX6_putFrom_16 : decode cX6_putFrom 16 = .ok (.iload_n 2, 1) := by decide +kernel
theorem dX6_putFrom_17 : decode cX6_putFrom 17 = .ok (.aload_n 1, 1) := by decide +kernel
theorem dX6_putFrom_18 : decode cX6_putFrom 18 = .ok (.getfield 44, 3) := by decide +kernel
theorem dX6_putFrom_21 : decode cX6_putFrom 21 = .ok (.iload_n 3, 1) := by decide +kernel
theorem dX6_putFrom_22 : decode cX6_putFrom 22 = .ok (.iaload, 1) := by decide +kernel
theorem dX6_putFrom_23 : decode cX6_putFrom 23 = .ok (.iastore, 1) := by decide +kernel
theorem dX6_putFrom_24 : decode cX6_putFrom 24 = .ok (.aload_n 1, 1) := by decide +kernel
theorem dX6_putFrom_25 : decode cX6_putFrom 25 = .ok (.getfield 49, 3) := by decide +kernel
theorem dX6_putFrom_28 : decode cX6_putFrom 28 = .ok (.iload_n 3, 1) := by decide +kernel
theorem dX6_putFrom_29 : decode cX6_putFrom 29 = .ok (.aaload, 1) := by decide +kernel
theorem dX6_putFrom_30 : decode cX6_putFrom 30 = .ok (.aload_n 0, 1) := by decide +kernel
theorem dX6_putFrom_31 : decode cX6_putFrom 31 = .ok (.getfield 49, 3) := by decide +kernel
theorem dX6_putFrom_34 : decode cX6_putFrom 34 = .ok (.iload_n 2, 1) := by decide +kernel
theorem dX6_putFrom_35 : decode cX6_putFrom 35 = .ok (.aaload, 1) := by decide +kernel
theorem dX6_putFrom_36 : decode cX6_putFrom 36 = .ok (.invokestatic 353, 3) := by decide +kernel
theorem dX6_putFrom_39 : decode cX6_putFrom 39 = .ok (.return_, 1) := by decide +kernel
def fX6_putFrom_0 (x2 : Int32) (x3 : Int32) (s : SS) : Option (Unit × SS) := if ixB x3 3 then (if ixB x2 3 then (if ixB x3 3 then (if ixB x2 3 then (if ixB x3 3 then (if ixB x2 3 then (((fX6_copied8 (selS (fun k => if k < 1 then 53 + x3.toNatClampNeg + k else 20 + x2.toNatClampNeg + (k - 1)) (wrI (wrI s 17 x2.toNatClampNeg (s.1 50 x3.toNatClampNeg)) 18 x2.toNatClampNeg (s.1 51 x3.toNatClampNeg)))).bind fun z7 => some ((), mrgS (fun k => if k < 1 then 53 + x3.toNatClampNeg + k else 20 + x2.toNatClampNeg + (k - 1)) 2 (wrI (wrI s 17 x2.toNatClampNeg (s.1 50 x3.toNatClampNeg)) 18 x2.toNatClampNeg (s.1 51 x3.toNatClampNeg)) z7.2))) else none) else none) else none) else none) else none) else none
def fX6_putFrom (x2 : Int32) (x3 : Int32) (s : SS) : Option (Unit × SS) := fX6_putFrom_0 x2 x3 s
set_option maxRecDepth 100000 in
set_option maxHeartbeats 4000000 in
theorem okX6_putFrom_0 {G : GG} {pl : Nat → Nat} {h0 : PH} (x2 : Int32) (x3 : Int32) (s : SS) : EvF G 1 mX6_putFrom lyRR pl h0 rvU (fX6_putFrom_0 x2 x3 s) 0 [(0, .ref (pl 0)), (1, .ref (pl 33)), (2, .int x2), (3, .int x3)] [] s := by
  unfold fX6_putFrom_0
  refine ef_aload_n (q := 1) 0 dX6_putFrom_0 rfl rfl rfl ?_
  refine ef_getR (t := 17) (q := 4) rfl fl6_41 rfl rfl dX6_putFrom_1 rfl ?_
  refine ef_iload_n (q := 5) 2 dX6_putFrom_4 rfl rfl rfl ?_
  refine ef_aload_n (q := 6) 1 dX6_putFrom_5 rfl rfl rfl ?_
  refine ef_getR (t := 50) (q := 9) rfl fl6_41 rfl rfl dX6_putFrom_6 rfl ?_
  refine ef_iload_n (q := 10) 3 dX6_putFrom_9 rfl rfl rfl ?_
  refine ef_guard (fun g1 => ?_)
  refine ef_iaload (x := s.1 50 x3.toNatClampNeg) (q := 11) rfl g1 dX6_putFrom_10 rfl rfl ?_
  refine ef_guard (fun g2 => ?_)
  refine ef_iastore (j := x2.toNatClampNeg) (q := 12) rfl g2 dX6_putFrom_11 rfl rfl ?_
  refine ef_aload_n (q := 13) 0 dX6_putFrom_12 rfl rfl rfl ?_
  refine ef_getR (t := 18) (q := 16) rfl fl6_44 rfl rfl dX6_putFrom_13 rfl ?_
  refine ef_iload_n (q := 17) 2 dX6_putFrom_16 rfl rfl rfl ?_
  refine ef_aload_n (q := 18) 1 dX6_putFrom_17 rfl rfl rfl ?_
  refine ef_getR (t := 51) (q := 21) rfl fl6_44 rfl rfl dX6_putFrom_18 rfl ?_
  refine ef_iload_n (q := 22) 3 dX6_putFrom_21 rfl rfl rfl ?_
  refine ef_guard (fun g3 => ?_)
  refine ef_iaload (x := s.1 51 x3.toNatClampNeg) (q := 23) rfl g3 dX6_putFrom_22 rfl rfl ?_
  refine ef_guard (fun g4 => ?_)
  refine ef_iastore (j := x2.toNatClampNeg) (q := 24) rfl g4 dX6_putFrom_23 rfl rfl ?_
  refine ef_aload_n (q := 25) 1 dX6_putFrom_24 rfl rfl rfl ?_
  refine ef_getR (t := 52) (q := 28) rfl fl6_49 rfl rfl dX6_putFrom_25 rfl ?_
  refine ef_iload_n (q := 29) 3 dX6_putFrom_28 rfl rfl rfl ?_
  refine ef_guard (fun g5 => ?_)
  refine ef_aaload (t0 := 53 + x3.toNatClampNeg) (q := 30) rfl (by decide) lyRR_t52 g5 dX6_putFrom_29 rfl rfl ?_
  refine ef_aload_n (q := 31) 0 dX6_putFrom_30 rfl rfl rfl ?_
  refine ef_getR (t := 19) (q := 34) rfl fl6_49 rfl rfl dX6_putFrom_31 rfl ?_
  refine ef_iload_n (q := 35) 2 dX6_putFrom_34 rfl rfl rfl ?_
  refine ef_guard (fun g6 => ?_)
  refine ef_aaload (t0 := 20 + x2.toNatClampNeg) (q := 36) rfl (by decide) lyRR_t19 g6 dX6_putFrom_35 rfl rfl ?_
  refine ef_invSU (nn := 2) (π := (fun k => if k < 1 then 53 + x3.toNatClampNeg + k else 20 + x2.toNatClampNeg + (k - 1))) (As := [.ref (pl (53 + x3.toNatClampNeg)), .ref (pl (20 + x2.toNatClampNeg))]) (rest := []) (q := 39) (okX6_copied8) (lm2_RR_I8I8_s52_0_s19_0 _ (ixB_lt g5) _ (ixB_lt g6)) rfl calX6_copied ml6_353 (by decide) rfl rfl (Nat.le_of_ble_eq_true rfl) dX6_putFrom_36 rfl rfl (fun z7 => ?_)
  exact ef_vret rfl dX6_putFrom_39
theorem okX6_putFrom (x2 : Int32) (x3 : Int32) : MtF 1 mX6_putFrom lyRR rvU (fun _ pl => [.ref (pl 0), .ref (pl 33), .int x2, .int x3]) (fX6_putFrom x2 x3) := by
  refine MtF.of (by decide +kernel) rfl (fun _ pl => Nat.le_of_ble_eq_true rfl) (fun G pl h0 s => ?_)
  refine ef_sub (lv := [(0, .ref (pl 0)), (1, .ref (pl 33)), (2, .int x2), (3, .int x3)]) (lv' := [(0, .ref (pl 0)), (1, .ref (pl 33)), (2, .int x2), (3, .int x3)]) [0, 1, 2, 3] rfl ?_
  exact okX6_putFrom_0  x2 x3 s
-- X6_wettest
theorem dX6_wettest_0 : decode cX6_wettest 0 = .ok (.aload_n 0, 1) := by decide +kernel
theorem dX6_wettest_1 : decode cX6_wettest 1 = .ok (.invokevirtual 298, 3) := by decide +kernel
theorem dX6_wettest_4 : decode cX6_wettest 4 = .ok (.ireturn, 1) := by decide +kernel
def fX6_wettest_0 (s : SS) : Option (Int32 × SS) := ((fX6_wettestSide s).bind fun z1 => some (z1.1, z1.2))
def fX6_wettest (s : SS) : Option (Int32 × SS) := fX6_wettest_0 s
set_option maxRecDepth 100000 in
set_option maxHeartbeats 4000000 in
theorem okX6_wettest_0 {G : GG} {pl : Nat → Nat} {h0 : PH} (s : SS) : EvF G 2 mX6_wettest lyR pl h0 rvI (fX6_wettest_0 s) 0 [(0, .ref (pl 0))] [] s := by
  unfold fX6_wettest_0
  refine ef_aload_n (q := 1) 0 dX6_wettest_0 rfl rfl rfl ?_
  refine ef_invVI0 (k := 0) (As := []) (rest := []) (q := 4) (okX6_wettestSide) rfl calX6_wettestSide ml6_298 (by decide) rfl rfl rfl (Nat.le_of_ble_eq_true rfl) dX6_wettest_1 rfl (fun z1 => ?_)
  exact ef_iret rfl dX6_wettest_4
theorem okX6_wettest : MtF 2 mX6_wettest lyR rvI (fun _ pl => [.ref (pl 0)]) (fX6_wettest) := by
  refine MtF.of (by decide +kernel) rfl (fun _ pl => Nat.le_of_ble_eq_true rfl) (fun G pl h0 s => ?_)
  refine ef_sub (lv := [(0, .ref (pl 0))]) (lv' := [(0, .ref (pl 0))]) [0] rfl ?_
  exact okX6_wettest_0  s
-- X6_largestScoop
theorem dX6_largestScoop_0 : decode cX6_largestScoop 0 = .ok (.aload_n 0, 1) := by decide +kernel
theorem dX6_largestScoop_1 : decode cX6_largestScoop 1 = .ok (.getfield 93, 3) := by decide +kernel
theorem dX6_largestScoop_4 : decode cX6_largestScoop 4 = .ok (.ifCond .ne 10, 3) := by decide +kernel
theorem dX6_largestScoop_7 : decode cX6_largestScoop 7 = .ok (.aload_n 0, 1) := by decide +kernel
theorem dX6_largestScoop_8 : decode cX6_largestScoop 8 = .ok (.bipush (-5), 2) := by decide +kernel
theorem dX6_largestScoop_10 : decode cX6_largestScoop 10 = .ok (.invokevirtual 102, 3) := by decide +kernel
theorem dX6_largestScoop_13 : decode cX6_largestScoop 13 = .ok (.ireturn, 1) := by decide +kernel
theorem dX6_largestScoop_14 : decode cX6_largestScoop 14 = .ok (.iconst 0, 1) := by decide +kernel
theorem dX6_largestScoop_15 : decode cX6_largestScoop 15 = .ok (.istore_n 1, 1) := by decide +kernel
theorem dX6_largestScoop_16 : decode cX6_largestScoop 16 = .ok (.iconst 1, 1) := by decide +kernel
theorem dX6_largestScoop_17 : decode cX6_largestScoop 17 = .ok (.istore_n 2, 1) := by decide +kernel
theorem dX6_largestScoop_18 : decode cX6_largestScoop 18 = .ok (.iload_n 2, 1) := by decide +kernel
theorem dX6_largestScoop_19 : decode cX6_largestScoop 19 = .ok (.aload_n 0, 1) := by decide +kernel
theorem dX6_largestScoop_20 : decode cX6_largestScoop 20 = .ok (.getfield 93, 3) := by decide +kernel
theorem dX6_largestScoop_23 : decode cX6_largestScoop 23 = .ok (.if_icmp .ge 30, 3) := by decide +kernel
theorem dX6_largestScoop_26 : decode cX6_largestScoop 26 = .ok (.aload_n 0, 1) := by decide +kernel
theorem dX6_largestScoop_27 : decode cX6_largestScoop 27 = .ok (.getfield 44, 3) := by decide +kernel
theorem dX6_largestScoop_30 : decode cX6_largestScoop 30 = .ok (.iload_n 2, 1) := by decide +kernel
theorem dX6_largestScoop_31 : decode cX6_largestScoop 31 = .ok (.iaload, 1) := by decide +kernel
theorem dX6_largestScoop_32 : decode cX6_largestScoop 32 = .ok (.aload_n 0, 1) := by decide +kernel
theorem dX6_largestScoop_33 : decode cX6_largestScoop 33 = .ok (.getfield 44, 3) := by decide +kernel
theorem dX6_largestScoop_36 : decode cX6_largestScoop 36 = .ok (.iload_n 1, 1) := by decide +kernel
theorem dX6_largestScoop_37 : decode cX6_largestScoop 37 = .ok (.iaload, 1) := by decide +kernel
theorem dX6_largestScoop_38 : decode cX6_largestScoop 38 = .ok (.if_icmp .le 7, 3) := by decide +kernel
theorem dX6_largestScoop_41 : decode cX6_largestScoop 41 = .ok (.iload_n 2, 1) := by decide +kernel
theorem dX6_largestScoop_42 : decode cX6_largestScoop 42 = .ok (.goto 4, 3) := by decide +kernel
theorem dX6_largestScoop_45 : decode cX6_largestScoop 45 = .ok (.iload_n 1, 1) := by decide +kernel
theorem dX6_largestScoop_46 : decode cX6_largestScoop 46 = .ok (.istore_n 1, 1) := by decide +kernel
theorem dX6_largestScoop_47 : decode cX6_largestScoop 47 = .ok (.iinc 2 1, 3) := by decide +kernel
theorem dX6_largestScoop_50 : decode cX6_largestScoop 50 = .ok (.goto (-32), 3) := by decide +kernel
theorem dX6_largestScoop_53 : decode cX6_largestScoop 53 = .ok (.iload_n 1, 1) := by decide +kernel
theorem dX6_largestScoop_54 : decode cX6_largestScoop 54 = .ok (.ireturn, 1) := by decide +kernel
def fX6_largestScoop_18 : Nat → Int32 → Int32 → SS → Option (Int32 × SS)
  | 0, _, _, _ => none
  | n + 1, x1, x2, s => if (s.1 0 10) ≤ x2 then (some (x1, s)) else (if ixB x2 3 then (if ixB x1 3 then (if (s.1 18 x2.toNatClampNeg) ≤ (s.1 18 x1.toNatClampNeg) then (fX6_largestScoop_18 n x1 (x2 + (1 : Int32)) s) else (fX6_largestScoop_18 n x2 (x2 + (1 : Int32)) s)) else none) else none)
def fX6_largestScoop_0 (s : SS) : Option (Int32 × SS) := if (s.1 0 10) = 0 then (((fX6_refuse (-5 : Int32) s).bind fun z2 => some (z2.1, z2.2))) else (fX6_largestScoop_18 FU (0 : Int32) (1 : Int32) s)
def fX6_largestScoop (s : SS) : Option (Int32 × SS) := fX6_largestScoop_0 s
set_option maxRecDepth 100000 in
set_option maxHeartbeats 4000000 in
theorem okX6_largestScoop_18 {G : GG} {pl : Nat → Nat} {h0 : PH} : ∀ (n : Nat) (x1 : Int32) (x2 : Int32) (s : SS), EvF G 1 mX6_largestScoop lyR pl h0 rvI (fX6_largestScoop_18 n x1 x2 s) 18 [(0, .ref (pl 0)), (1, .int x1), (2, .int x2)] [] s := by
  intro n
  induction n with
  | zero => intro x1 x2 s; rw [fX6_largestScoop_18]; exact ef_none
  | succ n ih =>
    intro x1 x2 s
    rw [fX6_largestScoop_18]
    refine ef_iload_n (q := 19) 2 dX6_largestScoop_18 rfl rfl rfl ?_
    refine ef_aload_n (q := 20) 0 dX6_largestScoop_19 rfl rfl rfl ?_
    refine ef_getI (x := s.1 0 10) (q := 23) rfl fl6_93 rfl rfl dX6_largestScoop_20 rfl ?_
    refine ef_if (pt := 53) (pf := 26) (fun _ _ => ev_icmp_ge (tgt := 53) dX6_largestScoop_23 (by decide)) (fun h1 => ?_) (fun h1 => ?_)
    · refine ef_iload_n (q := 54) 1 dX6_largestScoop_53 rfl rfl rfl ?_
      exact ef_iret rfl dX6_largestScoop_54
    · refine ef_aload_n (q := 27) 0 dX6_largestScoop_26 rfl rfl rfl ?_
      refine ef_getR (t := 18) (q := 30) rfl fl6_44 rfl rfl dX6_largestScoop_27 rfl ?_
      refine ef_iload_n (q := 31) 2 dX6_largestScoop_30 rfl rfl rfl ?_
      refine ef_guard (fun g2 => ?_)
      refine ef_iaload (x := s.1 18 x2.toNatClampNeg) (q := 32) rfl g2 dX6_largestScoop_31 rfl rfl ?_
      refine ef_aload_n (q := 33) 0 dX6_largestScoop_32 rfl rfl rfl ?_
      refine ef_getR (t := 18) (q := 36) rfl fl6_44 rfl rfl dX6_largestScoop_33 rfl ?_
      refine ef_iload_n (q := 37) 1 dX6_largestScoop_36 rfl rfl rfl ?_
      refine ef_guard (fun g3 => ?_)
      refine ef_iaload (x := s.1 18 x1.toNatClampNeg) (q := 38) rfl g3 dX6_largestScoop_37 rfl rfl ?_
      refine ef_if (pt := 45) (pf := 41) (fun _ _ => ev_icmp_le (tgt := 45) dX6_largestScoop_38 (by decide)) (fun h4 => ?_) (fun h4 => ?_)
      · refine ef_iload_n (q := 46) 1 dX6_largestScoop_45 rfl rfl rfl ?_
        refine ef_istore_n (lv' := [(1, .int x1), (0, .ref (pl 0)), (2, .int x2)]) (q := 47) dX6_largestScoop_46 rfl (by decide) rfl rfl ?_
        refine ef_iinc (v := x2 + (1 : Int32)) (lv' := [(2, .int (x2 + (1 : Int32))), (1, .int x1), (0, .ref (pl 0))]) (q := 50) 2 dX6_largestScoop_47 rfl rfl (by decide) rfl rfl ?_
        refine ef_goto (tgt := 18) dX6_largestScoop_50 (by decide) ?_
        refine ef_sub (lv' := [(0, .ref (pl 0)), (1, .int x1), (2, .int (x2 + (1 : Int32)))]) [2, 1, 0] rfl ?_
        exact ih x1 (x2 + (1 : Int32)) s
      · refine ef_iload_n (q := 42) 2 dX6_largestScoop_41 rfl rfl rfl ?_
        refine ef_goto (tgt := 46) dX6_largestScoop_42 (by decide) ?_
        refine ef_istore_n (lv' := [(1, .int x2), (0, .ref (pl 0)), (2, .int x2)]) (q := 47) dX6_largestScoop_46 rfl (by decide) rfl rfl ?_
        refine ef_iinc (v := x2 + (1 : Int32)) (lv' := [(2, .int (x2 + (1 : Int32))), (1, .int x2), (0, .ref (pl 0))]) (q := 50) 2 dX6_largestScoop_47 rfl rfl (by decide) rfl rfl ?_
        refine ef_goto (tgt := 18) dX6_largestScoop_50 (by decide) ?_
        refine ef_sub (lv' := [(0, .ref (pl 0)), (1, .int x2), (2, .int (x2 + (1 : Int32)))]) [2, 1, 0] rfl ?_
        exact ih x2 (x2 + (1 : Int32)) s
set_option maxRecDepth 100000 in
set_option maxHeartbeats 4000000 in
theorem okX6_largestScoop_0 {G : GG} {pl : Nat → Nat} {h0 : PH} (s : SS) : EvF G 1 mX6_largestScoop lyR pl h0 rvI (fX6_largestScoop_0 s) 0 [(0, .ref (pl 0))] [] s := by
  unfold fX6_largestScoop_0
  refine ef_aload_n (q := 1) 0 dX6_largestScoop_0 rfl rfl rfl ?_
  refine ef_getI (x := s.1 0 10) (q := 4) rfl fl6_93 rfl rfl dX6_largestScoop_1 rfl ?_
  refine ef_if (pt := 7) (pf := 14) (fun _ _ kt kf => ev_if_ne (tgt := 14) dX6_largestScoop_4 (by decide) kf kt) (fun h1 => ?_) (fun h1 => ?_)
  · refine ef_aload_n (q := 8) 0 dX6_largestScoop_7 rfl rfl rfl ?_
    refine ef_bipush (v := (-5 : Int32)) (q := 10) dX6_largestScoop_8 (by decide) rfl ?_
    refine ef_invVI0 (k := 0) (As := [.int (-5 : Int32)]) (rest := []) (q := 13) (okX6_refuse (-5 : Int32)) rfl calX6_refuse ml6_102 (by decide) rfl rfl rfl (Nat.le_of_ble_eq_true rfl) dX6_largestScoop_10 rfl (fun z2 => ?_)
    exact ef_iret rfl dX6_largestScoop_13
  · refine ef_iconst (v := (0 : Int32)) (q := 15) dX6_largestScoop_14 (by decide) rfl ?_
    refine ef_istore_n (lv' := [(1, .int (0 : Int32)), (0, .ref (pl 0))]) (q := 16) dX6_largestScoop_15 rfl (by decide) rfl rfl ?_
    refine ef_iconst (v := (1 : Int32)) (q := 17) dX6_largestScoop_16 (by decide) rfl ?_
    refine ef_istore_n (lv' := [(2, .int (1 : Int32)), (1, .int (0 : Int32)), (0, .ref (pl 0))]) (q := 18) dX6_largestScoop_17 rfl (by decide) rfl rfl ?_
    refine ef_sub (lv' := [(0, .ref (pl 0)), (1, .int (0 : Int32)), (2, .int (1 : Int32))]) [2, 1, 0] rfl ?_
    exact okX6_largestScoop_18 FU (0 : Int32) (1 : Int32) s
theorem okX6_largestScoop : MtF 1 mX6_largestScoop lyR rvI (fun _ pl => [.ref (pl 0)]) (fX6_largestScoop) := by
  refine MtF.of (by decide +kernel) rfl (fun _ pl => Nat.le_of_ble_eq_true rfl) (fun G pl h0 s => ?_)
  refine ef_sub (lv := [(0, .ref (pl 0))]) (lv' := [(0, .ref (pl 0))]) [0] rfl ?_
  exact okX6_largestScoop_0  s
-- X6_noActs
theorem dX6_noActs_0 : decode cX6_noActs 0 = .ok (.iload_n 1, 1) := by decide +kernel
theorem dX6_noActs_1 : decode cX6_noActs 1 = .ok (.i2l, 1) := by decide +kernel
theorem dX6_noActs_2 : decode cX6_noActs 2 = .ok (.lconst 0, 1) := by decide +kernel
theorem dX6_noActs_3 : decode cX6_noActs 3 = .ok (.ldc2_w 96, 3) := by decide +kernel
theorem dX6_noActs_6 : decode cX6_noActs 6 = .ok (.invokestatic 89, 3) := by decide +kernel
theorem dX6_noActs_9 : decode cX6_noActs 9 = .ok (.ifCond .eq 15, 3) := by decide +kernel
theorem dX6_noActs_12 : decode cX6_noActs 12 = .ok (.iload_n 2, 1) := by decide +kernel
theorem dX6_noActs_13 : decode cX6_noActs 13 = .ok (.i2l, 1) := by decide +kernel
theorem dX6_noActs_14 : decode cX6_noActs 14 = .ok (.lconst 0, 1) := by decide +kernel
theorem dX6_noActs_15 : decode cX6_noActs 15 = .ok (.ldc2_w 100, 3) := by decide +kernel
theorem dX6_noActs_18 : decode cX6_noActs 18 = .ok (.invokestatic 89, 3) := by decide +kernel
theorem dX6_noActs_21 : decode cX6_noActs 21 = .ok (.ifCond .ne 10, 3) := by decide +kernel
theorem dX6_noActs_24 : decode cX6_noActs 24 = .ok (.aload_n 0, 1) := by decide +kernel
theorem dX6_noActs_25 : decode cX6_noActs 25 = .ok (.bipush (-2), 2) := by decide +kernel
theorem dX6_noActs_27 : decode cX6_noActs 27 = .ok (.invokevirtual 102, 3) := by decide +kernel
theorem dX6_noActs_30 : decode cX6_noActs 30 = .ok (.ireturn, 1) := by decide +kernel
theorem dX6_noActs_31 : decode cX6_noActs 31 = .ok (.aload_n 0, 1) := by decide +kernel
theorem dX6_noActs_32 : decode cX6_noActs 32 = .ok (.iload_n 1, 1) := by decide +kernel
theorem dX6_noActs_33 : decode cX6_noActs 33 = .ok (.invokevirtual 106, 3) := by decide +kernel
theorem dX6_noActs_36 : decode cX6_noActs 36 = .ok (.istore_n 3, 1) := by decide +kernel
theorem dX6_noActs_37 : decode cX6_noActs 37 = .ok (.iload_n 3, 1) := by decide +kernel
theorem dX6_noActs_38 : decode cX6_noActs 38 = .ok (.ifCond .eq 5, 3) := by decide +kernel
theorem dX6_noActs_41 : decode cX6_noActs 41 = .ok (.iload_n 3, 1) := by decide +kernel
theorem dX6_noActs_42 : decode cX6_noActs 42 = .ok (.ireturn, 1) := by decide +kernel
theorem dX6_noActs_43 : decode cX6_noActs 43 = .ok (.aload_n 0, 1) := by decide +kernel
theorem dX6_noActs_44 : decode cX6_noActs 44 = .ok (.getfield 16, 3) := by decide +kernel
theorem dX6_noActs_47 : decode cX6_noActs 47 = .ok (.iload_n 1, 1) := by decide +kernel
theorem dX6_noActs_48 : decode cX6_noActs 48 = .ok (.iaload, 1) := by decide +kernel
theorem dX6_noActs_49 : decode cX6_noActs 49 = .ok (.iload_n 2, 1) := by decide +kernel
theorem dX6_noActs_50 : decode cX6_noActs 50 = .ok (.if_icmp .ge 12, 3) := by decide +kernel
theorem dX6_noActs_53 : decode cX6_noActs 53 = .ok (.aload_n 0, 1) := by decide +kernel
theorem dX6_noActs_54 : decode cX6_noActs 54 = .ok (.bipush (-2), 2) := by decide +kernel
theorem dX6_noActs_56 : decode cX6_noActs 56 = .ok (.invokevirtual 102, 3) := by decide +kernel
theorem dX6_noActs_59 : decode cX6_noActs 59 = .ok (.goto 4, 3) := by decide +kernel
theorem dX6_noActs_62 : decode cX6_noActs 62 = .ok (.iconst 0, 1) := by decide +kernel
theorem dX6_noActs_63 : decode cX6_noActs 63 = .ok (.ireturn, 1) := by decide +kernel
def fX6_noActs_24 (s : SS) : Option (Int32 × SS) := ((fX6_refuse (-2 : Int32) s).bind fun z1 => some (z1.1, z1.2))
def fX6_noActs_0 (x1 : Int32) (x2 : Int32) (s : SS) : Option (Int32 × SS) := ((fX6_in x1.toInt64 (0 : Int64) (7 : Int64) s).bind fun z1 => if z1.1 = 0 then (fX6_noActs_24 s) else (((fX6_in x2.toInt64 (0 : Int64) (40 : Int64) s).bind fun z3 => if z3.1 = 0 then (fX6_noActs_24 s) else (((fX6_noRow x1 s).bind fun z5 => if z5.1 = 0 then (if ixB x1 8 then (if x2 ≤ (z5.2.1 3 x1.toNatClampNeg) then (some ((0 : Int32), z5.2)) else (((fX6_refuse (-2 : Int32) z5.2).bind fun z9 => some (z9.1, z9.2)))) else none) else (some (z5.1, z5.2)))))))
def fX6_noActs (x1 : Int32) (x2 : Int32) (s : SS) : Option (Int32 × SS) := fX6_noActs_0 x1 x2 s
set_option maxRecDepth 100000 in
set_option maxHeartbeats 4000000 in
theorem okX6_noActs_24 {G : GG} {pl : Nat → Nat} {h0 : PH} (s : SS) : EvF G 2 mX6_noActs lyR pl h0 rvI (fX6_noActs_24 s) 24 [(0, .ref (pl 0))] [] s := by
  unfold fX6_noActs_24
  refine ef_aload_n (q := 25) 0 dX6_noActs_24 rfl rfl rfl ?_
  refine ef_bipush (v := (-2 : Int32)) (q := 27) dX6_noActs_25 (by decide) rfl ?_
  refine ef_invVI0 (k := 0) (As := [.int (-2 : Int32)]) (rest := []) (q := 30) (okX6_refuse (-2 : Int32)) rfl calX6_refuse ml6_102 (by decide) rfl rfl rfl (Nat.le_of_ble_eq_true rfl) dX6_noActs_27 rfl (fun z1 => ?_)
  exact ef_iret rfl dX6_noActs_30
set_option maxRecDepth 100000 in
set_option maxHeartbeats 4000000 in
theorem okX6_noActs_0 {G : GG} {pl : Nat → Nat} {h0 : PH} (x1 : Int32) (x2 : Int32) (s : SS) : EvF G 2 mX6_noActs lyR pl h0 rvI (fX6_noActs_0 x1 x2 s) 0 [(0, .ref (pl 0)), (1, .int x1), (2, .int x2)] [] s := by
  unfold fX6_noActs_0
  refine ef_iload_n (q := 1) 1 dX6_noActs_0 rfl rfl rfl ?_
  refine ef_i2l (v := x1.toInt64) (q := 2) dX6_noActs_1 rfl rfl ?_
  refine ef_lconst (v := (0 : Int64)) (q := 3) dX6_noActs_2 (by decide) rfl ?_
  refine ef_ldc2 (v := (7 : Int64)) (q := 6) k6_96 dX6_noActs_3 rfl ?_
  refine ef_invPI0 (As := [.long x1.toInt64, .long (0 : Int64), .long (7 : Int64)]) (rest := []) (q := 9) (okX6_in x1.toInt64 (0 : Int64) (7 : Int64)) rfl calX6_in ml6_89 (by decide) rfl rfl (Nat.le_of_ble_eq_true rfl) dX6_noActs_6 rfl (fun z1 => ?_)
  refine ef_if (pt := 24) (pf := 12) (fun _ _ => ev_if_eq (tgt := 24) dX6_noActs_9 (by decide)) (fun h2 => ?_) (fun h2 => ?_)
  · refine ef_sub (lv' := [(0, .ref (pl 0))]) [0] rfl ?_
    exact okX6_noActs_24 s
  · refine ef_iload_n (q := 13) 2 dX6_noActs_12 rfl rfl rfl ?_
    refine ef_i2l (v := x2.toInt64) (q := 14) dX6_noActs_13 rfl rfl ?_
    refine ef_lconst (v := (0 : Int64)) (q := 15) dX6_noActs_14 (by decide) rfl ?_
    refine ef_ldc2 (v := (40 : Int64)) (q := 18) k6_100 dX6_noActs_15 rfl ?_
    refine ef_invPI0 (As := [.long x2.toInt64, .long (0 : Int64), .long (40 : Int64)]) (rest := []) (q := 21) (okX6_in x2.toInt64 (0 : Int64) (40 : Int64)) rfl calX6_in ml6_89 (by decide) rfl rfl (Nat.le_of_ble_eq_true rfl) dX6_noActs_18 rfl (fun z3 => ?_)
    refine ef_if (pt := 24) (pf := 31) (fun _ _ kt kf => ev_if_ne (tgt := 31) dX6_noActs_21 (by decide) kf kt) (fun h4 => ?_) (fun h4 => ?_)
    · refine ef_sub (lv' := [(0, .ref (pl 0))]) [0] rfl ?_
      exact okX6_noActs_24 s
    · refine ef_aload_n (q := 32) 0 dX6_noActs_31 rfl rfl rfl ?_
      refine ef_iload_n (q := 33) 1 dX6_noActs_32 rfl rfl rfl ?_
      refine ef_invVI0 (k := 0) (As := [.int x1]) (rest := []) (q := 36) (okX6_noRow x1) rfl calX6_noRow ml6_106 (by decide) rfl rfl rfl (Nat.le_of_ble_eq_true rfl) dX6_noActs_33 rfl (fun z5 => ?_)
      refine ef_istore_n (lv' := [(3, .int z5.1), (0, .ref (pl 0)), (1, .int x1), (2, .int x2)]) (q := 37) dX6_noActs_36 rfl (by decide) rfl rfl ?_
      refine ef_iload_n (q := 38) 0 dX6_noActs_37 rfl rfl rfl ?_
      refine ef_if (pt := 43) (pf := 41) (fun _ _ => ev_if_eq (tgt := 43) dX6_noActs_38 (by decide)) (fun h6 => ?_) (fun h6 => ?_)
      · refine ef_aload_n (q := 44) 1 dX6_noActs_43 rfl rfl rfl ?_
        refine ef_getR (t := 3) (q := 47) rfl fl6_16 rfl rfl dX6_noActs_44 rfl ?_
        refine ef_iload_n (q := 48) 2 dX6_noActs_47 rfl rfl rfl ?_
        refine ef_guard (fun g7 => ?_)
        refine ef_iaload (x := z5.2.1 3 x1.toNatClampNeg) (q := 49) rfl g7 dX6_noActs_48 rfl rfl ?_
        refine ef_iload_n (q := 50) 3 dX6_noActs_49 rfl rfl rfl ?_
        refine ef_if (pt := 62) (pf := 53) (fun _ _ => ev_icmp_ge (tgt := 62) dX6_noActs_50 (by decide)) (fun h8 => ?_) (fun h8 => ?_)
        · refine ef_iconst (v := (0 : Int32)) (q := 63) dX6_noActs_62 (by decide) rfl ?_
          exact ef_iret rfl dX6_noActs_63
        · refine ef_aload_n (q := 54) 1 dX6_noActs_53 rfl rfl rfl ?_
          refine ef_bipush (v := (-2 : Int32)) (q := 56) dX6_noActs_54 (by decide) rfl ?_
          refine ef_invVI0 (k := 0) (As := [.int (-2 : Int32)]) (rest := []) (q := 59) (okX6_refuse (-2 : Int32)) rfl calX6_refuse ml6_102 (by decide) rfl rfl rfl (Nat.le_of_ble_eq_true rfl) dX6_noActs_56 rfl (fun z9 => ?_)
          refine ef_goto (tgt := 63) dX6_noActs_59 (by decide) ?_
          exact ef_iret rfl dX6_noActs_63
      · refine ef_iload_n (q := 42) 0 dX6_noActs_41 rfl rfl rfl ?_
        exact ef_iret rfl dX6_noActs_42
theorem okX6_noActs (x1 : Int32) (x2 : Int32) : MtF 2 mX6_noActs lyR rvI (fun _ pl => [.ref (pl 0), .int x1, .int x2]) (fX6_noActs x1 x2) := by
  refine MtF.of (by decide +kernel) rfl (fun _ pl => Nat.le_of_ble_eq_true rfl) (fun G pl h0 s => ?_)
  refine ef_sub (lv := [(0, .ref (pl 0)), (1, .int x1), (2, .int x2)]) (lv' := [(0, .ref (pl 0)), (1, .int x1), (2, .int x2)]) [0, 1, 2] rfl ?_
  exact okX6_noActs_0  x1 x2 s
-- X6_wrongIn
theorem dX6_wrongIn_0 : decode cX6_wrongIn 0 = .ok (.iconst 0, 1) := by decide +kernel
theorem dX6_wrongIn_1 : decode cX6_wrongIn 1 = .ok (.istore_n 3, 1) := by decide +kernel
theorem dX6_wrongIn_2 : decode cX6_wrongIn 2 = .ok (.iload_n 3, 1) := by decide +kernel
theorem dX6_wrongIn_3 : decode cX6_wrongIn 3 = .ok (.iload_n 2, 1) := by decide +kernel
theorem dX6_wrongIn_4 : decode cX6_wrongIn 4 = .ok (.if_icmp .ge 21, 3) := by decide +kernel
theorem dX6_wrongIn_7 : decode cX6_wrongIn 7 = .ok (.aload_n 0, 1) := by decide +kernel
theorem dX6_wrongIn_8 : decode cX6_wrongIn 8 = .ok (.aload_n 1, 1) := by decide +kernel
theorem dX6_wrongIn_9 : decode cX6_wrongIn 9 = .ok (.iload_n 3, 1) := by decide +kernel
theorem dX6_wrongIn_10 : decode cX6_wrongIn 10 = .ok (.laload, 1) := by decide +kernel
theorem dX6_wrongIn_11 : decode cX6_wrongIn 11 = .ok (.invokevirtual 208, 3) := by decide +kernel
theorem dX6_wrongIn_14 : decode cX6_wrongIn 14 = .ok (.ifCond .ne 5, 3) := by decide +kernel
theorem dX6_wrongIn_17 : decode cX6_wrongIn 17 = .ok (.iload_n 3, 1) := by decide +kernel
theorem dX6_wrongIn_18 : decode cX6_wrongIn 18 = .ok (.ireturn, 1) := by decide +kernel
theorem dX6_wrongIn_19 : decode cX6_wrongIn 19 = .ok (.iinc 3 1, 3) := by decide +kernel
theorem dX6_wrongIn_22 : decode cX6_wrongIn 22 = .ok (.goto (-20), 3) := by decide +kernel
theorem dX6_wrongIn_25 : decode cX6_wrongIn 25 = .ok (.iconst (-1), 1) := by decide +kernel
theorem dX6_wrongIn_26 : decode cX6_wrongIn 26 = .ok (.ireturn, 1) := by decide +kernel
def fX6_wrongIn_2 : Nat → Nat → Int32 → Int32 → SS → Option (Int32 × SS)
  | 0, _, _, _, _ => none
  | n + 1, j1, x2, x3, s => if x2 ≤ x3 then (some ((-1 : Int32), s)) else (if ixB x3 40 then (((fX6_canAct (s.2 (5 + j1) x3.toNatClampNeg) s).bind fun z3 => if z3.1 = 0 then (some (x3, z3.2)) else (fX6_wrongIn_2 n j1 x2 (x3 + (1 : Int32)) z3.2))) else none)
def fX6_wrongIn_0 (j1 : Nat) (x2 : Int32) (s : SS) : Option (Int32 × SS) := fX6_wrongIn_2 FU j1 x2 (0 : Int32) s
def fX6_wrongIn (j1 : Nat) (x2 : Int32) (s : SS) : Option (Int32 × SS) := if j1 < 8 then fX6_wrongIn_0 j1 x2 s else none
set_option maxRecDepth 100000 in
set_option maxHeartbeats 4000000 in
theorem okX6_wrongIn_2 {G : GG} {pl : Nat → Nat} {h0 : PH} : ∀ (n : Nat) (j1 : Nat) (hj1 : j1 < 8) (x2 : Int32) (x3 : Int32) (s : SS), EvF G 2 mX6_wrongIn lyR pl h0 rvI (fX6_wrongIn_2 n j1 x2 x3 s) 2 [(0, .ref (pl 0)), (1, .ref (pl (5 + j1))), (2, .int x2), (3, .int x3)] [] s := by
  intro n
  induction n with
  | zero => intro j1 hj1 x2 x3 s; rw [fX6_wrongIn_2]; exact ef_none
  | succ n ih =>
    intro j1 hj1 x2 x3 s
    rw [fX6_wrongIn_2]
    refine ef_iload_n (q := 3) 3 dX6_wrongIn_2 rfl rfl rfl ?_
    refine ef_iload_n (q := 4) 2 dX6_wrongIn_3 rfl rfl rfl ?_
    refine ef_if (pt := 25) (pf := 7) (fun _ _ => ev_icmp_ge (tgt := 25) dX6_wrongIn_4 (by decide)) (fun h1 => ?_) (fun h1 => ?_)
    · refine ef_iconst (v := (-1 : Int32)) (q := 26) dX6_wrongIn_25 (by decide) rfl ?_
      exact ef_iret rfl dX6_wrongIn_26
    · refine ef_aload_n (q := 8) 0 dX6_wrongIn_7 rfl rfl rfl ?_
      refine ef_aload_n (q := 9) 1 dX6_wrongIn_8 rfl rfl rfl ?_
      refine ef_iload_n (q := 10) 3 dX6_wrongIn_9 rfl rfl rfl ?_
      refine ef_guard (fun g2 => ?_)
      refine ef_laload (x := s.2 (5 + j1) x3.toNatClampNeg) (q := 11) (lyR_f4_0 _ (hj1)) g2 dX6_wrongIn_10 rfl rfl ?_
      refine ef_invVI0 (k := 0) (As := [.long (s.2 (5 + j1) x3.toNatClampNeg)]) (rest := []) (q := 14) (okX6_canAct (s.2 (5 + j1) x3.toNatClampNeg)) rfl calX6_canAct ml6_208 (by decide) rfl rfl rfl (Nat.le_of_ble_eq_true rfl) dX6_wrongIn_11 rfl (fun z3 => ?_)
      refine ef_if (pt := 17) (pf := 19) (fun _ _ kt kf => ev_if_ne (tgt := 19) dX6_wrongIn_14 (by decide) kf kt) (fun h4 => ?_) (fun h4 => ?_)
      · refine ef_iload_n (q := 18) 3 dX6_wrongIn_17 rfl rfl rfl ?_
        exact ef_iret rfl dX6_wrongIn_18
      · refine ef_iinc (v := x3 + (1 : Int32)) (lv' := [(3, .int (x3 + (1 : Int32))), (0, .ref (pl 0)), (1, .ref (pl (5 + j1))), (2, .int x2)]) (q := 22) 3 dX6_wrongIn_19 rfl rfl (by decide) rfl rfl ?_
        refine ef_goto (tgt := 2) dX6_wrongIn_22 (by decide) ?_
        refine ef_sub (lv' := [(0, .ref (pl 0)), (1, .ref (pl (5 + j1))), (2, .int x2), (3, .int (x3 + (1 : Int32)))]) [1, 2, 3, 0] rfl ?_
        exact ih j1 hj1 x2 (x3 + (1 : Int32)) z3.2
set_option maxRecDepth 100000 in
set_option maxHeartbeats 4000000 in
theorem okX6_wrongIn_0 {G : GG} {pl : Nat → Nat} {h0 : PH} (j1 : Nat) (hj1 : j1 < 8) (x2 : Int32) (s : SS) : EvF G 2 mX6_wrongIn lyR pl h0 rvI (fX6_wrongIn_0 j1 x2 s) 0 [(0, .ref (pl 0)), (1, .ref (pl (5 + j1))), (2, .int x2)] [] s := by
  unfold fX6_wrongIn_0
  refine ef_iconst (v := (0 : Int32)) (q := 1) dX6_wrongIn_0 (by decide) rfl ?_
  refine ef_istore_n (lv' := [(3, .int (0 : Int32)), (0, .ref (pl 0)), (1, .ref (pl (5 + j1))), (2, .int x2)]) (q := 2) dX6_wrongIn_1 rfl (by decide) rfl rfl ?_
  refine ef_sub (lv' := [(0, .ref (pl 0)), (1, .ref (pl (5 + j1))), (2, .int x2), (3, .int (0 : Int32))]) [1, 2, 3, 0] rfl ?_
  exact okX6_wrongIn_2 FU j1 hj1 x2 (0 : Int32) s
theorem okX6_wrongIn (j1 : Nat) (x2 : Int32) : MtF 2 mX6_wrongIn lyR rvI (fun _ pl => [.ref (pl 0), .ref (pl (5 + j1)), .int x2]) (fX6_wrongIn j1 x2) := by
  refine MtF.of (by decide +kernel) rfl (fun _ pl => Nat.le_of_ble_eq_true rfl) (fun G pl h0 s => ?_)
  refine ef_guard (fun gal => ?_)
  refine ef_sub (lv := [(0, .ref (pl 0)), (1, .ref (pl (5 + j1))), (2, .int x2)]) (lv' := [(0, .ref (pl 0)), (1, .ref (pl (5 + j1))), (2, .int x2)]) [0, 1, 2] rfl ?_
  exact okX6_wrongIn_0  j1 gal x2 s
-- X6_judge
theorem dX6_judge_0 : decode cX6_judge 0 = .ok (.aload_n 0, 1) := by decide +kernel
theorem dX6_judge_1 : decode cX6_judge 1 = .ok (.iload_n 1, 1) := by decide +kernel
theorem dX6_judge_2 : decode cX6_judge 2 = .ok (.iload_n 2, 1) := by decide +kernel
theorem dX6_judge_3 : decode cX6_judge 3 = .ok (.invokevirtual 368, 3) := by decide +kernel
theorem dX6_judge_6 : decode cX6_judge 6 = .ok (.istore_n 3, 1) := by decide +kernel
theorem dX6_judge_7 : decode cX6_judge 7 = .ok (.iload_n 3, 1) := by decide +kernel
theorem dX6_judge_8 : decode cX6_judge 8 = .ok (.ifCond .eq 7, 3) := by decide +kernel
theorem dX6_judge_11 : decode cX6_judge 11 = .ok (.iload_n 3, 1) := by decide +kernel
theorem dX6_judge_12 : decode cX6_judge 12 = .ok (.goto 14, 3) := by decide +kernel
theorem dX6_judge_15 : decode cX6_judge 15 = .ok (.aload_n 0, 1) := by decide +kernel
theorem dX6_judge_16 : decode cX6_judge 16 = .ok (.aload_n 0, 1) := by decide +kernel
theorem dX6_judge_17 : decode cX6_judge 17 = .ok (.getfield 21, 3) := by decide +kernel
theorem dX6_judge_20 : decode cX6_judge 20 = .ok (.iload_n 1, 1) := by decide +kernel
theorem dX6_judge_21 : decode cX6_judge 21 = .ok (.aaload, 1) := by decide +kernel
theorem dX6_judge_22 : decode cX6_judge 22 = .ok (.iload_n 2, 1) := by decide +kernel
theorem dX6_judge_23 : decode cX6_judge 23 = .ok (.invokevirtual 372, 3) := by decide +kernel
theorem dX6_judge_26 : decode cX6_judge 26 = .ok (.ireturn, 1) := by decide +kernel
def fX6_judge_0 (x1 : Int32) (x2 : Int32) (s : SS) : Option (Int32 × SS) := ((fX6_noActs x1 x2 s).bind fun z1 => if z1.1 = 0 then (if ixB x1 8 then (((fX6_wrongIn x1.toNatClampNeg x2 z1.2).bind fun z4 => some (z4.1, z4.2))) else none) else (some (z1.1, z1.2)))
def fX6_judge (x1 : Int32) (x2 : Int32) (s : SS) : Option (Int32 × SS) := fX6_judge_0 x1 x2 s
set_option maxRecDepth 100000 in
set_option maxHeartbeats 4000000 in
theorem okX6_judge_0 {G : GG} {pl : Nat → Nat} {h0 : PH} (x1 : Int32) (x2 : Int32) (s : SS) : EvF G 3 mX6_judge lyR pl h0 rvI (fX6_judge_0 x1 x2 s) 0 [(0, .ref (pl 0)), (1, .int x1), (2, .int x2)] [] s := by
  unfold fX6_judge_0
  refine ef_aload_n (q := 1) 0 dX6_judge_0 rfl rfl rfl ?_
  refine ef_iload_n (q := 2) 1 dX6_judge_1 rfl rfl rfl ?_
  refine ef_iload_n (q := 3) 2 dX6_judge_2 rfl rfl rfl ?_
  refine ef_invVI0 (k := 0) (As := [.int x1, .int x2]) (rest := []) (q := 6) (okX6_noActs x1 x2) rfl calX6_noActs ml6_368 (by decide) rfl rfl rfl (Nat.le_of_ble_eq_true rfl) dX6_judge_3 rfl (fun z1 => ?_)
  refine ef_istore_n (lv' := [(3, .int z1.1), (0, .ref (pl 0)), (1, .int x1), (2, .int x2)]) (q := 7) dX6_judge_6 rfl (by decide) rfl rfl ?_
  refine ef_iload_n (q := 8) 0 dX6_judge_7 rfl rfl rfl ?_
  refine ef_if (pt := 15) (pf := 11) (fun _ _ => ev_if_eq (tgt := 15) dX6_judge_8 (by decide)) (fun h2 => ?_) (fun h2 => ?_)
  · refine ef_aload_n (q := 16) 1 dX6_judge_15 rfl rfl rfl ?_
    refine ef_aload_n (q := 17) 1 dX6_judge_16 rfl rfl rfl ?_
    refine ef_getR (t := 4) (q := 20) rfl fl6_21 rfl rfl dX6_judge_17 rfl ?_
    refine ef_iload_n (q := 21) 2 dX6_judge_20 rfl rfl rfl ?_
    refine ef_guard (fun g3 => ?_)
    refine ef_aaload (t0 := 5 + x1.toNatClampNeg) (q := 22) rfl (by decide) lyR_t4 g3 dX6_judge_21 rfl rfl ?_
    refine ef_iload_n (q := 23) 3 dX6_judge_22 rfl rfl rfl ?_
    refine ef_invVI0 (k := 0) (As := [.ref (pl (5 + x1.toNatClampNeg)), .int x2]) (rest := []) (q := 26) (okX6_wrongIn x1.toNatClampNeg x2) rfl calX6_wrongIn ml6_372 (by decide) rfl rfl rfl (Nat.le_of_ble_eq_true rfl) dX6_judge_23 rfl (fun z4 => ?_)
    exact ef_iret rfl dX6_judge_26
  · refine ef_iload_n (q := 12) 0 dX6_judge_11 rfl rfl rfl ?_
    refine ef_goto (tgt := 26) dX6_judge_12 (by decide) ?_
    exact ef_iret rfl dX6_judge_26
theorem okX6_judge (x1 : Int32) (x2 : Int32) : MtF 3 mX6_judge lyR rvI (fun _ pl => [.ref (pl 0), .int x1, .int x2]) (fX6_judge x1 x2) := by
  refine MtF.of (by decide +kernel) rfl (fun _ pl => Nat.le_of_ble_eq_true rfl) (fun G pl h0 s => ?_)
  refine ef_sub (lv := [(0, .ref (pl 0)), (1, .int x1), (2, .int x2)]) (lv' := [(0, .ref (pl 0)), (1, .int x1), (2, .int x2)]) [0, 1, 2] rfl ?_
  exact okX6_judge_0  x1 x2 s
-- X6_done
theorem dX6_done_0 : decode cX6_done 0 = .ok (.aload_n 0, 1) := by decide +kernel
theorem dX6_done_1 : decode cX6_done 1 = .ok (.iload_n 1, 1) := by decide +kernel
theorem dX6_done_2 : decode cX6_done 2 = .ok (.iload_n 2, 1) := by decide +kernel
theorem dX6_done_3 : decode cX6_done 3 = .ok (.invokevirtual 368, 3) := by decide +kernel
theorem dX6_done_6 : decode cX6_done 6 = .ok (.istore_n 3, 1) := by decide +kernel
theorem dX6_done_7 : decode cX6_done 7 = .ok (.iload_n 3, 1) := by decide +kernel
theorem dX6_done_8 : decode cX6_done 8 = .ok (.ifCond .eq 5, 3) := by decide +kernel
theorem dX6_done_11 : decode cX6_done 11 = .ok (.iload_n 3, 1) := by decide +kernel
theorem dX6_done_12 : decode cX6_done 12 = .ok (.ireturn, 1) := by decide +kernel
theorem dX6_done_13 : decode cX6_done 13 = .ok (.aload_n 0, 1) := by decide +kernel
theorem dX6_done_14 : decode cX6_done 14 = .ok (.aload_n 0, 1) := by decide +kernel
theorem dX6_done_15 : decode cX6_done 15 = .ok (.getfield 21, 3) := by decide +kernel
theorem dX6_done_18 : decode cX6_done 18 = .ok (.iload_n 1, 1) := by decide +kernel
theorem dX6_done_19 : decode cX6_done 19 = .ok (.aaload, 1) := by decide +kernel
theorem dX6_done_20 : decode cX6_done 20 = .ok (.iload_n 2, 1) := by decide +kernel
theorem dX6_done_21 : decode cX6_done 21 = .ok (.invokevirtual 372, 3) := by decide +kernel
theorem dX6_done_24 : decode cX6_done 24 = .ok (.iconst (-1), 1) := by decide +kernel
theorem dX6_done_25 : decode cX6_done 25 = .ok (.if_icmp .eq 10, 3) := by decide +kernel
theorem dX6_done_28 : decode cX6_done 28 = .ok (.aload_n 0, 1) := by decide +kernel
theorem dX6_done_29 : decode cX6_done 29 = .ok (.bipush (-5), 2) := by decide +kernel
theorem dX6_done_31 : decode cX6_done 31 = .ok (.invokevirtual 102, 3) := by decide +kernel
theorem dX6_done_34 : decode cX6_done 34 = .ok (.ireturn, 1) := by decide +kernel
theorem dX6_done_35 : decode cX6_done 35 = .ok (.aload_n 0, 1) := by decide +kernel
theorem dX6_done_36 : decode cX6_done 36 = .ok (.getfield 283, 3) := by decide +kernel
theorem dX6_done_39 : decode cX6_done 39 = .ok (.istore 4, 2) := by decide +kernel
theorem dX6_done_41 : decode cX6_done 41 = .ok (.iconst 0, 1) := by decide +kernel
theorem dX6_done_42 : decode cX6_done 42 = .ok (.istore 5, 2) := by decide +kernel
theorem dX6_done_44 : decode cX6_done 44 = .ok (.iload 5, 2) := by decide +kernel
theorem dX6_done_46 : decode cX6_done 46 = .ok (.iload_n 2, 1) := by decide +kernel
theorem dX6_done_47 : decode cX6_done 47 = .ok (.if_icmp .ge 24, 3) := by decide +kernel
theorem dX6_done_50 : decode cX6_done 50 = .ok (.aload_n 0, 1) := by decide +kernel
theorem dX6_done_51 : decode cX6_done 51 = .ok (.aload_n 0, 1) := by decide +kernel
theorem dX6_done_52 : decode cX6_done 52 = .ok (.getfield 21, 3) := by decide +kernel
theorem dX6_done_55 : decode cX6_done 55 = .ok (.iload_n 1, 1) := by decide +kernel
theorem dX6_done_56 : decode cX6_done 56 = .ok (.aaload, 1) := by decide +kernel
theorem dX6_done_57 : decode cX6_done 57 = .ok (.iload 5, 2) := by decide +kernel
theorem dX6_done_59 : decode cX6_done 59 = .ok (.laload, 1) := by decide +kernel
theorem dX6_done_60 : decode cX6_done 60 = .ok (.l2i, 1) := by decide +kernel
theorem dX6_done_61 : decode cX6_done 61 = .ok (.iconst 1, 1) := by decide +kernel
theorem dX6_done_62 : decode cX6_done 62 = .ok (.invokevirtual 212, 3) := by decide +kernel
theorem dX6_done_65 : decode cX6_done 65 = .ok (.iinc 5 1, 3) := by decide +kernel
theorem dX6_done_68 : decode cX6_done 68 = .ok (.goto (-24), 3) := by decide +kernel
theorem dX6_done_71 : decode cX6_done 71 = .ok (.aload_n 0, 1) := by decide +kernel
theorem dX6_done_72 : decode cX6_done 72 = .ok (.getfield 283, 3) := by decide +kernel
theorem dX6_done_75 : decode cX6_done 75 = .ok (.iload 4, 2) := by decide +kernel
theorem dX6_done_77 : decode cX6_done 77 = .ok (.isub, 1) := by decide +kernel
theorem dX6_done_78 : decode cX6_done 78 = .ok (.ireturn, 1) := by decide +kernel
def fX6_done_44 : Nat → Int32 → Int32 → Int32 → Int32 → SS → Option (Int32 × SS)
  | 0, _, _, _, _, _ => none
  | n + 1, x1, x2, x4, x5, s => if x2 ≤ x5 then (some ((s.1 0 19) - x4, s)) else (if ixB x1 8 then (if ixB x5 40 then (((fX6_goes ((s.2 (5 + x1.toNatClampNeg) x5.toNatClampNeg).toInt32) (1 : Int32) s).bind fun z4 => fX6_done_44 n x1 x2 x4 (x5 + (1 : Int32)) z4.2)) else none) else none)
def fX6_done_0 (x1 : Int32) (x2 : Int32) (s : SS) : Option (Int32 × SS) := ((fX6_noActs x1 x2 s).bind fun z1 => if z1.1 = 0 then (if ixB x1 8 then (((fX6_wrongIn x1.toNatClampNeg x2 z1.2).bind fun z4 => if z4.1 = (-1 : Int32) then (fX6_done_44 FU x1 x2 (z4.2.1 0 19) (0 : Int32) z4.2) else (((fX6_refuse (-5 : Int32) z4.2).bind fun z6 => some (z6.1, z6.2))))) else none) else (some (z1.1, z1.2)))
def fX6_done (x1 : Int32) (x2 : Int32) (s : SS) : Option (Int32 × SS) := fX6_done_0 x1 x2 s
set_option maxRecDepth 100000 in
set_option maxHeartbeats 4000000 in
theorem okX6_done_44 {G : GG} {pl : Nat → Nat} {h0 : PH} : ∀ (n : Nat) (x1 : Int32) (x2 : Int32) (x4 : Int32) (x5 : Int32) (s : SS), EvF G 3 mX6_done lyR pl h0 rvI (fX6_done_44 n x1 x2 x4 x5 s) 44 [(0, .ref (pl 0)), (1, .int x1), (2, .int x2), (4, .int x4), (5, .int x5)] [] s := by
  intro n
  induction n with
  | zero => intro x1 x2 x4 x5 s; rw [fX6_done_44]; exact ef_none
  | succ n ih =>
    intro x1 x2 x4 x5 s
    rw [fX6_done_44]
    refine ef_iload (q := 46) 4 dX6_done_44 rfl rfl ?_
    refine ef_iload_n (q := 47) 2 dX6_done_46 rfl rfl rfl ?_
    refine ef_if (pt := 71) (pf := 50) (fun _ _ => ev_icmp_ge (tgt := 71) dX6_done_47 (by decide)) (fun h1 => ?_) (fun h1 => ?_)
    · refine ef_aload_n (q := 72) 0 dX6_done_71 rfl rfl rfl ?_
      refine ef_getI (x := s.1 0 19) (q := 75) rfl fl6_283 rfl rfl dX6_done_72 rfl ?_
      refine ef_iload (q := 77) 3 dX6_done_75 rfl rfl ?_
      refine ef_isub (q := 78) dX6_done_77 rfl ?_
      exact ef_iret rfl dX6_done_78
    · refine ef_aload_n (q := 51) 0 dX6_done_50 rfl rfl rfl ?_
      refine ef_aload_n (q := 52) 0 dX6_done_51 rfl rfl rfl ?_
      refine ef_getR (t := 4) (q := 55) rfl fl6_21 rfl rfl dX6_done_52 rfl ?_
      refine ef_iload_n (q := 56) 1 dX6_done_55 rfl rfl rfl ?_
      refine ef_guard (fun g2 => ?_)
      refine ef_aaload (t0 := 5 + x1.toNatClampNeg) (q := 57) rfl (by decide) lyR_t4 g2 dX6_done_56 rfl rfl ?_
      refine ef_iload (q := 59) 4 dX6_done_57 rfl rfl ?_
      refine ef_guard (fun g3 => ?_)
      refine ef_laload (x := s.2 (5 + x1.toNatClampNeg) x5.toNatClampNeg) (q := 60) (lyR_f4_0 _ (ixB_lt g2)) g3 dX6_done_59 rfl rfl ?_
      refine ef_l2i (v := (s.2 (5 + x1.toNatClampNeg) x5.toNatClampNeg).toInt32) (q := 61) dX6_done_60 rfl rfl ?_
      refine ef_iconst (v := (1 : Int32)) (q := 62) dX6_done_61 (by decide) rfl ?_
      refine ef_invVU0 (k := 0) (As := [.int ((s.2 (5 + x1.toNatClampNeg) x5.toNatClampNeg).toInt32), .int (1 : Int32)]) (rest := []) (q := 65) (okX6_goes ((s.2 (5 + x1.toNatClampNeg) x5.toNatClampNeg).toInt32) (1 : Int32)) rfl calX6_goes ml6_212 (by decide) rfl rfl rfl (Nat.le_of_ble_eq_true rfl) dX6_done_62 rfl (fun z4 => ?_)
      refine ef_iinc (v := x5 + (1 : Int32)) (lv' := [(5, .int (x5 + (1 : Int32))), (0, .ref (pl 0)), (1, .int x1), (2, .int x2), (4, .int x4)]) (q := 68) 4 dX6_done_65 rfl rfl (by decide) rfl rfl ?_
      refine ef_goto (tgt := 44) dX6_done_68 (by decide) ?_
      refine ef_sub (lv' := [(0, .ref (pl 0)), (1, .int x1), (2, .int x2), (4, .int x4), (5, .int (x5 + (1 : Int32)))]) [1, 2, 3, 4, 0] rfl ?_
      exact ih x1 x2 x4 (x5 + (1 : Int32)) z4.2
set_option maxRecDepth 100000 in
set_option maxHeartbeats 4000000 in
theorem okX6_done_0 {G : GG} {pl : Nat → Nat} {h0 : PH} (x1 : Int32) (x2 : Int32) (s : SS) : EvF G 3 mX6_done lyR pl h0 rvI (fX6_done_0 x1 x2 s) 0 [(0, .ref (pl 0)), (1, .int x1), (2, .int x2)] [] s := by
  unfold fX6_done_0
  refine ef_aload_n (q := 1) 0 dX6_done_0 rfl rfl rfl ?_
  refine ef_iload_n (q := 2) 1 dX6_done_1 rfl rfl rfl ?_
  refine ef_iload_n (q := 3) 2 dX6_done_2 rfl rfl rfl ?_
  refine ef_invVI0 (k := 0) (As := [.int x1, .int x2]) (rest := []) (q := 6) (okX6_noActs x1 x2) rfl calX6_noActs ml6_368 (by decide) rfl rfl rfl (Nat.le_of_ble_eq_true rfl) dX6_done_3 rfl (fun z1 => ?_)
  refine ef_istore_n (lv' := [(3, .int z1.1), (0, .ref (pl 0)), (1, .int x1), (2, .int x2)]) (q := 7) dX6_done_6 rfl (by decide) rfl rfl ?_
  refine ef_iload_n (q := 8) 0 dX6_done_7 rfl rfl rfl ?_
  refine ef_if (pt := 13) (pf := 11) (fun _ _ => ev_if_eq (tgt := 13) dX6_done_8 (by decide)) (fun h2 => ?_) (fun h2 => ?_)
  · refine ef_aload_n (q := 14) 1 dX6_done_13 rfl rfl rfl ?_
    refine ef_aload_n (q := 15) 1 dX6_done_14 rfl rfl rfl ?_
    refine ef_getR (t := 4) (q := 18) rfl fl6_21 rfl rfl dX6_done_15 rfl ?_
    refine ef_iload_n (q := 19) 2 dX6_done_18 rfl rfl rfl ?_
    refine ef_guard (fun g3 => ?_)
    refine ef_aaload (t0 := 5 + x1.toNatClampNeg) (q := 20) rfl (by decide) lyR_t4 g3 dX6_done_19 rfl rfl ?_
    refine ef_iload_n (q := 21) 3 dX6_done_20 rfl rfl rfl ?_
    refine ef_invVI0 (k := 0) (As := [.ref (pl (5 + x1.toNatClampNeg)), .int x2]) (rest := []) (q := 24) (okX6_wrongIn x1.toNatClampNeg x2) rfl calX6_wrongIn ml6_372 (by decide) rfl rfl rfl (Nat.le_of_ble_eq_true rfl) dX6_done_21 rfl (fun z4 => ?_)
    refine ef_iconst (v := (-1 : Int32)) (q := 25) dX6_done_24 (by decide) rfl ?_
    refine ef_if (pt := 35) (pf := 28) (fun _ _ => ev_icmp_eq (tgt := 35) dX6_done_25 (by decide)) (fun h5 => ?_) (fun h5 => ?_)
    · refine ef_aload_n (q := 36) 1 dX6_done_35 rfl rfl rfl ?_
      refine ef_getI (x := z4.2.1 0 19) (q := 39) rfl fl6_283 rfl rfl dX6_done_36 rfl ?_
      refine ef_istore (lv' := [(4, .int (z4.2.1 0 19)), (3, .int z1.1), (0, .ref (pl 0)), (1, .int x1), (2, .int x2)]) (q := 41) dX6_done_39 (by decide) rfl rfl ?_
      refine ef_iconst (v := (0 : Int32)) (q := 42) dX6_done_41 (by decide) rfl ?_
      refine ef_istore (lv' := [(5, .int (0 : Int32)), (4, .int (z4.2.1 0 19)), (3, .int z1.1), (0, .ref (pl 0)), (1, .int x1), (2, .int x2)]) (q := 44) dX6_done_42 (by decide) rfl rfl ?_
      refine ef_sub (lv' := [(0, .ref (pl 0)), (1, .int x1), (2, .int x2), (4, .int (z4.2.1 0 19)), (5, .int (0 : Int32))]) [3, 4, 5, 1, 0] rfl ?_
      exact okX6_done_44 FU x1 x2 (z4.2.1 0 19) (0 : Int32) z4.2
    · refine ef_aload_n (q := 29) 1 dX6_done_28 rfl rfl rfl ?_
      refine ef_bipush (v := (-5 : Int32)) (q := 31) dX6_done_29 (by decide) rfl ?_
      refine ef_invVI0 (k := 0) (As := [.int (-5 : Int32)]) (rest := []) (q := 34) (okX6_refuse (-5 : Int32)) rfl calX6_refuse ml6_102 (by decide) rfl rfl rfl (Nat.le_of_ble_eq_true rfl) dX6_done_31 rfl (fun z6 => ?_)
      exact ef_iret rfl dX6_done_34
  · refine ef_iload_n (q := 12) 0 dX6_done_11 rfl rfl rfl ?_
    exact ef_iret rfl dX6_done_12
theorem okX6_done (x1 : Int32) (x2 : Int32) : MtF 3 mX6_done lyR rvI (fun _ pl => [.ref (pl 0), .int x1, .int x2]) (fX6_done x1 x2) := by
  refine MtF.of (by decide +kernel) rfl (fun _ pl => Nat.le_of_ble_eq_true rfl) (fun G pl h0 s => ?_)
  refine ef_sub (lv := [(0, .ref (pl 0)), (1, .int x1), (2, .int x2)]) (lv' := [(0, .ref (pl 0)), (1, .int x1), (2, .int x2)]) [0, 1, 2] rfl ?_
  exact okX6_done_0  x1 x2 s
-- X6_drop
theorem dX6_drop_0 : decode cX6_drop 0 = .ok (.iload_n 1, 1) := by decide +kernel
theorem dX6_drop_1 : decode cX6_drop 1 = .ok (.iconst (-1), 1) := by decide +kernel
theorem dX6_drop_2 : decode cX6_drop 2 = .ok (.if_icmp .ge 10, 3) := by decide +kernel
theorem dX6_drop_5 : decode cX6_drop 5 = .ok (.aload_n 0, 1) := by decide +kernel
theorem dX6_drop_6 : decode cX6_drop 6 = .ok (.bipush (-2), 2) := by decide +kernel
theorem dX6_drop_8 : decode cX6_drop 8 = .ok (.invokevirtual 102, 3) := by decide +kernel
theorem dX6_drop_11 : decode cX6_drop 11 = .ok (.ireturn, 1) := by decide +kernel
theorem dX6_drop_12 : decode cX6_drop 12 = .ok (.iload_n 1, 1) := by decide +kernel
theorem dX6_drop_13 : decode cX6_drop 13 = .ok (.aload_n 0, 1) := by decide +kernel
theorem dX6_drop_14 : decode cX6_drop 14 = .ok (.getfield 292, 3) := by decide +kernel
theorem dX6_drop_17 : decode cX6_drop 17 = .ok (.if_icmp .lt 10, 3) := by decide +kernel
theorem dX6_drop_20 : decode cX6_drop 20 = .ok (.aload_n 0, 1) := by decide +kernel
theorem dX6_drop_21 : decode cX6_drop 21 = .ok (.bipush (-5), 2) := by decide +kernel
theorem dX6_drop_23 : decode cX6_drop 23 = .ok (.invokevirtual 102, 3) := by decide +kernel
theorem dX6_drop_26 : decode cX6_drop 26 = .ok (.ireturn, 1) := by decide +kernel
theorem dX6_drop_27 : decode cX6_drop 27 = .ok (.iload_n 1, 1) := by decide +kernel
theorem dX6_drop_28 : decode cX6_drop 28 = .ok (.iconst (-1), 1) := by decide +kernel
theorem dX6_drop_29 : decode cX6_drop 29 = .ok (.if_icmp .ne 10, 3) := by decide +kernel
theorem dX6_drop_32 : decode cX6_drop 32 = .ok (.aload_n 0, 1) := by decide +kernel
theorem dX6_drop_33 : decode cX6_drop 33 = .ok (.getfield 292, 3) := by decide +kernel
theorem dX6_drop_36 : decode cX6_drop 36 = .ok (.goto 9, 3) := by decide +kernel
theorem dX6_drop_39 : decode cX6_drop 39 = .ok (.aload_n 0, 1) := by decide +kernel
theorem dX6_drop_40 : decode cX6_drop 40 = .ok (.getfield 64, 3) := by decide +kernel
theorem dX6_drop_43 : decode cX6_drop 43 = .ok (.iload_n 1, 1) := by decide +kernel
theorem dX6_drop_44 : decode cX6_drop 44 = .ok (.iaload, 1) := by decide +kernel
theorem dX6_drop_45 : decode cX6_drop 45 = .ok (.ireturn, 1) := by decide +kernel
def fX6_drop_0 (x1 : Int32) (s : SS) : Option (Int32 × SS) := if (-1 : Int32) ≤ x1 then (if x1 < (s.1 0 25) then (if x1 = (-1 : Int32) then (some (s.1 0 25, s)) else (if ixB x1 20 then (some (s.1 27 x1.toNatClampNeg, s)) else none)) else (((fX6_refuse (-5 : Int32) s).bind fun z5 => some (z5.1, z5.2)))) else (((fX6_refuse (-2 : Int32) s).bind fun z6 => some (z6.1, z6.2)))
def fX6_drop (x1 : Int32) (s : SS) : Option (Int32 × SS) := fX6_drop_0 x1 s
set_option maxRecDepth 100000 in
set_option maxHeartbeats 4000000 in
theorem okX6_drop_0 {G : GG} {pl : Nat → Nat} {h0 : PH} (x1 : Int32) (s : SS) : EvF G 1 mX6_drop lyR pl h0 rvI (fX6_drop_0 x1 s) 0 [(0, .ref (pl 0)), (1, .int x1)] [] s := by
  unfold fX6_drop_0
  refine ef_iload_n (q := 1) 1 dX6_drop_0 rfl rfl rfl ?_
  refine ef_iconst (v := (-1 : Int32)) (q := 2) dX6_drop_1 (by decide) rfl ?_
  refine ef_if (pt := 12) (pf := 5) (fun _ _ => ev_icmp_ge (tgt := 12) dX6_drop_2 (by decide)) (fun h1 => ?_) (fun h1 => ?_)
  · refine ef_iload_n (q := 13) 1 dX6_drop_12 rfl rfl rfl ?_
    refine ef_aload_n (q := 14) 0 dX6_drop_13 rfl rfl rfl ?_
    refine ef_getI (x := s.1 0 25) (q := 17) rfl fl6_292 rfl rfl dX6_drop_14 rfl ?_
    refine ef_if (pt := 27) (pf := 20) (fun _ _ => ev_icmp_lt (tgt := 27) dX6_drop_17 (by decide)) (fun h2 => ?_) (fun h2 => ?_)
    · refine ef_iload_n (q := 28) 1 dX6_drop_27 rfl rfl rfl ?_
      refine ef_iconst (v := (-1 : Int32)) (q := 29) dX6_drop_28 (by decide) rfl ?_
      refine ef_if (pt := 32) (pf := 39) (fun _ _ kt kf => ev_icmp_ne (tgt := 39) dX6_drop_29 (by decide) kf kt) (fun h3 => ?_) (fun h3 => ?_)
      · refine ef_aload_n (q := 33) 0 dX6_drop_32 rfl rfl rfl ?_
        refine ef_getI (x := s.1 0 25) (q := 36) rfl fl6_292 rfl rfl dX6_drop_33 rfl ?_
        refine ef_goto (tgt := 45) dX6_drop_36 (by decide) ?_
        exact ef_iret rfl dX6_drop_45
      · refine ef_aload_n (q := 40) 0 dX6_drop_39 rfl rfl rfl ?_
        refine ef_getR (t := 27) (q := 43) rfl fl6_64 rfl rfl dX6_drop_40 rfl ?_
        refine ef_iload_n (q := 44) 1 dX6_drop_43 rfl rfl rfl ?_
        refine ef_guard (fun g4 => ?_)
        refine ef_iaload (x := s.1 27 x1.toNatClampNeg) (q := 45) rfl g4 dX6_drop_44 rfl rfl ?_
        exact ef_iret rfl dX6_drop_45
    · refine ef_aload_n (q := 21) 0 dX6_drop_20 rfl rfl rfl ?_
      refine ef_bipush (v := (-5 : Int32)) (q := 23) dX6_drop_21 (by decide) rfl ?_
      refine ef_invVI0 (k := 0) (As := [.int (-5 : Int32)]) (rest := []) (q := 26) (okX6_refuse (-5 : Int32)) rfl calX6_refuse ml6_102 (by decide) rfl rfl rfl (Nat.le_of_ble_eq_true rfl) dX6_drop_23 rfl (fun z5 => ?_)
      exact ef_iret rfl dX6_drop_26
  · refine ef_aload_n (q := 6) 0 dX6_drop_5 rfl rfl rfl ?_
    refine ef_bipush (v := (-2 : Int32)) (q := 8) dX6_drop_6 (by decide) rfl ?_
    refine ef_invVI0 (k := 0) (As := [.int (-2 : Int32)]) (rest := []) (q := 11) (okX6_refuse (-2 : Int32)) rfl calX6_refuse ml6_102 (by decide) rfl rfl rfl (Nat.le_of_ble_eq_true rfl) dX6_drop_8 rfl (fun z6 => ?_)
    exact ef_iret rfl dX6_drop_11
theorem okX6_drop (x1 : Int32) : MtF 1 mX6_drop lyR rvI (fun _ pl => [.ref (pl 0), .int x1]) (fX6_drop x1) := by
  refine MtF.of (by decide +kernel) rfl (fun _ pl => Nat.le_of_ble_eq_true rfl) (fun G pl h0 s => ?_)
  refine ef_sub (lv := [(0, .ref (pl 0)), (1, .int x1)]) (lv' := [(0, .ref (pl 0)), (1, .int x1)]) [0, 1] rfl ?_
  exact okX6_drop_0  x1 s
-- X6_went
theorem dX6_went_0 : decode cX6_went 0 = .ok (.iload_n 1, 1) := by decide +kernel
theorem dX6_went_1 : decode cX6_went 1 = .ok (.i2l, 1) := by decide +kernel
theorem dX6_went_2 : decode cX6_went 2 = .ok (.lconst 0, 1) := by decide +kernel
theorem dX6_went_3 : decode cX6_went 3 = .ok (.ldc2_w 96, 3) := by decide +kernel
theorem dX6_went_6 : decode cX6_went 6 = .ok (.invokestatic 89, 3) := by decide +kernel
theorem dX6_went_9 : decode cX6_went 9 = .ok (.ifCond .eq 17, 3) := by decide +kernel
theorem dX6_went_12 : decode cX6_went 12 = .ok (.iload_n 2, 1) := by decide +kernel
theorem dX6_went_13 : decode cX6_went 13 = .ok (.i2l, 1) := by decide +kernel
theorem dX6_went_14 : decode cX6_went 14 = .ok (.ldc2_w 261, 3) := by decide +kernel
theorem dX6_went_17 : decode cX6_went 17 = .ok (.ldc2_w 148, 3) := by decide +kernel
theorem dX6_went_20 : decode cX6_went 20 = .ok (.invokestatic 89, 3) := by decide +kernel
theorem dX6_went_23 : decode cX6_went 23 = .ok (.ifCond .ne 10, 3) := by decide +kernel
theorem dX6_went_26 : decode cX6_went 26 = .ok (.aload_n 0, 1) := by decide +kernel
theorem dX6_went_27 : decode cX6_went 27 = .ok (.bipush (-2), 2) := by decide +kernel
theorem dX6_went_29 : decode cX6_went 29 = .ok (.invokevirtual 102, 3) := by decide +kernel
theorem dX6_went_32 : decode cX6_went 32 = .ok (.ireturn, 1) := by decide +kernel
theorem dX6_went_33 : decode cX6_went 33 = .ok (.aload_n 0, 1) := by decide +kernel
theorem dX6_went_34 : decode cX6_went 34 = .ok (.iload_n 1, 1) := by decide +kernel
theorem dX6_went_35 : decode cX6_went 35 = .ok (.invokevirtual 106, 3) := by decide +kernel
theorem dX6_went_38 : decode cX6_went 38 = .ok (.istore_n 3, 1) := by decide +kernel
theorem dX6_went_39 : decode cX6_went 39 = .ok (.iload_n 3, 1) := by decide +kernel
theorem dX6_went_40 : decode cX6_went 40 = .ok (.ifCond .eq 5, 3) := by decide +kernel
theorem dX6_went_43 : decode cX6_went 43 = .ok (.iload_n 3, 1) := by decide +kernel
theorem dX6_went_44 : decode cX6_went 44 = .ok (.ireturn, 1) := by decide +kernel
theorem dX6_went_45 : decode cX6_went 45 = .ok (.aload_n 0, 1) := by decide +kernel
theorem dX6_went_46 : decode cX6_went 46 = .ok (.getfield 16, 3) := by decide +kernel
theorem dX6_went_49 : decode cX6_went 49 = .ok (.iload_n 1, 1) := by decide +kernel
theorem dX6_went_50 : decode cX6_went 50 = .ok (.iaload, 1) := by decide +kernel
theorem dX6_went_51 : decode cX6_went 51 = .ok (.iload_n 2, 1) := by decide +kernel
theorem dX6_went_52 : decode cX6_went 52 = .ok (.if_icmp .ge 10, 3) := by decide +kernel
theorem dX6_went_55 : decode cX6_went 55 = .ok (.aload_n 0, 1) := by decide +kernel
theorem dX6_went_56 : decode cX6_went 56 = .ok (.bipush (-2), 2) := by decide +kernel
theorem dX6_went_58 : decode cX6_went 58 = .ok (.invokevirtual 102, 3) := by decide +kernel
theorem dX6_went_61 : decode cX6_went 61 = .ok (.ireturn, 1) := by decide +kernel
theorem dX6_went_62 : decode cX6_went 62 = .ok (.iload_n 2, 1) := by decide +kernel
theorem dX6_went_63 : decode cX6_went 63 = .ok (.aload_n 0, 1) := by decide +kernel
theorem dX6_went_64 : decode cX6_went 64 = .ok (.getfield 292, 3) := by decide +kernel
theorem dX6_went_67 : decode cX6_went 67 = .ok (.if_icmp .le 10, 3) := by decide +kernel
theorem dX6_went_70 : decode cX6_went 70 = .ok (.aload_n 0, 1) := by decide +kernel
theorem dX6_went_71 : decode cX6_went 71 = .ok (.bipush (-5), 2) := by decide +kernel
theorem dX6_went_73 : decode cX6_went 73 = .ok (.invokevirtual 102, 3) := by decide +kernel
theorem dX6_went_76 : decode cX6_went 76 = .ok (.ireturn, 1) := by decide +kernel
theorem dX6_went_77 : decode cX6_went 77 = .ok (.iconst 0, 1) := by decide +kernel
theorem dX6_went_78 : decode cX6_went 78 = .ok (.istore 4, 2) := by decide +kernel
theorem dX6_went_80 : decode cX6_went 80 = .ok (.iconst 1, 1) := by decide +kernel
theorem dX6_went_81 : decode cX6_went 81 = .ok (.istore 5, 2) := by decide +kernel
theorem dX6_went_83 : decode cX6_went 83 = .ok (.iload 5, 2) := by decide +kernel
theorem dX6_went_85 : decode cX6_went 85 = .ok (.bipush 9, 2) := by decide +kernel
theorem dX6_went_87 : decode cX6_went 87 = .ok (.if_icmp .gt 102, 3) := by decide +kernel
theorem dX6_went_90 : decode cX6_went 90 = .ok (.iconst 1, 1) := by decide +kernel
theorem dX6_went_91 : decode cX6_went 91 = .ok (.istore 6, 2) := by decide +kernel
theorem dX6_went_93 : decode cX6_went 93 = .ok (.iconst 1, 1) := by decide +kernel
theorem dX6_went_94 : decode cX6_went 94 = .ok (.istore 7, 2) := by decide +kernel
theorem dX6_went_96 : decode cX6_went 96 = .ok (.iload 7, 2) := by decide +kernel
theorem dX6_went_98 : decode cX6_went 98 = .ok (.iload_n 2, 1) := by decide +kernel
theorem dX6_went_99 : decode cX6_went 99 = .ok (.if_icmp .ge 66, 3) := by decide +kernel
theorem dX6_went_102 : decode cX6_went 102 = .ok (.iload 6, 2) := by decide +kernel
theorem dX6_went_104 : decode cX6_went 104 = .ok (.aload_n 0, 1) := by decide +kernel
theorem dX6_went_105 : decode cX6_went 105 = .ok (.getfield 21, 3) := by decide +kernel
theorem dX6_went_108 : decode cX6_went 108 = .ok (.iload_n 1, 1) := by decide +kernel
theorem dX6_went_109 : decode cX6_went 109 = .ok (.aaload, 1) := by decide +kernel
theorem dX6_went_110 : decode cX6_went 110 = .ok (.iload 7, 2) := by decide +kernel
theorem dX6_went_112 : decode cX6_went 112 = .ok (.laload, 1) := by decide +kernel
theorem dX6_went_113 : decode cX6_went 113 = .ok (.aload_n 0, 1) := by decide +kernel
theorem dX6_went_114 : decode cX6_went 114 = .ok (.getfield 21, 3) := by decide +kernel
theorem dX6_went_117 : decode cX6_went 117 = .ok (.iload_n 1, 1) := by decide +kernel
theorem dX6_went_118 : decode cX6_went 118 = .ok (.aaload, 1) := by decide +kernel
theorem dX6_went_119 : decode cX6_went 119 = .ok (.iload 7, 2) := by decide +kernel
theorem dX6_went_121 : decode cX6_went 121 = .ok (.iconst 1, 1) := by decide +kernel
theorem dX6_went_122 : decode cX6_went 122 = .ok (.isub, 1) := by decide +kernel
theorem dX6_went_123 : decode cX6_went 123 = .ok (.laload, 1) := by decide +kernel
theorem dX6_went_124 : decode cX6_went 124 = .ok (.lsub, 1) := by decide +kernel
theorem dX6_went_125 : decode cX6_went 125 = .ok (.iload 5, 2) := by decide +kernel
theorem dX6_went_127 : decode cX6_went 127 = .ok (.i2l, 1) := by decide +kernel
theorem dX6_went_128 : decode cX6_went 128 = .ok (.aload_n 0, 1) := by decide +kernel
theorem dX6_went_129 : decode cX6_went 129 = .ok (.getfield 64, 3) := by decide +kernel
theorem dX6_went_132 : decode cX6_went 132 = .ok (.iload 7, 2) := by decide +kernel
theorem dX6_went_134 : decode cX6_went 134 = .ok (.iaload, 1) := by decide +kernel
theorem dX6_went_135 : decode cX6_went 135 = .ok (.aload_n 0, 1) := by decide +kernel
theorem dX6_went_136 : decode cX6_went 136 = .ok (.getfield 64, 3) := by decide +kernel
theorem dX6_went_139 : decode cX6_went 139 = .ok (.iload 7, 2) := by decide +kernel
theorem dX6_went_141 : decode cX6_went 141 = .ok (.iconst 1, 1) := by decide +kernel
theorem dX6_went_142 : decode cX6_went 142 = .ok (.isub, 1) := by decide +kernel
theorem dX6_went_143 : decode cX6_went 143 = .ok (.iaload, 1) := by decide +kernel
theorem dX6_went_144 : decode cX6_went 144 = .ok (.isub, 1) := by decide +kernel
theorem dX6_went_145 : decode cX6_went 145 = .ok (.i2l, 1) := by decide +kernel
theorem dX6_went_146 : decode cX6_went 146 = .ok (.lmul, 1) := by decide +kernel
theorem dX6_went_147 : decode cX6_went 147 = .ok (.lcmp, 1) := by decide +kernel
theorem dX6_went_148 : decode cX6_went 148 = .ok (.ifCond .ne 7, 3) := by decide +kernel
theorem dX6_went_151 : decode cX6_went 151 = .ok (.iconst 1, 1) := by decide +kernel
theorem dX6_went_152 : decode cX6_went 152 = .ok (.goto 4, 3) := by decide +kernel
theorem dX6_went_155 : decode cX6_went 155 = .ok (.iconst 0, 1) := by decide +kernel
theorem dX6_went_156 : decode cX6_went 156 = .ok (.iand, 1) := by decide +kernel
theorem dX6_went_157 : decode cX6_went 157 = .ok (.istore 6, 2) := by decide +kernel
theorem dX6_went_159 : decode cX6_went 159 = .ok (.iinc 7 1, 3) := by decide +kernel
theorem dX6_went_162 : decode cX6_went 162 = .ok (.goto (-66), 3) := by decide +kernel
theorem dX6_went_165 : decode cX6_went 165 = .ok (.iload 4, 2) := by decide +kernel
theorem dX6_went_167 : decode cX6_went 167 = .ok (.iload 6, 2) := by decide +kernel
theorem dX6_went_169 : decode cX6_went 169 = .ok (.ifCond .eq 10, 3) := by decide +kernel
theorem dX6_went_172 : decode cX6_went 172 = .ok (.iconst 1, 1) := by decide +kernel
theorem dX6_went_173 : decode cX6_went 173 = .ok (.iload 5, 2) := by decide +kernel
theorem dX6_went_175 : decode cX6_went 175 = .ok (.ishl, 1) := by decide +kernel
theorem dX6_went_176 : decode cX6_went 176 = .ok (.goto 4, 3) := by decide +kernel
theorem dX6_went_179 : decode cX6_went 179 = .ok (.iconst 0, 1) := by decide +kernel
theorem dX6_went_180 : decode cX6_went 180 = .ok (.ior, 1) := by decide +kernel
theorem dX6_went_181 : decode cX6_went 181 = .ok (.istore 4, 2) := by decide +kernel
theorem dX6_went_183 : decode cX6_went 183 = .ok (.iinc 5 1, 3) := by decide +kernel
theorem dX6_went_186 : decode cX6_went 186 = .ok (.goto (-103), 3) := by decide +kernel
theorem dX6_went_189 : decode cX6_went 189 = .ok (.iload 4, 2) := by decide +kernel
theorem dX6_went_191 : decode cX6_went 191 = .ok (.ireturn, 1) := by decide +kernel
def fX6_went_26 (s : SS) : Option (Int32 × SS) := ((fX6_refuse (-2 : Int32) s).bind fun z1 => some (z1.1, z1.2))
def fX6_went_96 (rec_83 : Int32 → Int32 → Int32 → Int32 → SS → Option (Int32 × SS)) : Nat → Int32 → Int32 → Int32 → Int32 → Int32 → Int32 → SS → Option (Int32 × SS)
  | 0, _, _, _, _, _, _, _ => none
  | n + 1, x1, x2, x4, x5, x6, x7, s => if x2 ≤ x7 then (if x6 = 0 then (rec_83 x1 x2 (x4 ||| (0 : Int32)) (x5 + (1 : Int32)) s) else (rec_83 x1 x2 (x4 ||| ((1 : Int32) <<< (x5 &&& 31))) (x5 + (1 : Int32)) s)) else (if ixB x1 8 then (if ixB x7 40 then (if ixB x1 8 then (if ixB (x7 - (1 : Int32)) 40 then (if ixB x7 20 then (if ixB (x7 - (1 : Int32)) 20 then (if (lg_cmp ((s.2 (5 + x1.toNatClampNeg) x7.toNatClampNeg) - (s.2 (5 + x1.toNatClampNeg) ((x7 - (1 : Int32)).toNatClampNeg))) (x5.toInt64 * (((s.1 27 x7.toNatClampNeg) - (s.1 27 ((x7 - (1 : Int32)).toNatClampNeg))).toInt64))) = 0 then (fX6_went_96 rec_83 n x1 x2 x4 x5 (x6 &&& (1 : Int32)) (x7 + (1 : Int32)) s) else (fX6_went_96 rec_83 n x1 x2 x4 x5 (x6 &&& (0 : Int32)) (x7 + (1 : Int32)) s)) else none) else none) else none) else none) else none) else none)
def fX6_went_83 : Nat → Int32 → Int32 → Int32 → Int32 → SS → Option (Int32 × SS)
  | 0, _, _, _, _, _ => none
  | n + 1, x1, x2, x4, x5, s => if (9 : Int32) < x5 then (some (x4, s)) else (fX6_went_96 (fX6_went_83 n) FU x1 x2 x4 x5 (1 : Int32) (1 : Int32) s)
def fX6_went_0 (x1 : Int32) (x2 : Int32) (s : SS) : Option (Int32 × SS) := ((fX6_in x1.toInt64 (0 : Int64) (7 : Int64) s).bind fun z1 => if z1.1 = 0 then (fX6_went_26 s) else (((fX6_in x2.toInt64 (2 : Int64) (20 : Int64) s).bind fun z3 => if z3.1 = 0 then (fX6_went_26 s) else (((fX6_noRow x1 s).bind fun z5 => if z5.1 = 0 then (if ixB x1 8 then (if x2 ≤ (z5.2.1 3 x1.toNatClampNeg) then (if x2 ≤ (z5.2.1 0 25) then (fX6_went_83 FU x1 x2 (0 : Int32) (1 : Int32) z5.2) else (((fX6_refuse (-5 : Int32) z5.2).bind fun z10 => some (z10.1, z10.2)))) else (((fX6_refuse (-2 : Int32) z5.2).bind fun z11 => some (z11.1, z11.2)))) else none) else (some (z5.1, z5.2)))))))
def fX6_went (x1 : Int32) (x2 : Int32) (s : SS) : Option (Int32 × SS) := fX6_went_0 x1 x2 s
set_option maxRecDepth 100000 in
set_option maxHeartbeats 4000000 in
theorem okX6_went_26 {G : GG} {pl : Nat → Nat} {h0 : PH} (s : SS) : EvF G 2 mX6_went lyR pl h0 rvI (fX6_went_26 s) 26 [(0, .ref (pl 0))] [] s := by
  unfold fX6_went_26
  refine ef_aload_n (q := 27) 0 dX6_went_26 rfl rfl rfl ?_
  refine ef_bipush (v := (-2 : Int32)) (q := 29) dX6_went_27 (by decide) rfl ?_
  refine ef_invVI0 (k := 0) (As := [.int (-2 : Int32)]) (rest := []) (q := 32) (okX6_refuse (-2 : Int32)) rfl calX6_refuse ml6_102 (by decide) rfl rfl rfl (Nat.le_of_ble_eq_true rfl) dX6_went_29 rfl (fun z1 => ?_)
  exact ef_iret rfl dX6_went_32
set_option maxRecDepth 100000 in
set_option maxHeartbeats 4000000 in
theorem okX6_went_96 {G : GG} {pl : Nat → Nat} {h0 : PH} (rec_83 : Int32 → Int32 → Int32 → Int32 → SS → Option (Int32 × SS)) (hrec_83 : ∀ (x1 : Int32) (x2 : Int32) (x4 : Int32) (x5 : Int32) (s : SS), EvF G 2 mX6_went lyR pl h0 rvI (rec_83 x1 x2 x4 x5 s) 83 [(0, .ref (pl 0)), (1, .int x1), (2, .int x2), (4, .int x4), (5, .int x5)] [] s) : ∀ (n : Nat) (x1 : Int32) (x2 : Int32) (x4 : Int32) (x5 : Int32) (x6 : Int32) (x7 : Int32) (s : SS), EvF G 2 mX6_went lyR pl h0 rvI (fX6_went_96 rec_83 n x1 x2 x4 x5 x6 x7 s) 96 [(0, .ref (pl 0)), (1, .int x1), (2, .int x2), (4, .int x4), (5, .int x5), (6, .int x6), (7, .int x7)] [] s := by
  intro n
  induction n with
  | zero => intro x1 x2 x4 x5 x6 x7 s; rw [fX6_went_96]; exact ef_none
  | succ n ih =>
    intro x1 x2 x4 x5 x6 x7 s
    rw [fX6_went_96]
    refine ef_iload (q := 98) 6 dX6_went_96 rfl rfl ?_
    refine ef_iload_n (q := 99) 2 dX6_went_98 rfl rfl rfl ?_
    refine ef_if (pt := 165) (pf := 102) (fun _ _ => ev_icmp_ge (tgt := 165) dX6_went_99 (by decide)) (fun h1 => ?_) (fun h1 => ?_)
    · refine ef_iload (q := 167) 3 dX6_went_165 rfl rfl ?_
      refine ef_iload (q := 169) 5 dX6_went_167 rfl rfl ?_
      refine ef_if (pt := 179) (pf := 172) (fun _ _ => ev_if_eq (tgt := 179) dX6_went_169 (by decide)) (fun h2 => ?_) (fun h2 => ?_)
      · refine ef_iconst (v := (0 : Int32)) (q := 180) dX6_went_179 (by decide) rfl ?_
        refine ef_ior (q := 181) dX6_went_180 rfl ?_
        refine ef_istore (lv' := [(4, .int (x4 ||| (0 : Int32))), (0, .ref (pl 0)), (1, .int x1), (2, .int x2), (5, .int x5), (6, .int x6), (7, .int x7)]) (q := 183) dX6_went_181 (by decide) rfl rfl ?_
        refine ef_iinc (v := x5 + (1 : Int32)) (lv' := [(5, .int (x5 + (1 : Int32))), (4, .int (x4 ||| (0 : Int32))), (0, .ref (pl 0)), (1, .int x1), (2, .int x2), (6, .int x6), (7, .int x7)]) (q := 186) 4 dX6_went_183 rfl rfl (by decide) rfl rfl ?_
        refine ef_goto (tgt := 83) dX6_went_186 (by decide) ?_
        refine ef_sub (lv' := [(0, .ref (pl 0)), (1, .int x1), (2, .int x2), (4, .int (x4 ||| (0 : Int32))), (5, .int (x5 + (1 : Int32)))]) [2, 3, 4, 1, 0] rfl ?_
        exact hrec_83 x1 x2 (x4 ||| (0 : Int32)) (x5 + (1 : Int32)) s
      · refine ef_iconst (v := (1 : Int32)) (q := 173) dX6_went_172 (by decide) rfl ?_
        refine ef_iload (q := 175) 4 dX6_went_173 rfl rfl ?_
        refine ef_ishl (q := 176) dX6_went_175 rfl ?_
        refine ef_goto (tgt := 180) dX6_went_176 (by decide) ?_
        refine ef_ior (q := 181) dX6_went_180 rfl ?_
        refine ef_istore (lv' := [(4, .int (x4 ||| ((1 : Int32) <<< (x5 &&& 31)))), (0, .ref (pl 0)), (1, .int x1), (2, .int x2), (5, .int x5), (6, .int x6), (7, .int x7)]) (q := 183) dX6_went_181 (by decide) rfl rfl ?_
        refine ef_iinc (v := x5 + (1 : Int32)) (lv' := [(5, .int (x5 + (1 : Int32))), (4, .int (x4 ||| ((1 : Int32) <<< (x5 &&& 31)))), (0, .ref (pl 0)), (1, .int x1), (2, .int x2), (6, .int x6), (7, .int x7)]) (q := 186) 4 dX6_went_183 rfl rfl (by decide) rfl rfl ?_
        refine ef_goto (tgt := 83) dX6_went_186 (by decide) ?_
        refine ef_sub (lv' := [(0, .ref (pl 0)), (1, .int x1), (2, .int x2), (4, .int (x4 ||| ((1 : Int32) <<< (x5 &&& 31)))), (5, .int (x5 + (1 : Int32)))]) [2, 3, 4, 1, 0] rfl ?_
        exact hrec_83 x1 x2 (x4 ||| ((1 : Int32) <<< (x5 &&& 31))) (x5 + (1 : Int32)) s
    · refine ef_iload (q := 104) 5 dX6_went_102 rfl rfl ?_
      refine ef_aload_n (q := 105) 0 dX6_went_104 rfl rfl rfl ?_
      refine ef_getR (t := 4) (q := 108) rfl fl6_21 rfl rfl dX6_went_105 rfl ?_
      refine ef_iload_n (q := 109) 1 dX6_went_108 rfl rfl rfl ?_
      refine ef_guard (fun g3 => ?_)
      refine ef_aaload (t0 := 5 + x1.toNatClampNeg) (q := 110) rfl (by decide) lyR_t4 g3 dX6_went_109 rfl rfl ?_
      refine ef_iload (q := 112) 6 dX6_went_110 rfl rfl ?_
      refine ef_guard (fun g4 => ?_)
      refine ef_laload (x := s.2 (5 + x1.toNatClampNeg) x7.toNatClampNeg) (q := 113) (lyR_f4_0 _ (ixB_lt g3)) g4 dX6_went_112 rfl rfl ?_
      refine ef_aload_n (q := 114) 0 dX6_went_113 rfl rfl rfl ?_
      refine ef_getR (t := 4) (q := 117) rfl fl6_21 rfl rfl dX6_went_114 rfl ?_
      refine ef_iload_n (q := 118) 1 dX6_went_117 rfl rfl rfl ?_
      refine ef_guard (fun g5 => ?_)
      refine ef_aaload (t0 := 5 + x1.toNatClampNeg) (q := 119) rfl (by decide) lyR_t4 g5 dX6_went_118 rfl rfl ?_
      refine ef_iload (q := 121) 6 dX6_went_119 rfl rfl ?_
      refine ef_iconst (v := (1 : Int32)) (q := 122) dX6_went_121 (by decide) rfl ?_
      refine ef_isub (q := 123) dX6_went_122 rfl ?_
      refine ef_guard (fun g6 => ?_)
      refine ef_laload (x := s.2 (5 + x1.toNatClampNeg) ((x7 - (1 : Int32)).toNatClampNeg)) (q := 124) (lyR_f4_0 _ (ixB_lt g5)) g6 dX6_went_123 rfl rfl ?_
      refine ef_lsub (q := 125) dX6_went_124 rfl ?_
      refine ef_iload (q := 127) 4 dX6_went_125 rfl rfl ?_
      refine ef_i2l (v := x5.toInt64) (q := 128) dX6_went_127 rfl rfl ?_
      refine ef_aload_n (q := 129) 0 dX6_went_128 rfl rfl rfl ?_
      refine ef_getR (t := 27) (q := 132) rfl fl6_64 rfl rfl dX6_went_129 rfl ?_
      refine ef_iload (q := 134) 6 dX6_went_132 rfl rfl ?_
      refine ef_guard (fun g7 => ?_)
      refine ef_iaload (x := s.1 27 x7.toNatClampNeg) (q := 135) rfl g7 dX6_went_134 rfl rfl ?_
      refine ef_aload_n (q := 136) 0 dX6_went_135 rfl rfl rfl ?_
      refine ef_getR (t := 27) (q := 139) rfl fl6_64 rfl rfl dX6_went_136 rfl ?_
      refine ef_iload (q := 141) 6 dX6_went_139 rfl rfl ?_
      refine ef_iconst (v := (1 : Int32)) (q := 142) dX6_went_141 (by decide) rfl ?_
      refine ef_isub (q := 143) dX6_went_142 rfl ?_
      refine ef_guard (fun g8 => ?_)
      refine ef_iaload (x := s.1 27 ((x7 - (1 : Int32)).toNatClampNeg)) (q := 144) rfl g8 dX6_went_143 rfl rfl ?_
      refine ef_isub (q := 145) dX6_went_144 rfl ?_
      refine ef_i2l (v := ((s.1 27 x7.toNatClampNeg) - (s.1 27 ((x7 - (1 : Int32)).toNatClampNeg))).toInt64) (q := 146) dX6_went_145 rfl rfl ?_
      refine ef_lmul (q := 147) dX6_went_146 rfl ?_
      refine ef_lcmp (q := 148) dX6_went_147 rfl ?_
      refine ef_if (pt := 151) (pf := 155) (fun _ _ kt kf => ev_if_ne (tgt := 155) dX6_went_148 (by decide) kf kt) (fun h9 => ?_) (fun h9 => ?_)
      · refine ef_iconst (v := (1 : Int32)) (q := 152) dX6_went_151 (by decide) rfl ?_
        refine ef_goto (tgt := 156) dX6_went_152 (by decide) ?_
        refine ef_iand (q := 157) dX6_went_156 rfl ?_
        refine ef_istore (lv' := [(6, .int (x6 &&& (1 : Int32))), (0, .ref (pl 0)), (1, .int x1), (2, .int x2), (4, .int x4), (5, .int x5), (7, .int x7)]) (q := 159) dX6_went_157 (by decide) rfl rfl ?_
        refine ef_iinc (v := x7 + (1 : Int32)) (lv' := [(7, .int (x7 + (1 : Int32))), (6, .int (x6 &&& (1 : Int32))), (0, .ref (pl 0)), (1, .int x1), (2, .int x2), (4, .int x4), (5, .int x5)]) (q := 162) 6 dX6_went_159 rfl rfl (by decide) rfl rfl ?_
        refine ef_goto (tgt := 96) dX6_went_162 (by decide) ?_
        refine ef_sub (lv' := [(0, .ref (pl 0)), (1, .int x1), (2, .int x2), (4, .int x4), (5, .int x5), (6, .int (x6 &&& (1 : Int32))), (7, .int (x7 + (1 : Int32)))]) [2, 3, 4, 5, 6, 1, 0] rfl ?_
        exact ih x1 x2 x4 x5 (x6 &&& (1 : Int32)) (x7 + (1 : Int32)) s
      · refine ef_iconst (v := (0 : Int32)) (q := 156) dX6_went_155 (by decide) rfl ?_
        refine ef_iand (q := 157) dX6_went_156 rfl ?_
        refine ef_istore (lv' := [(6, .int (x6 &&& (0 : Int32))), (0, .ref (pl 0)), (1, .int x1), (2, .int x2), (4, .int x4), (5, .int x5), (7, .int x7)]) (q := 159) dX6_went_157 (by decide) rfl rfl ?_
        refine ef_iinc (v := x7 + (1 : Int32)) (lv' := [(7, .int (x7 + (1 : Int32))), (6, .int (x6 &&& (0 : Int32))), (0, .ref (pl 0)), (1, .int x1), (2, .int x2), (4, .int x4), (5, .int x5)]) (q := 162) 6 dX6_went_159 rfl rfl (by decide) rfl rfl ?_
        refine ef_goto (tgt := 96) dX6_went_162 (by decide) ?_
        refine ef_sub (lv' := [(0, .ref (pl 0)), (1, .int x1), (2, .int x2), (4, .int x4), (5, .int x5), (6, .int (x6 &&& (0 : Int32))), (7, .int (x7 + (1 : Int32)))]) [2, 3, 4, 5, 6, 1, 0] rfl ?_
        exact ih x1 x2 x4 x5 (x6 &&& (0 : Int32)) (x7 + (1 : Int32)) s
set_option maxRecDepth 100000 in
set_option maxHeartbeats 4000000 in
theorem okX6_went_83 {G : GG} {pl : Nat → Nat} {h0 : PH} : ∀ (n : Nat) (x1 : Int32) (x2 : Int32) (x4 : Int32) (x5 : Int32) (s : SS), EvF G 2 mX6_went lyR pl h0 rvI (fX6_went_83 n x1 x2 x4 x5 s) 83 [(0, .ref (pl 0)), (1, .int x1), (2, .int x2), (4, .int x4), (5, .int x5)] [] s := by
  intro n
  induction n with
  | zero => intro x1 x2 x4 x5 s; rw [fX6_went_83]; exact ef_none
  | succ n ih =>
    intro x1 x2 x4 x5 s
    rw [fX6_went_83]
    refine ef_iload (q := 85) 4 dX6_went_83 rfl rfl ?_
    refine ef_bipush (v := (9 : Int32)) (q := 87) dX6_went_85 (by decide) rfl ?_
    refine ef_if (pt := 189) (pf := 90) (fun _ _ => ev_icmp_gt (tgt := 189) dX6_went_87 (by decide)) (fun h1 => ?_) (fun h1 => ?_)
    · refine ef_iload (q := 191) 3 dX6_went_189 rfl rfl ?_
      exact ef_iret rfl dX6_went_191
    · refine ef_iconst (v := (1 : Int32)) (q := 91) dX6_went_90 (by decide) rfl ?_
      refine ef_istore (lv' := [(6, .int (1 : Int32)), (0, .ref (pl 0)), (1, .int x1), (2, .int x2), (4, .int x4), (5, .int x5)]) (q := 93) dX6_went_91 (by decide) rfl rfl ?_
      refine ef_iconst (v := (1 : Int32)) (q := 94) dX6_went_93 (by decide) rfl ?_
      refine ef_istore (lv' := [(7, .int (1 : Int32)), (6, .int (1 : Int32)), (0, .ref (pl 0)), (1, .int x1), (2, .int x2), (4, .int x4), (5, .int x5)]) (q := 96) dX6_went_94 (by decide) rfl rfl ?_
      refine ef_sub (lv' := [(0, .ref (pl 0)), (1, .int x1), (2, .int x2), (4, .int x4), (5, .int x5), (6, .int (1 : Int32)), (7, .int (1 : Int32))]) [2, 3, 4, 5, 6, 1, 0] rfl ?_
      exact okX6_went_96 (fX6_went_83 n) ih FU x1 x2 x4 x5 (1 : Int32) (1 : Int32) s
set_option maxRecDepth 100000 in
set_option maxHeartbeats 4000000 in
theorem okX6_went_0 {G : GG} {pl : Nat → Nat} {h0 : PH} (x1 : Int32) (x2 : Int32) (s : SS) : EvF G 2 mX6_went lyR pl h0 rvI (fX6_went_0 x1 x2 s) 0 [(0, .ref (pl 0)), (1, .int x1), (2, .int x2)] [] s := by
  unfold fX6_went_0
  refine ef_iload_n (q := 1) 1 dX6_went_0 rfl rfl rfl ?_
  refine ef_i2l (v := x1.toInt64) (q := 2) dX6_went_1 rfl rfl ?_
  refine ef_lconst (v := (0 : Int64)) (q := 3) dX6_went_2 (by decide) rfl ?_
  refine ef_ldc2 (v := (7 : Int64)) (q := 6) k6_96 dX6_went_3 rfl ?_
  refine ef_invPI0 (As := [.long x1.toInt64, .long (0 : Int64), .long (7 : Int64)]) (rest := []) (q := 9) (okX6_in x1.toInt64 (0 : Int64) (7 : Int64)) rfl calX6_in ml6_89 (by decide) rfl rfl (Nat.le_of_ble_eq_true rfl) dX6_went_6 rfl (fun z1 => ?_)
  refine ef_if (pt := 26) (pf := 12) (fun _ _ => ev_if_eq (tgt := 26) dX6_went_9 (by decide)) (fun h2 => ?_) (fun h2 => ?_)
  · refine ef_sub (lv' := [(0, .ref (pl 0))]) [0] rfl ?_
    exact okX6_went_26 s
  · refine ef_iload_n (q := 13) 2 dX6_went_12 rfl rfl rfl ?_
    refine ef_i2l (v := x2.toInt64) (q := 14) dX6_went_13 rfl rfl ?_
    refine ef_ldc2 (v := (2 : Int64)) (q := 17) k6_261 dX6_went_14 rfl ?_
    refine ef_ldc2 (v := (20 : Int64)) (q := 20) k6_148 dX6_went_17 rfl ?_
    refine ef_invPI0 (As := [.long x2.toInt64, .long (2 : Int64), .long (20 : Int64)]) (rest := []) (q := 23) (okX6_in x2.toInt64 (2 : Int64) (20 : Int64)) rfl calX6_in ml6_89 (by decide) rfl rfl (Nat.le_of_ble_eq_true rfl) dX6_went_20 rfl (fun z3 => ?_)
    refine ef_if (pt := 26) (pf := 33) (fun _ _ kt kf => ev_if_ne (tgt := 33) dX6_went_23 (by decide) kf kt) (fun h4 => ?_) (fun h4 => ?_)
    · refine ef_sub (lv' := [(0, .ref (pl 0))]) [0] rfl ?_
      exact okX6_went_26 s
    · refine ef_aload_n (q := 34) 0 dX6_went_33 rfl rfl rfl ?_
      refine ef_iload_n (q := 35) 1 dX6_went_34 rfl rfl rfl ?_
      refine ef_invVI0 (k := 0) (As := [.int x1]) (rest := []) (q := 38) (okX6_noRow x1) rfl calX6_noRow ml6_106 (by decide) rfl rfl rfl (Nat.le_of_ble_eq_true rfl) dX6_went_35 rfl (fun z5 => ?_)
      refine ef_istore_n (lv' := [(3, .int z5.1), (0, .ref (pl 0)), (1, .int x1), (2, .int x2)]) (q := 39) dX6_went_38 rfl (by decide) rfl rfl ?_
      refine ef_iload_n (q := 40) 0 dX6_went_39 rfl rfl rfl ?_
      refine ef_if (pt := 45) (pf := 43) (fun _ _ => ev_if_eq (tgt := 45) dX6_went_40 (by decide)) (fun h6 => ?_) (fun h6 => ?_)
      · refine ef_aload_n (q := 46) 1 dX6_went_45 rfl rfl rfl ?_
        refine ef_getR (t := 3) (q := 49) rfl fl6_16 rfl rfl dX6_went_46 rfl ?_
        refine ef_iload_n (q := 50) 2 dX6_went_49 rfl rfl rfl ?_
        refine ef_guard (fun g7 => ?_)
        refine ef_iaload (x := z5.2.1 3 x1.toNatClampNeg) (q := 51) rfl g7 dX6_went_50 rfl rfl ?_
        refine ef_iload_n (q := 52) 3 dX6_went_51 rfl rfl rfl ?_
        refine ef_if (pt := 62) (pf := 55) (fun _ _ => ev_icmp_ge (tgt := 62) dX6_went_52 (by decide)) (fun h8 => ?_) (fun h8 => ?_)
        · refine ef_iload_n (q := 63) 3 dX6_went_62 rfl rfl rfl ?_
          refine ef_aload_n (q := 64) 1 dX6_went_63 rfl rfl rfl ?_
          refine ef_getI (x := z5.2.1 0 25) (q := 67) rfl fl6_292 rfl rfl dX6_went_64 rfl ?_
          refine ef_if (pt := 77) (pf := 70) (fun _ _ => ev_icmp_le (tgt := 77) dX6_went_67 (by decide)) (fun h9 => ?_) (fun h9 => ?_)
          · refine ef_iconst (v := (0 : Int32)) (q := 78) dX6_went_77 (by decide) rfl ?_
            refine ef_istore (lv' := [(4, .int (0 : Int32)), (3, .int z5.1), (0, .ref (pl 0)), (1, .int x1), (2, .int x2)]) (q := 80) dX6_went_78 (by decide) rfl rfl ?_
            refine ef_iconst (v := (1 : Int32)) (q := 81) dX6_went_80 (by decide) rfl ?_
            refine ef_istore (lv' := [(5, .int (1 : Int32)), (4, .int (0 : Int32)), (3, .int z5.1), (0, .ref (pl 0)), (1, .int x1), (2, .int x2)]) (q := 83) dX6_went_81 (by decide) rfl rfl ?_
            refine ef_sub (lv' := [(0, .ref (pl 0)), (1, .int x1), (2, .int x2), (4, .int (0 : Int32)), (5, .int (1 : Int32))]) [3, 4, 5, 1, 0] rfl ?_
            exact okX6_went_83 FU x1 x2 (0 : Int32) (1 : Int32) z5.2
          · refine ef_aload_n (q := 71) 1 dX6_went_70 rfl rfl rfl ?_
            refine ef_bipush (v := (-5 : Int32)) (q := 73) dX6_went_71 (by decide) rfl ?_
            refine ef_invVI0 (k := 0) (As := [.int (-5 : Int32)]) (rest := []) (q := 76) (okX6_refuse (-5 : Int32)) rfl calX6_refuse ml6_102 (by decide) rfl rfl rfl (Nat.le_of_ble_eq_true rfl) dX6_went_73 rfl (fun z10 => ?_)
            exact ef_iret rfl dX6_went_76
        · refine ef_aload_n (q := 56) 1 dX6_went_55 rfl rfl rfl ?_
          refine ef_bipush (v := (-2 : Int32)) (q := 58) dX6_went_56 (by decide) rfl ?_
          refine ef_invVI0 (k := 0) (As := [.int (-2 : Int32)]) (rest := []) (q := 61) (okX6_refuse (-2 : Int32)) rfl calX6_refuse ml6_102 (by decide) rfl rfl rfl (Nat.le_of_ble_eq_true rfl) dX6_went_58 rfl (fun z11 => ?_)
          exact ef_iret rfl dX6_went_61
      · refine ef_iload_n (q := 44) 0 dX6_went_43 rfl rfl rfl ?_
        exact ef_iret rfl dX6_went_44
theorem okX6_went (x1 : Int32) (x2 : Int32) : MtF 2 mX6_went lyR rvI (fun _ pl => [.ref (pl 0), .int x1, .int x2]) (fX6_went x1 x2) := by
  refine MtF.of (by decide +kernel) rfl (fun _ pl => Nat.le_of_ble_eq_true rfl) (fun G pl h0 s => ?_)
  refine ef_sub (lv := [(0, .ref (pl 0)), (1, .int x1), (2, .int x2)]) (lv' := [(0, .ref (pl 0)), (1, .int x1), (2, .int x2)]) [0, 1, 2] rfl ?_
  exact okX6_went_0  x1 x2 s
-- X6_act
theorem dX6_act_0 : decode cX6_act 0 = .ok (.iload_n 1, 1) := by decide +kernel
theorem dX6_act_1 : decode cX6_act 1 = .ok (.i2l, 1) := by decide +kernel
theorem dX6_act_2 : decode cX6_act 2 = .ok (.lconst 0, 1) := by decide +kernel
theorem dX6_act_3 : decode cX6_act 3 = .ok (.ldc2_w 269, 3) := by decide +kernel
theorem dX6_act_6 : decode cX6_act 6 = .ok (.invokestatic 89, 3) := by decide +kernel
theorem dX6_act_9 : decode cX6_act 9 = .ok (.ifCond .ne 10, 3) := by decide +kernel
theorem dX6_act_12 : decode cX6_act 12 = .ok (.aload_n 0, 1) := by decide +kernel
theorem dX6_act_13 : decode cX6_act 13 = .ok (.bipush (-2), 2) := by decide +kernel
theorem dX6_act_15 : decode cX6_act 15 = .ok (.invokevirtual 102, 3) := by decide +kernel
theorem dX6_act_18 : decode cX6_act 18 = .ok (.ireturn, 1) := by decide +kernel
theorem dX6_act_19 : decode cX6_act 19 = .ok (.aload_n 0, 1) := by decide +kernel
theorem dX6_act_20 : decode cX6_act 20 = .ok (.iload_n 1, 1) := by decide +kernel
theorem dX6_act_21 : decode cX6_act 21 = .ok (.i2l, 1) := by decide +kernel
theorem dX6_act_22 : decode cX6_act 22 = .ok (.invokevirtual 208, 3) := by decide +kernel
theorem dX6_act_25 : decode cX6_act 25 = .ok (.ifCond .ne 10, 3) := by decide +kernel
theorem dX6_act_28 : decode cX6_act 28 = .ok (.aload_n 0, 1) := by decide +kernel
theorem dX6_act_29 : decode cX6_act 29 = .ok (.bipush (-5), 2) := by decide +kernel
theorem dX6_act_31 : decode cX6_act 31 = .ok (.invokevirtual 102, 3) := by decide +kernel
theorem dX6_act_34 : decode cX6_act 34 = .ok (.ireturn, 1) := by decide +kernel
theorem dX6_act_35 : decode cX6_act 35 = .ok (.aload_n 0, 1) := by decide +kernel
theorem dX6_act_36 : decode cX6_act 36 = .ok (.getfield 283, 3) := by decide +kernel
theorem dX6_act_39 : decode cX6_act 39 = .ok (.istore_n 2, 1) := by decide +kernel
theorem dX6_act_40 : decode cX6_act 40 = .ok (.aload_n 0, 1) := by decide +kernel
theorem dX6_act_41 : decode cX6_act 41 = .ok (.iload_n 1, 1) := by decide +kernel
theorem dX6_act_42 : decode cX6_act 42 = .ok (.iconst 1, 1) := by decide +kernel
theorem dX6_act_43 : decode cX6_act 43 = .ok (.invokevirtual 212, 3) := by decide +kernel
theorem dX6_act_46 : decode cX6_act 46 = .ok (.aload_n 0, 1) := by decide +kernel
theorem dX6_act_47 : decode cX6_act 47 = .ok (.getfield 283, 3) := by decide +kernel
theorem dX6_act_50 : decode cX6_act 50 = .ok (.iload_n 2, 1) := by decide +kernel
theorem dX6_act_51 : decode cX6_act 51 = .ok (.isub, 1) := by decide +kernel
theorem dX6_act_52 : decode cX6_act 52 = .ok (.ireturn, 1) := by decide +kernel
def fX6_act_0 (x1 : Int32) (s : SS) : Option (Int32 × SS) := ((fX6_in x1.toInt64 (0 : Int64) (6 : Int64) s).bind fun z1 => if z1.1 = 0 then (((fX6_refuse (-2 : Int32) s).bind fun z3 => some (z3.1, z3.2))) else (((fX6_canAct x1.toInt64 s).bind fun z4 => if z4.1 = 0 then (((fX6_refuse (-5 : Int32) z4.2).bind fun z6 => some (z6.1, z6.2))) else (((fX6_goes x1 (1 : Int32) z4.2).bind fun z7 => some ((z7.2.1 0 19) - (z4.2.1 0 19), z7.2))))))
def fX6_act (x1 : Int32) (s : SS) : Option (Int32 × SS) := fX6_act_0 x1 s
set_option maxRecDepth 100000 in
set_option maxHeartbeats 4000000 in
theorem okX6_act_0 {G : GG} {pl : Nat → Nat} {h0 : PH} (x1 : Int32) (s : SS) : EvF G 3 mX6_act lyR pl h0 rvI (fX6_act_0 x1 s) 0 [(0, .ref (pl 0)), (1, .int x1)] [] s := by
  unfold fX6_act_0
  refine ef_iload_n (q := 1) 1 dX6_act_0 rfl rfl rfl ?_
  refine ef_i2l (v := x1.toInt64) (q := 2) dX6_act_1 rfl rfl ?_
  refine ef_lconst (v := (0 : Int64)) (q := 3) dX6_act_2 (by decide) rfl ?_
  refine ef_ldc2 (v := (6 : Int64)) (q := 6) k6_269 dX6_act_3 rfl ?_
  refine ef_invPI0 (As := [.long x1.toInt64, .long (0 : Int64), .long (6 : Int64)]) (rest := []) (q := 9) (okX6_in x1.toInt64 (0 : Int64) (6 : Int64)) rfl calX6_in ml6_89 (by decide) rfl rfl (Nat.le_of_ble_eq_true rfl) dX6_act_6 rfl (fun z1 => ?_)
  refine ef_if (pt := 12) (pf := 19) (fun _ _ kt kf => ev_if_ne (tgt := 19) dX6_act_9 (by decide) kf kt) (fun h2 => ?_) (fun h2 => ?_)
  · refine ef_aload_n (q := 13) 0 dX6_act_12 rfl rfl rfl ?_
    refine ef_bipush (v := (-2 : Int32)) (q := 15) dX6_act_13 (by decide) rfl ?_
    refine ef_invVI0 (k := 0) (As := [.int (-2 : Int32)]) (rest := []) (q := 18) (okX6_refuse (-2 : Int32)) rfl calX6_refuse ml6_102 (by decide) rfl rfl rfl (Nat.le_of_ble_eq_true rfl) dX6_act_15 rfl (fun z3 => ?_)
    exact ef_iret rfl dX6_act_18
  · refine ef_aload_n (q := 20) 0 dX6_act_19 rfl rfl rfl ?_
    refine ef_iload_n (q := 21) 1 dX6_act_20 rfl rfl rfl ?_
    refine ef_i2l (v := x1.toInt64) (q := 22) dX6_act_21 rfl rfl ?_
    refine ef_invVI0 (k := 0) (As := [.long x1.toInt64]) (rest := []) (q := 25) (okX6_canAct x1.toInt64) rfl calX6_canAct ml6_208 (by decide) rfl rfl rfl (Nat.le_of_ble_eq_true rfl) dX6_act_22 rfl (fun z4 => ?_)
    refine ef_if (pt := 28) (pf := 35) (fun _ _ kt kf => ev_if_ne (tgt := 35) dX6_act_25 (by decide) kf kt) (fun h5 => ?_) (fun h5 => ?_)
    · refine ef_aload_n (q := 29) 0 dX6_act_28 rfl rfl rfl ?_
      refine ef_bipush (v := (-5 : Int32)) (q := 31) dX6_act_29 (by decide) rfl ?_
      refine ef_invVI0 (k := 0) (As := [.int (-5 : Int32)]) (rest := []) (q := 34) (okX6_refuse (-5 : Int32)) rfl calX6_refuse ml6_102 (by decide) rfl rfl rfl (Nat.le_of_ble_eq_true rfl) dX6_act_31 rfl (fun z6 => ?_)
      exact ef_iret rfl dX6_act_34
    · refine ef_aload_n (q := 36) 0 dX6_act_35 rfl rfl rfl ?_
      refine ef_getI (x := z4.2.1 0 19) (q := 39) rfl fl6_283 rfl rfl dX6_act_36 rfl ?_
      refine ef_istore_n (lv' := [(2, .int (z4.2.1 0 19)), (0, .ref (pl 0)), (1, .int x1)]) (q := 40) dX6_act_39 rfl (by decide) rfl rfl ?_
      refine ef_aload_n (q := 41) 1 dX6_act_40 rfl rfl rfl ?_
      refine ef_iload_n (q := 42) 2 dX6_act_41 rfl rfl rfl ?_
      refine ef_iconst (v := (1 : Int32)) (q := 43) dX6_act_42 (by decide) rfl ?_
      refine ef_invVU0 (k := 0) (As := [.int x1, .int (1 : Int32)]) (rest := []) (q := 46) (okX6_goes x1 (1 : Int32)) rfl calX6_goes ml6_212 (by decide) rfl rfl rfl (Nat.le_of_ble_eq_true rfl) dX6_act_43 rfl (fun z7 => ?_)
      refine ef_aload_n (q := 47) 1 dX6_act_46 rfl rfl rfl ?_
      refine ef_getI (x := z7.2.1 0 19) (q := 50) rfl fl6_283 rfl rfl dX6_act_47 rfl ?_
      refine ef_iload_n (q := 51) 0 dX6_act_50 rfl rfl rfl ?_
      refine ef_isub (q := 52) dX6_act_51 rfl ?_
      exact ef_iret rfl dX6_act_52
theorem okX6_act (x1 : Int32) : MtF 3 mX6_act lyR rvI (fun _ pl => [.ref (pl 0), .int x1]) (fX6_act x1) := by
  refine MtF.of (by decide +kernel) rfl (fun _ pl => Nat.le_of_ble_eq_true rfl) (fun G pl h0 s => ?_)
  refine ef_sub (lv := [(0, .ref (pl 0)), (1, .int x1)]) (lv' := [(0, .ref (pl 0)), (1, .int x1)]) [0, 1] rfl ?_
  exact okX6_act_0  x1 s
-- X6_below
theorem dX6_below_0 : decode cX6_below 0 = .ok (.aload_n 0, 1) := by decide +kernel
theorem dX6_below_1 : decode cX6_below 1 = .ok (.aload_n 0, 1) := by decide +kernel
theorem dX6_below_2 : decode cX6_below 2 = .ok (.getfield 67, 3) := by decide +kernel
theorem dX6_below_5 : decode cX6_below 5 = .ok (.ldc_w 381, 3) := by decide +kernel
theorem dX6_below_8 : decode cX6_below 8 = .ok (.imul, 1) := by decide +kernel
theorem dX6_below_9 : decode cX6_below 9 = .ok (.sipush 12345, 3) := by decide +kernel
theorem dX6_below_12 : decode cX6_below 12 = .ok (.iadd, 1) := by decide +kernel
theorem dX6_below_13 : decode cX6_below 13 = .ok (.putfield 67, 3) := by decide +kernel
theorem dX6_below_16 : decode cX6_below 16 = .ok (.aload_n 0, 1) := by decide +kernel
theorem dX6_below_17 : decode cX6_below 17 = .ok (.getfield 67, 3) := by decide +kernel
theorem dX6_below_20 : decode cX6_below 20 = .ok (.bipush 16, 2) := by decide +kernel
theorem dX6_below_22 : decode cX6_below 22 = .ok (.iushr, 1) := by decide +kernel
theorem dX6_below_23 : decode cX6_below 23 = .ok (.iload_n 1, 1) := by decide +kernel
theorem dX6_below_24 : decode cX6_below 24 = .ok (.irem, 1) := by decide +kernel
theorem dX6_below_25 : decode cX6_below 25 = .ok (.ireturn, 1) := by decide +kernel
def fX6_below_0 (x1 : Int32) (s : SS) : Option (Int32 × SS) := if ¬ x1 = 0 then (some ((((((s.1 0 27) * (1103515245 : Int32)) + (12345 : Int32)).toUInt32 >>> ((16 : Int32).toUInt32 &&& Int32.toUInt32 31)).toInt32) - (((((s.1 0 27) * (1103515245 : Int32)) + (12345 : Int32)).toUInt32 >>> ((16 : Int32).toUInt32 &&& Int32.toUInt32 31)).toInt32) / x1 * x1, wrI s 0 27 (((s.1 0 27) * (1103515245 : Int32)) + (12345 : Int32)))) else none
def fX6_below (x1 : Int32) (s : SS) : Option (Int32 × SS) := fX6_below_0 x1 s
set_option maxRecDepth 100000 in
set_option maxHeartbeats 4000000 in
theorem okX6_below_0 {G : GG} {pl : Nat → Nat} {h0 : PH} (x1 : Int32) (s : SS) : EvF G 0 mX6_below lyR pl h0 rvI (fX6_below_0 x1 s) 0 [(0, .ref (pl 0)), (1, .int x1)] [] s := by
  unfold fX6_below_0
  refine ef_aload_n (q := 1) 0 dX6_below_0 rfl rfl rfl ?_
  refine ef_aload_n (q := 2) 0 dX6_below_1 rfl rfl rfl ?_
  refine ef_getI (x := s.1 0 27) (q := 5) rfl fl6_67 rfl rfl dX6_below_2 rfl ?_
  refine ef_ldcw (v := (1103515245 : Int32)) (q := 8) k6_381 dX6_below_5 rfl ?_
  refine ef_imul (q := 9) dX6_below_8 rfl ?_
  refine ef_sipush (v := (12345 : Int32)) (q := 12) dX6_below_9 (by decide) rfl ?_
  refine ef_iadd (q := 13) dX6_below_12 rfl ?_
  refine ef_putI (q := 16) rfl fl6_67 rfl rfl dX6_below_13 rfl ?_
  refine ef_aload_n (q := 17) 0 dX6_below_16 rfl rfl rfl ?_
  refine ef_getI (x := ((s.1 0 27) * (1103515245 : Int32)) + (12345 : Int32)) (q := 20) rfl fl6_67 rfl rfl dX6_below_17 rfl ?_
  refine ef_bipush (v := (16 : Int32)) (q := 22) dX6_below_20 (by decide) rfl ?_
  refine ef_iushr (v := ((((s.1 0 27) * (1103515245 : Int32)) + (12345 : Int32)).toUInt32 >>> ((16 : Int32).toUInt32 &&& Int32.toUInt32 31)).toInt32) (q := 23) dX6_below_22 rfl rfl ?_
  refine ef_iload_n (q := 24) 1 dX6_below_23 rfl rfl rfl ?_
  refine ef_guard (fun g1 => ?_)
  refine ef_irem (q := 25) dX6_below_24 g1 rfl ?_
  exact ef_iret rfl dX6_below_25
theorem okX6_below (x1 : Int32) : MtF 0 mX6_below lyR rvI (fun _ pl => [.ref (pl 0), .int x1]) (fX6_below x1) := by
  refine MtF.of (by decide +kernel) rfl (fun _ pl => Nat.le_of_ble_eq_true rfl) (fun G pl h0 s => ?_)
  refine ef_sub (lv := [(0, .ref (pl 0)), (1, .int x1)]) (lv' := [(0, .ref (pl 0)), (1, .int x1)]) [0, 1] rfl ?_
  exact okX6_below_0  x1 s
-- X6_anew
theorem dX6_anew_0 : decode cX6_anew 0 = .ok (.aload_n 0, 1) := by decide +kernel
theorem dX6_anew_1 : decode cX6_anew 1 = .ok (.invokevirtual 343, 3) := by decide +kernel
theorem dX6_anew_4 : decode cX6_anew 4 = .ok (.istore_n 1, 1) := by decide +kernel
theorem dX6_anew_5 : decode cX6_anew 5 = .ok (.aload_n 0, 1) := by decide +kernel
theorem dX6_anew_6 : decode cX6_anew 6 = .ok (.iconst 0, 1) := by decide +kernel
theorem dX6_anew_7 : decode cX6_anew 7 = .ok (.putfield 93, 3) := by decide +kernel
theorem dX6_anew_10 : decode cX6_anew 10 = .ok (.iconst 0, 1) := by decide +kernel
theorem dX6_anew_11 : decode cX6_anew 11 = .ok (.istore_n 2, 1) := by decide +kernel
theorem dX6_anew_12 : decode cX6_anew 12 = .ok (.iload_n 2, 1) := by decide +kernel
theorem dX6_anew_13 : decode cX6_anew 13 = .ok (.bipush 8, 2) := by decide +kernel
theorem dX6_anew_15 : decode cX6_anew 15 = .ok (.if_icmp .ge 16, 3) := by decide +kernel
theorem dX6_anew_18 : decode cX6_anew 18 = .ok (.aload_n 0, 1) := by decide +kernel
theorem dX6_anew_19 : decode cX6_anew 19 = .ok (.getfield 52, 3) := by decide +kernel
theorem dX6_anew_22 : decode cX6_anew 22 = .ok (.iload_n 2, 1) := by decide +kernel
theorem dX6_anew_23 : decode cX6_anew 23 = .ok (.iconst 0, 1) := by decide +kernel
theorem dX6_anew_24 : decode cX6_anew 24 = .ok (.iastore, 1) := by decide +kernel
theorem dX6_anew_25 : decode cX6_anew 25 = .ok (.iinc 2 1, 3) := by decide +kernel
theorem dX6_anew_28 : decode cX6_anew 28 = .ok (.goto (-16), 3) := by decide +kernel
theorem dX6_anew_31 : decode cX6_anew 31 = .ok (.aload_n 0, 1) := by decide +kernel
theorem dX6_anew_32 : decode cX6_anew 32 = .ok (.iconst 0, 1) := by decide +kernel
theorem dX6_anew_33 : decode cX6_anew 33 = .ok (.putfield 286, 3) := by decide +kernel
theorem dX6_anew_36 : decode cX6_anew 36 = .ok (.aload_n 0, 1) := by decide +kernel
theorem dX6_anew_37 : decode cX6_anew 37 = .ok (.iconst 0, 1) := by decide +kernel
theorem dX6_anew_38 : decode cX6_anew 38 = .ok (.putfield 292, 3) := by decide +kernel
theorem dX6_anew_41 : decode cX6_anew 41 = .ok (.iload_n 1, 1) := by decide +kernel
theorem dX6_anew_42 : decode cX6_anew 42 = .ok (.ireturn, 1) := by decide +kernel
def fX6_anew_12 : Nat → Int32 → Int32 → SS → Option (Int32 × SS)
  | 0, _, _, _ => none
  | n + 1, x1, x2, s => if (8 : Int32) ≤ x2 then (some (x1, wrI (wrI s 0 21 (0 : Int32)) 0 25 (0 : Int32))) else (if ixB x2 8 then (fX6_anew_12 n x1 (x2 + (1 : Int32)) (wrI s 23 x2.toNatClampNeg (0 : Int32))) else none)
def fX6_anew_0 (s : SS) : Option (Int32 × SS) := ((fX6_leftNow s).bind fun z1 => fX6_anew_12 FU z1.1 (0 : Int32) (wrI z1.2 0 10 (0 : Int32)))
def fX6_anew (s : SS) : Option (Int32 × SS) := fX6_anew_0 s
set_option maxRecDepth 100000 in
set_option maxHeartbeats 4000000 in
theorem okX6_anew_12 {G : GG} {pl : Nat → Nat} {h0 : PH} : ∀ (n : Nat) (x1 : Int32) (x2 : Int32) (s : SS), EvF G 2 mX6_anew lyR pl h0 rvI (fX6_anew_12 n x1 x2 s) 12 [(0, .ref (pl 0)), (1, .int x1), (2, .int x2)] [] s := by
  intro n
  induction n with
  | zero => intro x1 x2 s; rw [fX6_anew_12]; exact ef_none
  | succ n ih =>
    intro x1 x2 s
    rw [fX6_anew_12]
    refine ef_iload_n (q := 13) 2 dX6_anew_12 rfl rfl rfl ?_
    refine ef_bipush (v := (8 : Int32)) (q := 15) dX6_anew_13 (by decide) rfl ?_
    refine ef_if (pt := 31) (pf := 18) (fun _ _ => ev_icmp_ge (tgt := 31) dX6_anew_15 (by decide)) (fun h1 => ?_) (fun h1 => ?_)
    · refine ef_aload_n (q := 32) 0 dX6_anew_31 rfl rfl rfl ?_
      refine ef_iconst (v := (0 : Int32)) (q := 33) dX6_anew_32 (by decide) rfl ?_
      refine ef_putI (q := 36) rfl fl6_286 rfl rfl dX6_anew_33 rfl ?_
      refine ef_aload_n (q := 37) 0 dX6_anew_36 rfl rfl rfl ?_
      refine ef_iconst (v := (0 : Int32)) (q := 38) dX6_anew_37 (by decide) rfl ?_
      refine ef_putI (q := 41) rfl fl6_292 rfl rfl dX6_anew_38 rfl ?_
      refine ef_iload_n (q := 42) 1 dX6_anew_41 rfl rfl rfl ?_
      exact ef_iret rfl dX6_anew_42
    · refine ef_aload_n (q := 19) 0 dX6_anew_18 rfl rfl rfl ?_
      refine ef_getR (t := 23) (q := 22) rfl fl6_52 rfl rfl dX6_anew_19 rfl ?_
      refine ef_iload_n (q := 23) 2 dX6_anew_22 rfl rfl rfl ?_
      refine ef_iconst (v := (0 : Int32)) (q := 24) dX6_anew_23 (by decide) rfl ?_
      refine ef_guard (fun g2 => ?_)
      refine ef_iastore (j := x2.toNatClampNeg) (q := 25) rfl g2 dX6_anew_24 rfl rfl ?_
      refine ef_iinc (v := x2 + (1 : Int32)) (lv' := [(2, .int (x2 + (1 : Int32))), (0, .ref (pl 0)), (1, .int x1)]) (q := 28) 2 dX6_anew_25 rfl rfl (by decide) rfl rfl ?_
      refine ef_goto (tgt := 12) dX6_anew_28 (by decide) ?_
      refine ef_sub (lv' := [(0, .ref (pl 0)), (1, .int x1), (2, .int (x2 + (1 : Int32)))]) [1, 2, 0] rfl ?_
      exact ih x1 (x2 + (1 : Int32)) (wrI s 23 x2.toNatClampNeg (0 : Int32))
set_option maxRecDepth 100000 in
set_option maxHeartbeats 4000000 in
theorem okX6_anew_0 {G : GG} {pl : Nat → Nat} {h0 : PH} (s : SS) : EvF G 2 mX6_anew lyR pl h0 rvI (fX6_anew_0 s) 0 [(0, .ref (pl 0))] [] s := by
  unfold fX6_anew_0
  refine ef_aload_n (q := 1) 0 dX6_anew_0 rfl rfl rfl ?_
  refine ef_invVI0 (k := 0) (As := []) (rest := []) (q := 4) (okX6_leftNow) rfl calX6_leftNow ml6_343 (by decide) rfl rfl rfl (Nat.le_of_ble_eq_true rfl) dX6_anew_1 rfl (fun z1 => ?_)
  refine ef_istore_n (lv' := [(1, .int z1.1), (0, .ref (pl 0))]) (q := 5) dX6_anew_4 rfl (by decide) rfl rfl ?_
  refine ef_aload_n (q := 6) 1 dX6_anew_5 rfl rfl rfl ?_
  refine ef_iconst (v := (0 : Int32)) (q := 7) dX6_anew_6 (by decide) rfl ?_
  refine ef_putI (q := 10) rfl fl6_93 rfl rfl dX6_anew_7 rfl ?_
  refine ef_iconst (v := (0 : Int32)) (q := 11) dX6_anew_10 (by decide) rfl ?_
  refine ef_istore_n (lv' := [(2, .int (0 : Int32)), (1, .int z1.1), (0, .ref (pl 0))]) (q := 12) dX6_anew_11 rfl (by decide) rfl rfl ?_
  refine ef_sub (lv' := [(0, .ref (pl 0)), (1, .int z1.1), (2, .int (0 : Int32))]) [2, 1, 0] rfl ?_
  exact okX6_anew_12 FU z1.1 (0 : Int32) (wrI z1.2 0 10 (0 : Int32))
theorem okX6_anew : MtF 2 mX6_anew lyR rvI (fun _ pl => [.ref (pl 0)]) (fX6_anew) := by
  refine MtF.of (by decide +kernel) rfl (fun _ pl => Nat.le_of_ble_eq_true rfl) (fun G pl h0 s => ?_)
  refine ef_sub (lv := [(0, .ref (pl 0))]) (lv' := [(0, .ref (pl 0))]) [0] rfl ?_
  exact okX6_anew_0  s
-- X6_seed
theorem dX6_seed_0 : decode cX6_seed 0 = .ok (.aload_n 0, 1) := by decide +kernel
theorem dX6_seed_1 : decode cX6_seed 1 = .ok (.getfield 67, 3) := by decide +kernel
theorem dX6_seed_4 : decode cX6_seed 4 = .ok (.istore_n 2, 1) := by decide +kernel
theorem dX6_seed_5 : decode cX6_seed 5 = .ok (.aload_n 0, 1) := by decide +kernel
theorem dX6_seed_6 : decode cX6_seed 6 = .ok (.iload_n 1, 1) := by decide +kernel
theorem dX6_seed_7 : decode cX6_seed 7 = .ok (.putfield 67, 3) := by decide +kernel
theorem dX6_seed_10 : decode cX6_seed 10 = .ok (.iload_n 2, 1) := by decide +kernel
theorem dX6_seed_11 : decode cX6_seed 11 = .ok (.ireturn, 1) := by decide +kernel
def fX6_seed_0 (x1 : Int32) (s : SS) : Option (Int32 × SS) := some (s.1 0 27, wrI s 0 27 x1)
def fX6_seed (x1 : Int32) (s : SS) : Option (Int32 × SS) := fX6_seed_0 x1 s
set_option maxRecDepth 100000 in
set_option maxHeartbeats 4000000 in
theorem okX6_seed_0 {G : GG} {pl : Nat → Nat} {h0 : PH} (x1 : Int32) (s : SS) : EvF G 0 mX6_seed lyR pl h0 rvI (fX6_seed_0 x1 s) 0 [(0, .ref (pl 0)), (1, .int x1)] [] s := by
  unfold fX6_seed_0
  refine ef_aload_n (q := 1) 0 dX6_seed_0 rfl rfl rfl ?_
  refine ef_getI (x := s.1 0 27) (q := 4) rfl fl6_67 rfl rfl dX6_seed_1 rfl ?_
  refine ef_istore_n (lv' := [(2, .int (s.1 0 27)), (0, .ref (pl 0)), (1, .int x1)]) (q := 5) dX6_seed_4 rfl (by decide) rfl rfl ?_
  refine ef_aload_n (q := 6) 1 dX6_seed_5 rfl rfl rfl ?_
  refine ef_iload_n (q := 7) 2 dX6_seed_6 rfl rfl rfl ?_
  refine ef_putI (q := 10) rfl fl6_67 rfl rfl dX6_seed_7 rfl ?_
  refine ef_iload_n (q := 11) 0 dX6_seed_10 rfl rfl rfl ?_
  exact ef_iret rfl dX6_seed_11
theorem okX6_seed (x1 : Int32) : MtF 0 mX6_seed lyR rvI (fun _ pl => [.ref (pl 0), .int x1]) (fX6_seed x1) := by
  refine MtF.of (by decide +kernel) rfl (fun _ pl => Nat.le_of_ble_eq_true rfl) (fun G pl h0 s => ?_)
  refine ef_sub (lv := [(0, .ref (pl 0)), (1, .int x1)]) (lv' := [(0, .ref (pl 0)), (1, .int x1)]) [0, 1] rfl ?_
  exact okX6_seed_0  x1 s
-- X6_takeFrom
theorem dX6_takeFrom_0 : decode cX6_takeFrom 0 = .ok (.aload_n 0, 1) := by decide +kernel
theorem dX6_takeFrom_1 : decode cX6_takeFrom 1 = .ok (.aload_n 1, 1) := by decide +kernel
theorem dX6_takeFrom_2 : decode cX6_takeFrom 2 = .ok (.getfield 37, 3) := by decide +kernel
theorem dX6_takeFrom_5 : decode cX6_takeFrom 5 = .ok (.putfield 37, 3) := by decide +kernel
theorem dX6_takeFrom_8 : decode cX6_takeFrom 8 = .ok (.aload_n 0, 1) := by decide +kernel
theorem dX6_takeFrom_9 : decode cX6_takeFrom 9 = .ok (.aload_n 1, 1) := by decide +kernel
theorem dX6_takeFrom_10 : decode cX6_takeFrom 10 = .ok (.getfield 93, 3) := by decide +kernel
theorem dX6_takeFrom_13 : decode cX6_takeFrom 13 = .ok (.putfield 93, 3) := by decide +kernel
theorem dX6_takeFrom_16 : decode cX6_takeFrom 16 = .ok (.aload_n 1, 1) := by decide +kernel
theorem dX6_takeFrom_17 : decode cX6_takeFrom 17 = .ok (.getfield 41, 3) := by decide +kernel
theorem dX6_takeFrom_20 : decode cX6_takeFrom 20 = .ok (.aload_n 0, 1) := by decide +kernel
theorem dX6_takeFrom_21 : decode cX6_takeFrom 21 = .ok (.getfield 41, 3) := by decide +kernel
theorem dX6_takeFrom_24 : decode cX6_takeFrom 24 = .ok (.invokestatic 353, 3) := by decide +kernel
theorem dX6_takeFrom_27 : decode cX6_takeFrom 27 = .ok (.aload_n 1, 1) := by decide +kernel
theorem dX6_takeFrom_28 : decode cX6_takeFrom 28 = .ok (.getfield 44, 3) := by decide +kernel
theorem dX6_takeFrom_31 : decode cX6_takeFrom 31 = .ok (.aload_n 0, 1) := by decide +kernel
theorem dX6_takeFrom_32 : decode cX6_takeFrom 32 = .ok (.getfield 44, 3) := by decide +kernel
theorem dX6_takeFrom_35 : decode cX6_takeFrom 35 = .ok (.invokestatic 353, 3) := by decide +kernel
theorem dX6_takeFrom_38 : decode cX6_takeFrom 38 = .ok (.iconst 0, 1) := by decide +kernel
theorem dX6_takeFrom_39 : decode cX6_takeFrom 39 = .ok (.istore_n 2, 1) := by decide +kernel
theorem dX6_takeFrom_40 : decode cX6_takeFrom 40 = .ok (.iload_n 2, 1) := by decide +kernel
theorem dX6_takeFrom_41 : decode cX6_takeFrom 41 = .ok (.iconst 3, 1) := by decide +kernel
theorem dX6_takeFrom_42 : decode cX6_takeFrom 42 = .ok (.if_icmp .ge 24, 3) := by decide +kernel
theorem dX6_takeFrom_45 : decode cX6_takeFrom 45 = .ok (.aload_n 1, 1) := by decide +kernel
theorem dX6_takeFrom_46 : decode cX6_takeFrom 46 = .ok (.getfield 49, 3) := by decide +kernel
theorem dX6_takeFrom_49 : decode cX6_takeFrom 49 = .ok (.iload_n 2, 1) := by decide +kernel
theorem dX6_takeFrom_50 : decode cX6_takeFrom 50 = .ok (.aaload, 1) := by decide +kernel
theorem dX6_takeFrom_51 : decode cX6_takeFrom 51 = .ok (.aload_n 0, 1) := by decide +kernel
theorem dX6_takeFrom_52 : decode cX6_takeFrom 52 = .ok (.getfield 49, 3) := by decide +kernel
theorem dX6_takeFrom_55 : decode cX6_takeFrom 55 = .ok (.iload_n 2, 1) := by decide +kernel
theorem dX6_takeFrom_56 : decode cX6_takeFrom 56 = .ok (.aaload, 1) := by decide +kernel
theorem dX6_takeFrom_57 : decode cX6_takeFrom 57 = .ok (.invokestatic 353, 3) := by decide +kernel
theorem dX6_takeFrom_60 : decode cX6_takeFrom 60 = .ok (.iinc 2 1, 3) := by decide +kernel
theorem dX6_takeFrom_63 : decode cX6_takeFrom 63 = .ok (.goto (-23), 3) := by decide +kernel
theorem dX6_takeFrom_66 : decode cX6_takeFrom 66 = .ok (.aload_n 1, 1) := by decide +kernel
theorem dX6_takeFrom_67 : decode cX6_takeFrom 67 = .ok (.getfield 52, 3) := by decide +kernel
theorem dX6_takeFrom_70 : decode cX6_takeFrom 70 = .ok (.aload_n 0, 1) := by decide +kernel
theorem dX6_takeFrom_71 : decode cX6_takeFrom 71 = .ok (.getfield 52, 3) := by decide +kernel
theorem dX6_takeFrom_74 : decode cX6_takeFrom 74 = .ok (.invokestatic 353, 3) := by decide +kernel
theorem dX6_takeFrom_77 : decode cX6_takeFrom 77 = .ok (.aload_n 0, 1) := by decide +kernel
theorem dX6_takeFrom_78 : decode cX6_takeFrom 78 = .ok (.aload_n 1, 1) := by decide +kernel
theorem dX6_takeFrom_79 : decode cX6_takeFrom 79 = .ok (.getfield 126, 3) := by decide +kernel
theorem dX6_takeFrom_82 : decode cX6_takeFrom 82 = .ok (.putfield 126, 3) := by decide +kernel
theorem dX6_takeFrom_85 : decode cX6_takeFrom 85 = .ok (.aload_n 0, 1) := by decide +kernel
theorem dX6_takeFrom_86 : decode cX6_takeFrom 86 = .ok (.aload_n 1, 1) := by decide +kernel
theorem dX6_takeFrom_87 : decode cX6_takeFrom 87 = .ok (.getfield 129, 3) := by decide +kernel
theorem dX6_takeFrom_90 : decode cX6_takeFrom 90 = .ok (.putfield 129, 3) := by decide +kernel
theorem dX6_takeFrom_93 : decode cX6_takeFrom 93 = .ok (.aload_n 1, 1) := by decide +kernel
theorem dX6_takeFrom_94 : decode cX6_takeFrom 94 = .ok (.getfield 55, 3) := by decide +kernel
theorem dX6_takeFrom_97 : decode cX6_takeFrom 97 = .ok (.aload_n 0, 1) := by decide +kernel
theorem dX6_takeFrom_98 : decode cX6_takeFrom 98 = .ok (.getfield 55, 3) := by decide +kernel
theorem dX6_takeFrom_101 : decode cX6_takeFrom 101 = .ok (.invokestatic 353, 3) := by decide +kernel
theorem dX6_takeFrom_104 : decode cX6_takeFrom 104 = .ok (.aload_n 0, 1) := by decide +kernel
theorem dX6_takeFrom_105 : decode cX6_takeFrom 105 = .ok (.aload_n 1, 1) := by decide +kernel
theorem dX6_takeFrom_106 : decode cX6_takeFrom 106 = .ok (.getfield 289, 3) := by decide +kernel
theorem dX6_takeFrom_109 : decode cX6_takeFrom 109 = .ok (.putfield 289, 3) := by decide +kernel
theorem dX6_takeFrom_112 : decode cX6_takeFrom 112 = .ok (.aload_n 0, 1) := by decide +kernel
theorem dX6_takeFrom_113 : decode cX6_takeFrom 113 = .ok (.aload_n 1, 1) := by decide +kernel
theorem dX6_takeFrom_114 : decode cX6_takeFrom 114 = .ok (.getfield 283, 3) := by decide +kernel
theorem dX6_takeFrom_117 : decode cX6_takeFrom 117 = .ok (.putfield 283, 3) := by decide +kernel
theorem dX6_takeFrom_120 : decode cX6_takeFrom 120 = .ok (.aload_n 0, 1) := by decide +kernel
theorem dX6_takeFrom_121 : decode cX6_takeFrom 121 = .ok (.aload_n 1, 1) := by decide +kernel
theorem dX6_takeFrom_122 : decode cX6_takeFrom 122 = .ok (.getfield 274, 3) := by decide +kernel
theorem dX6_takeFrom_125 : decode cX6_takeFrom 125 = .ok (.putfield 274, 3) := by decide +kernel
theorem dX6_takeFrom_128 : decode cX6_takeFrom 128 = .ok (.aload_n 0, 1) := by decide +kernel
theorem dX6_takeFrom_129 : decode cX6_takeFrom 129 = .ok (.aload_n 1, 1) := by decide +kernel
theorem dX6_takeFrom_130 : decode cX6_takeFrom 130 = .ok (.getfield 286, 3) := by decide +kernel
theorem dX6_takeFrom_133 : decode cX6_takeFrom 133 = .ok (.putfield 286, 3) := by decide +kernel
theorem dX6_takeFrom_136 : decode cX6_takeFrom 136 = .ok (.aload_n 0, 1) := by decide +kernel
theorem dX6_takeFrom_137 : decode cX6_takeFrom 137 = .ok (.aload_n 1, 1) := by decide +kernel
theorem dX6_takeFrom_138 : decode cX6_takeFrom 138 = .ok (.getfield 86, 3) := by decide +kernel
theorem dX6_takeFrom_141 : decode cX6_takeFrom 141 = .ok (.putfield 86, 3) := by decide +kernel
theorem dX6_takeFrom_144 : decode cX6_takeFrom 144 = .ok (.aload_n 1, 1) := by decide +kernel
theorem dX6_takeFrom_145 : decode cX6_takeFrom 145 = .ok (.getfield 58, 3) := by decide +kernel
theorem dX6_takeFrom_148 : decode cX6_takeFrom 148 = .ok (.aload_n 0, 1) := by decide +kernel
theorem dX6_takeFrom_149 : decode cX6_takeFrom 149 = .ok (.getfield 58, 3) := by decide +kernel
theorem dX6_takeFrom_152 : decode cX6_takeFrom 152 = .ok (.invokestatic 353, 3) := by decide +kernel
theorem dX6_takeFrom_155 : decode cX6_takeFrom 155 = .ok (.aload_n 1, 1) := by decide +kernel
theorem dX6_takeFrom_156 : decode cX6_takeFrom 156 = .ok (.getfield 61, 3) := by decide +kernel
theorem dX6_takeFrom_159 : decode cX6_takeFrom 159 = .ok (.aload_n 0, 1) := by decide +kernel
theorem dX6_takeFrom_160 : decode cX6_takeFrom 160 = .ok (.getfield 61, 3) := by decide +kernel
theorem dX6_takeFrom_163 : decode cX6_takeFrom 163 = .ok (.invokestatic 353, 3) := by decide +kernel
theorem dX6_takeFrom_166 : decode cX6_takeFrom 166 = .ok (.aload_n 0, 1) := by decide +kernel
theorem dX6_takeFrom_167 : decode cX6_takeFrom 167 = .ok (.aload_n 1, 1) := by decide +kernel
theorem dX6_takeFrom_168 : decode cX6_takeFrom 168 = .ok (.getfield 292, 3) := by decide +kernel
theorem dX6_takeFrom_171 : decode cX6_takeFrom 171 = .ok (.putfield 292, 3) := by decide +kernel
theorem dX6_takeFrom_174 : decode cX6_takeFrom 174 = .ok (.aload_n 1, 1) := by decide +kernel
theorem dX6_takeFrom_175 : decode cX6_takeFrom 175 = .ok (.getfield 64, 3) := by decide +kernel
theorem dX6_takeFrom_178 : decode cX6_takeFrom 178 = .ok (.aload_n 0, 1) := by decide +kernel
theorem dX6_takeFrom_179 : decode cX6_takeFrom 179 = .ok (.getfield 64, 3) := by decide +kernel
theorem dX6_takeFrom_182 : decode cX6_takeFrom 182 = .ok (.invokestatic 353, 3) := by decide +kernel
theorem dX6_takeFrom_185 : decode cX6_takeFrom 185 = .ok (.aload_n 0, 1) := by decide +kernel
theorem dX6_takeFrom_186 : decode cX6_takeFrom 186 = .ok (.aload_n 1, 1) := by decide +kernel
theorem dX6_takeFrom_187 : decode cX6_takeFrom 187 = .ok (.getfield 67, 3) := by decide +kernel
theorem dX6_takeFrom_190 : decode cX6_takeFrom 190 = .ok (.putfield 67, 3) := by decide +kernel
theorem dX6_takeFrom_193 : decode cX6_takeFrom 193 = .ok (.return_, 1) := by decide +kernel
def fX6_takeFrom_40 : Nat → Int32 → SS → Option (Unit × SS)
  | 0, _, _ => none
  | n + 1, x2, s => if (3 : Int32) ≤ x2 then (((fX6_copied8 (selS (fun k => if k < 1 then 56 + k else 23 + (k - 1)) s)).bind fun z2 => ((fX6_copied4 (selS (fun k => if k < 1 then 57 + k else 24 + (k - 1)) (wrI (wrI (mrgS (fun k => if k < 1 then 56 + k else 23 + (k - 1)) 2 s z2.2) 0 15 ((mrgS (fun k => if k < 1 then 56 + k else 23 + (k - 1)) 2 s z2.2).1 33 15)) 0 16 ((mrgS (fun k => if k < 1 then 56 + k else 23 + (k - 1)) 2 s z2.2).1 33 16)))).bind fun z3 => ((fX6_copied4 (selS (fun k => if k < 1 then 58 + k else 25 + (k - 1)) (wrI (wrI (wrI (wrI (wrI (mrgS (fun k => if k < 1 then 57 + k else 24 + (k - 1)) 2 (wrI (wrI (mrgS (fun k => if k < 1 then 56 + k else 23 + (k - 1)) 2 s z2.2) 0 15 ((mrgS (fun k => if k < 1 then 56 + k else 23 + (k - 1)) 2 s z2.2).1 33 15)) 0 16 ((mrgS (fun k => if k < 1 then 56 + k else 23 + (k - 1)) 2 s z2.2).1 33 16)) z3.2) 0 18 ((mrgS (fun k => if k < 1 then 57 + k else 24 + (k - 1)) 2 (wrI (wrI (mrgS (fun k => if k < 1 then 56 + k else 23 + (k - 1)) 2 s z2.2) 0 15 ((mrgS (fun k => if k < 1 then 56 + k else 23 + (k - 1)) 2 s z2.2).1 33 15)) 0 16 ((mrgS (fun k => if k < 1 then 56 + k else 23 + (k - 1)) 2 s z2.2).1 33 16)) z3.2).1 33 18)) 0 19 ((mrgS (fun k => if k < 1 then 57 + k else 24 + (k - 1)) 2 (wrI (wrI (mrgS (fun k => if k < 1 then 56 + k else 23 + (k - 1)) 2 s z2.2) 0 15 ((mrgS (fun k => if k < 1 then 56 + k else 23 + (k - 1)) 2 s z2.2).1 33 15)) 0 16 ((mrgS (fun k => if k < 1 then 56 + k else 23 + (k - 1)) 2 s z2.2).1 33 16)) z3.2).1 33 19)) 0 20 ((mrgS (fun k => if k < 1 then 57 + k else 24 + (k - 1)) 2 (wrI (wrI (mrgS (fun k => if k < 1 then 56 + k else 23 + (k - 1)) 2 s z2.2) 0 15 ((mrgS (fun k => if k < 1 then 56 + k else 23 + (k - 1)) 2 s z2.2).1 33 15)) 0 16 ((mrgS (fun k => if k < 1 then 56 + k else 23 + (k - 1)) 2 s z2.2).1 33 16)) z3.2).1 33 20)) 0 21 ((mrgS (fun k => if k < 1 then 57 + k else 24 + (k - 1)) 2 (wrI (wrI (mrgS (fun k => if k < 1 then 56 + k else 23 + (k - 1)) 2 s z2.2) 0 15 ((mrgS (fun k => if k < 1 then 56 + k else 23 + (k - 1)) 2 s z2.2).1 33 15)) 0 16 ((mrgS (fun k => if k < 1 then 56 + k else 23 + (k - 1)) 2 s z2.2).1 33 16)) z3.2).1 33 21)) 0 22 ((mrgS (fun k => if k < 1 then 57 + k else 24 + (k - 1)) 2 (wrI (wrI (mrgS (fun k => if k < 1 then 56 + k else 23 + (k - 1)) 2 s z2.2) 0 15 ((mrgS (fun k => if k < 1 then 56 + k else 23 + (k - 1)) 2 s z2.2).1 33 15)) 0 16 ((mrgS (fun k => if k < 1 then 56 + k else 23 + (k - 1)) 2 s z2.2).1 33 16)) z3.2).1 33 22)))).bind fun z4 => ((fX6_copied4 (selS (fun k => if k < 1 then 59 + k else 26 + (k - 1)) (mrgS (fun k => if k < 1 then 58 + k else 25 + (k - 1)) 2 (wrI (wrI (wrI (wrI (wrI (mrgS (fun k => if k < 1 then 57 + k else 24 + (k - 1)) 2 (wrI (wrI (mrgS (fun k => if k < 1 then 56 + k else 23 + (k - 1)) 2 s z2.2) 0 15 ((mrgS (fun k => if k < 1 then 56 + k else 23 + (k - 1)) 2 s z2.2).1 33 15)) 0 16 ((mrgS (fun k => if k < 1 then 56 + k else 23 + (k - 1)) 2 s z2.2).1 33 16)) z3.2) 0 18 ((mrgS (fun k => if k < 1 then 57 + k else 24 + (k - 1)) 2 (wrI (wrI (mrgS (fun k => if k < 1 then 56 + k else 23 + (k - 1)) 2 s z2.2) 0 15 ((mrgS (fun k => if k < 1 then 56 + k else 23 + (k - 1)) 2 s z2.2).1 33 15)) 0 16 ((mrgS (fun k => if k < 1 then 56 + k else 23 + (k - 1)) 2 s z2.2).1 33 16)) z3.2).1 33 18)) 0 19 ((mrgS (fun k => if k < 1 then 57 + k else 24 + (k - 1)) 2 (wrI (wrI (mrgS (fun k => if k < 1 then 56 + k else 23 + (k - 1)) 2 s z2.2) 0 15 ((mrgS (fun k => if k < 1 then 56 + k else 23 + (k - 1)) 2 s z2.2).1 33 15)) 0 16 ((mrgS (fun k => if k < 1 then 56 + k else 23 + (k - 1)) 2 s z2.2).1 33 16)) z3.2).1 33 19)) 0 20 ((mrgS (fun k => if k < 1 then 57 + k else 24 + (k - 1)) 2 (wrI (wrI (mrgS (fun k => if k < 1 then 56 + k else 23 + (k - 1)) 2 s z2.2) 0 15 ((mrgS (fun k => if k < 1 then 56 + k else 23 + (k - 1)) 2 s z2.2).1 33 15)) 0 16 ((mrgS (fun k => if k < 1 then 56 + k else 23 + (k - 1)) 2 s z2.2).1 33 16)) z3.2).1 33 20)) 0 21 ((mrgS (fun k => if k < 1 then 57 + k else 24 + (k - 1)) 2 (wrI (wrI (mrgS (fun k => if k < 1 then 56 + k else 23 + (k - 1)) 2 s z2.2) 0 15 ((mrgS (fun k => if k < 1 then 56 + k else 23 + (k - 1)) 2 s z2.2).1 33 15)) 0 16 ((mrgS (fun k => if k < 1 then 56 + k else 23 + (k - 1)) 2 s z2.2).1 33 16)) z3.2).1 33 21)) 0 22 ((mrgS (fun k => if k < 1 then 57 + k else 24 + (k - 1)) 2 (wrI (wrI (mrgS (fun k => if k < 1 then 56 + k else 23 + (k - 1)) 2 s z2.2) 0 15 ((mrgS (fun k => if k < 1 then 56 + k else 23 + (k - 1)) 2 s z2.2).1 33 15)) 0 16 ((mrgS (fun k => if k < 1 then 56 + k else 23 + (k - 1)) 2 s z2.2).1 33 16)) z3.2).1 33 22)) z4.2))).bind fun z5 => ((fX6_copied20 (selS (fun k => if k < 1 then 60 + k else 27 + (k - 1)) (wrI (mrgS (fun k => if k < 1 then 59 + k else 26 + (k - 1)) 2 (mrgS (fun k => if k < 1 then 58 + k else 25 + (k - 1)) 2 (wrI (wrI (wrI (wrI (wrI (mrgS (fun k => if k < 1 then 57 + k else 24 + (k - 1)) 2 (wrI (wrI (mrgS (fun k => if k < 1 then 56 + k else 23 + (k - 1)) 2 s z2.2) 0 15 ((mrgS (fun k => if k < 1 then 56 + k else 23 + (k - 1)) 2 s z2.2).1 33 15)) 0 16 ((mrgS (fun k => if k < 1 then 56 + k else 23 + (k - 1)) 2 s z2.2).1 33 16)) z3.2) 0 18 ((mrgS (fun k => if k < 1 then 57 + k else 24 + (k - 1)) 2 (wrI (wrI (mrgS (fun k => if k < 1 then 56 + k else 23 + (k - 1)) 2 s z2.2) 0 15 ((mrgS (fun k => if k < 1 then 56 + k else 23 + (k - 1)) 2 s z2.2).1 33 15)) 0 16 ((mrgS (fun k => if k < 1 then 56 + k else 23 + (k - 1)) 2 s z2.2).1 33 16)) z3.2).1 33 18)) 0 19 ((mrgS (fun k => if k < 1 then 57 + k else 24 + (k - 1)) 2 (wrI (wrI (mrgS (fun k => if k < 1 then 56 + k else 23 + (k - 1)) 2 s z2.2) 0 15 ((mrgS (fun k => if k < 1 then 56 + k else 23 + (k - 1)) 2 s z2.2).1 33 15)) 0 16 ((mrgS (fun k => if k < 1 then 56 + k else 23 + (k - 1)) 2 s z2.2).1 33 16)) z3.2).1 33 19)) 0 20 ((mrgS (fun k => if k < 1 then 57 + k else 24 + (k - 1)) 2 (wrI (wrI (mrgS (fun k => if k < 1 then 56 + k else 23 + (k - 1)) 2 s z2.2) 0 15 ((mrgS (fun k => if k < 1 then 56 + k else 23 + (k - 1)) 2 s z2.2).1 33 15)) 0 16 ((mrgS (fun k => if k < 1 then 56 + k else 23 + (k - 1)) 2 s z2.2).1 33 16)) z3.2).1 33 20)) 0 21 ((mrgS (fun k => if k < 1 then 57 + k else 24 + (k - 1)) 2 (wrI (wrI (mrgS (fun k => if k < 1 then 56 + k else 23 + (k - 1)) 2 s z2.2) 0 15 ((mrgS (fun k => if k < 1 then 56 + k else 23 + (k - 1)) 2 s z2.2).1 33 15)) 0 16 ((mrgS (fun k => if k < 1 then 56 + k else 23 + (k - 1)) 2 s z2.2).1 33 16)) z3.2).1 33 21)) 0 22 ((mrgS (fun k => if k < 1 then 57 + k else 24 + (k - 1)) 2 (wrI (wrI (mrgS (fun k => if k < 1 then 56 + k else 23 + (k - 1)) 2 s z2.2) 0 15 ((mrgS (fun k => if k < 1 then 56 + k else 23 + (k - 1)) 2 s z2.2).1 33 15)) 0 16 ((mrgS (fun k => if k < 1 then 56 + k else 23 + (k - 1)) 2 s z2.2).1 33 16)) z3.2).1 33 22)) z4.2) z5.2) 0 25 ((mrgS (fun k => if k < 1 then 59 + k else 26 + (k - 1)) 2 (mrgS (fun k => if k < 1 then 58 + k else 25 + (k - 1)) 2 (wrI (wrI (wrI (wrI (wrI (mrgS (fun k => if k < 1 then 57 + k else 24 + (k - 1)) 2 (wrI (wrI (mrgS (fun k => if k < 1 then 56 + k else 23 + (k - 1)) 2 s z2.2) 0 15 ((mrgS (fun k => if k < 1 then 56 + k else 23 + (k - 1)) 2 s z2.2).1 33 15)) 0 16 ((mrgS (fun k => if k < 1 then 56 + k else 23 + (k - 1)) 2 s z2.2).1 33 16)) z3.2) 0 18 ((mrgS (fun k => if k < 1 then 57 + k else 24 + (k - 1)) 2 (wrI (wrI (mrgS (fun k => if k < 1 then 56 + k else 23 + (k - 1)) 2 s z2.2) 0 15 ((mrgS (fun k => if k < 1 then 56 + k else 23 + (k - 1)) 2 s z2.2).1 33 15)) 0 16 ((mrgS (fun k => if k < 1 then 56 + k else 23 + (k - 1)) 2 s z2.2).1 33 16)) z3.2).1 33 18)) 0 19 ((mrgS (fun k => if k < 1 then 57 + k else 24 + (k - 1)) 2 (wrI (wrI (mrgS (fun k => if k < 1 then 56 + k else 23 + (k - 1)) 2 s z2.2) 0 15 ((mrgS (fun k => if k < 1 then 56 + k else 23 + (k - 1)) 2 s z2.2).1 33 15)) 0 16 ((mrgS (fun k => if k < 1 then 56 + k else 23 + (k - 1)) 2 s z2.2).1 33 16)) z3.2).1 33 19)) 0 20 ((mrgS (fun k => if k < 1 then 57 + k else 24 + (k - 1)) 2 (wrI (wrI (mrgS (fun k => if k < 1 then 56 + k else 23 + (k - 1)) 2 s z2.2) 0 15 ((mrgS (fun k => if k < 1 then 56 + k else 23 + (k - 1)) 2 s z2.2).1 33 15)) 0 16 ((mrgS (fun k => if k < 1 then 56 + k else 23 + (k - 1)) 2 s z2.2).1 33 16)) z3.2).1 33 20)) 0 21 ((mrgS (fun k => if k < 1 then 57 + k else 24 + (k - 1)) 2 (wrI (wrI (mrgS (fun k => if k < 1 then 56 + k else 23 + (k - 1)) 2 s z2.2) 0 15 ((mrgS (fun k => if k < 1 then 56 + k else 23 + (k - 1)) 2 s z2.2).1 33 15)) 0 16 ((mrgS (fun k => if k < 1 then 56 + k else 23 + (k - 1)) 2 s z2.2).1 33 16)) z3.2).1 33 21)) 0 22 ((mrgS (fun k => if k < 1 then 57 + k else 24 + (k - 1)) 2 (wrI (wrI (mrgS (fun k => if k < 1 then 56 + k else 23 + (k - 1)) 2 s z2.2) 0 15 ((mrgS (fun k => if k < 1 then 56 + k else 23 + (k - 1)) 2 s z2.2).1 33 15)) 0 16 ((mrgS (fun k => if k < 1 then 56 + k else 23 + (k - 1)) 2 s z2.2).1 33 16)) z3.2).1 33 22)) z4.2) z5.2).1 33 25)))).bind fun z6 => some ((), wrI (mrgS (fun k => if k < 1 then 60 + k else 27 + (k - 1)) 2 (wrI (mrgS (fun k => if k < 1 then 59 + k else 26 + (k - 1)) 2 (mrgS (fun k => if k < 1 then 58 + k else 25 + (k - 1)) 2 (wrI (wrI (wrI (wrI (wrI (mrgS (fun k => if k < 1 then 57 + k else 24 + (k - 1)) 2 (wrI (wrI (mrgS (fun k => if k < 1 then 56 + k else 23 + (k - 1)) 2 s z2.2) 0 15 ((mrgS (fun k => if k < 1 then 56 + k else 23 + (k - 1)) 2 s z2.2).1 33 15)) 0 16 ((mrgS (fun k => if k < 1 then 56 + k else 23 + (k - 1)) 2 s z2.2).1 33 16)) z3.2) 0 18 ((mrgS (fun k => if k < 1 then 57 + k else 24 + (k - 1)) 2 (wrI (wrI (mrgS (fun k => if k < 1 then 56 + k else 23 + (k - 1)) 2 s z2.2) 0 15 ((mrgS (fun k => if k < 1 then 56 + k else 23 + (k - 1)) 2 s z2.2).1 33 15)) 0 16 ((mrgS (fun k => if k < 1 then 56 + k else 23 + (k - 1)) 2 s z2.2).1 33 16)) z3.2).1 33 18)) 0 19 ((mrgS (fun k => if k < 1 then 57 + k else 24 + (k - 1)) 2 (wrI (wrI (mrgS (fun k => if k < 1 then 56 + k else 23 + (k - 1)) 2 s z2.2) 0 15 ((mrgS (fun k => if k < 1 then 56 + k else 23 + (k - 1)) 2 s z2.2).1 33 15)) 0 16 ((mrgS (fun k => if k < 1 then 56 + k else 23 + (k - 1)) 2 s z2.2).1 33 16)) z3.2).1 33 19)) 0 20 ((mrgS (fun k => if k < 1 then 57 + k else 24 + (k - 1)) 2 (wrI (wrI (mrgS (fun k => if k < 1 then 56 + k else 23 + (k - 1)) 2 s z2.2) 0 15 ((mrgS (fun k => if k < 1 then 56 + k else 23 + (k - 1)) 2 s z2.2).1 33 15)) 0 16 ((mrgS (fun k => if k < 1 then 56 + k else 23 + (k - 1)) 2 s z2.2).1 33 16)) z3.2).1 33 20)) 0 21 ((mrgS (fun k => if k < 1 then 57 + k else 24 + (k - 1)) 2 (wrI (wrI (mrgS (fun k => if k < 1 then 56 + k else 23 + (k - 1)) 2 s z2.2) 0 15 ((mrgS (fun k => if k < 1 then 56 + k else 23 + (k - 1)) 2 s z2.2).1 33 15)) 0 16 ((mrgS (fun k => if k < 1 then 56 + k else 23 + (k - 1)) 2 s z2.2).1 33 16)) z3.2).1 33 21)) 0 22 ((mrgS (fun k => if k < 1 then 57 + k else 24 + (k - 1)) 2 (wrI (wrI (mrgS (fun k => if k < 1 then 56 + k else 23 + (k - 1)) 2 s z2.2) 0 15 ((mrgS (fun k => if k < 1 then 56 + k else 23 + (k - 1)) 2 s z2.2).1 33 15)) 0 16 ((mrgS (fun k => if k < 1 then 56 + k else 23 + (k - 1)) 2 s z2.2).1 33 16)) z3.2).1 33 22)) z4.2) z5.2) 0 25 ((mrgS (fun k => if k < 1 then 59 + k else 26 + (k - 1)) 2 (mrgS (fun k => if k < 1 then 58 + k else 25 + (k - 1)) 2 (wrI (wrI (wrI (wrI (wrI (mrgS (fun k => if k < 1 then 57 + k else 24 + (k - 1)) 2 (wrI (wrI (mrgS (fun k => if k < 1 then 56 + k else 23 + (k - 1)) 2 s z2.2) 0 15 ((mrgS (fun k => if k < 1 then 56 + k else 23 + (k - 1)) 2 s z2.2).1 33 15)) 0 16 ((mrgS (fun k => if k < 1 then 56 + k else 23 + (k - 1)) 2 s z2.2).1 33 16)) z3.2) 0 18 ((mrgS (fun k => if k < 1 then 57 + k else 24 + (k - 1)) 2 (wrI (wrI (mrgS (fun k => if k < 1 then 56 + k else 23 + (k - 1)) 2 s z2.2) 0 15 ((mrgS (fun k => if k < 1 then 56 + k else 23 + (k - 1)) 2 s z2.2).1 33 15)) 0 16 ((mrgS (fun k => if k < 1 then 56 + k else 23 + (k - 1)) 2 s z2.2).1 33 16)) z3.2).1 33 18)) 0 19 ((mrgS (fun k => if k < 1 then 57 + k else 24 + (k - 1)) 2 (wrI (wrI (mrgS (fun k => if k < 1 then 56 + k else 23 + (k - 1)) 2 s z2.2) 0 15 ((mrgS (fun k => if k < 1 then 56 + k else 23 + (k - 1)) 2 s z2.2).1 33 15)) 0 16 ((mrgS (fun k => if k < 1 then 56 + k else 23 + (k - 1)) 2 s z2.2).1 33 16)) z3.2).1 33 19)) 0 20 ((mrgS (fun k => if k < 1 then 57 + k else 24 + (k - 1)) 2 (wrI (wrI (mrgS (fun k => if k < 1 then 56 + k else 23 + (k - 1)) 2 s z2.2) 0 15 ((mrgS (fun k => if k < 1 then 56 + k else 23 + (k - 1)) 2 s z2.2).1 33 15)) 0 16 ((mrgS (fun k => if k < 1 then 56 + k else 23 + (k - 1)) 2 s z2.2).1 33 16)) z3.2).1 33 20)) 0 21 ((mrgS (fun k => if k < 1 then 57 + k else 24 + (k - 1)) 2 (wrI (wrI (mrgS (fun k => if k < 1 then 56 + k else 23 + (k - 1)) 2 s z2.2) 0 15 ((mrgS (fun k => if k < 1 then 56 + k else 23 + (k - 1)) 2 s z2.2).1 33 15)) 0 16 ((mrgS (fun k => if k < 1 then 56 + k else 23 + (k - 1)) 2 s z2.2).1 33 16)) z3.2).1 33 21)) 0 22 ((mrgS (fun k => if k < 1 then 57 + k else 24 + (k - 1)) 2 (wrI (wrI (mrgS (fun k => if k < 1 then 56 + k else 23 + (k - 1)) 2 s z2.2) 0 15 ((mrgS (fun k => if k < 1 then 56 + k else 23 + (k - 1)) 2 s z2.2).1 33 15)) 0 16 ((mrgS (fun k => if k < 1 then 56 + k else 23 + (k - 1)) 2 s z2.2).1 33 16)) z3.2).1 33 22)) z4.2) z5.2).1 33 25)) z6.2) 0 27 ((mrgS (fun k => if k < 1 then 60 + k else 27 + (k - 1)) 2 (wrI (mrgS (fun k => if k < 1 then 59 + k else 26 + (k - 1)) 2 (mrgS (fun k => if k < 1 then 58 + k else 25 + (k - 1)) 2 (wrI (wrI (wrI (wrI (wrI (mrgS (fun k => if k < 1 then 57 + k else 24 + (k - 1)) 2 (wrI (wrI (mrgS (fun k => if k < 1 then 56 + k else 23 + (k - 1)) 2 s z2.2) 0 15 ((mrgS (fun k => if k < 1 then 56 + k else 23 + (k - 1)) 2 s z2.2).1 33 15)) 0 16 ((mrgS (fun k => if k < 1 then 56 + k else 23 + (k - 1)) 2 s z2.2).1 33 16)) z3.2) 0 18 ((mrgS (fun k => if k < 1 then 57 + k else 24 + (k - 1)) 2 (wrI (wrI (mrgS (fun k => if k < 1 then 56 + k else 23 + (k - 1)) 2 s z2.2) 0 15 ((mrgS (fun k => if k < 1 then 56 + k else 23 + (k - 1)) 2 s z2.2).1 33 15)) 0 16 ((mrgS (fun k => if k < 1 then 56 + k else 23 + (k - 1)) 2 s z2.2).1 33 16)) z3.2).1 33 18)) 0 19 ((mrgS (fun k => if k < 1 then 57 + k else 24 + (k - 1)) 2 (wrI (wrI (mrgS (fun k => if k < 1 then 56 + k else 23 + (k - 1)) 2 s z2.2) 0 15 ((mrgS (fun k => if k < 1 then 56 + k else 23 + (k - 1)) 2 s z2.2).1 33 15)) 0 16 ((mrgS (fun k => if k < 1 then 56 + k else 23 + (k - 1)) 2 s z2.2).1 33 16)) z3.2).1 33 19)) 0 20 ((mrgS (fun k => if k < 1 then 57 + k else 24 + (k - 1)) 2 (wrI (wrI (mrgS (fun k => if k < 1 then 56 + k else 23 + (k - 1)) 2 s z2.2) 0 15 ((mrgS (fun k => if k < 1 then 56 + k else 23 + (k - 1)) 2 s z2.2).1 33 15)) 0 16 ((mrgS (fun k => if k < 1 then 56 + k else 23 + (k - 1)) 2 s z2.2).1 33 16)) z3.2).1 33 20)) 0 21 ((mrgS (fun k => if k < 1 then 57 + k else 24 + (k - 1)) 2 (wrI (wrI (mrgS (fun k => if k < 1 then 56 + k else 23 + (k - 1)) 2 s z2.2) 0 15 ((mrgS (fun k => if k < 1 then 56 + k else 23 + (k - 1)) 2 s z2.2).1 33 15)) 0 16 ((mrgS (fun k => if k < 1 then 56 + k else 23 + (k - 1)) 2 s z2.2).1 33 16)) z3.2).1 33 21)) 0 22 ((mrgS (fun k => if k < 1 then 57 + k else 24 + (k - 1)) 2 (wrI (wrI (mrgS (fun k => if k < 1 then 56 + k else 23 + (k - 1)) 2 s z2.2) 0 15 ((mrgS (fun k => if k < 1 then 56 + k else 23 + (k - 1)) 2 s z2.2).1 33 15)) 0 16 ((mrgS (fun k => if k < 1 then 56 + k else 23 + (k - 1)) 2 s z2.2).1 33 16)) z3.2).1 33 22)) z4.2) z5.2) 0 25 ((mrgS (fun k => if k < 1 then 59 + k else 26 + (k - 1)) 2 (mrgS (fun k => if k < 1 then 58 + k else 25 + (k - 1)) 2 (wrI (wrI (wrI (wrI (wrI (mrgS (fun k => if k < 1 then 57 + k else 24 + (k - 1)) 2 (wrI (wrI (mrgS (fun k => if k < 1 then 56 + k else 23 + (k - 1)) 2 s z2.2) 0 15 ((mrgS (fun k => if k < 1 then 56 + k else 23 + (k - 1)) 2 s z2.2).1 33 15)) 0 16 ((mrgS (fun k => if k < 1 then 56 + k else 23 + (k - 1)) 2 s z2.2).1 33 16)) z3.2) 0 18 ((mrgS (fun k => if k < 1 then 57 + k else 24 + (k - 1)) 2 (wrI (wrI (mrgS (fun k => if k < 1 then 56 + k else 23 + (k - 1)) 2 s z2.2) 0 15 ((mrgS (fun k => if k < 1 then 56 + k else 23 + (k - 1)) 2 s z2.2).1 33 15)) 0 16 ((mrgS (fun k => if k < 1 then 56 + k else 23 + (k - 1)) 2 s z2.2).1 33 16)) z3.2).1 33 18)) 0 19 ((mrgS (fun k => if k < 1 then 57 + k else 24 + (k - 1)) 2 (wrI (wrI (mrgS (fun k => if k < 1 then 56 + k else 23 + (k - 1)) 2 s z2.2) 0 15 ((mrgS (fun k => if k < 1 then 56 + k else 23 + (k - 1)) 2 s z2.2).1 33 15)) 0 16 ((mrgS (fun k => if k < 1 then 56 + k else 23 + (k - 1)) 2 s z2.2).1 33 16)) z3.2).1 33 19)) 0 20 ((mrgS (fun k => if k < 1 then 57 + k else 24 + (k - 1)) 2 (wrI (wrI (mrgS (fun k => if k < 1 then 56 + k else 23 + (k - 1)) 2 s z2.2) 0 15 ((mrgS (fun k => if k < 1 then 56 + k else 23 + (k - 1)) 2 s z2.2).1 33 15)) 0 16 ((mrgS (fun k => if k < 1 then 56 + k else 23 + (k - 1)) 2 s z2.2).1 33 16)) z3.2).1 33 20)) 0 21 ((mrgS (fun k => if k < 1 then 57 + k else 24 + (k - 1)) 2 (wrI (wrI (mrgS (fun k => if k < 1 then 56 + k else 23 + (k - 1)) 2 s z2.2) 0 15 ((mrgS (fun k => if k < 1 then 56 + k else 23 + (k - 1)) 2 s z2.2).1 33 15)) 0 16 ((mrgS (fun k => if k < 1 then 56 + k else 23 + (k - 1)) 2 s z2.2).1 33 16)) z3.2).1 33 21)) 0 22 ((mrgS (fun k => if k < 1 then 57 + k else 24 + (k - 1)) 2 (wrI (wrI (mrgS (fun k => if k < 1 then 56 + k else 23 + (k - 1)) 2 s z2.2) 0 15 ((mrgS (fun k => if k < 1 then 56 + k else 23 + (k - 1)) 2 s z2.2).1 33 15)) 0 16 ((mrgS (fun k => if k < 1 then 56 + k else 23 + (k - 1)) 2 s z2.2).1 33 16)) z3.2).1 33 22)) z4.2) z5.2).1 33 25)) z6.2).1 33 27)))))))) else (if ixB x2 3 then (if ixB x2 3 then (((fX6_copied8 (selS (fun k => if k < 1 then 53 + x2.toNatClampNeg + k else 20 + x2.toNatClampNeg + (k - 1)) s)).bind fun z9 => fX6_takeFrom_40 n (x2 + (1 : Int32)) (mrgS (fun k => if k < 1 then 53 + x2.toNatClampNeg + k else 20 + x2.toNatClampNeg + (k - 1)) 2 s z9.2))) else none) else none)
def fX6_takeFrom_0 (s : SS) : Option (Unit × SS) := ((fX6_copied3 (selS (fun k => if k < 1 then 50 + k else 17 + (k - 1)) (wrI (wrI s 0 9 (s.1 33 9)) 0 10 (s.1 33 10)))).bind fun z1 => ((fX6_copied3 (selS (fun k => if k < 1 then 51 + k else 18 + (k - 1)) (mrgS (fun k => if k < 1 then 50 + k else 17 + (k - 1)) 2 (wrI (wrI s 0 9 (s.1 33 9)) 0 10 (s.1 33 10)) z1.2))).bind fun z2 => fX6_takeFrom_40 FU (0 : Int32) (mrgS (fun k => if k < 1 then 51 + k else 18 + (k - 1)) 2 (mrgS (fun k => if k < 1 then 50 + k else 17 + (k - 1)) 2 (wrI (wrI s 0 9 (s.1 33 9)) 0 10 (s.1 33 10)) z1.2) z2.2)))
def fX6_takeFrom (s : SS) : Option (Unit × SS) := fX6_takeFrom_0 s
set_option maxRecDepth 100000 in
set_option maxHeartbeats 4000000 in
theorem okX6_takeFrom_40 {G : GG} {pl : Nat → Nat} {h0 : PH} : ∀ (n : Nat) (x2 : Int32) (s : SS), EvF G 1 mX6_takeFrom lyRR pl h0 rvU (fX6_takeFrom_40 n x2 s) 40 [(0, .ref (pl 0)), (1, .ref (pl 33)), (2, .int x2)] [] s := by
  intro n
  induction n with
  | zero => intro x2 s; rw [fX6_takeFrom_40]; exact ef_none
  | succ n ih =>
    intro x2 s
    rw [fX6_takeFrom_40]
    refine ef_iload_n (q := 41) 2 dX6_takeFrom_40 rfl rfl rfl ?_
    refine ef_iconst (v := (3 : Int32)) (q := 42) dX6_takeFrom_41 (by decide) rfl ?_
    refine ef_if (pt := 66) (pf := 45) (fun _ _ => ev_icmp_ge (tgt := 66) dX6_takeFrom_42 (by decide)) (fun h1 => ?_) (fun h1 => ?_)
    · refine ef_aload_n (q := 67) 1 dX6_takeFrom_66 rfl rfl rfl ?_
      refine ef_getR (t := 56) (q := 70) rfl fl6_52 rfl rfl dX6_takeFrom_67 rfl ?_
      refine ef_aload_n (q := 71) 0 dX6_takeFrom_70 rfl rfl rfl ?_
      refine ef_getR (t := 23) (q := 74) rfl fl6_52 rfl rfl dX6_takeFrom_71 rfl ?_
      refine ef_invSU (nn := 2) (π := (fun k => if k < 1 then 56 + k else 23 + (k - 1))) (As := [.ref (pl 56), .ref (pl 23)]) (rest := []) (q := 77) (okX6_copied8) (by decide +kernel) rfl calX6_copied ml6_353 (by decide) rfl rfl (Nat.le_of_ble_eq_true rfl) dX6_takeFrom_74 rfl rfl (fun z2 => ?_)
      refine ef_aload_n (q := 78) 0 dX6_takeFrom_77 rfl rfl rfl ?_
      refine ef_aload_n (q := 79) 1 dX6_takeFrom_78 rfl rfl rfl ?_
      refine ef_getI (x := (mrgS (fun k => if k < 1 then 56 + k else 23 + (k - 1)) 2 s z2.2).1 33 15) (q := 82) rfl fl6_126 rfl rfl dX6_takeFrom_79 rfl ?_
      refine ef_putI (q := 85) rfl fl6_126 rfl rfl dX6_takeFrom_82 rfl ?_
      refine ef_aload_n (q := 86) 0 dX6_takeFrom_85 rfl rfl rfl ?_
      refine ef_aload_n (q := 87) 1 dX6_takeFrom_86 rfl rfl rfl ?_
      refine ef_getI (x := (mrgS (fun k => if k < 1 then 56 + k else 23 + (k - 1)) 2 s z2.2).1 33 16) (q := 90) rfl fl6_129 rfl rfl dX6_takeFrom_87 rfl ?_
      refine ef_putI (q := 93) rfl fl6_129 rfl rfl dX6_takeFrom_90 rfl ?_
      refine ef_aload_n (q := 94) 1 dX6_takeFrom_93 rfl rfl rfl ?_
      refine ef_getR (t := 57) (q := 97) rfl fl6_55 rfl rfl dX6_takeFrom_94 rfl ?_
      refine ef_aload_n (q := 98) 0 dX6_takeFrom_97 rfl rfl rfl ?_
      refine ef_getR (t := 24) (q := 101) rfl fl6_55 rfl rfl dX6_takeFrom_98 rfl ?_
      refine ef_invSU (nn := 2) (π := (fun k => if k < 1 then 57 + k else 24 + (k - 1))) (As := [.ref (pl 57), .ref (pl 24)]) (rest := []) (q := 104) (okX6_copied4) (by decide +kernel) rfl calX6_copied ml6_353 (by decide) rfl rfl (Nat.le_of_ble_eq_true rfl) dX6_takeFrom_101 rfl rfl (fun z3 => ?_)
      refine ef_aload_n (q := 105) 0 dX6_takeFrom_104 rfl rfl rfl ?_
      refine ef_aload_n (q := 106) 1 dX6_takeFrom_105 rfl rfl rfl ?_
      refine ef_getI (x := (mrgS (fun k => if k < 1 then 57 + k else 24 + (k - 1)) 2 (wrI (wrI (mrgS (fun k => if k < 1 then 56 + k else 23 + (k - 1)) 2 s z2.2) 0 15 ((mrgS (fun k => if k < 1 then 56 + k else 23 + (k - 1)) 2 s z2.2).1 33 15)) 0 16 ((mrgS (fun k => if k < 1 then 56 + k else 23 + (k - 1)) 2 s z2.2).1 33 16)) z3.2).1 33 18) (q := 109) rfl fl6_289 rfl rfl dX6_takeFrom_106 rfl ?_
      refine ef_putI (q := 112) rfl fl6_289 rfl rfl dX6_takeFrom_109 rfl ?_
      refine ef_aload_n (q := 113) 0 dX6_takeFrom_112 rfl rfl rfl ?_
      refine ef_aload_n (q := 114) 1 dX6_takeFrom_113 rfl rfl rfl ?_
      refine ef_getI (x := (mrgS (fun k => if k < 1 then 57 + k else 24 + (k - 1)) 2 (wrI (wrI (mrgS (fun k => if k < 1 then 56 + k else 23 + (k - 1)) 2 s z2.2) 0 15 ((mrgS (fun k => if k < 1 then 56 + k else 23 + (k - 1)) 2 s z2.2).1 33 15)) 0 16 ((mrgS (fun k => if k < 1 then 56 + k else 23 + (k - 1)) 2 s z2.2).1 33 16)) z3.2).1 33 19) (q := 117) rfl fl6_283 rfl rfl dX6_takeFrom_114 rfl ?_
      refine ef_putI (q := 120) rfl fl6_283 rfl rfl dX6_takeFrom_117 rfl ?_
      refine ef_aload_n (q := 121) 0 dX6_takeFrom_120 rfl rfl rfl ?_
      refine ef_aload_n (q := 122) 1 dX6_takeFrom_121 rfl rfl rfl ?_
      refine ef_getI (x := (mrgS (fun k => if k < 1 then 57 + k else 24 + (k - 1)) 2 (wrI (wrI (mrgS (fun k => if k < 1 then 56 + k else 23 + (k - 1)) 2 s z2.2) 0 15 ((mrgS (fun k => if k < 1 then 56 + k else 23 + (k - 1)) 2 s z2.2).1 33 15)) 0 16 ((mrgS (fun k => if k < 1 then 56 + k else 23 + (k - 1)) 2 s z2.2).1 33 16)) z3.2).1 33 20) (q := 125) rfl fl6_274 rfl rfl dX6_takeFrom_122 rfl ?_
      refine ef_putI (q := 128) rfl fl6_274 rfl rfl dX6_takeFrom_125 rfl ?_
      refine ef_aload_n (q := 129) 0 dX6_takeFrom_128 rfl rfl rfl ?_
      refine ef_aload_n (q := 130) 1 dX6_takeFrom_129 rfl rfl rfl ?_
      refine ef_getI (x := (mrgS (fun k => if k < 1 then 57 + k else 24 + (k - 1)) 2 (wrI (wrI (mrgS (fun k => if k < 1 then 56 + k else 23 + (k - 1)) 2 s z2.2) 0 15 ((mrgS (fun k => if k < 1 then 56 + k else 23 + (k - 1)) 2 s z2.2).1 33 15)) 0 16 ((mrgS (fun k => if k < 1 then 56 + k else 23 + (k - 1)) 2 s z2.2).1 33 16)) z3.2).1 33 21) (q := 133) rfl fl6_286 rfl rfl dX6_takeFrom_130 rfl ?_
      refine ef_putI (q := 136) rfl fl6_286 rfl rfl dX6_takeFrom_133 rfl ?_
      refine ef_aload_n (q := 137) 0 dX6_takeFrom_136 rfl rfl rfl ?_
      refine ef_aload_n (q := 138) 1 dX6_takeFrom_137 rfl rfl rfl ?_
      refine ef_getI (x := (mrgS (fun k => if k < 1 then 57 + k else 24 + (k - 1)) 2 (wrI (wrI (mrgS (fun k => if k < 1 then 56 + k else 23 + (k - 1)) 2 s z2.2) 0 15 ((mrgS (fun k => if k < 1 then 56 + k else 23 + (k - 1)) 2 s z2.2).1 33 15)) 0 16 ((mrgS (fun k => if k < 1 then 56 + k else 23 + (k - 1)) 2 s z2.2).1 33 16)) z3.2).1 33 22) (q := 141) rfl fl6_86 rfl rfl dX6_takeFrom_138 rfl ?_
      refine ef_putI (q := 144) rfl fl6_86 rfl rfl dX6_takeFrom_141 rfl ?_
      refine ef_aload_n (q := 145) 1 dX6_takeFrom_144 rfl rfl rfl ?_
      refine ef_getR (t := 58) (q := 148) rfl fl6_58 rfl rfl dX6_takeFrom_145 rfl ?_
      refine ef_aload_n (q := 149) 0 dX6_takeFrom_148 rfl rfl rfl ?_
      refine ef_getR (t := 25) (q := 152) rfl fl6_58 rfl rfl dX6_takeFrom_149 rfl ?_
      refine ef_invSU (nn := 2) (π := (fun k => if k < 1 then 58 + k else 25 + (k - 1))) (As := [.ref (pl 58), .ref (pl 25)]) (rest := []) (q := 155) (okX6_copied4) (by decide +kernel) rfl calX6_copied ml6_353 (by decide) rfl rfl (Nat.le_of_ble_eq_true rfl) dX6_takeFrom_152 rfl rfl (fun z4 => ?_)
      refine ef_aload_n (q := 156) 1 dX6_takeFrom_155 rfl rfl rfl ?_
      refine ef_getR (t := 59) (q := 159) rfl fl6_61 rfl rfl dX6_takeFrom_156 rfl ?_
      refine ef_aload_n (q := 160) 0 dX6_takeFrom_159 rfl rfl rfl ?_
      refine ef_getR (t := 26) (q := 163) rfl fl6_61 rfl rfl dX6_takeFrom_160 rfl ?_
      refine ef_invSU (nn := 2) (π := (fun k => if k < 1 then 59 + k else 26 + (k - 1))) (As := [.ref (pl 59), .ref (pl 26)]) (rest := []) (q := 166) (okX6_copied4) (by decide +kernel) rfl calX6_copied ml6_353 (by decide) rfl rfl (Nat.le_of_ble_eq_true rfl) dX6_takeFrom_163 rfl rfl (fun z5 => ?_)
      refine ef_aload_n (q := 167) 0 dX6_takeFrom_166 rfl rfl rfl ?_
      refine ef_aload_n (q := 168) 1 dX6_takeFrom_167 rfl rfl rfl ?_
      refine ef_getI (x := (mrgS (fun k => if k < 1 then 59 + k else 26 + (k - 1)) 2 (mrgS (fun k => if k < 1 then 58 + k else 25 + (k - 1)) 2 (wrI (wrI (wrI (wrI (wrI (mrgS (fun k => if k < 1 then 57 + k else 24 + (k - 1)) 2 (wrI (wrI (mrgS (fun k => if k < 1 then 56 + k else 23 + (k - 1)) 2 s z2.2) 0 15 ((mrgS (fun k => if k < 1 then 56 + k else 23 + (k - 1)) 2 s z2.2).1 33 15)) 0 16 ((mrgS (fun k => if k < 1 then 56 + k else 23 + (k - 1)) 2 s z2.2).1 33 16)) z3.2) 0 18 ((mrgS (fun k => if k < 1 then 57 + k else 24 + (k - 1)) 2 (wrI (wrI (mrgS (fun k => if k < 1 then 56 + k else 23 + (k - 1)) 2 s z2.2) 0 15 ((mrgS (fun k => if k < 1 then 56 + k else 23 + (k - 1)) 2 s z2.2).1 33 15)) 0 16 ((mrgS (fun k => if k < 1 then 56 + k else 23 + (k - 1)) 2 s z2.2).1 33 16)) z3.2).1 33 18)) 0 19 ((mrgS (fun k => if k < 1 then 57 + k else 24 + (k - 1)) 2 (wrI (wrI (mrgS (fun k => if k < 1 then 56 + k else 23 + (k - 1)) 2 s z2.2) 0 15 ((mrgS (fun k => if k < 1 then 56 + k else 23 + (k - 1)) 2 s z2.2).1 33 15)) 0 16 ((mrgS (fun k => if k < 1 then 56 + k else 23 + (k - 1)) 2 s z2.2).1 33 16)) z3.2).1 33 19)) 0 20 ((mrgS (fun k => if k < 1 then 57 + k else 24 + (k - 1)) 2 (wrI (wrI (mrgS (fun k => if k < 1 then 56 + k else 23 + (k - 1)) 2 s z2.2) 0 15 ((mrgS (fun k => if k < 1 then 56 + k else 23 + (k - 1)) 2 s z2.2).1 33 15)) 0 16 ((mrgS (fun k => if k < 1 then 56 + k else 23 + (k - 1)) 2 s z2.2).1 33 16)) z3.2).1 33 20)) 0 21 ((mrgS (fun k => if k < 1 then 57 + k else 24 + (k - 1)) 2 (wrI (wrI (mrgS (fun k => if k < 1 then 56 + k else 23 + (k - 1)) 2 s z2.2) 0 15 ((mrgS (fun k => if k < 1 then 56 + k else 23 + (k - 1)) 2 s z2.2).1 33 15)) 0 16 ((mrgS (fun k => if k < 1 then 56 + k else 23 + (k - 1)) 2 s z2.2).1 33 16)) z3.2).1 33 21)) 0 22 ((mrgS (fun k => if k < 1 then 57 + k else 24 + (k - 1)) 2 (wrI (wrI (mrgS (fun k => if k < 1 then 56 + k else 23 + (k - 1)) 2 s z2.2) 0 15 ((mrgS (fun k => if k < 1 then 56 + k else 23 + (k - 1)) 2 s z2.2).1 33 15)) 0 16 ((mrgS (fun k => if k < 1 then 56 + k else 23 + (k - 1)) 2 s z2.2).1 33 16)) z3.2).1 33 22)) z4.2) z5.2).1 33 25) (q := 171) rfl fl6_292 rfl rfl dX6_takeFrom_168 rfl ?_
      refine ef_putI (q := 174) rfl fl6_292 rfl rfl dX6_takeFrom_171 rfl ?_
      refine ef_aload_n (q := 175) 1 dX6_takeFrom_174 rfl rfl rfl ?_
      refine ef_getR (t := 60) (q := 178) rfl fl6_64 rfl rfl dX6_takeFrom_175 rfl ?_
      refine ef_aload_n (q := 179) 0 dX6_takeFrom_178 rfl rfl rfl ?_
      refine ef_getR (t := 27) (q := 182) rfl fl6_64 rfl rfl dX6_takeFrom_179 rfl ?_
      refine ef_invSU (nn := 2) (π := (fun k => if k < 1 then 60 + k else 27 + (k - 1))) (As := [.ref (pl 60), .ref (pl 27)]) (rest := []) (q := 185) (okX6_copied20) (by decide +kernel) rfl calX6_copied ml6_353 (by decide) rfl rfl (Nat.le_of_ble_eq_true rfl) dX6_takeFrom_182 rfl rfl (fun z6 => ?_)
      refine ef_aload_n (q := 186) 0 dX6_takeFrom_185 rfl rfl rfl ?_
      refine ef_aload_n (q := 187) 1 dX6_takeFrom_186 rfl rfl rfl ?_
      refine ef_getI (x := (mrgS (fun k => if k < 1 then 60 + k else 27 + (k - 1)) 2 (wrI (mrgS (fun k => if k < 1 then 59 + k else 26 + (k - 1)) 2 (mrgS (fun k => if k < 1 then 58 + k else 25 + (k - 1)) 2 (wrI (wrI (wrI (wrI (wrI (mrgS (fun k => if k < 1 then 57 + k else 24 + (k - 1)) 2 (wrI (wrI (mrgS (fun k => if k < 1 then 56 + k else 23 + (k - 1)) 2 s z2.2) 0 15 ((mrgS (fun k => if k < 1 then 56 + k else 23 + (k - 1)) 2 s z2.2).1 33 15)) 0 16 ((mrgS (fun k => if k < 1 then 56 + k else 23 + (k - 1)) 2 s z2.2).1 33 16)) z3.2) 0 18 ((mrgS (fun k => if k < 1 then 57 + k else 24 + (k - 1)) 2 (wrI (wrI (mrgS (fun k => if k < 1 then 56 + k else 23 + (k - 1)) 2 s z2.2) 0 15 ((mrgS (fun k => if k < 1 then 56 + k else 23 + (k - 1)) 2 s z2.2).1 33 15)) 0 16 ((mrgS (fun k => if k < 1 then 56 + k else 23 + (k - 1)) 2 s z2.2).1 33 16)) z3.2).1 33 18)) 0 19 ((mrgS (fun k => if k < 1 then 57 + k else 24 + (k - 1)) 2 (wrI (wrI (mrgS (fun k => if k < 1 then 56 + k else 23 + (k - 1)) 2 s z2.2) 0 15 ((mrgS (fun k => if k < 1 then 56 + k else 23 + (k - 1)) 2 s z2.2).1 33 15)) 0 16 ((mrgS (fun k => if k < 1 then 56 + k else 23 + (k - 1)) 2 s z2.2).1 33 16)) z3.2).1 33 19)) 0 20 ((mrgS (fun k => if k < 1 then 57 + k else 24 + (k - 1)) 2 (wrI (wrI (mrgS (fun k => if k < 1 then 56 + k else 23 + (k - 1)) 2 s z2.2) 0 15 ((mrgS (fun k => if k < 1 then 56 + k else 23 + (k - 1)) 2 s z2.2).1 33 15)) 0 16 ((mrgS (fun k => if k < 1 then 56 + k else 23 + (k - 1)) 2 s z2.2).1 33 16)) z3.2).1 33 20)) 0 21 ((mrgS (fun k => if k < 1 then 57 + k else 24 + (k - 1)) 2 (wrI (wrI (mrgS (fun k => if k < 1 then 56 + k else 23 + (k - 1)) 2 s z2.2) 0 15 ((mrgS (fun k => if k < 1 then 56 + k else 23 + (k - 1)) 2 s z2.2).1 33 15)) 0 16 ((mrgS (fun k => if k < 1 then 56 + k else 23 + (k - 1)) 2 s z2.2).1 33 16)) z3.2).1 33 21)) 0 22 ((mrgS (fun k => if k < 1 then 57 + k else 24 + (k - 1)) 2 (wrI (wrI (mrgS (fun k => if k < 1 then 56 + k else 23 + (k - 1)) 2 s z2.2) 0 15 ((mrgS (fun k => if k < 1 then 56 + k else 23 + (k - 1)) 2 s z2.2).1 33 15)) 0 16 ((mrgS (fun k => if k < 1 then 56 + k else 23 + (k - 1)) 2 s z2.2).1 33 16)) z3.2).1 33 22)) z4.2) z5.2) 0 25 ((mrgS (fun k => if k < 1 then 59 + k else 26 + (k - 1)) 2 (mrgS (fun k => if k < 1 then 58 + k else 25 + (k - 1)) 2 (wrI (wrI (wrI (wrI (wrI (mrgS (fun k => if k < 1 then 57 + k else 24 + (k - 1)) 2 (wrI (wrI (mrgS (fun k => if k < 1 then 56 + k else 23 + (k - 1)) 2 s z2.2) 0 15 ((mrgS (fun k => if k < 1 then 56 + k else 23 + (k - 1)) 2 s z2.2).1 33 15)) 0 16 ((mrgS (fun k => if k < 1 then 56 + k else 23 + (k - 1)) 2 s z2.2).1 33 16)) z3.2) 0 18 ((mrgS (fun k => if k < 1 then 57 + k else 24 + (k - 1)) 2 (wrI (wrI (mrgS (fun k => if k < 1 then 56 + k else 23 + (k - 1)) 2 s z2.2) 0 15 ((mrgS (fun k => if k < 1 then 56 + k else 23 + (k - 1)) 2 s z2.2).1 33 15)) 0 16 ((mrgS (fun k => if k < 1 then 56 + k else 23 + (k - 1)) 2 s z2.2).1 33 16)) z3.2).1 33 18)) 0 19 ((mrgS (fun k => if k < 1 then 57 + k else 24 + (k - 1)) 2 (wrI (wrI (mrgS (fun k => if k < 1 then 56 + k else 23 + (k - 1)) 2 s z2.2) 0 15 ((mrgS (fun k => if k < 1 then 56 + k else 23 + (k - 1)) 2 s z2.2).1 33 15)) 0 16 ((mrgS (fun k => if k < 1 then 56 + k else 23 + (k - 1)) 2 s z2.2).1 33 16)) z3.2).1 33 19)) 0 20 ((mrgS (fun k => if k < 1 then 57 + k else 24 + (k - 1)) 2 (wrI (wrI (mrgS (fun k => if k < 1 then 56 + k else 23 + (k - 1)) 2 s z2.2) 0 15 ((mrgS (fun k => if k < 1 then 56 + k else 23 + (k - 1)) 2 s z2.2).1 33 15)) 0 16 ((mrgS (fun k => if k < 1 then 56 + k else 23 + (k - 1)) 2 s z2.2).1 33 16)) z3.2).1 33 20)) 0 21 ((mrgS (fun k => if k < 1 then 57 + k else 24 + (k - 1)) 2 (wrI (wrI (mrgS (fun k => if k < 1 then 56 + k else 23 + (k - 1)) 2 s z2.2) 0 15 ((mrgS (fun k => if k < 1 then 56 + k else 23 + (k - 1)) 2 s z2.2).1 33 15)) 0 16 ((mrgS (fun k => if k < 1 then 56 + k else 23 + (k - 1)) 2 s z2.2).1 33 16)) z3.2).1 33 21)) 0 22 ((mrgS (fun k => if k < 1 then 57 + k else 24 + (k - 1)) 2 (wrI (wrI (mrgS (fun k => if k < 1 then 56 + k else 23 + (k - 1)) 2 s z2.2) 0 15 ((mrgS (fun k => if k < 1 then 56 + k else 23 + (k - 1)) 2 s z2.2).1 33 15)) 0 16 ((mrgS (fun k => if k < 1 then 56 + k else 23 + (k - 1)) 2 s z2.2).1 33 16)) z3.2).1 33 22)) z4.2) z5.2).1 33 25)) z6.2).1 33 27) (q := 190) rfl fl6_67 rfl rfl dX6_takeFrom_187 rfl ?_
      refine ef_putI (q := 193) rfl fl6_67 rfl rfl dX6_takeFrom_190 rfl ?_
      exact ef_vret rfl dX6_takeFrom_193
    · refine ef_aload_n (q := 46) 1 dX6_takeFrom_45 rfl rfl rfl ?_
      refine ef_getR (t := 52) (q := 49) rfl fl6_49 rfl rfl dX6_takeFrom_46 rfl ?_
      refine ef_iload_n (q := 50) 2 dX6_takeFrom_49 rfl rfl rfl ?_
      refine ef_guard (fun g7 => ?_)
      refine ef_aaload (t0 := 53 + x2.toNatClampNeg) (q := 51) rfl (by decide) lyRR_t52 g7 dX6_takeFrom_50 rfl rfl ?_
      refine ef_aload_n (q := 52) 0 dX6_takeFrom_51 rfl rfl rfl ?_
      refine ef_getR (t := 19) (q := 55) rfl fl6_49 rfl rfl dX6_takeFrom_52 rfl ?_
      refine ef_iload_n (q := 56) 2 dX6_takeFrom_55 rfl rfl rfl ?_
      refine ef_guard (fun g8 => ?_)
      refine ef_aaload (t0 := 20 + x2.toNatClampNeg) (q := 57) rfl (by decide) lyRR_t19 g8 dX6_takeFrom_56 rfl rfl ?_
      refine ef_invSU (nn := 2) (π := (fun k => if k < 1 then 53 + x2.toNatClampNeg + k else 20 + x2.toNatClampNeg + (k - 1))) (As := [.ref (pl (53 + x2.toNatClampNeg)), .ref (pl (20 + x2.toNatClampNeg))]) (rest := []) (q := 60) (okX6_copied8) (lm2_RR_I8I8_s52_0_s19_0 _ (ixB_lt g8) _ (ixB_lt g8)) rfl calX6_copied ml6_353 (by decide) rfl rfl (Nat.le_of_ble_eq_true rfl) dX6_takeFrom_57 rfl rfl (fun z9 => ?_)
      refine ef_iinc (v := x2 + (1 : Int32)) (lv' := [(2, .int (x2 + (1 : Int32))), (0, .ref (pl 0)), (1, .ref (pl 33))]) (q := 63) 2 dX6_takeFrom_60 rfl rfl (by decide) rfl rfl ?_
      refine ef_goto (tgt := 40) dX6_takeFrom_63 (by decide) ?_
      refine ef_sub (lv' := [(0, .ref (pl 0)), (1, .ref (pl 33)), (2, .int (x2 + (1 : Int32)))]) [1, 2, 0] rfl ?_
      exact ih (x2 + (1 : Int32)) (mrgS (fun k => if k < 1 then 53 + x2.toNatClampNeg + k else 20 + x2.toNatClampNeg + (k - 1)) 2 s z9.2)
set_option maxRecDepth 100000 in
set_option maxHeartbeats 4000000 in
theorem okX6_takeFrom_0 {G : GG} {pl : Nat → Nat} {h0 : PH} (s : SS) : EvF G 1 mX6_takeFrom lyRR pl h0 rvU (fX6_takeFrom_0 s) 0 [(0, .ref (pl 0)), (1, .ref (pl 33))] [] s := by
  unfold fX6_takeFrom_0
  refine ef_aload_n (q := 1) 0 dX6_takeFrom_0 rfl rfl rfl ?_
  refine ef_aload_n (q := 2) 1 dX6_takeFrom_1 rfl rfl rfl ?_
  refine ef_getI (x := s.1 33 9) (q := 5) rfl fl6_37 rfl rfl dX6_takeFrom_2 rfl ?_
  refine ef_putI (q := 8) rfl fl6_37 rfl rfl dX6_takeFrom_5 rfl ?_
  refine ef_aload_n (q := 9) 0 dX6_takeFrom_8 rfl rfl rfl ?_
  refine ef_aload_n (q := 10) 1 dX6_takeFrom_9 rfl rfl rfl ?_
  refine ef_getI (x := s.1 33 10) (q := 13) rfl fl6_93 rfl rfl dX6_takeFrom_10 rfl ?_
  refine ef_putI (q := 16) rfl fl6_93 rfl rfl dX6_takeFrom_13 rfl ?_
  refine ef_aload_n (q := 17) 1 dX6_takeFrom_16 rfl rfl rfl ?_
  refine ef_getR (t := 50) (q := 20) rfl fl6_41 rfl rfl dX6_takeFrom_17 rfl ?_
  refine ef_aload_n (q := 21) 0 dX6_takeFrom_20 rfl rfl rfl ?_
  refine ef_getR (t := 17) (q := 24) rfl fl6_41 rfl rfl dX6_takeFrom_21 rfl ?_
  refine ef_invSU (nn := 2) (π := (fun k => if k < 1 then 50 + k else 17 + (k - 1))) (As := [.ref (pl 50), .ref (pl 17)]) (rest := []) (q := 27) (okX6_copied3) (by decide +kernel) rfl calX6_copied ml6_353 (by decide) rfl rfl (Nat.le_of_ble_eq_true rfl) dX6_takeFrom_24 rfl rfl (fun z1 => ?_)
  refine ef_aload_n (q := 28) 1 dX6_takeFrom_27 rfl rfl rfl ?_
  refine ef_getR (t := 51) (q := 31) rfl fl6_44 rfl rfl dX6_takeFrom_28 rfl ?_
  refine ef_aload_n (q := 32) 0 dX6_takeFrom_31 rfl rfl rfl ?_
  refine ef_getR (t := 18) (q := 35) rfl fl6_44 rfl rfl dX6_takeFrom_32 rfl ?_
  refine ef_invSU (nn := 2) (π := (fun k => if k < 1 then 51 + k else 18 + (k - 1))) (As := [.ref (pl 51), .ref (pl 18)]) (rest := []) (q := 38) (okX6_copied3) (by decide +kernel) rfl calX6_copied ml6_353 (by decide) rfl rfl (Nat.le_of_ble_eq_true rfl) dX6_takeFrom_35 rfl rfl (fun z2 => ?_)
  refine ef_iconst (v := (0 : Int32)) (q := 39) dX6_takeFrom_38 (by decide) rfl ?_
  refine ef_istore_n (lv' := [(2, .int (0 : Int32)), (0, .ref (pl 0)), (1, .ref (pl 33))]) (q := 40) dX6_takeFrom_39 rfl (by decide) rfl rfl ?_
  refine ef_sub (lv' := [(0, .ref (pl 0)), (1, .ref (pl 33)), (2, .int (0 : Int32))]) [1, 2, 0] rfl ?_
  exact okX6_takeFrom_40 FU (0 : Int32) (mrgS (fun k => if k < 1 then 51 + k else 18 + (k - 1)) 2 (mrgS (fun k => if k < 1 then 50 + k else 17 + (k - 1)) 2 (wrI (wrI s 0 9 (s.1 33 9)) 0 10 (s.1 33 10)) z1.2) z2.2)
theorem okX6_takeFrom : MtF 1 mX6_takeFrom lyRR rvU (fun _ pl => [.ref (pl 0), .ref (pl 33)]) (fX6_takeFrom) := by
  refine MtF.of (by decide +kernel) rfl (fun _ pl => Nat.le_of_ble_eq_true rfl) (fun G pl h0 s => ?_)
  refine ef_sub (lv := [(0, .ref (pl 0)), (1, .ref (pl 33))]) (lv' := [(0, .ref (pl 0)), (1, .ref (pl 33))]) [0, 1] rfl ?_
  exact okX6_takeFrom_0  s
-- X6_status
theorem dX6_status_0 : decode cX6_status 0 = .ok (.iload_n 1, 1) := by decide +kernel
theorem dX6_status_1 : decode cX6_status 1 = .ok (.i2l, 1) := by decide +kernel
theorem dX6_status_2 : decode cX6_status 2 = .ok (.ldc2_w 388, 3) := by decide +kernel
theorem dX6_status_5 : decode cX6_status 5 = .ok (.ldc2_w 390, 3) := by decide +kernel
theorem dX6_status_8 : decode cX6_status 8 = .ok (.invokestatic 89, 3) := by decide +kernel
theorem dX6_status_11 : decode cX6_status 11 = .ok (.ifCond .eq 13, 3) := by decide +kernel
theorem dX6_status_14 : decode cX6_status 14 = .ok (.aload_n 0, 1) := by decide +kernel
theorem dX6_status_15 : decode cX6_status 15 = .ok (.getfield 34, 3) := by decide +kernel
theorem dX6_status_18 : decode cX6_status 18 = .ok (.iload_n 1, 1) := by decide +kernel
theorem dX6_status_19 : decode cX6_status 19 = .ok (.bipush 10, 2) := by decide +kernel
theorem dX6_status_21 : decode cX6_status 21 = .ok (.isub, 1) := by decide +kernel
theorem dX6_status_22 : decode cX6_status 22 = .ok (.iaload, 1) := by decide +kernel
theorem dX6_status_23 : decode cX6_status 23 = .ok (.ireturn, 1) := by decide +kernel
theorem dX6_status_24 : decode cX6_status 24 = .ok (.iload_n 1, 1) := by decide +kernel
theorem dX6_status_25 : decode cX6_status 25 = .ok (.i2l, 1) := by decide +kernel
theorem dX6_status_26 : decode cX6_status 26 = .ok (.ldc2_w 392, 3) := by decide +kernel
theorem dX6_status_29 : decode cX6_status 29 = .ok (.ldc2_w 394, 3) := by decide +kernel
theorem dX6_status_32 : decode cX6_status 32 = .ok (.invokestatic 89, 3) := by decide +kernel
theorem dX6_status_35 : decode cX6_status 35 = .ok (.ifCond .eq 13, 3) := by decide +kernel
theorem dX6_status_38 : decode cX6_status 38 = .ok (.aload_n 0, 1) := by decide +kernel
theorem dX6_status_39 : decode cX6_status 39 = .ok (.getfield 55, 3) := by decide +kernel
theorem dX6_status_42 : decode cX6_status 42 = .ok (.iload_n 1, 1) := by decide +kernel
theorem dX6_status_43 : decode cX6_status 43 = .ok (.bipush 18, 2) := by decide +kernel
theorem dX6_status_45 : decode cX6_status 45 = .ok (.isub, 1) := by decide +kernel
theorem dX6_status_46 : decode cX6_status 46 = .ok (.iaload, 1) := by decide +kernel
theorem dX6_status_47 : decode cX6_status 47 = .ok (.ireturn, 1) := by decide +kernel
theorem dX6_status_48 : decode cX6_status 48 = .ok (.iconst 0, 1) := by decide +kernel
theorem dX6_status_49 : decode cX6_status 49 = .ok (.istore_n 2, 1) := by decide +kernel
theorem dX6_status_50 : decode cX6_status 50 = .ok (.iload_n 1, 1) := by decide +kernel
theorem dX6_status_51 : decode cX6_status 51 = .ok (.tableswitch 178 0 17 #[85, 90, 95, 100, 105, 110, 115, 120, 125, 130, 135, 140, 178, 178, 178, 178, 178, 145], 85) := by decide +kernel
theorem dX6_status_136 : decode cX6_status 136 = .ok (.aload_n 0, 1) := by decide +kernel
theorem dX6_status_137 : decode cX6_status 137 = .ok (.getfield 37, 3) := by decide +kernel
theorem dX6_status_140 : decode cX6_status 140 = .ok (.ireturn, 1) := by decide +kernel
theorem dX6_status_141 : decode cX6_status 141 = .ok (.aload_n 0, 1) := by decide +kernel
theorem dX6_status_142 : decode cX6_status 142 = .ok (.getfield 93, 3) := by decide +kernel
theorem dX6_status_145 : decode cX6_status 145 = .ok (.ireturn, 1) := by decide +kernel
theorem dX6_status_146 : decode cX6_status 146 = .ok (.aload_n 0, 1) := by decide +kernel
theorem dX6_status_147 : decode cX6_status 147 = .ok (.getfield 86, 3) := by decide +kernel
theorem dX6_status_150 : decode cX6_status 150 = .ok (.ireturn, 1) := by decide +kernel
theorem dX6_status_151 : decode cX6_status 151 = .ok (.aload_n 0, 1) := by decide +kernel
theorem dX6_status_152 : decode cX6_status 152 = .ok (.getfield 289, 3) := by decide +kernel
theorem dX6_status_155 : decode cX6_status 155 = .ok (.ireturn, 1) := by decide +kernel
theorem dX6_status_156 : decode cX6_status 156 = .ok (.aload_n 0, 1) := by decide +kernel
theorem dX6_status_157 : decode cX6_status 157 = .ok (.getfield 283, 3) := by decide +kernel
theorem dX6_status_160 : decode cX6_status 160 = .ok (.ireturn, 1) := by decide +kernel
theorem dX6_status_161 : decode cX6_status 161 = .ok (.aload_n 0, 1) := by decide +kernel
theorem dX6_status_162 : decode cX6_status 162 = .ok (.getfield 274, 3) := by decide +kernel
theorem dX6_status_165 : decode cX6_status 165 = .ok (.ireturn, 1) := by decide +kernel
theorem dX6_status_166 : decode cX6_status 166 = .ok (.aload_n 0, 1) := by decide +kernel
theorem dX6_status_167 : decode cX6_status 167 = .ok (.invokevirtual 343, 3) := by decide +kernel
theorem dX6_status_170 : decode cX6_status 170 = .ok (.ireturn, 1) := by decide +kernel
theorem dX6_status_171 : decode cX6_status 171 = .ok (.aload_n 0, 1) := by decide +kernel
theorem dX6_status_172 : decode cX6_status 172 = .ok (.getfield 286, 3) := by decide +kernel
theorem dX6_status_175 : decode cX6_status 175 = .ok (.ireturn, 1) := by decide +kernel
theorem dX6_status_176 : decode cX6_status 176 = .ok (.aload_n 0, 1) := by decide +kernel
theorem dX6_status_177 : decode cX6_status 177 = .ok (.getfield 126, 3) := by decide +kernel
theorem dX6_status_180 : decode cX6_status 180 = .ok (.ireturn, 1) := by decide +kernel
theorem dX6_status_181 : decode cX6_status 181 = .ok (.aload_n 0, 1) := by decide +kernel
theorem dX6_status_182 : decode cX6_status 182 = .ok (.getfield 129, 3) := by decide +kernel
theorem dX6_status_185 : decode cX6_status 185 = .ok (.ireturn, 1) := by decide +kernel
theorem dX6_status_186 : decode cX6_status 186 = .ok (.aload_n 0, 1) := by decide +kernel
theorem dX6_status_187 : decode cX6_status 187 = .ok (.getfield 163, 3) := by decide +kernel
theorem dX6_status_190 : decode cX6_status 190 = .ok (.ireturn, 1) := by decide +kernel
theorem dX6_status_191 : decode cX6_status 191 = .ok (.aload_n 0, 1) := by decide +kernel
theorem dX6_status_192 : decode cX6_status 192 = .ok (.getfield 67, 3) := by decide +kernel
theorem dX6_status_195 : decode cX6_status 195 = .ok (.ireturn, 1) := by decide +kernel
theorem dX6_status_196 : decode cX6_status 196 = .ok (.iconst 0, 1) := by decide +kernel
theorem dX6_status_197 : decode cX6_status 197 = .ok (.istore_n 3, 1) := by decide +kernel
theorem dX6_status_198 : decode cX6_status 198 = .ok (.iload_n 3, 1) := by decide +kernel
theorem dX6_status_199 : decode cX6_status 199 = .ok (.bipush 8, 2) := by decide +kernel
theorem dX6_status_201 : decode cX6_status 201 = .ok (.if_icmp .ge 26, 3) := by decide +kernel
theorem dX6_status_204 : decode cX6_status 204 = .ok (.iload_n 2, 1) := by decide +kernel
theorem dX6_status_205 : decode cX6_status 205 = .ok (.aload_n 0, 1) := by decide +kernel
theorem dX6_status_206 : decode cX6_status 206 = .ok (.getfield 7, 3) := by decide +kernel
theorem dX6_status_209 : decode cX6_status 209 = .ok (.iload_n 3, 1) := by decide +kernel
theorem dX6_status_210 : decode cX6_status 210 = .ok (.iaload, 1) := by decide +kernel
theorem dX6_status_211 : decode cX6_status 211 = .ok (.ifCond .eq 7, 3) := by decide +kernel
theorem dX6_status_214 : decode cX6_status 214 = .ok (.iconst 1, 1) := by decide +kernel
theorem dX6_status_215 : decode cX6_status 215 = .ok (.goto 4, 3) := by decide +kernel
theorem dX6_status_218 : decode cX6_status 218 = .ok (.iconst 0, 1) := by decide +kernel
theorem dX6_status_219 : decode cX6_status 219 = .ok (.iadd, 1) := by decide +kernel
theorem dX6_status_220 : decode cX6_status 220 = .ok (.istore_n 2, 1) := by decide +kernel
theorem dX6_status_221 : decode cX6_status 221 = .ok (.iinc 3 1, 3) := by decide +kernel
theorem dX6_status_224 : decode cX6_status 224 = .ok (.goto (-26), 3) := by decide +kernel
theorem dX6_status_227 : decode cX6_status 227 = .ok (.iload_n 2, 1) := by decide +kernel
theorem dX6_status_228 : decode cX6_status 228 = .ok (.ireturn, 1) := by decide +kernel
theorem dX6_status_229 : decode cX6_status 229 = .ok (.iconst (-1), 1) := by decide +kernel
theorem dX6_status_230 : decode cX6_status 230 = .ok (.ireturn, 1) := by decide +kernel
def fX6_status_198 : Nat → Int32 → Int32 → SS → Option (Int32 × SS)
  | 0, _, _, _ => none
  | n + 1, x2, x3, s => if (8 : Int32) ≤ x3 then (some (x2, s)) else (if ixB x3 8 then (if (s.1 1 x3.toNatClampNeg) = 0 then (fX6_status_198 n (x2 + (0 : Int32)) (x3 + (1 : Int32)) s) else (fX6_status_198 n (x2 + (1 : Int32)) (x3 + (1 : Int32)) s)) else none)
def fX6_status_0 (x1 : Int32) (s : SS) : Option (Int32 × SS) := ((fX6_in x1.toInt64 (12 : Int64) (16 : Int64) s).bind fun z1 => if z1.1 = 0 then (((fX6_in x1.toInt64 (18 : Int64) (21 : Int64) s).bind fun z3 => if z3.1 = 0 then (if x1 = (0 : Int32) then (some (s.1 0 9, s)) else (if x1 = (1 : Int32) then (some (s.1 0 10, s)) else (if x1 = (2 : Int32) then (some (s.1 0 22, s)) else (if x1 = (3 : Int32) then (some (s.1 0 18, s)) else (if x1 = (4 : Int32) then (some (s.1 0 19, s)) else (if x1 = (5 : Int32) then (some (s.1 0 20, s)) else (if x1 = (6 : Int32) then (((fX6_leftNow s).bind fun z12 => some (z12.1, z12.2))) else (if x1 = (7 : Int32) then (some (s.1 0 21, s)) else (if x1 = (8 : Int32) then (some (s.1 0 15, s)) else (if x1 = (9 : Int32) then (some (s.1 0 16, s)) else (if x1 = (10 : Int32) then (some (s.1 0 7, s)) else (if x1 = (11 : Int32) then (some (s.1 0 27, s)) else (if x1 = (12 : Int32) then (some ((-1 : Int32), s)) else (if x1 = (13 : Int32) then (some ((-1 : Int32), s)) else (if x1 = (14 : Int32) then (some ((-1 : Int32), s)) else (if x1 = (15 : Int32) then (some ((-1 : Int32), s)) else (if x1 = (16 : Int32) then (some ((-1 : Int32), s)) else (if x1 = (17 : Int32) then (fX6_status_198 FU (0 : Int32) (0 : Int32) s) else (some ((-1 : Int32), s)))))))))))))))))))) else (if ixB (x1 - (18 : Int32)) 4 then (some (s.1 24 ((x1 - (18 : Int32)).toNatClampNeg), s)) else none))) else (if ixB (x1 - (10 : Int32)) 8 then (some (s.1 16 ((x1 - (10 : Int32)).toNatClampNeg), s)) else none))
def fX6_status (x1 : Int32) (s : SS) : Option (Int32 × SS) := fX6_status_0 x1 s
set_option maxRecDepth 100000 in
set_option maxHeartbeats 4000000 in
theorem okX6_status_198 {G : GG} {pl : Nat → Nat} {h0 : PH} : ∀ (n : Nat) (x2 : Int32) (x3 : Int32) (s : SS), EvF G 2 mX6_status lyR pl h0 rvI (fX6_status_198 n x2 x3 s) 198 [(0, .ref (pl 0)), (2, .int x2), (3, .int x3)] [] s := by
  intro n
  induction n with
  | zero => intro x2 x3 s; rw [fX6_status_198]; exact ef_none
  | succ n ih =>
    intro x2 x3 s
    rw [fX6_status_198]
    refine ef_iload_n (q := 199) 2 dX6_status_198 rfl rfl rfl ?_
    refine ef_bipush (v := (8 : Int32)) (q := 201) dX6_status_199 (by decide) rfl ?_
    refine ef_if (pt := 227) (pf := 204) (fun _ _ => ev_icmp_ge (tgt := 227) dX6_status_201 (by decide)) (fun h1 => ?_) (fun h1 => ?_)
    · refine ef_iload_n (q := 228) 1 dX6_status_227 rfl rfl rfl ?_
      exact ef_iret rfl dX6_status_228
    · refine ef_iload_n (q := 205) 1 dX6_status_204 rfl rfl rfl ?_
      refine ef_aload_n (q := 206) 0 dX6_status_205 rfl rfl rfl ?_
      refine ef_getR (t := 1) (q := 209) rfl fl6_7 rfl rfl dX6_status_206 rfl ?_
      refine ef_iload_n (q := 210) 2 dX6_status_209 rfl rfl rfl ?_
      refine ef_guard (fun g2 => ?_)
      refine ef_iaload (x := s.1 1 x3.toNatClampNeg) (q := 211) rfl g2 dX6_status_210 rfl rfl ?_
      refine ef_if (pt := 218) (pf := 214) (fun _ _ => ev_if_eq (tgt := 218) dX6_status_211 (by decide)) (fun h3 => ?_) (fun h3 => ?_)
      · refine ef_iconst (v := (0 : Int32)) (q := 219) dX6_status_218 (by decide) rfl ?_
        refine ef_iadd (q := 220) dX6_status_219 rfl ?_
        refine ef_istore_n (lv' := [(2, .int (x2 + (0 : Int32))), (0, .ref (pl 0)), (3, .int x3)]) (q := 221) dX6_status_220 rfl (by decide) rfl rfl ?_
        refine ef_iinc (v := x3 + (1 : Int32)) (lv' := [(3, .int (x3 + (1 : Int32))), (2, .int (x2 + (0 : Int32))), (0, .ref (pl 0))]) (q := 224) 2 dX6_status_221 rfl rfl (by decide) rfl rfl ?_
        refine ef_goto (tgt := 198) dX6_status_224 (by decide) ?_
        refine ef_sub (lv' := [(0, .ref (pl 0)), (2, .int (x2 + (0 : Int32))), (3, .int (x3 + (1 : Int32)))]) [2, 1, 0] rfl ?_
        exact ih (x2 + (0 : Int32)) (x3 + (1 : Int32)) s
      · refine ef_iconst (v := (1 : Int32)) (q := 215) dX6_status_214 (by decide) rfl ?_
        refine ef_goto (tgt := 219) dX6_status_215 (by decide) ?_
        refine ef_iadd (q := 220) dX6_status_219 rfl ?_
        refine ef_istore_n (lv' := [(2, .int (x2 + (1 : Int32))), (0, .ref (pl 0)), (3, .int x3)]) (q := 221) dX6_status_220 rfl (by decide) rfl rfl ?_
        refine ef_iinc (v := x3 + (1 : Int32)) (lv' := [(3, .int (x3 + (1 : Int32))), (2, .int (x2 + (1 : Int32))), (0, .ref (pl 0))]) (q := 224) 2 dX6_status_221 rfl rfl (by decide) rfl rfl ?_
        refine ef_goto (tgt := 198) dX6_status_224 (by decide) ?_
        refine ef_sub (lv' := [(0, .ref (pl 0)), (2, .int (x2 + (1 : Int32))), (3, .int (x3 + (1 : Int32)))]) [2, 1, 0] rfl ?_
        exact ih (x2 + (1 : Int32)) (x3 + (1 : Int32)) s
set_option maxRecDepth 100000 in
set_option maxHeartbeats 4000000 in
theorem okX6_status_0 {G : GG} {pl : Nat → Nat} {h0 : PH} (x1 : Int32) (s : SS) : EvF G 2 mX6_status lyR pl h0 rvI (fX6_status_0 x1 s) 0 [(0, .ref (pl 0)), (1, .int x1)] [] s := by
  unfold fX6_status_0
  refine ef_iload_n (q := 1) 1 dX6_status_0 rfl rfl rfl ?_
  refine ef_i2l (v := x1.toInt64) (q := 2) dX6_status_1 rfl rfl ?_
  refine ef_ldc2 (v := (12 : Int64)) (q := 5) k6_388 dX6_status_2 rfl ?_
  refine ef_ldc2 (v := (16 : Int64)) (q := 8) k6_390 dX6_status_5 rfl ?_
  refine ef_invPI0 (As := [.long x1.toInt64, .long (12 : Int64), .long (16 : Int64)]) (rest := []) (q := 11) (okX6_in x1.toInt64 (12 : Int64) (16 : Int64)) rfl calX6_in ml6_89 (by decide) rfl rfl (Nat.le_of_ble_eq_true rfl) dX6_status_8 rfl (fun z1 => ?_)
  refine ef_if (pt := 24) (pf := 14) (fun _ _ => ev_if_eq (tgt := 24) dX6_status_11 (by decide)) (fun h2 => ?_) (fun h2 => ?_)
  · refine ef_iload_n (q := 25) 1 dX6_status_24 rfl rfl rfl ?_
    refine ef_i2l (v := x1.toInt64) (q := 26) dX6_status_25 rfl rfl ?_
    refine ef_ldc2 (v := (18 : Int64)) (q := 29) k6_392 dX6_status_26 rfl ?_
    refine ef_ldc2 (v := (21 : Int64)) (q := 32) k6_394 dX6_status_29 rfl ?_
    refine ef_invPI0 (As := [.long x1.toInt64, .long (18 : Int64), .long (21 : Int64)]) (rest := []) (q := 35) (okX6_in x1.toInt64 (18 : Int64) (21 : Int64)) rfl calX6_in ml6_89 (by decide) rfl rfl (Nat.le_of_ble_eq_true rfl) dX6_status_32 rfl (fun z3 => ?_)
    refine ef_if (pt := 48) (pf := 38) (fun _ _ => ev_if_eq (tgt := 48) dX6_status_35 (by decide)) (fun h4 => ?_) (fun h4 => ?_)
    · refine ef_iconst (v := (0 : Int32)) (q := 49) dX6_status_48 (by decide) rfl ?_
      refine ef_istore_n (lv' := [(2, .int (0 : Int32)), (0, .ref (pl 0)), (1, .int x1)]) (q := 50) dX6_status_49 rfl (by decide) rfl rfl ?_
      refine ef_iload_n (q := 51) 2 dX6_status_50 rfl rfl rfl ?_
      refine ef_dec (fun h5 => ?_) (fun h5 => ?_)
      · refine ef_of (fun _ _ => ev_tableIn (tgt := 136) dX6_status_51 (by rw [h5]; decide) (by rw [h5]; decide) (off := 85) (by rw [h5]; rfl) (by decide)) ?_
        refine ef_aload_n (q := 137) 1 dX6_status_136 rfl rfl rfl ?_
        refine ef_getI (x := s.1 0 9) (q := 140) rfl fl6_37 rfl rfl dX6_status_137 rfl ?_
        exact ef_iret rfl dX6_status_140
      refine ef_dec (fun h6 => ?_) (fun h6 => ?_)
      · refine ef_of (fun _ _ => ev_tableIn (tgt := 141) dX6_status_51 (by rw [h6]; decide) (by rw [h6]; decide) (off := 90) (by rw [h6]; rfl) (by decide)) ?_
        refine ef_aload_n (q := 142) 1 dX6_status_141 rfl rfl rfl ?_
        refine ef_getI (x := s.1 0 10) (q := 145) rfl fl6_93 rfl rfl dX6_status_142 rfl ?_
        exact ef_iret rfl dX6_status_145
      refine ef_dec (fun h7 => ?_) (fun h7 => ?_)
      · refine ef_of (fun _ _ => ev_tableIn (tgt := 146) dX6_status_51 (by rw [h7]; decide) (by rw [h7]; decide) (off := 95) (by rw [h7]; rfl) (by decide)) ?_
        refine ef_aload_n (q := 147) 1 dX6_status_146 rfl rfl rfl ?_
        refine ef_getI (x := s.1 0 22) (q := 150) rfl fl6_86 rfl rfl dX6_status_147 rfl ?_
        exact ef_iret rfl dX6_status_150
      refine ef_dec (fun h8 => ?_) (fun h8 => ?_)
      · refine ef_of (fun _ _ => ev_tableIn (tgt := 151) dX6_status_51 (by rw [h8]; decide) (by rw [h8]; decide) (off := 100) (by rw [h8]; rfl) (by decide)) ?_
        refine ef_aload_n (q := 152) 1 dX6_status_151 rfl rfl rfl ?_
        refine ef_getI (x := s.1 0 18) (q := 155) rfl fl6_289 rfl rfl dX6_status_152 rfl ?_
        exact ef_iret rfl dX6_status_155
      refine ef_dec (fun h9 => ?_) (fun h9 => ?_)
      · refine ef_of (fun _ _ => ev_tableIn (tgt := 156) dX6_status_51 (by rw [h9]; decide) (by rw [h9]; decide) (off := 105) (by rw [h9]; rfl) (by decide)) ?_
        refine ef_aload_n (q := 157) 1 dX6_status_156 rfl rfl rfl ?_
        refine ef_getI (x := s.1 0 19) (q := 160) rfl fl6_283 rfl rfl dX6_status_157 rfl ?_
        exact ef_iret rfl dX6_status_160
      refine ef_dec (fun h10 => ?_) (fun h10 => ?_)
      · refine ef_of (fun _ _ => ev_tableIn (tgt := 161) dX6_status_51 (by rw [h10]; decide) (by rw [h10]; decide) (off := 110) (by rw [h10]; rfl) (by decide)) ?_
        refine ef_aload_n (q := 162) 1 dX6_status_161 rfl rfl rfl ?_
        refine ef_getI (x := s.1 0 20) (q := 165) rfl fl6_274 rfl rfl dX6_status_162 rfl ?_
        exact ef_iret rfl dX6_status_165
      refine ef_dec (fun h11 => ?_) (fun h11 => ?_)
      · refine ef_of (fun _ _ => ev_tableIn (tgt := 166) dX6_status_51 (by rw [h11]; decide) (by rw [h11]; decide) (off := 115) (by rw [h11]; rfl) (by decide)) ?_
        refine ef_aload_n (q := 167) 1 dX6_status_166 rfl rfl rfl ?_
        refine ef_invVI0 (k := 0) (As := []) (rest := []) (q := 170) (okX6_leftNow) rfl calX6_leftNow ml6_343 (by decide) rfl rfl rfl (Nat.le_of_ble_eq_true rfl) dX6_status_167 rfl (fun z12 => ?_)
        exact ef_iret rfl dX6_status_170
      refine ef_dec (fun h13 => ?_) (fun h13 => ?_)
      · refine ef_of (fun _ _ => ev_tableIn (tgt := 171) dX6_status_51 (by rw [h13]; decide) (by rw [h13]; decide) (off := 120) (by rw [h13]; rfl) (by decide)) ?_
        refine ef_aload_n (q := 172) 1 dX6_status_171 rfl rfl rfl ?_
        refine ef_getI (x := s.1 0 21) (q := 175) rfl fl6_286 rfl rfl dX6_status_172 rfl ?_
        exact ef_iret rfl dX6_status_175
      refine ef_dec (fun h14 => ?_) (fun h14 => ?_)
      · refine ef_of (fun _ _ => ev_tableIn (tgt := 176) dX6_status_51 (by rw [h14]; decide) (by rw [h14]; decide) (off := 125) (by rw [h14]; rfl) (by decide)) ?_
        refine ef_aload_n (q := 177) 1 dX6_status_176 rfl rfl rfl ?_
        refine ef_getI (x := s.1 0 15) (q := 180) rfl fl6_126 rfl rfl dX6_status_177 rfl ?_
        exact ef_iret rfl dX6_status_180
      refine ef_dec (fun h15 => ?_) (fun h15 => ?_)
      · refine ef_of (fun _ _ => ev_tableIn (tgt := 181) dX6_status_51 (by rw [h15]; decide) (by rw [h15]; decide) (off := 130) (by rw [h15]; rfl) (by decide)) ?_
        refine ef_aload_n (q := 182) 1 dX6_status_181 rfl rfl rfl ?_
        refine ef_getI (x := s.1 0 16) (q := 185) rfl fl6_129 rfl rfl dX6_status_182 rfl ?_
        exact ef_iret rfl dX6_status_185
      refine ef_dec (fun h16 => ?_) (fun h16 => ?_)
      · refine ef_of (fun _ _ => ev_tableIn (tgt := 186) dX6_status_51 (by rw [h16]; decide) (by rw [h16]; decide) (off := 135) (by rw [h16]; rfl) (by decide)) ?_
        refine ef_aload_n (q := 187) 1 dX6_status_186 rfl rfl rfl ?_
        refine ef_getI (x := s.1 0 7) (q := 190) rfl fl6_163 rfl rfl dX6_status_187 rfl ?_
        exact ef_iret rfl dX6_status_190
      refine ef_dec (fun h17 => ?_) (fun h17 => ?_)
      · refine ef_of (fun _ _ => ev_tableIn (tgt := 191) dX6_status_51 (by rw [h17]; decide) (by rw [h17]; decide) (off := 140) (by rw [h17]; rfl) (by decide)) ?_
        refine ef_aload_n (q := 192) 1 dX6_status_191 rfl rfl rfl ?_
        refine ef_getI (x := s.1 0 27) (q := 195) rfl fl6_67 rfl rfl dX6_status_192 rfl ?_
        exact ef_iret rfl dX6_status_195
      refine ef_dec (fun h18 => ?_) (fun h18 => ?_)
      · refine ef_of (fun _ _ => ev_tableIn (tgt := 229) dX6_status_51 (by rw [h18]; decide) (by rw [h18]; decide) (off := 178) (by rw [h18]; rfl) (by decide)) ?_
        refine ef_iconst (v := (-1 : Int32)) (q := 230) dX6_status_229 (by decide) rfl ?_
        exact ef_iret rfl dX6_status_230
      refine ef_dec (fun h19 => ?_) (fun h19 => ?_)
      · refine ef_of (fun _ _ => ev_tableIn (tgt := 229) dX6_status_51 (by rw [h19]; decide) (by rw [h19]; decide) (off := 178) (by rw [h19]; rfl) (by decide)) ?_
        refine ef_iconst (v := (-1 : Int32)) (q := 230) dX6_status_229 (by decide) rfl ?_
        exact ef_iret rfl dX6_status_230
      refine ef_dec (fun h20 => ?_) (fun h20 => ?_)
      · refine ef_of (fun _ _ => ev_tableIn (tgt := 229) dX6_status_51 (by rw [h20]; decide) (by rw [h20]; decide) (off := 178) (by rw [h20]; rfl) (by decide)) ?_
        refine ef_iconst (v := (-1 : Int32)) (q := 230) dX6_status_229 (by decide) rfl ?_
        exact ef_iret rfl dX6_status_230
      refine ef_dec (fun h21 => ?_) (fun h21 => ?_)
      · refine ef_of (fun _ _ => ev_tableIn (tgt := 229) dX6_status_51 (by rw [h21]; decide) (by rw [h21]; decide) (off := 178) (by rw [h21]; rfl) (by decide)) ?_
        refine ef_iconst (v := (-1 : Int32)) (q := 230) dX6_status_229 (by decide) rfl ?_
        exact ef_iret rfl dX6_status_230
      refine ef_dec (fun h22 => ?_) (fun h22 => ?_)
      · refine ef_of (fun _ _ => ev_tableIn (tgt := 229) dX6_status_51 (by rw [h22]; decide) (by rw [h22]; decide) (off := 178) (by rw [h22]; rfl) (by decide)) ?_
        refine ef_iconst (v := (-1 : Int32)) (q := 230) dX6_status_229 (by decide) rfl ?_
        exact ef_iret rfl dX6_status_230
      refine ef_dec (fun h23 => ?_) (fun h23 => ?_)
      · refine ef_of (fun _ _ => ev_tableIn (tgt := 196) dX6_status_51 (by rw [h23]; decide) (by rw [h23]; decide) (off := 145) (by rw [h23]; rfl) (by decide)) ?_
        refine ef_iconst (v := (0 : Int32)) (q := 197) dX6_status_196 (by decide) rfl ?_
        refine ef_istore_n (lv' := [(3, .int (0 : Int32)), (2, .int (0 : Int32)), (0, .ref (pl 0)), (1, .int x1)]) (q := 198) dX6_status_197 rfl (by decide) rfl rfl ?_
        refine ef_sub (lv' := [(0, .ref (pl 0)), (2, .int (0 : Int32)), (3, .int (0 : Int32))]) [2, 1, 0] rfl ?_
        exact okX6_status_198 FU (0 : Int32) (0 : Int32) s
      have hsw : (x1 : Int32).toInt < 0 ∨ 17 < (x1 : Int32).toInt := by
        have th5 := ne_toI (k := 0) h5 (by decide)
        have th6 := ne_toI (k := 1) h6 (by decide)
        have th7 := ne_toI (k := 2) h7 (by decide)
        have th8 := ne_toI (k := 3) h8 (by decide)
        have th9 := ne_toI (k := 4) h9 (by decide)
        have th10 := ne_toI (k := 5) h10 (by decide)
        have th11 := ne_toI (k := 6) h11 (by decide)
        have th13 := ne_toI (k := 7) h13 (by decide)
        have th14 := ne_toI (k := 8) h14 (by decide)
        have th15 := ne_toI (k := 9) h15 (by decide)
        have th16 := ne_toI (k := 10) h16 (by decide)
        have th17 := ne_toI (k := 11) h17 (by decide)
        have th18 := ne_toI (k := 12) h18 (by decide)
        have th19 := ne_toI (k := 13) h19 (by decide)
        have th20 := ne_toI (k := 14) h20 (by decide)
        have th21 := ne_toI (k := 15) h21 (by decide)
        have th22 := ne_toI (k := 16) h22 (by decide)
        have th23 := ne_toI (k := 17) h23 (by decide)
        omega
      refine ef_of (fun _ _ => ev_tableOut (tgt := 229) dX6_status_51 hsw (by decide)) ?_
      refine ef_iconst (v := (-1 : Int32)) (q := 230) dX6_status_229 (by decide) rfl ?_
      exact ef_iret rfl dX6_status_230
    · refine ef_aload_n (q := 39) 0 dX6_status_38 rfl rfl rfl ?_
      refine ef_getR (t := 24) (q := 42) rfl fl6_55 rfl rfl dX6_status_39 rfl ?_
      refine ef_iload_n (q := 43) 1 dX6_status_42 rfl rfl rfl ?_
      refine ef_bipush (v := (18 : Int32)) (q := 45) dX6_status_43 (by decide) rfl ?_
      refine ef_isub (q := 46) dX6_status_45 rfl ?_
      refine ef_guard (fun g24 => ?_)
      refine ef_iaload (x := s.1 24 ((x1 - (18 : Int32)).toNatClampNeg)) (q := 47) rfl g24 dX6_status_46 rfl rfl ?_
      exact ef_iret rfl dX6_status_47
  · refine ef_aload_n (q := 15) 0 dX6_status_14 rfl rfl rfl ?_
    refine ef_getR (t := 16) (q := 18) rfl fl6_34 rfl rfl dX6_status_15 rfl ?_
    refine ef_iload_n (q := 19) 1 dX6_status_18 rfl rfl rfl ?_
    refine ef_bipush (v := (10 : Int32)) (q := 21) dX6_status_19 (by decide) rfl ?_
    refine ef_isub (q := 22) dX6_status_21 rfl ?_
    refine ef_guard (fun g25 => ?_)
    refine ef_iaload (x := s.1 16 ((x1 - (10 : Int32)).toNatClampNeg)) (q := 23) rfl g25 dX6_status_22 rfl rfl ?_
    exact ef_iret rfl dX6_status_23
theorem okX6_status (x1 : Int32) : MtF 2 mX6_status lyR rvI (fun _ pl => [.ref (pl 0), .int x1]) (fX6_status x1) := by
  refine MtF.of (by decide +kernel) rfl (fun _ pl => Nat.le_of_ble_eq_true rfl) (fun G pl h0 s => ?_)
  refine ef_sub (lv := [(0, .ref (pl 0)), (1, .int x1)]) (lv' := [(0, .ref (pl 0)), (1, .int x1)]) [0, 1] rfl ?_
  exact okX6_status_0  x1 s
