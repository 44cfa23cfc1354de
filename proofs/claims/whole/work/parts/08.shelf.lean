-- X3_clearAway
theorem dX3_clearAway_0 : decode cX3_clearAway 0 = .ok (.aload_n 0, 1) := by decide +kernel
theorem dX3_clearAway_1 : decode cX3_clearAway 1 = .ok (.iconst (-1), 1) := by decide +kernel
theorem dX3_clearAway_2 : decode cX3_clearAway 2 = .ok (.putfield 9, 3) := by decide +kernel
theorem dX3_clearAway_5 : decode cX3_clearAway 5 = .ok (.aload_n 0, 1) := by decide +kernel
theorem dX3_clearAway_6 : decode cX3_clearAway 6 = .ok (.iconst 0, 1) := by decide +kernel
theorem dX3_clearAway_7 : decode cX3_clearAway 7 = .ok (.putfield 15, 3) := by decide +kernel
theorem dX3_clearAway_10 : decode cX3_clearAway 10 = .ok (.return_, 1) := by decide +kernel
def fX3_clearAway_0 (s : SS) : Option (Unit × SS) := some ((), wrI (wrI s 0 0 (-1 : Int32)) 0 1 (0 : Int32))
def fX3_clearAway (s : SS) : Option (Unit × SS) := fX3_clearAway_0 s
set_option maxRecDepth 100000 in
set_option maxHeartbeats 4000000 in
theorem okX3_clearAway_0 {G : GG} {pl : Nat → Nat} {h0 : PH} (s : SS) : EvF G 0 mX3_clearAway lyS pl h0 rvU (fX3_clearAway_0 s) 0 [(0, .ref (pl 0))] [] s := by
  unfold fX3_clearAway_0
  refine ef_aload_n (q := 1) 0 dX3_clearAway_0 rfl rfl rfl ?_
  refine ef_iconst (v := (-1 : Int32)) (q := 2) dX3_clearAway_1 (by decide) rfl ?_
  refine ef_putI (q := 5) rfl fl3_9 rfl rfl dX3_clearAway_2 rfl ?_
  refine ef_aload_n (q := 6) 0 dX3_clearAway_5 rfl rfl rfl ?_
  refine ef_iconst (v := (0 : Int32)) (q := 7) dX3_clearAway_6 (by decide) rfl ?_
  refine ef_putI (q := 10) rfl fl3_15 rfl rfl dX3_clearAway_7 rfl ?_
  exact ef_vret rfl dX3_clearAway_10
theorem okX3_clearAway : MtF 0 mX3_clearAway lyS rvU (fun _ pl => [.ref (pl 0)]) (fX3_clearAway) := by
  refine MtF.of (by decide +kernel) rfl (fun _ pl => Nat.le_of_ble_eq_true rfl) (fun G pl h0 s => ?_)
  refine ef_sub (lv := [(0, .ref (pl 0))]) (lv' := [(0, .ref (pl 0))]) [0] rfl ?_
  exact okX3_clearAway_0  s
-- X3_holdRow
theorem dX3_holdRow_0 : decode cX3_holdRow 0 = .ok (.aload_n 0, 1) := by decide +kernel
theorem dX3_holdRow_1 : decode cX3_holdRow 1 = .ok (.iload_n 1, 1) := by decide +kernel
theorem dX3_holdRow_2 : decode cX3_holdRow 2 = .ok (.putfield 9, 3) := by decide +kernel
theorem dX3_holdRow_5 : decode cX3_holdRow 5 = .ok (.aload_n 0, 1) := by decide +kernel
theorem dX3_holdRow_6 : decode cX3_holdRow 6 = .ok (.iload_n 2, 1) := by decide +kernel
theorem dX3_holdRow_7 : decode cX3_holdRow 7 = .ok (.putfield 15, 3) := by decide +kernel
theorem dX3_holdRow_10 : decode cX3_holdRow 10 = .ok (.iconst 0, 1) := by decide +kernel
theorem dX3_holdRow_11 : decode cX3_holdRow 11 = .ok (.istore_n 3, 1) := by decide +kernel
theorem dX3_holdRow_12 : decode cX3_holdRow 12 = .ok (.iload_n 3, 1) := by decide +kernel
theorem dX3_holdRow_13 : decode cX3_holdRow 13 = .ok (.bipush 40, 2) := by decide +kernel
theorem dX3_holdRow_15 : decode cX3_holdRow 15 = .ok (.if_icmp .ge 16, 3) := by decide +kernel
theorem dX3_holdRow_18 : decode cX3_holdRow 18 = .ok (.aload_n 0, 1) := by decide +kernel
theorem dX3_holdRow_19 : decode cX3_holdRow 19 = .ok (.getfield 18, 3) := by decide +kernel
theorem dX3_holdRow_22 : decode cX3_holdRow 22 = .ok (.iload_n 3, 1) := by decide +kernel
theorem dX3_holdRow_23 : decode cX3_holdRow 23 = .ok (.lconst 0, 1) := by decide +kernel
theorem dX3_holdRow_24 : decode cX3_holdRow 24 = .ok (.lastore, 1) := by decide +kernel
theorem dX3_holdRow_25 : decode cX3_holdRow 25 = .ok (.iinc 3 1, 3) := by decide +kernel
theorem dX3_holdRow_28 : decode cX3_holdRow 28 = .ok (.goto (-16), 3) := by decide +kernel
theorem dX3_holdRow_31 : decode cX3_holdRow 31 = .ok (.return_, 1) := by decide +kernel
def fX3_holdRow_12 : Nat → Int32 → SS → Option (Unit × SS)
  | 0, _, _ => none
  | n + 1, x3, s => if (40 : Int32) ≤ x3 then (some ((), s)) else (if ixB x3 40 then (fX3_holdRow_12 n (x3 + (1 : Int32)) (wrL s 1 x3.toNatClampNeg (0 : Int64))) else none)
def fX3_holdRow_0 (x1 : Int32) (x2 : Int32) (s : SS) : Option (Unit × SS) := fX3_holdRow_12 FU (0 : Int32) (wrI (wrI s 0 0 x1) 0 1 x2)
def fX3_holdRow (x1 : Int32) (x2 : Int32) (s : SS) : Option (Unit × SS) := fX3_holdRow_0 x1 x2 s
set_option maxRecDepth 100000 in
set_option maxHeartbeats 4000000 in
theorem okX3_holdRow_12 {G : GG} {pl : Nat → Nat} {h0 : PH} : ∀ (n : Nat) (x3 : Int32) (s : SS), EvF G 0 mX3_holdRow lyS pl h0 rvU (fX3_holdRow_12 n x3 s) 12 [(0, .ref (pl 0)), (3, .int x3)] [] s := by
  intro n
  induction n with
  | zero => intro x3 s; rw [fX3_holdRow_12]; exact ef_none
  | succ n ih =>
    intro x3 s
    rw [fX3_holdRow_12]
    refine ef_iload_n (q := 13) 1 dX3_holdRow_12 rfl rfl rfl ?_
    refine ef_bipush (v := (40 : Int32)) (q := 15) dX3_holdRow_13 (by decide) rfl ?_
    refine ef_if (pt := 31) (pf := 18) (fun _ _ => ev_icmp_ge (tgt := 31) dX3_holdRow_15 (by decide)) (fun h1 => ?_) (fun h1 => ?_)
    · exact ef_vret rfl dX3_holdRow_31
    · refine ef_aload_n (q := 19) 0 dX3_holdRow_18 rfl rfl rfl ?_
      refine ef_getR (t := 1) (q := 22) rfl fl3_18 rfl rfl dX3_holdRow_19 rfl ?_
      refine ef_iload_n (q := 23) 1 dX3_holdRow_22 rfl rfl rfl ?_
      refine ef_lconst (v := (0 : Int64)) (q := 24) dX3_holdRow_23 (by decide) rfl ?_
      refine ef_guard (fun g2 => ?_)
      refine ef_lastore (j := x3.toNatClampNeg) (q := 25) rfl g2 dX3_holdRow_24 rfl rfl ?_
      refine ef_iinc (v := x3 + (1 : Int32)) (lv' := [(3, .int (x3 + (1 : Int32))), (0, .ref (pl 0))]) (q := 28) 1 dX3_holdRow_25 rfl rfl (by decide) rfl rfl ?_
      refine ef_goto (tgt := 12) dX3_holdRow_28 (by decide) ?_
      refine ef_sub (lv' := [(0, .ref (pl 0)), (3, .int (x3 + (1 : Int32)))]) [1, 0] rfl ?_
      exact ih (x3 + (1 : Int32)) (wrL s 1 x3.toNatClampNeg (0 : Int64))
set_option maxRecDepth 100000 in
set_option maxHeartbeats 4000000 in
theorem okX3_holdRow_0 {G : GG} {pl : Nat → Nat} {h0 : PH} (x1 : Int32) (x2 : Int32) (s : SS) : EvF G 0 mX3_holdRow lyS pl h0 rvU (fX3_holdRow_0 x1 x2 s) 0 [(0, .ref (pl 0)), (1, .int x1), (2, .int x2)] [] s := by
  unfold fX3_holdRow_0
  refine ef_aload_n (q := 1) 0 dX3_holdRow_0 rfl rfl rfl ?_
  refine ef_iload_n (q := 2) 1 dX3_holdRow_1 rfl rfl rfl ?_
  refine ef_putI (q := 5) rfl fl3_9 rfl rfl dX3_holdRow_2 rfl ?_
  refine ef_aload_n (q := 6) 0 dX3_holdRow_5 rfl rfl rfl ?_
  refine ef_iload_n (q := 7) 2 dX3_holdRow_6 rfl rfl rfl ?_
  refine ef_putI (q := 10) rfl fl3_15 rfl rfl dX3_holdRow_7 rfl ?_
  refine ef_iconst (v := (0 : Int32)) (q := 11) dX3_holdRow_10 (by decide) rfl ?_
  refine ef_istore_n (lv' := [(3, .int (0 : Int32)), (0, .ref (pl 0)), (1, .int x1), (2, .int x2)]) (q := 12) dX3_holdRow_11 rfl (by decide) rfl rfl ?_
  refine ef_sub (lv' := [(0, .ref (pl 0)), (3, .int (0 : Int32))]) [1, 0] rfl ?_
  exact okX3_holdRow_12 FU (0 : Int32) (wrI (wrI s 0 0 x1) 0 1 x2)
theorem okX3_holdRow (x1 : Int32) (x2 : Int32) : MtF 0 mX3_holdRow lyS rvU (fun _ pl => [.ref (pl 0), .int x1, .int x2]) (fX3_holdRow x1 x2) := by
  refine MtF.of (by decide +kernel) rfl (fun _ pl => Nat.le_of_ble_eq_true rfl) (fun G pl h0 s => ?_)
  refine ef_sub (lv := [(0, .ref (pl 0)), (1, .int x1), (2, .int x2)]) (lv' := [(0, .ref (pl 0)), (1, .int x1), (2, .int x2)]) [0, 1, 2] rfl ?_
  exact okX3_holdRow_0  x1 x2 s
-- X3_holdLicker
theorem dX3_holdLicker_0 : decode cX3_holdLicker 0 = .ok (.aload_n 0, 1) := by decide +kernel
theorem dX3_holdLicker_1 : decode cX3_holdLicker 1 = .ok (.bipush 10, 2) := by decide +kernel
theorem dX3_holdLicker_3 : decode cX3_holdLicker 3 = .ok (.iload_n 1, 1) := by decide +kernel
theorem dX3_holdLicker_4 : decode cX3_holdLicker 4 = .ok (.iadd, 1) := by decide +kernel
theorem dX3_holdLicker_5 : decode cX3_holdLicker 5 = .ok (.putfield 9, 3) := by decide +kernel
theorem dX3_holdLicker_8 : decode cX3_holdLicker 8 = .ok (.aload_n 0, 1) := by decide +kernel
theorem dX3_holdLicker_9 : decode cX3_holdLicker 9 = .ok (.iconst 0, 1) := by decide +kernel
theorem dX3_holdLicker_10 : decode cX3_holdLicker 10 = .ok (.putfield 15, 3) := by decide +kernel
theorem dX3_holdLicker_13 : decode cX3_holdLicker 13 = .ok (.return_, 1) := by decide +kernel
def fX3_holdLicker_0 (x1 : Int32) (s : SS) : Option (Unit × SS) := some ((), wrI (wrI s 0 0 ((10 : Int32) + x1)) 0 1 (0 : Int32))
def fX3_holdLicker (x1 : Int32) (s : SS) : Option (Unit × SS) := fX3_holdLicker_0 x1 s
set_option maxRecDepth 100000 in
set_option maxHeartbeats 4000000 in
theorem okX3_holdLicker_0 {G : GG} {pl : Nat → Nat} {h0 : PH} (x1 : Int32) (s : SS) : EvF G 0 mX3_holdLicker lyS pl h0 rvU (fX3_holdLicker_0 x1 s) 0 [(0, .ref (pl 0)), (1, .int x1)] [] s := by
  unfold fX3_holdLicker_0
  refine ef_aload_n (q := 1) 0 dX3_holdLicker_0 rfl rfl rfl ?_
  refine ef_bipush (v := (10 : Int32)) (q := 3) dX3_holdLicker_1 (by decide) rfl ?_
  refine ef_iload_n (q := 4) 1 dX3_holdLicker_3 rfl rfl rfl ?_
  refine ef_iadd (q := 5) dX3_holdLicker_4 rfl ?_
  refine ef_putI (q := 8) rfl fl3_9 rfl rfl dX3_holdLicker_5 rfl ?_
  refine ef_aload_n (q := 9) 0 dX3_holdLicker_8 rfl rfl rfl ?_
  refine ef_iconst (v := (0 : Int32)) (q := 10) dX3_holdLicker_9 (by decide) rfl ?_
  refine ef_putI (q := 13) rfl fl3_15 rfl rfl dX3_holdLicker_10 rfl ?_
  exact ef_vret rfl dX3_holdLicker_13
theorem okX3_holdLicker (x1 : Int32) : MtF 0 mX3_holdLicker lyS rvU (fun _ pl => [.ref (pl 0), .int x1]) (fX3_holdLicker x1) := by
  refine MtF.of (by decide +kernel) rfl (fun _ pl => Nat.le_of_ble_eq_true rfl) (fun G pl h0 s => ?_)
  refine ef_sub (lv := [(0, .ref (pl 0)), (1, .int x1)]) (lv' := [(0, .ref (pl 0)), (1, .int x1)]) [0, 1] rfl ?_
  exact okX3_holdLicker_0  x1 s
-- X3_holdsRow
theorem dX3_holdsRow_0 : decode cX3_holdsRow 0 = .ok (.aload_n 0, 1) := by decide +kernel
theorem dX3_holdsRow_1 : decode cX3_holdsRow 1 = .ok (.getfield 9, 3) := by decide +kernel
theorem dX3_holdsRow_4 : decode cX3_holdsRow 4 = .ok (.ifCond .lt 15, 3) := by decide +kernel
theorem dX3_holdsRow_7 : decode cX3_holdsRow 7 = .ok (.aload_n 0, 1) := by decide +kernel
theorem dX3_holdsRow_8 : decode cX3_holdsRow 8 = .ok (.getfield 9, 3) := by decide +kernel
theorem dX3_holdsRow_11 : decode cX3_holdsRow 11 = .ok (.iconst 4, 1) := by decide +kernel
theorem dX3_holdsRow_12 : decode cX3_holdsRow 12 = .ok (.if_icmp .gt 7, 3) := by decide +kernel
theorem dX3_holdsRow_15 : decode cX3_holdsRow 15 = .ok (.iconst 1, 1) := by decide +kernel
theorem dX3_holdsRow_16 : decode cX3_holdsRow 16 = .ok (.goto 4, 3) := by decide +kernel
theorem dX3_holdsRow_19 : decode cX3_holdsRow 19 = .ok (.iconst 0, 1) := by decide +kernel
theorem dX3_holdsRow_20 : decode cX3_holdsRow 20 = .ok (.ireturn, 1) := by decide +kernel
def fX3_holdsRow_0 (s : SS) : Option (Int32 × SS) := if (s.1 0 0) < 0 then (some ((0 : Int32), s)) else (if (4 : Int32) < (s.1 0 0) then (some ((0 : Int32), s)) else (some ((1 : Int32), s)))
def fX3_holdsRow (s : SS) : Option (Int32 × SS) := fX3_holdsRow_0 s
set_option maxRecDepth 100000 in
set_option maxHeartbeats 4000000 in
theorem okX3_holdsRow_0 {G : GG} {pl : Nat → Nat} {h0 : PH} (s : SS) : EvF G 0 mX3_holdsRow lyS pl h0 rvI (fX3_holdsRow_0 s) 0 [(0, .ref (pl 0))] [] s := by
  unfold fX3_holdsRow_0
  refine ef_aload_n (q := 1) 0 dX3_holdsRow_0 rfl rfl rfl ?_
  refine ef_getI (x := s.1 0 0) (q := 4) rfl fl3_9 rfl rfl dX3_holdsRow_1 rfl ?_
  refine ef_if (pt := 19) (pf := 7) (fun _ _ => ev_if_lt (tgt := 19) dX3_holdsRow_4 (by decide)) (fun h1 => ?_) (fun h1 => ?_)
  · refine ef_iconst (v := (0 : Int32)) (q := 20) dX3_holdsRow_19 (by decide) rfl ?_
    exact ef_zretc (x := (0 : Int32)) (by decide) rfl dX3_holdsRow_20
  · refine ef_aload_n (q := 8) 0 dX3_holdsRow_7 rfl rfl rfl ?_
    refine ef_getI (x := s.1 0 0) (q := 11) rfl fl3_9 rfl rfl dX3_holdsRow_8 rfl ?_
    refine ef_iconst (v := (4 : Int32)) (q := 12) dX3_holdsRow_11 (by decide) rfl ?_
    refine ef_if (pt := 19) (pf := 15) (fun _ _ => ev_icmp_gt (tgt := 19) dX3_holdsRow_12 (by decide)) (fun h2 => ?_) (fun h2 => ?_)
    · refine ef_iconst (v := (0 : Int32)) (q := 20) dX3_holdsRow_19 (by decide) rfl ?_
      exact ef_zretc (x := (0 : Int32)) (by decide) rfl dX3_holdsRow_20
    · refine ef_iconst (v := (1 : Int32)) (q := 16) dX3_holdsRow_15 (by decide) rfl ?_
      refine ef_goto (tgt := 20) dX3_holdsRow_16 (by decide) ?_
      exact ef_zretc (x := (1 : Int32)) (by decide) rfl dX3_holdsRow_20
theorem okX3_holdsRow : MtF 0 mX3_holdsRow lyS rvI (fun _ pl => [.ref (pl 0)]) (fX3_holdsRow) := by
  refine MtF.of (by decide +kernel) rfl (fun _ pl => Nat.le_of_ble_eq_true rfl) (fun G pl h0 s => ?_)
  refine ef_sub (lv := [(0, .ref (pl 0))]) (lv' := [(0, .ref (pl 0))]) [0] rfl ?_
  exact okX3_holdsRow_0  s
-- X3_lickerNumber
theorem dX3_lickerNumber_0 : decode cX3_lickerNumber 0 = .ok (.aload_n 0, 1) := by decide +kernel
theorem dX3_lickerNumber_1 : decode cX3_lickerNumber 1 = .ok (.getfield 9, 3) := by decide +kernel
theorem dX3_lickerNumber_4 : decode cX3_lickerNumber 4 = .ok (.bipush 10, 2) := by decide +kernel
theorem dX3_lickerNumber_6 : decode cX3_lickerNumber 6 = .ok (.if_icmp .lt 13, 3) := by decide +kernel
theorem dX3_lickerNumber_9 : decode cX3_lickerNumber 9 = .ok (.aload_n 0, 1) := by decide +kernel
theorem dX3_lickerNumber_10 : decode cX3_lickerNumber 10 = .ok (.getfield 9, 3) := by decide +kernel
theorem dX3_lickerNumber_13 : decode cX3_lickerNumber 13 = .ok (.bipush 10, 2) := by decide +kernel
theorem dX3_lickerNumber_15 : decode cX3_lickerNumber 15 = .ok (.isub, 1) := by decide +kernel
theorem dX3_lickerNumber_16 : decode cX3_lickerNumber 16 = .ok (.goto 4, 3) := by decide +kernel
theorem dX3_lickerNumber_19 : decode cX3_lickerNumber 19 = .ok (.iconst (-1), 1) := by decide +kernel
theorem dX3_lickerNumber_20 : decode cX3_lickerNumber 20 = .ok (.ireturn, 1) := by decide +kernel
def fX3_lickerNumber_0 (s : SS) : Option (Int32 × SS) := if (s.1 0 0) < (10 : Int32) then (some ((-1 : Int32), s)) else (some ((s.1 0 0) - (10 : Int32), s))
def fX3_lickerNumber (s : SS) : Option (Int32 × SS) := fX3_lickerNumber_0 s
set_option maxRecDepth 100000 in
set_option maxHeartbeats 4000000 in
theorem okX3_lickerNumber_0 {G : GG} {pl : Nat → Nat} {h0 : PH} (s : SS) : EvF G 0 mX3_lickerNumber lyS pl h0 rvI (fX3_lickerNumber_0 s) 0 [(0, .ref (pl 0))] [] s := by
  unfold fX3_lickerNumber_0
  refine ef_aload_n (q := 1) 0 dX3_lickerNumber_0 rfl rfl rfl ?_
  refine ef_getI (x := s.1 0 0) (q := 4) rfl fl3_9 rfl rfl dX3_lickerNumber_1 rfl ?_
  refine ef_bipush (v := (10 : Int32)) (q := 6) dX3_lickerNumber_4 (by decide) rfl ?_
  refine ef_if (pt := 19) (pf := 9) (fun _ _ => ev_icmp_lt (tgt := 19) dX3_lickerNumber_6 (by decide)) (fun h1 => ?_) (fun h1 => ?_)
  · refine ef_iconst (v := (-1 : Int32)) (q := 20) dX3_lickerNumber_19 (by decide) rfl ?_
    exact ef_iret rfl dX3_lickerNumber_20
  · refine ef_aload_n (q := 10) 0 dX3_lickerNumber_9 rfl rfl rfl ?_
    refine ef_getI (x := s.1 0 0) (q := 13) rfl fl3_9 rfl rfl dX3_lickerNumber_10 rfl ?_
    refine ef_bipush (v := (10 : Int32)) (q := 15) dX3_lickerNumber_13 (by decide) rfl ?_
    refine ef_isub (q := 16) dX3_lickerNumber_15 rfl ?_
    refine ef_goto (tgt := 20) dX3_lickerNumber_16 (by decide) ?_
    exact ef_iret rfl dX3_lickerNumber_20
theorem okX3_lickerNumber : MtF 0 mX3_lickerNumber lyS rvI (fun _ pl => [.ref (pl 0)]) (fX3_lickerNumber) := by
  refine MtF.of (by decide +kernel) rfl (fun _ pl => Nat.le_of_ble_eq_true rfl) (fun G pl h0 s => ?_)
  refine ef_sub (lv := [(0, .ref (pl 0))]) (lv' := [(0, .ref (pl 0))]) [0] rfl ?_
  exact okX3_lickerNumber_0  s
-- X3_put
theorem dX3_put_0 : decode cX3_put 0 = .ok (.aload_n 0, 1) := by decide +kernel
theorem dX3_put_1 : decode cX3_put 1 = .ok (.getfield 9, 3) := by decide +kernel
theorem dX3_put_4 : decode cX3_put 4 = .ok (.tableswitch 80 0 3 #[32, 45, 58, 70], 32) := by decide +kernel
theorem dX3_put_36 : decode cX3_put 36 = .ok (.aload_n 0, 1) := by decide +kernel
theorem dX3_put_37 : decode cX3_put 37 = .ok (.getfield 18, 3) := by decide +kernel
theorem dX3_put_40 : decode cX3_put 40 = .ok (.iload_n 1, 1) := by decide +kernel
theorem dX3_put_41 : decode cX3_put 41 = .ok (.lload_n 2, 1) := by decide +kernel
theorem dX3_put_42 : decode cX3_put 42 = .ok (.l2i, 1) := by decide +kernel
theorem dX3_put_43 : decode cX3_put 43 = .ok (.i2b, 1) := by decide +kernel
theorem dX3_put_44 : decode cX3_put 44 = .ok (.i2l, 1) := by decide +kernel
theorem dX3_put_45 : decode cX3_put 45 = .ok (.lastore, 1) := by decide +kernel
theorem dX3_put_46 : decode cX3_put 46 = .ok (.goto 55, 3) := by decide +kernel
theorem dX3_put_49 : decode cX3_put 49 = .ok (.aload_n 0, 1) := by decide +kernel
theorem dX3_put_50 : decode cX3_put 50 = .ok (.getfield 18, 3) := by decide +kernel
theorem dX3_put_53 : decode cX3_put 53 = .ok (.iload_n 1, 1) := by decide +kernel
theorem dX3_put_54 : decode cX3_put 54 = .ok (.lload_n 2, 1) := by decide +kernel
theorem dX3_put_55 : decode cX3_put 55 = .ok (.l2i, 1) := by decide +kernel
theorem dX3_put_56 : decode cX3_put 56 = .ok (.i2s, 1) := by decide +kernel
theorem dX3_put_57 : decode cX3_put 57 = .ok (.i2l, 1) := by decide +kernel
theorem dX3_put_58 : decode cX3_put 58 = .ok (.lastore, 1) := by decide +kernel
theorem dX3_put_59 : decode cX3_put 59 = .ok (.goto 42, 3) := by decide +kernel
theorem dX3_put_62 : decode cX3_put 62 = .ok (.aload_n 0, 1) := by decide +kernel
theorem dX3_put_63 : decode cX3_put 63 = .ok (.getfield 18, 3) := by decide +kernel
theorem dX3_put_66 : decode cX3_put 66 = .ok (.iload_n 1, 1) := by decide +kernel
theorem dX3_put_67 : decode cX3_put 67 = .ok (.lload_n 2, 1) := by decide +kernel
theorem dX3_put_68 : decode cX3_put 68 = .ok (.l2i, 1) := by decide +kernel
theorem dX3_put_69 : decode cX3_put 69 = .ok (.i2l, 1) := by decide +kernel
theorem dX3_put_70 : decode cX3_put 70 = .ok (.lastore, 1) := by decide +kernel
theorem dX3_put_71 : decode cX3_put 71 = .ok (.goto 30, 3) := by decide +kernel
theorem dX3_put_74 : decode cX3_put 74 = .ok (.aload_n 0, 1) := by decide +kernel
theorem dX3_put_75 : decode cX3_put 75 = .ok (.getfield 18, 3) := by decide +kernel
theorem dX3_put_78 : decode cX3_put 78 = .ok (.iload_n 1, 1) := by decide +kernel
theorem dX3_put_79 : decode cX3_put 79 = .ok (.lload_n 2, 1) := by decide +kernel
theorem dX3_put_80 : decode cX3_put 80 = .ok (.lastore, 1) := by decide +kernel
theorem dX3_put_81 : decode cX3_put 81 = .ok (.goto 20, 3) := by decide +kernel
theorem dX3_put_84 : decode cX3_put 84 = .ok (.aload_n 0, 1) := by decide +kernel
theorem dX3_put_85 : decode cX3_put 85 = .ok (.getfield 18, 3) := by decide +kernel
theorem dX3_put_88 : decode cX3_put 88 = .ok (.iload_n 1, 1) := by decide +kernel
theorem dX3_put_89 : decode cX3_put 89 = .ok (.lload_n 2, 1) := by decide +kernel
theorem dX3_put_90 : decode cX3_put 90 = .ok (.lconst 0, 1) := by decide +kernel
theorem dX3_put_91 : decode cX3_put 91 = .ok (.lcmp, 1) := by decide +kernel
theorem dX3_put_92 : decode cX3_put 92 = .ok (.ifCond .eq 7, 3) := by decide +kernel
theorem dX3_put_95 : decode cX3_put 95 = .ok (.lconst 1, 1) := by decide +kernel
theorem dX3_put_96 : decode cX3_put 96 = .ok (.goto 4, 3) := by decide +kernel
theorem dX3_put_99 : decode cX3_put 99 = .ok (.lconst 0, 1) := by decide +kernel
theorem dX3_put_100 : decode cX3_put 100 = .ok (.lastore, 1) := by decide +kernel
theorem dX3_put_101 : decode cX3_put 101 = .ok (.return_, 1) := by decide +kernel
def fX3_put_100 (y1 : Int32) (y2 : Int64) (s : SS) : Option (Unit × SS) := if ixB y1 40 then (some ((), wrL s 1 y1.toNatClampNeg y2)) else none
def fX3_put_0 (x1 : Int32) (x2 : Int64) (s : SS) : Option (Unit × SS) := if (s.1 0 0) = (0 : Int32) then (if ixB x1 40 then (some ((), wrL s 1 x1.toNatClampNeg x2.toInt32.toInt8.toInt32.toInt64)) else none) else (if (s.1 0 0) = (1 : Int32) then (if ixB x1 40 then (some ((), wrL s 1 x1.toNatClampNeg x2.toInt32.toInt16.toInt32.toInt64)) else none) else (if (s.1 0 0) = (2 : Int32) then (if ixB x1 40 then (some ((), wrL s 1 x1.toNatClampNeg x2.toInt32.toInt64)) else none) else (if (s.1 0 0) = (3 : Int32) then (if ixB x1 40 then (some ((), wrL s 1 x1.toNatClampNeg x2)) else none) else (if (lg_cmp x2 (0 : Int64)) = 0 then (fX3_put_100 x1 (0 : Int64) s) else (fX3_put_100 x1 (1 : Int64) s)))))
def fX3_put (x1 : Int32) (x2 : Int64) (s : SS) : Option (Unit × SS) := fX3_put_0 x1 x2 s
set_option maxRecDepth 100000 in
set_option maxHeartbeats 4000000 in
theorem okX3_put_100 {G : GG} {pl : Nat → Nat} {h0 : PH} (y1 : Int32) (y2 : Int64) (s : SS) : EvF G 0 mX3_put lyS pl h0 rvU (fX3_put_100 y1 y2 s) 100 [] [.long y2, .int y1, .ref (pl 1)] s := by
  unfold fX3_put_100
  refine ef_guard (fun g1 => ?_)
  refine ef_lastore (j := y1.toNatClampNeg) (q := 101) rfl g1 dX3_put_100 rfl rfl ?_
  exact ef_vret rfl dX3_put_101
set_option maxRecDepth 100000 in
set_option maxHeartbeats 4000000 in
theorem okX3_put_0 {G : GG} {pl : Nat → Nat} {h0 : PH} (x1 : Int32) (x2 : Int64) (s : SS) : EvF G 0 mX3_put lyS pl h0 rvU (fX3_put_0 x1 x2 s) 0 [(0, .ref (pl 0)), (1, .int x1), (2, .long x2)] [] s := by
  unfold fX3_put_0
  refine ef_aload_n (q := 1) 0 dX3_put_0 rfl rfl rfl ?_
  refine ef_getI (x := s.1 0 0) (q := 4) rfl fl3_9 rfl rfl dX3_put_1 rfl ?_
  refine ef_dec (fun h1 => ?_) (fun h1 => ?_)
  · refine ef_of (fun _ _ => ev_tableIn (tgt := 36) dX3_put_4 (by rw [h1]; decide) (by rw [h1]; decide) (off := 32) (by rw [h1]; rfl) (by decide)) ?_
    refine ef_aload_n (q := 37) 0 dX3_put_36 rfl rfl rfl ?_
    refine ef_getR (t := 1) (q := 40) rfl fl3_18 rfl rfl dX3_put_37 rfl ?_
    refine ef_iload_n (q := 41) 1 dX3_put_40 rfl rfl rfl ?_
    refine ef_lload_n (q := 42) 2 dX3_put_41 rfl rfl rfl ?_
    refine ef_l2i (v := x2.toInt32) (q := 43) dX3_put_42 rfl rfl ?_
    refine ef_i2b (v := x2.toInt32.toInt8.toInt32) (q := 44) dX3_put_43 rfl rfl ?_
    refine ef_i2l (v := x2.toInt32.toInt8.toInt32.toInt64) (q := 45) dX3_put_44 rfl rfl ?_
    refine ef_guard (fun g2 => ?_)
    refine ef_lastore (j := x1.toNatClampNeg) (q := 46) rfl g2 dX3_put_45 rfl rfl ?_
    refine ef_goto (tgt := 101) dX3_put_46 (by decide) ?_
    exact ef_vret rfl dX3_put_101
  refine ef_dec (fun h3 => ?_) (fun h3 => ?_)
  · refine ef_of (fun _ _ => ev_tableIn (tgt := 49) dX3_put_4 (by rw [h3]; decide) (by rw [h3]; decide) (off := 45) (by rw [h3]; rfl) (by decide)) ?_
    refine ef_aload_n (q := 50) 0 dX3_put_49 rfl rfl rfl ?_
    refine ef_getR (t := 1) (q := 53) rfl fl3_18 rfl rfl dX3_put_50 rfl ?_
    refine ef_iload_n (q := 54) 1 dX3_put_53 rfl rfl rfl ?_
    refine ef_lload_n (q := 55) 2 dX3_put_54 rfl rfl rfl ?_
    refine ef_l2i (v := x2.toInt32) (q := 56) dX3_put_55 rfl rfl ?_
    refine ef_i2s (v := x2.toInt32.toInt16.toInt32) (q := 57) dX3_put_56 rfl rfl ?_
    refine ef_i2l (v := x2.toInt32.toInt16.toInt32.toInt64) (q := 58) dX3_put_57 rfl rfl ?_
    refine ef_guard (fun g4 => ?_)
    refine ef_lastore (j := x1.toNatClampNeg) (q := 59) rfl g4 dX3_put_58 rfl rfl ?_
    refine ef_goto (tgt := 101) dX3_put_59 (by decide) ?_
    exact ef_vret rfl dX3_put_101
  refine ef_dec (fun h5 => ?_) (fun h5 => ?_)
  · refine ef_of (fun _ _ => ev_tableIn (tgt := 62) dX3_put_4 (by rw [h5]; decide) (by rw [h5]; decide) (off := 58) (by rw [h5]; rfl) (by decide)) ?_
    refine ef_aload_n (q := 63) 0 dX3_put_62 rfl rfl rfl ?_
    refine ef_getR (t := 1) (q := 66) rfl fl3_18 rfl rfl dX3_put_63 rfl ?_
    refine ef_iload_n (q := 67) 1 dX3_put_66 rfl rfl rfl ?_
    refine ef_lload_n (q := 68) 2 dX3_put_67 rfl rfl rfl ?_
    refine ef_l2i (v := x2.toInt32) (q := 69) dX3_put_68 rfl rfl ?_
    refine ef_i2l (v := x2.toInt32.toInt64) (q := 70) dX3_put_69 rfl rfl ?_
    refine ef_guard (fun g6 => ?_)
    refine ef_lastore (j := x1.toNatClampNeg) (q := 71) rfl g6 dX3_put_70 rfl rfl ?_
    refine ef_goto (tgt := 101) dX3_put_71 (by decide) ?_
    exact ef_vret rfl dX3_put_101
  refine ef_dec (fun h7 => ?_) (fun h7 => ?_)
  · refine ef_of (fun _ _ => ev_tableIn (tgt := 74) dX3_put_4 (by rw [h7]; decide) (by rw [h7]; decide) (off := 70) (by rw [h7]; rfl) (by decide)) ?_
    refine ef_aload_n (q := 75) 0 dX3_put_74 rfl rfl rfl ?_
    refine ef_getR (t := 1) (q := 78) rfl fl3_18 rfl rfl dX3_put_75 rfl ?_
    refine ef_iload_n (q := 79) 1 dX3_put_78 rfl rfl rfl ?_
    refine ef_lload_n (q := 80) 2 dX3_put_79 rfl rfl rfl ?_
    refine ef_guard (fun g8 => ?_)
    refine ef_lastore (j := x1.toNatClampNeg) (q := 81) rfl g8 dX3_put_80 rfl rfl ?_
    refine ef_goto (tgt := 101) dX3_put_81 (by decide) ?_
    exact ef_vret rfl dX3_put_101
  have hsw : (s.1 0 0 : Int32).toInt < 0 ∨ 3 < (s.1 0 0 : Int32).toInt := by
    have th1 := ne_toI (k := 0) h1 (by decide)
    have th3 := ne_toI (k := 1) h3 (by decide)
    have th5 := ne_toI (k := 2) h5 (by decide)
    have th7 := ne_toI (k := 3) h7 (by decide)
    omega
  refine ef_of (fun _ _ => ev_tableOut (tgt := 84) dX3_put_4 hsw (by decide)) ?_
  refine ef_aload_n (q := 85) 0 dX3_put_84 rfl rfl rfl ?_
  refine ef_getR (t := 1) (q := 88) rfl fl3_18 rfl rfl dX3_put_85 rfl ?_
  refine ef_iload_n (q := 89) 1 dX3_put_88 rfl rfl rfl ?_
  refine ef_lload_n (q := 90) 2 dX3_put_89 rfl rfl rfl ?_
  refine ef_lconst (v := (0 : Int64)) (q := 91) dX3_put_90 (by decide) rfl ?_
  refine ef_lcmp (q := 92) dX3_put_91 rfl ?_
  refine ef_if (pt := 99) (pf := 95) (fun _ _ => ev_if_eq (tgt := 99) dX3_put_92 (by decide)) (fun h9 => ?_) (fun h9 => ?_)
  · refine ef_lconst (v := (0 : Int64)) (q := 100) dX3_put_99 (by decide) rfl ?_
    refine ef_sub (lv' := []) [] rfl ?_
    exact okX3_put_100 x1 (0 : Int64) s
  · refine ef_lconst (v := (1 : Int64)) (q := 96) dX3_put_95 (by decide) rfl ?_
    refine ef_goto (tgt := 100) dX3_put_96 (by decide) ?_
    refine ef_sub (lv' := []) [] rfl ?_
    exact okX3_put_100 x1 (1 : Int64) s
theorem okX3_put (x1 : Int32) (x2 : Int64) : MtF 0 mX3_put lyS rvU (fun _ pl => [.ref (pl 0), .int x1, .long x2]) (fX3_put x1 x2) := by
  refine MtF.of (by decide +kernel) rfl (fun _ pl => Nat.le_of_ble_eq_true rfl) (fun G pl h0 s => ?_)
  refine ef_sub (lv := [(0, .ref (pl 0)), (1, .int x1), (2, .long x2)]) (lv' := [(0, .ref (pl 0)), (1, .int x1), (2, .long x2)]) [0, 1, 2] rfl ?_
  exact okX3_put_0  x1 x2 s
