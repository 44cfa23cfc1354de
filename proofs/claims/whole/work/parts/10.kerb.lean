-- X1_append
theorem dX1_append_0 : decode cX1_append 0 = .ok (.aload_n 0, 1) := by decide +kernel
theorem dX1_append_1 : decode cX1_append 1 = .ok (.getfield 15, 3) := by decide +kernel
theorem dX1_append_4 : decode cX1_append 4 = .ok (.sipush 250, 3) := by decide +kernel
theorem dX1_append_7 : decode cX1_append 7 = .ok (.if_icmp .ge 23, 3) := by decide +kernel
theorem dX1_append_10 : decode cX1_append 10 = .ok (.aload_n 0, 1) := by decide +kernel
theorem dX1_append_11 : decode cX1_append 11 = .ok (.getfield 11, 3) := by decide +kernel
theorem dX1_append_14 : decode cX1_append 14 = .ok (.aload_n 0, 1) := by decide +kernel
theorem dX1_append_15 : decode cX1_append 15 = .ok (.getfield 15, 3) := by decide +kernel
theorem dX1_append_18 : decode cX1_append 18 = .ok (.iload_n 1, 1) := by decide +kernel
theorem dX1_append_19 : decode cX1_append 19 = .ok (.iastore, 1) := by decide +kernel
theorem dX1_append_20 : decode cX1_append 20 = .ok (.aload_n 0, 1) := by decide +kernel
theorem dX1_append_21 : decode cX1_append 21 = .ok (.dup, 1) := by decide +kernel
theorem dX1_append_22 : decode cX1_append 22 = .ok (.getfield 15, 3) := by decide +kernel
theorem dX1_append_25 : decode cX1_append 25 = .ok (.iconst 1, 1) := by decide +kernel
theorem dX1_append_26 : decode cX1_append 26 = .ok (.iadd, 1) := by decide +kernel
theorem dX1_append_27 : decode cX1_append 27 = .ok (.putfield 15, 3) := by decide +kernel
theorem dX1_append_30 : decode cX1_append 30 = .ok (.return_, 1) := by decide +kernel
def fX1_append_0 (x1 : Int32) (s : SS) : Option (Unit × SS) := if (250 : Int32) ≤ (s.1 0 1) then (some ((), s)) else (if ixB (s.1 0 1) 250 then (some ((), wrI (wrI s 1 ((s.1 0 1).toNatClampNeg) x1) 0 1 ((s.1 0 1) + (1 : Int32)))) else none)
def fX1_append (x1 : Int32) (s : SS) : Option (Unit × SS) := fX1_append_0 x1 s
set_option maxRecDepth 100000 in
set_option maxHeartbeats 4000000 in
theorem okX1_append_0 {G : GG} {pl : Nat → Nat} {h0 : PH} (x1 : Int32) (s : SS) : EvF G 0 mX1_append lyK pl h0 rvU (fX1_append_0 x1 s) 0 [(0, .ref (pl 0)), (1, .int x1)] [] s := by
  unfold fX1_append_0
  refine ef_aload_n (q := 1) 0 dX1_append_0 rfl rfl rfl ?_
  refine ef_getI (x := s.1 0 1) (q := 4) rfl fl1_15 rfl rfl dX1_append_1 rfl ?_
  refine ef_sipush (v := (250 : Int32)) (q := 7) dX1_append_4 (by decide) rfl ?_
  refine ef_if (pt := 30) (pf := 10) (fun _ _ => ev_icmp_ge (tgt := 30) dX1_append_7 (by decide)) (fun h1 => ?_) (fun h1 => ?_)
  · exact ef_vret rfl dX1_append_30
  · refine ef_aload_n (q := 11) 0 dX1_append_10 rfl rfl rfl ?_
    refine ef_getR (t := 1) (q := 14) rfl fl1_11 rfl rfl dX1_append_11 rfl ?_
    refine ef_aload_n (q := 15) 0 dX1_append_14 rfl rfl rfl ?_
    refine ef_getI (x := s.1 0 1) (q := 18) rfl fl1_15 rfl rfl dX1_append_15 rfl ?_
    refine ef_iload_n (q := 19) 1 dX1_append_18 rfl rfl rfl ?_
    refine ef_guard (fun g2 => ?_)
    refine ef_iastore (j := (s.1 0 1).toNatClampNeg) (q := 20) rfl g2 dX1_append_19 rfl rfl ?_
    refine ef_aload_n (q := 21) 0 dX1_append_20 rfl rfl rfl ?_
    refine ef_dup (q := 22) dX1_append_21 rfl rfl ?_
    refine ef_getI (x := s.1 0 1) (q := 25) rfl fl1_15 rfl rfl dX1_append_22 rfl ?_
    refine ef_iconst (v := (1 : Int32)) (q := 26) dX1_append_25 (by decide) rfl ?_
    refine ef_iadd (q := 27) dX1_append_26 rfl ?_
    refine ef_putI (q := 30) rfl fl1_15 rfl rfl dX1_append_27 rfl ?_
    exact ef_vret rfl dX1_append_30
theorem okX1_append (x1 : Int32) : MtF 0 mX1_append lyK rvU (fun _ pl => [.ref (pl 0), .int x1]) (fX1_append x1) := by
  refine MtF.of (by decide +kernel) rfl (fun _ pl => Nat.le_of_ble_eq_true rfl) (fun G pl h0 s => ?_)
  refine ef_sub (lv := [(0, .ref (pl 0)), (1, .int x1)]) (lv' := [(0, .ref (pl 0)), (1, .int x1)]) [0, 1] rfl ?_
  exact okX1_append_0  x1 s
-- X1_byteAt
theorem dX1_byteAt_0 : decode cX1_byteAt 0 = .ok (.iload_n 1, 1) := by decide +kernel
theorem dX1_byteAt_1 : decode cX1_byteAt 1 = .ok (.ifCond .lt 27, 3) := by decide +kernel
theorem dX1_byteAt_4 : decode cX1_byteAt 4 = .ok (.iload_n 1, 1) := by decide +kernel
theorem dX1_byteAt_5 : decode cX1_byteAt 5 = .ok (.aload_n 0, 1) := by decide +kernel
theorem dX1_byteAt_6 : decode cX1_byteAt 6 = .ok (.getfield 15, 3) := by decide +kernel
theorem dX1_byteAt_9 : decode cX1_byteAt 9 = .ok (.if_icmp .ge 19, 3) := by decide +kernel
theorem dX1_byteAt_12 : decode cX1_byteAt 12 = .ok (.iload_n 1, 1) := by decide +kernel
theorem dX1_byteAt_13 : decode cX1_byteAt 13 = .ok (.sipush 250, 3) := by decide +kernel
theorem dX1_byteAt_16 : decode cX1_byteAt 16 = .ok (.if_icmp .ge 12, 3) := by decide +kernel
theorem dX1_byteAt_19 : decode cX1_byteAt 19 = .ok (.aload_n 0, 1) := by decide +kernel
theorem dX1_byteAt_20 : decode cX1_byteAt 20 = .ok (.getfield 11, 3) := by decide +kernel
theorem dX1_byteAt_23 : decode cX1_byteAt 23 = .ok (.iload_n 1, 1) := by decide +kernel
theorem dX1_byteAt_24 : decode cX1_byteAt 24 = .ok (.iaload, 1) := by decide +kernel
theorem dX1_byteAt_25 : decode cX1_byteAt 25 = .ok (.goto 4, 3) := by decide +kernel
theorem dX1_byteAt_28 : decode cX1_byteAt 28 = .ok (.iconst 0, 1) := by decide +kernel
theorem dX1_byteAt_29 : decode cX1_byteAt 29 = .ok (.ireturn, 1) := by decide +kernel
def fX1_byteAt_0 (x1 : Int32) (s : SS) : Option (Int32 × SS) := if x1 < 0 then (some ((0 : Int32), s)) else (if (s.1 0 1) ≤ x1 then (some ((0 : Int32), s)) else (if (250 : Int32) ≤ x1 then (some ((0 : Int32), s)) else (if ixB x1 250 then (some (s.1 1 x1.toNatClampNeg, s)) else none)))
def fX1_byteAt (x1 : Int32) (s : SS) : Option (Int32 × SS) := fX1_byteAt_0 x1 s
set_option maxRecDepth 100000 in
set_option maxHeartbeats 4000000 in
theorem okX1_byteAt_0 {G : GG} {pl : Nat → Nat} {h0 : PH} (x1 : Int32) (s : SS) : EvF G 0 mX1_byteAt lyK pl h0 rvI (fX1_byteAt_0 x1 s) 0 [(0, .ref (pl 0)), (1, .int x1)] [] s := by
  unfold fX1_byteAt_0
  refine ef_iload_n (q := 1) 1 dX1_byteAt_0 rfl rfl rfl ?_
  refine ef_if (pt := 28) (pf := 4) (fun _ _ => ev_if_lt (tgt := 28) dX1_byteAt_1 (by decide)) (fun h1 => ?_) (fun h1 => ?_)
  · refine ef_iconst (v := (0 : Int32)) (q := 29) dX1_byteAt_28 (by decide) rfl ?_
    exact ef_iret rfl dX1_byteAt_29
  · refine ef_iload_n (q := 5) 1 dX1_byteAt_4 rfl rfl rfl ?_
    refine ef_aload_n (q := 6) 0 dX1_byteAt_5 rfl rfl rfl ?_
    refine ef_getI (x := s.1 0 1) (q := 9) rfl fl1_15 rfl rfl dX1_byteAt_6 rfl ?_
    refine ef_if (pt := 28) (pf := 12) (fun _ _ => ev_icmp_ge (tgt := 28) dX1_byteAt_9 (by decide)) (fun h2 => ?_) (fun h2 => ?_)
    · refine ef_iconst (v := (0 : Int32)) (q := 29) dX1_byteAt_28 (by decide) rfl ?_
      exact ef_iret rfl dX1_byteAt_29
    · refine ef_iload_n (q := 13) 1 dX1_byteAt_12 rfl rfl rfl ?_
      refine ef_sipush (v := (250 : Int32)) (q := 16) dX1_byteAt_13 (by decide) rfl ?_
      refine ef_if (pt := 28) (pf := 19) (fun _ _ => ev_icmp_ge (tgt := 28) dX1_byteAt_16 (by decide)) (fun h3 => ?_) (fun h3 => ?_)
      · refine ef_iconst (v := (0 : Int32)) (q := 29) dX1_byteAt_28 (by decide) rfl ?_
        exact ef_iret rfl dX1_byteAt_29
      · refine ef_aload_n (q := 20) 0 dX1_byteAt_19 rfl rfl rfl ?_
        refine ef_getR (t := 1) (q := 23) rfl fl1_11 rfl rfl dX1_byteAt_20 rfl ?_
        refine ef_iload_n (q := 24) 1 dX1_byteAt_23 rfl rfl rfl ?_
        refine ef_guard (fun g4 => ?_)
        refine ef_iaload (x := s.1 1 x1.toNatClampNeg) (q := 25) rfl g4 dX1_byteAt_24 rfl rfl ?_
        refine ef_goto (tgt := 29) dX1_byteAt_25 (by decide) ?_
        exact ef_iret rfl dX1_byteAt_29
theorem okX1_byteAt (x1 : Int32) : MtF 0 mX1_byteAt lyK rvI (fun _ pl => [.ref (pl 0), .int x1]) (fX1_byteAt x1) := by
  refine MtF.of (by decide +kernel) rfl (fun _ pl => Nat.le_of_ble_eq_true rfl) (fun G pl h0 s => ?_)
  refine ef_sub (lv := [(0, .ref (pl 0)), (1, .int x1)]) (lv' := [(0, .ref (pl 0)), (1, .int x1)]) [0, 1] rfl ?_
  exact okX1_byteAt_0  x1 s
-- X1_isLetter
theorem dX1_isLetter_0 : decode cX1_isLetter 0 = .ok (.iload_n 0, 1) := by decide +kernel
theorem dX1_isLetter_1 : decode cX1_isLetter 1 = .ok (.bipush 97, 2) := by decide +kernel
theorem dX1_isLetter_3 : decode cX1_isLetter 3 = .ok (.if_icmp .lt 13, 3) := by decide +kernel
theorem dX1_isLetter_6 : decode cX1_isLetter 6 = .ok (.iload_n 0, 1) := by decide +kernel
theorem dX1_isLetter_7 : decode cX1_isLetter 7 = .ok (.bipush 122, 2) := by decide +kernel
theorem dX1_isLetter_9 : decode cX1_isLetter 9 = .ok (.if_icmp .gt 7, 3) := by decide +kernel
theorem dX1_isLetter_12 : decode cX1_isLetter 12 = .ok (.iconst 1, 1) := by decide +kernel
theorem dX1_isLetter_13 : decode cX1_isLetter 13 = .ok (.goto 4, 3) := by decide +kernel
theorem dX1_isLetter_16 : decode cX1_isLetter 16 = .ok (.iconst 0, 1) := by decide +kernel
theorem dX1_isLetter_17 : decode cX1_isLetter 17 = .ok (.ireturn, 1) := by decide +kernel
def fX1_isLetter_0 (x0 : Int32) (s : SS) : Option (Int32 × SS) := if x0 < (97 : Int32) then (some ((0 : Int32), s)) else (if (122 : Int32) < x0 then (some ((0 : Int32), s)) else (some ((1 : Int32), s)))
def fX1_isLetter (x0 : Int32) (s : SS) : Option (Int32 × SS) := fX1_isLetter_0 x0 s
set_option maxRecDepth 100000 in
set_option maxHeartbeats 4000000 in
theorem okX1_isLetter_0 {G : GG} {pl : Nat → Nat} {h0 : PH} (x0 : Int32) (s : SS) : EvF G 0 mX1_isLetter ly pl h0 rvI (fX1_isLetter_0 x0 s) 0 [(0, .int x0)] [] s := by
  unfold fX1_isLetter_0
  refine ef_iload_n (q := 1) 0 dX1_isLetter_0 rfl rfl rfl ?_
  refine ef_bipush (v := (97 : Int32)) (q := 3) dX1_isLetter_1 (by decide) rfl ?_
  refine ef_if (pt := 16) (pf := 6) (fun _ _ => ev_icmp_lt (tgt := 16) dX1_isLetter_3 (by decide)) (fun h1 => ?_) (fun h1 => ?_)
  · refine ef_iconst (v := (0 : Int32)) (q := 17) dX1_isLetter_16 (by decide) rfl ?_
    exact ef_zretc (x := (0 : Int32)) (by decide) rfl dX1_isLetter_17
  · refine ef_iload_n (q := 7) 0 dX1_isLetter_6 rfl rfl rfl ?_
    refine ef_bipush (v := (122 : Int32)) (q := 9) dX1_isLetter_7 (by decide) rfl ?_
    refine ef_if (pt := 16) (pf := 12) (fun _ _ => ev_icmp_gt (tgt := 16) dX1_isLetter_9 (by decide)) (fun h2 => ?_) (fun h2 => ?_)
    · refine ef_iconst (v := (0 : Int32)) (q := 17) dX1_isLetter_16 (by decide) rfl ?_
      exact ef_zretc (x := (0 : Int32)) (by decide) rfl dX1_isLetter_17
    · refine ef_iconst (v := (1 : Int32)) (q := 13) dX1_isLetter_12 (by decide) rfl ?_
      refine ef_goto (tgt := 17) dX1_isLetter_13 (by decide) ?_
      exact ef_zretc (x := (1 : Int32)) (by decide) rfl dX1_isLetter_17
theorem okX1_isLetter (x0 : Int32) : MtF 0 mX1_isLetter ly rvI (fun _ pl => [.int x0]) (fX1_isLetter x0) := by
  refine MtF.of (by decide +kernel) rfl (fun _ pl => Nat.le_of_ble_eq_true rfl) (fun G pl h0 s => ?_)
  refine ef_sub (lv := [(0, .int x0)]) (lv' := [(0, .int x0)]) [0] rfl ?_
  exact okX1_isLetter_0  x0 s
-- X1_isDigit
theorem dX1_isDigit_0 : decode cX1_isDigit 0 = .ok (.iload_n 0, 1) := by decide +kernel
theorem dX1_isDigit_1 : decode cX1_isDigit 1 = .ok (.bipush 48, 2) := by decide +kernel
theorem dX1_isDigit_3 : decode cX1_isDigit 3 = .ok (.if_icmp .lt 13, 3) := by decide +kernel
theorem dX1_isDigit_6 : decode cX1_isDigit 6 = .ok (.iload_n 0, 1) := by decide +kernel
theorem dX1_isDigit_7 : decode cX1_isDigit 7 = .ok (.bipush 57, 2) := by decide +kernel
theorem dX1_isDigit_9 : decode cX1_isDigit 9 = .ok (.if_icmp .gt 7, 3) := by decide +kernel
theorem dX1_isDigit_12 : decode cX1_isDigit 12 = .ok (.iconst 1, 1) := by decide +kernel
theorem dX1_isDigit_13 : decode cX1_isDigit 13 = .ok (.goto 4, 3) := by decide +kernel
theorem dX1_isDigit_16 : decode cX1_isDigit 16 = .ok (.iconst 0, 1) := by decide +kernel
theorem dX1_isDigit_17 : decode cX1_isDigit 17 = .ok (.ireturn, 1) := by decide +kernel
def fX1_isDigit_0 (x0 : Int32) (s : SS) : Option (Int32 × SS) := if x0 < (48 : Int32) then (some ((0 : Int32), s)) else (if (57 : Int32) < x0 then (some ((0 : Int32), s)) else (some ((1 : Int32), s)))
def fX1_isDigit (x0 : Int32) (s : SS) : Option (Int32 × SS) := fX1_isDigit_0 x0 s
set_option maxRecDepth 100000 in
set_option maxHeartbeats 4000000 in
theorem okX1_isDigit_0 {G : GG} {pl : Nat → Nat} {h0 : PH} (x0 : Int32) (s : SS) : EvF G 0 mX1_isDigit ly pl h0 rvI (fX1_isDigit_0 x0 s) 0 [(0, .int x0)] [] s := by
  unfold fX1_isDigit_0
  refine ef_iload_n (q := 1) 0 dX1_isDigit_0 rfl rfl rfl ?_
  refine ef_bipush (v := (48 : Int32)) (q := 3) dX1_isDigit_1 (by decide) rfl ?_
  refine ef_if (pt := 16) (pf := 6) (fun _ _ => ev_icmp_lt (tgt := 16) dX1_isDigit_3 (by decide)) (fun h1 => ?_) (fun h1 => ?_)
  · refine ef_iconst (v := (0 : Int32)) (q := 17) dX1_isDigit_16 (by decide) rfl ?_
    exact ef_zretc (x := (0 : Int32)) (by decide) rfl dX1_isDigit_17
  · refine ef_iload_n (q := 7) 0 dX1_isDigit_6 rfl rfl rfl ?_
    refine ef_bipush (v := (57 : Int32)) (q := 9) dX1_isDigit_7 (by decide) rfl ?_
    refine ef_if (pt := 16) (pf := 12) (fun _ _ => ev_icmp_gt (tgt := 16) dX1_isDigit_9 (by decide)) (fun h2 => ?_) (fun h2 => ?_)
    · refine ef_iconst (v := (0 : Int32)) (q := 17) dX1_isDigit_16 (by decide) rfl ?_
      exact ef_zretc (x := (0 : Int32)) (by decide) rfl dX1_isDigit_17
    · refine ef_iconst (v := (1 : Int32)) (q := 13) dX1_isDigit_12 (by decide) rfl ?_
      refine ef_goto (tgt := 17) dX1_isDigit_13 (by decide) ?_
      exact ef_zretc (x := (1 : Int32)) (by decide) rfl dX1_isDigit_17
theorem okX1_isDigit (x0 : Int32) : MtF 0 mX1_isDigit ly rvI (fun _ pl => [.int x0]) (fX1_isDigit x0) := by
  refine MtF.of (by decide +kernel) rfl (fun _ pl => Nat.le_of_ble_eq_true rfl) (fun G pl h0 s => ?_)
  refine ef_sub (lv := [(0, .int x0)]) (lv' := [(0, .int x0)]) [0] rfl ?_
  exact okX1_isDigit_0  x0 s
-- X1_readNumber
theorem dX1_readNumber_0 : decode cX1_readNumber 0 = .ok (.aload_n 0, 1) := by decide +kernel
theorem dX1_readNumber_1 : decode cX1_readNumber 1 = .ok (.iconst 0, 1) := by decide +kernel
theorem dX1_readNumber_2 : decode cX1_readNumber 2 = .ok (.putfield 28, 3) := by decide +kernel
theorem dX1_readNumber_5 : decode cX1_readNumber 5 = .ok (.aload_n 0, 1) := by decide +kernel
theorem dX1_readNumber_6 : decode cX1_readNumber 6 = .ok (.getfield 25, 3) := by decide +kernel
theorem dX1_readNumber_9 : decode cX1_readNumber 9 = .ok (.aload_n 0, 1) := by decide +kernel
theorem dX1_readNumber_10 : decode cX1_readNumber 10 = .ok (.getfield 15, 3) := by decide +kernel
theorem dX1_readNumber_13 : decode cX1_readNumber 13 = .ok (.if_icmp .ge 66, 3) := by decide +kernel
theorem dX1_readNumber_16 : decode cX1_readNumber 16 = .ok (.aload_n 0, 1) := by decide +kernel
theorem dX1_readNumber_17 : decode cX1_readNumber 17 = .ok (.aload_n 0, 1) := by decide +kernel
theorem dX1_readNumber_18 : decode cX1_readNumber 18 = .ok (.getfield 25, 3) := by decide +kernel
theorem dX1_readNumber_21 : decode cX1_readNumber 21 = .ok (.invokevirtual 130, 3) := by decide +kernel
theorem dX1_readNumber_24 : decode cX1_readNumber 24 = .ok (.invokestatic 141, 3) := by decide +kernel
theorem dX1_readNumber_27 : decode cX1_readNumber 27 = .ok (.ifCond .eq 52, 3) := by decide +kernel
theorem dX1_readNumber_30 : decode cX1_readNumber 30 = .ok (.aload_n 0, 1) := by decide +kernel
theorem dX1_readNumber_31 : decode cX1_readNumber 31 = .ok (.getfield 25, 3) := by decide +kernel
theorem dX1_readNumber_34 : decode cX1_readNumber 34 = .ok (.aload_n 0, 1) := by decide +kernel
theorem dX1_readNumber_35 : decode cX1_readNumber 35 = .ok (.getfield 22, 3) := by decide +kernel
theorem dX1_readNumber_38 : decode cX1_readNumber 38 = .ok (.isub, 1) := by decide +kernel
theorem dX1_readNumber_39 : decode cX1_readNumber 39 = .ok (.iconst 2, 1) := by decide +kernel
theorem dX1_readNumber_40 : decode cX1_readNumber 40 = .ok (.if_icmp .ge 26, 3) := by decide +kernel
theorem dX1_readNumber_43 : decode cX1_readNumber 43 = .ok (.aload_n 0, 1) := by decide +kernel
theorem dX1_readNumber_44 : decode cX1_readNumber 44 = .ok (.aload_n 0, 1) := by decide +kernel
theorem dX1_readNumber_45 : decode cX1_readNumber 45 = .ok (.getfield 28, 3) := by decide +kernel
theorem dX1_readNumber_48 : decode cX1_readNumber 48 = .ok (.bipush 10, 2) := by decide +kernel
theorem dX1_readNumber_50 : decode cX1_readNumber 50 = .ok (.imul, 1) := by decide +kernel
theorem dX1_readNumber_51 : decode cX1_readNumber 51 = .ok (.aload_n 0, 1) := by decide +kernel
theorem dX1_readNumber_52 : decode cX1_readNumber 52 = .ok (.aload_n 0, 1) := by decide +kernel
theorem dX1_readNumber_53 : decode cX1_readNumber 53 = .ok (.getfield 25, 3) := by decide +kernel
theorem dX1_readNumber_56 : decode cX1_readNumber 56 = .ok (.invokevirtual 130, 3) := by decide +kernel
theorem dX1_readNumber_59 : decode cX1_readNumber 59 = .ok (.iadd, 1) := by decide +kernel
theorem dX1_readNumber_60 : decode cX1_readNumber 60 = .ok (.bipush 48, 2) := by decide +kernel
theorem dX1_readNumber_62 : decode cX1_readNumber 62 = .ok (.isub, 1) := by decide +kernel
theorem dX1_readNumber_63 : decode cX1_readNumber 63 = .ok (.putfield 28, 3) := by decide +kernel
theorem dX1_readNumber_66 : decode cX1_readNumber 66 = .ok (.aload_n 0, 1) := by decide +kernel
theorem dX1_readNumber_67 : decode cX1_readNumber 67 = .ok (.dup, 1) := by decide +kernel
theorem dX1_readNumber_68 : decode cX1_readNumber 68 = .ok (.getfield 25, 3) := by decide +kernel
theorem dX1_readNumber_71 : decode cX1_readNumber 71 = .ok (.iconst 1, 1) := by decide +kernel
theorem dX1_readNumber_72 : decode cX1_readNumber 72 = .ok (.iadd, 1) := by decide +kernel
theorem dX1_readNumber_73 : decode cX1_readNumber 73 = .ok (.putfield 25, 3) := by decide +kernel
theorem dX1_readNumber_76 : decode cX1_readNumber 76 = .ok (.goto (-71), 3) := by decide +kernel
theorem dX1_readNumber_79 : decode cX1_readNumber 79 = .ok (.return_, 1) := by decide +kernel
def fX1_readNumber_66 (rec_5 : SS → Option (Unit × SS)) (s : SS) : Option (Unit × SS) := rec_5 (wrI s 0 4 ((s.1 0 4) + (1 : Int32)))
def fX1_readNumber_5 : Nat → SS → Option (Unit × SS)
  | 0, _ => none
  | n + 1, s => if (s.1 0 1) ≤ (s.1 0 4) then (some ((), s)) else (((fX1_byteAt (s.1 0 4) s).bind fun z2 => ((fX1_isDigit z2.1 z2.2).bind fun z3 => if z3.1 = 0 then (some ((), z2.2)) else (if (2 : Int32) ≤ ((z2.2.1 0 4) - (z2.2.1 0 3)) then (fX1_readNumber_66 (fX1_readNumber_5 n) z2.2) else (((fX1_byteAt (z2.2.1 0 4) z2.2).bind fun z6 => fX1_readNumber_66 (fX1_readNumber_5 n) (wrI z6.2 0 5 ((((z2.2.1 0 5) * (10 : Int32)) + z6.1) - (48 : Int32)))))))))
def fX1_readNumber_0 (s : SS) : Option (Unit × SS) := fX1_readNumber_5 FU (wrI s 0 5 (0 : Int32))
def fX1_readNumber (s : SS) : Option (Unit × SS) := fX1_readNumber_0 s
set_option maxRecDepth 100000 in
set_option maxHeartbeats 4000000 in
theorem okX1_readNumber_66 {G : GG} {pl : Nat → Nat} {h0 : PH} (rec_5 : SS → Option (Unit × SS)) (hrec_5 : ∀ (s : SS), EvF G 1 mX1_readNumber lyK pl h0 rvU (rec_5 s) 5 [(0, .ref (pl 0))] [] s) (s : SS) : EvF G 1 mX1_readNumber lyK pl h0 rvU (fX1_readNumber_66 rec_5 s) 66 [(0, .ref (pl 0))] [] s := by
  unfold fX1_readNumber_66
  refine ef_aload_n (q := 67) 0 dX1_readNumber_66 rfl rfl rfl ?_
  refine ef_dup (q := 68) dX1_readNumber_67 rfl rfl ?_
  refine ef_getI (x := s.1 0 4) (q := 71) rfl fl1_25 rfl rfl dX1_readNumber_68 rfl ?_
  refine ef_iconst (v := (1 : Int32)) (q := 72) dX1_readNumber_71 (by decide) rfl ?_
  refine ef_iadd (q := 73) dX1_readNumber_72 rfl ?_
  refine ef_putI (q := 76) rfl fl1_25 rfl rfl dX1_readNumber_73 rfl ?_
  refine ef_goto (tgt := 5) dX1_readNumber_76 (by decide) ?_
  refine ef_sub (lv' := [(0, .ref (pl 0))]) [0] rfl ?_
  exact hrec_5 (wrI s 0 4 ((s.1 0 4) + (1 : Int32)))
set_option maxRecDepth 100000 in
set_option maxHeartbeats 4000000 in
theorem okX1_readNumber_5 {G : GG} {pl : Nat → Nat} {h0 : PH} : ∀ (n : Nat) (s : SS), EvF G 1 mX1_readNumber lyK pl h0 rvU (fX1_readNumber_5 n s) 5 [(0, .ref (pl 0))] [] s := by
  intro n
  induction n with
  | zero => intro s; rw [fX1_readNumber_5]; exact ef_none
  | succ n ih =>
    intro s
    rw [fX1_readNumber_5]
    refine ef_aload_n (q := 6) 0 dX1_readNumber_5 rfl rfl rfl ?_
    refine ef_getI (x := s.1 0 4) (q := 9) rfl fl1_25 rfl rfl dX1_readNumber_6 rfl ?_
    refine ef_aload_n (q := 10) 0 dX1_readNumber_9 rfl rfl rfl ?_
    refine ef_getI (x := s.1 0 1) (q := 13) rfl fl1_15 rfl rfl dX1_readNumber_10 rfl ?_
    refine ef_if (pt := 79) (pf := 16) (fun _ _ => ev_icmp_ge (tgt := 79) dX1_readNumber_13 (by decide)) (fun h1 => ?_) (fun h1 => ?_)
    · exact ef_vret rfl dX1_readNumber_79
    · refine ef_aload_n (q := 17) 0 dX1_readNumber_16 rfl rfl rfl ?_
      refine ef_aload_n (q := 18) 0 dX1_readNumber_17 rfl rfl rfl ?_
      refine ef_getI (x := s.1 0 4) (q := 21) rfl fl1_25 rfl rfl dX1_readNumber_18 rfl ?_
      refine ef_invVI0 (k := 0) (As := [.int (s.1 0 4)]) (rest := []) (q := 24) (okX1_byteAt (s.1 0 4)) rfl calX1_byteAt ml1_130 (by decide) rfl rfl rfl (Nat.le_of_ble_eq_true rfl) dX1_readNumber_21 rfl (fun z2 => ?_)
      refine ef_invPI0 (As := [.int z2.1]) (rest := []) (q := 27) (okX1_isDigit z2.1) rfl calX1_isDigit ml1_141 (by decide) rfl rfl (Nat.le_of_ble_eq_true rfl) dX1_readNumber_24 rfl (fun z3 => ?_)
      refine ef_if (pt := 79) (pf := 30) (fun _ _ => ev_if_eq (tgt := 79) dX1_readNumber_27 (by decide)) (fun h4 => ?_) (fun h4 => ?_)
      · exact ef_vret rfl dX1_readNumber_79
      · refine ef_aload_n (q := 31) 0 dX1_readNumber_30 rfl rfl rfl ?_
        refine ef_getI (x := z2.2.1 0 4) (q := 34) rfl fl1_25 rfl rfl dX1_readNumber_31 rfl ?_
        refine ef_aload_n (q := 35) 0 dX1_readNumber_34 rfl rfl rfl ?_
        refine ef_getI (x := z2.2.1 0 3) (q := 38) rfl fl1_22 rfl rfl dX1_readNumber_35 rfl ?_
        refine ef_isub (q := 39) dX1_readNumber_38 rfl ?_
        refine ef_iconst (v := (2 : Int32)) (q := 40) dX1_readNumber_39 (by decide) rfl ?_
        refine ef_if (pt := 66) (pf := 43) (fun _ _ => ev_icmp_ge (tgt := 66) dX1_readNumber_40 (by decide)) (fun h5 => ?_) (fun h5 => ?_)
        · refine ef_sub (lv' := [(0, .ref (pl 0))]) [0] rfl ?_
          exact okX1_readNumber_66 (fX1_readNumber_5 n) ih z2.2
        · refine ef_aload_n (q := 44) 0 dX1_readNumber_43 rfl rfl rfl ?_
          refine ef_aload_n (q := 45) 0 dX1_readNumber_44 rfl rfl rfl ?_
          refine ef_getI (x := z2.2.1 0 5) (q := 48) rfl fl1_28 rfl rfl dX1_readNumber_45 rfl ?_
          refine ef_bipush (v := (10 : Int32)) (q := 50) dX1_readNumber_48 (by decide) rfl ?_
          refine ef_imul (q := 51) dX1_readNumber_50 rfl ?_
          refine ef_aload_n (q := 52) 0 dX1_readNumber_51 rfl rfl rfl ?_
          refine ef_aload_n (q := 53) 0 dX1_readNumber_52 rfl rfl rfl ?_
          refine ef_getI (x := z2.2.1 0 4) (q := 56) rfl fl1_25 rfl rfl dX1_readNumber_53 rfl ?_
          refine ef_invVI0 (k := 0) (As := [.int (z2.2.1 0 4)]) (rest := [.int ((z2.2.1 0 5) * (10 : Int32)), .ref (pl 0)]) (q := 59) (okX1_byteAt (z2.2.1 0 4)) rfl calX1_byteAt ml1_130 (by decide) rfl rfl rfl (Nat.le_of_ble_eq_true rfl) dX1_readNumber_56 rfl (fun z6 => ?_)
          refine ef_iadd (q := 60) dX1_readNumber_59 rfl ?_
          refine ef_bipush (v := (48 : Int32)) (q := 62) dX1_readNumber_60 (by decide) rfl ?_
          refine ef_isub (q := 63) dX1_readNumber_62 rfl ?_
          refine ef_putI (q := 66) rfl fl1_28 rfl rfl dX1_readNumber_63 rfl ?_
          refine ef_sub (lv' := [(0, .ref (pl 0))]) [0] rfl ?_
          exact okX1_readNumber_66 (fX1_readNumber_5 n) ih (wrI z6.2 0 5 ((((z2.2.1 0 5) * (10 : Int32)) + z6.1) - (48 : Int32)))
set_option maxRecDepth 100000 in
set_option maxHeartbeats 4000000 in
theorem okX1_readNumber_0 {G : GG} {pl : Nat → Nat} {h0 : PH} (s : SS) : EvF G 1 mX1_readNumber lyK pl h0 rvU (fX1_readNumber_0 s) 0 [(0, .ref (pl 0))] [] s := by
  unfold fX1_readNumber_0
  refine ef_aload_n (q := 1) 0 dX1_readNumber_0 rfl rfl rfl ?_
  refine ef_iconst (v := (0 : Int32)) (q := 2) dX1_readNumber_1 (by decide) rfl ?_
  refine ef_putI (q := 5) rfl fl1_28 rfl rfl dX1_readNumber_2 rfl ?_
  refine ef_sub (lv' := [(0, .ref (pl 0))]) [0] rfl ?_
  exact okX1_readNumber_5 FU (wrI s 0 5 (0 : Int32))
theorem okX1_readNumber : MtF 1 mX1_readNumber lyK rvU (fun _ pl => [.ref (pl 0)]) (fX1_readNumber) := by
  refine MtF.of (by decide +kernel) rfl (fun _ pl => Nat.le_of_ble_eq_true rfl) (fun G pl h0 s => ?_)
  refine ef_sub (lv := [(0, .ref (pl 0))]) (lv' := [(0, .ref (pl 0))]) [0] rfl ?_
  exact okX1_readNumber_0  s
-- X1_advance
theorem dX1_advance_0 : decode cX1_advance 0 = .ok (.aload_n 0, 1) := by decide +kernel
theorem dX1_advance_1 : decode cX1_advance 1 = .ok (.aload_n 0, 1) := by decide +kernel
theorem dX1_advance_2 : decode cX1_advance 2 = .ok (.getfield 25, 3) := by decide +kernel
theorem dX1_advance_5 : decode cX1_advance 5 = .ok (.putfield 22, 3) := by decide +kernel
theorem dX1_advance_8 : decode cX1_advance 8 = .ok (.aload_n 0, 1) := by decide +kernel
theorem dX1_advance_9 : decode cX1_advance 9 = .ok (.getfield 22, 3) := by decide +kernel
theorem dX1_advance_12 : decode cX1_advance 12 = .ok (.aload_n 0, 1) := by decide +kernel
theorem dX1_advance_13 : decode cX1_advance 13 = .ok (.getfield 15, 3) := by decide +kernel
theorem dX1_advance_16 : decode cX1_advance 16 = .ok (.if_icmp .ge 29, 3) := by decide +kernel
theorem dX1_advance_19 : decode cX1_advance 19 = .ok (.aload_n 0, 1) := by decide +kernel
theorem dX1_advance_20 : decode cX1_advance 20 = .ok (.aload_n 0, 1) := by decide +kernel
theorem dX1_advance_21 : decode cX1_advance 21 = .ok (.getfield 22, 3) := by decide +kernel
theorem dX1_advance_24 : decode cX1_advance 24 = .ok (.invokevirtual 130, 3) := by decide +kernel
theorem dX1_advance_27 : decode cX1_advance 27 = .ok (.bipush 32, 2) := by decide +kernel
theorem dX1_advance_29 : decode cX1_advance 29 = .ok (.if_icmp .ne 16, 3) := by decide +kernel
theorem dX1_advance_32 : decode cX1_advance 32 = .ok (.aload_n 0, 1) := by decide +kernel
theorem dX1_advance_33 : decode cX1_advance 33 = .ok (.dup, 1) := by decide +kernel
theorem dX1_advance_34 : decode cX1_advance 34 = .ok (.getfield 22, 3) := by decide +kernel
theorem dX1_advance_37 : decode cX1_advance 37 = .ok (.iconst 1, 1) := by decide +kernel
theorem dX1_advance_38 : decode cX1_advance 38 = .ok (.iadd, 1) := by decide +kernel
theorem dX1_advance_39 : decode cX1_advance 39 = .ok (.putfield 22, 3) := by decide +kernel
theorem dX1_advance_42 : decode cX1_advance 42 = .ok (.goto (-34), 3) := by decide +kernel
theorem dX1_advance_45 : decode cX1_advance 45 = .ok (.aload_n 0, 1) := by decide +kernel
theorem dX1_advance_46 : decode cX1_advance 46 = .ok (.aload_n 0, 1) := by decide +kernel
theorem dX1_advance_47 : decode cX1_advance 47 = .ok (.getfield 22, 3) := by decide +kernel
theorem dX1_advance_50 : decode cX1_advance 50 = .ok (.putfield 25, 3) := by decide +kernel
theorem dX1_advance_53 : decode cX1_advance 53 = .ok (.aload_n 0, 1) := by decide +kernel
theorem dX1_advance_54 : decode cX1_advance 54 = .ok (.getfield 22, 3) := by decide +kernel
theorem dX1_advance_57 : decode cX1_advance 57 = .ok (.aload_n 0, 1) := by decide +kernel
theorem dX1_advance_58 : decode cX1_advance 58 = .ok (.getfield 15, 3) := by decide +kernel
theorem dX1_advance_61 : decode cX1_advance 61 = .ok (.if_icmp .lt 11, 3) := by decide +kernel
theorem dX1_advance_64 : decode cX1_advance 64 = .ok (.aload_n 0, 1) := by decide +kernel
theorem dX1_advance_65 : decode cX1_advance 65 = .ok (.iconst 0, 1) := by decide +kernel
theorem dX1_advance_66 : decode cX1_advance 66 = .ok (.putfield 19, 3) := by decide +kernel
theorem dX1_advance_69 : decode cX1_advance 69 = .ok (.goto 118, 3) := by decide +kernel
theorem dX1_advance_72 : decode cX1_advance 72 = .ok (.aload_n 0, 1) := by decide +kernel
theorem dX1_advance_73 : decode cX1_advance 73 = .ok (.aload_n 0, 1) := by decide +kernel
theorem dX1_advance_74 : decode cX1_advance 74 = .ok (.getfield 22, 3) := by decide +kernel
theorem dX1_advance_77 : decode cX1_advance 77 = .ok (.invokevirtual 130, 3) := by decide +kernel
theorem dX1_advance_80 : decode cX1_advance 80 = .ok (.invokestatic 138, 3) := by decide +kernel
theorem dX1_advance_83 : decode cX1_advance 83 = .ok (.ifCond .eq 46, 3) := by decide +kernel
theorem dX1_advance_86 : decode cX1_advance 86 = .ok (.aload_n 0, 1) := by decide +kernel
theorem dX1_advance_87 : decode cX1_advance 87 = .ok (.iconst 1, 1) := by decide +kernel
theorem dX1_advance_88 : decode cX1_advance 88 = .ok (.putfield 19, 3) := by decide +kernel
theorem dX1_advance_91 : decode cX1_advance 91 = .ok (.aload_n 0, 1) := by decide +kernel
theorem dX1_advance_92 : decode cX1_advance 92 = .ok (.getfield 25, 3) := by decide +kernel
theorem dX1_advance_95 : decode cX1_advance 95 = .ok (.aload_n 0, 1) := by decide +kernel
theorem dX1_advance_96 : decode cX1_advance 96 = .ok (.getfield 15, 3) := by decide +kernel
theorem dX1_advance_99 : decode cX1_advance 99 = .ok (.if_icmp .ge 88, 3) := by decide +kernel
theorem dX1_advance_102 : decode cX1_advance 102 = .ok (.aload_n 0, 1) := by decide +kernel
theorem dX1_advance_103 : decode cX1_advance 103 = .ok (.aload_n 0, 1) := by decide +kernel
theorem dX1_advance_104 : decode cX1_advance 104 = .ok (.getfield 25, 3) := by decide +kernel
theorem dX1_advance_107 : decode cX1_advance 107 = .ok (.invokevirtual 130, 3) := by decide +kernel
theorem dX1_advance_110 : decode cX1_advance 110 = .ok (.invokestatic 138, 3) := by decide +kernel
theorem dX1_advance_113 : decode cX1_advance 113 = .ok (.ifCond .eq 74, 3) := by decide +kernel
theorem dX1_advance_116 : decode cX1_advance 116 = .ok (.aload_n 0, 1) := by decide +kernel
theorem dX1_advance_117 : decode cX1_advance 117 = .ok (.dup, 1) := by decide +kernel
theorem dX1_advance_118 : decode cX1_advance 118 = .ok (.getfield 25, 3) := by decide +kernel
theorem dX1_advance_121 : decode cX1_advance 121 = .ok (.iconst 1, 1) := by decide +kernel
theorem dX1_advance_122 : decode cX1_advance 122 = .ok (.iadd, 1) := by decide +kernel
theorem dX1_advance_123 : decode cX1_advance 123 = .ok (.putfield 25, 3) := by decide +kernel
theorem dX1_advance_126 : decode cX1_advance 126 = .ok (.goto (-35), 3) := by decide +kernel
theorem dX1_advance_129 : decode cX1_advance 129 = .ok (.aload_n 0, 1) := by decide +kernel
theorem dX1_advance_130 : decode cX1_advance 130 = .ok (.aload_n 0, 1) := by decide +kernel
theorem dX1_advance_131 : decode cX1_advance 131 = .ok (.getfield 22, 3) := by decide +kernel
theorem dX1_advance_134 : decode cX1_advance 134 = .ok (.invokevirtual 130, 3) := by decide +kernel
theorem dX1_advance_137 : decode cX1_advance 137 = .ok (.invokestatic 141, 3) := by decide +kernel
theorem dX1_advance_140 : decode cX1_advance 140 = .ok (.ifCond .eq 15, 3) := by decide +kernel
theorem dX1_advance_143 : decode cX1_advance 143 = .ok (.aload_n 0, 1) := by decide +kernel
theorem dX1_advance_144 : decode cX1_advance 144 = .ok (.iconst 2, 1) := by decide +kernel
theorem dX1_advance_145 : decode cX1_advance 145 = .ok (.putfield 19, 3) := by decide +kernel
theorem dX1_advance_148 : decode cX1_advance 148 = .ok (.aload_n 0, 1) := by decide +kernel
theorem dX1_advance_149 : decode cX1_advance 149 = .ok (.invokevirtual 144, 3) := by decide +kernel
theorem dX1_advance_152 : decode cX1_advance 152 = .ok (.goto 35, 3) := by decide +kernel
theorem dX1_advance_155 : decode cX1_advance 155 = .ok (.aload_n 0, 1) := by decide +kernel
theorem dX1_advance_156 : decode cX1_advance 156 = .ok (.aload_n 0, 1) := by decide +kernel
theorem dX1_advance_157 : decode cX1_advance 157 = .ok (.aload_n 0, 1) := by decide +kernel
theorem dX1_advance_158 : decode cX1_advance 158 = .ok (.getfield 22, 3) := by decide +kernel
theorem dX1_advance_161 : decode cX1_advance 161 = .ok (.invokevirtual 130, 3) := by decide +kernel
theorem dX1_advance_164 : decode cX1_advance 164 = .ok (.bipush 59, 2) := by decide +kernel
theorem dX1_advance_166 : decode cX1_advance 166 = .ok (.if_icmp .ne 7, 3) := by decide +kernel
theorem dX1_advance_169 : decode cX1_advance 169 = .ok (.iconst 3, 1) := by decide +kernel
theorem dX1_advance_170 : decode cX1_advance 170 = .ok (.goto 4, 3) := by decide +kernel
theorem dX1_advance_173 : decode cX1_advance 173 = .ok (.iconst 4, 1) := by decide +kernel
theorem dX1_advance_174 : decode cX1_advance 174 = .ok (.putfield 19, 3) := by decide +kernel
theorem dX1_advance_177 : decode cX1_advance 177 = .ok (.aload_n 0, 1) := by decide +kernel
theorem dX1_advance_178 : decode cX1_advance 178 = .ok (.dup, 1) := by decide +kernel
theorem dX1_advance_179 : decode cX1_advance 179 = .ok (.getfield 25, 3) := by decide +kernel
theorem dX1_advance_182 : decode cX1_advance 182 = .ok (.iconst 1, 1) := by decide +kernel
theorem dX1_advance_183 : decode cX1_advance 183 = .ok (.iadd, 1) := by decide +kernel
theorem dX1_advance_184 : decode cX1_advance 184 = .ok (.putfield 25, 3) := by decide +kernel
theorem dX1_advance_187 : decode cX1_advance 187 = .ok (.return_, 1) := by decide +kernel
def fX1_advance_91 : Nat → SS → Option (Unit × SS)
  | 0, _ => none
  | n + 1, s => if (s.1 0 1) ≤ (s.1 0 4) then (some ((), s)) else (((fX1_byteAt (s.1 0 4) s).bind fun z2 => ((fX1_isLetter z2.1 z2.2).bind fun z3 => if z3.1 = 0 then (some ((), z2.2)) else (fX1_advance_91 n (wrI z2.2 0 4 ((z2.2.1 0 4) + (1 : Int32)))))))
def fX1_advance_174 (y1 : Int32) (s : SS) : Option (Unit × SS) := some ((), wrI (wrI s 0 2 y1) 0 4 ((s.1 0 4) + (1 : Int32)))
def fX1_advance_45 (s : SS) : Option (Unit × SS) := if (s.1 0 3) < (s.1 0 1) then (((fX1_byteAt (s.1 0 3) (wrI s 0 4 (s.1 0 3))).bind fun z2 => ((fX1_isLetter z2.1 z2.2).bind fun z3 => if z3.1 = 0 then (((fX1_byteAt (z2.2.1 0 3) z2.2).bind fun z5 => ((fX1_isDigit z5.1 z5.2).bind fun z6 => if z6.1 = 0 then (((fX1_byteAt (z5.2.1 0 3) z5.2).bind fun z8 => if z8.1 = (59 : Int32) then (fX1_advance_174 (3 : Int32) z8.2) else (fX1_advance_174 (4 : Int32) z8.2))) else (((fX1_readNumber (wrI z5.2 0 2 (2 : Int32))).bind fun z10 => some ((), z10.2)))))) else (fX1_advance_91 FU (wrI z2.2 0 2 (1 : Int32)))))) else (some ((), wrI (wrI s 0 4 (s.1 0 3)) 0 2 (0 : Int32)))
def fX1_advance_8 : Nat → SS → Option (Unit × SS)
  | 0, _ => none
  | n + 1, s => if (s.1 0 1) ≤ (s.1 0 3) then (fX1_advance_45 s) else (((fX1_byteAt (s.1 0 3) s).bind fun z2 => if z2.1 = (32 : Int32) then (fX1_advance_8 n (wrI z2.2 0 3 ((z2.2.1 0 3) + (1 : Int32)))) else (fX1_advance_45 z2.2)))
def fX1_advance_0 (s : SS) : Option (Unit × SS) := fX1_advance_8 FU (wrI s 0 3 (s.1 0 4))
def fX1_advance (s : SS) : Option (Unit × SS) := fX1_advance_0 s
set_option maxRecDepth 100000 in
set_option maxHeartbeats 4000000 in
theorem okX1_advance_91 {G : GG} {pl : Nat → Nat} {h0 : PH} : ∀ (n : Nat) (s : SS), EvF G 2 mX1_advance lyK pl h0 rvU (fX1_advance_91 n s) 91 [(0, .ref (pl 0))] [] s := by
  intro n
  induction n with
  | zero => intro s; rw [fX1_advance_91]; exact ef_none
  | succ n ih =>
    intro s
    rw [fX1_advance_91]
    refine ef_aload_n (q := 92) 0 dX1_advance_91 rfl rfl rfl ?_
    refine ef_getI (x := s.1 0 4) (q := 95) rfl fl1_25 rfl rfl dX1_advance_92 rfl ?_
    refine ef_aload_n (q := 96) 0 dX1_advance_95 rfl rfl rfl ?_
    refine ef_getI (x := s.1 0 1) (q := 99) rfl fl1_15 rfl rfl dX1_advance_96 rfl ?_
    refine ef_if (pt := 187) (pf := 102) (fun _ _ => ev_icmp_ge (tgt := 187) dX1_advance_99 (by decide)) (fun h1 => ?_) (fun h1 => ?_)
    · exact ef_vret rfl dX1_advance_187
    · refine ef_aload_n (q := 103) 0 dX1_advance_102 rfl rfl rfl ?_
      refine ef_aload_n (q := 104) 0 dX1_advance_103 rfl rfl rfl ?_
      refine ef_getI (x := s.1 0 4) (q := 107) rfl fl1_25 rfl rfl dX1_advance_104 rfl ?_
      refine ef_invVI0 (k := 0) (As := [.int (s.1 0 4)]) (rest := []) (q := 110) (okX1_byteAt (s.1 0 4)) rfl calX1_byteAt ml1_130 (by decide) rfl rfl rfl (Nat.le_of_ble_eq_true rfl) dX1_advance_107 rfl (fun z2 => ?_)
      refine ef_invPI0 (As := [.int z2.1]) (rest := []) (q := 113) (okX1_isLetter z2.1) rfl calX1_isLetter ml1_138 (by decide) rfl rfl (Nat.le_of_ble_eq_true rfl) dX1_advance_110 rfl (fun z3 => ?_)
      refine ef_if (pt := 187) (pf := 116) (fun _ _ => ev_if_eq (tgt := 187) dX1_advance_113 (by decide)) (fun h4 => ?_) (fun h4 => ?_)
      · exact ef_vret rfl dX1_advance_187
      · refine ef_aload_n (q := 117) 0 dX1_advance_116 rfl rfl rfl ?_
        refine ef_dup (q := 118) dX1_advance_117 rfl rfl ?_
        refine ef_getI (x := z2.2.1 0 4) (q := 121) rfl fl1_25 rfl rfl dX1_advance_118 rfl ?_
        refine ef_iconst (v := (1 : Int32)) (q := 122) dX1_advance_121 (by decide) rfl ?_
        refine ef_iadd (q := 123) dX1_advance_122 rfl ?_
        refine ef_putI (q := 126) rfl fl1_25 rfl rfl dX1_advance_123 rfl ?_
        refine ef_goto (tgt := 91) dX1_advance_126 (by decide) ?_
        refine ef_sub (lv' := [(0, .ref (pl 0))]) [0] rfl ?_
        exact ih (wrI z2.2 0 4 ((z2.2.1 0 4) + (1 : Int32)))
set_option maxRecDepth 100000 in
set_option maxHeartbeats 4000000 in
theorem okX1_advance_174 {G : GG} {pl : Nat → Nat} {h0 : PH} (y1 : Int32) (s : SS) : EvF G 2 mX1_advance lyK pl h0 rvU (fX1_advance_174 y1 s) 174 [(0, .ref (pl 0))] [.int y1, .ref (pl 0)] s := by
  unfold fX1_advance_174
  refine ef_putI (q := 177) rfl fl1_19 rfl rfl dX1_advance_174 rfl ?_
  refine ef_aload_n (q := 178) 0 dX1_advance_177 rfl rfl rfl ?_
  refine ef_dup (q := 179) dX1_advance_178 rfl rfl ?_
  refine ef_getI (x := s.1 0 4) (q := 182) rfl fl1_25 rfl rfl dX1_advance_179 rfl ?_
  refine ef_iconst (v := (1 : Int32)) (q := 183) dX1_advance_182 (by decide) rfl ?_
  refine ef_iadd (q := 184) dX1_advance_183 rfl ?_
  refine ef_putI (q := 187) rfl fl1_25 rfl rfl dX1_advance_184 rfl ?_
  exact ef_vret rfl dX1_advance_187
set_option maxRecDepth 100000 in
set_option maxHeartbeats 4000000 in
theorem okX1_advance_45 {G : GG} {pl : Nat → Nat} {h0 : PH} (s : SS) : EvF G 2 mX1_advance lyK pl h0 rvU (fX1_advance_45 s) 45 [(0, .ref (pl 0))] [] s := by
  unfold fX1_advance_45
  refine ef_aload_n (q := 46) 0 dX1_advance_45 rfl rfl rfl ?_
  refine ef_aload_n (q := 47) 0 dX1_advance_46 rfl rfl rfl ?_
  refine ef_getI (x := s.1 0 3) (q := 50) rfl fl1_22 rfl rfl dX1_advance_47 rfl ?_
  refine ef_putI (q := 53) rfl fl1_25 rfl rfl dX1_advance_50 rfl ?_
  refine ef_aload_n (q := 54) 0 dX1_advance_53 rfl rfl rfl ?_
  refine ef_getI (x := s.1 0 3) (q := 57) rfl fl1_22 rfl rfl dX1_advance_54 rfl ?_
  refine ef_aload_n (q := 58) 0 dX1_advance_57 rfl rfl rfl ?_
  refine ef_getI (x := s.1 0 1) (q := 61) rfl fl1_15 rfl rfl dX1_advance_58 rfl ?_
  refine ef_if (pt := 72) (pf := 64) (fun _ _ => ev_icmp_lt (tgt := 72) dX1_advance_61 (by decide)) (fun h1 => ?_) (fun h1 => ?_)
  · refine ef_aload_n (q := 73) 0 dX1_advance_72 rfl rfl rfl ?_
    refine ef_aload_n (q := 74) 0 dX1_advance_73 rfl rfl rfl ?_
    refine ef_getI (x := s.1 0 3) (q := 77) rfl fl1_22 rfl rfl dX1_advance_74 rfl ?_
    refine ef_invVI0 (k := 0) (As := [.int (s.1 0 3)]) (rest := []) (q := 80) (okX1_byteAt (s.1 0 3)) rfl calX1_byteAt ml1_130 (by decide) rfl rfl rfl (Nat.le_of_ble_eq_true rfl) dX1_advance_77 rfl (fun z2 => ?_)
    refine ef_invPI0 (As := [.int z2.1]) (rest := []) (q := 83) (okX1_isLetter z2.1) rfl calX1_isLetter ml1_138 (by decide) rfl rfl (Nat.le_of_ble_eq_true rfl) dX1_advance_80 rfl (fun z3 => ?_)
    refine ef_if (pt := 129) (pf := 86) (fun _ _ => ev_if_eq (tgt := 129) dX1_advance_83 (by decide)) (fun h4 => ?_) (fun h4 => ?_)
    · refine ef_aload_n (q := 130) 0 dX1_advance_129 rfl rfl rfl ?_
      refine ef_aload_n (q := 131) 0 dX1_advance_130 rfl rfl rfl ?_
      refine ef_getI (x := z2.2.1 0 3) (q := 134) rfl fl1_22 rfl rfl dX1_advance_131 rfl ?_
      refine ef_invVI0 (k := 0) (As := [.int (z2.2.1 0 3)]) (rest := []) (q := 137) (okX1_byteAt (z2.2.1 0 3)) rfl calX1_byteAt ml1_130 (by decide) rfl rfl rfl (Nat.le_of_ble_eq_true rfl) dX1_advance_134 rfl (fun z5 => ?_)
      refine ef_invPI0 (As := [.int z5.1]) (rest := []) (q := 140) (okX1_isDigit z5.1) rfl calX1_isDigit ml1_141 (by decide) rfl rfl (Nat.le_of_ble_eq_true rfl) dX1_advance_137 rfl (fun z6 => ?_)
      refine ef_if (pt := 155) (pf := 143) (fun _ _ => ev_if_eq (tgt := 155) dX1_advance_140 (by decide)) (fun h7 => ?_) (fun h7 => ?_)
      · refine ef_aload_n (q := 156) 0 dX1_advance_155 rfl rfl rfl ?_
        refine ef_aload_n (q := 157) 0 dX1_advance_156 rfl rfl rfl ?_
        refine ef_aload_n (q := 158) 0 dX1_advance_157 rfl rfl rfl ?_
        refine ef_getI (x := z5.2.1 0 3) (q := 161) rfl fl1_22 rfl rfl dX1_advance_158 rfl ?_
        refine ef_invVI0 (k := 0) (As := [.int (z5.2.1 0 3)]) (rest := [.ref (pl 0)]) (q := 164) (okX1_byteAt (z5.2.1 0 3)) rfl calX1_byteAt ml1_130 (by decide) rfl rfl rfl (Nat.le_of_ble_eq_true rfl) dX1_advance_161 rfl (fun z8 => ?_)
        refine ef_bipush (v := (59 : Int32)) (q := 166) dX1_advance_164 (by decide) rfl ?_
        refine ef_if (pt := 169) (pf := 173) (fun _ _ kt kf => ev_icmp_ne (tgt := 173) dX1_advance_166 (by decide) kf kt) (fun h9 => ?_) (fun h9 => ?_)
        · refine ef_iconst (v := (3 : Int32)) (q := 170) dX1_advance_169 (by decide) rfl ?_
          refine ef_goto (tgt := 174) dX1_advance_170 (by decide) ?_
          refine ef_sub (lv' := [(0, .ref (pl 0))]) [0] rfl ?_
          exact okX1_advance_174 (3 : Int32) z8.2
        · refine ef_iconst (v := (4 : Int32)) (q := 174) dX1_advance_173 (by decide) rfl ?_
          refine ef_sub (lv' := [(0, .ref (pl 0))]) [0] rfl ?_
          exact okX1_advance_174 (4 : Int32) z8.2
      · refine ef_aload_n (q := 144) 0 dX1_advance_143 rfl rfl rfl ?_
        refine ef_iconst (v := (2 : Int32)) (q := 145) dX1_advance_144 (by decide) rfl ?_
        refine ef_putI (q := 148) rfl fl1_19 rfl rfl dX1_advance_145 rfl ?_
        refine ef_aload_n (q := 149) 0 dX1_advance_148 rfl rfl rfl ?_
        refine ef_invVU0 (k := 0) (As := []) (rest := []) (q := 152) (okX1_readNumber) rfl calX1_readNumber ml1_144 (by decide) rfl rfl rfl (Nat.le_of_ble_eq_true rfl) dX1_advance_149 rfl (fun z10 => ?_)
        refine ef_goto (tgt := 187) dX1_advance_152 (by decide) ?_
        exact ef_vret rfl dX1_advance_187
    · refine ef_aload_n (q := 87) 0 dX1_advance_86 rfl rfl rfl ?_
      refine ef_iconst (v := (1 : Int32)) (q := 88) dX1_advance_87 (by decide) rfl ?_
      refine ef_putI (q := 91) rfl fl1_19 rfl rfl dX1_advance_88 rfl ?_
      refine ef_sub (lv' := [(0, .ref (pl 0))]) [0] rfl ?_
      exact okX1_advance_91 FU (wrI z2.2 0 2 (1 : Int32))
  · refine ef_aload_n (q := 65) 0 dX1_advance_64 rfl rfl rfl ?_
    refine ef_iconst (v := (0 : Int32)) (q := 66) dX1_advance_65 (by decide) rfl ?_
    refine ef_putI (q := 69) rfl fl1_19 rfl rfl dX1_advance_66 rfl ?_
    refine ef_goto (tgt := 187) dX1_advance_69 (by decide) ?_
    exact ef_vret rfl dX1_advance_187
set_option maxRecDepth 100000 in
set_option maxHeartbeats 4000000 in
theorem okX1_advance_8 {G : GG} {pl : Nat → Nat} {h0 : PH} : ∀ (n : Nat) (s : SS), EvF G 2 mX1_advance lyK pl h0 rvU (fX1_advance_8 n s) 8 [(0, .ref (pl 0))] [] s := by
  intro n
  induction n with
  | zero => intro s; rw [fX1_advance_8]; exact ef_none
  | succ n ih =>
    intro s
    rw [fX1_advance_8]
    refine ef_aload_n (q := 9) 0 dX1_advance_8 rfl rfl rfl ?_
    refine ef_getI (x := s.1 0 3) (q := 12) rfl fl1_22 rfl rfl dX1_advance_9 rfl ?_
    refine ef_aload_n (q := 13) 0 dX1_advance_12 rfl rfl rfl ?_
    refine ef_getI (x := s.1 0 1) (q := 16) rfl fl1_15 rfl rfl dX1_advance_13 rfl ?_
    refine ef_if (pt := 45) (pf := 19) (fun _ _ => ev_icmp_ge (tgt := 45) dX1_advance_16 (by decide)) (fun h1 => ?_) (fun h1 => ?_)
    · refine ef_sub (lv' := [(0, .ref (pl 0))]) [0] rfl ?_
      exact okX1_advance_45 s
    · refine ef_aload_n (q := 20) 0 dX1_advance_19 rfl rfl rfl ?_
      refine ef_aload_n (q := 21) 0 dX1_advance_20 rfl rfl rfl ?_
      refine ef_getI (x := s.1 0 3) (q := 24) rfl fl1_22 rfl rfl dX1_advance_21 rfl ?_
      refine ef_invVI0 (k := 0) (As := [.int (s.1 0 3)]) (rest := []) (q := 27) (okX1_byteAt (s.1 0 3)) rfl calX1_byteAt ml1_130 (by decide) rfl rfl rfl (Nat.le_of_ble_eq_true rfl) dX1_advance_24 rfl (fun z2 => ?_)
      refine ef_bipush (v := (32 : Int32)) (q := 29) dX1_advance_27 (by decide) rfl ?_
      refine ef_if (pt := 32) (pf := 45) (fun _ _ kt kf => ev_icmp_ne (tgt := 45) dX1_advance_29 (by decide) kf kt) (fun h3 => ?_) (fun h3 => ?_)
      · refine ef_aload_n (q := 33) 0 dX1_advance_32 rfl rfl rfl ?_
        refine ef_dup (q := 34) dX1_advance_33 rfl rfl ?_
        refine ef_getI (x := z2.2.1 0 3) (q := 37) rfl fl1_22 rfl rfl dX1_advance_34 rfl ?_
        refine ef_iconst (v := (1 : Int32)) (q := 38) dX1_advance_37 (by decide) rfl ?_
        refine ef_iadd (q := 39) dX1_advance_38 rfl ?_
        refine ef_putI (q := 42) rfl fl1_22 rfl rfl dX1_advance_39 rfl ?_
        refine ef_goto (tgt := 8) dX1_advance_42 (by decide) ?_
        refine ef_sub (lv' := [(0, .ref (pl 0))]) [0] rfl ?_
        exact ih (wrI z2.2 0 3 ((z2.2.1 0 3) + (1 : Int32)))
      · refine ef_sub (lv' := [(0, .ref (pl 0))]) [0] rfl ?_
        exact okX1_advance_45 z2.2
set_option maxRecDepth 100000 in
set_option maxHeartbeats 4000000 in
theorem okX1_advance_0 {G : GG} {pl : Nat → Nat} {h0 : PH} (s : SS) : EvF G 2 mX1_advance lyK pl h0 rvU (fX1_advance_0 s) 0 [(0, .ref (pl 0))] [] s := by
  unfold fX1_advance_0
  refine ef_aload_n (q := 1) 0 dX1_advance_0 rfl rfl rfl ?_
  refine ef_aload_n (q := 2) 0 dX1_advance_1 rfl rfl rfl ?_
  refine ef_getI (x := s.1 0 4) (q := 5) rfl fl1_25 rfl rfl dX1_advance_2 rfl ?_
  refine ef_putI (q := 8) rfl fl1_22 rfl rfl dX1_advance_5 rfl ?_
  refine ef_sub (lv' := [(0, .ref (pl 0))]) [0] rfl ?_
  exact okX1_advance_8 FU (wrI s 0 3 (s.1 0 4))
theorem okX1_advance : MtF 2 mX1_advance lyK rvU (fun _ pl => [.ref (pl 0)]) (fX1_advance) := by
  refine MtF.of (by decide +kernel) rfl (fun _ pl => Nat.le_of_ble_eq_true rfl) (fun G pl h0 s => ?_)
  refine ef_sub (lv := [(0, .ref (pl 0))]) (lv' := [(0, .ref (pl 0))]) [0] rfl ?_
  exact okX1_advance_0  s
-- X1_isWord
theorem dX1_isWord_0 : decode cX1_isWord 0 = .ok (.aload_n 1, 1) := by decide +kernel
theorem dX1_isWord_1 : decode cX1_isWord 1 = .ok (.invokevirtual 124, 3) := by decide +kernel
theorem dX1_isWord_4 : decode cX1_isWord 4 = .ok (.aload_n 0, 1) := by decide +kernel
theorem dX1_isWord_5 : decode cX1_isWord 5 = .ok (.getfield 25, 3) := by decide +kernel
theorem dX1_isWord_8 : decode cX1_isWord 8 = .ok (.aload_n 0, 1) := by decide +kernel
theorem dX1_isWord_9 : decode cX1_isWord 9 = .ok (.getfield 22, 3) := by decide +kernel
theorem dX1_isWord_12 : decode cX1_isWord 12 = .ok (.isub, 1) := by decide +kernel
theorem dX1_isWord_13 : decode cX1_isWord 13 = .ok (.if_icmp .eq 5, 3) := by decide +kernel
theorem dX1_isWord_16 : decode cX1_isWord 16 = .ok (.iconst 0, 1) := by decide +kernel
theorem dX1_isWord_17 : decode cX1_isWord 17 = .ok (.ireturn, 1) := by decide +kernel
theorem dX1_isWord_18 : decode cX1_isWord 18 = .ok (.iconst 0, 1) := by decide +kernel
theorem dX1_isWord_19 : decode cX1_isWord 19 = .ok (.istore_n 2, 1) := by decide +kernel
theorem dX1_isWord_20 : decode cX1_isWord 20 = .ok (.iload_n 2, 1) := by decide +kernel
theorem dX1_isWord_21 : decode cX1_isWord 21 = .ok (.aload_n 1, 1) := by decide +kernel
theorem dX1_isWord_22 : decode cX1_isWord 22 = .ok (.invokevirtual 124, 3) := by decide +kernel
theorem dX1_isWord_25 : decode cX1_isWord 25 = .ok (.if_icmp .ge 29, 3) := by decide +kernel
theorem dX1_isWord_28 : decode cX1_isWord 28 = .ok (.aload_n 0, 1) := by decide +kernel
theorem dX1_isWord_29 : decode cX1_isWord 29 = .ok (.aload_n 0, 1) := by decide +kernel
theorem dX1_isWord_30 : decode cX1_isWord 30 = .ok (.getfield 22, 3) := by decide +kernel
theorem dX1_isWord_33 : decode cX1_isWord 33 = .ok (.iload_n 2, 1) := by decide +kernel
theorem dX1_isWord_34 : decode cX1_isWord 34 = .ok (.iadd, 1) := by decide +kernel
theorem dX1_isWord_35 : decode cX1_isWord 35 = .ok (.invokevirtual 130, 3) := by decide +kernel
theorem dX1_isWord_38 : decode cX1_isWord 38 = .ok (.aload_n 1, 1) := by decide +kernel
theorem dX1_isWord_39 : decode cX1_isWord 39 = .ok (.iload_n 2, 1) := by decide +kernel
theorem dX1_isWord_40 : decode cX1_isWord 40 = .ok (.invokevirtual 134, 3) := by decide +kernel
theorem dX1_isWord_43 : decode cX1_isWord 43 = .ok (.if_icmp .eq 5, 3) := by decide +kernel
theorem dX1_isWord_46 : decode cX1_isWord 46 = .ok (.iconst 0, 1) := by decide +kernel
theorem dX1_isWord_47 : decode cX1_isWord 47 = .ok (.ireturn, 1) := by decide +kernel
theorem dX1_isWord_48 : decode cX1_isWord 48 = .ok (.iinc 2 1, 3) := by decide +kernel
theorem dX1_isWord_51 : decode cX1_isWord 51 = .ok (.goto (-31), 3) := by decide +kernel
theorem dX1_isWord_54 : decode cX1_isWord 54 = .ok (.iconst 1, 1) := by decide +kernel
theorem dX1_isWord_55 : decode cX1_isWord 55 = .ok (.ireturn, 1) := by decide +kernel
def fX1_isWord_20 : Nat → Nat → Int32 → SS → Option (Int32 × SS)
  | 0, _, _, _ => none
  | n + 1, x1, x2, s => if x1 < 7 then (if (slen x1) ≤ x2 then (some ((1 : Int32), s)) else (((fX1_byteAt ((s.1 0 3) + x2) s).bind fun z3 => if x1 < 7 then (if ixB x2 (strLen.getD x1 0) then (if z3.1 = (sch x1 x2.toNatClampNeg) then (fX1_isWord_20 n x1 (x2 + (1 : Int32)) z3.2) else (some ((0 : Int32), z3.2))) else none) else none))) else none
def fX1_isWord_0 (x1 : Nat) (s : SS) : Option (Int32 × SS) := if x1 < 7 then (if (slen x1) = ((s.1 0 4) - (s.1 0 3)) then (fX1_isWord_20 FU x1 (0 : Int32) s) else (some ((0 : Int32), s))) else none
def fX1_isWord (x1 : Nat) (s : SS) : Option (Int32 × SS) := fX1_isWord_0 x1 s
set_option maxRecDepth 100000 in
set_option maxHeartbeats 4000000 in
theorem okX1_isWord_20 {G : GG} {pl : Nat → Nat} {h0 : PH} : ∀ (n : Nat) (x1 : Nat) (x2 : Int32) (s : SS), EvF G 4 mX1_isWord lyK pl h0 rvI (fX1_isWord_20 n x1 x2 s) 20 [(0, .ref (pl 0)), (1, .ref (G.2.2.2.1 x1)), (2, .int x2)] [] s := by
  intro n
  induction n with
  | zero => intro x1 x2 s; rw [fX1_isWord_20]; exact ef_none
  | succ n ih =>
    intro x1 x2 s
    rw [fX1_isWord_20]
    refine ef_iload_n (q := 21) 2 dX1_isWord_20 rfl rfl rfl ?_
    refine ef_aload_n (q := 22) 1 dX1_isWord_21 rfl rfl rfl ?_
    refine ef_guard (fun g1 => ?_)
    refine ef_strlen (q := 25) g1 tlRX1_124 (by decide) (Nat.le_of_ble_eq_true rfl) dX1_isWord_22 rfl ?_
    refine ef_if (pt := 54) (pf := 28) (fun _ _ => ev_icmp_ge (tgt := 54) dX1_isWord_25 (by decide)) (fun h2 => ?_) (fun h2 => ?_)
    · refine ef_iconst (v := (1 : Int32)) (q := 55) dX1_isWord_54 (by decide) rfl ?_
      exact ef_zretc (x := (1 : Int32)) (by decide) rfl dX1_isWord_55
    · refine ef_aload_n (q := 29) 0 dX1_isWord_28 rfl rfl rfl ?_
      refine ef_aload_n (q := 30) 0 dX1_isWord_29 rfl rfl rfl ?_
      refine ef_getI (x := s.1 0 3) (q := 33) rfl fl1_22 rfl rfl dX1_isWord_30 rfl ?_
      refine ef_iload_n (q := 34) 2 dX1_isWord_33 rfl rfl rfl ?_
      refine ef_iadd (q := 35) dX1_isWord_34 rfl ?_
      refine ef_invVI0 (k := 0) (As := [.int ((s.1 0 3) + x2)]) (rest := []) (q := 38) (okX1_byteAt ((s.1 0 3) + x2)) rfl calX1_byteAt ml1_130 (by decide) rfl rfl rfl (Nat.le_of_ble_eq_true rfl) dX1_isWord_35 rfl (fun z3 => ?_)
      refine ef_aload_n (q := 39) 1 dX1_isWord_38 rfl rfl rfl ?_
      refine ef_iload_n (q := 40) 2 dX1_isWord_39 rfl rfl rfl ?_
      refine ef_guard (fun g4 => ?_)
      refine ef_guard (fun g5 => ?_)
      refine ef_charAt (q := 43) g4 g5 tlRX1_134 (by decide) (Nat.le_of_ble_eq_true rfl) dX1_isWord_40 rfl ?_
      refine ef_if (pt := 48) (pf := 46) (fun _ _ => ev_icmp_eq (tgt := 48) dX1_isWord_43 (by decide)) (fun h6 => ?_) (fun h6 => ?_)
      · refine ef_iinc (v := x2 + (1 : Int32)) (lv' := [(2, .int (x2 + (1 : Int32))), (0, .ref (pl 0)), (1, .ref (G.2.2.2.1 x1))]) (q := 51) 2 dX1_isWord_48 rfl rfl (by decide) rfl rfl ?_
        refine ef_goto (tgt := 20) dX1_isWord_51 (by decide) ?_
        refine ef_sub (lv' := [(0, .ref (pl 0)), (1, .ref (G.2.2.2.1 x1)), (2, .int (x2 + (1 : Int32)))]) [1, 2, 0] rfl ?_
        exact ih x1 (x2 + (1 : Int32)) z3.2
      · refine ef_iconst (v := (0 : Int32)) (q := 47) dX1_isWord_46 (by decide) rfl ?_
        exact ef_zretc (x := (0 : Int32)) (by decide) rfl dX1_isWord_47
set_option maxRecDepth 100000 in
set_option maxHeartbeats 4000000 in
theorem okX1_isWord_0 {G : GG} {pl : Nat → Nat} {h0 : PH} (x1 : Nat) (s : SS) : EvF G 4 mX1_isWord lyK pl h0 rvI (fX1_isWord_0 x1 s) 0 [(0, .ref (pl 0)), (1, .ref (G.2.2.2.1 x1))] [] s := by
  unfold fX1_isWord_0
  refine ef_aload_n (q := 1) 1 dX1_isWord_0 rfl rfl rfl ?_
  refine ef_guard (fun g1 => ?_)
  refine ef_strlen (q := 4) g1 tlRX1_124 (by decide) (Nat.le_of_ble_eq_true rfl) dX1_isWord_1 rfl ?_
  refine ef_aload_n (q := 5) 0 dX1_isWord_4 rfl rfl rfl ?_
  refine ef_getI (x := s.1 0 4) (q := 8) rfl fl1_25 rfl rfl dX1_isWord_5 rfl ?_
  refine ef_aload_n (q := 9) 0 dX1_isWord_8 rfl rfl rfl ?_
  refine ef_getI (x := s.1 0 3) (q := 12) rfl fl1_22 rfl rfl dX1_isWord_9 rfl ?_
  refine ef_isub (q := 13) dX1_isWord_12 rfl ?_
  refine ef_if (pt := 18) (pf := 16) (fun _ _ => ev_icmp_eq (tgt := 18) dX1_isWord_13 (by decide)) (fun h2 => ?_) (fun h2 => ?_)
  · refine ef_iconst (v := (0 : Int32)) (q := 19) dX1_isWord_18 (by decide) rfl ?_
    refine ef_istore_n (lv' := [(2, .int (0 : Int32)), (0, .ref (pl 0)), (1, .ref (G.2.2.2.1 x1))]) (q := 20) dX1_isWord_19 rfl (by decide) rfl rfl ?_
    refine ef_sub (lv' := [(0, .ref (pl 0)), (1, .ref (G.2.2.2.1 x1)), (2, .int (0 : Int32))]) [1, 2, 0] rfl ?_
    exact okX1_isWord_20 FU x1 (0 : Int32) s
  · refine ef_iconst (v := (0 : Int32)) (q := 17) dX1_isWord_16 (by decide) rfl ?_
    exact ef_zretc (x := (0 : Int32)) (by decide) rfl dX1_isWord_17
theorem okX1_isWord (x1 : Nat) : MtF 4 mX1_isWord lyK rvI (fun G pl => [.ref (pl 0), .ref (G.2.2.2.1 x1)]) (fX1_isWord x1) := by
  refine MtF.of (by decide +kernel) rfl (fun _ pl => Nat.le_of_ble_eq_true rfl) (fun G pl h0 s => ?_)
  refine ef_sub (lv := [(0, .ref (pl 0)), (1, .ref (G.2.2.2.1 x1))]) (lv' := [(0, .ref (pl 0)), (1, .ref (G.2.2.2.1 x1))]) [0, 1] rfl ?_
  exact okX1_isWord_0  x1 s
-- X1_isNumber
theorem dX1_isNumber_0 : decode cX1_isNumber 0 = .ok (.aload_n 0, 1) := by decide +kernel
theorem dX1_isNumber_1 : decode cX1_isNumber 1 = .ok (.getfield 19, 3) := by decide +kernel
theorem dX1_isNumber_4 : decode cX1_isNumber 4 = .ok (.iconst 2, 1) := by decide +kernel
theorem dX1_isNumber_5 : decode cX1_isNumber 5 = .ok (.if_icmp .ne 36, 3) := by decide +kernel
theorem dX1_isNumber_8 : decode cX1_isNumber 8 = .ok (.aload_n 0, 1) := by decide +kernel
theorem dX1_isNumber_9 : decode cX1_isNumber 9 = .ok (.getfield 25, 3) := by decide +kernel
theorem dX1_isNumber_12 : decode cX1_isNumber 12 = .ok (.aload_n 0, 1) := by decide +kernel
theorem dX1_isNumber_13 : decode cX1_isNumber 13 = .ok (.getfield 22, 3) := by decide +kernel
theorem dX1_isNumber_16 : decode cX1_isNumber 16 = .ok (.isub, 1) := by decide +kernel
theorem dX1_isNumber_17 : decode cX1_isNumber 17 = .ok (.iconst 2, 1) := by decide +kernel
theorem dX1_isNumber_18 : decode cX1_isNumber 18 = .ok (.if_icmp .gt 23, 3) := by decide +kernel
theorem dX1_isNumber_21 : decode cX1_isNumber 21 = .ok (.aload_n 0, 1) := by decide +kernel
theorem dX1_isNumber_22 : decode cX1_isNumber 22 = .ok (.getfield 28, 3) := by decide +kernel
theorem dX1_isNumber_25 : decode cX1_isNumber 25 = .ok (.iload_n 1, 1) := by decide +kernel
theorem dX1_isNumber_26 : decode cX1_isNumber 26 = .ok (.if_icmp .lt 15, 3) := by decide +kernel
theorem dX1_isNumber_29 : decode cX1_isNumber 29 = .ok (.aload_n 0, 1) := by decide +kernel
theorem dX1_isNumber_30 : decode cX1_isNumber 30 = .ok (.getfield 28, 3) := by decide +kernel
theorem dX1_isNumber_33 : decode cX1_isNumber 33 = .ok (.iload_n 2, 1) := by decide +kernel
theorem dX1_isNumber_34 : decode cX1_isNumber 34 = .ok (.if_icmp .gt 7, 3) := by decide +kernel
theorem dX1_isNumber_37 : decode cX1_isNumber 37 = .ok (.iconst 1, 1) := by decide +kernel
theorem dX1_isNumber_38 : decode cX1_isNumber 38 = .ok (.goto 4, 3) := by decide +kernel
theorem dX1_isNumber_41 : decode cX1_isNumber 41 = .ok (.iconst 0, 1) := by decide +kernel
theorem dX1_isNumber_42 : decode cX1_isNumber 42 = .ok (.ireturn, 1) := by decide +kernel
def fX1_isNumber_0 (x1 : Int32) (x2 : Int32) (s : SS) : Option (Int32 × SS) := if (s.1 0 2) = (2 : Int32) then (if (2 : Int32) < ((s.1 0 4) - (s.1 0 3)) then (some ((0 : Int32), s)) else (if (s.1 0 5) < x1 then (some ((0 : Int32), s)) else (if x2 < (s.1 0 5) then (some ((0 : Int32), s)) else (some ((1 : Int32), s))))) else (some ((0 : Int32), s))
def fX1_isNumber (x1 : Int32) (x2 : Int32) (s : SS) : Option (Int32 × SS) := fX1_isNumber_0 x1 x2 s
set_option maxRecDepth 100000 in
set_option maxHeartbeats 4000000 in
theorem okX1_isNumber_0 {G : GG} {pl : Nat → Nat} {h0 : PH} (x1 : Int32) (x2 : Int32) (s : SS) : EvF G 0 mX1_isNumber lyK pl h0 rvI (fX1_isNumber_0 x1 x2 s) 0 [(0, .ref (pl 0)), (1, .int x1), (2, .int x2)] [] s := by
  unfold fX1_isNumber_0
  refine ef_aload_n (q := 1) 0 dX1_isNumber_0 rfl rfl rfl ?_
  refine ef_getI (x := s.1 0 2) (q := 4) rfl fl1_19 rfl rfl dX1_isNumber_1 rfl ?_
  refine ef_iconst (v := (2 : Int32)) (q := 5) dX1_isNumber_4 (by decide) rfl ?_
  refine ef_if (pt := 8) (pf := 41) (fun _ _ kt kf => ev_icmp_ne (tgt := 41) dX1_isNumber_5 (by decide) kf kt) (fun h1 => ?_) (fun h1 => ?_)
  · refine ef_aload_n (q := 9) 0 dX1_isNumber_8 rfl rfl rfl ?_
    refine ef_getI (x := s.1 0 4) (q := 12) rfl fl1_25 rfl rfl dX1_isNumber_9 rfl ?_
    refine ef_aload_n (q := 13) 0 dX1_isNumber_12 rfl rfl rfl ?_
    refine ef_getI (x := s.1 0 3) (q := 16) rfl fl1_22 rfl rfl dX1_isNumber_13 rfl ?_
    refine ef_isub (q := 17) dX1_isNumber_16 rfl ?_
    refine ef_iconst (v := (2 : Int32)) (q := 18) dX1_isNumber_17 (by decide) rfl ?_
    refine ef_if (pt := 41) (pf := 21) (fun _ _ => ev_icmp_gt (tgt := 41) dX1_isNumber_18 (by decide)) (fun h2 => ?_) (fun h2 => ?_)
    · refine ef_iconst (v := (0 : Int32)) (q := 42) dX1_isNumber_41 (by decide) rfl ?_
      exact ef_zretc (x := (0 : Int32)) (by decide) rfl dX1_isNumber_42
    · refine ef_aload_n (q := 22) 0 dX1_isNumber_21 rfl rfl rfl ?_
      refine ef_getI (x := s.1 0 5) (q := 25) rfl fl1_28 rfl rfl dX1_isNumber_22 rfl ?_
      refine ef_iload_n (q := 26) 1 dX1_isNumber_25 rfl rfl rfl ?_
      refine ef_if (pt := 41) (pf := 29) (fun _ _ => ev_icmp_lt (tgt := 41) dX1_isNumber_26 (by decide)) (fun h3 => ?_) (fun h3 => ?_)
      · refine ef_iconst (v := (0 : Int32)) (q := 42) dX1_isNumber_41 (by decide) rfl ?_
        exact ef_zretc (x := (0 : Int32)) (by decide) rfl dX1_isNumber_42
      · refine ef_aload_n (q := 30) 0 dX1_isNumber_29 rfl rfl rfl ?_
        refine ef_getI (x := s.1 0 5) (q := 33) rfl fl1_28 rfl rfl dX1_isNumber_30 rfl ?_
        refine ef_iload_n (q := 34) 2 dX1_isNumber_33 rfl rfl rfl ?_
        refine ef_if (pt := 41) (pf := 37) (fun _ _ => ev_icmp_gt (tgt := 41) dX1_isNumber_34 (by decide)) (fun h4 => ?_) (fun h4 => ?_)
        · refine ef_iconst (v := (0 : Int32)) (q := 42) dX1_isNumber_41 (by decide) rfl ?_
          exact ef_zretc (x := (0 : Int32)) (by decide) rfl dX1_isNumber_42
        · refine ef_iconst (v := (1 : Int32)) (q := 38) dX1_isNumber_37 (by decide) rfl ?_
          refine ef_goto (tgt := 42) dX1_isNumber_38 (by decide) ?_
          exact ef_zretc (x := (1 : Int32)) (by decide) rfl dX1_isNumber_42
  · refine ef_iconst (v := (0 : Int32)) (q := 42) dX1_isNumber_41 (by decide) rfl ?_
    exact ef_zretc (x := (0 : Int32)) (by decide) rfl dX1_isNumber_42
theorem okX1_isNumber (x1 : Int32) (x2 : Int32) : MtF 0 mX1_isNumber lyK rvI (fun _ pl => [.ref (pl 0), .int x1, .int x2]) (fX1_isNumber x1 x2) := by
  refine MtF.of (by decide +kernel) rfl (fun _ pl => Nat.le_of_ble_eq_true rfl) (fun G pl h0 s => ?_)
  refine ef_sub (lv := [(0, .ref (pl 0)), (1, .int x1), (2, .int x2)]) (lv' := [(0, .ref (pl 0)), (1, .int x1), (2, .int x2)]) [0, 1, 2] rfl ?_
  exact okX1_isNumber_0  x1 x2 s
-- X1_readSides
theorem dX1_readSides_0 : decode cX1_readSides 0 = .ok (.aload_n 1, 1) := by decide +kernel
theorem dX1_readSides_1 : decode cX1_readSides 1 = .ok (.getfield 84, 3) := by decide +kernel
theorem dX1_readSides_4 : decode cX1_readSides 4 = .ok (.ifCond .le 5, 3) := by decide +kernel
theorem dX1_readSides_7 : decode cX1_readSides 7 = .ok (.iconst 0, 1) := by decide +kernel
theorem dX1_readSides_8 : decode cX1_readSides 8 = .ok (.ireturn, 1) := by decide +kernel
theorem dX1_readSides_9 : decode cX1_readSides 9 = .ok (.aload_n 0, 1) := by decide +kernel
theorem dX1_readSides_10 : decode cX1_readSides 10 = .ok (.invokevirtual 31, 3) := by decide +kernel
theorem dX1_readSides_13 : decode cX1_readSides 13 = .ok (.aload_n 0, 1) := by decide +kernel
theorem dX1_readSides_14 : decode cX1_readSides 14 = .ok (.iconst 3, 1) := by decide +kernel
theorem dX1_readSides_15 : decode cX1_readSides 15 = .ok (.bipush 8, 2) := by decide +kernel
theorem dX1_readSides_17 : decode cX1_readSides 17 = .ok (.invokevirtual 89, 3) := by decide +kernel
theorem dX1_readSides_20 : decode cX1_readSides 20 = .ok (.ifCond .ne 5, 3) := by decide +kernel
theorem dX1_readSides_23 : decode cX1_readSides 23 = .ok (.iconst 0, 1) := by decide +kernel
theorem dX1_readSides_24 : decode cX1_readSides 24 = .ok (.ireturn, 1) := by decide +kernel
theorem dX1_readSides_25 : decode cX1_readSides 25 = .ok (.aload_n 1, 1) := by decide +kernel
theorem dX1_readSides_26 : decode cX1_readSides 26 = .ok (.aload_n 0, 1) := by decide +kernel
theorem dX1_readSides_27 : decode cX1_readSides 27 = .ok (.getfield 28, 3) := by decide +kernel
theorem dX1_readSides_30 : decode cX1_readSides 30 = .ok (.invokevirtual 93, 3) := by decide +kernel
theorem dX1_readSides_33 : decode cX1_readSides 33 = .ok (.aload_n 0, 1) := by decide +kernel
theorem dX1_readSides_34 : decode cX1_readSides 34 = .ok (.invokevirtual 31, 3) := by decide +kernel
theorem dX1_readSides_37 : decode cX1_readSides 37 = .ok (.iconst 1, 1) := by decide +kernel
theorem dX1_readSides_38 : decode cX1_readSides 38 = .ok (.ireturn, 1) := by decide +kernel
def fX1_readSides_0 (s : SS) : Option (Int32 × SS) := if (s.1 2 11) ≤ 0 then (((fX1_advance (selS (fun k => 0 + k) s)).bind fun z2 => ((fX1_isNumber (3 : Int32) (8 : Int32) (selS (fun k => 0 + k) (mrgS (fun k => 0 + k) 2 s z2.2))).bind fun z3 => if z3.1 = 0 then (some ((0 : Int32), mrgS (fun k => 0 + k) 2 (mrgS (fun k => 0 + k) 2 s z2.2) z3.2)) else (((fX0_becomeSides ((mrgS (fun k => 0 + k) 2 (mrgS (fun k => 0 + k) 2 s z2.2) z3.2).1 0 5) (selS (fun k => 2 + k) (mrgS (fun k => 0 + k) 2 (mrgS (fun k => 0 + k) 2 s z2.2) z3.2))).bind fun z5 => ((fX1_advance (selS (fun k => 0 + k) (mrgS (fun k => 2 + k) 5 (mrgS (fun k => 0 + k) 2 (mrgS (fun k => 0 + k) 2 s z2.2) z3.2) z5.2))).bind fun z6 => some ((1 : Int32), mrgS (fun k => 0 + k) 2 (mrgS (fun k => 2 + k) 5 (mrgS (fun k => 0 + k) 2 (mrgS (fun k => 0 + k) 2 s z2.2) z3.2) z5.2) z6.2))))))) else (some ((0 : Int32), s))
def fX1_readSides (s : SS) : Option (Int32 × SS) := fX1_readSides_0 s
set_option maxRecDepth 100000 in
set_option maxHeartbeats 4000000 in
theorem okX1_readSides_0 {G : GG} {pl : Nat → Nat} {h0 : PH} (s : SS) : EvF G 3 mX1_readSides lyKC pl h0 rvI (fX1_readSides_0 s) 0 [(0, .ref (pl 0)), (1, .ref (pl 2))] [] s := by
  unfold fX1_readSides_0
  refine ef_aload_n (q := 1) 1 dX1_readSides_0 rfl rfl rfl ?_
  refine ef_getI (x := s.1 2 11) (q := 4) rfl fl1_84 rfl rfl dX1_readSides_1 rfl ?_
  refine ef_if (pt := 9) (pf := 7) (fun _ _ => ev_if_le (tgt := 9) dX1_readSides_4 (by decide)) (fun h1 => ?_) (fun h1 => ?_)
  · refine ef_aload_n (q := 10) 0 dX1_readSides_9 rfl rfl rfl ?_
    refine ef_invVU (k := 0) (nn := 2) (π := (fun k => 0 + k)) (As := []) (rest := []) (q := 13) (okX1_advance) (by decide +kernel) rfl calX1_advance ml1_31 (by decide) rfl rfl rfl (Nat.le_of_ble_eq_true rfl) dX1_readSides_10 rfl rfl (fun z2 => ?_)
    refine ef_aload_n (q := 14) 0 dX1_readSides_13 rfl rfl rfl ?_
    refine ef_iconst (v := (3 : Int32)) (q := 15) dX1_readSides_14 (by decide) rfl ?_
    refine ef_bipush (v := (8 : Int32)) (q := 17) dX1_readSides_15 (by decide) rfl ?_
    refine ef_invVI (k := 0) (nn := 2) (π := (fun k => 0 + k)) (As := [.int (3 : Int32), .int (8 : Int32)]) (rest := []) (q := 20) (okX1_isNumber (3 : Int32) (8 : Int32)) (by decide +kernel) rfl calX1_isNumber ml1_89 (by decide) rfl rfl rfl (Nat.le_of_ble_eq_true rfl) dX1_readSides_17 rfl rfl (fun z3 => ?_)
    refine ef_if (pt := 23) (pf := 25) (fun _ _ kt kf => ev_if_ne (tgt := 25) dX1_readSides_20 (by decide) kf kt) (fun h4 => ?_) (fun h4 => ?_)
    · refine ef_iconst (v := (0 : Int32)) (q := 24) dX1_readSides_23 (by decide) rfl ?_
      exact ef_zretc (x := (0 : Int32)) (by decide) rfl dX1_readSides_24
    · refine ef_aload_n (q := 26) 1 dX1_readSides_25 rfl rfl rfl ?_
      refine ef_aload_n (q := 27) 0 dX1_readSides_26 rfl rfl rfl ?_
      refine ef_getI (x := (mrgS (fun k => 0 + k) 2 (mrgS (fun k => 0 + k) 2 s z2.2) z3.2).1 0 5) (q := 30) rfl fl1_28 rfl rfl dX1_readSides_27 rfl ?_
      refine ef_invVU (k := 2) (nn := 5) (π := (fun k => 2 + k)) (As := [.int ((mrgS (fun k => 0 + k) 2 (mrgS (fun k => 0 + k) 2 s z2.2) z3.2).1 0 5)]) (rest := []) (q := 33) (okX0_becomeSides ((mrgS (fun k => 0 + k) 2 (mrgS (fun k => 0 + k) 2 s z2.2) z3.2).1 0 5)) (by decide +kernel) rfl calX0_becomeSides ml1_93 (by decide) rfl rfl rfl (Nat.le_of_ble_eq_true rfl) dX1_readSides_30 rfl rfl (fun z5 => ?_)
      refine ef_aload_n (q := 34) 0 dX1_readSides_33 rfl rfl rfl ?_
      refine ef_invVU (k := 0) (nn := 2) (π := (fun k => 0 + k)) (As := []) (rest := []) (q := 37) (okX1_advance) (by decide +kernel) rfl calX1_advance ml1_31 (by decide) rfl rfl rfl (Nat.le_of_ble_eq_true rfl) dX1_readSides_34 rfl rfl (fun z6 => ?_)
      refine ef_iconst (v := (1 : Int32)) (q := 38) dX1_readSides_37 (by decide) rfl ?_
      exact ef_zretc (x := (1 : Int32)) (by decide) rfl dX1_readSides_38
  · refine ef_iconst (v := (0 : Int32)) (q := 8) dX1_readSides_7 (by decide) rfl ?_
    exact ef_zretc (x := (0 : Int32)) (by decide) rfl dX1_readSides_8
theorem okX1_readSides : MtF 3 mX1_readSides lyKC rvI (fun _ pl => [.ref (pl 0), .ref (pl 2)]) (fX1_readSides) := by
  refine MtF.of (by decide +kernel) rfl (fun _ pl => Nat.le_of_ble_eq_true rfl) (fun G pl h0 s => ?_)
  refine ef_sub (lv := [(0, .ref (pl 0)), (1, .ref (pl 2))]) (lv' := [(0, .ref (pl 0)), (1, .ref (pl 2))]) [0, 1] rfl ?_
  exact okX1_readSides_0  s
-- X1_readScoop
theorem dX1_readScoop_0 : decode cX1_readScoop 0 = .ok (.aload_n 1, 1) := by decide +kernel
theorem dX1_readScoop_1 : decode cX1_readScoop 1 = .ok (.getfield 84, 3) := by decide +kernel
theorem dX1_readScoop_4 : decode cX1_readScoop 4 = .ok (.iconst 3, 1) := by decide +kernel
theorem dX1_readScoop_5 : decode cX1_readScoop 5 = .ok (.if_icmp .lt 5, 3) := by decide +kernel
theorem dX1_readScoop_8 : decode cX1_readScoop 8 = .ok (.iconst 0, 1) := by decide +kernel
theorem dX1_readScoop_9 : decode cX1_readScoop 9 = .ok (.ireturn, 1) := by decide +kernel
theorem dX1_readScoop_10 : decode cX1_readScoop 10 = .ok (.aload_n 0, 1) := by decide +kernel
theorem dX1_readScoop_11 : decode cX1_readScoop 11 = .ok (.invokevirtual 31, 3) := by decide +kernel
theorem dX1_readScoop_14 : decode cX1_readScoop 14 = .ok (.aload_n 0, 1) := by decide +kernel
theorem dX1_readScoop_15 : decode cX1_readScoop 15 = .ok (.iconst 0, 1) := by decide +kernel
theorem dX1_readScoop_16 : decode cX1_readScoop 16 = .ok (.bipush 9, 2) := by decide +kernel
theorem dX1_readScoop_18 : decode cX1_readScoop 18 = .ok (.invokevirtual 89, 3) := by decide +kernel
theorem dX1_readScoop_21 : decode cX1_readScoop 21 = .ok (.ifCond .ne 5, 3) := by decide +kernel
theorem dX1_readScoop_24 : decode cX1_readScoop 24 = .ok (.iconst 0, 1) := by decide +kernel
theorem dX1_readScoop_25 : decode cX1_readScoop 25 = .ok (.ireturn, 1) := by decide +kernel
theorem dX1_readScoop_26 : decode cX1_readScoop 26 = .ok (.aload_n 0, 1) := by decide +kernel
theorem dX1_readScoop_27 : decode cX1_readScoop 27 = .ok (.getfield 28, 3) := by decide +kernel
theorem dX1_readScoop_30 : decode cX1_readScoop 30 = .ok (.istore_n 2, 1) := by decide +kernel
theorem dX1_readScoop_31 : decode cX1_readScoop 31 = .ok (.aload_n 0, 1) := by decide +kernel
theorem dX1_readScoop_32 : decode cX1_readScoop 32 = .ok (.invokevirtual 31, 3) := by decide +kernel
theorem dX1_readScoop_35 : decode cX1_readScoop 35 = .ok (.aload_n 0, 1) := by decide +kernel
theorem dX1_readScoop_36 : decode cX1_readScoop 36 = .ok (.iconst 0, 1) := by decide +kernel
theorem dX1_readScoop_37 : decode cX1_readScoop 37 = .ok (.bipush 99, 2) := by decide +kernel
theorem dX1_readScoop_39 : decode cX1_readScoop 39 = .ok (.invokevirtual 89, 3) := by decide +kernel
theorem dX1_readScoop_42 : decode cX1_readScoop 42 = .ok (.ifCond .ne 5, 3) := by decide +kernel
theorem dX1_readScoop_45 : decode cX1_readScoop 45 = .ok (.iconst 0, 1) := by decide +kernel
theorem dX1_readScoop_46 : decode cX1_readScoop 46 = .ok (.ireturn, 1) := by decide +kernel
theorem dX1_readScoop_47 : decode cX1_readScoop 47 = .ok (.aload_n 1, 1) := by decide +kernel
theorem dX1_readScoop_48 : decode cX1_readScoop 48 = .ok (.iload_n 2, 1) := by decide +kernel
theorem dX1_readScoop_49 : decode cX1_readScoop 49 = .ok (.aload_n 0, 1) := by decide +kernel
theorem dX1_readScoop_50 : decode cX1_readScoop 50 = .ok (.getfield 28, 3) := by decide +kernel
theorem dX1_readScoop_53 : decode cX1_readScoop 53 = .ok (.invokevirtual 97, 3) := by decide +kernel
theorem dX1_readScoop_56 : decode cX1_readScoop 56 = .ok (.aload_n 0, 1) := by decide +kernel
theorem dX1_readScoop_57 : decode cX1_readScoop 57 = .ok (.invokevirtual 31, 3) := by decide +kernel
theorem dX1_readScoop_60 : decode cX1_readScoop 60 = .ok (.iconst 1, 1) := by decide +kernel
theorem dX1_readScoop_61 : decode cX1_readScoop 61 = .ok (.ireturn, 1) := by decide +kernel
def fX1_readScoop_0 (s : SS) : Option (Int32 × SS) := if (s.1 2 11) < (3 : Int32) then (((fX1_advance (selS (fun k => 0 + k) s)).bind fun z2 => ((fX1_isNumber (0 : Int32) (9 : Int32) (selS (fun k => 0 + k) (mrgS (fun k => 0 + k) 2 s z2.2))).bind fun z3 => if z3.1 = 0 then (some ((0 : Int32), mrgS (fun k => 0 + k) 2 (mrgS (fun k => 0 + k) 2 s z2.2) z3.2)) else (((fX1_advance (selS (fun k => 0 + k) (mrgS (fun k => 0 + k) 2 (mrgS (fun k => 0 + k) 2 s z2.2) z3.2))).bind fun z5 => ((fX1_isNumber (0 : Int32) (99 : Int32) (selS (fun k => 0 + k) (mrgS (fun k => 0 + k) 2 (mrgS (fun k => 0 + k) 2 (mrgS (fun k => 0 + k) 2 s z2.2) z3.2) z5.2))).bind fun z6 => if z6.1 = 0 then (some ((0 : Int32), mrgS (fun k => 0 + k) 2 (mrgS (fun k => 0 + k) 2 (mrgS (fun k => 0 + k) 2 (mrgS (fun k => 0 + k) 2 s z2.2) z3.2) z5.2) z6.2)) else (((fX0_putOnTop ((mrgS (fun k => 0 + k) 2 (mrgS (fun k => 0 + k) 2 s z2.2) z3.2).1 0 5) ((mrgS (fun k => 0 + k) 2 (mrgS (fun k => 0 + k) 2 (mrgS (fun k => 0 + k) 2 (mrgS (fun k => 0 + k) 2 s z2.2) z3.2) z5.2) z6.2).1 0 5) (selS (fun k => 2 + k) (mrgS (fun k => 0 + k) 2 (mrgS (fun k => 0 + k) 2 (mrgS (fun k => 0 + k) 2 (mrgS (fun k => 0 + k) 2 s z2.2) z3.2) z5.2) z6.2))).bind fun z8 => ((fX1_advance (selS (fun k => 0 + k) (mrgS (fun k => 2 + k) 5 (mrgS (fun k => 0 + k) 2 (mrgS (fun k => 0 + k) 2 (mrgS (fun k => 0 + k) 2 (mrgS (fun k => 0 + k) 2 s z2.2) z3.2) z5.2) z6.2) z8.2))).bind fun z9 => some ((1 : Int32), mrgS (fun k => 0 + k) 2 (mrgS (fun k => 2 + k) 5 (mrgS (fun k => 0 + k) 2 (mrgS (fun k => 0 + k) 2 (mrgS (fun k => 0 + k) 2 (mrgS (fun k => 0 + k) 2 s z2.2) z3.2) z5.2) z6.2) z8.2) z9.2)))))))))) else (some ((0 : Int32), s))
def fX1_readScoop (s : SS) : Option (Int32 × SS) := fX1_readScoop_0 s
set_option maxRecDepth 100000 in
set_option maxHeartbeats 4000000 in
theorem okX1_readScoop_0 {G : GG} {pl : Nat → Nat} {h0 : PH} (s : SS) : EvF G 3 mX1_readScoop lyKC pl h0 rvI (fX1_readScoop_0 s) 0 [(0, .ref (pl 0)), (1, .ref (pl 2))] [] s := by
  unfold fX1_readScoop_0
  refine ef_aload_n (q := 1) 1 dX1_readScoop_0 rfl rfl rfl ?_
  refine ef_getI (x := s.1 2 11) (q := 4) rfl fl1_84 rfl rfl dX1_readScoop_1 rfl ?_
  refine ef_iconst (v := (3 : Int32)) (q := 5) dX1_readScoop_4 (by decide) rfl ?_
  refine ef_if (pt := 10) (pf := 8) (fun _ _ => ev_icmp_lt (tgt := 10) dX1_readScoop_5 (by decide)) (fun h1 => ?_) (fun h1 => ?_)
  · refine ef_aload_n (q := 11) 0 dX1_readScoop_10 rfl rfl rfl ?_
    refine ef_invVU (k := 0) (nn := 2) (π := (fun k => 0 + k)) (As := []) (rest := []) (q := 14) (okX1_advance) (by decide +kernel) rfl calX1_advance ml1_31 (by decide) rfl rfl rfl (Nat.le_of_ble_eq_true rfl) dX1_readScoop_11 rfl rfl (fun z2 => ?_)
    refine ef_aload_n (q := 15) 0 dX1_readScoop_14 rfl rfl rfl ?_
    refine ef_iconst (v := (0 : Int32)) (q := 16) dX1_readScoop_15 (by decide) rfl ?_
    refine ef_bipush (v := (9 : Int32)) (q := 18) dX1_readScoop_16 (by decide) rfl ?_
    refine ef_invVI (k := 0) (nn := 2) (π := (fun k => 0 + k)) (As := [.int (0 : Int32), .int (9 : Int32)]) (rest := []) (q := 21) (okX1_isNumber (0 : Int32) (9 : Int32)) (by decide +kernel) rfl calX1_isNumber ml1_89 (by decide) rfl rfl rfl (Nat.le_of_ble_eq_true rfl) dX1_readScoop_18 rfl rfl (fun z3 => ?_)
    refine ef_if (pt := 24) (pf := 26) (fun _ _ kt kf => ev_if_ne (tgt := 26) dX1_readScoop_21 (by decide) kf kt) (fun h4 => ?_) (fun h4 => ?_)
    · refine ef_iconst (v := (0 : Int32)) (q := 25) dX1_readScoop_24 (by decide) rfl ?_
      exact ef_zretc (x := (0 : Int32)) (by decide) rfl dX1_readScoop_25
    · refine ef_aload_n (q := 27) 0 dX1_readScoop_26 rfl rfl rfl ?_
      refine ef_getI (x := (mrgS (fun k => 0 + k) 2 (mrgS (fun k => 0 + k) 2 s z2.2) z3.2).1 0 5) (q := 30) rfl fl1_28 rfl rfl dX1_readScoop_27 rfl ?_
      refine ef_istore_n (lv' := [(2, .int ((mrgS (fun k => 0 + k) 2 (mrgS (fun k => 0 + k) 2 s z2.2) z3.2).1 0 5)), (0, .ref (pl 0)), (1, .ref (pl 2))]) (q := 31) dX1_readScoop_30 rfl (by decide) rfl rfl ?_
      refine ef_aload_n (q := 32) 1 dX1_readScoop_31 rfl rfl rfl ?_
      refine ef_invVU (k := 0) (nn := 2) (π := (fun k => 0 + k)) (As := []) (rest := []) (q := 35) (okX1_advance) (by decide +kernel) rfl calX1_advance ml1_31 (by decide) rfl rfl rfl (Nat.le_of_ble_eq_true rfl) dX1_readScoop_32 rfl rfl (fun z5 => ?_)
      refine ef_aload_n (q := 36) 1 dX1_readScoop_35 rfl rfl rfl ?_
      refine ef_iconst (v := (0 : Int32)) (q := 37) dX1_readScoop_36 (by decide) rfl ?_
      refine ef_bipush (v := (99 : Int32)) (q := 39) dX1_readScoop_37 (by decide) rfl ?_
      refine ef_invVI (k := 0) (nn := 2) (π := (fun k => 0 + k)) (As := [.int (0 : Int32), .int (99 : Int32)]) (rest := []) (q := 42) (okX1_isNumber (0 : Int32) (99 : Int32)) (by decide +kernel) rfl calX1_isNumber ml1_89 (by decide) rfl rfl rfl (Nat.le_of_ble_eq_true rfl) dX1_readScoop_39 rfl rfl (fun z6 => ?_)
      refine ef_if (pt := 45) (pf := 47) (fun _ _ kt kf => ev_if_ne (tgt := 47) dX1_readScoop_42 (by decide) kf kt) (fun h7 => ?_) (fun h7 => ?_)
      · refine ef_iconst (v := (0 : Int32)) (q := 46) dX1_readScoop_45 (by decide) rfl ?_
        exact ef_zretc (x := (0 : Int32)) (by decide) rfl dX1_readScoop_46
      · refine ef_aload_n (q := 48) 2 dX1_readScoop_47 rfl rfl rfl ?_
        refine ef_iload_n (q := 49) 0 dX1_readScoop_48 rfl rfl rfl ?_
        refine ef_aload_n (q := 50) 1 dX1_readScoop_49 rfl rfl rfl ?_
        refine ef_getI (x := (mrgS (fun k => 0 + k) 2 (mrgS (fun k => 0 + k) 2 (mrgS (fun k => 0 + k) 2 (mrgS (fun k => 0 + k) 2 s z2.2) z3.2) z5.2) z6.2).1 0 5) (q := 53) rfl fl1_28 rfl rfl dX1_readScoop_50 rfl ?_
        refine ef_invVU (k := 2) (nn := 5) (π := (fun k => 2 + k)) (As := [.int ((mrgS (fun k => 0 + k) 2 (mrgS (fun k => 0 + k) 2 s z2.2) z3.2).1 0 5), .int ((mrgS (fun k => 0 + k) 2 (mrgS (fun k => 0 + k) 2 (mrgS (fun k => 0 + k) 2 (mrgS (fun k => 0 + k) 2 s z2.2) z3.2) z5.2) z6.2).1 0 5)]) (rest := []) (q := 56) (okX0_putOnTop ((mrgS (fun k => 0 + k) 2 (mrgS (fun k => 0 + k) 2 s z2.2) z3.2).1 0 5) ((mrgS (fun k => 0 + k) 2 (mrgS (fun k => 0 + k) 2 (mrgS (fun k => 0 + k) 2 (mrgS (fun k => 0 + k) 2 s z2.2) z3.2) z5.2) z6.2).1 0 5)) (by decide +kernel) rfl calX0_putOnTop ml1_97 (by decide) rfl rfl rfl (Nat.le_of_ble_eq_true rfl) dX1_readScoop_53 rfl rfl (fun z8 => ?_)
        refine ef_aload_n (q := 57) 1 dX1_readScoop_56 rfl rfl rfl ?_
        refine ef_invVU (k := 0) (nn := 2) (π := (fun k => 0 + k)) (As := []) (rest := []) (q := 60) (okX1_advance) (by decide +kernel) rfl calX1_advance ml1_31 (by decide) rfl rfl rfl (Nat.le_of_ble_eq_true rfl) dX1_readScoop_57 rfl rfl (fun z9 => ?_)
        refine ef_iconst (v := (1 : Int32)) (q := 61) dX1_readScoop_60 (by decide) rfl ?_
        exact ef_zretc (x := (1 : Int32)) (by decide) rfl dX1_readScoop_61
  · refine ef_iconst (v := (0 : Int32)) (q := 9) dX1_readScoop_8 (by decide) rfl ?_
    exact ef_zretc (x := (0 : Int32)) (by decide) rfl dX1_readScoop_9
theorem okX1_readScoop : MtF 3 mX1_readScoop lyKC rvI (fun _ pl => [.ref (pl 0), .ref (pl 2)]) (fX1_readScoop) := by
  refine MtF.of (by decide +kernel) rfl (fun _ pl => Nat.le_of_ble_eq_true rfl) (fun G pl h0 s => ?_)
  refine ef_sub (lv := [(0, .ref (pl 0)), (1, .ref (pl 2))]) (lv' := [(0, .ref (pl 0)), (1, .ref (pl 2))]) [0, 1] rfl ?_
  exact okX1_readScoop_0  s
-- X1_readSun
theorem dX1_readSun_0 : decode cX1_readSun 0 = .ok (.aload_n 0, 1) := by decide +kernel
theorem dX1_readSun_1 : decode cX1_readSun 1 = .ok (.invokevirtual 31, 3) := by decide +kernel
theorem dX1_readSun_4 : decode cX1_readSun 4 = .ok (.iconst 0, 1) := by decide +kernel
theorem dX1_readSun_5 : decode cX1_readSun 5 = .ok (.istore_n 2, 1) := by decide +kernel
theorem dX1_readSun_6 : decode cX1_readSun 6 = .ok (.iconst 0, 1) := by decide +kernel
theorem dX1_readSun_7 : decode cX1_readSun 7 = .ok (.istore_n 3, 1) := by decide +kernel
theorem dX1_readSun_8 : decode cX1_readSun 8 = .ok (.iload_n 3, 1) := by decide +kernel
theorem dX1_readSun_9 : decode cX1_readSun 9 = .ok (.bipush 8, 2) := by decide +kernel
theorem dX1_readSun_11 : decode cX1_readSun 11 = .ok (.if_icmp .gt 64, 3) := by decide +kernel
theorem dX1_readSun_14 : decode cX1_readSun 14 = .ok (.aload_n 0, 1) := by decide +kernel
theorem dX1_readSun_15 : decode cX1_readSun 15 = .ok (.getfield 19, 3) := by decide +kernel
theorem dX1_readSun_18 : decode cX1_readSun 18 = .ok (.iconst 2, 1) := by decide +kernel
theorem dX1_readSun_19 : decode cX1_readSun 19 = .ok (.if_icmp .eq 10, 3) := by decide +kernel
theorem dX1_readSun_22 : decode cX1_readSun 22 = .ok (.iload_n 3, 1) := by decide +kernel
theorem dX1_readSun_23 : decode cX1_readSun 23 = .ok (.ifCond .le 6, 3) := by decide +kernel
theorem dX1_readSun_26 : decode cX1_readSun 26 = .ok (.goto 49, 3) := by decide +kernel
theorem dX1_readSun_29 : decode cX1_readSun 29 = .ok (.aload_n 0, 1) := by decide +kernel
theorem dX1_readSun_30 : decode cX1_readSun 30 = .ok (.iconst 0, 1) := by decide +kernel
theorem dX1_readSun_31 : decode cX1_readSun 31 = .ok (.aload_n 1, 1) := by decide +kernel
theorem dX1_readSun_32 : decode cX1_readSun 32 = .ok (.getfield 101, 3) := by decide +kernel
theorem dX1_readSun_35 : decode cX1_readSun 35 = .ok (.iconst 1, 1) := by decide +kernel
theorem dX1_readSun_36 : decode cX1_readSun 36 = .ok (.isub, 1) := by decide +kernel
theorem dX1_readSun_37 : decode cX1_readSun 37 = .ok (.invokevirtual 89, 3) := by decide +kernel
theorem dX1_readSun_40 : decode cX1_readSun 40 = .ok (.ifCond .eq 14, 3) := by decide +kernel
theorem dX1_readSun_43 : decode cX1_readSun 43 = .ok (.iload_n 2, 1) := by decide +kernel
theorem dX1_readSun_44 : decode cX1_readSun 44 = .ok (.aload_n 0, 1) := by decide +kernel
theorem dX1_readSun_45 : decode cX1_readSun 45 = .ok (.getfield 28, 3) := by decide +kernel
theorem dX1_readSun_48 : decode cX1_readSun 48 = .ok (.ishr, 1) := by decide +kernel
theorem dX1_readSun_49 : decode cX1_readSun 49 = .ok (.iconst 1, 1) := by decide +kernel
theorem dX1_readSun_50 : decode cX1_readSun 50 = .ok (.iand, 1) := by decide +kernel
theorem dX1_readSun_51 : decode cX1_readSun 51 = .ok (.ifCond .eq 5, 3) := by decide +kernel
theorem dX1_readSun_54 : decode cX1_readSun 54 = .ok (.iconst 0, 1) := by decide +kernel
theorem dX1_readSun_55 : decode cX1_readSun 55 = .ok (.ireturn, 1) := by decide +kernel
theorem dX1_readSun_56 : decode cX1_readSun 56 = .ok (.iload_n 2, 1) := by decide +kernel
theorem dX1_readSun_57 : decode cX1_readSun 57 = .ok (.iconst 1, 1) := by decide +kernel
theorem dX1_readSun_58 : decode cX1_readSun 58 = .ok (.aload_n 0, 1) := by decide +kernel
theorem dX1_readSun_59 : decode cX1_readSun 59 = .ok (.getfield 28, 3) := by decide +kernel
theorem dX1_readSun_62 : decode cX1_readSun 62 = .ok (.ishl, 1) := by decide +kernel
theorem dX1_readSun_63 : decode cX1_readSun 63 = .ok (.ior, 1) := by decide +kernel
theorem dX1_readSun_64 : decode cX1_readSun 64 = .ok (.istore_n 2, 1) := by decide +kernel
theorem dX1_readSun_65 : decode cX1_readSun 65 = .ok (.aload_n 0, 1) := by decide +kernel
theorem dX1_readSun_66 : decode cX1_readSun 66 = .ok (.invokevirtual 31, 3) := by decide +kernel
theorem dX1_readSun_69 : decode cX1_readSun 69 = .ok (.iinc 3 1, 3) := by decide +kernel
theorem dX1_readSun_72 : decode cX1_readSun 72 = .ok (.goto (-64), 3) := by decide +kernel
theorem dX1_readSun_75 : decode cX1_readSun 75 = .ok (.aload_n 1, 1) := by decide +kernel
theorem dX1_readSun_76 : decode cX1_readSun 76 = .ok (.iload_n 2, 1) := by decide +kernel
theorem dX1_readSun_77 : decode cX1_readSun 77 = .ok (.putfield 104, 3) := by decide +kernel
theorem dX1_readSun_80 : decode cX1_readSun 80 = .ok (.iconst 1, 1) := by decide +kernel
theorem dX1_readSun_81 : decode cX1_readSun 81 = .ok (.ireturn, 1) := by decide +kernel
def fX1_readSun_29 (rec_8 : Int32 → Int32 → SS → Option (Int32 × SS)) (x2 : Int32) (x3 : Int32) (s : SS) : Option (Int32 × SS) := ((fX1_isNumber (0 : Int32) ((s.1 2 0) - (1 : Int32)) (selS (fun k => 0 + k) s)).bind fun z1 => if z1.1 = 0 then (some ((0 : Int32), mrgS (fun k => 0 + k) 2 s z1.2)) else (if ((x2 >>> (((mrgS (fun k => 0 + k) 2 s z1.2).1 0 5) &&& 31)) &&& (1 : Int32)) = 0 then (((fX1_advance (selS (fun k => 0 + k) (mrgS (fun k => 0 + k) 2 s z1.2))).bind fun z4 => rec_8 (x2 ||| ((1 : Int32) <<< (((mrgS (fun k => 0 + k) 2 s z1.2).1 0 5) &&& 31))) (x3 + (1 : Int32)) (mrgS (fun k => 0 + k) 2 (mrgS (fun k => 0 + k) 2 s z1.2) z4.2))) else (some ((0 : Int32), mrgS (fun k => 0 + k) 2 s z1.2))))
def fX1_readSun_8 : Nat → Int32 → Int32 → SS → Option (Int32 × SS)
  | 0, _, _, _ => none
  | n + 1, x2, x3, s => if (8 : Int32) < x3 then (some ((1 : Int32), wrI s 2 2 x2)) else (if (s.1 0 2) = (2 : Int32) then (fX1_readSun_29 (fX1_readSun_8 n) x2 x3 s) else (if x3 ≤ 0 then (fX1_readSun_29 (fX1_readSun_8 n) x2 x3 s) else (some ((1 : Int32), wrI s 2 2 x2))))
def fX1_readSun_0 (s : SS) : Option (Int32 × SS) := ((fX1_advance (selS (fun k => 0 + k) s)).bind fun z1 => fX1_readSun_8 FU (0 : Int32) (0 : Int32) (mrgS (fun k => 0 + k) 2 s z1.2))
def fX1_readSun (s : SS) : Option (Int32 × SS) := fX1_readSun_0 s
set_option maxRecDepth 100000 in
set_option maxHeartbeats 4000000 in
theorem okX1_readSun_29 {G : GG} {pl : Nat → Nat} {h0 : PH} (rec_8 : Int32 → Int32 → SS → Option (Int32 × SS)) (hrec_8 : ∀ (x2 : Int32) (x3 : Int32) (s : SS), EvF G 3 mX1_readSun lyKC pl h0 rvI (rec_8 x2 x3 s) 8 [(0, .ref (pl 0)), (1, .ref (pl 2)), (2, .int x2), (3, .int x3)] [] s) (x2 : Int32) (x3 : Int32) (s : SS) : EvF G 3 mX1_readSun lyKC pl h0 rvI (fX1_readSun_29 rec_8 x2 x3 s) 29 [(0, .ref (pl 0)), (1, .ref (pl 2)), (2, .int x2), (3, .int x3)] [] s := by
  unfold fX1_readSun_29
  refine ef_aload_n (q := 30) 0 dX1_readSun_29 rfl rfl rfl ?_
  refine ef_iconst (v := (0 : Int32)) (q := 31) dX1_readSun_30 (by decide) rfl ?_
  refine ef_aload_n (q := 32) 1 dX1_readSun_31 rfl rfl rfl ?_
  refine ef_getI (x := s.1 2 0) (q := 35) rfl fl1_101 rfl rfl dX1_readSun_32 rfl ?_
  refine ef_iconst (v := (1 : Int32)) (q := 36) dX1_readSun_35 (by decide) rfl ?_
  refine ef_isub (q := 37) dX1_readSun_36 rfl ?_
  refine ef_invVI (k := 0) (nn := 2) (π := (fun k => 0 + k)) (As := [.int (0 : Int32), .int ((s.1 2 0) - (1 : Int32))]) (rest := []) (q := 40) (okX1_isNumber (0 : Int32) ((s.1 2 0) - (1 : Int32))) (by decide +kernel) rfl calX1_isNumber ml1_89 (by decide) rfl rfl rfl (Nat.le_of_ble_eq_true rfl) dX1_readSun_37 rfl rfl (fun z1 => ?_)
  refine ef_if (pt := 54) (pf := 43) (fun _ _ => ev_if_eq (tgt := 54) dX1_readSun_40 (by decide)) (fun h2 => ?_) (fun h2 => ?_)
  · refine ef_iconst (v := (0 : Int32)) (q := 55) dX1_readSun_54 (by decide) rfl ?_
    exact ef_zretc (x := (0 : Int32)) (by decide) rfl dX1_readSun_55
  · refine ef_iload_n (q := 44) 2 dX1_readSun_43 rfl rfl rfl ?_
    refine ef_aload_n (q := 45) 0 dX1_readSun_44 rfl rfl rfl ?_
    refine ef_getI (x := (mrgS (fun k => 0 + k) 2 s z1.2).1 0 5) (q := 48) rfl fl1_28 rfl rfl dX1_readSun_45 rfl ?_
    refine ef_ishr (q := 49) dX1_readSun_48 rfl ?_
    refine ef_iconst (v := (1 : Int32)) (q := 50) dX1_readSun_49 (by decide) rfl ?_
    refine ef_iand (q := 51) dX1_readSun_50 rfl ?_
    refine ef_if (pt := 56) (pf := 54) (fun _ _ => ev_if_eq (tgt := 56) dX1_readSun_51 (by decide)) (fun h3 => ?_) (fun h3 => ?_)
    · refine ef_iload_n (q := 57) 2 dX1_readSun_56 rfl rfl rfl ?_
      refine ef_iconst (v := (1 : Int32)) (q := 58) dX1_readSun_57 (by decide) rfl ?_
      refine ef_aload_n (q := 59) 0 dX1_readSun_58 rfl rfl rfl ?_
      refine ef_getI (x := (mrgS (fun k => 0 + k) 2 s z1.2).1 0 5) (q := 62) rfl fl1_28 rfl rfl dX1_readSun_59 rfl ?_
      refine ef_ishl (q := 63) dX1_readSun_62 rfl ?_
      refine ef_ior (q := 64) dX1_readSun_63 rfl ?_
      refine ef_istore_n (lv' := [(2, .int (x2 ||| ((1 : Int32) <<< (((mrgS (fun k => 0 + k) 2 s z1.2).1 0 5) &&& 31)))), (0, .ref (pl 0)), (1, .ref (pl 2)), (3, .int x3)]) (q := 65) dX1_readSun_64 rfl (by decide) rfl rfl ?_
      refine ef_aload_n (q := 66) 1 dX1_readSun_65 rfl rfl rfl ?_
      refine ef_invVU (k := 0) (nn := 2) (π := (fun k => 0 + k)) (As := []) (rest := []) (q := 69) (okX1_advance) (by decide +kernel) rfl calX1_advance ml1_31 (by decide) rfl rfl rfl (Nat.le_of_ble_eq_true rfl) dX1_readSun_66 rfl rfl (fun z4 => ?_)
      refine ef_iinc (v := x3 + (1 : Int32)) (lv' := [(3, .int (x3 + (1 : Int32))), (2, .int (x2 ||| ((1 : Int32) <<< (((mrgS (fun k => 0 + k) 2 s z1.2).1 0 5) &&& 31)))), (0, .ref (pl 0)), (1, .ref (pl 2))]) (q := 72) 3 dX1_readSun_69 rfl rfl (by decide) rfl rfl ?_
      refine ef_goto (tgt := 8) dX1_readSun_72 (by decide) ?_
      refine ef_sub (lv' := [(0, .ref (pl 0)), (1, .ref (pl 2)), (2, .int (x2 ||| ((1 : Int32) <<< (((mrgS (fun k => 0 + k) 2 s z1.2).1 0 5) &&& 31)))), (3, .int (x3 + (1 : Int32)))]) [2, 3, 1, 0] rfl ?_
      exact hrec_8 (x2 ||| ((1 : Int32) <<< (((mrgS (fun k => 0 + k) 2 s z1.2).1 0 5) &&& 31))) (x3 + (1 : Int32)) (mrgS (fun k => 0 + k) 2 (mrgS (fun k => 0 + k) 2 s z1.2) z4.2)
    · refine ef_iconst (v := (0 : Int32)) (q := 55) dX1_readSun_54 (by decide) rfl ?_
      exact ef_zretc (x := (0 : Int32)) (by decide) rfl dX1_readSun_55
set_option maxRecDepth 100000 in
set_option maxHeartbeats 4000000 in
theorem okX1_readSun_8 {G : GG} {pl : Nat → Nat} {h0 : PH} : ∀ (n : Nat) (x2 : Int32) (x3 : Int32) (s : SS), EvF G 3 mX1_readSun lyKC pl h0 rvI (fX1_readSun_8 n x2 x3 s) 8 [(0, .ref (pl 0)), (1, .ref (pl 2)), (2, .int x2), (3, .int x3)] [] s := by
  intro n
  induction n with
  | zero => intro x2 x3 s; rw [fX1_readSun_8]; exact ef_none
  | succ n ih =>
    intro x2 x3 s
    rw [fX1_readSun_8]
    refine ef_iload_n (q := 9) 3 dX1_readSun_8 rfl rfl rfl ?_
    refine ef_bipush (v := (8 : Int32)) (q := 11) dX1_readSun_9 (by decide) rfl ?_
    refine ef_if (pt := 75) (pf := 14) (fun _ _ => ev_icmp_gt (tgt := 75) dX1_readSun_11 (by decide)) (fun h1 => ?_) (fun h1 => ?_)
    · refine ef_aload_n (q := 76) 1 dX1_readSun_75 rfl rfl rfl ?_
      refine ef_iload_n (q := 77) 2 dX1_readSun_76 rfl rfl rfl ?_
      refine ef_putI (q := 80) rfl fl1_104 rfl rfl dX1_readSun_77 rfl ?_
      refine ef_iconst (v := (1 : Int32)) (q := 81) dX1_readSun_80 (by decide) rfl ?_
      exact ef_zretc (x := (1 : Int32)) (by decide) rfl dX1_readSun_81
    · refine ef_aload_n (q := 15) 0 dX1_readSun_14 rfl rfl rfl ?_
      refine ef_getI (x := s.1 0 2) (q := 18) rfl fl1_19 rfl rfl dX1_readSun_15 rfl ?_
      refine ef_iconst (v := (2 : Int32)) (q := 19) dX1_readSun_18 (by decide) rfl ?_
      refine ef_if (pt := 29) (pf := 22) (fun _ _ => ev_icmp_eq (tgt := 29) dX1_readSun_19 (by decide)) (fun h2 => ?_) (fun h2 => ?_)
      · refine ef_sub (lv' := [(0, .ref (pl 0)), (1, .ref (pl 2)), (2, .int x2), (3, .int x3)]) [0, 1, 2, 3] rfl ?_
        exact okX1_readSun_29 (fX1_readSun_8 n) ih x2 x3 s
      · refine ef_iload_n (q := 23) 3 dX1_readSun_22 rfl rfl rfl ?_
        refine ef_if (pt := 29) (pf := 26) (fun _ _ => ev_if_le (tgt := 29) dX1_readSun_23 (by decide)) (fun h3 => ?_) (fun h3 => ?_)
        · refine ef_sub (lv' := [(0, .ref (pl 0)), (1, .ref (pl 2)), (2, .int x2), (3, .int x3)]) [0, 1, 2, 3] rfl ?_
          exact okX1_readSun_29 (fX1_readSun_8 n) ih x2 x3 s
        · refine ef_goto (tgt := 75) dX1_readSun_26 (by decide) ?_
          refine ef_aload_n (q := 76) 1 dX1_readSun_75 rfl rfl rfl ?_
          refine ef_iload_n (q := 77) 2 dX1_readSun_76 rfl rfl rfl ?_
          refine ef_putI (q := 80) rfl fl1_104 rfl rfl dX1_readSun_77 rfl ?_
          refine ef_iconst (v := (1 : Int32)) (q := 81) dX1_readSun_80 (by decide) rfl ?_
          exact ef_zretc (x := (1 : Int32)) (by decide) rfl dX1_readSun_81
set_option maxRecDepth 100000 in
set_option maxHeartbeats 4000000 in
theorem okX1_readSun_0 {G : GG} {pl : Nat → Nat} {h0 : PH} (s : SS) : EvF G 3 mX1_readSun lyKC pl h0 rvI (fX1_readSun_0 s) 0 [(0, .ref (pl 0)), (1, .ref (pl 2))] [] s := by
  unfold fX1_readSun_0
  refine ef_aload_n (q := 1) 0 dX1_readSun_0 rfl rfl rfl ?_
  refine ef_invVU (k := 0) (nn := 2) (π := (fun k => 0 + k)) (As := []) (rest := []) (q := 4) (okX1_advance) (by decide +kernel) rfl calX1_advance ml1_31 (by decide) rfl rfl rfl (Nat.le_of_ble_eq_true rfl) dX1_readSun_1 rfl rfl (fun z1 => ?_)
  refine ef_iconst (v := (0 : Int32)) (q := 5) dX1_readSun_4 (by decide) rfl ?_
  refine ef_istore_n (lv' := [(2, .int (0 : Int32)), (0, .ref (pl 0)), (1, .ref (pl 2))]) (q := 6) dX1_readSun_5 rfl (by decide) rfl rfl ?_
  refine ef_iconst (v := (0 : Int32)) (q := 7) dX1_readSun_6 (by decide) rfl ?_
  refine ef_istore_n (lv' := [(3, .int (0 : Int32)), (2, .int (0 : Int32)), (0, .ref (pl 0)), (1, .ref (pl 2))]) (q := 8) dX1_readSun_7 rfl (by decide) rfl rfl ?_
  refine ef_sub (lv' := [(0, .ref (pl 0)), (1, .ref (pl 2)), (2, .int (0 : Int32)), (3, .int (0 : Int32))]) [2, 3, 1, 0] rfl ?_
  exact okX1_readSun_8 FU (0 : Int32) (0 : Int32) (mrgS (fun k => 0 + k) 2 s z1.2)
theorem okX1_readSun : MtF 3 mX1_readSun lyKC rvI (fun _ pl => [.ref (pl 0), .ref (pl 2)]) (fX1_readSun) := by
  refine MtF.of (by decide +kernel) rfl (fun _ pl => Nat.le_of_ble_eq_true rfl) (fun G pl h0 s => ?_)
  refine ef_sub (lv := [(0, .ref (pl 0)), (1, .ref (pl 2))]) (lv' := [(0, .ref (pl 0)), (1, .ref (pl 2))]) [0, 1] rfl ?_
  exact okX1_readSun_0  s
-- X1_readHold
theorem dX1_readHold_0 : decode cX1_readHold 0 = .ok (.aload_n 0, 1) := by decide +kernel
theorem dX1_readHold_1 : decode cX1_readHold 1 = .ok (.invokevirtual 31, 3) := by decide +kernel
theorem dX1_readHold_4 : decode cX1_readHold 4 = .ok (.aload_n 0, 1) := by decide +kernel
theorem dX1_readHold_5 : decode cX1_readHold 5 = .ok (.iconst 0, 1) := by decide +kernel
theorem dX1_readHold_6 : decode cX1_readHold 6 = .ok (.bipush 20, 2) := by decide +kernel
theorem dX1_readHold_8 : decode cX1_readHold 8 = .ok (.invokevirtual 89, 3) := by decide +kernel
theorem dX1_readHold_11 : decode cX1_readHold 11 = .ok (.ifCond .ne 5, 3) := by decide +kernel
theorem dX1_readHold_14 : decode cX1_readHold 14 = .ok (.iconst 0, 1) := by decide +kernel
theorem dX1_readHold_15 : decode cX1_readHold 15 = .ok (.ireturn, 1) := by decide +kernel
theorem dX1_readHold_16 : decode cX1_readHold 16 = .ok (.aload_n 1, 1) := by decide +kernel
theorem dX1_readHold_17 : decode cX1_readHold 17 = .ok (.aload_n 0, 1) := by decide +kernel
theorem dX1_readHold_18 : decode cX1_readHold 18 = .ok (.getfield 28, 3) := by decide +kernel
theorem dX1_readHold_21 : decode cX1_readHold 21 = .ok (.putfield 107, 3) := by decide +kernel
theorem dX1_readHold_24 : decode cX1_readHold 24 = .ok (.aload_n 0, 1) := by decide +kernel
theorem dX1_readHold_25 : decode cX1_readHold 25 = .ok (.invokevirtual 31, 3) := by decide +kernel
theorem dX1_readHold_28 : decode cX1_readHold 28 = .ok (.iconst 1, 1) := by decide +kernel
theorem dX1_readHold_29 : decode cX1_readHold 29 = .ok (.ireturn, 1) := by decide +kernel
def fX1_readHold_0 (s : SS) : Option (Int32 × SS) := ((fX1_advance (selS (fun k => 0 + k) s)).bind fun z1 => ((fX1_isNumber (0 : Int32) (20 : Int32) (selS (fun k => 0 + k) (mrgS (fun k => 0 + k) 2 s z1.2))).bind fun z2 => if z2.1 = 0 then (some ((0 : Int32), mrgS (fun k => 0 + k) 2 (mrgS (fun k => 0 + k) 2 s z1.2) z2.2)) else (((fX1_advance (selS (fun k => 0 + k) (wrI (mrgS (fun k => 0 + k) 2 (mrgS (fun k => 0 + k) 2 s z1.2) z2.2) 2 3 ((mrgS (fun k => 0 + k) 2 (mrgS (fun k => 0 + k) 2 s z1.2) z2.2).1 0 5)))).bind fun z4 => some ((1 : Int32), mrgS (fun k => 0 + k) 2 (wrI (mrgS (fun k => 0 + k) 2 (mrgS (fun k => 0 + k) 2 s z1.2) z2.2) 2 3 ((mrgS (fun k => 0 + k) 2 (mrgS (fun k => 0 + k) 2 s z1.2) z2.2).1 0 5)) z4.2)))))
def fX1_readHold (s : SS) : Option (Int32 × SS) := fX1_readHold_0 s
set_option maxRecDepth 100000 in
set_option maxHeartbeats 4000000 in
theorem okX1_readHold_0 {G : GG} {pl : Nat → Nat} {h0 : PH} (s : SS) : EvF G 3 mX1_readHold lyKC pl h0 rvI (fX1_readHold_0 s) 0 [(0, .ref (pl 0)), (1, .ref (pl 2))] [] s := by
  unfold fX1_readHold_0
  refine ef_aload_n (q := 1) 0 dX1_readHold_0 rfl rfl rfl ?_
  refine ef_invVU (k := 0) (nn := 2) (π := (fun k => 0 + k)) (As := []) (rest := []) (q := 4) (okX1_advance) (by decide +kernel) rfl calX1_advance ml1_31 (by decide) rfl rfl rfl (Nat.le_of_ble_eq_true rfl) dX1_readHold_1 rfl rfl (fun z1 => ?_)
  refine ef_aload_n (q := 5) 0 dX1_readHold_4 rfl rfl rfl ?_
  refine ef_iconst (v := (0 : Int32)) (q := 6) dX1_readHold_5 (by decide) rfl ?_
  refine ef_bipush (v := (20 : Int32)) (q := 8) dX1_readHold_6 (by decide) rfl ?_
  refine ef_invVI (k := 0) (nn := 2) (π := (fun k => 0 + k)) (As := [.int (0 : Int32), .int (20 : Int32)]) (rest := []) (q := 11) (okX1_isNumber (0 : Int32) (20 : Int32)) (by decide +kernel) rfl calX1_isNumber ml1_89 (by decide) rfl rfl rfl (Nat.le_of_ble_eq_true rfl) dX1_readHold_8 rfl rfl (fun z2 => ?_)
  refine ef_if (pt := 14) (pf := 16) (fun _ _ kt kf => ev_if_ne (tgt := 16) dX1_readHold_11 (by decide) kf kt) (fun h3 => ?_) (fun h3 => ?_)
  · refine ef_iconst (v := (0 : Int32)) (q := 15) dX1_readHold_14 (by decide) rfl ?_
    exact ef_zretc (x := (0 : Int32)) (by decide) rfl dX1_readHold_15
  · refine ef_aload_n (q := 17) 1 dX1_readHold_16 rfl rfl rfl ?_
    refine ef_aload_n (q := 18) 0 dX1_readHold_17 rfl rfl rfl ?_
    refine ef_getI (x := (mrgS (fun k => 0 + k) 2 (mrgS (fun k => 0 + k) 2 s z1.2) z2.2).1 0 5) (q := 21) rfl fl1_28 rfl rfl dX1_readHold_18 rfl ?_
    refine ef_putI (q := 24) rfl fl1_107 rfl rfl dX1_readHold_21 rfl ?_
    refine ef_aload_n (q := 25) 0 dX1_readHold_24 rfl rfl rfl ?_
    refine ef_invVU (k := 0) (nn := 2) (π := (fun k => 0 + k)) (As := []) (rest := []) (q := 28) (okX1_advance) (by decide +kernel) rfl calX1_advance ml1_31 (by decide) rfl rfl rfl (Nat.le_of_ble_eq_true rfl) dX1_readHold_25 rfl rfl (fun z4 => ?_)
    refine ef_iconst (v := (1 : Int32)) (q := 29) dX1_readHold_28 (by decide) rfl ?_
    exact ef_zretc (x := (1 : Int32)) (by decide) rfl dX1_readHold_29
theorem okX1_readHold : MtF 3 mX1_readHold lyKC rvI (fun _ pl => [.ref (pl 0), .ref (pl 2)]) (fX1_readHold) := by
  refine MtF.of (by decide +kernel) rfl (fun _ pl => Nat.le_of_ble_eq_true rfl) (fun G pl h0 s => ?_)
  refine ef_sub (lv := [(0, .ref (pl 0)), (1, .ref (pl 2))]) (lv' := [(0, .ref (pl 0)), (1, .ref (pl 2))]) [0, 1] rfl ?_
  exact okX1_readHold_0  s
-- X1_readBrim
theorem dX1_readBrim_0 : decode cX1_readBrim 0 = .ok (.aload_n 0, 1) := by decide +kernel
theorem dX1_readBrim_1 : decode cX1_readBrim 1 = .ok (.invokevirtual 31, 3) := by decide +kernel
theorem dX1_readBrim_4 : decode cX1_readBrim 4 = .ok (.aload_n 0, 1) := by decide +kernel
theorem dX1_readBrim_5 : decode cX1_readBrim 5 = .ok (.iconst 0, 1) := by decide +kernel
theorem dX1_readBrim_6 : decode cX1_readBrim 6 = .ok (.bipush 20, 2) := by decide +kernel
theorem dX1_readBrim_8 : decode cX1_readBrim 8 = .ok (.invokevirtual 89, 3) := by decide +kernel
theorem dX1_readBrim_11 : decode cX1_readBrim 11 = .ok (.ifCond .ne 5, 3) := by decide +kernel
theorem dX1_readBrim_14 : decode cX1_readBrim 14 = .ok (.iconst 0, 1) := by decide +kernel
theorem dX1_readBrim_15 : decode cX1_readBrim 15 = .ok (.ireturn, 1) := by decide +kernel
theorem dX1_readBrim_16 : decode cX1_readBrim 16 = .ok (.aload_n 1, 1) := by decide +kernel
theorem dX1_readBrim_17 : decode cX1_readBrim 17 = .ok (.aload_n 0, 1) := by decide +kernel
theorem dX1_readBrim_18 : decode cX1_readBrim 18 = .ok (.getfield 28, 3) := by decide +kernel
theorem dX1_readBrim_21 : decode cX1_readBrim 21 = .ok (.putfield 109, 3) := by decide +kernel
theorem dX1_readBrim_24 : decode cX1_readBrim 24 = .ok (.aload_n 0, 1) := by decide +kernel
theorem dX1_readBrim_25 : decode cX1_readBrim 25 = .ok (.invokevirtual 31, 3) := by decide +kernel
theorem dX1_readBrim_28 : decode cX1_readBrim 28 = .ok (.iconst 1, 1) := by decide +kernel
theorem dX1_readBrim_29 : decode cX1_readBrim 29 = .ok (.ireturn, 1) := by decide +kernel
def fX1_readBrim_0 (s : SS) : Option (Int32 × SS) := ((fX1_advance (selS (fun k => 0 + k) s)).bind fun z1 => ((fX1_isNumber (0 : Int32) (20 : Int32) (selS (fun k => 0 + k) (mrgS (fun k => 0 + k) 2 s z1.2))).bind fun z2 => if z2.1 = 0 then (some ((0 : Int32), mrgS (fun k => 0 + k) 2 (mrgS (fun k => 0 + k) 2 s z1.2) z2.2)) else (((fX1_advance (selS (fun k => 0 + k) (wrI (mrgS (fun k => 0 + k) 2 (mrgS (fun k => 0 + k) 2 s z1.2) z2.2) 2 4 ((mrgS (fun k => 0 + k) 2 (mrgS (fun k => 0 + k) 2 s z1.2) z2.2).1 0 5)))).bind fun z4 => some ((1 : Int32), mrgS (fun k => 0 + k) 2 (wrI (mrgS (fun k => 0 + k) 2 (mrgS (fun k => 0 + k) 2 s z1.2) z2.2) 2 4 ((mrgS (fun k => 0 + k) 2 (mrgS (fun k => 0 + k) 2 s z1.2) z2.2).1 0 5)) z4.2)))))
def fX1_readBrim (s : SS) : Option (Int32 × SS) := fX1_readBrim_0 s
set_option maxRecDepth 100000 in
set_option maxHeartbeats 4000000 in
theorem okX1_readBrim_0 {G : GG} {pl : Nat → Nat} {h0 : PH} (s : SS) : EvF G 3 mX1_readBrim lyKC pl h0 rvI (fX1_readBrim_0 s) 0 [(0, .ref (pl 0)), (1, .ref (pl 2))] [] s := by
  unfold fX1_readBrim_0
  refine ef_aload_n (q := 1) 0 dX1_readBrim_0 rfl rfl rfl ?_
  refine ef_invVU (k := 0) (nn := 2) (π := (fun k => 0 + k)) (As := []) (rest := []) (q := 4) (okX1_advance) (by decide +kernel) rfl calX1_advance ml1_31 (by decide) rfl rfl rfl (Nat.le_of_ble_eq_true rfl) dX1_readBrim_1 rfl rfl (fun z1 => ?_)
  refine ef_aload_n (q := 5) 0 dX1_readBrim_4 rfl rfl rfl ?_
  refine ef_iconst (v := (0 : Int32)) (q := 6) dX1_readBrim_5 (by decide) rfl ?_
  refine ef_bipush (v := (20 : Int32)) (q := 8) dX1_readBrim_6 (by decide) rfl ?_
  refine ef_invVI (k := 0) (nn := 2) (π := (fun k => 0 + k)) (As := [.int (0 : Int32), .int (20 : Int32)]) (rest := []) (q := 11) (okX1_isNumber (0 : Int32) (20 : Int32)) (by decide +kernel) rfl calX1_isNumber ml1_89 (by decide) rfl rfl rfl (Nat.le_of_ble_eq_true rfl) dX1_readBrim_8 rfl rfl (fun z2 => ?_)
  refine ef_if (pt := 14) (pf := 16) (fun _ _ kt kf => ev_if_ne (tgt := 16) dX1_readBrim_11 (by decide) kf kt) (fun h3 => ?_) (fun h3 => ?_)
  · refine ef_iconst (v := (0 : Int32)) (q := 15) dX1_readBrim_14 (by decide) rfl ?_
    exact ef_zretc (x := (0 : Int32)) (by decide) rfl dX1_readBrim_15
  · refine ef_aload_n (q := 17) 1 dX1_readBrim_16 rfl rfl rfl ?_
    refine ef_aload_n (q := 18) 0 dX1_readBrim_17 rfl rfl rfl ?_
    refine ef_getI (x := (mrgS (fun k => 0 + k) 2 (mrgS (fun k => 0 + k) 2 s z1.2) z2.2).1 0 5) (q := 21) rfl fl1_28 rfl rfl dX1_readBrim_18 rfl ?_
    refine ef_putI (q := 24) rfl fl1_109 rfl rfl dX1_readBrim_21 rfl ?_
    refine ef_aload_n (q := 25) 0 dX1_readBrim_24 rfl rfl rfl ?_
    refine ef_invVU (k := 0) (nn := 2) (π := (fun k => 0 + k)) (As := []) (rest := []) (q := 28) (okX1_advance) (by decide +kernel) rfl calX1_advance ml1_31 (by decide) rfl rfl rfl (Nat.le_of_ble_eq_true rfl) dX1_readBrim_25 rfl rfl (fun z4 => ?_)
    refine ef_iconst (v := (1 : Int32)) (q := 29) dX1_readBrim_28 (by decide) rfl ?_
    exact ef_zretc (x := (1 : Int32)) (by decide) rfl dX1_readBrim_29
theorem okX1_readBrim : MtF 3 mX1_readBrim lyKC rvI (fun _ pl => [.ref (pl 0), .ref (pl 2)]) (fX1_readBrim) := by
  refine MtF.of (by decide +kernel) rfl (fun _ pl => Nat.le_of_ble_eq_true rfl) (fun G pl h0 s => ?_)
  refine ef_sub (lv := [(0, .ref (pl 0)), (1, .ref (pl 2))]) (lv' := [(0, .ref (pl 0)), (1, .ref (pl 2))]) [0, 1] rfl ?_
  exact okX1_readBrim_0  s
-- X1_readLicker
theorem dX1_readLicker_0 : decode cX1_readLicker 0 = .ok (.aload_n 1, 1) := by decide +kernel
theorem dX1_readLicker_1 : decode cX1_readLicker 1 = .ok (.getfield 111, 3) := by decide +kernel
theorem dX1_readLicker_4 : decode cX1_readLicker 4 = .ok (.iconst 4, 1) := by decide +kernel
theorem dX1_readLicker_5 : decode cX1_readLicker 5 = .ok (.if_icmp .lt 5, 3) := by decide +kernel
theorem dX1_readLicker_8 : decode cX1_readLicker 8 = .ok (.iconst 0, 1) := by decide +kernel
theorem dX1_readLicker_9 : decode cX1_readLicker 9 = .ok (.ireturn, 1) := by decide +kernel
theorem dX1_readLicker_10 : decode cX1_readLicker 10 = .ok (.aload_n 0, 1) := by decide +kernel
theorem dX1_readLicker_11 : decode cX1_readLicker 11 = .ok (.invokevirtual 31, 3) := by decide +kernel
theorem dX1_readLicker_14 : decode cX1_readLicker 14 = .ok (.aload_n 0, 1) := by decide +kernel
theorem dX1_readLicker_15 : decode cX1_readLicker 15 = .ok (.iconst 0, 1) := by decide +kernel
theorem dX1_readLicker_16 : decode cX1_readLicker 16 = .ok (.iconst 5, 1) := by decide +kernel
theorem dX1_readLicker_17 : decode cX1_readLicker 17 = .ok (.invokevirtual 89, 3) := by decide +kernel
theorem dX1_readLicker_20 : decode cX1_readLicker 20 = .ok (.ifCond .ne 5, 3) := by decide +kernel
theorem dX1_readLicker_23 : decode cX1_readLicker 23 = .ok (.iconst 0, 1) := by decide +kernel
theorem dX1_readLicker_24 : decode cX1_readLicker 24 = .ok (.ireturn, 1) := by decide +kernel
theorem dX1_readLicker_25 : decode cX1_readLicker 25 = .ok (.aload_n 0, 1) := by decide +kernel
theorem dX1_readLicker_26 : decode cX1_readLicker 26 = .ok (.getfield 28, 3) := by decide +kernel
theorem dX1_readLicker_29 : decode cX1_readLicker 29 = .ok (.istore_n 2, 1) := by decide +kernel
theorem dX1_readLicker_30 : decode cX1_readLicker 30 = .ok (.aload_n 0, 1) := by decide +kernel
theorem dX1_readLicker_31 : decode cX1_readLicker 31 = .ok (.invokevirtual 31, 3) := by decide +kernel
theorem dX1_readLicker_34 : decode cX1_readLicker 34 = .ok (.aload_n 0, 1) := by decide +kernel
theorem dX1_readLicker_35 : decode cX1_readLicker 35 = .ok (.iconst 0, 1) := by decide +kernel
theorem dX1_readLicker_36 : decode cX1_readLicker 36 = .ok (.bipush 9, 2) := by decide +kernel
theorem dX1_readLicker_38 : decode cX1_readLicker 38 = .ok (.invokevirtual 89, 3) := by decide +kernel
theorem dX1_readLicker_41 : decode cX1_readLicker 41 = .ok (.ifCond .ne 5, 3) := by decide +kernel
theorem dX1_readLicker_44 : decode cX1_readLicker 44 = .ok (.iconst 0, 1) := by decide +kernel
theorem dX1_readLicker_45 : decode cX1_readLicker 45 = .ok (.ireturn, 1) := by decide +kernel
theorem dX1_readLicker_46 : decode cX1_readLicker 46 = .ok (.aload_n 1, 1) := by decide +kernel
theorem dX1_readLicker_47 : decode cX1_readLicker 47 = .ok (.iload_n 2, 1) := by decide +kernel
theorem dX1_readLicker_48 : decode cX1_readLicker 48 = .ok (.aload_n 0, 1) := by decide +kernel
theorem dX1_readLicker_49 : decode cX1_readLicker 49 = .ok (.getfield 28, 3) := by decide +kernel
theorem dX1_readLicker_52 : decode cX1_readLicker 52 = .ok (.invokevirtual 114, 3) := by decide +kernel
theorem dX1_readLicker_55 : decode cX1_readLicker 55 = .ok (.aload_n 0, 1) := by decide +kernel
theorem dX1_readLicker_56 : decode cX1_readLicker 56 = .ok (.invokevirtual 31, 3) := by decide +kernel
theorem dX1_readLicker_59 : decode cX1_readLicker 59 = .ok (.iconst 1, 1) := by decide +kernel
theorem dX1_readLicker_60 : decode cX1_readLicker 60 = .ok (.ireturn, 1) := by decide +kernel
def fX1_readLicker_0 (s : SS) : Option (Int32 × SS) := if (s.1 2 3) < (4 : Int32) then (((fX1_advance (selS (fun k => 0 + k) s)).bind fun z2 => ((fX1_isNumber (0 : Int32) (5 : Int32) (selS (fun k => 0 + k) (mrgS (fun k => 0 + k) 2 s z2.2))).bind fun z3 => if z3.1 = 0 then (some ((0 : Int32), mrgS (fun k => 0 + k) 2 (mrgS (fun k => 0 + k) 2 s z2.2) z3.2)) else (((fX1_advance (selS (fun k => 0 + k) (mrgS (fun k => 0 + k) 2 (mrgS (fun k => 0 + k) 2 s z2.2) z3.2))).bind fun z5 => ((fX1_isNumber (0 : Int32) (9 : Int32) (selS (fun k => 0 + k) (mrgS (fun k => 0 + k) 2 (mrgS (fun k => 0 + k) 2 (mrgS (fun k => 0 + k) 2 s z2.2) z3.2) z5.2))).bind fun z6 => if z6.1 = 0 then (some ((0 : Int32), mrgS (fun k => 0 + k) 2 (mrgS (fun k => 0 + k) 2 (mrgS (fun k => 0 + k) 2 (mrgS (fun k => 0 + k) 2 s z2.2) z3.2) z5.2) z6.2)) else (((fX4_addLicker ((mrgS (fun k => 0 + k) 2 (mrgS (fun k => 0 + k) 2 s z2.2) z3.2).1 0 5) ((mrgS (fun k => 0 + k) 2 (mrgS (fun k => 0 + k) 2 (mrgS (fun k => 0 + k) 2 (mrgS (fun k => 0 + k) 2 s z2.2) z3.2) z5.2) z6.2).1 0 5) (selS (fun k => 2 + k) (mrgS (fun k => 0 + k) 2 (mrgS (fun k => 0 + k) 2 (mrgS (fun k => 0 + k) 2 (mrgS (fun k => 0 + k) 2 s z2.2) z3.2) z5.2) z6.2))).bind fun z8 => ((fX1_advance (selS (fun k => 0 + k) (mrgS (fun k => 2 + k) 9 (mrgS (fun k => 0 + k) 2 (mrgS (fun k => 0 + k) 2 (mrgS (fun k => 0 + k) 2 (mrgS (fun k => 0 + k) 2 s z2.2) z3.2) z5.2) z6.2) z8.2))).bind fun z9 => some ((1 : Int32), mrgS (fun k => 0 + k) 2 (mrgS (fun k => 2 + k) 9 (mrgS (fun k => 0 + k) 2 (mrgS (fun k => 0 + k) 2 (mrgS (fun k => 0 + k) 2 (mrgS (fun k => 0 + k) 2 s z2.2) z3.2) z5.2) z6.2) z8.2) z9.2)))))))))) else (some ((0 : Int32), s))
def fX1_readLicker (s : SS) : Option (Int32 × SS) := fX1_readLicker_0 s
set_option maxRecDepth 100000 in
set_option maxHeartbeats 4000000 in
theorem okX1_readLicker_0 {G : GG} {pl : Nat → Nat} {h0 : PH} (s : SS) : EvF G 3 mX1_readLicker lyKW pl h0 rvI (fX1_readLicker_0 s) 0 [(0, .ref (pl 0)), (1, .ref (pl 2))] [] s := by
  unfold fX1_readLicker_0
  refine ef_aload_n (q := 1) 1 dX1_readLicker_0 rfl rfl rfl ?_
  refine ef_getI (x := s.1 2 3) (q := 4) rfl fl1_111 rfl rfl dX1_readLicker_1 rfl ?_
  refine ef_iconst (v := (4 : Int32)) (q := 5) dX1_readLicker_4 (by decide) rfl ?_
  refine ef_if (pt := 10) (pf := 8) (fun _ _ => ev_icmp_lt (tgt := 10) dX1_readLicker_5 (by decide)) (fun h1 => ?_) (fun h1 => ?_)
  · refine ef_aload_n (q := 11) 0 dX1_readLicker_10 rfl rfl rfl ?_
    refine ef_invVU (k := 0) (nn := 2) (π := (fun k => 0 + k)) (As := []) (rest := []) (q := 14) (okX1_advance) (by decide +kernel) rfl calX1_advance ml1_31 (by decide) rfl rfl rfl (Nat.le_of_ble_eq_true rfl) dX1_readLicker_11 rfl rfl (fun z2 => ?_)
    refine ef_aload_n (q := 15) 0 dX1_readLicker_14 rfl rfl rfl ?_
    refine ef_iconst (v := (0 : Int32)) (q := 16) dX1_readLicker_15 (by decide) rfl ?_
    refine ef_iconst (v := (5 : Int32)) (q := 17) dX1_readLicker_16 (by decide) rfl ?_
    refine ef_invVI (k := 0) (nn := 2) (π := (fun k => 0 + k)) (As := [.int (0 : Int32), .int (5 : Int32)]) (rest := []) (q := 20) (okX1_isNumber (0 : Int32) (5 : Int32)) (by decide +kernel) rfl calX1_isNumber ml1_89 (by decide) rfl rfl rfl (Nat.le_of_ble_eq_true rfl) dX1_readLicker_17 rfl rfl (fun z3 => ?_)
    refine ef_if (pt := 23) (pf := 25) (fun _ _ kt kf => ev_if_ne (tgt := 25) dX1_readLicker_20 (by decide) kf kt) (fun h4 => ?_) (fun h4 => ?_)
    · refine ef_iconst (v := (0 : Int32)) (q := 24) dX1_readLicker_23 (by decide) rfl ?_
      exact ef_zretc (x := (0 : Int32)) (by decide) rfl dX1_readLicker_24
    · refine ef_aload_n (q := 26) 0 dX1_readLicker_25 rfl rfl rfl ?_
      refine ef_getI (x := (mrgS (fun k => 0 + k) 2 (mrgS (fun k => 0 + k) 2 s z2.2) z3.2).1 0 5) (q := 29) rfl fl1_28 rfl rfl dX1_readLicker_26 rfl ?_
      refine ef_istore_n (lv' := [(2, .int ((mrgS (fun k => 0 + k) 2 (mrgS (fun k => 0 + k) 2 s z2.2) z3.2).1 0 5)), (0, .ref (pl 0)), (1, .ref (pl 2))]) (q := 30) dX1_readLicker_29 rfl (by decide) rfl rfl ?_
      refine ef_aload_n (q := 31) 1 dX1_readLicker_30 rfl rfl rfl ?_
      refine ef_invVU (k := 0) (nn := 2) (π := (fun k => 0 + k)) (As := []) (rest := []) (q := 34) (okX1_advance) (by decide +kernel) rfl calX1_advance ml1_31 (by decide) rfl rfl rfl (Nat.le_of_ble_eq_true rfl) dX1_readLicker_31 rfl rfl (fun z5 => ?_)
      refine ef_aload_n (q := 35) 1 dX1_readLicker_34 rfl rfl rfl ?_
      refine ef_iconst (v := (0 : Int32)) (q := 36) dX1_readLicker_35 (by decide) rfl ?_
      refine ef_bipush (v := (9 : Int32)) (q := 38) dX1_readLicker_36 (by decide) rfl ?_
      refine ef_invVI (k := 0) (nn := 2) (π := (fun k => 0 + k)) (As := [.int (0 : Int32), .int (9 : Int32)]) (rest := []) (q := 41) (okX1_isNumber (0 : Int32) (9 : Int32)) (by decide +kernel) rfl calX1_isNumber ml1_89 (by decide) rfl rfl rfl (Nat.le_of_ble_eq_true rfl) dX1_readLicker_38 rfl rfl (fun z6 => ?_)
      refine ef_if (pt := 44) (pf := 46) (fun _ _ kt kf => ev_if_ne (tgt := 46) dX1_readLicker_41 (by decide) kf kt) (fun h7 => ?_) (fun h7 => ?_)
      · refine ef_iconst (v := (0 : Int32)) (q := 45) dX1_readLicker_44 (by decide) rfl ?_
        exact ef_zretc (x := (0 : Int32)) (by decide) rfl dX1_readLicker_45
      · refine ef_aload_n (q := 47) 2 dX1_readLicker_46 rfl rfl rfl ?_
        refine ef_iload_n (q := 48) 0 dX1_readLicker_47 rfl rfl rfl ?_
        refine ef_aload_n (q := 49) 1 dX1_readLicker_48 rfl rfl rfl ?_
        refine ef_getI (x := (mrgS (fun k => 0 + k) 2 (mrgS (fun k => 0 + k) 2 (mrgS (fun k => 0 + k) 2 (mrgS (fun k => 0 + k) 2 s z2.2) z3.2) z5.2) z6.2).1 0 5) (q := 52) rfl fl1_28 rfl rfl dX1_readLicker_49 rfl ?_
        refine ef_invVU (k := 2) (nn := 9) (π := (fun k => 2 + k)) (As := [.int ((mrgS (fun k => 0 + k) 2 (mrgS (fun k => 0 + k) 2 s z2.2) z3.2).1 0 5), .int ((mrgS (fun k => 0 + k) 2 (mrgS (fun k => 0 + k) 2 (mrgS (fun k => 0 + k) 2 (mrgS (fun k => 0 + k) 2 s z2.2) z3.2) z5.2) z6.2).1 0 5)]) (rest := []) (q := 55) (okX4_addLicker ((mrgS (fun k => 0 + k) 2 (mrgS (fun k => 0 + k) 2 s z2.2) z3.2).1 0 5) ((mrgS (fun k => 0 + k) 2 (mrgS (fun k => 0 + k) 2 (mrgS (fun k => 0 + k) 2 (mrgS (fun k => 0 + k) 2 s z2.2) z3.2) z5.2) z6.2).1 0 5)) (by decide +kernel) rfl calX4_addLicker ml1_114 (by decide) rfl rfl rfl (Nat.le_of_ble_eq_true rfl) dX1_readLicker_52 rfl rfl (fun z8 => ?_)
        refine ef_aload_n (q := 56) 1 dX1_readLicker_55 rfl rfl rfl ?_
        refine ef_invVU (k := 0) (nn := 2) (π := (fun k => 0 + k)) (As := []) (rest := []) (q := 59) (okX1_advance) (by decide +kernel) rfl calX1_advance ml1_31 (by decide) rfl rfl rfl (Nat.le_of_ble_eq_true rfl) dX1_readLicker_56 rfl rfl (fun z9 => ?_)
        refine ef_iconst (v := (1 : Int32)) (q := 60) dX1_readLicker_59 (by decide) rfl ?_
        exact ef_zretc (x := (1 : Int32)) (by decide) rfl dX1_readLicker_60
  · refine ef_iconst (v := (0 : Int32)) (q := 9) dX1_readLicker_8 (by decide) rfl ?_
    exact ef_zretc (x := (0 : Int32)) (by decide) rfl dX1_readLicker_9
theorem okX1_readLicker : MtF 3 mX1_readLicker lyKW rvI (fun _ pl => [.ref (pl 0), .ref (pl 2)]) (fX1_readLicker) := by
  refine MtF.of (by decide +kernel) rfl (fun _ pl => Nat.le_of_ble_eq_true rfl) (fun G pl h0 s => ?_)
  refine ef_sub (lv := [(0, .ref (pl 0)), (1, .ref (pl 2))]) (lv' := [(0, .ref (pl 0)), (1, .ref (pl 2))]) [0, 1] rfl ?_
  exact okX1_readLicker_0  s
-- X1_readLick
theorem dX1_readLick_0 : decode cX1_readLick 0 = .ok (.aload_n 0, 1) := by decide +kernel
theorem dX1_readLick_1 : decode cX1_readLick 1 = .ok (.invokevirtual 31, 3) := by decide +kernel
theorem dX1_readLick_4 : decode cX1_readLick 4 = .ok (.aload_n 0, 1) := by decide +kernel
theorem dX1_readLick_5 : decode cX1_readLick 5 = .ok (.iconst 0, 1) := by decide +kernel
theorem dX1_readLick_6 : decode cX1_readLick 6 = .ok (.bipush 6, 2) := by decide +kernel
theorem dX1_readLick_8 : decode cX1_readLick 8 = .ok (.invokevirtual 89, 3) := by decide +kernel
theorem dX1_readLick_11 : decode cX1_readLick 11 = .ok (.ifCond .eq 17, 3) := by decide +kernel
theorem dX1_readLick_14 : decode cX1_readLick 14 = .ok (.aload_n 1, 1) := by decide +kernel
theorem dX1_readLick_15 : decode cX1_readLick 15 = .ok (.getfield 44, 3) := by decide +kernel
theorem dX1_readLick_18 : decode cX1_readLick 18 = .ok (.aload_n 0, 1) := by decide +kernel
theorem dX1_readLick_19 : decode cX1_readLick 19 = .ok (.getfield 28, 3) := by decide +kernel
theorem dX1_readLick_22 : decode cX1_readLick 22 = .ok (.invokevirtual 117, 3) := by decide +kernel
theorem dX1_readLick_25 : decode cX1_readLick 25 = .ok (.ifCond .ne 5, 3) := by decide +kernel
theorem dX1_readLick_28 : decode cX1_readLick 28 = .ok (.iconst 0, 1) := by decide +kernel
theorem dX1_readLick_29 : decode cX1_readLick 29 = .ok (.ireturn, 1) := by decide +kernel
theorem dX1_readLick_30 : decode cX1_readLick 30 = .ok (.aload_n 1, 1) := by decide +kernel
theorem dX1_readLick_31 : decode cX1_readLick 31 = .ok (.aload_n 0, 1) := by decide +kernel
theorem dX1_readLick_32 : decode cX1_readLick 32 = .ok (.getfield 28, 3) := by decide +kernel
theorem dX1_readLick_35 : decode cX1_readLick 35 = .ok (.invokevirtual 121, 3) := by decide +kernel
theorem dX1_readLick_38 : decode cX1_readLick 38 = .ok (.aload_n 0, 1) := by decide +kernel
theorem dX1_readLick_39 : decode cX1_readLick 39 = .ok (.invokevirtual 31, 3) := by decide +kernel
theorem dX1_readLick_42 : decode cX1_readLick 42 = .ok (.iconst 1, 1) := by decide +kernel
theorem dX1_readLick_43 : decode cX1_readLick 43 = .ok (.ireturn, 1) := by decide +kernel
def fX1_readLick_0 (s : SS) : Option (Int32 × SS) := ((fX1_advance (selS (fun k => 0 + k) s)).bind fun z1 => ((fX1_isNumber (0 : Int32) (6 : Int32) (selS (fun k => 0 + k) (mrgS (fun k => 0 + k) 2 s z1.2))).bind fun z2 => if z2.1 = 0 then (some ((0 : Int32), mrgS (fun k => 0 + k) 2 (mrgS (fun k => 0 + k) 2 s z1.2) z2.2)) else (((fX0_canDo ((mrgS (fun k => 0 + k) 2 (mrgS (fun k => 0 + k) 2 s z1.2) z2.2).1 0 5) (selS (fun k => 3 + k) (mrgS (fun k => 0 + k) 2 (mrgS (fun k => 0 + k) 2 s z1.2) z2.2))).bind fun z4 => if z4.1 = 0 then (some ((0 : Int32), mrgS (fun k => 3 + k) 5 (mrgS (fun k => 0 + k) 2 (mrgS (fun k => 0 + k) 2 s z1.2) z2.2) z4.2)) else (((fX4_actInTruth ((mrgS (fun k => 3 + k) 5 (mrgS (fun k => 0 + k) 2 (mrgS (fun k => 0 + k) 2 s z1.2) z2.2) z4.2).1 0 5) (selS (fun k => 2 + k) (mrgS (fun k => 3 + k) 5 (mrgS (fun k => 0 + k) 2 (mrgS (fun k => 0 + k) 2 s z1.2) z2.2) z4.2))).bind fun z6 => ((fX1_advance (selS (fun k => 0 + k) (mrgS (fun k => 2 + k) 9 (mrgS (fun k => 3 + k) 5 (mrgS (fun k => 0 + k) 2 (mrgS (fun k => 0 + k) 2 s z1.2) z2.2) z4.2) z6.2))).bind fun z7 => some ((1 : Int32), mrgS (fun k => 0 + k) 2 (mrgS (fun k => 2 + k) 9 (mrgS (fun k => 3 + k) 5 (mrgS (fun k => 0 + k) 2 (mrgS (fun k => 0 + k) 2 s z1.2) z2.2) z4.2) z6.2) z7.2))))))))
def fX1_readLick (s : SS) : Option (Int32 × SS) := fX1_readLick_0 s
set_option maxRecDepth 100000 in
set_option maxHeartbeats 4000000 in
theorem okX1_readLick_0 {G : GG} {pl : Nat → Nat} {h0 : PH} (s : SS) : EvF G 4 mX1_readLick lyKW pl h0 rvI (fX1_readLick_0 s) 0 [(0, .ref (pl 0)), (1, .ref (pl 2))] [] s := by
  unfold fX1_readLick_0
  refine ef_aload_n (q := 1) 0 dX1_readLick_0 rfl rfl rfl ?_
  refine ef_invVU (k := 0) (nn := 2) (π := (fun k => 0 + k)) (As := []) (rest := []) (q := 4) (okX1_advance) (by decide +kernel) rfl calX1_advance ml1_31 (by decide) rfl rfl rfl (Nat.le_of_ble_eq_true rfl) dX1_readLick_1 rfl rfl (fun z1 => ?_)
  refine ef_aload_n (q := 5) 0 dX1_readLick_4 rfl rfl rfl ?_
  refine ef_iconst (v := (0 : Int32)) (q := 6) dX1_readLick_5 (by decide) rfl ?_
  refine ef_bipush (v := (6 : Int32)) (q := 8) dX1_readLick_6 (by decide) rfl ?_
  refine ef_invVI (k := 0) (nn := 2) (π := (fun k => 0 + k)) (As := [.int (0 : Int32), .int (6 : Int32)]) (rest := []) (q := 11) (okX1_isNumber (0 : Int32) (6 : Int32)) (by decide +kernel) rfl calX1_isNumber ml1_89 (by decide) rfl rfl rfl (Nat.le_of_ble_eq_true rfl) dX1_readLick_8 rfl rfl (fun z2 => ?_)
  refine ef_if (pt := 28) (pf := 14) (fun _ _ => ev_if_eq (tgt := 28) dX1_readLick_11 (by decide)) (fun h3 => ?_) (fun h3 => ?_)
  · refine ef_iconst (v := (0 : Int32)) (q := 29) dX1_readLick_28 (by decide) rfl ?_
    exact ef_zretc (x := (0 : Int32)) (by decide) rfl dX1_readLick_29
  · refine ef_aload_n (q := 15) 1 dX1_readLick_14 rfl rfl rfl ?_
    refine ef_getR (t := 3) (q := 18) rfl fl1_44 rfl rfl dX1_readLick_15 rfl ?_
    refine ef_aload_n (q := 19) 0 dX1_readLick_18 rfl rfl rfl ?_
    refine ef_getI (x := (mrgS (fun k => 0 + k) 2 (mrgS (fun k => 0 + k) 2 s z1.2) z2.2).1 0 5) (q := 22) rfl fl1_28 rfl rfl dX1_readLick_19 rfl ?_
    refine ef_invVI (k := 3) (nn := 5) (π := (fun k => 3 + k)) (As := [.int ((mrgS (fun k => 0 + k) 2 (mrgS (fun k => 0 + k) 2 s z1.2) z2.2).1 0 5)]) (rest := []) (q := 25) (okX0_canDo ((mrgS (fun k => 0 + k) 2 (mrgS (fun k => 0 + k) 2 s z1.2) z2.2).1 0 5)) (by decide +kernel) rfl calX0_canDo ml1_117 (by decide) rfl rfl rfl (Nat.le_of_ble_eq_true rfl) dX1_readLick_22 rfl rfl (fun z4 => ?_)
    refine ef_if (pt := 28) (pf := 30) (fun _ _ kt kf => ev_if_ne (tgt := 30) dX1_readLick_25 (by decide) kf kt) (fun h5 => ?_) (fun h5 => ?_)
    · refine ef_iconst (v := (0 : Int32)) (q := 29) dX1_readLick_28 (by decide) rfl ?_
      exact ef_zretc (x := (0 : Int32)) (by decide) rfl dX1_readLick_29
    · refine ef_aload_n (q := 31) 1 dX1_readLick_30 rfl rfl rfl ?_
      refine ef_aload_n (q := 32) 0 dX1_readLick_31 rfl rfl rfl ?_
      refine ef_getI (x := (mrgS (fun k => 3 + k) 5 (mrgS (fun k => 0 + k) 2 (mrgS (fun k => 0 + k) 2 s z1.2) z2.2) z4.2).1 0 5) (q := 35) rfl fl1_28 rfl rfl dX1_readLick_32 rfl ?_
      refine ef_invVU (k := 2) (nn := 9) (π := (fun k => 2 + k)) (As := [.int ((mrgS (fun k => 3 + k) 5 (mrgS (fun k => 0 + k) 2 (mrgS (fun k => 0 + k) 2 s z1.2) z2.2) z4.2).1 0 5)]) (rest := []) (q := 38) (okX4_actInTruth ((mrgS (fun k => 3 + k) 5 (mrgS (fun k => 0 + k) 2 (mrgS (fun k => 0 + k) 2 s z1.2) z2.2) z4.2).1 0 5)) (by decide +kernel) rfl calX4_actInTruth ml1_121 (by decide) rfl rfl rfl (Nat.le_of_ble_eq_true rfl) dX1_readLick_35 rfl rfl (fun z6 => ?_)
      refine ef_aload_n (q := 39) 0 dX1_readLick_38 rfl rfl rfl ?_
      refine ef_invVU (k := 0) (nn := 2) (π := (fun k => 0 + k)) (As := []) (rest := []) (q := 42) (okX1_advance) (by decide +kernel) rfl calX1_advance ml1_31 (by decide) rfl rfl rfl (Nat.le_of_ble_eq_true rfl) dX1_readLick_39 rfl rfl (fun z7 => ?_)
      refine ef_iconst (v := (1 : Int32)) (q := 43) dX1_readLick_42 (by decide) rfl ?_
      exact ef_zretc (x := (1 : Int32)) (by decide) rfl dX1_readLick_43
theorem okX1_readLick : MtF 4 mX1_readLick lyKW rvI (fun _ pl => [.ref (pl 0), .ref (pl 2)]) (fX1_readLick) := by
  refine MtF.of (by decide +kernel) rfl (fun _ pl => Nat.le_of_ble_eq_true rfl) (fun G pl h0 s => ?_)
  refine ef_sub (lv := [(0, .ref (pl 0)), (1, .ref (pl 2))]) (lv' := [(0, .ref (pl 0)), (1, .ref (pl 2))]) [0, 1] rfl ?_
  exact okX1_readLick_0  s
-- X1_readStatement
theorem dX1_readStatement_0 : decode cX1_readStatement 0 = .ok (.aload_n 0, 1) := by decide +kernel
theorem dX1_readStatement_1 : decode cX1_readStatement 1 = .ok (.getfield 19, 3) := by decide +kernel
theorem dX1_readStatement_4 : decode cX1_readStatement 4 = .ok (.iconst 1, 1) := by decide +kernel
theorem dX1_readStatement_5 : decode cX1_readStatement 5 = .ok (.if_icmp .eq 5, 3) := by decide +kernel
theorem dX1_readStatement_8 : decode cX1_readStatement 8 = .ok (.iconst 0, 1) := by decide +kernel
theorem dX1_readStatement_9 : decode cX1_readStatement 9 = .ok (.ireturn, 1) := by decide +kernel
theorem dX1_readStatement_10 : decode cX1_readStatement 10 = .ok (.aload_n 0, 1) := by decide +kernel
theorem dX1_readStatement_11 : decode cX1_readStatement 11 = .ok (.ldc 38, 2) := by decide +kernel
theorem dX1_readStatement_13 : decode cX1_readStatement 13 = .ok (.invokevirtual 40, 3) := by decide +kernel
theorem dX1_readStatement_16 : decode cX1_readStatement 16 = .ok (.ifCond .eq 12, 3) := by decide +kernel
theorem dX1_readStatement_19 : decode cX1_readStatement 19 = .ok (.aload_n 0, 1) := by decide +kernel
theorem dX1_readStatement_20 : decode cX1_readStatement 20 = .ok (.aload_n 1, 1) := by decide +kernel
theorem dX1_readStatement_21 : decode cX1_readStatement 21 = .ok (.getfield 44, 3) := by decide +kernel
theorem dX1_readStatement_24 : decode cX1_readStatement 24 = .ok (.invokevirtual 50, 3) := by decide +kernel
theorem dX1_readStatement_27 : decode cX1_readStatement 27 = .ok (.ireturn, 1) := by decide +kernel
theorem dX1_readStatement_28 : decode cX1_readStatement 28 = .ok (.aload_n 0, 1) := by decide +kernel
theorem dX1_readStatement_29 : decode cX1_readStatement 29 = .ok (.ldc 54, 2) := by decide +kernel
theorem dX1_readStatement_31 : decode cX1_readStatement 31 = .ok (.invokevirtual 40, 3) := by decide +kernel
theorem dX1_readStatement_34 : decode cX1_readStatement 34 = .ok (.ifCond .eq 12, 3) := by decide +kernel
theorem dX1_readStatement_37 : decode cX1_readStatement 37 = .ok (.aload_n 0, 1) := by decide +kernel
theorem dX1_readStatement_38 : decode cX1_readStatement 38 = .ok (.aload_n 1, 1) := by decide +kernel
theorem dX1_readStatement_39 : decode cX1_readStatement 39 = .ok (.getfield 44, 3) := by decide +kernel
theorem dX1_readStatement_42 : decode cX1_readStatement 42 = .ok (.invokevirtual 56, 3) := by decide +kernel
theorem dX1_readStatement_45 : decode cX1_readStatement 45 = .ok (.ireturn, 1) := by decide +kernel
theorem dX1_readStatement_46 : decode cX1_readStatement 46 = .ok (.aload_n 0, 1) := by decide +kernel
theorem dX1_readStatement_47 : decode cX1_readStatement 47 = .ok (.ldc 59, 2) := by decide +kernel
theorem dX1_readStatement_49 : decode cX1_readStatement 49 = .ok (.invokevirtual 40, 3) := by decide +kernel
theorem dX1_readStatement_52 : decode cX1_readStatement 52 = .ok (.ifCond .eq 12, 3) := by decide +kernel
theorem dX1_readStatement_55 : decode cX1_readStatement 55 = .ok (.aload_n 0, 1) := by decide +kernel
theorem dX1_readStatement_56 : decode cX1_readStatement 56 = .ok (.aload_n 1, 1) := by decide +kernel
theorem dX1_readStatement_57 : decode cX1_readStatement 57 = .ok (.getfield 44, 3) := by decide +kernel
theorem dX1_readStatement_60 : decode cX1_readStatement 60 = .ok (.invokevirtual 61, 3) := by decide +kernel
theorem dX1_readStatement_63 : decode cX1_readStatement 63 = .ok (.ireturn, 1) := by decide +kernel
theorem dX1_readStatement_64 : decode cX1_readStatement 64 = .ok (.aload_n 0, 1) := by decide +kernel
theorem dX1_readStatement_65 : decode cX1_readStatement 65 = .ok (.ldc 64, 2) := by decide +kernel
theorem dX1_readStatement_67 : decode cX1_readStatement 67 = .ok (.invokevirtual 40, 3) := by decide +kernel
theorem dX1_readStatement_70 : decode cX1_readStatement 70 = .ok (.ifCond .eq 12, 3) := by decide +kernel
theorem dX1_readStatement_73 : decode cX1_readStatement 73 = .ok (.aload_n 0, 1) := by decide +kernel
theorem dX1_readStatement_74 : decode cX1_readStatement 74 = .ok (.aload_n 1, 1) := by decide +kernel
theorem dX1_readStatement_75 : decode cX1_readStatement 75 = .ok (.getfield 44, 3) := by decide +kernel
theorem dX1_readStatement_78 : decode cX1_readStatement 78 = .ok (.invokevirtual 66, 3) := by decide +kernel
theorem dX1_readStatement_81 : decode cX1_readStatement 81 = .ok (.ireturn, 1) := by decide +kernel
theorem dX1_readStatement_82 : decode cX1_readStatement 82 = .ok (.aload_n 0, 1) := by decide +kernel
theorem dX1_readStatement_83 : decode cX1_readStatement 83 = .ok (.ldc 69, 2) := by decide +kernel
theorem dX1_readStatement_85 : decode cX1_readStatement 85 = .ok (.invokevirtual 40, 3) := by decide +kernel
theorem dX1_readStatement_88 : decode cX1_readStatement 88 = .ok (.ifCond .eq 12, 3) := by decide +kernel
theorem dX1_readStatement_91 : decode cX1_readStatement 91 = .ok (.aload_n 0, 1) := by decide +kernel
theorem dX1_readStatement_92 : decode cX1_readStatement 92 = .ok (.aload_n 1, 1) := by decide +kernel
theorem dX1_readStatement_93 : decode cX1_readStatement 93 = .ok (.getfield 44, 3) := by decide +kernel
theorem dX1_readStatement_96 : decode cX1_readStatement 96 = .ok (.invokevirtual 71, 3) := by decide +kernel
theorem dX1_readStatement_99 : decode cX1_readStatement 99 = .ok (.ireturn, 1) := by decide +kernel
theorem dX1_readStatement_100 : decode cX1_readStatement 100 = .ok (.aload_n 0, 1) := by decide +kernel
theorem dX1_readStatement_101 : decode cX1_readStatement 101 = .ok (.ldc 74, 2) := by decide +kernel
theorem dX1_readStatement_103 : decode cX1_readStatement 103 = .ok (.invokevirtual 40, 3) := by decide +kernel
theorem dX1_readStatement_106 : decode cX1_readStatement 106 = .ok (.ifCond .eq 9, 3) := by decide +kernel
theorem dX1_readStatement_109 : decode cX1_readStatement 109 = .ok (.aload_n 0, 1) := by decide +kernel
theorem dX1_readStatement_110 : decode cX1_readStatement 110 = .ok (.aload_n 1, 1) := by decide +kernel
theorem dX1_readStatement_111 : decode cX1_readStatement 111 = .ok (.invokevirtual 76, 3) := by decide +kernel
theorem dX1_readStatement_114 : decode cX1_readStatement 114 = .ok (.ireturn, 1) := by decide +kernel
theorem dX1_readStatement_115 : decode cX1_readStatement 115 = .ok (.aload_n 0, 1) := by decide +kernel
theorem dX1_readStatement_116 : decode cX1_readStatement 116 = .ok (.ldc 79, 2) := by decide +kernel
theorem dX1_readStatement_118 : decode cX1_readStatement 118 = .ok (.invokevirtual 40, 3) := by decide +kernel
theorem dX1_readStatement_121 : decode cX1_readStatement 121 = .ok (.ifCond .eq 15, 3) := by decide +kernel
theorem dX1_readStatement_124 : decode cX1_readStatement 124 = .ok (.aload_n 0, 1) := by decide +kernel
theorem dX1_readStatement_125 : decode cX1_readStatement 125 = .ok (.aload_n 1, 1) := by decide +kernel
theorem dX1_readStatement_126 : decode cX1_readStatement 126 = .ok (.invokevirtual 81, 3) := by decide +kernel
theorem dX1_readStatement_129 : decode cX1_readStatement 129 = .ok (.ifCond .eq 7, 3) := by decide +kernel
theorem dX1_readStatement_132 : decode cX1_readStatement 132 = .ok (.iconst 1, 1) := by decide +kernel
theorem dX1_readStatement_133 : decode cX1_readStatement 133 = .ok (.goto 4, 3) := by decide +kernel
theorem dX1_readStatement_136 : decode cX1_readStatement 136 = .ok (.iconst 0, 1) := by decide +kernel
theorem dX1_readStatement_137 : decode cX1_readStatement 137 = .ok (.ireturn, 1) := by decide +kernel
def fX1_readStatement_0 (s : SS) : Option (Int32 × SS) := if (s.1 0 2) = (1 : Int32) then (((fX1_isWord 0 (selS (fun k => 0 + k) s)).bind fun z2 => if z2.1 = 0 then (((fX1_isWord 1 (selS (fun k => 0 + k) (mrgS (fun k => 0 + k) 2 s z2.2))).bind fun z4 => if z4.1 = 0 then (((fX1_isWord 2 (selS (fun k => 0 + k) (mrgS (fun k => 0 + k) 2 (mrgS (fun k => 0 + k) 2 s z2.2) z4.2))).bind fun z6 => if z6.1 = 0 then (((fX1_isWord 3 (selS (fun k => 0 + k) (mrgS (fun k => 0 + k) 2 (mrgS (fun k => 0 + k) 2 (mrgS (fun k => 0 + k) 2 s z2.2) z4.2) z6.2))).bind fun z8 => if z8.1 = 0 then (((fX1_isWord 4 (selS (fun k => 0 + k) (mrgS (fun k => 0 + k) 2 (mrgS (fun k => 0 + k) 2 (mrgS (fun k => 0 + k) 2 (mrgS (fun k => 0 + k) 2 s z2.2) z4.2) z6.2) z8.2))).bind fun z10 => if z10.1 = 0 then (((fX1_isWord 5 (selS (fun k => 0 + k) (mrgS (fun k => 0 + k) 2 (mrgS (fun k => 0 + k) 2 (mrgS (fun k => 0 + k) 2 (mrgS (fun k => 0 + k) 2 (mrgS (fun k => 0 + k) 2 s z2.2) z4.2) z6.2) z8.2) z10.2))).bind fun z12 => if z12.1 = 0 then (((fX1_isWord 6 (selS (fun k => 0 + k) (mrgS (fun k => 0 + k) 2 (mrgS (fun k => 0 + k) 2 (mrgS (fun k => 0 + k) 2 (mrgS (fun k => 0 + k) 2 (mrgS (fun k => 0 + k) 2 (mrgS (fun k => 0 + k) 2 s z2.2) z4.2) z6.2) z8.2) z10.2) z12.2))).bind fun z14 => if z14.1 = 0 then (some ((0 : Int32), mrgS (fun k => 0 + k) 2 (mrgS (fun k => 0 + k) 2 (mrgS (fun k => 0 + k) 2 (mrgS (fun k => 0 + k) 2 (mrgS (fun k => 0 + k) 2 (mrgS (fun k => 0 + k) 2 (mrgS (fun k => 0 + k) 2 s z2.2) z4.2) z6.2) z8.2) z10.2) z12.2) z14.2)) else (((fX1_readLick (mrgS (fun k => 0 + k) 2 (mrgS (fun k => 0 + k) 2 (mrgS (fun k => 0 + k) 2 (mrgS (fun k => 0 + k) 2 (mrgS (fun k => 0 + k) 2 (mrgS (fun k => 0 + k) 2 (mrgS (fun k => 0 + k) 2 s z2.2) z4.2) z6.2) z8.2) z10.2) z12.2) z14.2)).bind fun z16 => if z16.1 = 0 then (some ((0 : Int32), z16.2)) else (some ((1 : Int32), z16.2)))))) else (((fX1_readLicker (mrgS (fun k => 0 + k) 2 (mrgS (fun k => 0 + k) 2 (mrgS (fun k => 0 + k) 2 (mrgS (fun k => 0 + k) 2 (mrgS (fun k => 0 + k) 2 (mrgS (fun k => 0 + k) 2 s z2.2) z4.2) z6.2) z8.2) z10.2) z12.2)).bind fun z18 => some (nbZ z18.1, z18.2))))) else (((fX1_readBrim (selS (fun k => if k < 2 then 0 + k else 3 + (k - 2)) (mrgS (fun k => 0 + k) 2 (mrgS (fun k => 0 + k) 2 (mrgS (fun k => 0 + k) 2 (mrgS (fun k => 0 + k) 2 (mrgS (fun k => 0 + k) 2 s z2.2) z4.2) z6.2) z8.2) z10.2))).bind fun z19 => some (nbZ z19.1, mrgS (fun k => if k < 2 then 0 + k else 3 + (k - 2)) 7 (mrgS (fun k => 0 + k) 2 (mrgS (fun k => 0 + k) 2 (mrgS (fun k => 0 + k) 2 (mrgS (fun k => 0 + k) 2 (mrgS (fun k => 0 + k) 2 s z2.2) z4.2) z6.2) z8.2) z10.2) z19.2))))) else (((fX1_readHold (selS (fun k => if k < 2 then 0 + k else 3 + (k - 2)) (mrgS (fun k => 0 + k) 2 (mrgS (fun k => 0 + k) 2 (mrgS (fun k => 0 + k) 2 (mrgS (fun k => 0 + k) 2 s z2.2) z4.2) z6.2) z8.2))).bind fun z20 => some (nbZ z20.1, mrgS (fun k => if k < 2 then 0 + k else 3 + (k - 2)) 7 (mrgS (fun k => 0 + k) 2 (mrgS (fun k => 0 + k) 2 (mrgS (fun k => 0 + k) 2 (mrgS (fun k => 0 + k) 2 s z2.2) z4.2) z6.2) z8.2) z20.2))))) else (((fX1_readSun (selS (fun k => if k < 2 then 0 + k else 3 + (k - 2)) (mrgS (fun k => 0 + k) 2 (mrgS (fun k => 0 + k) 2 (mrgS (fun k => 0 + k) 2 s z2.2) z4.2) z6.2))).bind fun z21 => some (nbZ z21.1, mrgS (fun k => if k < 2 then 0 + k else 3 + (k - 2)) 7 (mrgS (fun k => 0 + k) 2 (mrgS (fun k => 0 + k) 2 (mrgS (fun k => 0 + k) 2 s z2.2) z4.2) z6.2) z21.2))))) else (((fX1_readScoop (selS (fun k => if k < 2 then 0 + k else 3 + (k - 2)) (mrgS (fun k => 0 + k) 2 (mrgS (fun k => 0 + k) 2 s z2.2) z4.2))).bind fun z22 => some (nbZ z22.1, mrgS (fun k => if k < 2 then 0 + k else 3 + (k - 2)) 7 (mrgS (fun k => 0 + k) 2 (mrgS (fun k => 0 + k) 2 s z2.2) z4.2) z22.2))))) else (((fX1_readSides (selS (fun k => if k < 2 then 0 + k else 3 + (k - 2)) (mrgS (fun k => 0 + k) 2 s z2.2))).bind fun z23 => some (nbZ z23.1, mrgS (fun k => if k < 2 then 0 + k else 3 + (k - 2)) 7 (mrgS (fun k => 0 + k) 2 s z2.2) z23.2))))) else (some ((0 : Int32), s))
def fX1_readStatement (s : SS) : Option (Int32 × SS) := fX1_readStatement_0 s
set_option maxRecDepth 100000 in
set_option maxHeartbeats 4000000 in
theorem okX1_readStatement_0 {G : GG} {pl : Nat → Nat} {h0 : PH} (s : SS) : EvF G 5 mX1_readStatement lyKW pl h0 rvI (fX1_readStatement_0 s) 0 [(0, .ref (pl 0)), (1, .ref (pl 2))] [] s := by
  unfold fX1_readStatement_0
  refine ef_aload_n (q := 1) 0 dX1_readStatement_0 rfl rfl rfl ?_
  refine ef_getI (x := s.1 0 2) (q := 4) rfl fl1_19 rfl rfl dX1_readStatement_1 rfl ?_
  refine ef_iconst (v := (1 : Int32)) (q := 5) dX1_readStatement_4 (by decide) rfl ?_
  refine ef_if (pt := 10) (pf := 8) (fun _ _ => ev_icmp_eq (tgt := 10) dX1_readStatement_5 (by decide)) (fun h1 => ?_) (fun h1 => ?_)
  · refine ef_aload_n (q := 11) 0 dX1_readStatement_10 rfl rfl rfl ?_
    refine ef_ldcS (i := 0) (q := 13) (by decide) rfl rfl dX1_readStatement_11 rfl ?_
    refine ef_invVI (k := 0) (nn := 2) (π := (fun k => 0 + k)) (As := [.ref (G.2.2.2.1 0)]) (rest := []) (q := 16) (okX1_isWord 0) (by decide +kernel) rfl calX1_isWord ml1_40 (by decide) rfl rfl rfl (Nat.le_of_ble_eq_true rfl) dX1_readStatement_13 rfl rfl (fun z2 => ?_)
    refine ef_if (pt := 28) (pf := 19) (fun _ _ => ev_if_eq (tgt := 28) dX1_readStatement_16 (by decide)) (fun h3 => ?_) (fun h3 => ?_)
    · refine ef_aload_n (q := 29) 0 dX1_readStatement_28 rfl rfl rfl ?_
      refine ef_ldcS (i := 1) (q := 31) (by decide) rfl rfl dX1_readStatement_29 rfl ?_
      refine ef_invVI (k := 0) (nn := 2) (π := (fun k => 0 + k)) (As := [.ref (G.2.2.2.1 1)]) (rest := []) (q := 34) (okX1_isWord 1) (by decide +kernel) rfl calX1_isWord ml1_40 (by decide) rfl rfl rfl (Nat.le_of_ble_eq_true rfl) dX1_readStatement_31 rfl rfl (fun z4 => ?_)
      refine ef_if (pt := 46) (pf := 37) (fun _ _ => ev_if_eq (tgt := 46) dX1_readStatement_34 (by decide)) (fun h5 => ?_) (fun h5 => ?_)
      · refine ef_aload_n (q := 47) 0 dX1_readStatement_46 rfl rfl rfl ?_
        refine ef_ldcS (i := 2) (q := 49) (by decide) rfl rfl dX1_readStatement_47 rfl ?_
        refine ef_invVI (k := 0) (nn := 2) (π := (fun k => 0 + k)) (As := [.ref (G.2.2.2.1 2)]) (rest := []) (q := 52) (okX1_isWord 2) (by decide +kernel) rfl calX1_isWord ml1_40 (by decide) rfl rfl rfl (Nat.le_of_ble_eq_true rfl) dX1_readStatement_49 rfl rfl (fun z6 => ?_)
        refine ef_if (pt := 64) (pf := 55) (fun _ _ => ev_if_eq (tgt := 64) dX1_readStatement_52 (by decide)) (fun h7 => ?_) (fun h7 => ?_)
        · refine ef_aload_n (q := 65) 0 dX1_readStatement_64 rfl rfl rfl ?_
          refine ef_ldcS (i := 3) (q := 67) (by decide) rfl rfl dX1_readStatement_65 rfl ?_
          refine ef_invVI (k := 0) (nn := 2) (π := (fun k => 0 + k)) (As := [.ref (G.2.2.2.1 3)]) (rest := []) (q := 70) (okX1_isWord 3) (by decide +kernel) rfl calX1_isWord ml1_40 (by decide) rfl rfl rfl (Nat.le_of_ble_eq_true rfl) dX1_readStatement_67 rfl rfl (fun z8 => ?_)
          refine ef_if (pt := 82) (pf := 73) (fun _ _ => ev_if_eq (tgt := 82) dX1_readStatement_70 (by decide)) (fun h9 => ?_) (fun h9 => ?_)
          · refine ef_aload_n (q := 83) 0 dX1_readStatement_82 rfl rfl rfl ?_
            refine ef_ldcS (i := 4) (q := 85) (by decide) rfl rfl dX1_readStatement_83 rfl ?_
            refine ef_invVI (k := 0) (nn := 2) (π := (fun k => 0 + k)) (As := [.ref (G.2.2.2.1 4)]) (rest := []) (q := 88) (okX1_isWord 4) (by decide +kernel) rfl calX1_isWord ml1_40 (by decide) rfl rfl rfl (Nat.le_of_ble_eq_true rfl) dX1_readStatement_85 rfl rfl (fun z10 => ?_)
            refine ef_if (pt := 100) (pf := 91) (fun _ _ => ev_if_eq (tgt := 100) dX1_readStatement_88 (by decide)) (fun h11 => ?_) (fun h11 => ?_)
            · refine ef_aload_n (q := 101) 0 dX1_readStatement_100 rfl rfl rfl ?_
              refine ef_ldcS (i := 5) (q := 103) (by decide) rfl rfl dX1_readStatement_101 rfl ?_
              refine ef_invVI (k := 0) (nn := 2) (π := (fun k => 0 + k)) (As := [.ref (G.2.2.2.1 5)]) (rest := []) (q := 106) (okX1_isWord 5) (by decide +kernel) rfl calX1_isWord ml1_40 (by decide) rfl rfl rfl (Nat.le_of_ble_eq_true rfl) dX1_readStatement_103 rfl rfl (fun z12 => ?_)
              refine ef_if (pt := 115) (pf := 109) (fun _ _ => ev_if_eq (tgt := 115) dX1_readStatement_106 (by decide)) (fun h13 => ?_) (fun h13 => ?_)
              · refine ef_aload_n (q := 116) 0 dX1_readStatement_115 rfl rfl rfl ?_
                refine ef_ldcS (i := 6) (q := 118) (by decide) rfl rfl dX1_readStatement_116 rfl ?_
                refine ef_invVI (k := 0) (nn := 2) (π := (fun k => 0 + k)) (As := [.ref (G.2.2.2.1 6)]) (rest := []) (q := 121) (okX1_isWord 6) (by decide +kernel) rfl calX1_isWord ml1_40 (by decide) rfl rfl rfl (Nat.le_of_ble_eq_true rfl) dX1_readStatement_118 rfl rfl (fun z14 => ?_)
                refine ef_if (pt := 136) (pf := 124) (fun _ _ => ev_if_eq (tgt := 136) dX1_readStatement_121 (by decide)) (fun h15 => ?_) (fun h15 => ?_)
                · refine ef_iconst (v := (0 : Int32)) (q := 137) dX1_readStatement_136 (by decide) rfl ?_
                  exact ef_zretc (x := (0 : Int32)) (by decide) rfl dX1_readStatement_137
                · refine ef_aload_n (q := 125) 0 dX1_readStatement_124 rfl rfl rfl ?_
                  refine ef_aload_n (q := 126) 1 dX1_readStatement_125 rfl rfl rfl ?_
                  refine ef_invVI0 (k := 0) (As := [.ref (pl 2)]) (rest := []) (q := 129) (okX1_readLick) rfl calX1_readLick ml1_81 (by decide) rfl rfl rfl (Nat.le_of_ble_eq_true rfl) dX1_readStatement_126 rfl (fun z16 => ?_)
                  refine ef_if (pt := 136) (pf := 132) (fun _ _ => ev_if_eq (tgt := 136) dX1_readStatement_129 (by decide)) (fun h17 => ?_) (fun h17 => ?_)
                  · refine ef_iconst (v := (0 : Int32)) (q := 137) dX1_readStatement_136 (by decide) rfl ?_
                    exact ef_zretc (x := (0 : Int32)) (by decide) rfl dX1_readStatement_137
                  · refine ef_iconst (v := (1 : Int32)) (q := 133) dX1_readStatement_132 (by decide) rfl ?_
                    refine ef_goto (tgt := 137) dX1_readStatement_133 (by decide) ?_
                    exact ef_zretc (x := (1 : Int32)) (by decide) rfl dX1_readStatement_137
              · refine ef_aload_n (q := 110) 0 dX1_readStatement_109 rfl rfl rfl ?_
                refine ef_aload_n (q := 111) 1 dX1_readStatement_110 rfl rfl rfl ?_
                refine ef_invVI0 (k := 0) (As := [.ref (pl 2)]) (rest := []) (q := 114) (okX1_readLicker) rfl calX1_readLicker ml1_76 (by decide) rfl rfl rfl (Nat.le_of_ble_eq_true rfl) dX1_readStatement_111 rfl (fun z18 => ?_)
                exact ef_zret rfl dX1_readStatement_114
            · refine ef_aload_n (q := 92) 0 dX1_readStatement_91 rfl rfl rfl ?_
              refine ef_aload_n (q := 93) 1 dX1_readStatement_92 rfl rfl rfl ?_
              refine ef_getR (t := 3) (q := 96) rfl fl1_44 rfl rfl dX1_readStatement_93 rfl ?_
              refine ef_invVI (k := 0) (nn := 7) (π := (fun k => if k < 2 then 0 + k else 3 + (k - 2))) (As := [.ref (pl 3)]) (rest := []) (q := 99) (okX1_readBrim) (by decide +kernel) rfl calX1_readBrim ml1_71 (by decide) rfl rfl rfl (Nat.le_of_ble_eq_true rfl) dX1_readStatement_96 rfl rfl (fun z19 => ?_)
              exact ef_zret rfl dX1_readStatement_99
          · refine ef_aload_n (q := 74) 0 dX1_readStatement_73 rfl rfl rfl ?_
            refine ef_aload_n (q := 75) 1 dX1_readStatement_74 rfl rfl rfl ?_
            refine ef_getR (t := 3) (q := 78) rfl fl1_44 rfl rfl dX1_readStatement_75 rfl ?_
            refine ef_invVI (k := 0) (nn := 7) (π := (fun k => if k < 2 then 0 + k else 3 + (k - 2))) (As := [.ref (pl 3)]) (rest := []) (q := 81) (okX1_readHold) (by decide +kernel) rfl calX1_readHold ml1_66 (by decide) rfl rfl rfl (Nat.le_of_ble_eq_true rfl) dX1_readStatement_78 rfl rfl (fun z20 => ?_)
            exact ef_zret rfl dX1_readStatement_81
        · refine ef_aload_n (q := 56) 0 dX1_readStatement_55 rfl rfl rfl ?_
          refine ef_aload_n (q := 57) 1 dX1_readStatement_56 rfl rfl rfl ?_
          refine ef_getR (t := 3) (q := 60) rfl fl1_44 rfl rfl dX1_readStatement_57 rfl ?_
          refine ef_invVI (k := 0) (nn := 7) (π := (fun k => if k < 2 then 0 + k else 3 + (k - 2))) (As := [.ref (pl 3)]) (rest := []) (q := 63) (okX1_readSun) (by decide +kernel) rfl calX1_readSun ml1_61 (by decide) rfl rfl rfl (Nat.le_of_ble_eq_true rfl) dX1_readStatement_60 rfl rfl (fun z21 => ?_)
          exact ef_zret rfl dX1_readStatement_63
      · refine ef_aload_n (q := 38) 0 dX1_readStatement_37 rfl rfl rfl ?_
        refine ef_aload_n (q := 39) 1 dX1_readStatement_38 rfl rfl rfl ?_
        refine ef_getR (t := 3) (q := 42) rfl fl1_44 rfl rfl dX1_readStatement_39 rfl ?_
        refine ef_invVI (k := 0) (nn := 7) (π := (fun k => if k < 2 then 0 + k else 3 + (k - 2))) (As := [.ref (pl 3)]) (rest := []) (q := 45) (okX1_readScoop) (by decide +kernel) rfl calX1_readScoop ml1_56 (by decide) rfl rfl rfl (Nat.le_of_ble_eq_true rfl) dX1_readStatement_42 rfl rfl (fun z22 => ?_)
        exact ef_zret rfl dX1_readStatement_45
    · refine ef_aload_n (q := 20) 0 dX1_readStatement_19 rfl rfl rfl ?_
      refine ef_aload_n (q := 21) 1 dX1_readStatement_20 rfl rfl rfl ?_
      refine ef_getR (t := 3) (q := 24) rfl fl1_44 rfl rfl dX1_readStatement_21 rfl ?_
      refine ef_invVI (k := 0) (nn := 7) (π := (fun k => if k < 2 then 0 + k else 3 + (k - 2))) (As := [.ref (pl 3)]) (rest := []) (q := 27) (okX1_readSides) (by decide +kernel) rfl calX1_readSides ml1_50 (by decide) rfl rfl rfl (Nat.le_of_ble_eq_true rfl) dX1_readStatement_24 rfl rfl (fun z23 => ?_)
      exact ef_zret rfl dX1_readStatement_27
  · refine ef_iconst (v := (0 : Int32)) (q := 9) dX1_readStatement_8 (by decide) rfl ?_
    exact ef_zretc (x := (0 : Int32)) (by decide) rfl dX1_readStatement_9
theorem okX1_readStatement : MtF 5 mX1_readStatement lyKW rvI (fun _ pl => [.ref (pl 0), .ref (pl 2)]) (fX1_readStatement) := by
  refine MtF.of (by decide +kernel) rfl (fun _ pl => Nat.le_of_ble_eq_true rfl) (fun G pl h0 s => ?_)
  refine ef_sub (lv := [(0, .ref (pl 0)), (1, .ref (pl 2))]) (lv' := [(0, .ref (pl 0)), (1, .ref (pl 2))]) [0, 1] rfl ?_
  exact okX1_readStatement_0  s
-- X1_readInto
theorem dX1_readInto_0 : decode cX1_readInto 0 = .ok (.aload_n 0, 1) := by decide +kernel
theorem dX1_readInto_1 : decode cX1_readInto 1 = .ok (.iconst 0, 1) := by decide +kernel
theorem dX1_readInto_2 : decode cX1_readInto 2 = .ok (.putfield 25, 3) := by decide +kernel
theorem dX1_readInto_5 : decode cX1_readInto 5 = .ok (.aload_n 0, 1) := by decide +kernel
theorem dX1_readInto_6 : decode cX1_readInto 6 = .ok (.invokevirtual 31, 3) := by decide +kernel
theorem dX1_readInto_9 : decode cX1_readInto 9 = .ok (.iconst 1, 1) := by decide +kernel
theorem dX1_readInto_10 : decode cX1_readInto 10 = .ok (.istore_n 2, 1) := by decide +kernel
theorem dX1_readInto_11 : decode cX1_readInto 11 = .ok (.iload_n 2, 1) := by decide +kernel
theorem dX1_readInto_12 : decode cX1_readInto 12 = .ok (.sipush 250, 3) := by decide +kernel
theorem dX1_readInto_15 : decode cX1_readInto 15 = .ok (.if_icmp .gt 54, 3) := by decide +kernel
theorem dX1_readInto_18 : decode cX1_readInto 18 = .ok (.aload_n 0, 1) := by decide +kernel
theorem dX1_readInto_19 : decode cX1_readInto 19 = .ok (.aload_n 1, 1) := by decide +kernel
theorem dX1_readInto_20 : decode cX1_readInto 20 = .ok (.invokevirtual 34, 3) := by decide +kernel
theorem dX1_readInto_23 : decode cX1_readInto 23 = .ok (.ifCond .ne 11, 3) := by decide +kernel
theorem dX1_readInto_26 : decode cX1_readInto 26 = .ok (.bipush (-20), 2) := by decide +kernel
theorem dX1_readInto_28 : decode cX1_readInto 28 = .ok (.aload_n 0, 1) := by decide +kernel
theorem dX1_readInto_29 : decode cX1_readInto 29 = .ok (.getfield 22, 3) := by decide +kernel
theorem dX1_readInto_32 : decode cX1_readInto 32 = .ok (.isub, 1) := by decide +kernel
theorem dX1_readInto_33 : decode cX1_readInto 33 = .ok (.ireturn, 1) := by decide +kernel
theorem dX1_readInto_34 : decode cX1_readInto 34 = .ok (.aload_n 0, 1) := by decide +kernel
theorem dX1_readInto_35 : decode cX1_readInto 35 = .ok (.getfield 19, 3) := by decide +kernel
theorem dX1_readInto_38 : decode cX1_readInto 38 = .ok (.ifCond .ne 5, 3) := by decide +kernel
theorem dX1_readInto_41 : decode cX1_readInto 41 = .ok (.iload_n 2, 1) := by decide +kernel
theorem dX1_readInto_42 : decode cX1_readInto 42 = .ok (.ireturn, 1) := by decide +kernel
theorem dX1_readInto_43 : decode cX1_readInto 43 = .ok (.aload_n 0, 1) := by decide +kernel
theorem dX1_readInto_44 : decode cX1_readInto 44 = .ok (.getfield 19, 3) := by decide +kernel
theorem dX1_readInto_47 : decode cX1_readInto 47 = .ok (.iconst 3, 1) := by decide +kernel
theorem dX1_readInto_48 : decode cX1_readInto 48 = .ok (.if_icmp .eq 11, 3) := by decide +kernel
theorem dX1_readInto_51 : decode cX1_readInto 51 = .ok (.bipush (-20), 2) := by decide +kernel
theorem dX1_readInto_53 : decode cX1_readInto 53 = .ok (.aload_n 0, 1) := by decide +kernel
theorem dX1_readInto_54 : decode cX1_readInto 54 = .ok (.getfield 22, 3) := by decide +kernel
theorem dX1_readInto_57 : decode cX1_readInto 57 = .ok (.isub, 1) := by decide +kernel
theorem dX1_readInto_58 : decode cX1_readInto 58 = .ok (.ireturn, 1) := by decide +kernel
theorem dX1_readInto_59 : decode cX1_readInto 59 = .ok (.aload_n 0, 1) := by decide +kernel
theorem dX1_readInto_60 : decode cX1_readInto 60 = .ok (.invokevirtual 31, 3) := by decide +kernel
theorem dX1_readInto_63 : decode cX1_readInto 63 = .ok (.iinc 2 1, 3) := by decide +kernel
theorem dX1_readInto_66 : decode cX1_readInto 66 = .ok (.goto (-55), 3) := by decide +kernel
theorem dX1_readInto_69 : decode cX1_readInto 69 = .ok (.bipush (-20), 2) := by decide +kernel
theorem dX1_readInto_71 : decode cX1_readInto 71 = .ok (.aload_n 0, 1) := by decide +kernel
theorem dX1_readInto_72 : decode cX1_readInto 72 = .ok (.getfield 22, 3) := by decide +kernel
theorem dX1_readInto_75 : decode cX1_readInto 75 = .ok (.isub, 1) := by decide +kernel
theorem dX1_readInto_76 : decode cX1_readInto 76 = .ok (.ireturn, 1) := by decide +kernel
def fX1_readInto_11 : Nat → Int32 → SS → Option (Int32 × SS)
  | 0, _, _ => none
  | n + 1, x2, s => if (250 : Int32) < x2 then (some ((-20 : Int32) - (s.1 0 3), s)) else (((fX1_readStatement s).bind fun z2 => if z2.1 = 0 then (some ((-20 : Int32) - (z2.2.1 0 3), z2.2)) else (if (z2.2.1 0 2) = 0 then (some (x2, z2.2)) else (if (z2.2.1 0 2) = (3 : Int32) then (((fX1_advance (selS (fun k => 0 + k) z2.2)).bind fun z6 => fX1_readInto_11 n (x2 + (1 : Int32)) (mrgS (fun k => 0 + k) 2 z2.2 z6.2))) else (some ((-20 : Int32) - (z2.2.1 0 3), z2.2))))))
def fX1_readInto_0 (s : SS) : Option (Int32 × SS) := ((fX1_advance (selS (fun k => 0 + k) (wrI s 0 4 (0 : Int32)))).bind fun z1 => fX1_readInto_11 FU (1 : Int32) (mrgS (fun k => 0 + k) 2 (wrI s 0 4 (0 : Int32)) z1.2))
def fX1_readInto (s : SS) : Option (Int32 × SS) := fX1_readInto_0 s
set_option maxRecDepth 100000 in
set_option maxHeartbeats 4000000 in
theorem okX1_readInto_11 {G : GG} {pl : Nat → Nat} {h0 : PH} : ∀ (n : Nat) (x2 : Int32) (s : SS), EvF G 6 mX1_readInto lyKW pl h0 rvI (fX1_readInto_11 n x2 s) 11 [(0, .ref (pl 0)), (1, .ref (pl 2)), (2, .int x2)] [] s := by
  intro n
  induction n with
  | zero => intro x2 s; rw [fX1_readInto_11]; exact ef_none
  | succ n ih =>
    intro x2 s
    rw [fX1_readInto_11]
    refine ef_iload_n (q := 12) 2 dX1_readInto_11 rfl rfl rfl ?_
    refine ef_sipush (v := (250 : Int32)) (q := 15) dX1_readInto_12 (by decide) rfl ?_
    refine ef_if (pt := 69) (pf := 18) (fun _ _ => ev_icmp_gt (tgt := 69) dX1_readInto_15 (by decide)) (fun h1 => ?_) (fun h1 => ?_)
    · refine ef_bipush (v := (-20 : Int32)) (q := 71) dX1_readInto_69 (by decide) rfl ?_
      refine ef_aload_n (q := 72) 0 dX1_readInto_71 rfl rfl rfl ?_
      refine ef_getI (x := s.1 0 3) (q := 75) rfl fl1_22 rfl rfl dX1_readInto_72 rfl ?_
      refine ef_isub (q := 76) dX1_readInto_75 rfl ?_
      exact ef_iret rfl dX1_readInto_76
    · refine ef_aload_n (q := 19) 0 dX1_readInto_18 rfl rfl rfl ?_
      refine ef_aload_n (q := 20) 1 dX1_readInto_19 rfl rfl rfl ?_
      refine ef_invVI0 (k := 0) (As := [.ref (pl 2)]) (rest := []) (q := 23) (okX1_readStatement) rfl calX1_readStatement ml1_34 (by decide) rfl rfl rfl (Nat.le_of_ble_eq_true rfl) dX1_readInto_20 rfl (fun z2 => ?_)
      refine ef_if (pt := 26) (pf := 34) (fun _ _ kt kf => ev_if_ne (tgt := 34) dX1_readInto_23 (by decide) kf kt) (fun h3 => ?_) (fun h3 => ?_)
      · refine ef_bipush (v := (-20 : Int32)) (q := 28) dX1_readInto_26 (by decide) rfl ?_
        refine ef_aload_n (q := 29) 0 dX1_readInto_28 rfl rfl rfl ?_
        refine ef_getI (x := z2.2.1 0 3) (q := 32) rfl fl1_22 rfl rfl dX1_readInto_29 rfl ?_
        refine ef_isub (q := 33) dX1_readInto_32 rfl ?_
        exact ef_iret rfl dX1_readInto_33
      · refine ef_aload_n (q := 35) 0 dX1_readInto_34 rfl rfl rfl ?_
        refine ef_getI (x := z2.2.1 0 2) (q := 38) rfl fl1_19 rfl rfl dX1_readInto_35 rfl ?_
        refine ef_if (pt := 41) (pf := 43) (fun _ _ kt kf => ev_if_ne (tgt := 43) dX1_readInto_38 (by decide) kf kt) (fun h4 => ?_) (fun h4 => ?_)
        · refine ef_iload_n (q := 42) 2 dX1_readInto_41 rfl rfl rfl ?_
          exact ef_iret rfl dX1_readInto_42
        · refine ef_aload_n (q := 44) 0 dX1_readInto_43 rfl rfl rfl ?_
          refine ef_getI (x := z2.2.1 0 2) (q := 47) rfl fl1_19 rfl rfl dX1_readInto_44 rfl ?_
          refine ef_iconst (v := (3 : Int32)) (q := 48) dX1_readInto_47 (by decide) rfl ?_
          refine ef_if (pt := 59) (pf := 51) (fun _ _ => ev_icmp_eq (tgt := 59) dX1_readInto_48 (by decide)) (fun h5 => ?_) (fun h5 => ?_)
          · refine ef_aload_n (q := 60) 0 dX1_readInto_59 rfl rfl rfl ?_
            refine ef_invVU (k := 0) (nn := 2) (π := (fun k => 0 + k)) (As := []) (rest := []) (q := 63) (okX1_advance) (by decide +kernel) rfl calX1_advance ml1_31 (by decide) rfl rfl rfl (Nat.le_of_ble_eq_true rfl) dX1_readInto_60 rfl rfl (fun z6 => ?_)
            refine ef_iinc (v := x2 + (1 : Int32)) (lv' := [(2, .int (x2 + (1 : Int32))), (0, .ref (pl 0)), (1, .ref (pl 2))]) (q := 66) 2 dX1_readInto_63 rfl rfl (by decide) rfl rfl ?_
            refine ef_goto (tgt := 11) dX1_readInto_66 (by decide) ?_
            refine ef_sub (lv' := [(0, .ref (pl 0)), (1, .ref (pl 2)), (2, .int (x2 + (1 : Int32)))]) [1, 2, 0] rfl ?_
            exact ih (x2 + (1 : Int32)) (mrgS (fun k => 0 + k) 2 z2.2 z6.2)
          · refine ef_bipush (v := (-20 : Int32)) (q := 53) dX1_readInto_51 (by decide) rfl ?_
            refine ef_aload_n (q := 54) 0 dX1_readInto_53 rfl rfl rfl ?_
            refine ef_getI (x := z2.2.1 0 3) (q := 57) rfl fl1_22 rfl rfl dX1_readInto_54 rfl ?_
            refine ef_isub (q := 58) dX1_readInto_57 rfl ?_
            exact ef_iret rfl dX1_readInto_58
set_option maxRecDepth 100000 in
set_option maxHeartbeats 4000000 in
theorem okX1_readInto_0 {G : GG} {pl : Nat → Nat} {h0 : PH} (s : SS) : EvF G 6 mX1_readInto lyKW pl h0 rvI (fX1_readInto_0 s) 0 [(0, .ref (pl 0)), (1, .ref (pl 2))] [] s := by
  unfold fX1_readInto_0
  refine ef_aload_n (q := 1) 0 dX1_readInto_0 rfl rfl rfl ?_
  refine ef_iconst (v := (0 : Int32)) (q := 2) dX1_readInto_1 (by decide) rfl ?_
  refine ef_putI (q := 5) rfl fl1_25 rfl rfl dX1_readInto_2 rfl ?_
  refine ef_aload_n (q := 6) 0 dX1_readInto_5 rfl rfl rfl ?_
  refine ef_invVU (k := 0) (nn := 2) (π := (fun k => 0 + k)) (As := []) (rest := []) (q := 9) (okX1_advance) (by decide +kernel) rfl calX1_advance ml1_31 (by decide) rfl rfl rfl (Nat.le_of_ble_eq_true rfl) dX1_readInto_6 rfl rfl (fun z1 => ?_)
  refine ef_iconst (v := (1 : Int32)) (q := 10) dX1_readInto_9 (by decide) rfl ?_
  refine ef_istore_n (lv' := [(2, .int (1 : Int32)), (0, .ref (pl 0)), (1, .ref (pl 2))]) (q := 11) dX1_readInto_10 rfl (by decide) rfl rfl ?_
  refine ef_sub (lv' := [(0, .ref (pl 0)), (1, .ref (pl 2)), (2, .int (1 : Int32))]) [1, 2, 0] rfl ?_
  exact okX1_readInto_11 FU (1 : Int32) (mrgS (fun k => 0 + k) 2 (wrI s 0 4 (0 : Int32)) z1.2)
theorem okX1_readInto : MtF 6 mX1_readInto lyKW rvI (fun _ pl => [.ref (pl 0), .ref (pl 2)]) (fX1_readInto) := by
  refine MtF.of (by decide +kernel) rfl (fun _ pl => Nat.le_of_ble_eq_true rfl) (fun G pl h0 s => ?_)
  refine ef_sub (lv := [(0, .ref (pl 0)), (1, .ref (pl 2))]) (lv' := [(0, .ref (pl 0)), (1, .ref (pl 2))]) [0, 1] rfl ?_
  exact okX1_readInto_0  s
