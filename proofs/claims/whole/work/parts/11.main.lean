-- X5_isWithin
theorem dX5_isWithin_0 : decode cX5_isWithin 0 = .ok (.iload_n 0, 1) := by decide +kernel
theorem dX5_isWithin_1 : decode cX5_isWithin 1 = .ok (.iload_n 1, 1) := by decide +kernel
theorem dX5_isWithin_2 : decode cX5_isWithin 2 = .ok (.if_icmp .lt 12, 3) := by decide +kernel
theorem dX5_isWithin_5 : decode cX5_isWithin 5 = .ok (.iload_n 0, 1) := by decide +kernel
theorem dX5_isWithin_6 : decode cX5_isWithin 6 = .ok (.iload_n 2, 1) := by decide +kernel
theorem dX5_isWithin_7 : decode cX5_isWithin 7 = .ok (.if_icmp .gt 7, 3) := by decide +kernel
theorem dX5_isWithin_10 : decode cX5_isWithin 10 = .ok (.iconst 1, 1) := by decide +kernel
theorem dX5_isWithin_11 : decode cX5_isWithin 11 = .ok (.goto 4, 3) := by decide +kernel
theorem dX5_isWithin_14 : decode cX5_isWithin 14 = .ok (.iconst 0, 1) := by decide +kernel
theorem dX5_isWithin_15 : decode cX5_isWithin 15 = .ok (.ireturn, 1) := by decide +kernel
def fX5_isWithin_0 (x0 : Int32) (x1 : Int32) (x2 : Int32) (s : SS) : Option (Int32 × SS) := if x0 < x1 then (some ((0 : Int32), s)) else (if x2 < x0 then (some ((0 : Int32), s)) else (some ((1 : Int32), s)))
def fX5_isWithin (x0 : Int32) (x1 : Int32) (x2 : Int32) (s : SS) : Option (Int32 × SS) := fX5_isWithin_0 x0 x1 x2 s
set_option maxRecDepth 100000 in
set_option maxHeartbeats 4000000 in
theorem okX5_isWithin_0 {G : GG} {pl : Nat → Nat} {h0 : PH} (x0 : Int32) (x1 : Int32) (x2 : Int32) (s : SS) : EvF G 0 mX5_isWithin ly pl h0 rvI (fX5_isWithin_0 x0 x1 x2 s) 0 [(0, .int x0), (1, .int x1), (2, .int x2)] [] s := by
  unfold fX5_isWithin_0
  refine ef_iload_n (q := 1) 0 dX5_isWithin_0 rfl rfl rfl ?_
  refine ef_iload_n (q := 2) 1 dX5_isWithin_1 rfl rfl rfl ?_
  refine ef_if (pt := 14) (pf := 5) (fun _ _ => ev_icmp_lt (tgt := 14) dX5_isWithin_2 (by decide)) (fun h1 => ?_) (fun h1 => ?_)
  · refine ef_iconst (v := (0 : Int32)) (q := 15) dX5_isWithin_14 (by decide) rfl ?_
    exact ef_zretc (x := (0 : Int32)) (by decide) rfl dX5_isWithin_15
  · refine ef_iload_n (q := 6) 0 dX5_isWithin_5 rfl rfl rfl ?_
    refine ef_iload_n (q := 7) 2 dX5_isWithin_6 rfl rfl rfl ?_
    refine ef_if (pt := 14) (pf := 10) (fun _ _ => ev_icmp_gt (tgt := 14) dX5_isWithin_7 (by decide)) (fun h2 => ?_) (fun h2 => ?_)
    · refine ef_iconst (v := (0 : Int32)) (q := 15) dX5_isWithin_14 (by decide) rfl ?_
      exact ef_zretc (x := (0 : Int32)) (by decide) rfl dX5_isWithin_15
    · refine ef_iconst (v := (1 : Int32)) (q := 11) dX5_isWithin_10 (by decide) rfl ?_
      refine ef_goto (tgt := 15) dX5_isWithin_11 (by decide) ?_
      exact ef_zretc (x := (1 : Int32)) (by decide) rfl dX5_isWithin_15
theorem okX5_isWithin (x0 : Int32) (x1 : Int32) (x2 : Int32) : MtF 0 mX5_isWithin ly rvI (fun _ pl => [.int x0, .int x1, .int x2]) (fX5_isWithin x0 x1 x2) := by
  refine MtF.of (by decide +kernel) rfl (fun _ pl => Nat.le_of_ble_eq_true rfl) (fun G pl h0 s => ?_)
  refine ef_sub (lv := [(0, .int x0), (1, .int x1), (2, .int x2)]) (lv' := [(0, .int x0), (1, .int x1), (2, .int x2)]) [0, 1, 2] rfl ?_
  exact okX5_isWithin_0  x0 x1 x2 s
-- X5_isShelf
theorem dX5_isShelf_0 : decode cX5_isShelf 0 = .ok (.iload_n 0, 1) := by decide +kernel
theorem dX5_isShelf_1 : decode cX5_isShelf 1 = .ok (.iconst 0, 1) := by decide +kernel
theorem dX5_isShelf_2 : decode cX5_isShelf 2 = .ok (.bipush 7, 2) := by decide +kernel
theorem dX5_isShelf_4 : decode cX5_isShelf 4 = .ok (.invokestatic 62, 3) := by decide +kernel
theorem dX5_isShelf_7 : decode cX5_isShelf 7 = .ok (.ireturn, 1) := by decide +kernel
def fX5_isShelf_0 (x0 : Int32) (s : SS) : Option (Int32 × SS) := ((fX5_isWithin x0 (0 : Int32) (7 : Int32) s).bind fun z1 => some (nbZ z1.1, s))
def fX5_isShelf (x0 : Int32) (s : SS) : Option (Int32 × SS) := fX5_isShelf_0 x0 s
set_option maxRecDepth 100000 in
set_option maxHeartbeats 4000000 in
theorem okX5_isShelf_0 {G : GG} {pl : Nat → Nat} {h0 : PH} (x0 : Int32) (s : SS) : EvF G 1 mX5_isShelf ly pl h0 rvI (fX5_isShelf_0 x0 s) 0 [(0, .int x0)] [] s := by
  unfold fX5_isShelf_0
  refine ef_iload_n (q := 1) 0 dX5_isShelf_0 rfl rfl rfl ?_
  refine ef_iconst (v := (0 : Int32)) (q := 2) dX5_isShelf_1 (by decide) rfl ?_
  refine ef_bipush (v := (7 : Int32)) (q := 4) dX5_isShelf_2 (by decide) rfl ?_
  refine ef_invPI0 (As := [.int x0, .int (0 : Int32), .int (7 : Int32)]) (rest := []) (q := 7) (okX5_isWithin x0 (0 : Int32) (7 : Int32)) rfl calX5_isWithin ml5_62 (by decide) rfl rfl (Nat.le_of_ble_eq_true rfl) dX5_isShelf_4 rfl (fun z1 => ?_)
  exact ef_zret rfl dX5_isShelf_7
theorem okX5_isShelf (x0 : Int32) : MtF 1 mX5_isShelf ly rvI (fun _ pl => [.int x0]) (fX5_isShelf x0) := by
  refine MtF.of (by decide +kernel) rfl (fun _ pl => Nat.le_of_ble_eq_true rfl) (fun G pl h0 s => ?_)
  refine ef_sub (lv := [(0, .int x0)]) (lv' := [(0, .int x0)]) [0] rfl ?_
  exact okX5_isShelf_0  x0 s
-- X5_refuse
theorem dX5_refuse_0 : decode cX5_refuse 0 = .ok (.iload_n 1, 1) := by decide +kernel
theorem dX5_refuse_1 : decode cX5_refuse 1 = .ok (.bipush (-6), 2) := by decide +kernel
theorem dX5_refuse_3 : decode cX5_refuse 3 = .ok (.bipush (-2), 2) := by decide +kernel
theorem dX5_refuse_5 : decode cX5_refuse 5 = .ok (.invokestatic 62, 3) := by decide +kernel
theorem dX5_refuse_8 : decode cX5_refuse 8 = .ok (.ifCond .eq 14, 3) := by decide +kernel
theorem dX5_refuse_11 : decode cX5_refuse 11 = .ok (.aload_n 0, 1) := by decide +kernel
theorem dX5_refuse_12 : decode cX5_refuse 12 = .ok (.getfield 49, 3) := by decide +kernel
theorem dX5_refuse_15 : decode cX5_refuse 15 = .ok (.iload_n 1, 1) := by decide +kernel
theorem dX5_refuse_16 : decode cX5_refuse 16 = .ok (.ineg, 1) := by decide +kernel
theorem dX5_refuse_17 : decode cX5_refuse 17 = .ok (.dup2, 1) := by decide +kernel
theorem dX5_refuse_18 : decode cX5_refuse 18 = .ok (.iaload, 1) := by decide +kernel
theorem dX5_refuse_19 : decode cX5_refuse 19 = .ok (.iconst 1, 1) := by decide +kernel
theorem dX5_refuse_20 : decode cX5_refuse 20 = .ok (.iadd, 1) := by decide +kernel
theorem dX5_refuse_21 : decode cX5_refuse 21 = .ok (.iastore, 1) := by decide +kernel
theorem dX5_refuse_22 : decode cX5_refuse 22 = .ok (.iload_n 1, 1) := by decide +kernel
theorem dX5_refuse_23 : decode cX5_refuse 23 = .ok (.ireturn, 1) := by decide +kernel
def fX5_refuse_0 (x1 : Int32) (s : SS) : Option (Int32 × SS) := ((fX5_isWithin x1 (-6 : Int32) (-2 : Int32) s).bind fun z1 => if z1.1 = 0 then (some (x1, s)) else (if ixB (-x1) 7 then (if ixB (-x1) 7 then (some (x1, wrI s 60 ((-x1).toNatClampNeg) ((s.1 60 ((-x1).toNatClampNeg)) + (1 : Int32)))) else none) else none))
def fX5_refuse (x1 : Int32) (s : SS) : Option (Int32 × SS) := fX5_refuse_0 x1 s
set_option maxRecDepth 100000 in
set_option maxHeartbeats 4000000 in
theorem okX5_refuse_0 {G : GG} {pl : Nat → Nat} {h0 : PH} (x1 : Int32) (s : SS) : EvF G 1 mX5_refuse lyM pl h0 rvI (fX5_refuse_0 x1 s) 0 [(0, .ref (pl 0)), (1, .int x1)] [] s := by
  unfold fX5_refuse_0
  refine ef_iload_n (q := 1) 1 dX5_refuse_0 rfl rfl rfl ?_
  refine ef_bipush (v := (-6 : Int32)) (q := 3) dX5_refuse_1 (by decide) rfl ?_
  refine ef_bipush (v := (-2 : Int32)) (q := 5) dX5_refuse_3 (by decide) rfl ?_
  refine ef_invPI0 (As := [.int x1, .int (-6 : Int32), .int (-2 : Int32)]) (rest := []) (q := 8) (okX5_isWithin x1 (-6 : Int32) (-2 : Int32)) rfl calX5_isWithin ml5_62 (by decide) rfl rfl (Nat.le_of_ble_eq_true rfl) dX5_refuse_5 rfl (fun z1 => ?_)
  refine ef_if (pt := 22) (pf := 11) (fun _ _ => ev_if_eq (tgt := 22) dX5_refuse_8 (by decide)) (fun h2 => ?_) (fun h2 => ?_)
  · refine ef_iload_n (q := 23) 1 dX5_refuse_22 rfl rfl rfl ?_
    exact ef_iret rfl dX5_refuse_23
  · refine ef_aload_n (q := 12) 0 dX5_refuse_11 rfl rfl rfl ?_
    refine ef_getR (t := 60) (q := 15) rfl fl5_49 rfl rfl dX5_refuse_12 rfl ?_
    refine ef_iload_n (q := 16) 1 dX5_refuse_15 rfl rfl rfl ?_
    refine ef_ineg (q := 17) dX5_refuse_16 rfl ?_
    refine ef_dup2_11 (q := 18) dX5_refuse_17 rfl rfl rfl ?_
    refine ef_guard (fun g3 => ?_)
    refine ef_iaload (x := s.1 60 ((-x1).toNatClampNeg)) (q := 19) rfl g3 dX5_refuse_18 rfl rfl ?_
    refine ef_iconst (v := (1 : Int32)) (q := 20) dX5_refuse_19 (by decide) rfl ?_
    refine ef_iadd (q := 21) dX5_refuse_20 rfl ?_
    refine ef_guard (fun g4 => ?_)
    refine ef_iastore (j := (-x1).toNatClampNeg) (q := 22) rfl g4 dX5_refuse_21 rfl rfl ?_
    refine ef_iload_n (q := 23) 1 dX5_refuse_22 rfl rfl rfl ?_
    exact ef_iret rfl dX5_refuse_23
theorem okX5_refuse (x1 : Int32) : MtF 1 mX5_refuse lyM rvI (fun _ pl => [.ref (pl 0), .int x1]) (fX5_refuse x1) := by
  refine MtF.of (by decide +kernel) rfl (fun _ pl => Nat.le_of_ble_eq_true rfl) (fun G pl h0 s => ?_)
  refine ef_sub (lv := [(0, .ref (pl 0)), (1, .int x1)]) (lv' := [(0, .ref (pl 0)), (1, .int x1)]) [0, 1] rfl ?_
  exact okX5_refuse_0  x1 s
-- X5_row
theorem dX5_row_0 : decode cX5_row 0 = .ok (.iload_n 1, 1) := by decide +kernel
theorem dX5_row_1 : decode cX5_row 1 = .ok (.invokestatic 58, 3) := by decide +kernel
theorem dX5_row_4 : decode cX5_row 4 = .ok (.ifCond .eq 22, 3) := by decide +kernel
theorem dX5_row_7 : decode cX5_row 7 = .ok (.iload_n 2, 1) := by decide +kernel
theorem dX5_row_8 : decode cX5_row 8 = .ok (.iconst 0, 1) := by decide +kernel
theorem dX5_row_9 : decode cX5_row 9 = .ok (.iconst 4, 1) := by decide +kernel
theorem dX5_row_10 : decode cX5_row 10 = .ok (.invokestatic 62, 3) := by decide +kernel
theorem dX5_row_13 : decode cX5_row 13 = .ok (.ifCond .eq 13, 3) := by decide +kernel
theorem dX5_row_16 : decode cX5_row 16 = .ok (.iload_n 3, 1) := by decide +kernel
theorem dX5_row_17 : decode cX5_row 17 = .ok (.iconst 0, 1) := by decide +kernel
theorem dX5_row_18 : decode cX5_row 18 = .ok (.bipush 40, 2) := by decide +kernel
theorem dX5_row_20 : decode cX5_row 20 = .ok (.invokestatic 62, 3) := by decide +kernel
theorem dX5_row_23 : decode cX5_row 23 = .ok (.ifCond .ne 10, 3) := by decide +kernel
theorem dX5_row_26 : decode cX5_row 26 = .ok (.aload_n 0, 1) := by decide +kernel
theorem dX5_row_27 : decode cX5_row 27 = .ok (.bipush (-2), 2) := by decide +kernel
theorem dX5_row_29 : decode cX5_row 29 = .ok (.invokevirtual 66, 3) := by decide +kernel
theorem dX5_row_32 : decode cX5_row 32 = .ok (.ireturn, 1) := by decide +kernel
theorem dX5_row_33 : decode cX5_row 33 = .ok (.aload_n 0, 1) := by decide +kernel
theorem dX5_row_34 : decode cX5_row 34 = .ok (.getfield 38, 3) := by decide +kernel
theorem dX5_row_37 : decode cX5_row 37 = .ok (.iload_n 1, 1) := by decide +kernel
theorem dX5_row_38 : decode cX5_row 38 = .ok (.aaload, 1) := by decide +kernel
theorem dX5_row_39 : decode cX5_row 39 = .ok (.iload_n 2, 1) := by decide +kernel
theorem dX5_row_40 : decode cX5_row 40 = .ok (.iload_n 3, 1) := by decide +kernel
theorem dX5_row_41 : decode cX5_row 41 = .ok (.invokevirtual 70, 3) := by decide +kernel
theorem dX5_row_44 : decode cX5_row 44 = .ok (.iconst 1, 1) := by decide +kernel
theorem dX5_row_45 : decode cX5_row 45 = .ok (.ireturn, 1) := by decide +kernel
def fX5_row_26 (s : SS) : Option (Int32 × SS) := ((fX5_refuse (-2 : Int32) s).bind fun z1 => some (z1.1, z1.2))
def fX5_row_0 (x1 : Int32) (x2 : Int32) (x3 : Int32) (s : SS) : Option (Int32 × SS) := ((fX5_isShelf x1 s).bind fun z1 => if z1.1 = 0 then (fX5_row_26 s) else (((fX5_isWithin x2 (0 : Int32) (4 : Int32) s).bind fun z3 => if z3.1 = 0 then (fX5_row_26 s) else (((fX5_isWithin x3 (0 : Int32) (40 : Int32) s).bind fun z5 => if z5.1 = 0 then (fX5_row_26 s) else (if ixB x1 8 then (((fX3_holdRow x2 x3 (selS (fun k => 61 + 2 * x1.toNatClampNeg + k) s)).bind fun z8 => some ((1 : Int32), mrgS (fun k => 61 + 2 * x1.toNatClampNeg + k) 2 s z8.2))) else none))))))
def fX5_row (x1 : Int32) (x2 : Int32) (x3 : Int32) (s : SS) : Option (Int32 × SS) := fX5_row_0 x1 x2 x3 s
set_option maxRecDepth 100000 in
set_option maxHeartbeats 4000000 in
theorem okX5_row_26 {G : GG} {pl : Nat → Nat} {h0 : PH} (s : SS) : EvF G 2 mX5_row lyM pl h0 rvI (fX5_row_26 s) 26 [(0, .ref (pl 0))] [] s := by
  unfold fX5_row_26
  refine ef_aload_n (q := 27) 0 dX5_row_26 rfl rfl rfl ?_
  refine ef_bipush (v := (-2 : Int32)) (q := 29) dX5_row_27 (by decide) rfl ?_
  refine ef_invVI0 (k := 0) (As := [.int (-2 : Int32)]) (rest := []) (q := 32) (okX5_refuse (-2 : Int32)) rfl calX5_refuse ml5_66 (by decide) rfl rfl rfl (Nat.le_of_ble_eq_true rfl) dX5_row_29 rfl (fun z1 => ?_)
  exact ef_iret rfl dX5_row_32
set_option maxRecDepth 100000 in
set_option maxHeartbeats 4000000 in
theorem okX5_row_0 {G : GG} {pl : Nat → Nat} {h0 : PH} (x1 : Int32) (x2 : Int32) (x3 : Int32) (s : SS) : EvF G 2 mX5_row lyM pl h0 rvI (fX5_row_0 x1 x2 x3 s) 0 [(0, .ref (pl 0)), (1, .int x1), (2, .int x2), (3, .int x3)] [] s := by
  unfold fX5_row_0
  refine ef_iload_n (q := 1) 1 dX5_row_0 rfl rfl rfl ?_
  refine ef_invPI0 (As := [.int x1]) (rest := []) (q := 4) (okX5_isShelf x1) rfl calX5_isShelf ml5_58 (by decide) rfl rfl (Nat.le_of_ble_eq_true rfl) dX5_row_1 rfl (fun z1 => ?_)
  refine ef_if (pt := 26) (pf := 7) (fun _ _ => ev_if_eq (tgt := 26) dX5_row_4 (by decide)) (fun h2 => ?_) (fun h2 => ?_)
  · refine ef_sub (lv' := [(0, .ref (pl 0))]) [0] rfl ?_
    exact okX5_row_26 s
  · refine ef_iload_n (q := 8) 2 dX5_row_7 rfl rfl rfl ?_
    refine ef_iconst (v := (0 : Int32)) (q := 9) dX5_row_8 (by decide) rfl ?_
    refine ef_iconst (v := (4 : Int32)) (q := 10) dX5_row_9 (by decide) rfl ?_
    refine ef_invPI0 (As := [.int x2, .int (0 : Int32), .int (4 : Int32)]) (rest := []) (q := 13) (okX5_isWithin x2 (0 : Int32) (4 : Int32)) rfl calX5_isWithin ml5_62 (by decide) rfl rfl (Nat.le_of_ble_eq_true rfl) dX5_row_10 rfl (fun z3 => ?_)
    refine ef_if (pt := 26) (pf := 16) (fun _ _ => ev_if_eq (tgt := 26) dX5_row_13 (by decide)) (fun h4 => ?_) (fun h4 => ?_)
    · refine ef_sub (lv' := [(0, .ref (pl 0))]) [0] rfl ?_
      exact okX5_row_26 s
    · refine ef_iload_n (q := 17) 3 dX5_row_16 rfl rfl rfl ?_
      refine ef_iconst (v := (0 : Int32)) (q := 18) dX5_row_17 (by decide) rfl ?_
      refine ef_bipush (v := (40 : Int32)) (q := 20) dX5_row_18 (by decide) rfl ?_
      refine ef_invPI0 (As := [.int x3, .int (0 : Int32), .int (40 : Int32)]) (rest := []) (q := 23) (okX5_isWithin x3 (0 : Int32) (40 : Int32)) rfl calX5_isWithin ml5_62 (by decide) rfl rfl (Nat.le_of_ble_eq_true rfl) dX5_row_20 rfl (fun z5 => ?_)
      refine ef_if (pt := 26) (pf := 33) (fun _ _ kt kf => ev_if_ne (tgt := 33) dX5_row_23 (by decide) kf kt) (fun h6 => ?_) (fun h6 => ?_)
      · refine ef_sub (lv' := [(0, .ref (pl 0))]) [0] rfl ?_
        exact okX5_row_26 s
      · refine ef_aload_n (q := 34) 0 dX5_row_33 rfl rfl rfl ?_
        refine ef_getR (t := 57) (q := 37) rfl fl5_38 rfl rfl dX5_row_34 rfl ?_
        refine ef_iload_n (q := 38) 1 dX5_row_37 rfl rfl rfl ?_
        refine ef_guard (fun g7 => ?_)
        refine ef_aaload (t0 := 61 + 2 * x1.toNatClampNeg) (q := 39) rfl (by decide) lyM_t57 g7 dX5_row_38 rfl rfl ?_
        refine ef_iload_n (q := 40) 2 dX5_row_39 rfl rfl rfl ?_
        refine ef_iload_n (q := 41) 3 dX5_row_40 rfl rfl rfl ?_
        refine ef_invVU (k := (61 + 2 * x1.toNatClampNeg)) (nn := 2) (π := (fun k => 61 + 2 * x1.toNatClampNeg + k)) (As := [.int x2, .int x3]) (rest := []) (q := 44) (okX3_holdRow x2 x3) (lm_M_S_s57_0 _ (ixB_lt g7)) rfl calX3_holdRow ml5_70 (by decide) (lyM_f57_0 _ (ixB_lt g7)) rfl rfl (Nat.le_of_ble_eq_true rfl) dX5_row_41 rfl rfl (fun z8 => ?_)
        refine ef_iconst (v := (1 : Int32)) (q := 45) dX5_row_44 (by decide) rfl ?_
        exact ef_iret rfl dX5_row_45
theorem okX5_row (x1 : Int32) (x2 : Int32) (x3 : Int32) : MtF 2 mX5_row lyM rvI (fun _ pl => [.ref (pl 0), .int x1, .int x2, .int x3]) (fX5_row x1 x2 x3) := by
  refine MtF.of (by decide +kernel) rfl (fun _ pl => Nat.le_of_ble_eq_true rfl) (fun G pl h0 s => ?_)
  refine ef_sub (lv := [(0, .ref (pl 0)), (1, .int x1), (2, .int x2), (3, .int x3)]) (lv' := [(0, .ref (pl 0)), (1, .int x1), (2, .int x2), (3, .int x3)]) [0, 1, 2, 3] rfl ?_
  exact okX5_row_0  x1 x2 x3 s
-- X5_rowFault
theorem dX5_rowFault_0 : decode cX5_rowFault 0 = .ok (.iload_n 1, 1) := by decide +kernel
theorem dX5_rowFault_1 : decode cX5_rowFault 1 = .ok (.invokestatic 58, 3) := by decide +kernel
theorem dX5_rowFault_4 : decode cX5_rowFault 4 = .ok (.ifCond .ne 6, 3) := by decide +kernel
theorem dX5_rowFault_7 : decode cX5_rowFault 7 = .ok (.bipush (-2), 2) := by decide +kernel
theorem dX5_rowFault_9 : decode cX5_rowFault 9 = .ok (.ireturn, 1) := by decide +kernel
theorem dX5_rowFault_10 : decode cX5_rowFault 10 = .ok (.aload_n 0, 1) := by decide +kernel
theorem dX5_rowFault_11 : decode cX5_rowFault 11 = .ok (.getfield 38, 3) := by decide +kernel
theorem dX5_rowFault_14 : decode cX5_rowFault 14 = .ok (.iload_n 1, 1) := by decide +kernel
theorem dX5_rowFault_15 : decode cX5_rowFault 15 = .ok (.aaload, 1) := by decide +kernel
theorem dX5_rowFault_16 : decode cX5_rowFault 16 = .ok (.getfield 103, 3) := by decide +kernel
theorem dX5_rowFault_19 : decode cX5_rowFault 19 = .ok (.iconst (-1), 1) := by decide +kernel
theorem dX5_rowFault_20 : decode cX5_rowFault 20 = .ok (.if_icmp .ne 6, 3) := by decide +kernel
theorem dX5_rowFault_23 : decode cX5_rowFault 23 = .ok (.bipush (-4), 2) := by decide +kernel
theorem dX5_rowFault_25 : decode cX5_rowFault 25 = .ok (.ireturn, 1) := by decide +kernel
theorem dX5_rowFault_26 : decode cX5_rowFault 26 = .ok (.aload_n 0, 1) := by decide +kernel
theorem dX5_rowFault_27 : decode cX5_rowFault 27 = .ok (.getfield 38, 3) := by decide +kernel
theorem dX5_rowFault_30 : decode cX5_rowFault 30 = .ok (.iload_n 1, 1) := by decide +kernel
theorem dX5_rowFault_31 : decode cX5_rowFault 31 = .ok (.aaload, 1) := by decide +kernel
theorem dX5_rowFault_32 : decode cX5_rowFault 32 = .ok (.invokevirtual 99, 3) := by decide +kernel
theorem dX5_rowFault_35 : decode cX5_rowFault 35 = .ok (.ifCond .eq 7, 3) := by decide +kernel
theorem dX5_rowFault_38 : decode cX5_rowFault 38 = .ok (.iconst 0, 1) := by decide +kernel
theorem dX5_rowFault_39 : decode cX5_rowFault 39 = .ok (.goto 5, 3) := by decide +kernel
theorem dX5_rowFault_42 : decode cX5_rowFault 42 = .ok (.bipush (-3), 2) := by decide +kernel
theorem dX5_rowFault_44 : decode cX5_rowFault 44 = .ok (.ireturn, 1) := by decide +kernel
def fX5_rowFault_0 (x1 : Int32) (s : SS) : Option (Int32 × SS) := ((fX5_isShelf x1 s).bind fun z1 => if z1.1 = 0 then (some ((-2 : Int32), s)) else (if ixB x1 8 then (if (s.1 (61 + 2 * x1.toNatClampNeg) 0) = (-1 : Int32) then (some ((-4 : Int32), s)) else (if ixB x1 8 then (((fX3_holdsRow (selS (fun k => 61 + 2 * x1.toNatClampNeg + k) s)).bind fun z6 => if z6.1 = 0 then (some ((-3 : Int32), mrgS (fun k => 61 + 2 * x1.toNatClampNeg + k) 2 s z6.2)) else (some ((0 : Int32), mrgS (fun k => 61 + 2 * x1.toNatClampNeg + k) 2 s z6.2)))) else none)) else none))
def fX5_rowFault (x1 : Int32) (s : SS) : Option (Int32 × SS) := fX5_rowFault_0 x1 s
set_option maxRecDepth 100000 in
set_option maxHeartbeats 4000000 in
theorem okX5_rowFault_0 {G : GG} {pl : Nat → Nat} {h0 : PH} (x1 : Int32) (s : SS) : EvF G 2 mX5_rowFault lyM pl h0 rvI (fX5_rowFault_0 x1 s) 0 [(0, .ref (pl 0)), (1, .int x1)] [] s := by
  unfold fX5_rowFault_0
  refine ef_iload_n (q := 1) 1 dX5_rowFault_0 rfl rfl rfl ?_
  refine ef_invPI0 (As := [.int x1]) (rest := []) (q := 4) (okX5_isShelf x1) rfl calX5_isShelf ml5_58 (by decide) rfl rfl (Nat.le_of_ble_eq_true rfl) dX5_rowFault_1 rfl (fun z1 => ?_)
  refine ef_if (pt := 7) (pf := 10) (fun _ _ kt kf => ev_if_ne (tgt := 10) dX5_rowFault_4 (by decide) kf kt) (fun h2 => ?_) (fun h2 => ?_)
  · refine ef_bipush (v := (-2 : Int32)) (q := 9) dX5_rowFault_7 (by decide) rfl ?_
    exact ef_iret rfl dX5_rowFault_9
  · refine ef_aload_n (q := 11) 0 dX5_rowFault_10 rfl rfl rfl ?_
    refine ef_getR (t := 57) (q := 14) rfl fl5_38 rfl rfl dX5_rowFault_11 rfl ?_
    refine ef_iload_n (q := 15) 1 dX5_rowFault_14 rfl rfl rfl ?_
    refine ef_guard (fun g3 => ?_)
    refine ef_aaload (t0 := 61 + 2 * x1.toNatClampNeg) (q := 16) rfl (by decide) lyM_t57 g3 dX5_rowFault_15 rfl rfl ?_
    refine ef_getI (x := s.1 (61 + 2 * x1.toNatClampNeg) 0) (q := 19) (lyM_f57_0 _ (ixB_lt g3)) fl5_103 rfl rfl dX5_rowFault_16 rfl ?_
    refine ef_iconst (v := (-1 : Int32)) (q := 20) dX5_rowFault_19 (by decide) rfl ?_
    refine ef_if (pt := 23) (pf := 26) (fun _ _ kt kf => ev_icmp_ne (tgt := 26) dX5_rowFault_20 (by decide) kf kt) (fun h4 => ?_) (fun h4 => ?_)
    · refine ef_bipush (v := (-4 : Int32)) (q := 25) dX5_rowFault_23 (by decide) rfl ?_
      exact ef_iret rfl dX5_rowFault_25
    · refine ef_aload_n (q := 27) 0 dX5_rowFault_26 rfl rfl rfl ?_
      refine ef_getR (t := 57) (q := 30) rfl fl5_38 rfl rfl dX5_rowFault_27 rfl ?_
      refine ef_iload_n (q := 31) 1 dX5_rowFault_30 rfl rfl rfl ?_
      refine ef_guard (fun g5 => ?_)
      refine ef_aaload (t0 := 61 + 2 * x1.toNatClampNeg) (q := 32) rfl (by decide) lyM_t57 g5 dX5_rowFault_31 rfl rfl ?_
      refine ef_invVI (k := (61 + 2 * x1.toNatClampNeg)) (nn := 2) (π := (fun k => 61 + 2 * x1.toNatClampNeg + k)) (As := []) (rest := []) (q := 35) (okX3_holdsRow) (lm_M_S_s57_0 _ (ixB_lt g5)) rfl calX3_holdsRow ml5_99 (by decide) (lyM_f57_0 _ (ixB_lt g5)) rfl rfl (Nat.le_of_ble_eq_true rfl) dX5_rowFault_32 rfl rfl (fun z6 => ?_)
      refine ef_if (pt := 42) (pf := 38) (fun _ _ => ev_if_eq (tgt := 42) dX5_rowFault_35 (by decide)) (fun h7 => ?_) (fun h7 => ?_)
      · refine ef_bipush (v := (-3 : Int32)) (q := 44) dX5_rowFault_42 (by decide) rfl ?_
        exact ef_iret rfl dX5_rowFault_44
      · refine ef_iconst (v := (0 : Int32)) (q := 39) dX5_rowFault_38 (by decide) rfl ?_
        refine ef_goto (tgt := 44) dX5_rowFault_39 (by decide) ?_
        exact ef_iret rfl dX5_rowFault_44
theorem okX5_rowFault (x1 : Int32) : MtF 2 mX5_rowFault lyM rvI (fun _ pl => [.ref (pl 0), .int x1]) (fX5_rowFault x1) := by
  refine MtF.of (by decide +kernel) rfl (fun _ pl => Nat.le_of_ble_eq_true rfl) (fun G pl h0 s => ?_)
  refine ef_sub (lv := [(0, .ref (pl 0)), (1, .int x1)]) (lv' := [(0, .ref (pl 0)), (1, .int x1)]) [0, 1] rfl ?_
  exact okX5_rowFault_0  x1 s
-- X5_set
theorem dX5_set_0 : decode cX5_set 0 = .ok (.aload_n 0, 1) := by decide +kernel
theorem dX5_set_1 : decode cX5_set 1 = .ok (.iload_n 1, 1) := by decide +kernel
theorem dX5_set_2 : decode cX5_set 2 = .ok (.invokevirtual 74, 3) := by decide +kernel
theorem dX5_set_5 : decode cX5_set 5 = .ok (.istore 5, 2) := by decide +kernel
theorem dX5_set_7 : decode cX5_set 7 = .ok (.iload 5, 2) := by decide +kernel
theorem dX5_set_9 : decode cX5_set 9 = .ok (.ifCond .eq 10, 3) := by decide +kernel
theorem dX5_set_12 : decode cX5_set 12 = .ok (.aload_n 0, 1) := by decide +kernel
theorem dX5_set_13 : decode cX5_set 13 = .ok (.iload 5, 2) := by decide +kernel
theorem dX5_set_15 : decode cX5_set 15 = .ok (.invokevirtual 66, 3) := by decide +kernel
theorem dX5_set_18 : decode cX5_set 18 = .ok (.ireturn, 1) := by decide +kernel
theorem dX5_set_19 : decode cX5_set 19 = .ok (.iload_n 2, 1) := by decide +kernel
theorem dX5_set_20 : decode cX5_set 20 = .ok (.iconst 0, 1) := by decide +kernel
theorem dX5_set_21 : decode cX5_set 21 = .ok (.aload_n 0, 1) := by decide +kernel
theorem dX5_set_22 : decode cX5_set 22 = .ok (.getfield 38, 3) := by decide +kernel
theorem dX5_set_25 : decode cX5_set 25 = .ok (.iload_n 1, 1) := by decide +kernel
theorem dX5_set_26 : decode cX5_set 26 = .ok (.aaload, 1) := by decide +kernel
theorem dX5_set_27 : decode cX5_set 27 = .ok (.getfield 77, 3) := by decide +kernel
theorem dX5_set_30 : decode cX5_set 30 = .ok (.iconst 1, 1) := by decide +kernel
theorem dX5_set_31 : decode cX5_set 31 = .ok (.isub, 1) := by decide +kernel
theorem dX5_set_32 : decode cX5_set 32 = .ok (.invokestatic 62, 3) := by decide +kernel
theorem dX5_set_35 : decode cX5_set 35 = .ok (.ifCond .ne 10, 3) := by decide +kernel
theorem dX5_set_38 : decode cX5_set 38 = .ok (.aload_n 0, 1) := by decide +kernel
theorem dX5_set_39 : decode cX5_set 39 = .ok (.bipush (-2), 2) := by decide +kernel
theorem dX5_set_41 : decode cX5_set 41 = .ok (.invokevirtual 66, 3) := by decide +kernel
theorem dX5_set_44 : decode cX5_set 44 = .ok (.ireturn, 1) := by decide +kernel
theorem dX5_set_45 : decode cX5_set 45 = .ok (.aload_n 0, 1) := by decide +kernel
theorem dX5_set_46 : decode cX5_set 46 = .ok (.getfield 38, 3) := by decide +kernel
theorem dX5_set_49 : decode cX5_set 49 = .ok (.iload_n 1, 1) := by decide +kernel
theorem dX5_set_50 : decode cX5_set 50 = .ok (.aaload, 1) := by decide +kernel
theorem dX5_set_51 : decode cX5_set 51 = .ok (.iload_n 2, 1) := by decide +kernel
theorem dX5_set_52 : decode cX5_set 52 = .ok (.lload_n 3, 1) := by decide +kernel
theorem dX5_set_53 : decode cX5_set 53 = .ok (.invokevirtual 81, 3) := by decide +kernel
theorem dX5_set_56 : decode cX5_set 56 = .ok (.iconst 1, 1) := by decide +kernel
theorem dX5_set_57 : decode cX5_set 57 = .ok (.ireturn, 1) := by decide +kernel
def fX5_set_0 (x1 : Int32) (x2 : Int32) (x3 : Int64) (s : SS) : Option (Int32 × SS) := ((fX5_rowFault x1 s).bind fun z1 => if z1.1 = 0 then (if ixB x1 8 then (((fX5_isWithin x2 (0 : Int32) ((z1.2.1 (61 + 2 * x1.toNatClampNeg) 1) - (1 : Int32)) z1.2).bind fun z4 => if z4.1 = 0 then (((fX5_refuse (-2 : Int32) z1.2).bind fun z6 => some (z6.1, z6.2))) else (if ixB x1 8 then (((fX3_put x2 x3 (selS (fun k => 61 + 2 * x1.toNatClampNeg + k) z1.2)).bind fun z8 => some ((1 : Int32), mrgS (fun k => 61 + 2 * x1.toNatClampNeg + k) 2 z1.2 z8.2))) else none))) else none) else (((fX5_refuse z1.1 z1.2).bind fun z9 => some (z9.1, z9.2))))
def fX5_set (x1 : Int32) (x2 : Int32) (x3 : Int64) (s : SS) : Option (Int32 × SS) := fX5_set_0 x1 x2 x3 s
set_option maxRecDepth 100000 in
set_option maxHeartbeats 4000000 in
theorem okX5_set_0 {G : GG} {pl : Nat → Nat} {h0 : PH} (x1 : Int32) (x2 : Int32) (x3 : Int64) (s : SS) : EvF G 3 mX5_set lyM pl h0 rvI (fX5_set_0 x1 x2 x3 s) 0 [(0, .ref (pl 0)), (1, .int x1), (2, .int x2), (3, .long x3)] [] s := by
  unfold fX5_set_0
  refine ef_aload_n (q := 1) 0 dX5_set_0 rfl rfl rfl ?_
  refine ef_iload_n (q := 2) 1 dX5_set_1 rfl rfl rfl ?_
  refine ef_invVI0 (k := 0) (As := [.int x1]) (rest := []) (q := 5) (okX5_rowFault x1) rfl calX5_rowFault ml5_74 (by decide) rfl rfl rfl (Nat.le_of_ble_eq_true rfl) dX5_set_2 rfl (fun z1 => ?_)
  refine ef_istore (lv' := [(5, .int z1.1), (0, .ref (pl 0)), (1, .int x1), (2, .int x2), (3, .long x3)]) (q := 7) dX5_set_5 (by decide) rfl rfl ?_
  refine ef_iload (q := 9) 0 dX5_set_7 rfl rfl ?_
  refine ef_if (pt := 19) (pf := 12) (fun _ _ => ev_if_eq (tgt := 19) dX5_set_9 (by decide)) (fun h2 => ?_) (fun h2 => ?_)
  · refine ef_iload_n (q := 20) 3 dX5_set_19 rfl rfl rfl ?_
    refine ef_iconst (v := (0 : Int32)) (q := 21) dX5_set_20 (by decide) rfl ?_
    refine ef_aload_n (q := 22) 1 dX5_set_21 rfl rfl rfl ?_
    refine ef_getR (t := 57) (q := 25) rfl fl5_38 rfl rfl dX5_set_22 rfl ?_
    refine ef_iload_n (q := 26) 2 dX5_set_25 rfl rfl rfl ?_
    refine ef_guard (fun g3 => ?_)
    refine ef_aaload (t0 := 61 + 2 * x1.toNatClampNeg) (q := 27) rfl (by decide) lyM_t57 g3 dX5_set_26 rfl rfl ?_
    refine ef_getI (x := z1.2.1 (61 + 2 * x1.toNatClampNeg) 1) (q := 30) (lyM_f57_0 _ (ixB_lt g3)) fl5_77 rfl rfl dX5_set_27 rfl ?_
    refine ef_iconst (v := (1 : Int32)) (q := 31) dX5_set_30 (by decide) rfl ?_
    refine ef_isub (q := 32) dX5_set_31 rfl ?_
    refine ef_invPI0 (As := [.int x2, .int (0 : Int32), .int ((z1.2.1 (61 + 2 * x1.toNatClampNeg) 1) - (1 : Int32))]) (rest := []) (q := 35) (okX5_isWithin x2 (0 : Int32) ((z1.2.1 (61 + 2 * x1.toNatClampNeg) 1) - (1 : Int32))) rfl calX5_isWithin ml5_62 (by decide) rfl rfl (Nat.le_of_ble_eq_true rfl) dX5_set_32 rfl (fun z4 => ?_)
    refine ef_if (pt := 38) (pf := 45) (fun _ _ kt kf => ev_if_ne (tgt := 45) dX5_set_35 (by decide) kf kt) (fun h5 => ?_) (fun h5 => ?_)
    · refine ef_aload_n (q := 39) 1 dX5_set_38 rfl rfl rfl ?_
      refine ef_bipush (v := (-2 : Int32)) (q := 41) dX5_set_39 (by decide) rfl ?_
      refine ef_invVI0 (k := 0) (As := [.int (-2 : Int32)]) (rest := []) (q := 44) (okX5_refuse (-2 : Int32)) rfl calX5_refuse ml5_66 (by decide) rfl rfl rfl (Nat.le_of_ble_eq_true rfl) dX5_set_41 rfl (fun z6 => ?_)
      exact ef_iret rfl dX5_set_44
    · refine ef_aload_n (q := 46) 1 dX5_set_45 rfl rfl rfl ?_
      refine ef_getR (t := 57) (q := 49) rfl fl5_38 rfl rfl dX5_set_46 rfl ?_
      refine ef_iload_n (q := 50) 2 dX5_set_49 rfl rfl rfl ?_
      refine ef_guard (fun g7 => ?_)
      refine ef_aaload (t0 := 61 + 2 * x1.toNatClampNeg) (q := 51) rfl (by decide) lyM_t57 g7 dX5_set_50 rfl rfl ?_
      refine ef_iload_n (q := 52) 3 dX5_set_51 rfl rfl rfl ?_
      refine ef_lload_n (q := 53) 4 dX5_set_52 rfl rfl rfl ?_
      refine ef_invVU (k := (61 + 2 * x1.toNatClampNeg)) (nn := 2) (π := (fun k => 61 + 2 * x1.toNatClampNeg + k)) (As := [.int x2, .long x3]) (rest := []) (q := 56) (okX3_put x2 x3) (lm_M_S_s57_0 _ (ixB_lt g7)) rfl calX3_put ml5_81 (by decide) (lyM_f57_0 _ (ixB_lt g7)) rfl rfl (Nat.le_of_ble_eq_true rfl) dX5_set_53 rfl rfl (fun z8 => ?_)
      refine ef_iconst (v := (1 : Int32)) (q := 57) dX5_set_56 (by decide) rfl ?_
      exact ef_iret rfl dX5_set_57
  · refine ef_aload_n (q := 13) 1 dX5_set_12 rfl rfl rfl ?_
    refine ef_iload (q := 15) 0 dX5_set_13 rfl rfl ?_
    refine ef_invVI0 (k := 0) (As := [.int z1.1]) (rest := []) (q := 18) (okX5_refuse z1.1) rfl calX5_refuse ml5_66 (by decide) rfl rfl rfl (Nat.le_of_ble_eq_true rfl) dX5_set_15 rfl (fun z9 => ?_)
    exact ef_iret rfl dX5_set_18
theorem okX5_set (x1 : Int32) (x2 : Int32) (x3 : Int64) : MtF 3 mX5_set lyM rvI (fun _ pl => [.ref (pl 0), .int x1, .int x2, .long x3]) (fX5_set x1 x2 x3) := by
  refine MtF.of (by decide +kernel) rfl (fun _ pl => Nat.le_of_ble_eq_true rfl) (fun G pl h0 s => ?_)
  refine ef_sub (lv := [(0, .ref (pl 0)), (1, .int x1), (2, .int x2), (3, .long x3)]) (lv' := [(0, .ref (pl 0)), (1, .int x1), (2, .int x2), (3, .long x3)]) [0, 1, 2, 3] rfl ?_
  exact okX5_set_0  x1 x2 x3 s
-- X5_copyFault
theorem dX5_copyFault_0 : decode cX5_copyFault 0 = .ok (.aload_n 0, 1) := by decide +kernel
theorem dX5_copyFault_1 : decode cX5_copyFault 1 = .ok (.iload_n 1, 1) := by decide +kernel
theorem dX5_copyFault_2 : decode cX5_copyFault 2 = .ok (.invokevirtual 74, 3) := by decide +kernel
theorem dX5_copyFault_5 : decode cX5_copyFault 5 = .ok (.istore_n 3, 1) := by decide +kernel
theorem dX5_copyFault_6 : decode cX5_copyFault 6 = .ok (.aload_n 0, 1) := by decide +kernel
theorem dX5_copyFault_7 : decode cX5_copyFault 7 = .ok (.iload_n 2, 1) := by decide +kernel
theorem dX5_copyFault_8 : decode cX5_copyFault 8 = .ok (.invokevirtual 74, 3) := by decide +kernel
theorem dX5_copyFault_11 : decode cX5_copyFault 11 = .ok (.istore 4, 2) := by decide +kernel
theorem dX5_copyFault_13 : decode cX5_copyFault 13 = .ok (.iload_n 3, 1) := by decide +kernel
theorem dX5_copyFault_14 : decode cX5_copyFault 14 = .ok (.bipush (-2), 2) := by decide +kernel
theorem dX5_copyFault_16 : decode cX5_copyFault 16 = .ok (.if_icmp .eq 10, 3) := by decide +kernel
theorem dX5_copyFault_19 : decode cX5_copyFault 19 = .ok (.iload 4, 2) := by decide +kernel
theorem dX5_copyFault_21 : decode cX5_copyFault 21 = .ok (.bipush (-2), 2) := by decide +kernel
theorem dX5_copyFault_23 : decode cX5_copyFault 23 = .ok (.if_icmp .ne 6, 3) := by decide +kernel
theorem dX5_copyFault_26 : decode cX5_copyFault 26 = .ok (.bipush (-2), 2) := by decide +kernel
theorem dX5_copyFault_28 : decode cX5_copyFault 28 = .ok (.ireturn, 1) := by decide +kernel
theorem dX5_copyFault_29 : decode cX5_copyFault 29 = .ok (.iload_n 3, 1) := by decide +kernel
theorem dX5_copyFault_30 : decode cX5_copyFault 30 = .ok (.bipush (-3), 2) := by decide +kernel
theorem dX5_copyFault_32 : decode cX5_copyFault 32 = .ok (.if_icmp .eq 10, 3) := by decide +kernel
theorem dX5_copyFault_35 : decode cX5_copyFault 35 = .ok (.iload 4, 2) := by decide +kernel
theorem dX5_copyFault_37 : decode cX5_copyFault 37 = .ok (.bipush (-3), 2) := by decide +kernel
theorem dX5_copyFault_39 : decode cX5_copyFault 39 = .ok (.if_icmp .ne 6, 3) := by decide +kernel
theorem dX5_copyFault_42 : decode cX5_copyFault 42 = .ok (.bipush (-3), 2) := by decide +kernel
theorem dX5_copyFault_44 : decode cX5_copyFault 44 = .ok (.ireturn, 1) := by decide +kernel
theorem dX5_copyFault_45 : decode cX5_copyFault 45 = .ok (.iload_n 3, 1) := by decide +kernel
theorem dX5_copyFault_46 : decode cX5_copyFault 46 = .ok (.bipush (-4), 2) := by decide +kernel
theorem dX5_copyFault_48 : decode cX5_copyFault 48 = .ok (.if_icmp .eq 10, 3) := by decide +kernel
theorem dX5_copyFault_51 : decode cX5_copyFault 51 = .ok (.iload 4, 2) := by decide +kernel
theorem dX5_copyFault_53 : decode cX5_copyFault 53 = .ok (.bipush (-4), 2) := by decide +kernel
theorem dX5_copyFault_55 : decode cX5_copyFault 55 = .ok (.if_icmp .ne 6, 3) := by decide +kernel
theorem dX5_copyFault_58 : decode cX5_copyFault 58 = .ok (.bipush (-4), 2) := by decide +kernel
theorem dX5_copyFault_60 : decode cX5_copyFault 60 = .ok (.ireturn, 1) := by decide +kernel
theorem dX5_copyFault_61 : decode cX5_copyFault 61 = .ok (.aload_n 0, 1) := by decide +kernel
theorem dX5_copyFault_62 : decode cX5_copyFault 62 = .ok (.getfield 38, 3) := by decide +kernel
theorem dX5_copyFault_65 : decode cX5_copyFault 65 = .ok (.iload_n 1, 1) := by decide +kernel
theorem dX5_copyFault_66 : decode cX5_copyFault 66 = .ok (.aaload, 1) := by decide +kernel
theorem dX5_copyFault_67 : decode cX5_copyFault 67 = .ok (.getfield 103, 3) := by decide +kernel
theorem dX5_copyFault_70 : decode cX5_copyFault 70 = .ok (.aload_n 0, 1) := by decide +kernel
theorem dX5_copyFault_71 : decode cX5_copyFault 71 = .ok (.getfield 38, 3) := by decide +kernel
theorem dX5_copyFault_74 : decode cX5_copyFault 74 = .ok (.iload_n 2, 1) := by decide +kernel
theorem dX5_copyFault_75 : decode cX5_copyFault 75 = .ok (.aaload, 1) := by decide +kernel
theorem dX5_copyFault_76 : decode cX5_copyFault 76 = .ok (.getfield 103, 3) := by decide +kernel
theorem dX5_copyFault_79 : decode cX5_copyFault 79 = .ok (.if_icmp .ne 7, 3) := by decide +kernel
theorem dX5_copyFault_82 : decode cX5_copyFault 82 = .ok (.iconst 0, 1) := by decide +kernel
theorem dX5_copyFault_83 : decode cX5_copyFault 83 = .ok (.goto 5, 3) := by decide +kernel
theorem dX5_copyFault_86 : decode cX5_copyFault 86 = .ok (.bipush (-3), 2) := by decide +kernel
theorem dX5_copyFault_88 : decode cX5_copyFault 88 = .ok (.ireturn, 1) := by decide +kernel
def fX5_copyFault_0 (x1 : Int32) (x2 : Int32) (s : SS) : Option (Int32 × SS) := ((fX5_rowFault x1 s).bind fun z1 => ((fX5_rowFault x2 z1.2).bind fun z2 => if z1.1 = (-2 : Int32) then (some ((-2 : Int32), z2.2)) else (if z2.1 = (-2 : Int32) then (some ((-2 : Int32), z2.2)) else (if z1.1 = (-3 : Int32) then (some ((-3 : Int32), z2.2)) else (if z2.1 = (-3 : Int32) then (some ((-3 : Int32), z2.2)) else (if z1.1 = (-4 : Int32) then (some ((-4 : Int32), z2.2)) else (if z2.1 = (-4 : Int32) then (some ((-4 : Int32), z2.2)) else (if ixB x1 8 then (if ixB x2 8 then (if (z2.2.1 (61 + 2 * x1.toNatClampNeg) 0) = (z2.2.1 (61 + 2 * x2.toNatClampNeg) 0) then (some ((0 : Int32), z2.2)) else (some ((-3 : Int32), z2.2))) else none) else none))))))))
def fX5_copyFault (x1 : Int32) (x2 : Int32) (s : SS) : Option (Int32 × SS) := fX5_copyFault_0 x1 x2 s
set_option maxRecDepth 100000 in
set_option maxHeartbeats 4000000 in
theorem okX5_copyFault_0 {G : GG} {pl : Nat → Nat} {h0 : PH} (x1 : Int32) (x2 : Int32) (s : SS) : EvF G 3 mX5_copyFault lyM pl h0 rvI (fX5_copyFault_0 x1 x2 s) 0 [(0, .ref (pl 0)), (1, .int x1), (2, .int x2)] [] s := by
  unfold fX5_copyFault_0
  refine ef_aload_n (q := 1) 0 dX5_copyFault_0 rfl rfl rfl ?_
  refine ef_iload_n (q := 2) 1 dX5_copyFault_1 rfl rfl rfl ?_
  refine ef_invVI0 (k := 0) (As := [.int x1]) (rest := []) (q := 5) (okX5_rowFault x1) rfl calX5_rowFault ml5_74 (by decide) rfl rfl rfl (Nat.le_of_ble_eq_true rfl) dX5_copyFault_2 rfl (fun z1 => ?_)
  refine ef_istore_n (lv' := [(3, .int z1.1), (0, .ref (pl 0)), (1, .int x1), (2, .int x2)]) (q := 6) dX5_copyFault_5 rfl (by decide) rfl rfl ?_
  refine ef_aload_n (q := 7) 1 dX5_copyFault_6 rfl rfl rfl ?_
  refine ef_iload_n (q := 8) 3 dX5_copyFault_7 rfl rfl rfl ?_
  refine ef_invVI0 (k := 0) (As := [.int x2]) (rest := []) (q := 11) (okX5_rowFault x2) rfl calX5_rowFault ml5_74 (by decide) rfl rfl rfl (Nat.le_of_ble_eq_true rfl) dX5_copyFault_8 rfl (fun z2 => ?_)
  refine ef_istore (lv' := [(4, .int z2.1), (3, .int z1.1), (0, .ref (pl 0)), (1, .int x1), (2, .int x2)]) (q := 13) dX5_copyFault_11 (by decide) rfl rfl ?_
  refine ef_iload_n (q := 14) 1 dX5_copyFault_13 rfl rfl rfl ?_
  refine ef_bipush (v := (-2 : Int32)) (q := 16) dX5_copyFault_14 (by decide) rfl ?_
  refine ef_if (pt := 26) (pf := 19) (fun _ _ => ev_icmp_eq (tgt := 26) dX5_copyFault_16 (by decide)) (fun h3 => ?_) (fun h3 => ?_)
  · refine ef_bipush (v := (-2 : Int32)) (q := 28) dX5_copyFault_26 (by decide) rfl ?_
    exact ef_iret rfl dX5_copyFault_28
  · refine ef_iload (q := 21) 0 dX5_copyFault_19 rfl rfl ?_
    refine ef_bipush (v := (-2 : Int32)) (q := 23) dX5_copyFault_21 (by decide) rfl ?_
    refine ef_if (pt := 26) (pf := 29) (fun _ _ kt kf => ev_icmp_ne (tgt := 29) dX5_copyFault_23 (by decide) kf kt) (fun h4 => ?_) (fun h4 => ?_)
    · refine ef_bipush (v := (-2 : Int32)) (q := 28) dX5_copyFault_26 (by decide) rfl ?_
      exact ef_iret rfl dX5_copyFault_28
    · refine ef_iload_n (q := 30) 1 dX5_copyFault_29 rfl rfl rfl ?_
      refine ef_bipush (v := (-3 : Int32)) (q := 32) dX5_copyFault_30 (by decide) rfl ?_
      refine ef_if (pt := 42) (pf := 35) (fun _ _ => ev_icmp_eq (tgt := 42) dX5_copyFault_32 (by decide)) (fun h5 => ?_) (fun h5 => ?_)
      · refine ef_bipush (v := (-3 : Int32)) (q := 44) dX5_copyFault_42 (by decide) rfl ?_
        exact ef_iret rfl dX5_copyFault_44
      · refine ef_iload (q := 37) 0 dX5_copyFault_35 rfl rfl ?_
        refine ef_bipush (v := (-3 : Int32)) (q := 39) dX5_copyFault_37 (by decide) rfl ?_
        refine ef_if (pt := 42) (pf := 45) (fun _ _ kt kf => ev_icmp_ne (tgt := 45) dX5_copyFault_39 (by decide) kf kt) (fun h6 => ?_) (fun h6 => ?_)
        · refine ef_bipush (v := (-3 : Int32)) (q := 44) dX5_copyFault_42 (by decide) rfl ?_
          exact ef_iret rfl dX5_copyFault_44
        · refine ef_iload_n (q := 46) 1 dX5_copyFault_45 rfl rfl rfl ?_
          refine ef_bipush (v := (-4 : Int32)) (q := 48) dX5_copyFault_46 (by decide) rfl ?_
          refine ef_if (pt := 58) (pf := 51) (fun _ _ => ev_icmp_eq (tgt := 58) dX5_copyFault_48 (by decide)) (fun h7 => ?_) (fun h7 => ?_)
          · refine ef_bipush (v := (-4 : Int32)) (q := 60) dX5_copyFault_58 (by decide) rfl ?_
            exact ef_iret rfl dX5_copyFault_60
          · refine ef_iload (q := 53) 0 dX5_copyFault_51 rfl rfl ?_
            refine ef_bipush (v := (-4 : Int32)) (q := 55) dX5_copyFault_53 (by decide) rfl ?_
            refine ef_if (pt := 58) (pf := 61) (fun _ _ kt kf => ev_icmp_ne (tgt := 61) dX5_copyFault_55 (by decide) kf kt) (fun h8 => ?_) (fun h8 => ?_)
            · refine ef_bipush (v := (-4 : Int32)) (q := 60) dX5_copyFault_58 (by decide) rfl ?_
              exact ef_iret rfl dX5_copyFault_60
            · refine ef_aload_n (q := 62) 2 dX5_copyFault_61 rfl rfl rfl ?_
              refine ef_getR (t := 57) (q := 65) rfl fl5_38 rfl rfl dX5_copyFault_62 rfl ?_
              refine ef_iload_n (q := 66) 3 dX5_copyFault_65 rfl rfl rfl ?_
              refine ef_guard (fun g9 => ?_)
              refine ef_aaload (t0 := 61 + 2 * x1.toNatClampNeg) (q := 67) rfl (by decide) lyM_t57 g9 dX5_copyFault_66 rfl rfl ?_
              refine ef_getI (x := z2.2.1 (61 + 2 * x1.toNatClampNeg) 0) (q := 70) (lyM_f57_0 _ (ixB_lt g9)) fl5_103 rfl rfl dX5_copyFault_67 rfl ?_
              refine ef_aload_n (q := 71) 2 dX5_copyFault_70 rfl rfl rfl ?_
              refine ef_getR (t := 57) (q := 74) rfl fl5_38 rfl rfl dX5_copyFault_71 rfl ?_
              refine ef_iload_n (q := 75) 4 dX5_copyFault_74 rfl rfl rfl ?_
              refine ef_guard (fun g10 => ?_)
              refine ef_aaload (t0 := 61 + 2 * x2.toNatClampNeg) (q := 76) rfl (by decide) lyM_t57 g10 dX5_copyFault_75 rfl rfl ?_
              refine ef_getI (x := z2.2.1 (61 + 2 * x2.toNatClampNeg) 0) (q := 79) (lyM_f57_0 _ (ixB_lt g10)) fl5_103 rfl rfl dX5_copyFault_76 rfl ?_
              refine ef_if (pt := 82) (pf := 86) (fun _ _ kt kf => ev_icmp_ne (tgt := 86) dX5_copyFault_79 (by decide) kf kt) (fun h11 => ?_) (fun h11 => ?_)
              · refine ef_iconst (v := (0 : Int32)) (q := 83) dX5_copyFault_82 (by decide) rfl ?_
                refine ef_goto (tgt := 88) dX5_copyFault_83 (by decide) ?_
                exact ef_iret rfl dX5_copyFault_88
              · refine ef_bipush (v := (-3 : Int32)) (q := 88) dX5_copyFault_86 (by decide) rfl ?_
                exact ef_iret rfl dX5_copyFault_88
theorem okX5_copyFault (x1 : Int32) (x2 : Int32) : MtF 3 mX5_copyFault lyM rvI (fun _ pl => [.ref (pl 0), .int x1, .int x2]) (fX5_copyFault x1 x2) := by
  refine MtF.of (by decide +kernel) rfl (fun _ pl => Nat.le_of_ble_eq_true rfl) (fun G pl h0 s => ?_)
  refine ef_sub (lv := [(0, .ref (pl 0)), (1, .int x1), (2, .int x2)]) (lv' := [(0, .ref (pl 0)), (1, .int x1), (2, .int x2)]) [0, 1, 2] rfl ?_
  exact okX5_copyFault_0  x1 x2 s
-- X5_copy
theorem dX5_copy_0 : decode cX5_copy 0 = .ok (.aload_n 0, 1) := by decide +kernel
theorem dX5_copy_1 : decode cX5_copy 1 = .ok (.iload_n 1, 1) := by decide +kernel
theorem dX5_copy_2 : decode cX5_copy 2 = .ok (.iload_n 2, 1) := by decide +kernel
theorem dX5_copy_3 : decode cX5_copy 3 = .ok (.invokevirtual 85, 3) := by decide +kernel
theorem dX5_copy_6 : decode cX5_copy 6 = .ok (.istore 6, 2) := by decide +kernel
theorem dX5_copy_8 : decode cX5_copy 8 = .ok (.iload 6, 2) := by decide +kernel
theorem dX5_copy_10 : decode cX5_copy 10 = .ok (.ifCond .eq 10, 3) := by decide +kernel
theorem dX5_copy_13 : decode cX5_copy 13 = .ok (.aload_n 0, 1) := by decide +kernel
theorem dX5_copy_14 : decode cX5_copy 14 = .ok (.iload 6, 2) := by decide +kernel
theorem dX5_copy_16 : decode cX5_copy 16 = .ok (.invokevirtual 66, 3) := by decide +kernel
theorem dX5_copy_19 : decode cX5_copy 19 = .ok (.ireturn, 1) := by decide +kernel
theorem dX5_copy_20 : decode cX5_copy 20 = .ok (.aload_n 0, 1) := by decide +kernel
theorem dX5_copy_21 : decode cX5_copy 21 = .ok (.getfield 38, 3) := by decide +kernel
theorem dX5_copy_24 : decode cX5_copy 24 = .ok (.iload_n 1, 1) := by decide +kernel
theorem dX5_copy_25 : decode cX5_copy 25 = .ok (.aaload, 1) := by decide +kernel
theorem dX5_copy_26 : decode cX5_copy 26 = .ok (.astore 7, 2) := by decide +kernel
theorem dX5_copy_28 : decode cX5_copy 28 = .ok (.aload_n 0, 1) := by decide +kernel
theorem dX5_copy_29 : decode cX5_copy 29 = .ok (.getfield 38, 3) := by decide +kernel
theorem dX5_copy_32 : decode cX5_copy 32 = .ok (.iload_n 2, 1) := by decide +kernel
theorem dX5_copy_33 : decode cX5_copy 33 = .ok (.aaload, 1) := by decide +kernel
theorem dX5_copy_34 : decode cX5_copy 34 = .ok (.astore 8, 2) := by decide +kernel
theorem dX5_copy_36 : decode cX5_copy 36 = .ok (.iload 5, 2) := by decide +kernel
theorem dX5_copy_38 : decode cX5_copy 38 = .ok (.ifCond .lt 57, 3) := by decide +kernel
theorem dX5_copy_41 : decode cX5_copy 41 = .ok (.iload_n 3, 1) := by decide +kernel
theorem dX5_copy_42 : decode cX5_copy 42 = .ok (.ifCond .lt 53, 3) := by decide +kernel
theorem dX5_copy_45 : decode cX5_copy 45 = .ok (.iload 4, 2) := by decide +kernel
theorem dX5_copy_47 : decode cX5_copy 47 = .ok (.ifCond .lt 48, 3) := by decide +kernel
theorem dX5_copy_50 : decode cX5_copy 50 = .ok (.iload 5, 2) := by decide +kernel
theorem dX5_copy_52 : decode cX5_copy 52 = .ok (.aload 7, 2) := by decide +kernel
theorem dX5_copy_54 : decode cX5_copy 54 = .ok (.getfield 77, 3) := by decide +kernel
theorem dX5_copy_57 : decode cX5_copy 57 = .ok (.if_icmp .gt 38, 3) := by decide +kernel
theorem dX5_copy_60 : decode cX5_copy 60 = .ok (.iload 5, 2) := by decide +kernel
theorem dX5_copy_62 : decode cX5_copy 62 = .ok (.aload 8, 2) := by decide +kernel
theorem dX5_copy_64 : decode cX5_copy 64 = .ok (.getfield 77, 3) := by decide +kernel
theorem dX5_copy_67 : decode cX5_copy 67 = .ok (.if_icmp .gt 28, 3) := by decide +kernel
theorem dX5_copy_70 : decode cX5_copy 70 = .ok (.iload_n 3, 1) := by decide +kernel
theorem dX5_copy_71 : decode cX5_copy 71 = .ok (.aload 7, 2) := by decide +kernel
theorem dX5_copy_73 : decode cX5_copy 73 = .ok (.getfield 77, 3) := by decide +kernel
theorem dX5_copy_76 : decode cX5_copy 76 = .ok (.iload 5, 2) := by decide +kernel
theorem dX5_copy_78 : decode cX5_copy 78 = .ok (.isub, 1) := by decide +kernel
theorem dX5_copy_79 : decode cX5_copy 79 = .ok (.if_icmp .gt 16, 3) := by decide +kernel
theorem dX5_copy_82 : decode cX5_copy 82 = .ok (.iload 4, 2) := by decide +kernel
theorem dX5_copy_84 : decode cX5_copy 84 = .ok (.aload 8, 2) := by decide +kernel
theorem dX5_copy_86 : decode cX5_copy 86 = .ok (.getfield 77, 3) := by decide +kernel
theorem dX5_copy_89 : decode cX5_copy 89 = .ok (.iload 5, 2) := by decide +kernel
theorem dX5_copy_91 : decode cX5_copy 91 = .ok (.isub, 1) := by decide +kernel
theorem dX5_copy_92 : decode cX5_copy 92 = .ok (.if_icmp .le 10, 3) := by decide +kernel
theorem dX5_copy_95 : decode cX5_copy 95 = .ok (.aload_n 0, 1) := by decide +kernel
theorem dX5_copy_96 : decode cX5_copy 96 = .ok (.bipush (-2), 2) := by decide +kernel
theorem dX5_copy_98 : decode cX5_copy 98 = .ok (.invokevirtual 66, 3) := by decide +kernel
theorem dX5_copy_101 : decode cX5_copy 101 = .ok (.ireturn, 1) := by decide +kernel
theorem dX5_copy_102 : decode cX5_copy 102 = .ok (.aload 7, 2) := by decide +kernel
theorem dX5_copy_104 : decode cX5_copy 104 = .ok (.getfield 89, 3) := by decide +kernel
theorem dX5_copy_107 : decode cX5_copy 107 = .ok (.iload_n 3, 1) := by decide +kernel
theorem dX5_copy_108 : decode cX5_copy 108 = .ok (.aload 8, 2) := by decide +kernel
theorem dX5_copy_110 : decode cX5_copy 110 = .ok (.getfield 89, 3) := by decide +kernel
theorem dX5_copy_113 : decode cX5_copy 113 = .ok (.iload 4, 2) := by decide +kernel
theorem dX5_copy_115 : decode cX5_copy 115 = .ok (.iload 5, 2) := by decide +kernel
theorem dX5_copy_117 : decode cX5_copy 117 = .ok (.invokestatic 93, 3) := by decide +kernel
theorem dX5_copy_120 : decode cX5_copy 120 = .ok (.iload 5, 2) := by decide +kernel
theorem dX5_copy_122 : decode cX5_copy 122 = .ok (.ireturn, 1) := by decide +kernel
def fX5_copy_95 (s : SS) : Option (Int32 × SS) := ((fX5_refuse (-2 : Int32) s).bind fun z1 => some (z1.1, z1.2))
def fX5_copy_0 (x1 : Int32) (x2 : Int32) (x3 : Int32) (x4 : Int32) (x5 : Int32) (s : SS) : Option (Int32 × SS) := ((fX5_copyFault x1 x2 s).bind fun z1 => if z1.1 = 0 then (if ixB x1 8 then (if ixB x2 8 then (if x5 < 0 then (fX5_copy_95 z1.2) else (if x3 < 0 then (fX5_copy_95 z1.2) else (if x4 < 0 then (fX5_copy_95 z1.2) else (if (z1.2.1 (61 + 2 * x1.toNatClampNeg) 1) < x5 then (fX5_copy_95 z1.2) else (if (z1.2.1 (61 + 2 * x2.toNatClampNeg) 1) < x5 then (fX5_copy_95 z1.2) else (if ((z1.2.1 (61 + 2 * x1.toNatClampNeg) 1) - x5) < x3 then (fX5_copy_95 z1.2) else (if x4 ≤ ((z1.2.1 (61 + 2 * x2.toNatClampNeg) 1) - x5) then (if acOK x3 x4 x5 40 40 then (some (x5, wrAL z1.2 (61 + 2 * x2.toNatClampNeg + 1)  (va_cpy (z1.2.2 (61 + 2 * x1.toNatClampNeg + 1)) (z1.2.2 (61 + 2 * x2.toNatClampNeg + 1)) x3.toNatClampNeg x4.toNatClampNeg x5.toNatClampNeg))) else none) else (fX5_copy_95 z1.2)))))))) else none) else none) else (((fX5_refuse z1.1 z1.2).bind fun z13 => some (z13.1, z13.2))))
def fX5_copy (x1 : Int32) (x2 : Int32) (x3 : Int32) (x4 : Int32) (x5 : Int32) (s : SS) : Option (Int32 × SS) := fX5_copy_0 x1 x2 x3 x4 x5 s
set_option maxRecDepth 100000 in
set_option maxHeartbeats 4000000 in
theorem okX5_copy_95 {G : GG} {pl : Nat → Nat} {h0 : PH} (s : SS) : EvF G 4 mX5_copy lyM pl h0 rvI (fX5_copy_95 s) 95 [(0, .ref (pl 0))] [] s := by
  unfold fX5_copy_95
  refine ef_aload_n (q := 96) 0 dX5_copy_95 rfl rfl rfl ?_
  refine ef_bipush (v := (-2 : Int32)) (q := 98) dX5_copy_96 (by decide) rfl ?_
  refine ef_invVI0 (k := 0) (As := [.int (-2 : Int32)]) (rest := []) (q := 101) (okX5_refuse (-2 : Int32)) rfl calX5_refuse ml5_66 (by decide) rfl rfl rfl (Nat.le_of_ble_eq_true rfl) dX5_copy_98 rfl (fun z1 => ?_)
  exact ef_iret rfl dX5_copy_101
set_option maxRecDepth 100000 in
set_option maxHeartbeats 4000000 in
theorem okX5_copy_0 {G : GG} {pl : Nat → Nat} {h0 : PH} (x1 : Int32) (x2 : Int32) (x3 : Int32) (x4 : Int32) (x5 : Int32) (s : SS) : EvF G 4 mX5_copy lyM pl h0 rvI (fX5_copy_0 x1 x2 x3 x4 x5 s) 0 [(0, .ref (pl 0)), (1, .int x1), (2, .int x2), (3, .int x3), (4, .int x4), (5, .int x5)] [] s := by
  unfold fX5_copy_0
  refine ef_aload_n (q := 1) 0 dX5_copy_0 rfl rfl rfl ?_
  refine ef_iload_n (q := 2) 1 dX5_copy_1 rfl rfl rfl ?_
  refine ef_iload_n (q := 3) 2 dX5_copy_2 rfl rfl rfl ?_
  refine ef_invVI0 (k := 0) (As := [.int x1, .int x2]) (rest := []) (q := 6) (okX5_copyFault x1 x2) rfl calX5_copyFault ml5_85 (by decide) rfl rfl rfl (Nat.le_of_ble_eq_true rfl) dX5_copy_3 rfl (fun z1 => ?_)
  refine ef_istore (lv' := [(6, .int z1.1), (0, .ref (pl 0)), (1, .int x1), (2, .int x2), (3, .int x3), (4, .int x4), (5, .int x5)]) (q := 8) dX5_copy_6 (by decide) rfl rfl ?_
  refine ef_iload (q := 10) 0 dX5_copy_8 rfl rfl ?_
  refine ef_if (pt := 20) (pf := 13) (fun _ _ => ev_if_eq (tgt := 20) dX5_copy_10 (by decide)) (fun h2 => ?_) (fun h2 => ?_)
  · refine ef_aload_n (q := 21) 1 dX5_copy_20 rfl rfl rfl ?_
    refine ef_getR (t := 57) (q := 24) rfl fl5_38 rfl rfl dX5_copy_21 rfl ?_
    refine ef_iload_n (q := 25) 2 dX5_copy_24 rfl rfl rfl ?_
    refine ef_guard (fun g3 => ?_)
    refine ef_aaload (t0 := 61 + 2 * x1.toNatClampNeg) (q := 26) rfl (by decide) lyM_t57 g3 dX5_copy_25 rfl rfl ?_
    refine ef_astore (lv' := [(7, .ref (pl (61 + 2 * x1.toNatClampNeg))), (6, .int z1.1), (0, .ref (pl 0)), (1, .int x1), (2, .int x2), (3, .int x3), (4, .int x4), (5, .int x5)]) (q := 28) dX5_copy_26 (by decide) rfl rfl ?_
    refine ef_aload_n (q := 29) 2 dX5_copy_28 rfl rfl rfl ?_
    refine ef_getR (t := 57) (q := 32) rfl fl5_38 rfl rfl dX5_copy_29 rfl ?_
    refine ef_iload_n (q := 33) 4 dX5_copy_32 rfl rfl rfl ?_
    refine ef_guard (fun g4 => ?_)
    refine ef_aaload (t0 := 61 + 2 * x2.toNatClampNeg) (q := 34) rfl (by decide) lyM_t57 g4 dX5_copy_33 rfl rfl ?_
    refine ef_astore (lv' := [(8, .ref (pl (61 + 2 * x2.toNatClampNeg))), (7, .ref (pl (61 + 2 * x1.toNatClampNeg))), (6, .int z1.1), (0, .ref (pl 0)), (1, .int x1), (2, .int x2), (3, .int x3), (4, .int x4), (5, .int x5)]) (q := 36) dX5_copy_34 (by decide) rfl rfl ?_
    refine ef_iload (q := 38) 8 dX5_copy_36 rfl rfl ?_
    refine ef_if (pt := 95) (pf := 41) (fun _ _ => ev_if_lt (tgt := 95) dX5_copy_38 (by decide)) (fun h5 => ?_) (fun h5 => ?_)
    · refine ef_sub (lv' := [(0, .ref (pl 0))]) [3] rfl ?_
      exact okX5_copy_95 z1.2
    · refine ef_iload_n (q := 42) 6 dX5_copy_41 rfl rfl rfl ?_
      refine ef_if (pt := 95) (pf := 45) (fun _ _ => ev_if_lt (tgt := 95) dX5_copy_42 (by decide)) (fun h6 => ?_) (fun h6 => ?_)
      · refine ef_sub (lv' := [(0, .ref (pl 0))]) [3] rfl ?_
        exact okX5_copy_95 z1.2
      · refine ef_iload (q := 47) 7 dX5_copy_45 rfl rfl ?_
        refine ef_if (pt := 95) (pf := 50) (fun _ _ => ev_if_lt (tgt := 95) dX5_copy_47 (by decide)) (fun h7 => ?_) (fun h7 => ?_)
        · refine ef_sub (lv' := [(0, .ref (pl 0))]) [3] rfl ?_
          exact okX5_copy_95 z1.2
        · refine ef_iload (q := 52) 8 dX5_copy_50 rfl rfl ?_
          refine ef_aload (q := 54) 1 dX5_copy_52 rfl rfl ?_
          refine ef_getI (x := z1.2.1 (61 + 2 * x1.toNatClampNeg) 1) (q := 57) (lyM_f57_0 _ (ixB_lt g3)) fl5_77 rfl rfl dX5_copy_54 rfl ?_
          refine ef_if (pt := 95) (pf := 60) (fun _ _ => ev_icmp_gt (tgt := 95) dX5_copy_57 (by decide)) (fun h8 => ?_) (fun h8 => ?_)
          · refine ef_sub (lv' := [(0, .ref (pl 0))]) [3] rfl ?_
            exact okX5_copy_95 z1.2
          · refine ef_iload (q := 62) 8 dX5_copy_60 rfl rfl ?_
            refine ef_aload (q := 64) 0 dX5_copy_62 rfl rfl ?_
            refine ef_getI (x := z1.2.1 (61 + 2 * x2.toNatClampNeg) 1) (q := 67) (lyM_f57_0 _ (ixB_lt g4)) fl5_77 rfl rfl dX5_copy_64 rfl ?_
            refine ef_if (pt := 95) (pf := 70) (fun _ _ => ev_icmp_gt (tgt := 95) dX5_copy_67 (by decide)) (fun h9 => ?_) (fun h9 => ?_)
            · refine ef_sub (lv' := [(0, .ref (pl 0))]) [3] rfl ?_
              exact okX5_copy_95 z1.2
            · refine ef_iload_n (q := 71) 6 dX5_copy_70 rfl rfl rfl ?_
              refine ef_aload (q := 73) 1 dX5_copy_71 rfl rfl ?_
              refine ef_getI (x := z1.2.1 (61 + 2 * x1.toNatClampNeg) 1) (q := 76) (lyM_f57_0 _ (ixB_lt g3)) fl5_77 rfl rfl dX5_copy_73 rfl ?_
              refine ef_iload (q := 78) 8 dX5_copy_76 rfl rfl ?_
              refine ef_isub (q := 79) dX5_copy_78 rfl ?_
              refine ef_if (pt := 95) (pf := 82) (fun _ _ => ev_icmp_gt (tgt := 95) dX5_copy_79 (by decide)) (fun h10 => ?_) (fun h10 => ?_)
              · refine ef_sub (lv' := [(0, .ref (pl 0))]) [3] rfl ?_
                exact okX5_copy_95 z1.2
              · refine ef_iload (q := 84) 7 dX5_copy_82 rfl rfl ?_
                refine ef_aload (q := 86) 0 dX5_copy_84 rfl rfl ?_
                refine ef_getI (x := z1.2.1 (61 + 2 * x2.toNatClampNeg) 1) (q := 89) (lyM_f57_0 _ (ixB_lt g4)) fl5_77 rfl rfl dX5_copy_86 rfl ?_
                refine ef_iload (q := 91) 8 dX5_copy_89 rfl rfl ?_
                refine ef_isub (q := 92) dX5_copy_91 rfl ?_
                refine ef_if (pt := 102) (pf := 95) (fun _ _ => ev_icmp_le (tgt := 102) dX5_copy_92 (by decide)) (fun h11 => ?_) (fun h11 => ?_)
                · refine ef_aload (q := 104) 1 dX5_copy_102 rfl rfl ?_
                  refine ef_getR (t := 61 + 2 * x1.toNatClampNeg + 1) (q := 107) (lyM_f57_0 _ (ixB_lt g3)) fl5_89 rfl rfl dX5_copy_104 rfl ?_
                  refine ef_iload_n (q := 108) 6 dX5_copy_107 rfl rfl rfl ?_
                  refine ef_aload (q := 110) 0 dX5_copy_108 rfl rfl ?_
                  refine ef_getR (t := 61 + 2 * x2.toNatClampNeg + 1) (q := 113) (lyM_f57_0 _ (ixB_lt g4)) fl5_89 rfl rfl dX5_copy_110 rfl ?_
                  refine ef_iload (q := 115) 7 dX5_copy_113 rfl rfl ?_
                  refine ef_iload (q := 117) 8 dX5_copy_115 rfl rfl ?_
                  refine ef_guard (fun g12 => ?_)
                  refine ef_acopyL (k0 := (61 + 2 * x1.toNatClampNeg + 1)) (k1 := (61 + 2 * x2.toNatClampNeg + 1)) (q := 120) (lyM_f57_1 _ (ixB_lt g3)) (lyM_f57_1 _ (ixB_lt g4)) ml5_93 g12 (by decide) (Nat.le_of_ble_eq_true rfl) dX5_copy_117 rfl rfl ?_
                  refine ef_iload (q := 122) 8 dX5_copy_120 rfl rfl ?_
                  exact ef_iret rfl dX5_copy_122
                · refine ef_sub (lv' := [(0, .ref (pl 0))]) [3] rfl ?_
                  exact okX5_copy_95 z1.2
  · refine ef_aload_n (q := 14) 1 dX5_copy_13 rfl rfl rfl ?_
    refine ef_iload (q := 16) 0 dX5_copy_14 rfl rfl ?_
    refine ef_invVI0 (k := 0) (As := [.int z1.1]) (rest := []) (q := 19) (okX5_refuse z1.1) rfl calX5_refuse ml5_66 (by decide) rfl rfl rfl (Nat.le_of_ble_eq_true rfl) dX5_copy_16 rfl (fun z13 => ?_)
    exact ef_iret rfl dX5_copy_19
theorem okX5_copy (x1 : Int32) (x2 : Int32) (x3 : Int32) (x4 : Int32) (x5 : Int32) : MtF 4 mX5_copy lyM rvI (fun _ pl => [.ref (pl 0), .int x1, .int x2, .int x3, .int x4, .int x5]) (fX5_copy x1 x2 x3 x4 x5) := by
  refine MtF.of (by decide +kernel) rfl (fun _ pl => Nat.le_of_ble_eq_true rfl) (fun G pl h0 s => ?_)
  refine ef_sub (lv := [(0, .ref (pl 0)), (1, .int x1), (2, .int x2), (3, .int x3), (4, .int x4), (5, .int x5)]) (lv' := [(0, .ref (pl 0)), (1, .int x1), (2, .int x2), (3, .int x3), (4, .int x4), (5, .int x5)]) [0, 1, 2, 3, 4, 5] rfl ?_
  exact okX5_copy_0  x1 x2 x3 x4 x5 s
-- X5_element
theorem dX5_element_0 : decode cX5_element 0 = .ok (.iload_n 1, 1) := by decide +kernel
theorem dX5_element_1 : decode cX5_element 1 = .ok (.invokestatic 58, 3) := by decide +kernel
theorem dX5_element_4 : decode cX5_element 4 = .ok (.ifCond .eq 34, 3) := by decide +kernel
theorem dX5_element_7 : decode cX5_element 7 = .ok (.aload_n 0, 1) := by decide +kernel
theorem dX5_element_8 : decode cX5_element 8 = .ok (.getfield 38, 3) := by decide +kernel
theorem dX5_element_11 : decode cX5_element 11 = .ok (.iload_n 1, 1) := by decide +kernel
theorem dX5_element_12 : decode cX5_element 12 = .ok (.aaload, 1) := by decide +kernel
theorem dX5_element_13 : decode cX5_element 13 = .ok (.invokevirtual 99, 3) := by decide +kernel
theorem dX5_element_16 : decode cX5_element 16 = .ok (.ifCond .eq 22, 3) := by decide +kernel
theorem dX5_element_19 : decode cX5_element 19 = .ok (.iload_n 2, 1) := by decide +kernel
theorem dX5_element_20 : decode cX5_element 20 = .ok (.iconst 0, 1) := by decide +kernel
theorem dX5_element_21 : decode cX5_element 21 = .ok (.aload_n 0, 1) := by decide +kernel
theorem dX5_element_22 : decode cX5_element 22 = .ok (.getfield 38, 3) := by decide +kernel
theorem dX5_element_25 : decode cX5_element 25 = .ok (.iload_n 1, 1) := by decide +kernel
theorem dX5_element_26 : decode cX5_element 26 = .ok (.aaload, 1) := by decide +kernel
theorem dX5_element_27 : decode cX5_element 27 = .ok (.getfield 77, 3) := by decide +kernel
theorem dX5_element_30 : decode cX5_element 30 = .ok (.iconst 1, 1) := by decide +kernel
theorem dX5_element_31 : decode cX5_element 31 = .ok (.isub, 1) := by decide +kernel
theorem dX5_element_32 : decode cX5_element 32 = .ok (.invokestatic 62, 3) := by decide +kernel
theorem dX5_element_35 : decode cX5_element 35 = .ok (.ifCond .ne 5, 3) := by decide +kernel
theorem dX5_element_38 : decode cX5_element 38 = .ok (.lconst 0, 1) := by decide +kernel
theorem dX5_element_39 : decode cX5_element 39 = .ok (.lreturn, 1) := by decide +kernel
theorem dX5_element_40 : decode cX5_element 40 = .ok (.aload_n 0, 1) := by decide +kernel
theorem dX5_element_41 : decode cX5_element 41 = .ok (.getfield 38, 3) := by decide +kernel
theorem dX5_element_44 : decode cX5_element 44 = .ok (.iload_n 1, 1) := by decide +kernel
theorem dX5_element_45 : decode cX5_element 45 = .ok (.aaload, 1) := by decide +kernel
theorem dX5_element_46 : decode cX5_element 46 = .ok (.getfield 89, 3) := by decide +kernel
theorem dX5_element_49 : decode cX5_element 49 = .ok (.iload_n 2, 1) := by decide +kernel
theorem dX5_element_50 : decode cX5_element 50 = .ok (.laload, 1) := by decide +kernel
theorem dX5_element_51 : decode cX5_element 51 = .ok (.lreturn, 1) := by decide +kernel
def fX5_element_0 (x1 : Int32) (x2 : Int32) (s : SS) : Option (Int64 × SS) := ((fX5_isShelf x1 s).bind fun z1 => if z1.1 = 0 then (some ((0 : Int64), s)) else (if ixB x1 8 then (((fX3_holdsRow (selS (fun k => 61 + 2 * x1.toNatClampNeg + k) s)).bind fun z4 => if z4.1 = 0 then (some ((0 : Int64), mrgS (fun k => 61 + 2 * x1.toNatClampNeg + k) 2 s z4.2)) else (if ixB x1 8 then (((fX5_isWithin x2 (0 : Int32) (((mrgS (fun k => 61 + 2 * x1.toNatClampNeg + k) 2 s z4.2).1 (61 + 2 * x1.toNatClampNeg) 1) - (1 : Int32)) (mrgS (fun k => 61 + 2 * x1.toNatClampNeg + k) 2 s z4.2)).bind fun z7 => if z7.1 = 0 then (some ((0 : Int64), mrgS (fun k => 61 + 2 * x1.toNatClampNeg + k) 2 s z4.2)) else (if ixB x1 8 then (if ixB x2 40 then (some ((mrgS (fun k => 61 + 2 * x1.toNatClampNeg + k) 2 s z4.2).2 (61 + 2 * x1.toNatClampNeg + 1) x2.toNatClampNeg, mrgS (fun k => 61 + 2 * x1.toNatClampNeg + k) 2 s z4.2)) else none) else none))) else none))) else none))
def fX5_element (x1 : Int32) (x2 : Int32) (s : SS) : Option (Int64 × SS) := fX5_element_0 x1 x2 s
set_option maxRecDepth 100000 in
set_option maxHeartbeats 4000000 in
theorem okX5_element_0 {G : GG} {pl : Nat → Nat} {h0 : PH} (x1 : Int32) (x2 : Int32) (s : SS) : EvF G 2 mX5_element lyM pl h0 rvL (fX5_element_0 x1 x2 s) 0 [(0, .ref (pl 0)), (1, .int x1), (2, .int x2)] [] s := by
  unfold fX5_element_0
  refine ef_iload_n (q := 1) 1 dX5_element_0 rfl rfl rfl ?_
  refine ef_invPI0 (As := [.int x1]) (rest := []) (q := 4) (okX5_isShelf x1) rfl calX5_isShelf ml5_58 (by decide) rfl rfl (Nat.le_of_ble_eq_true rfl) dX5_element_1 rfl (fun z1 => ?_)
  refine ef_if (pt := 38) (pf := 7) (fun _ _ => ev_if_eq (tgt := 38) dX5_element_4 (by decide)) (fun h2 => ?_) (fun h2 => ?_)
  · refine ef_lconst (v := (0 : Int64)) (q := 39) dX5_element_38 (by decide) rfl ?_
    exact ef_lret rfl dX5_element_39
  · refine ef_aload_n (q := 8) 0 dX5_element_7 rfl rfl rfl ?_
    refine ef_getR (t := 57) (q := 11) rfl fl5_38 rfl rfl dX5_element_8 rfl ?_
    refine ef_iload_n (q := 12) 1 dX5_element_11 rfl rfl rfl ?_
    refine ef_guard (fun g3 => ?_)
    refine ef_aaload (t0 := 61 + 2 * x1.toNatClampNeg) (q := 13) rfl (by decide) lyM_t57 g3 dX5_element_12 rfl rfl ?_
    refine ef_invVI (k := (61 + 2 * x1.toNatClampNeg)) (nn := 2) (π := (fun k => 61 + 2 * x1.toNatClampNeg + k)) (As := []) (rest := []) (q := 16) (okX3_holdsRow) (lm_M_S_s57_0 _ (ixB_lt g3)) rfl calX3_holdsRow ml5_99 (by decide) (lyM_f57_0 _ (ixB_lt g3)) rfl rfl (Nat.le_of_ble_eq_true rfl) dX5_element_13 rfl rfl (fun z4 => ?_)
    refine ef_if (pt := 38) (pf := 19) (fun _ _ => ev_if_eq (tgt := 38) dX5_element_16 (by decide)) (fun h5 => ?_) (fun h5 => ?_)
    · refine ef_lconst (v := (0 : Int64)) (q := 39) dX5_element_38 (by decide) rfl ?_
      exact ef_lret rfl dX5_element_39
    · refine ef_iload_n (q := 20) 2 dX5_element_19 rfl rfl rfl ?_
      refine ef_iconst (v := (0 : Int32)) (q := 21) dX5_element_20 (by decide) rfl ?_
      refine ef_aload_n (q := 22) 0 dX5_element_21 rfl rfl rfl ?_
      refine ef_getR (t := 57) (q := 25) rfl fl5_38 rfl rfl dX5_element_22 rfl ?_
      refine ef_iload_n (q := 26) 1 dX5_element_25 rfl rfl rfl ?_
      refine ef_guard (fun g6 => ?_)
      refine ef_aaload (t0 := 61 + 2 * x1.toNatClampNeg) (q := 27) rfl (by decide) lyM_t57 g6 dX5_element_26 rfl rfl ?_
      refine ef_getI (x := (mrgS (fun k => 61 + 2 * x1.toNatClampNeg + k) 2 s z4.2).1 (61 + 2 * x1.toNatClampNeg) 1) (q := 30) (lyM_f57_0 _ (ixB_lt g6)) fl5_77 rfl rfl dX5_element_27 rfl ?_
      refine ef_iconst (v := (1 : Int32)) (q := 31) dX5_element_30 (by decide) rfl ?_
      refine ef_isub (q := 32) dX5_element_31 rfl ?_
      refine ef_invPI0 (As := [.int x2, .int (0 : Int32), .int (((mrgS (fun k => 61 + 2 * x1.toNatClampNeg + k) 2 s z4.2).1 (61 + 2 * x1.toNatClampNeg) 1) - (1 : Int32))]) (rest := []) (q := 35) (okX5_isWithin x2 (0 : Int32) (((mrgS (fun k => 61 + 2 * x1.toNatClampNeg + k) 2 s z4.2).1 (61 + 2 * x1.toNatClampNeg) 1) - (1 : Int32))) rfl calX5_isWithin ml5_62 (by decide) rfl rfl (Nat.le_of_ble_eq_true rfl) dX5_element_32 rfl (fun z7 => ?_)
      refine ef_if (pt := 38) (pf := 40) (fun _ _ kt kf => ev_if_ne (tgt := 40) dX5_element_35 (by decide) kf kt) (fun h8 => ?_) (fun h8 => ?_)
      · refine ef_lconst (v := (0 : Int64)) (q := 39) dX5_element_38 (by decide) rfl ?_
        exact ef_lret rfl dX5_element_39
      · refine ef_aload_n (q := 41) 0 dX5_element_40 rfl rfl rfl ?_
        refine ef_getR (t := 57) (q := 44) rfl fl5_38 rfl rfl dX5_element_41 rfl ?_
        refine ef_iload_n (q := 45) 1 dX5_element_44 rfl rfl rfl ?_
        refine ef_guard (fun g9 => ?_)
        refine ef_aaload (t0 := 61 + 2 * x1.toNatClampNeg) (q := 46) rfl (by decide) lyM_t57 g9 dX5_element_45 rfl rfl ?_
        refine ef_getR (t := 61 + 2 * x1.toNatClampNeg + 1) (q := 49) (lyM_f57_0 _ (ixB_lt g9)) fl5_89 rfl rfl dX5_element_46 rfl ?_
        refine ef_iload_n (q := 50) 2 dX5_element_49 rfl rfl rfl ?_
        refine ef_guard (fun g10 => ?_)
        refine ef_laload (x := (mrgS (fun k => 61 + 2 * x1.toNatClampNeg + k) 2 s z4.2).2 (61 + 2 * x1.toNatClampNeg + 1) x2.toNatClampNeg) (q := 51) (lyM_f57_1 _ (ixB_lt g9)) g10 dX5_element_50 rfl rfl ?_
        exact ef_lret rfl dX5_element_51
theorem okX5_element (x1 : Int32) (x2 : Int32) : MtF 2 mX5_element lyM rvL (fun _ pl => [.ref (pl 0), .int x1, .int x2]) (fX5_element x1 x2) := by
  refine MtF.of (by decide +kernel) rfl (fun _ pl => Nat.le_of_ble_eq_true rfl) (fun G pl h0 s => ?_)
  refine ef_sub (lv := [(0, .ref (pl 0)), (1, .int x1), (2, .int x2)]) (lv' := [(0, .ref (pl 0)), (1, .int x1), (2, .int x2)]) [0, 1, 2] rfl ?_
  exact okX5_element_0  x1 x2 s
-- X5_holds
theorem dX5_holds_0 : decode cX5_holds 0 = .ok (.iload_n 1, 1) := by decide +kernel
theorem dX5_holds_1 : decode cX5_holds 1 = .ok (.invokestatic 58, 3) := by decide +kernel
theorem dX5_holds_4 : decode cX5_holds 4 = .ok (.ifCond .eq 15, 3) := by decide +kernel
theorem dX5_holds_7 : decode cX5_holds 7 = .ok (.aload_n 0, 1) := by decide +kernel
theorem dX5_holds_8 : decode cX5_holds 8 = .ok (.getfield 38, 3) := by decide +kernel
theorem dX5_holds_11 : decode cX5_holds 11 = .ok (.iload_n 1, 1) := by decide +kernel
theorem dX5_holds_12 : decode cX5_holds 12 = .ok (.aaload, 1) := by decide +kernel
theorem dX5_holds_13 : decode cX5_holds 13 = .ok (.getfield 103, 3) := by decide +kernel
theorem dX5_holds_16 : decode cX5_holds 16 = .ok (.goto 4, 3) := by decide +kernel
theorem dX5_holds_19 : decode cX5_holds 19 = .ok (.iconst (-1), 1) := by decide +kernel
theorem dX5_holds_20 : decode cX5_holds 20 = .ok (.ireturn, 1) := by decide +kernel
def fX5_holds_0 (x1 : Int32) (s : SS) : Option (Int32 × SS) := ((fX5_isShelf x1 s).bind fun z1 => if z1.1 = 0 then (some ((-1 : Int32), s)) else (if ixB x1 8 then (some (s.1 (61 + 2 * x1.toNatClampNeg) 0, s)) else none))
def fX5_holds (x1 : Int32) (s : SS) : Option (Int32 × SS) := fX5_holds_0 x1 s
set_option maxRecDepth 100000 in
set_option maxHeartbeats 4000000 in
theorem okX5_holds_0 {G : GG} {pl : Nat → Nat} {h0 : PH} (x1 : Int32) (s : SS) : EvF G 2 mX5_holds lyM pl h0 rvI (fX5_holds_0 x1 s) 0 [(0, .ref (pl 0)), (1, .int x1)] [] s := by
  unfold fX5_holds_0
  refine ef_iload_n (q := 1) 1 dX5_holds_0 rfl rfl rfl ?_
  refine ef_invPI0 (As := [.int x1]) (rest := []) (q := 4) (okX5_isShelf x1) rfl calX5_isShelf ml5_58 (by decide) rfl rfl (Nat.le_of_ble_eq_true rfl) dX5_holds_1 rfl (fun z1 => ?_)
  refine ef_if (pt := 19) (pf := 7) (fun _ _ => ev_if_eq (tgt := 19) dX5_holds_4 (by decide)) (fun h2 => ?_) (fun h2 => ?_)
  · refine ef_iconst (v := (-1 : Int32)) (q := 20) dX5_holds_19 (by decide) rfl ?_
    exact ef_iret rfl dX5_holds_20
  · refine ef_aload_n (q := 8) 0 dX5_holds_7 rfl rfl rfl ?_
    refine ef_getR (t := 57) (q := 11) rfl fl5_38 rfl rfl dX5_holds_8 rfl ?_
    refine ef_iload_n (q := 12) 1 dX5_holds_11 rfl rfl rfl ?_
    refine ef_guard (fun g3 => ?_)
    refine ef_aaload (t0 := 61 + 2 * x1.toNatClampNeg) (q := 13) rfl (by decide) lyM_t57 g3 dX5_holds_12 rfl rfl ?_
    refine ef_getI (x := s.1 (61 + 2 * x1.toNatClampNeg) 0) (q := 16) (lyM_f57_0 _ (ixB_lt g3)) fl5_103 rfl rfl dX5_holds_13 rfl ?_
    refine ef_goto (tgt := 20) dX5_holds_16 (by decide) ?_
    exact ef_iret rfl dX5_holds_20
theorem okX5_holds (x1 : Int32) : MtF 2 mX5_holds lyM rvI (fun _ pl => [.ref (pl 0), .int x1]) (fX5_holds x1) := by
  refine MtF.of (by decide +kernel) rfl (fun _ pl => Nat.le_of_ble_eq_true rfl) (fun G pl h0 s => ?_)
  refine ef_sub (lv := [(0, .ref (pl 0)), (1, .int x1)]) (lv' := [(0, .ref (pl 0)), (1, .int x1)]) [0, 1] rfl ?_
  exact okX5_holds_0  x1 s
-- X5_isLicker
theorem dX5_isLicker_0 : decode cX5_isLicker 0 = .ok (.iload_n 1, 1) := by decide +kernel
theorem dX5_isLicker_1 : decode cX5_isLicker 1 = .ok (.iconst 0, 1) := by decide +kernel
theorem dX5_isLicker_2 : decode cX5_isLicker 2 = .ok (.aload_n 0, 1) := by decide +kernel
theorem dX5_isLicker_3 : decode cX5_isLicker 3 = .ok (.getfield 10, 3) := by decide +kernel
theorem dX5_isLicker_6 : decode cX5_isLicker 6 = .ok (.getfield 173, 3) := by decide +kernel
theorem dX5_isLicker_9 : decode cX5_isLicker 9 = .ok (.iconst 1, 1) := by decide +kernel
theorem dX5_isLicker_10 : decode cX5_isLicker 10 = .ok (.isub, 1) := by decide +kernel
theorem dX5_isLicker_11 : decode cX5_isLicker 11 = .ok (.invokestatic 62, 3) := by decide +kernel
theorem dX5_isLicker_14 : decode cX5_isLicker 14 = .ok (.ireturn, 1) := by decide +kernel
def fX5_isLicker_0 (x1 : Int32) (s : SS) : Option (Int32 × SS) := ((fX5_isWithin x1 (0 : Int32) ((s.1 1 3) - (1 : Int32)) s).bind fun z1 => some (nbZ z1.1, s))
def fX5_isLicker (x1 : Int32) (s : SS) : Option (Int32 × SS) := fX5_isLicker_0 x1 s
set_option maxRecDepth 100000 in
set_option maxHeartbeats 4000000 in
theorem okX5_isLicker_0 {G : GG} {pl : Nat → Nat} {h0 : PH} (x1 : Int32) (s : SS) : EvF G 1 mX5_isLicker lyM pl h0 rvI (fX5_isLicker_0 x1 s) 0 [(0, .ref (pl 0)), (1, .int x1)] [] s := by
  unfold fX5_isLicker_0
  refine ef_iload_n (q := 1) 1 dX5_isLicker_0 rfl rfl rfl ?_
  refine ef_iconst (v := (0 : Int32)) (q := 2) dX5_isLicker_1 (by decide) rfl ?_
  refine ef_aload_n (q := 3) 0 dX5_isLicker_2 rfl rfl rfl ?_
  refine ef_getR (t := 1) (q := 6) rfl fl5_10 rfl rfl dX5_isLicker_3 rfl ?_
  refine ef_getI (x := s.1 1 3) (q := 9) rfl fl5_173 rfl rfl dX5_isLicker_6 rfl ?_
  refine ef_iconst (v := (1 : Int32)) (q := 10) dX5_isLicker_9 (by decide) rfl ?_
  refine ef_isub (q := 11) dX5_isLicker_10 rfl ?_
  refine ef_invPI0 (As := [.int x1, .int (0 : Int32), .int ((s.1 1 3) - (1 : Int32))]) (rest := []) (q := 14) (okX5_isWithin x1 (0 : Int32) ((s.1 1 3) - (1 : Int32))) rfl calX5_isWithin ml5_62 (by decide) rfl rfl (Nat.le_of_ble_eq_true rfl) dX5_isLicker_11 rfl (fun z1 => ?_)
  exact ef_zret rfl dX5_isLicker_14
theorem okX5_isLicker (x1 : Int32) : MtF 1 mX5_isLicker lyM rvI (fun _ pl => [.ref (pl 0), .int x1]) (fX5_isLicker x1) := by
  refine MtF.of (by decide +kernel) rfl (fun _ pl => Nat.le_of_ble_eq_true rfl) (fun G pl h0 s => ?_)
  refine ef_sub (lv := [(0, .ref (pl 0)), (1, .int x1)]) (lv' := [(0, .ref (pl 0)), (1, .int x1)]) [0, 1] rfl ?_
  exact okX5_isLicker_0  x1 s
-- X5_show
theorem dX5_show_0 : decode cX5_show 0 = .ok (.iload_n 1, 1) := by decide +kernel
theorem dX5_show_1 : decode cX5_show 1 = .ok (.invokestatic 58, 3) := by decide +kernel
theorem dX5_show_4 : decode cX5_show 4 = .ok (.ifCond .eq 16, 3) := by decide +kernel
theorem dX5_show_7 : decode cX5_show 7 = .ok (.iload_n 2, 1) := by decide +kernel
theorem dX5_show_8 : decode cX5_show 8 = .ok (.iconst (-1), 1) := by decide +kernel
theorem dX5_show_9 : decode cX5_show 9 = .ok (.if_icmp .eq 18, 3) := by decide +kernel
theorem dX5_show_12 : decode cX5_show 12 = .ok (.aload_n 0, 1) := by decide +kernel
theorem dX5_show_13 : decode cX5_show 13 = .ok (.iload_n 2, 1) := by decide +kernel
theorem dX5_show_14 : decode cX5_show 14 = .ok (.invokevirtual 106, 3) := by decide +kernel
theorem dX5_show_17 : decode cX5_show 17 = .ok (.ifCond .ne 10, 3) := by decide +kernel
theorem dX5_show_20 : decode cX5_show 20 = .ok (.aload_n 0, 1) := by decide +kernel
theorem dX5_show_21 : decode cX5_show 21 = .ok (.bipush (-2), 2) := by decide +kernel
theorem dX5_show_23 : decode cX5_show 23 = .ok (.invokevirtual 66, 3) := by decide +kernel
theorem dX5_show_26 : decode cX5_show 26 = .ok (.ireturn, 1) := by decide +kernel
theorem dX5_show_27 : decode cX5_show 27 = .ok (.iload_n 2, 1) := by decide +kernel
theorem dX5_show_28 : decode cX5_show 28 = .ok (.iconst (-1), 1) := by decide +kernel
theorem dX5_show_29 : decode cX5_show 29 = .ok (.if_icmp .ne 15, 3) := by decide +kernel
theorem dX5_show_32 : decode cX5_show 32 = .ok (.aload_n 0, 1) := by decide +kernel
theorem dX5_show_33 : decode cX5_show 33 = .ok (.getfield 38, 3) := by decide +kernel
theorem dX5_show_36 : decode cX5_show 36 = .ok (.iload_n 1, 1) := by decide +kernel
theorem dX5_show_37 : decode cX5_show 37 = .ok (.aaload, 1) := by decide +kernel
theorem dX5_show_38 : decode cX5_show 38 = .ok (.invokevirtual 109, 3) := by decide +kernel
theorem dX5_show_41 : decode cX5_show 41 = .ok (.goto 13, 3) := by decide +kernel
theorem dX5_show_44 : decode cX5_show 44 = .ok (.aload_n 0, 1) := by decide +kernel
theorem dX5_show_45 : decode cX5_show 45 = .ok (.getfield 38, 3) := by decide +kernel
theorem dX5_show_48 : decode cX5_show 48 = .ok (.iload_n 1, 1) := by decide +kernel
theorem dX5_show_49 : decode cX5_show 49 = .ok (.aaload, 1) := by decide +kernel
theorem dX5_show_50 : decode cX5_show 50 = .ok (.iload_n 2, 1) := by decide +kernel
theorem dX5_show_51 : decode cX5_show 51 = .ok (.invokevirtual 112, 3) := by decide +kernel
theorem dX5_show_54 : decode cX5_show 54 = .ok (.iconst 1, 1) := by decide +kernel
theorem dX5_show_55 : decode cX5_show 55 = .ok (.ireturn, 1) := by decide +kernel
def fX5_show_20 (s : SS) : Option (Int32 × SS) := ((fX5_refuse (-2 : Int32) s).bind fun z1 => some (z1.1, z1.2))
def fX5_show_27 (x1 : Int32) (x2 : Int32) (s : SS) : Option (Int32 × SS) := if x2 = (-1 : Int32) then (if ixB x1 8 then (((fX3_clearAway (selS (fun k => 61 + 2 * x1.toNatClampNeg + k) s)).bind fun z3 => some ((1 : Int32), mrgS (fun k => 61 + 2 * x1.toNatClampNeg + k) 2 s z3.2))) else none) else (if ixB x1 8 then (((fX3_holdLicker x2 (selS (fun k => 61 + 2 * x1.toNatClampNeg + k) s)).bind fun z5 => some ((1 : Int32), mrgS (fun k => 61 + 2 * x1.toNatClampNeg + k) 2 s z5.2))) else none)
def fX5_show_0 (x1 : Int32) (x2 : Int32) (s : SS) : Option (Int32 × SS) := ((fX5_isShelf x1 s).bind fun z1 => if z1.1 = 0 then (fX5_show_20 s) else (if x2 = (-1 : Int32) then (fX5_show_27 x1 x2 s) else (((fX5_isLicker x2 s).bind fun z4 => if z4.1 = 0 then (fX5_show_20 z4.2) else (fX5_show_27 x1 x2 z4.2)))))
def fX5_show (x1 : Int32) (x2 : Int32) (s : SS) : Option (Int32 × SS) := fX5_show_0 x1 x2 s
set_option maxRecDepth 100000 in
set_option maxHeartbeats 4000000 in
theorem okX5_show_20 {G : GG} {pl : Nat → Nat} {h0 : PH} (s : SS) : EvF G 2 mX5_show lyM pl h0 rvI (fX5_show_20 s) 20 [(0, .ref (pl 0))] [] s := by
  unfold fX5_show_20
  refine ef_aload_n (q := 21) 0 dX5_show_20 rfl rfl rfl ?_
  refine ef_bipush (v := (-2 : Int32)) (q := 23) dX5_show_21 (by decide) rfl ?_
  refine ef_invVI0 (k := 0) (As := [.int (-2 : Int32)]) (rest := []) (q := 26) (okX5_refuse (-2 : Int32)) rfl calX5_refuse ml5_66 (by decide) rfl rfl rfl (Nat.le_of_ble_eq_true rfl) dX5_show_23 rfl (fun z1 => ?_)
  exact ef_iret rfl dX5_show_26
set_option maxRecDepth 100000 in
set_option maxHeartbeats 4000000 in
theorem okX5_show_27 {G : GG} {pl : Nat → Nat} {h0 : PH} (x1 : Int32) (x2 : Int32) (s : SS) : EvF G 2 mX5_show lyM pl h0 rvI (fX5_show_27 x1 x2 s) 27 [(0, .ref (pl 0)), (1, .int x1), (2, .int x2)] [] s := by
  unfold fX5_show_27
  refine ef_iload_n (q := 28) 2 dX5_show_27 rfl rfl rfl ?_
  refine ef_iconst (v := (-1 : Int32)) (q := 29) dX5_show_28 (by decide) rfl ?_
  refine ef_if (pt := 32) (pf := 44) (fun _ _ kt kf => ev_icmp_ne (tgt := 44) dX5_show_29 (by decide) kf kt) (fun h1 => ?_) (fun h1 => ?_)
  · refine ef_aload_n (q := 33) 0 dX5_show_32 rfl rfl rfl ?_
    refine ef_getR (t := 57) (q := 36) rfl fl5_38 rfl rfl dX5_show_33 rfl ?_
    refine ef_iload_n (q := 37) 1 dX5_show_36 rfl rfl rfl ?_
    refine ef_guard (fun g2 => ?_)
    refine ef_aaload (t0 := 61 + 2 * x1.toNatClampNeg) (q := 38) rfl (by decide) lyM_t57 g2 dX5_show_37 rfl rfl ?_
    refine ef_invVU (k := (61 + 2 * x1.toNatClampNeg)) (nn := 2) (π := (fun k => 61 + 2 * x1.toNatClampNeg + k)) (As := []) (rest := []) (q := 41) (okX3_clearAway) (lm_M_S_s57_0 _ (ixB_lt g2)) rfl calX3_clearAway ml5_109 (by decide) (lyM_f57_0 _ (ixB_lt g2)) rfl rfl (Nat.le_of_ble_eq_true rfl) dX5_show_38 rfl rfl (fun z3 => ?_)
    refine ef_goto (tgt := 54) dX5_show_41 (by decide) ?_
    refine ef_iconst (v := (1 : Int32)) (q := 55) dX5_show_54 (by decide) rfl ?_
    exact ef_iret rfl dX5_show_55
  · refine ef_aload_n (q := 45) 0 dX5_show_44 rfl rfl rfl ?_
    refine ef_getR (t := 57) (q := 48) rfl fl5_38 rfl rfl dX5_show_45 rfl ?_
    refine ef_iload_n (q := 49) 1 dX5_show_48 rfl rfl rfl ?_
    refine ef_guard (fun g4 => ?_)
    refine ef_aaload (t0 := 61 + 2 * x1.toNatClampNeg) (q := 50) rfl (by decide) lyM_t57 g4 dX5_show_49 rfl rfl ?_
    refine ef_iload_n (q := 51) 2 dX5_show_50 rfl rfl rfl ?_
    refine ef_invVU (k := (61 + 2 * x1.toNatClampNeg)) (nn := 2) (π := (fun k => 61 + 2 * x1.toNatClampNeg + k)) (As := [.int x2]) (rest := []) (q := 54) (okX3_holdLicker x2) (lm_M_S_s57_0 _ (ixB_lt g4)) rfl calX3_holdLicker ml5_112 (by decide) (lyM_f57_0 _ (ixB_lt g4)) rfl rfl (Nat.le_of_ble_eq_true rfl) dX5_show_51 rfl rfl (fun z5 => ?_)
    refine ef_iconst (v := (1 : Int32)) (q := 55) dX5_show_54 (by decide) rfl ?_
    exact ef_iret rfl dX5_show_55
set_option maxRecDepth 100000 in
set_option maxHeartbeats 4000000 in
theorem okX5_show_0 {G : GG} {pl : Nat → Nat} {h0 : PH} (x1 : Int32) (x2 : Int32) (s : SS) : EvF G 2 mX5_show lyM pl h0 rvI (fX5_show_0 x1 x2 s) 0 [(0, .ref (pl 0)), (1, .int x1), (2, .int x2)] [] s := by
  unfold fX5_show_0
  refine ef_iload_n (q := 1) 1 dX5_show_0 rfl rfl rfl ?_
  refine ef_invPI0 (As := [.int x1]) (rest := []) (q := 4) (okX5_isShelf x1) rfl calX5_isShelf ml5_58 (by decide) rfl rfl (Nat.le_of_ble_eq_true rfl) dX5_show_1 rfl (fun z1 => ?_)
  refine ef_if (pt := 20) (pf := 7) (fun _ _ => ev_if_eq (tgt := 20) dX5_show_4 (by decide)) (fun h2 => ?_) (fun h2 => ?_)
  · refine ef_sub (lv' := [(0, .ref (pl 0))]) [0] rfl ?_
    exact okX5_show_20 s
  · refine ef_iload_n (q := 8) 2 dX5_show_7 rfl rfl rfl ?_
    refine ef_iconst (v := (-1 : Int32)) (q := 9) dX5_show_8 (by decide) rfl ?_
    refine ef_if (pt := 27) (pf := 12) (fun _ _ => ev_icmp_eq (tgt := 27) dX5_show_9 (by decide)) (fun h3 => ?_) (fun h3 => ?_)
    · refine ef_sub (lv' := [(0, .ref (pl 0)), (1, .int x1), (2, .int x2)]) [0, 1, 2] rfl ?_
      exact okX5_show_27 x1 x2 s
    · refine ef_aload_n (q := 13) 0 dX5_show_12 rfl rfl rfl ?_
      refine ef_iload_n (q := 14) 2 dX5_show_13 rfl rfl rfl ?_
      refine ef_invVI0 (k := 0) (As := [.int x2]) (rest := []) (q := 17) (okX5_isLicker x2) rfl calX5_isLicker ml5_106 (by decide) rfl rfl rfl (Nat.le_of_ble_eq_true rfl) dX5_show_14 rfl (fun z4 => ?_)
      refine ef_if (pt := 20) (pf := 27) (fun _ _ kt kf => ev_if_ne (tgt := 27) dX5_show_17 (by decide) kf kt) (fun h5 => ?_) (fun h5 => ?_)
      · refine ef_sub (lv' := [(0, .ref (pl 0))]) [0] rfl ?_
        exact okX5_show_20 z4.2
      · refine ef_sub (lv' := [(0, .ref (pl 0)), (1, .int x1), (2, .int x2)]) [0, 1, 2] rfl ?_
        exact okX5_show_27 x1 x2 z4.2
theorem okX5_show (x1 : Int32) (x2 : Int32) : MtF 2 mX5_show lyM rvI (fun _ pl => [.ref (pl 0), .int x1, .int x2]) (fX5_show x1 x2) := by
  refine MtF.of (by decide +kernel) rfl (fun _ pl => Nat.le_of_ble_eq_true rfl) (fun G pl h0 s => ?_)
  refine ef_sub (lv := [(0, .ref (pl 0)), (1, .int x1), (2, .int x2)]) (lv' := [(0, .ref (pl 0)), (1, .int x1), (2, .int x2)]) [0, 1, 2] rfl ?_
  exact okX5_show_0  x1 x2 s
-- X5_isUnder
theorem dX5_isUnder_0 : decode cX5_isUnder 0 = .ok (.iload_n 1, 1) := by decide +kernel
theorem dX5_isUnder_1 : decode cX5_isUnder 1 = .ok (.ifCond .eq 8, 3) := by decide +kernel
theorem dX5_isUnder_4 : decode cX5_isUnder 4 = .ok (.iload_n 0, 1) := by decide +kernel
theorem dX5_isUnder_5 : decode cX5_isUnder 5 = .ok (.iload_n 1, 1) := by decide +kernel
theorem dX5_isUnder_6 : decode cX5_isUnder 6 = .ok (.if_icmp .ne 5, 3) := by decide +kernel
theorem dX5_isUnder_9 : decode cX5_isUnder 9 = .ok (.iconst 1, 1) := by decide +kernel
theorem dX5_isUnder_10 : decode cX5_isUnder 10 = .ok (.ireturn, 1) := by decide +kernel
theorem dX5_isUnder_11 : decode cX5_isUnder 11 = .ok (.iload_n 1, 1) := by decide +kernel
theorem dX5_isUnder_12 : decode cX5_isUnder 12 = .ok (.iconst 2, 1) := by decide +kernel
theorem dX5_isUnder_13 : decode cX5_isUnder 13 = .ok (.if_icmp .ne 21, 3) := by decide +kernel
theorem dX5_isUnder_16 : decode cX5_isUnder 16 = .ok (.iload_n 0, 1) := by decide +kernel
theorem dX5_isUnder_17 : decode cX5_isUnder 17 = .ok (.iconst 3, 1) := by decide +kernel
theorem dX5_isUnder_18 : decode cX5_isUnder 18 = .ok (.if_icmp .eq 8, 3) := by decide +kernel
theorem dX5_isUnder_21 : decode cX5_isUnder 21 = .ok (.iload_n 0, 1) := by decide +kernel
theorem dX5_isUnder_22 : decode cX5_isUnder 22 = .ok (.iconst 5, 1) := by decide +kernel
theorem dX5_isUnder_23 : decode cX5_isUnder 23 = .ok (.if_icmp .ne 7, 3) := by decide +kernel
theorem dX5_isUnder_26 : decode cX5_isUnder 26 = .ok (.iconst 1, 1) := by decide +kernel
theorem dX5_isUnder_27 : decode cX5_isUnder 27 = .ok (.goto 22, 3) := by decide +kernel
theorem dX5_isUnder_30 : decode cX5_isUnder 30 = .ok (.iconst 0, 1) := by decide +kernel
theorem dX5_isUnder_31 : decode cX5_isUnder 31 = .ok (.goto 18, 3) := by decide +kernel
theorem dX5_isUnder_34 : decode cX5_isUnder 34 = .ok (.iload_n 1, 1) := by decide +kernel
theorem dX5_isUnder_35 : decode cX5_isUnder 35 = .ok (.iconst 1, 1) := by decide +kernel
theorem dX5_isUnder_36 : decode cX5_isUnder 36 = .ok (.if_icmp .ne 12, 3) := by decide +kernel
theorem dX5_isUnder_39 : decode cX5_isUnder 39 = .ok (.iload_n 0, 1) := by decide +kernel
theorem dX5_isUnder_40 : decode cX5_isUnder 40 = .ok (.iconst 4, 1) := by decide +kernel
theorem dX5_isUnder_41 : decode cX5_isUnder 41 = .ok (.if_icmp .ne 7, 3) := by decide +kernel
theorem dX5_isUnder_44 : decode cX5_isUnder 44 = .ok (.iconst 1, 1) := by decide +kernel
theorem dX5_isUnder_45 : decode cX5_isUnder 45 = .ok (.goto 4, 3) := by decide +kernel
theorem dX5_isUnder_48 : decode cX5_isUnder 48 = .ok (.iconst 0, 1) := by decide +kernel
theorem dX5_isUnder_49 : decode cX5_isUnder 49 = .ok (.ireturn, 1) := by decide +kernel
def fX5_isUnder_0 (x0 : Int32) (x1 : Int32) (s : SS) : Option (Int32 × SS) := if x1 = 0 then (some ((1 : Int32), s)) else (if x0 = x1 then (some ((1 : Int32), s)) else (if x1 = (2 : Int32) then (if x0 = (3 : Int32) then (some ((1 : Int32), s)) else (if x0 = (5 : Int32) then (some ((1 : Int32), s)) else (some ((0 : Int32), s)))) else (if x1 = (1 : Int32) then (if x0 = (4 : Int32) then (some ((1 : Int32), s)) else (some ((0 : Int32), s))) else (some ((0 : Int32), s)))))
def fX5_isUnder (x0 : Int32) (x1 : Int32) (s : SS) : Option (Int32 × SS) := fX5_isUnder_0 x0 x1 s
set_option maxRecDepth 100000 in
set_option maxHeartbeats 4000000 in
theorem okX5_isUnder_0 {G : GG} {pl : Nat → Nat} {h0 : PH} (x0 : Int32) (x1 : Int32) (s : SS) : EvF G 0 mX5_isUnder ly pl h0 rvI (fX5_isUnder_0 x0 x1 s) 0 [(0, .int x0), (1, .int x1)] [] s := by
  unfold fX5_isUnder_0
  refine ef_iload_n (q := 1) 1 dX5_isUnder_0 rfl rfl rfl ?_
  refine ef_if (pt := 9) (pf := 4) (fun _ _ => ev_if_eq (tgt := 9) dX5_isUnder_1 (by decide)) (fun h1 => ?_) (fun h1 => ?_)
  · refine ef_iconst (v := (1 : Int32)) (q := 10) dX5_isUnder_9 (by decide) rfl ?_
    exact ef_zretc (x := (1 : Int32)) (by decide) rfl dX5_isUnder_10
  · refine ef_iload_n (q := 5) 0 dX5_isUnder_4 rfl rfl rfl ?_
    refine ef_iload_n (q := 6) 1 dX5_isUnder_5 rfl rfl rfl ?_
    refine ef_if (pt := 9) (pf := 11) (fun _ _ kt kf => ev_icmp_ne (tgt := 11) dX5_isUnder_6 (by decide) kf kt) (fun h2 => ?_) (fun h2 => ?_)
    · refine ef_iconst (v := (1 : Int32)) (q := 10) dX5_isUnder_9 (by decide) rfl ?_
      exact ef_zretc (x := (1 : Int32)) (by decide) rfl dX5_isUnder_10
    · refine ef_iload_n (q := 12) 1 dX5_isUnder_11 rfl rfl rfl ?_
      refine ef_iconst (v := (2 : Int32)) (q := 13) dX5_isUnder_12 (by decide) rfl ?_
      refine ef_if (pt := 16) (pf := 34) (fun _ _ kt kf => ev_icmp_ne (tgt := 34) dX5_isUnder_13 (by decide) kf kt) (fun h3 => ?_) (fun h3 => ?_)
      · refine ef_iload_n (q := 17) 0 dX5_isUnder_16 rfl rfl rfl ?_
        refine ef_iconst (v := (3 : Int32)) (q := 18) dX5_isUnder_17 (by decide) rfl ?_
        refine ef_if (pt := 26) (pf := 21) (fun _ _ => ev_icmp_eq (tgt := 26) dX5_isUnder_18 (by decide)) (fun h4 => ?_) (fun h4 => ?_)
        · refine ef_iconst (v := (1 : Int32)) (q := 27) dX5_isUnder_26 (by decide) rfl ?_
          refine ef_goto (tgt := 49) dX5_isUnder_27 (by decide) ?_
          exact ef_zretc (x := (1 : Int32)) (by decide) rfl dX5_isUnder_49
        · refine ef_iload_n (q := 22) 0 dX5_isUnder_21 rfl rfl rfl ?_
          refine ef_iconst (v := (5 : Int32)) (q := 23) dX5_isUnder_22 (by decide) rfl ?_
          refine ef_if (pt := 26) (pf := 30) (fun _ _ kt kf => ev_icmp_ne (tgt := 30) dX5_isUnder_23 (by decide) kf kt) (fun h5 => ?_) (fun h5 => ?_)
          · refine ef_iconst (v := (1 : Int32)) (q := 27) dX5_isUnder_26 (by decide) rfl ?_
            refine ef_goto (tgt := 49) dX5_isUnder_27 (by decide) ?_
            exact ef_zretc (x := (1 : Int32)) (by decide) rfl dX5_isUnder_49
          · refine ef_iconst (v := (0 : Int32)) (q := 31) dX5_isUnder_30 (by decide) rfl ?_
            refine ef_goto (tgt := 49) dX5_isUnder_31 (by decide) ?_
            exact ef_zretc (x := (0 : Int32)) (by decide) rfl dX5_isUnder_49
      · refine ef_iload_n (q := 35) 1 dX5_isUnder_34 rfl rfl rfl ?_
        refine ef_iconst (v := (1 : Int32)) (q := 36) dX5_isUnder_35 (by decide) rfl ?_
        refine ef_if (pt := 39) (pf := 48) (fun _ _ kt kf => ev_icmp_ne (tgt := 48) dX5_isUnder_36 (by decide) kf kt) (fun h6 => ?_) (fun h6 => ?_)
        · refine ef_iload_n (q := 40) 0 dX5_isUnder_39 rfl rfl rfl ?_
          refine ef_iconst (v := (4 : Int32)) (q := 41) dX5_isUnder_40 (by decide) rfl ?_
          refine ef_if (pt := 44) (pf := 48) (fun _ _ kt kf => ev_icmp_ne (tgt := 48) dX5_isUnder_41 (by decide) kf kt) (fun h7 => ?_) (fun h7 => ?_)
          · refine ef_iconst (v := (1 : Int32)) (q := 45) dX5_isUnder_44 (by decide) rfl ?_
            refine ef_goto (tgt := 49) dX5_isUnder_45 (by decide) ?_
            exact ef_zretc (x := (1 : Int32)) (by decide) rfl dX5_isUnder_49
          · refine ef_iconst (v := (0 : Int32)) (q := 49) dX5_isUnder_48 (by decide) rfl ?_
            exact ef_zretc (x := (0 : Int32)) (by decide) rfl dX5_isUnder_49
        · refine ef_iconst (v := (0 : Int32)) (q := 49) dX5_isUnder_48 (by decide) rfl ?_
          exact ef_zretc (x := (0 : Int32)) (by decide) rfl dX5_isUnder_49
theorem okX5_isUnder (x0 : Int32) (x1 : Int32) : MtF 0 mX5_isUnder ly rvI (fun _ pl => [.int x0, .int x1]) (fX5_isUnder x0 x1) := by
  refine MtF.of (by decide +kernel) rfl (fun _ pl => Nat.le_of_ble_eq_true rfl) (fun G pl h0 s => ?_)
  refine ef_sub (lv := [(0, .int x0), (1, .int x1)]) (lv' := [(0, .int x0), (1, .int x1)]) [0, 1] rfl ?_
  exact okX5_isUnder_0  x0 x1 s
-- X5_wouldIn2
theorem dX5_wouldIn2_0 : decode cX5_wouldIn 0 = .ok (.aload_n 0, 1) := by decide +kernel
theorem dX5_wouldIn2_1 : decode cX5_wouldIn 1 = .ok (.getfield 32, 3) := by decide +kernel
theorem dX5_wouldIn2_4 : decode cX5_wouldIn 4 = .ok (.aload_n 1, 1) := by decide +kernel
theorem dX5_wouldIn2_5 : decode cX5_wouldIn 5 = .ok (.aload_n 0, 1) := by decide +kernel
theorem dX5_wouldIn2_6 : decode cX5_wouldIn 6 = .ok (.getfield 10, 3) := by decide +kernel
theorem dX5_wouldIn2_9 : decode cX5_wouldIn 9 = .ok (.getfield 120, 3) := by decide +kernel
theorem dX5_wouldIn2_12 : decode cX5_wouldIn 12 = .ok (.iload_n 2, 1) := by decide +kernel
theorem dX5_wouldIn2_13 : decode cX5_wouldIn 13 = .ok (.iaload, 1) := by decide +kernel
theorem dX5_wouldIn2_14 : decode cX5_wouldIn 14 = .ok (.aload_n 0, 1) := by decide +kernel
theorem dX5_wouldIn2_15 : decode cX5_wouldIn 15 = .ok (.getfield 10, 3) := by decide +kernel
theorem dX5_wouldIn2_18 : decode cX5_wouldIn 18 = .ok (.getfield 127, 3) := by decide +kernel
theorem dX5_wouldIn2_21 : decode cX5_wouldIn 21 = .ok (.iload_n 2, 1) := by decide +kernel
theorem dX5_wouldIn2_22 : decode cX5_wouldIn 22 = .ok (.iaload, 1) := by decide +kernel
theorem dX5_wouldIn2_23 : decode cX5_wouldIn 23 = .ok (.invokevirtual 319, 3) := by decide +kernel
theorem dX5_wouldIn2_26 : decode cX5_wouldIn 26 = .ok (.ireturn, 1) := by decide +kernel
def fX5_wouldIn2_0 (x2 : Int32) (s : SS) : Option (Int32 × SS) := if ixB x2 4 then (if ixB x2 4 then (((fX2_choose (s.1 7 x2.toNatClampNeg) (s.1 8 x2.toNatClampNeg) (selS (fun k => if k < 24 then 33 + k else 2 + (k - 24)) s)).bind fun z3 => some (z3.1, mrgS (fun k => if k < 24 then 33 + k else 2 + (k - 24)) 29 s z3.2))) else none) else none
def fX5_wouldIn2 (x2 : Int32) (s : SS) : Option (Int32 × SS) := fX5_wouldIn2_0 x2 s
set_option maxRecDepth 100000 in
set_option maxHeartbeats 4000000 in
theorem okX5_wouldIn2_0 {G : GG} {pl : Nat → Nat} {h0 : PH} (x2 : Int32) (s : SS) : EvF G 11 mX5_wouldIn lyM pl h0 rvI (fX5_wouldIn2_0 x2 s) 0 [(0, .ref (pl 0)), (1, .ref (pl 2)), (2, .int x2)] [] s := by
  unfold fX5_wouldIn2_0
  refine ef_aload_n (q := 1) 0 dX5_wouldIn2_0 rfl rfl rfl ?_
  refine ef_getR (t := 33) (q := 4) rfl fl5_32 rfl rfl dX5_wouldIn2_1 rfl ?_
  refine ef_aload_n (q := 5) 1 dX5_wouldIn2_4 rfl rfl rfl ?_
  refine ef_aload_n (q := 6) 0 dX5_wouldIn2_5 rfl rfl rfl ?_
  refine ef_getR (t := 1) (q := 9) rfl fl5_10 rfl rfl dX5_wouldIn2_6 rfl ?_
  refine ef_getR (t := 7) (q := 12) rfl fl5_120 rfl rfl dX5_wouldIn2_9 rfl ?_
  refine ef_iload_n (q := 13) 2 dX5_wouldIn2_12 rfl rfl rfl ?_
  refine ef_guard (fun g1 => ?_)
  refine ef_iaload (x := s.1 7 x2.toNatClampNeg) (q := 14) rfl g1 dX5_wouldIn2_13 rfl rfl ?_
  refine ef_aload_n (q := 15) 0 dX5_wouldIn2_14 rfl rfl rfl ?_
  refine ef_getR (t := 1) (q := 18) rfl fl5_10 rfl rfl dX5_wouldIn2_15 rfl ?_
  refine ef_getR (t := 8) (q := 21) rfl fl5_127 rfl rfl dX5_wouldIn2_18 rfl ?_
  refine ef_iload_n (q := 22) 2 dX5_wouldIn2_21 rfl rfl rfl ?_
  refine ef_guard (fun g2 => ?_)
  refine ef_iaload (x := s.1 8 x2.toNatClampNeg) (q := 23) rfl g2 dX5_wouldIn2_22 rfl rfl ?_
  refine ef_invVI (k := 33) (nn := 29) (π := (fun k => if k < 24 then 33 + k else 2 + (k - 24))) (As := [.ref (pl 2), .int (s.1 7 x2.toNatClampNeg), .int (s.1 8 x2.toNatClampNeg)]) (rest := []) (q := 26) (okX2_choose (s.1 7 x2.toNatClampNeg) (s.1 8 x2.toNatClampNeg)) (by decide +kernel) rfl calX2_choose ml5_319 (by decide) rfl rfl rfl (Nat.le_of_ble_eq_true rfl) dX5_wouldIn2_23 rfl rfl (fun z3 => ?_)
  exact ef_iret rfl dX5_wouldIn2_26
theorem okX5_wouldIn2 (x2 : Int32) : MtF 11 mX5_wouldIn lyM rvI (fun _ pl => [.ref (pl 0), .ref (pl 2), .int x2]) (fX5_wouldIn2 x2) := by
  refine MtF.of (by decide +kernel) rfl (fun _ pl => Nat.le_of_ble_eq_true rfl) (fun G pl h0 s => ?_)
  refine ef_sub (lv := [(0, .ref (pl 0)), (1, .ref (pl 2)), (2, .int x2)]) (lv' := [(0, .ref (pl 0)), (1, .ref (pl 2)), (2, .int x2)]) [0, 1, 2] rfl ?_
  exact okX5_wouldIn2_0  x2 s
-- X5_wouldIn28
theorem dX5_wouldIn28_0 : decode cX5_wouldIn 0 = .ok (.aload_n 0, 1) := by decide +kernel
theorem dX5_wouldIn28_1 : decode cX5_wouldIn 1 = .ok (.getfield 32, 3) := by decide +kernel
theorem dX5_wouldIn28_4 : decode cX5_wouldIn 4 = .ok (.aload_n 1, 1) := by decide +kernel
theorem dX5_wouldIn28_5 : decode cX5_wouldIn 5 = .ok (.aload_n 0, 1) := by decide +kernel
theorem dX5_wouldIn28_6 : decode cX5_wouldIn 6 = .ok (.getfield 10, 3) := by decide +kernel
theorem dX5_wouldIn28_9 : decode cX5_wouldIn 9 = .ok (.getfield 120, 3) := by decide +kernel
theorem dX5_wouldIn28_12 : decode cX5_wouldIn 12 = .ok (.iload_n 2, 1) := by decide +kernel
theorem dX5_wouldIn28_13 : decode cX5_wouldIn 13 = .ok (.iaload, 1) := by decide +kernel
theorem dX5_wouldIn28_14 : decode cX5_wouldIn 14 = .ok (.aload_n 0, 1) := by decide +kernel
theorem dX5_wouldIn28_15 : decode cX5_wouldIn 15 = .ok (.getfield 10, 3) := by decide +kernel
theorem dX5_wouldIn28_18 : decode cX5_wouldIn 18 = .ok (.getfield 127, 3) := by decide +kernel
theorem dX5_wouldIn28_21 : decode cX5_wouldIn 21 = .ok (.iload_n 2, 1) := by decide +kernel
theorem dX5_wouldIn28_22 : decode cX5_wouldIn 22 = .ok (.iaload, 1) := by decide +kernel
theorem dX5_wouldIn28_23 : decode cX5_wouldIn 23 = .ok (.invokevirtual 319, 3) := by decide +kernel
theorem dX5_wouldIn28_26 : decode cX5_wouldIn 26 = .ok (.ireturn, 1) := by decide +kernel
def fX5_wouldIn28_0 (x2 : Int32) (s : SS) : Option (Int32 × SS) := if ixB x2 4 then (if ixB x2 4 then (((fX2_choose (s.1 7 x2.toNatClampNeg) (s.1 8 x2.toNatClampNeg) (selS (fun k => if k < 24 then 33 + k else 28 + (k - 24)) s)).bind fun z3 => some (z3.1, mrgS (fun k => if k < 24 then 33 + k else 28 + (k - 24)) 29 s z3.2))) else none) else none
def fX5_wouldIn28 (x2 : Int32) (s : SS) : Option (Int32 × SS) := fX5_wouldIn28_0 x2 s
set_option maxRecDepth 100000 in
set_option maxHeartbeats 4000000 in
theorem okX5_wouldIn28_0 {G : GG} {pl : Nat → Nat} {h0 : PH} (x2 : Int32) (s : SS) : EvF G 11 mX5_wouldIn lyM pl h0 rvI (fX5_wouldIn28_0 x2 s) 0 [(0, .ref (pl 0)), (1, .ref (pl 28)), (2, .int x2)] [] s := by
  unfold fX5_wouldIn28_0
  refine ef_aload_n (q := 1) 0 dX5_wouldIn28_0 rfl rfl rfl ?_
  refine ef_getR (t := 33) (q := 4) rfl fl5_32 rfl rfl dX5_wouldIn28_1 rfl ?_
  refine ef_aload_n (q := 5) 1 dX5_wouldIn28_4 rfl rfl rfl ?_
  refine ef_aload_n (q := 6) 0 dX5_wouldIn28_5 rfl rfl rfl ?_
  refine ef_getR (t := 1) (q := 9) rfl fl5_10 rfl rfl dX5_wouldIn28_6 rfl ?_
  refine ef_getR (t := 7) (q := 12) rfl fl5_120 rfl rfl dX5_wouldIn28_9 rfl ?_
  refine ef_iload_n (q := 13) 2 dX5_wouldIn28_12 rfl rfl rfl ?_
  refine ef_guard (fun g1 => ?_)
  refine ef_iaload (x := s.1 7 x2.toNatClampNeg) (q := 14) rfl g1 dX5_wouldIn28_13 rfl rfl ?_
  refine ef_aload_n (q := 15) 0 dX5_wouldIn28_14 rfl rfl rfl ?_
  refine ef_getR (t := 1) (q := 18) rfl fl5_10 rfl rfl dX5_wouldIn28_15 rfl ?_
  refine ef_getR (t := 8) (q := 21) rfl fl5_127 rfl rfl dX5_wouldIn28_18 rfl ?_
  refine ef_iload_n (q := 22) 2 dX5_wouldIn28_21 rfl rfl rfl ?_
  refine ef_guard (fun g2 => ?_)
  refine ef_iaload (x := s.1 8 x2.toNatClampNeg) (q := 23) rfl g2 dX5_wouldIn28_22 rfl rfl ?_
  refine ef_invVI (k := 33) (nn := 29) (π := (fun k => if k < 24 then 33 + k else 28 + (k - 24))) (As := [.ref (pl 28), .int (s.1 7 x2.toNatClampNeg), .int (s.1 8 x2.toNatClampNeg)]) (rest := []) (q := 26) (okX2_choose (s.1 7 x2.toNatClampNeg) (s.1 8 x2.toNatClampNeg)) (by decide +kernel) rfl calX2_choose ml5_319 (by decide) rfl rfl rfl (Nat.le_of_ble_eq_true rfl) dX5_wouldIn28_23 rfl rfl (fun z3 => ?_)
  exact ef_iret rfl dX5_wouldIn28_26
theorem okX5_wouldIn28 (x2 : Int32) : MtF 11 mX5_wouldIn lyM rvI (fun _ pl => [.ref (pl 0), .ref (pl 28), .int x2]) (fX5_wouldIn28 x2) := by
  refine MtF.of (by decide +kernel) rfl (fun _ pl => Nat.le_of_ble_eq_true rfl) (fun G pl h0 s => ?_)
  refine ef_sub (lv := [(0, .ref (pl 0)), (1, .ref (pl 28)), (2, .int x2)]) (lv' := [(0, .ref (pl 0)), (1, .ref (pl 28)), (2, .int x2)]) [0, 1, 2] rfl ?_
  exact okX5_wouldIn28_0  x2 s
-- X5_says
theorem dX5_says_0 : decode cX5_says 0 = .ok (.iload_n 1, 1) := by decide +kernel
theorem dX5_says_1 : decode cX5_says 1 = .ok (.invokestatic 58, 3) := by decide +kernel
theorem dX5_says_4 : decode cX5_says 4 = .ok (.ifCond .eq 12, 3) := by decide +kernel
theorem dX5_says_7 : decode cX5_says 7 = .ok (.iload_n 2, 1) := by decide +kernel
theorem dX5_says_8 : decode cX5_says 8 = .ok (.iconst 0, 1) := by decide +kernel
theorem dX5_says_9 : decode cX5_says 9 = .ok (.iconst 5, 1) := by decide +kernel
theorem dX5_says_10 : decode cX5_says 10 = .ok (.invokestatic 62, 3) := by decide +kernel
theorem dX5_says_13 : decode cX5_says 13 = .ok (.ifCond .ne 10, 3) := by decide +kernel
theorem dX5_says_16 : decode cX5_says 16 = .ok (.aload_n 0, 1) := by decide +kernel
theorem dX5_says_17 : decode cX5_says 17 = .ok (.bipush (-2), 2) := by decide +kernel
theorem dX5_says_19 : decode cX5_says 19 = .ok (.invokevirtual 66, 3) := by decide +kernel
theorem dX5_says_22 : decode cX5_says 22 = .ok (.ireturn, 1) := by decide +kernel
theorem dX5_says_23 : decode cX5_says 23 = .ok (.aload_n 0, 1) := by decide +kernel
theorem dX5_says_24 : decode cX5_says 24 = .ok (.getfield 38, 3) := by decide +kernel
theorem dX5_says_27 : decode cX5_says 27 = .ok (.iload_n 1, 1) := by decide +kernel
theorem dX5_says_28 : decode cX5_says 28 = .ok (.aaload, 1) := by decide +kernel
theorem dX5_says_29 : decode cX5_says 29 = .ok (.getfield 103, 3) := by decide +kernel
theorem dX5_says_32 : decode cX5_says 32 = .ok (.iconst (-1), 1) := by decide +kernel
theorem dX5_says_33 : decode cX5_says 33 = .ok (.if_icmp .ne 10, 3) := by decide +kernel
theorem dX5_says_36 : decode cX5_says 36 = .ok (.aload_n 0, 1) := by decide +kernel
theorem dX5_says_37 : decode cX5_says 37 = .ok (.bipush (-4), 2) := by decide +kernel
theorem dX5_says_39 : decode cX5_says 39 = .ok (.invokevirtual 66, 3) := by decide +kernel
theorem dX5_says_42 : decode cX5_says 42 = .ok (.ireturn, 1) := by decide +kernel
theorem dX5_says_43 : decode cX5_says 43 = .ok (.aload_n 0, 1) := by decide +kernel
theorem dX5_says_44 : decode cX5_says 44 = .ok (.getfield 38, 3) := by decide +kernel
theorem dX5_says_47 : decode cX5_says 47 = .ok (.iload_n 1, 1) := by decide +kernel
theorem dX5_says_48 : decode cX5_says 48 = .ok (.aaload, 1) := by decide +kernel
theorem dX5_says_49 : decode cX5_says 49 = .ok (.invokevirtual 116, 3) := by decide +kernel
theorem dX5_says_52 : decode cX5_says 52 = .ok (.istore_n 3, 1) := by decide +kernel
theorem dX5_says_53 : decode cX5_says 53 = .ok (.aload_n 0, 1) := by decide +kernel
theorem dX5_says_54 : decode cX5_says 54 = .ok (.iload_n 3, 1) := by decide +kernel
theorem dX5_says_55 : decode cX5_says 55 = .ok (.invokevirtual 106, 3) := by decide +kernel
theorem dX5_says_58 : decode cX5_says 58 = .ok (.ifCond .eq 19, 3) := by decide +kernel
theorem dX5_says_61 : decode cX5_says 61 = .ok (.aload_n 0, 1) := by decide +kernel
theorem dX5_says_62 : decode cX5_says 62 = .ok (.getfield 10, 3) := by decide +kernel
theorem dX5_says_65 : decode cX5_says 65 = .ok (.getfield 120, 3) := by decide +kernel
theorem dX5_says_68 : decode cX5_says 68 = .ok (.iload_n 3, 1) := by decide +kernel
theorem dX5_says_69 : decode cX5_says 69 = .ok (.iaload, 1) := by decide +kernel
theorem dX5_says_70 : decode cX5_says 70 = .ok (.iload_n 2, 1) := by decide +kernel
theorem dX5_says_71 : decode cX5_says 71 = .ok (.invokestatic 123, 3) := by decide +kernel
theorem dX5_says_74 : decode cX5_says 74 = .ok (.ifCond .ne 10, 3) := by decide +kernel
theorem dX5_says_77 : decode cX5_says 77 = .ok (.aload_n 0, 1) := by decide +kernel
theorem dX5_says_78 : decode cX5_says 78 = .ok (.bipush (-3), 2) := by decide +kernel
theorem dX5_says_80 : decode cX5_says 80 = .ok (.invokevirtual 66, 3) := by decide +kernel
theorem dX5_says_83 : decode cX5_says 83 = .ok (.ireturn, 1) := by decide +kernel
theorem dX5_says_84 : decode cX5_says 84 = .ok (.iload_n 2, 1) := by decide +kernel
theorem dX5_says_85 : decode cX5_says 85 = .ok (.ifCond .ne 15, 3) := by decide +kernel
theorem dX5_says_88 : decode cX5_says 88 = .ok (.aload_n 0, 1) := by decide +kernel
theorem dX5_says_89 : decode cX5_says 89 = .ok (.getfield 10, 3) := by decide +kernel
theorem dX5_says_92 : decode cX5_says 92 = .ok (.getfield 127, 3) := by decide +kernel
theorem dX5_says_95 : decode cX5_says 95 = .ok (.iload_n 3, 1) := by decide +kernel
theorem dX5_says_96 : decode cX5_says 96 = .ok (.iaload, 1) := by decide +kernel
theorem dX5_says_97 : decode cX5_says 97 = .ok (.goto 15, 3) := by decide +kernel
theorem dX5_says_100 : decode cX5_says 100 = .ok (.aload_n 0, 1) := by decide +kernel
theorem dX5_says_101 : decode cX5_says 101 = .ok (.aload_n 0, 1) := by decide +kernel
theorem dX5_says_102 : decode cX5_says 102 = .ok (.getfield 10, 3) := by decide +kernel
theorem dX5_says_105 : decode cX5_says 105 = .ok (.getfield 130, 3) := by decide +kernel
theorem dX5_says_108 : decode cX5_says 108 = .ok (.iload_n 3, 1) := by decide +kernel
theorem dX5_says_109 : decode cX5_says 109 = .ok (.invokevirtual 133, 3) := by decide +kernel
theorem dX5_says_112 : decode cX5_says 112 = .ok (.ireturn, 1) := by decide +kernel
def fX5_says_16 (s : SS) : Option (Int32 × SS) := ((fX5_refuse (-2 : Int32) s).bind fun z1 => some (z1.1, z1.2))
def fX5_says_77 (s : SS) : Option (Int32 × SS) := ((fX5_refuse (-3 : Int32) s).bind fun z1 => some (z1.1, z1.2))
def fX5_says_0 (x1 : Int32) (x2 : Int32) (s : SS) : Option (Int32 × SS) := ((fX5_isShelf x1 s).bind fun z1 => if z1.1 = 0 then (fX5_says_16 s) else (((fX5_isWithin x2 (0 : Int32) (5 : Int32) s).bind fun z3 => if z3.1 = 0 then (fX5_says_16 s) else (if ixB x1 8 then (if (s.1 (61 + 2 * x1.toNatClampNeg) 0) = (-1 : Int32) then (((fX5_refuse (-4 : Int32) s).bind fun z7 => some (z7.1, z7.2))) else (if ixB x1 8 then (((fX3_lickerNumber (selS (fun k => 61 + 2 * x1.toNatClampNeg + k) s)).bind fun z9 => ((fX5_isLicker z9.1 (mrgS (fun k => 61 + 2 * x1.toNatClampNeg + k) 2 s z9.2)).bind fun z10 => if z10.1 = 0 then (fX5_says_77 z10.2) else (if ixB z9.1 4 then (((fX5_isUnder (z10.2.1 7 z9.1.toNatClampNeg) x2 z10.2).bind fun z13 => if z13.1 = 0 then (fX5_says_77 z10.2) else (if x2 = 0 then (if ixB z9.1 4 then (some (z10.2.1 8 z9.1.toNatClampNeg, z10.2)) else none) else (((fX5_wouldIn2 z9.1 z10.2).bind fun z17 => some (z17.1, z17.2)))))) else none)))) else none)) else none))))
def fX5_says (x1 : Int32) (x2 : Int32) (s : SS) : Option (Int32 × SS) := fX5_says_0 x1 x2 s
set_option maxRecDepth 100000 in
set_option maxHeartbeats 4000000 in
theorem okX5_says_16 {G : GG} {pl : Nat → Nat} {h0 : PH} (s : SS) : EvF G 12 mX5_says lyM pl h0 rvI (fX5_says_16 s) 16 [(0, .ref (pl 0))] [] s := by
  unfold fX5_says_16
  refine ef_aload_n (q := 17) 0 dX5_says_16 rfl rfl rfl ?_
  refine ef_bipush (v := (-2 : Int32)) (q := 19) dX5_says_17 (by decide) rfl ?_
  refine ef_invVI0 (k := 0) (As := [.int (-2 : Int32)]) (rest := []) (q := 22) (okX5_refuse (-2 : Int32)) rfl calX5_refuse ml5_66 (by decide) rfl rfl rfl (Nat.le_of_ble_eq_true rfl) dX5_says_19 rfl (fun z1 => ?_)
  exact ef_iret rfl dX5_says_22
set_option maxRecDepth 100000 in
set_option maxHeartbeats 4000000 in
theorem okX5_says_77 {G : GG} {pl : Nat → Nat} {h0 : PH} (s : SS) : EvF G 12 mX5_says lyM pl h0 rvI (fX5_says_77 s) 77 [(0, .ref (pl 0))] [] s := by
  unfold fX5_says_77
  refine ef_aload_n (q := 78) 0 dX5_says_77 rfl rfl rfl ?_
  refine ef_bipush (v := (-3 : Int32)) (q := 80) dX5_says_78 (by decide) rfl ?_
  refine ef_invVI0 (k := 0) (As := [.int (-3 : Int32)]) (rest := []) (q := 83) (okX5_refuse (-3 : Int32)) rfl calX5_refuse ml5_66 (by decide) rfl rfl rfl (Nat.le_of_ble_eq_true rfl) dX5_says_80 rfl (fun z1 => ?_)
  exact ef_iret rfl dX5_says_83
set_option maxRecDepth 100000 in
set_option maxHeartbeats 4000000 in
theorem okX5_says_0 {G : GG} {pl : Nat → Nat} {h0 : PH} (x1 : Int32) (x2 : Int32) (s : SS) : EvF G 12 mX5_says lyM pl h0 rvI (fX5_says_0 x1 x2 s) 0 [(0, .ref (pl 0)), (1, .int x1), (2, .int x2)] [] s := by
  unfold fX5_says_0
  refine ef_iload_n (q := 1) 1 dX5_says_0 rfl rfl rfl ?_
  refine ef_invPI0 (As := [.int x1]) (rest := []) (q := 4) (okX5_isShelf x1) rfl calX5_isShelf ml5_58 (by decide) rfl rfl (Nat.le_of_ble_eq_true rfl) dX5_says_1 rfl (fun z1 => ?_)
  refine ef_if (pt := 16) (pf := 7) (fun _ _ => ev_if_eq (tgt := 16) dX5_says_4 (by decide)) (fun h2 => ?_) (fun h2 => ?_)
  · refine ef_sub (lv' := [(0, .ref (pl 0))]) [0] rfl ?_
    exact okX5_says_16 s
  · refine ef_iload_n (q := 8) 2 dX5_says_7 rfl rfl rfl ?_
    refine ef_iconst (v := (0 : Int32)) (q := 9) dX5_says_8 (by decide) rfl ?_
    refine ef_iconst (v := (5 : Int32)) (q := 10) dX5_says_9 (by decide) rfl ?_
    refine ef_invPI0 (As := [.int x2, .int (0 : Int32), .int (5 : Int32)]) (rest := []) (q := 13) (okX5_isWithin x2 (0 : Int32) (5 : Int32)) rfl calX5_isWithin ml5_62 (by decide) rfl rfl (Nat.le_of_ble_eq_true rfl) dX5_says_10 rfl (fun z3 => ?_)
    refine ef_if (pt := 16) (pf := 23) (fun _ _ kt kf => ev_if_ne (tgt := 23) dX5_says_13 (by decide) kf kt) (fun h4 => ?_) (fun h4 => ?_)
    · refine ef_sub (lv' := [(0, .ref (pl 0))]) [0] rfl ?_
      exact okX5_says_16 s
    · refine ef_aload_n (q := 24) 0 dX5_says_23 rfl rfl rfl ?_
      refine ef_getR (t := 57) (q := 27) rfl fl5_38 rfl rfl dX5_says_24 rfl ?_
      refine ef_iload_n (q := 28) 1 dX5_says_27 rfl rfl rfl ?_
      refine ef_guard (fun g5 => ?_)
      refine ef_aaload (t0 := 61 + 2 * x1.toNatClampNeg) (q := 29) rfl (by decide) lyM_t57 g5 dX5_says_28 rfl rfl ?_
      refine ef_getI (x := s.1 (61 + 2 * x1.toNatClampNeg) 0) (q := 32) (lyM_f57_0 _ (ixB_lt g5)) fl5_103 rfl rfl dX5_says_29 rfl ?_
      refine ef_iconst (v := (-1 : Int32)) (q := 33) dX5_says_32 (by decide) rfl ?_
      refine ef_if (pt := 36) (pf := 43) (fun _ _ kt kf => ev_icmp_ne (tgt := 43) dX5_says_33 (by decide) kf kt) (fun h6 => ?_) (fun h6 => ?_)
      · refine ef_aload_n (q := 37) 0 dX5_says_36 rfl rfl rfl ?_
        refine ef_bipush (v := (-4 : Int32)) (q := 39) dX5_says_37 (by decide) rfl ?_
        refine ef_invVI0 (k := 0) (As := [.int (-4 : Int32)]) (rest := []) (q := 42) (okX5_refuse (-4 : Int32)) rfl calX5_refuse ml5_66 (by decide) rfl rfl rfl (Nat.le_of_ble_eq_true rfl) dX5_says_39 rfl (fun z7 => ?_)
        exact ef_iret rfl dX5_says_42
      · refine ef_aload_n (q := 44) 0 dX5_says_43 rfl rfl rfl ?_
        refine ef_getR (t := 57) (q := 47) rfl fl5_38 rfl rfl dX5_says_44 rfl ?_
        refine ef_iload_n (q := 48) 1 dX5_says_47 rfl rfl rfl ?_
        refine ef_guard (fun g8 => ?_)
        refine ef_aaload (t0 := 61 + 2 * x1.toNatClampNeg) (q := 49) rfl (by decide) lyM_t57 g8 dX5_says_48 rfl rfl ?_
        refine ef_invVI (k := (61 + 2 * x1.toNatClampNeg)) (nn := 2) (π := (fun k => 61 + 2 * x1.toNatClampNeg + k)) (As := []) (rest := []) (q := 52) (okX3_lickerNumber) (lm_M_S_s57_0 _ (ixB_lt g8)) rfl calX3_lickerNumber ml5_116 (by decide) (lyM_f57_0 _ (ixB_lt g8)) rfl rfl (Nat.le_of_ble_eq_true rfl) dX5_says_49 rfl rfl (fun z9 => ?_)
        refine ef_istore_n (lv' := [(3, .int z9.1), (0, .ref (pl 0)), (1, .int x1), (2, .int x2)]) (q := 53) dX5_says_52 rfl (by decide) rfl rfl ?_
        refine ef_aload_n (q := 54) 1 dX5_says_53 rfl rfl rfl ?_
        refine ef_iload_n (q := 55) 0 dX5_says_54 rfl rfl rfl ?_
        refine ef_invVI0 (k := 0) (As := [.int z9.1]) (rest := []) (q := 58) (okX5_isLicker z9.1) rfl calX5_isLicker ml5_106 (by decide) rfl rfl rfl (Nat.le_of_ble_eq_true rfl) dX5_says_55 rfl (fun z10 => ?_)
        refine ef_if (pt := 77) (pf := 61) (fun _ _ => ev_if_eq (tgt := 77) dX5_says_58 (by decide)) (fun h11 => ?_) (fun h11 => ?_)
        · refine ef_sub (lv' := [(0, .ref (pl 0))]) [1] rfl ?_
          exact okX5_says_77 z10.2
        · refine ef_aload_n (q := 62) 1 dX5_says_61 rfl rfl rfl ?_
          refine ef_getR (t := 1) (q := 65) rfl fl5_10 rfl rfl dX5_says_62 rfl ?_
          refine ef_getR (t := 7) (q := 68) rfl fl5_120 rfl rfl dX5_says_65 rfl ?_
          refine ef_iload_n (q := 69) 0 dX5_says_68 rfl rfl rfl ?_
          refine ef_guard (fun g12 => ?_)
          refine ef_iaload (x := z10.2.1 7 z9.1.toNatClampNeg) (q := 70) rfl g12 dX5_says_69 rfl rfl ?_
          refine ef_iload_n (q := 71) 3 dX5_says_70 rfl rfl rfl ?_
          refine ef_invPI0 (As := [.int (z10.2.1 7 z9.1.toNatClampNeg), .int x2]) (rest := []) (q := 74) (okX5_isUnder (z10.2.1 7 z9.1.toNatClampNeg) x2) rfl calX5_isUnder ml5_123 (by decide) rfl rfl (Nat.le_of_ble_eq_true rfl) dX5_says_71 rfl (fun z13 => ?_)
          refine ef_if (pt := 77) (pf := 84) (fun _ _ kt kf => ev_if_ne (tgt := 84) dX5_says_74 (by decide) kf kt) (fun h14 => ?_) (fun h14 => ?_)
          · refine ef_sub (lv' := [(0, .ref (pl 0))]) [1] rfl ?_
            exact okX5_says_77 z10.2
          · refine ef_iload_n (q := 85) 3 dX5_says_84 rfl rfl rfl ?_
            refine ef_if (pt := 88) (pf := 100) (fun _ _ kt kf => ev_if_ne (tgt := 100) dX5_says_85 (by decide) kf kt) (fun h15 => ?_) (fun h15 => ?_)
            · refine ef_aload_n (q := 89) 1 dX5_says_88 rfl rfl rfl ?_
              refine ef_getR (t := 1) (q := 92) rfl fl5_10 rfl rfl dX5_says_89 rfl ?_
              refine ef_getR (t := 8) (q := 95) rfl fl5_127 rfl rfl dX5_says_92 rfl ?_
              refine ef_iload_n (q := 96) 0 dX5_says_95 rfl rfl rfl ?_
              refine ef_guard (fun g16 => ?_)
              refine ef_iaload (x := z10.2.1 8 z9.1.toNatClampNeg) (q := 97) rfl g16 dX5_says_96 rfl rfl ?_
              refine ef_goto (tgt := 112) dX5_says_97 (by decide) ?_
              exact ef_iret rfl dX5_says_112
            · refine ef_aload_n (q := 101) 1 dX5_says_100 rfl rfl rfl ?_
              refine ef_aload_n (q := 102) 1 dX5_says_101 rfl rfl rfl ?_
              refine ef_getR (t := 1) (q := 105) rfl fl5_10 rfl rfl dX5_says_102 rfl ?_
              refine ef_getR (t := 2) (q := 108) rfl fl5_130 rfl rfl dX5_says_105 rfl ?_
              refine ef_iload_n (q := 109) 0 dX5_says_108 rfl rfl rfl ?_
              refine ef_invVI0 (k := 0) (As := [.ref (pl 2), .int z9.1]) (rest := []) (q := 112) (okX5_wouldIn2 z9.1) rfl calX5_wouldIn ml5_133 (by decide) rfl rfl rfl (Nat.le_of_ble_eq_true rfl) dX5_says_109 rfl (fun z17 => ?_)
              exact ef_iret rfl dX5_says_112
theorem okX5_says (x1 : Int32) (x2 : Int32) : MtF 12 mX5_says lyM rvI (fun _ pl => [.ref (pl 0), .int x1, .int x2]) (fX5_says x1 x2) := by
  refine MtF.of (by decide +kernel) rfl (fun _ pl => Nat.le_of_ble_eq_true rfl) (fun G pl h0 s => ?_)
  refine ef_sub (lv := [(0, .ref (pl 0)), (1, .int x1), (2, .int x2)]) (lv' := [(0, .ref (pl 0)), (1, .int x1), (2, .int x2)]) [0, 1, 2] rfl ?_
  exact okX5_says_0  x1 x2 s
-- X5_sides
theorem dX5_sides_0 : decode cX5_sides 0 = .ok (.iload_n 1, 1) := by decide +kernel
theorem dX5_sides_1 : decode cX5_sides 1 = .ok (.iconst 3, 1) := by decide +kernel
theorem dX5_sides_2 : decode cX5_sides 2 = .ok (.bipush 8, 2) := by decide +kernel
theorem dX5_sides_4 : decode cX5_sides 4 = .ok (.invokestatic 62, 3) := by decide +kernel
theorem dX5_sides_7 : decode cX5_sides 7 = .ok (.ifCond .ne 10, 3) := by decide +kernel
theorem dX5_sides_10 : decode cX5_sides 10 = .ok (.aload_n 0, 1) := by decide +kernel
theorem dX5_sides_11 : decode cX5_sides 11 = .ok (.bipush (-2), 2) := by decide +kernel
theorem dX5_sides_13 : decode cX5_sides 13 = .ok (.invokevirtual 66, 3) := by decide +kernel
theorem dX5_sides_16 : decode cX5_sides 16 = .ok (.ireturn, 1) := by decide +kernel
theorem dX5_sides_17 : decode cX5_sides 17 = .ok (.aload_n 0, 1) := by decide +kernel
theorem dX5_sides_18 : decode cX5_sides 18 = .ok (.getfield 10, 3) := by decide +kernel
theorem dX5_sides_21 : decode cX5_sides 21 = .ok (.getfield 130, 3) := by decide +kernel
theorem dX5_sides_24 : decode cX5_sides 24 = .ok (.getfield 137, 3) := by decide +kernel
theorem dX5_sides_27 : decode cX5_sides 27 = .ok (.ifCond .le 10, 3) := by decide +kernel
theorem dX5_sides_30 : decode cX5_sides 30 = .ok (.aload_n 0, 1) := by decide +kernel
theorem dX5_sides_31 : decode cX5_sides 31 = .ok (.bipush (-5), 2) := by decide +kernel
theorem dX5_sides_33 : decode cX5_sides 33 = .ok (.invokevirtual 66, 3) := by decide +kernel
theorem dX5_sides_36 : decode cX5_sides 36 = .ok (.ireturn, 1) := by decide +kernel
theorem dX5_sides_37 : decode cX5_sides 37 = .ok (.aload_n 0, 1) := by decide +kernel
theorem dX5_sides_38 : decode cX5_sides 38 = .ok (.getfield 10, 3) := by decide +kernel
theorem dX5_sides_41 : decode cX5_sides 41 = .ok (.getfield 130, 3) := by decide +kernel
theorem dX5_sides_44 : decode cX5_sides 44 = .ok (.getfield 140, 3) := by decide +kernel
theorem dX5_sides_47 : decode cX5_sides 47 = .ok (.istore_n 2, 1) := by decide +kernel
theorem dX5_sides_48 : decode cX5_sides 48 = .ok (.aload_n 0, 1) := by decide +kernel
theorem dX5_sides_49 : decode cX5_sides 49 = .ok (.getfield 10, 3) := by decide +kernel
theorem dX5_sides_52 : decode cX5_sides 52 = .ok (.getfield 130, 3) := by decide +kernel
theorem dX5_sides_55 : decode cX5_sides 55 = .ok (.iload_n 1, 1) := by decide +kernel
theorem dX5_sides_56 : decode cX5_sides 56 = .ok (.invokevirtual 143, 3) := by decide +kernel
theorem dX5_sides_59 : decode cX5_sides 59 = .ok (.iload_n 2, 1) := by decide +kernel
theorem dX5_sides_60 : decode cX5_sides 60 = .ok (.ireturn, 1) := by decide +kernel
def fX5_sides_0 (x1 : Int32) (s : SS) : Option (Int32 × SS) := ((fX5_isWithin x1 (3 : Int32) (8 : Int32) s).bind fun z1 => if z1.1 = 0 then (((fX5_refuse (-2 : Int32) s).bind fun z3 => some (z3.1, z3.2))) else (if (s.1 2 11) ≤ 0 then (((fX0_becomeSides x1 (selS (fun k => 2 + k) s)).bind fun z5 => some (s.1 2 0, mrgS (fun k => 2 + k) 5 s z5.2))) else (((fX5_refuse (-5 : Int32) s).bind fun z6 => some (z6.1, z6.2)))))
def fX5_sides (x1 : Int32) (s : SS) : Option (Int32 × SS) := fX5_sides_0 x1 s
set_option maxRecDepth 100000 in
set_option maxHeartbeats 4000000 in
theorem okX5_sides_0 {G : GG} {pl : Nat → Nat} {h0 : PH} (x1 : Int32) (s : SS) : EvF G 2 mX5_sides lyM pl h0 rvI (fX5_sides_0 x1 s) 0 [(0, .ref (pl 0)), (1, .int x1)] [] s := by
  unfold fX5_sides_0
  refine ef_iload_n (q := 1) 1 dX5_sides_0 rfl rfl rfl ?_
  refine ef_iconst (v := (3 : Int32)) (q := 2) dX5_sides_1 (by decide) rfl ?_
  refine ef_bipush (v := (8 : Int32)) (q := 4) dX5_sides_2 (by decide) rfl ?_
  refine ef_invPI0 (As := [.int x1, .int (3 : Int32), .int (8 : Int32)]) (rest := []) (q := 7) (okX5_isWithin x1 (3 : Int32) (8 : Int32)) rfl calX5_isWithin ml5_62 (by decide) rfl rfl (Nat.le_of_ble_eq_true rfl) dX5_sides_4 rfl (fun z1 => ?_)
  refine ef_if (pt := 10) (pf := 17) (fun _ _ kt kf => ev_if_ne (tgt := 17) dX5_sides_7 (by decide) kf kt) (fun h2 => ?_) (fun h2 => ?_)
  · refine ef_aload_n (q := 11) 0 dX5_sides_10 rfl rfl rfl ?_
    refine ef_bipush (v := (-2 : Int32)) (q := 13) dX5_sides_11 (by decide) rfl ?_
    refine ef_invVI0 (k := 0) (As := [.int (-2 : Int32)]) (rest := []) (q := 16) (okX5_refuse (-2 : Int32)) rfl calX5_refuse ml5_66 (by decide) rfl rfl rfl (Nat.le_of_ble_eq_true rfl) dX5_sides_13 rfl (fun z3 => ?_)
    exact ef_iret rfl dX5_sides_16
  · refine ef_aload_n (q := 18) 0 dX5_sides_17 rfl rfl rfl ?_
    refine ef_getR (t := 1) (q := 21) rfl fl5_10 rfl rfl dX5_sides_18 rfl ?_
    refine ef_getR (t := 2) (q := 24) rfl fl5_130 rfl rfl dX5_sides_21 rfl ?_
    refine ef_getI (x := s.1 2 11) (q := 27) rfl fl5_137 rfl rfl dX5_sides_24 rfl ?_
    refine ef_if (pt := 37) (pf := 30) (fun _ _ => ev_if_le (tgt := 37) dX5_sides_27 (by decide)) (fun h4 => ?_) (fun h4 => ?_)
    · refine ef_aload_n (q := 38) 0 dX5_sides_37 rfl rfl rfl ?_
      refine ef_getR (t := 1) (q := 41) rfl fl5_10 rfl rfl dX5_sides_38 rfl ?_
      refine ef_getR (t := 2) (q := 44) rfl fl5_130 rfl rfl dX5_sides_41 rfl ?_
      refine ef_getI (x := s.1 2 0) (q := 47) rfl fl5_140 rfl rfl dX5_sides_44 rfl ?_
      refine ef_istore_n (lv' := [(2, .int (s.1 2 0)), (0, .ref (pl 0)), (1, .int x1)]) (q := 48) dX5_sides_47 rfl (by decide) rfl rfl ?_
      refine ef_aload_n (q := 49) 1 dX5_sides_48 rfl rfl rfl ?_
      refine ef_getR (t := 1) (q := 52) rfl fl5_10 rfl rfl dX5_sides_49 rfl ?_
      refine ef_getR (t := 2) (q := 55) rfl fl5_130 rfl rfl dX5_sides_52 rfl ?_
      refine ef_iload_n (q := 56) 2 dX5_sides_55 rfl rfl rfl ?_
      refine ef_invVU (k := 2) (nn := 5) (π := (fun k => 2 + k)) (As := [.int x1]) (rest := []) (q := 59) (okX0_becomeSides x1) (by decide +kernel) rfl calX0_becomeSides ml5_143 (by decide) rfl rfl rfl (Nat.le_of_ble_eq_true rfl) dX5_sides_56 rfl rfl (fun z5 => ?_)
      refine ef_iload_n (q := 60) 0 dX5_sides_59 rfl rfl rfl ?_
      exact ef_iret rfl dX5_sides_60
    · refine ef_aload_n (q := 31) 0 dX5_sides_30 rfl rfl rfl ?_
      refine ef_bipush (v := (-5 : Int32)) (q := 33) dX5_sides_31 (by decide) rfl ?_
      refine ef_invVI0 (k := 0) (As := [.int (-5 : Int32)]) (rest := []) (q := 36) (okX5_refuse (-5 : Int32)) rfl calX5_refuse ml5_66 (by decide) rfl rfl rfl (Nat.le_of_ble_eq_true rfl) dX5_sides_33 rfl (fun z6 => ?_)
      exact ef_iret rfl dX5_sides_36
theorem okX5_sides (x1 : Int32) : MtF 2 mX5_sides lyM rvI (fun _ pl => [.ref (pl 0), .int x1]) (fX5_sides x1) := by
  refine MtF.of (by decide +kernel) rfl (fun _ pl => Nat.le_of_ble_eq_true rfl) (fun G pl h0 s => ?_)
  refine ef_sub (lv := [(0, .ref (pl 0)), (1, .int x1)]) (lv' := [(0, .ref (pl 0)), (1, .int x1)]) [0, 1] rfl ?_
  exact okX5_sides_0  x1 s
-- X5_scoop
theorem dX5_scoop_0 : decode cX5_scoop 0 = .ok (.iload_n 1, 1) := by decide +kernel
theorem dX5_scoop_1 : decode cX5_scoop 1 = .ok (.iconst 0, 1) := by decide +kernel
theorem dX5_scoop_2 : decode cX5_scoop 2 = .ok (.bipush 9, 2) := by decide +kernel
theorem dX5_scoop_4 : decode cX5_scoop 4 = .ok (.invokestatic 62, 3) := by decide +kernel
theorem dX5_scoop_7 : decode cX5_scoop 7 = .ok (.ifCond .eq 13, 3) := by decide +kernel
theorem dX5_scoop_10 : decode cX5_scoop 10 = .ok (.iload_n 2, 1) := by decide +kernel
theorem dX5_scoop_11 : decode cX5_scoop 11 = .ok (.iconst 0, 1) := by decide +kernel
theorem dX5_scoop_12 : decode cX5_scoop 12 = .ok (.bipush 99, 2) := by decide +kernel
theorem dX5_scoop_14 : decode cX5_scoop 14 = .ok (.invokestatic 62, 3) := by decide +kernel
theorem dX5_scoop_17 : decode cX5_scoop 17 = .ok (.ifCond .ne 10, 3) := by decide +kernel
theorem dX5_scoop_20 : decode cX5_scoop 20 = .ok (.aload_n 0, 1) := by decide +kernel
theorem dX5_scoop_21 : decode cX5_scoop 21 = .ok (.bipush (-2), 2) := by decide +kernel
theorem dX5_scoop_23 : decode cX5_scoop 23 = .ok (.invokevirtual 66, 3) := by decide +kernel
theorem dX5_scoop_26 : decode cX5_scoop 26 = .ok (.ireturn, 1) := by decide +kernel
theorem dX5_scoop_27 : decode cX5_scoop 27 = .ok (.aload_n 0, 1) := by decide +kernel
theorem dX5_scoop_28 : decode cX5_scoop 28 = .ok (.getfield 10, 3) := by decide +kernel
theorem dX5_scoop_31 : decode cX5_scoop 31 = .ok (.getfield 130, 3) := by decide +kernel
theorem dX5_scoop_34 : decode cX5_scoop 34 = .ok (.getfield 137, 3) := by decide +kernel
theorem dX5_scoop_37 : decode cX5_scoop 37 = .ok (.iconst 3, 1) := by decide +kernel
theorem dX5_scoop_38 : decode cX5_scoop 38 = .ok (.if_icmp .lt 10, 3) := by decide +kernel
theorem dX5_scoop_41 : decode cX5_scoop 41 = .ok (.aload_n 0, 1) := by decide +kernel
theorem dX5_scoop_42 : decode cX5_scoop 42 = .ok (.bipush (-6), 2) := by decide +kernel
theorem dX5_scoop_44 : decode cX5_scoop 44 = .ok (.invokevirtual 66, 3) := by decide +kernel
theorem dX5_scoop_47 : decode cX5_scoop 47 = .ok (.ireturn, 1) := by decide +kernel
theorem dX5_scoop_48 : decode cX5_scoop 48 = .ok (.aload_n 0, 1) := by decide +kernel
theorem dX5_scoop_49 : decode cX5_scoop 49 = .ok (.getfield 10, 3) := by decide +kernel
theorem dX5_scoop_52 : decode cX5_scoop 52 = .ok (.getfield 130, 3) := by decide +kernel
theorem dX5_scoop_55 : decode cX5_scoop 55 = .ok (.iload_n 1, 1) := by decide +kernel
theorem dX5_scoop_56 : decode cX5_scoop 56 = .ok (.iload_n 2, 1) := by decide +kernel
theorem dX5_scoop_57 : decode cX5_scoop 57 = .ok (.invokevirtual 146, 3) := by decide +kernel
theorem dX5_scoop_60 : decode cX5_scoop 60 = .ok (.aload_n 0, 1) := by decide +kernel
theorem dX5_scoop_61 : decode cX5_scoop 61 = .ok (.getfield 10, 3) := by decide +kernel
theorem dX5_scoop_64 : decode cX5_scoop 64 = .ok (.getfield 130, 3) := by decide +kernel
theorem dX5_scoop_67 : decode cX5_scoop 67 = .ok (.getfield 137, 3) := by decide +kernel
theorem dX5_scoop_70 : decode cX5_scoop 70 = .ok (.iconst 1, 1) := by decide +kernel
theorem dX5_scoop_71 : decode cX5_scoop 71 = .ok (.isub, 1) := by decide +kernel
theorem dX5_scoop_72 : decode cX5_scoop 72 = .ok (.ireturn, 1) := by decide +kernel
def fX5_scoop_20 (s : SS) : Option (Int32 × SS) := ((fX5_refuse (-2 : Int32) s).bind fun z1 => some (z1.1, z1.2))
def fX5_scoop_0 (x1 : Int32) (x2 : Int32) (s : SS) : Option (Int32 × SS) := ((fX5_isWithin x1 (0 : Int32) (9 : Int32) s).bind fun z1 => if z1.1 = 0 then (fX5_scoop_20 s) else (((fX5_isWithin x2 (0 : Int32) (99 : Int32) s).bind fun z3 => if z3.1 = 0 then (fX5_scoop_20 s) else (if (s.1 2 11) < (3 : Int32) then (((fX0_putOnTop x1 x2 (selS (fun k => 2 + k) s)).bind fun z6 => some (((mrgS (fun k => 2 + k) 5 s z6.2).1 2 11) - (1 : Int32), mrgS (fun k => 2 + k) 5 s z6.2))) else (((fX5_refuse (-6 : Int32) s).bind fun z7 => some (z7.1, z7.2)))))))
def fX5_scoop (x1 : Int32) (x2 : Int32) (s : SS) : Option (Int32 × SS) := fX5_scoop_0 x1 x2 s
set_option maxRecDepth 100000 in
set_option maxHeartbeats 4000000 in
theorem okX5_scoop_20 {G : GG} {pl : Nat → Nat} {h0 : PH} (s : SS) : EvF G 2 mX5_scoop lyM pl h0 rvI (fX5_scoop_20 s) 20 [(0, .ref (pl 0))] [] s := by
  unfold fX5_scoop_20
  refine ef_aload_n (q := 21) 0 dX5_scoop_20 rfl rfl rfl ?_
  refine ef_bipush (v := (-2 : Int32)) (q := 23) dX5_scoop_21 (by decide) rfl ?_
  refine ef_invVI0 (k := 0) (As := [.int (-2 : Int32)]) (rest := []) (q := 26) (okX5_refuse (-2 : Int32)) rfl calX5_refuse ml5_66 (by decide) rfl rfl rfl (Nat.le_of_ble_eq_true rfl) dX5_scoop_23 rfl (fun z1 => ?_)
  exact ef_iret rfl dX5_scoop_26
set_option maxRecDepth 100000 in
set_option maxHeartbeats 4000000 in
theorem okX5_scoop_0 {G : GG} {pl : Nat → Nat} {h0 : PH} (x1 : Int32) (x2 : Int32) (s : SS) : EvF G 2 mX5_scoop lyM pl h0 rvI (fX5_scoop_0 x1 x2 s) 0 [(0, .ref (pl 0)), (1, .int x1), (2, .int x2)] [] s := by
  unfold fX5_scoop_0
  refine ef_iload_n (q := 1) 1 dX5_scoop_0 rfl rfl rfl ?_
  refine ef_iconst (v := (0 : Int32)) (q := 2) dX5_scoop_1 (by decide) rfl ?_
  refine ef_bipush (v := (9 : Int32)) (q := 4) dX5_scoop_2 (by decide) rfl ?_
  refine ef_invPI0 (As := [.int x1, .int (0 : Int32), .int (9 : Int32)]) (rest := []) (q := 7) (okX5_isWithin x1 (0 : Int32) (9 : Int32)) rfl calX5_isWithin ml5_62 (by decide) rfl rfl (Nat.le_of_ble_eq_true rfl) dX5_scoop_4 rfl (fun z1 => ?_)
  refine ef_if (pt := 20) (pf := 10) (fun _ _ => ev_if_eq (tgt := 20) dX5_scoop_7 (by decide)) (fun h2 => ?_) (fun h2 => ?_)
  · refine ef_sub (lv' := [(0, .ref (pl 0))]) [0] rfl ?_
    exact okX5_scoop_20 s
  · refine ef_iload_n (q := 11) 2 dX5_scoop_10 rfl rfl rfl ?_
    refine ef_iconst (v := (0 : Int32)) (q := 12) dX5_scoop_11 (by decide) rfl ?_
    refine ef_bipush (v := (99 : Int32)) (q := 14) dX5_scoop_12 (by decide) rfl ?_
    refine ef_invPI0 (As := [.int x2, .int (0 : Int32), .int (99 : Int32)]) (rest := []) (q := 17) (okX5_isWithin x2 (0 : Int32) (99 : Int32)) rfl calX5_isWithin ml5_62 (by decide) rfl rfl (Nat.le_of_ble_eq_true rfl) dX5_scoop_14 rfl (fun z3 => ?_)
    refine ef_if (pt := 20) (pf := 27) (fun _ _ kt kf => ev_if_ne (tgt := 27) dX5_scoop_17 (by decide) kf kt) (fun h4 => ?_) (fun h4 => ?_)
    · refine ef_sub (lv' := [(0, .ref (pl 0))]) [0] rfl ?_
      exact okX5_scoop_20 s
    · refine ef_aload_n (q := 28) 0 dX5_scoop_27 rfl rfl rfl ?_
      refine ef_getR (t := 1) (q := 31) rfl fl5_10 rfl rfl dX5_scoop_28 rfl ?_
      refine ef_getR (t := 2) (q := 34) rfl fl5_130 rfl rfl dX5_scoop_31 rfl ?_
      refine ef_getI (x := s.1 2 11) (q := 37) rfl fl5_137 rfl rfl dX5_scoop_34 rfl ?_
      refine ef_iconst (v := (3 : Int32)) (q := 38) dX5_scoop_37 (by decide) rfl ?_
      refine ef_if (pt := 48) (pf := 41) (fun _ _ => ev_icmp_lt (tgt := 48) dX5_scoop_38 (by decide)) (fun h5 => ?_) (fun h5 => ?_)
      · refine ef_aload_n (q := 49) 0 dX5_scoop_48 rfl rfl rfl ?_
        refine ef_getR (t := 1) (q := 52) rfl fl5_10 rfl rfl dX5_scoop_49 rfl ?_
        refine ef_getR (t := 2) (q := 55) rfl fl5_130 rfl rfl dX5_scoop_52 rfl ?_
        refine ef_iload_n (q := 56) 1 dX5_scoop_55 rfl rfl rfl ?_
        refine ef_iload_n (q := 57) 2 dX5_scoop_56 rfl rfl rfl ?_
        refine ef_invVU (k := 2) (nn := 5) (π := (fun k => 2 + k)) (As := [.int x1, .int x2]) (rest := []) (q := 60) (okX0_putOnTop x1 x2) (by decide +kernel) rfl calX0_putOnTop ml5_146 (by decide) rfl rfl rfl (Nat.le_of_ble_eq_true rfl) dX5_scoop_57 rfl rfl (fun z6 => ?_)
        refine ef_aload_n (q := 61) 0 dX5_scoop_60 rfl rfl rfl ?_
        refine ef_getR (t := 1) (q := 64) rfl fl5_10 rfl rfl dX5_scoop_61 rfl ?_
        refine ef_getR (t := 2) (q := 67) rfl fl5_130 rfl rfl dX5_scoop_64 rfl ?_
        refine ef_getI (x := (mrgS (fun k => 2 + k) 5 s z6.2).1 2 11) (q := 70) rfl fl5_137 rfl rfl dX5_scoop_67 rfl ?_
        refine ef_iconst (v := (1 : Int32)) (q := 71) dX5_scoop_70 (by decide) rfl ?_
        refine ef_isub (q := 72) dX5_scoop_71 rfl ?_
        exact ef_iret rfl dX5_scoop_72
      · refine ef_aload_n (q := 42) 0 dX5_scoop_41 rfl rfl rfl ?_
        refine ef_bipush (v := (-6 : Int32)) (q := 44) dX5_scoop_42 (by decide) rfl ?_
        refine ef_invVI0 (k := 0) (As := [.int (-6 : Int32)]) (rest := []) (q := 47) (okX5_refuse (-6 : Int32)) rfl calX5_refuse ml5_66 (by decide) rfl rfl rfl (Nat.le_of_ble_eq_true rfl) dX5_scoop_44 rfl (fun z7 => ?_)
        exact ef_iret rfl dX5_scoop_47
theorem okX5_scoop (x1 : Int32) (x2 : Int32) : MtF 2 mX5_scoop lyM rvI (fun _ pl => [.ref (pl 0), .int x1, .int x2]) (fX5_scoop x1 x2) := by
  refine MtF.of (by decide +kernel) rfl (fun _ pl => Nat.le_of_ble_eq_true rfl) (fun G pl h0 s => ?_)
  refine ef_sub (lv := [(0, .ref (pl 0)), (1, .int x1), (2, .int x2)]) (lv' := [(0, .ref (pl 0)), (1, .int x1), (2, .int x2)]) [0, 1, 2] rfl ?_
  exact okX5_scoop_0  x1 x2 s
-- X5_sun
theorem dX5_sun_0 : decode cX5_sun 0 = .ok (.iload_n 1, 1) := by decide +kernel
theorem dX5_sun_1 : decode cX5_sun 1 = .ok (.iconst 0, 1) := by decide +kernel
theorem dX5_sun_2 : decode cX5_sun 2 = .ok (.aload_n 0, 1) := by decide +kernel
theorem dX5_sun_3 : decode cX5_sun 3 = .ok (.getfield 10, 3) := by decide +kernel
theorem dX5_sun_6 : decode cX5_sun 6 = .ok (.getfield 130, 3) := by decide +kernel
theorem dX5_sun_9 : decode cX5_sun 9 = .ok (.invokevirtual 149, 3) := by decide +kernel
theorem dX5_sun_12 : decode cX5_sun 12 = .ok (.invokestatic 62, 3) := by decide +kernel
theorem dX5_sun_15 : decode cX5_sun 15 = .ok (.ifCond .ne 10, 3) := by decide +kernel
theorem dX5_sun_18 : decode cX5_sun 18 = .ok (.aload_n 0, 1) := by decide +kernel
theorem dX5_sun_19 : decode cX5_sun 19 = .ok (.bipush (-2), 2) := by decide +kernel
theorem dX5_sun_21 : decode cX5_sun 21 = .ok (.invokevirtual 66, 3) := by decide +kernel
theorem dX5_sun_24 : decode cX5_sun 24 = .ok (.ireturn, 1) := by decide +kernel
theorem dX5_sun_25 : decode cX5_sun 25 = .ok (.aload_n 0, 1) := by decide +kernel
theorem dX5_sun_26 : decode cX5_sun 26 = .ok (.getfield 10, 3) := by decide +kernel
theorem dX5_sun_29 : decode cX5_sun 29 = .ok (.getfield 130, 3) := by decide +kernel
theorem dX5_sun_32 : decode cX5_sun 32 = .ok (.getfield 152, 3) := by decide +kernel
theorem dX5_sun_35 : decode cX5_sun 35 = .ok (.istore_n 2, 1) := by decide +kernel
theorem dX5_sun_36 : decode cX5_sun 36 = .ok (.aload_n 0, 1) := by decide +kernel
theorem dX5_sun_37 : decode cX5_sun 37 = .ok (.getfield 10, 3) := by decide +kernel
theorem dX5_sun_40 : decode cX5_sun 40 = .ok (.getfield 130, 3) := by decide +kernel
theorem dX5_sun_43 : decode cX5_sun 43 = .ok (.iload_n 1, 1) := by decide +kernel
theorem dX5_sun_44 : decode cX5_sun 44 = .ok (.putfield 152, 3) := by decide +kernel
theorem dX5_sun_47 : decode cX5_sun 47 = .ok (.iload_n 2, 1) := by decide +kernel
theorem dX5_sun_48 : decode cX5_sun 48 = .ok (.ireturn, 1) := by decide +kernel
def fX5_sun_0 (x1 : Int32) (s : SS) : Option (Int32 × SS) := ((fX0_allPlaces (selS (fun k => 2 + k) s)).bind fun z1 => ((fX5_isWithin x1 (0 : Int32) z1.1 (mrgS (fun k => 2 + k) 5 s z1.2)).bind fun z2 => if z2.1 = 0 then (((fX5_refuse (-2 : Int32) (mrgS (fun k => 2 + k) 5 s z1.2)).bind fun z4 => some (z4.1, z4.2))) else (some ((mrgS (fun k => 2 + k) 5 s z1.2).1 2 2, wrI (mrgS (fun k => 2 + k) 5 s z1.2) 2 2 x1))))
def fX5_sun (x1 : Int32) (s : SS) : Option (Int32 × SS) := fX5_sun_0 x1 s
set_option maxRecDepth 100000 in
set_option maxHeartbeats 4000000 in
theorem okX5_sun_0 {G : GG} {pl : Nat → Nat} {h0 : PH} (x1 : Int32) (s : SS) : EvF G 2 mX5_sun lyM pl h0 rvI (fX5_sun_0 x1 s) 0 [(0, .ref (pl 0)), (1, .int x1)] [] s := by
  unfold fX5_sun_0
  refine ef_iload_n (q := 1) 1 dX5_sun_0 rfl rfl rfl ?_
  refine ef_iconst (v := (0 : Int32)) (q := 2) dX5_sun_1 (by decide) rfl ?_
  refine ef_aload_n (q := 3) 0 dX5_sun_2 rfl rfl rfl ?_
  refine ef_getR (t := 1) (q := 6) rfl fl5_10 rfl rfl dX5_sun_3 rfl ?_
  refine ef_getR (t := 2) (q := 9) rfl fl5_130 rfl rfl dX5_sun_6 rfl ?_
  refine ef_invVI (k := 2) (nn := 5) (π := (fun k => 2 + k)) (As := []) (rest := [.int (0 : Int32), .int x1]) (q := 12) (okX0_allPlaces) (by decide +kernel) rfl calX0_allPlaces ml5_149 (by decide) rfl rfl rfl (Nat.le_of_ble_eq_true rfl) dX5_sun_9 rfl rfl (fun z1 => ?_)
  refine ef_invPI0 (As := [.int x1, .int (0 : Int32), .int z1.1]) (rest := []) (q := 15) (okX5_isWithin x1 (0 : Int32) z1.1) rfl calX5_isWithin ml5_62 (by decide) rfl rfl (Nat.le_of_ble_eq_true rfl) dX5_sun_12 rfl (fun z2 => ?_)
  refine ef_if (pt := 18) (pf := 25) (fun _ _ kt kf => ev_if_ne (tgt := 25) dX5_sun_15 (by decide) kf kt) (fun h3 => ?_) (fun h3 => ?_)
  · refine ef_aload_n (q := 19) 0 dX5_sun_18 rfl rfl rfl ?_
    refine ef_bipush (v := (-2 : Int32)) (q := 21) dX5_sun_19 (by decide) rfl ?_
    refine ef_invVI0 (k := 0) (As := [.int (-2 : Int32)]) (rest := []) (q := 24) (okX5_refuse (-2 : Int32)) rfl calX5_refuse ml5_66 (by decide) rfl rfl rfl (Nat.le_of_ble_eq_true rfl) dX5_sun_21 rfl (fun z4 => ?_)
    exact ef_iret rfl dX5_sun_24
  · refine ef_aload_n (q := 26) 0 dX5_sun_25 rfl rfl rfl ?_
    refine ef_getR (t := 1) (q := 29) rfl fl5_10 rfl rfl dX5_sun_26 rfl ?_
    refine ef_getR (t := 2) (q := 32) rfl fl5_130 rfl rfl dX5_sun_29 rfl ?_
    refine ef_getI (x := (mrgS (fun k => 2 + k) 5 s z1.2).1 2 2) (q := 35) rfl fl5_152 rfl rfl dX5_sun_32 rfl ?_
    refine ef_istore_n (lv' := [(2, .int ((mrgS (fun k => 2 + k) 5 s z1.2).1 2 2)), (0, .ref (pl 0)), (1, .int x1)]) (q := 36) dX5_sun_35 rfl (by decide) rfl rfl ?_
    refine ef_aload_n (q := 37) 1 dX5_sun_36 rfl rfl rfl ?_
    refine ef_getR (t := 1) (q := 40) rfl fl5_10 rfl rfl dX5_sun_37 rfl ?_
    refine ef_getR (t := 2) (q := 43) rfl fl5_130 rfl rfl dX5_sun_40 rfl ?_
    refine ef_iload_n (q := 44) 2 dX5_sun_43 rfl rfl rfl ?_
    refine ef_putI (q := 47) rfl fl5_152 rfl rfl dX5_sun_44 rfl ?_
    refine ef_iload_n (q := 48) 0 dX5_sun_47 rfl rfl rfl ?_
    exact ef_iret rfl dX5_sun_48
theorem okX5_sun (x1 : Int32) : MtF 2 mX5_sun lyM rvI (fun _ pl => [.ref (pl 0), .int x1]) (fX5_sun x1) := by
  refine MtF.of (by decide +kernel) rfl (fun _ pl => Nat.le_of_ble_eq_true rfl) (fun G pl h0 s => ?_)
  refine ef_sub (lv := [(0, .ref (pl 0)), (1, .int x1)]) (lv' := [(0, .ref (pl 0)), (1, .int x1)]) [0, 1] rfl ?_
  exact okX5_sun_0  x1 s
-- X5_isSide
theorem dX5_isSide_0 : decode cX5_isSide 0 = .ok (.iload_n 1, 1) := by decide +kernel
theorem dX5_isSide_1 : decode cX5_isSide 1 = .ok (.iconst 0, 1) := by decide +kernel
theorem dX5_isSide_2 : decode cX5_isSide 2 = .ok (.aload_n 0, 1) := by decide +kernel
theorem dX5_isSide_3 : decode cX5_isSide 3 = .ok (.getfield 10, 3) := by decide +kernel
theorem dX5_isSide_6 : decode cX5_isSide 6 = .ok (.getfield 130, 3) := by decide +kernel
theorem dX5_isSide_9 : decode cX5_isSide 9 = .ok (.getfield 140, 3) := by decide +kernel
theorem dX5_isSide_12 : decode cX5_isSide 12 = .ok (.iconst 1, 1) := by decide +kernel
theorem dX5_isSide_13 : decode cX5_isSide 13 = .ok (.isub, 1) := by decide +kernel
theorem dX5_isSide_14 : decode cX5_isSide 14 = .ok (.invokestatic 62, 3) := by decide +kernel
theorem dX5_isSide_17 : decode cX5_isSide 17 = .ok (.ireturn, 1) := by decide +kernel
def fX5_isSide_0 (x1 : Int32) (s : SS) : Option (Int32 × SS) := ((fX5_isWithin x1 (0 : Int32) ((s.1 2 0) - (1 : Int32)) s).bind fun z1 => some (nbZ z1.1, s))
def fX5_isSide (x1 : Int32) (s : SS) : Option (Int32 × SS) := fX5_isSide_0 x1 s
set_option maxRecDepth 100000 in
set_option maxHeartbeats 4000000 in
theorem okX5_isSide_0 {G : GG} {pl : Nat → Nat} {h0 : PH} (x1 : Int32) (s : SS) : EvF G 1 mX5_isSide lyM pl h0 rvI (fX5_isSide_0 x1 s) 0 [(0, .ref (pl 0)), (1, .int x1)] [] s := by
  unfold fX5_isSide_0
  refine ef_iload_n (q := 1) 1 dX5_isSide_0 rfl rfl rfl ?_
  refine ef_iconst (v := (0 : Int32)) (q := 2) dX5_isSide_1 (by decide) rfl ?_
  refine ef_aload_n (q := 3) 0 dX5_isSide_2 rfl rfl rfl ?_
  refine ef_getR (t := 1) (q := 6) rfl fl5_10 rfl rfl dX5_isSide_3 rfl ?_
  refine ef_getR (t := 2) (q := 9) rfl fl5_130 rfl rfl dX5_isSide_6 rfl ?_
  refine ef_getI (x := s.1 2 0) (q := 12) rfl fl5_140 rfl rfl dX5_isSide_9 rfl ?_
  refine ef_iconst (v := (1 : Int32)) (q := 13) dX5_isSide_12 (by decide) rfl ?_
  refine ef_isub (q := 14) dX5_isSide_13 rfl ?_
  refine ef_invPI0 (As := [.int x1, .int (0 : Int32), .int ((s.1 2 0) - (1 : Int32))]) (rest := []) (q := 17) (okX5_isWithin x1 (0 : Int32) ((s.1 2 0) - (1 : Int32))) rfl calX5_isWithin ml5_62 (by decide) rfl rfl (Nat.le_of_ble_eq_true rfl) dX5_isSide_14 rfl (fun z1 => ?_)
  exact ef_zret rfl dX5_isSide_17
theorem okX5_isSide (x1 : Int32) : MtF 1 mX5_isSide lyM rvI (fun _ pl => [.ref (pl 0), .int x1]) (fX5_isSide x1) := by
  refine MtF.of (by decide +kernel) rfl (fun _ pl => Nat.le_of_ble_eq_true rfl) (fun G pl h0 s => ?_)
  refine ef_sub (lv := [(0, .ref (pl 0)), (1, .int x1)]) (lv' := [(0, .ref (pl 0)), (1, .int x1)]) [0, 1] rfl ?_
  exact okX5_isSide_0  x1 s
-- X5_canAsk
theorem dX5_canAsk_0 : decode cX5_canAsk 0 = .ok (.iload_n 1, 1) := by decide +kernel
theorem dX5_canAsk_1 : decode cX5_canAsk 1 = .ok (.tableswitch 74 0 4 #[35, 43, 51, 59, 68], 35) := by decide +kernel
theorem dX5_canAsk_36 : decode cX5_canAsk 36 = .ok (.iload_n 2, 1) := by decide +kernel
theorem dX5_canAsk_37 : decode cX5_canAsk 37 = .ok (.iconst 0, 1) := by decide +kernel
theorem dX5_canAsk_38 : decode cX5_canAsk 38 = .ok (.bipush 20, 2) := by decide +kernel
theorem dX5_canAsk_40 : decode cX5_canAsk 40 = .ok (.invokestatic 62, 3) := by decide +kernel
theorem dX5_canAsk_43 : decode cX5_canAsk 43 = .ok (.ireturn, 1) := by decide +kernel
theorem dX5_canAsk_44 : decode cX5_canAsk 44 = .ok (.iload_n 2, 1) := by decide +kernel
theorem dX5_canAsk_45 : decode cX5_canAsk 45 = .ok (.iconst 0, 1) := by decide +kernel
theorem dX5_canAsk_46 : decode cX5_canAsk 46 = .ok (.bipush 20, 2) := by decide +kernel
theorem dX5_canAsk_48 : decode cX5_canAsk 48 = .ok (.invokestatic 62, 3) := by decide +kernel
theorem dX5_canAsk_51 : decode cX5_canAsk 51 = .ok (.ireturn, 1) := by decide +kernel
theorem dX5_canAsk_52 : decode cX5_canAsk 52 = .ok (.iload_n 2, 1) := by decide +kernel
theorem dX5_canAsk_53 : decode cX5_canAsk 53 = .ok (.iconst 1, 1) := by decide +kernel
theorem dX5_canAsk_54 : decode cX5_canAsk 54 = .ok (.bipush 20, 2) := by decide +kernel
theorem dX5_canAsk_56 : decode cX5_canAsk 56 = .ok (.invokestatic 62, 3) := by decide +kernel
theorem dX5_canAsk_59 : decode cX5_canAsk 59 = .ok (.ireturn, 1) := by decide +kernel
theorem dX5_canAsk_60 : decode cX5_canAsk 60 = .ok (.iload_n 2, 1) := by decide +kernel
theorem dX5_canAsk_61 : decode cX5_canAsk 61 = .ok (.iconst 1, 1) := by decide +kernel
theorem dX5_canAsk_62 : decode cX5_canAsk 62 = .ok (.sipush 999, 3) := by decide +kernel
theorem dX5_canAsk_65 : decode cX5_canAsk 65 = .ok (.invokestatic 62, 3) := by decide +kernel
theorem dX5_canAsk_68 : decode cX5_canAsk 68 = .ok (.ireturn, 1) := by decide +kernel
theorem dX5_canAsk_69 : decode cX5_canAsk 69 = .ok (.aload_n 0, 1) := by decide +kernel
theorem dX5_canAsk_70 : decode cX5_canAsk 70 = .ok (.iload_n 2, 1) := by decide +kernel
theorem dX5_canAsk_71 : decode cX5_canAsk 71 = .ok (.invokevirtual 203, 3) := by decide +kernel
theorem dX5_canAsk_74 : decode cX5_canAsk 74 = .ok (.ireturn, 1) := by decide +kernel
theorem dX5_canAsk_75 : decode cX5_canAsk 75 = .ok (.iconst 0, 1) := by decide +kernel
theorem dX5_canAsk_76 : decode cX5_canAsk 76 = .ok (.ireturn, 1) := by decide +kernel
def fX5_canAsk_0 (x1 : Int32) (x2 : Int32) (s : SS) : Option (Int32 × SS) := if x1 = (0 : Int32) then (((fX5_isWithin x2 (0 : Int32) (20 : Int32) s).bind fun z2 => some (nbZ z2.1, s))) else (if x1 = (1 : Int32) then (((fX5_isWithin x2 (0 : Int32) (20 : Int32) s).bind fun z4 => some (nbZ z4.1, s))) else (if x1 = (2 : Int32) then (((fX5_isWithin x2 (1 : Int32) (20 : Int32) s).bind fun z6 => some (nbZ z6.1, s))) else (if x1 = (3 : Int32) then (((fX5_isWithin x2 (1 : Int32) (999 : Int32) s).bind fun z8 => some (nbZ z8.1, s))) else (if x1 = (4 : Int32) then (((fX5_isSide x2 s).bind fun z10 => some (nbZ z10.1, z10.2))) else (some ((0 : Int32), s))))))
def fX5_canAsk (x1 : Int32) (x2 : Int32) (s : SS) : Option (Int32 × SS) := fX5_canAsk_0 x1 x2 s
set_option maxRecDepth 100000 in
set_option maxHeartbeats 4000000 in
theorem okX5_canAsk_0 {G : GG} {pl : Nat → Nat} {h0 : PH} (x1 : Int32) (x2 : Int32) (s : SS) : EvF G 2 mX5_canAsk lyM pl h0 rvI (fX5_canAsk_0 x1 x2 s) 0 [(0, .ref (pl 0)), (1, .int x1), (2, .int x2)] [] s := by
  unfold fX5_canAsk_0
  refine ef_iload_n (q := 1) 1 dX5_canAsk_0 rfl rfl rfl ?_
  refine ef_dec (fun h1 => ?_) (fun h1 => ?_)
  · refine ef_of (fun _ _ => ev_tableIn (tgt := 36) dX5_canAsk_1 (by rw [h1]; decide) (by rw [h1]; decide) (off := 35) (by rw [h1]; rfl) (by decide)) ?_
    refine ef_iload_n (q := 37) 2 dX5_canAsk_36 rfl rfl rfl ?_
    refine ef_iconst (v := (0 : Int32)) (q := 38) dX5_canAsk_37 (by decide) rfl ?_
    refine ef_bipush (v := (20 : Int32)) (q := 40) dX5_canAsk_38 (by decide) rfl ?_
    refine ef_invPI0 (As := [.int x2, .int (0 : Int32), .int (20 : Int32)]) (rest := []) (q := 43) (okX5_isWithin x2 (0 : Int32) (20 : Int32)) rfl calX5_isWithin ml5_62 (by decide) rfl rfl (Nat.le_of_ble_eq_true rfl) dX5_canAsk_40 rfl (fun z2 => ?_)
    exact ef_zret rfl dX5_canAsk_43
  refine ef_dec (fun h3 => ?_) (fun h3 => ?_)
  · refine ef_of (fun _ _ => ev_tableIn (tgt := 44) dX5_canAsk_1 (by rw [h3]; decide) (by rw [h3]; decide) (off := 43) (by rw [h3]; rfl) (by decide)) ?_
    refine ef_iload_n (q := 45) 2 dX5_canAsk_44 rfl rfl rfl ?_
    refine ef_iconst (v := (0 : Int32)) (q := 46) dX5_canAsk_45 (by decide) rfl ?_
    refine ef_bipush (v := (20 : Int32)) (q := 48) dX5_canAsk_46 (by decide) rfl ?_
    refine ef_invPI0 (As := [.int x2, .int (0 : Int32), .int (20 : Int32)]) (rest := []) (q := 51) (okX5_isWithin x2 (0 : Int32) (20 : Int32)) rfl calX5_isWithin ml5_62 (by decide) rfl rfl (Nat.le_of_ble_eq_true rfl) dX5_canAsk_48 rfl (fun z4 => ?_)
    exact ef_zret rfl dX5_canAsk_51
  refine ef_dec (fun h5 => ?_) (fun h5 => ?_)
  · refine ef_of (fun _ _ => ev_tableIn (tgt := 52) dX5_canAsk_1 (by rw [h5]; decide) (by rw [h5]; decide) (off := 51) (by rw [h5]; rfl) (by decide)) ?_
    refine ef_iload_n (q := 53) 2 dX5_canAsk_52 rfl rfl rfl ?_
    refine ef_iconst (v := (1 : Int32)) (q := 54) dX5_canAsk_53 (by decide) rfl ?_
    refine ef_bipush (v := (20 : Int32)) (q := 56) dX5_canAsk_54 (by decide) rfl ?_
    refine ef_invPI0 (As := [.int x2, .int (1 : Int32), .int (20 : Int32)]) (rest := []) (q := 59) (okX5_isWithin x2 (1 : Int32) (20 : Int32)) rfl calX5_isWithin ml5_62 (by decide) rfl rfl (Nat.le_of_ble_eq_true rfl) dX5_canAsk_56 rfl (fun z6 => ?_)
    exact ef_zret rfl dX5_canAsk_59
  refine ef_dec (fun h7 => ?_) (fun h7 => ?_)
  · refine ef_of (fun _ _ => ev_tableIn (tgt := 60) dX5_canAsk_1 (by rw [h7]; decide) (by rw [h7]; decide) (off := 59) (by rw [h7]; rfl) (by decide)) ?_
    refine ef_iload_n (q := 61) 2 dX5_canAsk_60 rfl rfl rfl ?_
    refine ef_iconst (v := (1 : Int32)) (q := 62) dX5_canAsk_61 (by decide) rfl ?_
    refine ef_sipush (v := (999 : Int32)) (q := 65) dX5_canAsk_62 (by decide) rfl ?_
    refine ef_invPI0 (As := [.int x2, .int (1 : Int32), .int (999 : Int32)]) (rest := []) (q := 68) (okX5_isWithin x2 (1 : Int32) (999 : Int32)) rfl calX5_isWithin ml5_62 (by decide) rfl rfl (Nat.le_of_ble_eq_true rfl) dX5_canAsk_65 rfl (fun z8 => ?_)
    exact ef_zret rfl dX5_canAsk_68
  refine ef_dec (fun h9 => ?_) (fun h9 => ?_)
  · refine ef_of (fun _ _ => ev_tableIn (tgt := 69) dX5_canAsk_1 (by rw [h9]; decide) (by rw [h9]; decide) (off := 68) (by rw [h9]; rfl) (by decide)) ?_
    refine ef_aload_n (q := 70) 0 dX5_canAsk_69 rfl rfl rfl ?_
    refine ef_iload_n (q := 71) 2 dX5_canAsk_70 rfl rfl rfl ?_
    refine ef_invVI0 (k := 0) (As := [.int x2]) (rest := []) (q := 74) (okX5_isSide x2) rfl calX5_isSide ml5_203 (by decide) rfl rfl rfl (Nat.le_of_ble_eq_true rfl) dX5_canAsk_71 rfl (fun z10 => ?_)
    exact ef_zret rfl dX5_canAsk_74
  have hsw : (x1 : Int32).toInt < 0 ∨ 4 < (x1 : Int32).toInt := by
    have th1 := ne_toI (k := 0) h1 (by decide)
    have th3 := ne_toI (k := 1) h3 (by decide)
    have th5 := ne_toI (k := 2) h5 (by decide)
    have th7 := ne_toI (k := 3) h7 (by decide)
    have th9 := ne_toI (k := 4) h9 (by decide)
    omega
  refine ef_of (fun _ _ => ev_tableOut (tgt := 75) dX5_canAsk_1 hsw (by decide)) ?_
  refine ef_iconst (v := (0 : Int32)) (q := 76) dX5_canAsk_75 (by decide) rfl ?_
  exact ef_zretc (x := (0 : Int32)) (by decide) rfl dX5_canAsk_76
theorem okX5_canAsk (x1 : Int32) (x2 : Int32) : MtF 2 mX5_canAsk lyM rvI (fun _ pl => [.ref (pl 0), .int x1, .int x2]) (fX5_canAsk x1 x2) := by
  refine MtF.of (by decide +kernel) rfl (fun _ pl => Nat.le_of_ble_eq_true rfl) (fun G pl h0 s => ?_)
  refine ef_sub (lv := [(0, .ref (pl 0)), (1, .int x1), (2, .int x2)]) (lv' := [(0, .ref (pl 0)), (1, .int x1), (2, .int x2)]) [0, 1, 2] rfl ?_
  exact okX5_canAsk_0  x1 x2 s
-- X5_ask
theorem dX5_ask_0 : decode cX5_ask 0 = .ok (.aload_n 0, 1) := by decide +kernel
theorem dX5_ask_1 : decode cX5_ask 1 = .ok (.iload_n 1, 1) := by decide +kernel
theorem dX5_ask_2 : decode cX5_ask 2 = .ok (.iload_n 2, 1) := by decide +kernel
theorem dX5_ask_3 : decode cX5_ask 3 = .ok (.invokevirtual 155, 3) := by decide +kernel
theorem dX5_ask_6 : decode cX5_ask 6 = .ok (.ifCond .ne 10, 3) := by decide +kernel
theorem dX5_ask_9 : decode cX5_ask 9 = .ok (.aload_n 0, 1) := by decide +kernel
theorem dX5_ask_10 : decode cX5_ask 10 = .ok (.bipush (-2), 2) := by decide +kernel
theorem dX5_ask_12 : decode cX5_ask 12 = .ok (.invokevirtual 66, 3) := by decide +kernel
theorem dX5_ask_15 : decode cX5_ask 15 = .ok (.ireturn, 1) := by decide +kernel
theorem dX5_ask_16 : decode cX5_ask 16 = .ok (.aload_n 0, 1) := by decide +kernel
theorem dX5_ask_17 : decode cX5_ask 17 = .ok (.getfield 10, 3) := by decide +kernel
theorem dX5_ask_20 : decode cX5_ask 20 = .ok (.getfield 130, 3) := by decide +kernel
theorem dX5_ask_23 : decode cX5_ask 23 = .ok (.astore_n 3, 1) := by decide +kernel
theorem dX5_ask_24 : decode cX5_ask 24 = .ok (.iload_n 1, 1) := by decide +kernel
theorem dX5_ask_25 : decode cX5_ask 25 = .ok (.tableswitch 87 0 3 #[31, 45, 59, 73], 31) := by decide +kernel
theorem dX5_ask_56 : decode cX5_ask 56 = .ok (.aload_n 3, 1) := by decide +kernel
theorem dX5_ask_57 : decode cX5_ask 57 = .ok (.getfield 158, 3) := by decide +kernel
theorem dX5_ask_60 : decode cX5_ask 60 = .ok (.istore 4, 2) := by decide +kernel
theorem dX5_ask_62 : decode cX5_ask 62 = .ok (.aload_n 3, 1) := by decide +kernel
theorem dX5_ask_63 : decode cX5_ask 63 = .ok (.iload_n 2, 1) := by decide +kernel
theorem dX5_ask_64 : decode cX5_ask 64 = .ok (.putfield 158, 3) := by decide +kernel
theorem dX5_ask_67 : decode cX5_ask 67 = .ok (.iload 4, 2) := by decide +kernel
theorem dX5_ask_69 : decode cX5_ask 69 = .ok (.ireturn, 1) := by decide +kernel
theorem dX5_ask_70 : decode cX5_ask 70 = .ok (.aload_n 3, 1) := by decide +kernel
theorem dX5_ask_71 : decode cX5_ask 71 = .ok (.getfield 161, 3) := by decide +kernel
theorem dX5_ask_74 : decode cX5_ask 74 = .ok (.istore 4, 2) := by decide +kernel
theorem dX5_ask_76 : decode cX5_ask 76 = .ok (.aload_n 3, 1) := by decide +kernel
theorem dX5_ask_77 : decode cX5_ask 77 = .ok (.iload_n 2, 1) := by decide +kernel
theorem dX5_ask_78 : decode cX5_ask 78 = .ok (.putfield 161, 3) := by decide +kernel
theorem dX5_ask_81 : decode cX5_ask 81 = .ok (.iload 4, 2) := by decide +kernel
theorem dX5_ask_83 : decode cX5_ask 83 = .ok (.ireturn, 1) := by decide +kernel
theorem dX5_ask_84 : decode cX5_ask 84 = .ok (.aload_n 3, 1) := by decide +kernel
theorem dX5_ask_85 : decode cX5_ask 85 = .ok (.getfield 164, 3) := by decide +kernel
theorem dX5_ask_88 : decode cX5_ask 88 = .ok (.istore 4, 2) := by decide +kernel
theorem dX5_ask_90 : decode cX5_ask 90 = .ok (.aload_n 3, 1) := by decide +kernel
theorem dX5_ask_91 : decode cX5_ask 91 = .ok (.iload_n 2, 1) := by decide +kernel
theorem dX5_ask_92 : decode cX5_ask 92 = .ok (.putfield 164, 3) := by decide +kernel
theorem dX5_ask_95 : decode cX5_ask 95 = .ok (.iload 4, 2) := by decide +kernel
theorem dX5_ask_97 : decode cX5_ask 97 = .ok (.ireturn, 1) := by decide +kernel
theorem dX5_ask_98 : decode cX5_ask 98 = .ok (.aload_n 3, 1) := by decide +kernel
theorem dX5_ask_99 : decode cX5_ask 99 = .ok (.getfield 167, 3) := by decide +kernel
theorem dX5_ask_102 : decode cX5_ask 102 = .ok (.istore 4, 2) := by decide +kernel
theorem dX5_ask_104 : decode cX5_ask 104 = .ok (.aload_n 3, 1) := by decide +kernel
theorem dX5_ask_105 : decode cX5_ask 105 = .ok (.iload_n 2, 1) := by decide +kernel
theorem dX5_ask_106 : decode cX5_ask 106 = .ok (.putfield 167, 3) := by decide +kernel
theorem dX5_ask_109 : decode cX5_ask 109 = .ok (.iload 4, 2) := by decide +kernel
theorem dX5_ask_111 : decode cX5_ask 111 = .ok (.ireturn, 1) := by decide +kernel
theorem dX5_ask_112 : decode cX5_ask 112 = .ok (.aload_n 3, 1) := by decide +kernel
theorem dX5_ask_113 : decode cX5_ask 113 = .ok (.getfield 170, 3) := by decide +kernel
theorem dX5_ask_116 : decode cX5_ask 116 = .ok (.istore 4, 2) := by decide +kernel
theorem dX5_ask_118 : decode cX5_ask 118 = .ok (.aload_n 3, 1) := by decide +kernel
theorem dX5_ask_119 : decode cX5_ask 119 = .ok (.iload_n 2, 1) := by decide +kernel
theorem dX5_ask_120 : decode cX5_ask 120 = .ok (.putfield 170, 3) := by decide +kernel
theorem dX5_ask_123 : decode cX5_ask 123 = .ok (.iload 4, 2) := by decide +kernel
theorem dX5_ask_125 : decode cX5_ask 125 = .ok (.ireturn, 1) := by decide +kernel
def fX5_ask_0 (x1 : Int32) (x2 : Int32) (s : SS) : Option (Int32 × SS) := ((fX5_canAsk x1 x2 s).bind fun z1 => if z1.1 = 0 then (((fX5_refuse (-2 : Int32) z1.2).bind fun z3 => some (z3.1, z3.2))) else (if x1 = (0 : Int32) then (some (z1.2.1 2 3, wrI z1.2 2 3 x2)) else (if x1 = (1 : Int32) then (some (z1.2.1 2 4, wrI z1.2 2 4 x2)) else (if x1 = (2 : Int32) then (some (z1.2.1 2 5, wrI z1.2 2 5 x2)) else (if x1 = (3 : Int32) then (some (z1.2.1 2 6, wrI z1.2 2 6 x2)) else (some (z1.2.1 2 1, wrI z1.2 2 1 x2)))))))
def fX5_ask (x1 : Int32) (x2 : Int32) (s : SS) : Option (Int32 × SS) := fX5_ask_0 x1 x2 s
set_option maxRecDepth 100000 in
set_option maxHeartbeats 4000000 in
theorem okX5_ask_0 {G : GG} {pl : Nat → Nat} {h0 : PH} (x1 : Int32) (x2 : Int32) (s : SS) : EvF G 3 mX5_ask lyM pl h0 rvI (fX5_ask_0 x1 x2 s) 0 [(0, .ref (pl 0)), (1, .int x1), (2, .int x2)] [] s := by
  unfold fX5_ask_0
  refine ef_aload_n (q := 1) 0 dX5_ask_0 rfl rfl rfl ?_
  refine ef_iload_n (q := 2) 1 dX5_ask_1 rfl rfl rfl ?_
  refine ef_iload_n (q := 3) 2 dX5_ask_2 rfl rfl rfl ?_
  refine ef_invVI0 (k := 0) (As := [.int x1, .int x2]) (rest := []) (q := 6) (okX5_canAsk x1 x2) rfl calX5_canAsk ml5_155 (by decide) rfl rfl rfl (Nat.le_of_ble_eq_true rfl) dX5_ask_3 rfl (fun z1 => ?_)
  refine ef_if (pt := 9) (pf := 16) (fun _ _ kt kf => ev_if_ne (tgt := 16) dX5_ask_6 (by decide) kf kt) (fun h2 => ?_) (fun h2 => ?_)
  · refine ef_aload_n (q := 10) 0 dX5_ask_9 rfl rfl rfl ?_
    refine ef_bipush (v := (-2 : Int32)) (q := 12) dX5_ask_10 (by decide) rfl ?_
    refine ef_invVI0 (k := 0) (As := [.int (-2 : Int32)]) (rest := []) (q := 15) (okX5_refuse (-2 : Int32)) rfl calX5_refuse ml5_66 (by decide) rfl rfl rfl (Nat.le_of_ble_eq_true rfl) dX5_ask_12 rfl (fun z3 => ?_)
    exact ef_iret rfl dX5_ask_15
  · refine ef_aload_n (q := 17) 0 dX5_ask_16 rfl rfl rfl ?_
    refine ef_getR (t := 1) (q := 20) rfl fl5_10 rfl rfl dX5_ask_17 rfl ?_
    refine ef_getR (t := 2) (q := 23) rfl fl5_130 rfl rfl dX5_ask_20 rfl ?_
    refine ef_astore_n (lv' := [(3, .ref (pl 2)), (0, .ref (pl 0)), (1, .int x1), (2, .int x2)]) (q := 24) dX5_ask_23 rfl (by decide) rfl rfl ?_
    refine ef_iload_n (q := 25) 2 dX5_ask_24 rfl rfl rfl ?_
    refine ef_dec (fun h4 => ?_) (fun h4 => ?_)
    · refine ef_of (fun _ _ => ev_tableIn (tgt := 56) dX5_ask_25 (by rw [h4]; decide) (by rw [h4]; decide) (off := 31) (by rw [h4]; rfl) (by decide)) ?_
      refine ef_aload_n (q := 57) 0 dX5_ask_56 rfl rfl rfl ?_
      refine ef_getI (x := z1.2.1 2 3) (q := 60) rfl fl5_158 rfl rfl dX5_ask_57 rfl ?_
      refine ef_istore (lv' := [(4, .int (z1.2.1 2 3)), (3, .ref (pl 2)), (0, .ref (pl 0)), (1, .int x1), (2, .int x2)]) (q := 62) dX5_ask_60 (by decide) rfl rfl ?_
      refine ef_aload_n (q := 63) 1 dX5_ask_62 rfl rfl rfl ?_
      refine ef_iload_n (q := 64) 4 dX5_ask_63 rfl rfl rfl ?_
      refine ef_putI (q := 67) rfl fl5_158 rfl rfl dX5_ask_64 rfl ?_
      refine ef_iload (q := 69) 0 dX5_ask_67 rfl rfl ?_
      exact ef_iret rfl dX5_ask_69
    refine ef_dec (fun h5 => ?_) (fun h5 => ?_)
    · refine ef_of (fun _ _ => ev_tableIn (tgt := 70) dX5_ask_25 (by rw [h5]; decide) (by rw [h5]; decide) (off := 45) (by rw [h5]; rfl) (by decide)) ?_
      refine ef_aload_n (q := 71) 0 dX5_ask_70 rfl rfl rfl ?_
      refine ef_getI (x := z1.2.1 2 4) (q := 74) rfl fl5_161 rfl rfl dX5_ask_71 rfl ?_
      refine ef_istore (lv' := [(4, .int (z1.2.1 2 4)), (3, .ref (pl 2)), (0, .ref (pl 0)), (1, .int x1), (2, .int x2)]) (q := 76) dX5_ask_74 (by decide) rfl rfl ?_
      refine ef_aload_n (q := 77) 1 dX5_ask_76 rfl rfl rfl ?_
      refine ef_iload_n (q := 78) 4 dX5_ask_77 rfl rfl rfl ?_
      refine ef_putI (q := 81) rfl fl5_161 rfl rfl dX5_ask_78 rfl ?_
      refine ef_iload (q := 83) 0 dX5_ask_81 rfl rfl ?_
      exact ef_iret rfl dX5_ask_83
    refine ef_dec (fun h6 => ?_) (fun h6 => ?_)
    · refine ef_of (fun _ _ => ev_tableIn (tgt := 84) dX5_ask_25 (by rw [h6]; decide) (by rw [h6]; decide) (off := 59) (by rw [h6]; rfl) (by decide)) ?_
      refine ef_aload_n (q := 85) 0 dX5_ask_84 rfl rfl rfl ?_
      refine ef_getI (x := z1.2.1 2 5) (q := 88) rfl fl5_164 rfl rfl dX5_ask_85 rfl ?_
      refine ef_istore (lv' := [(4, .int (z1.2.1 2 5)), (3, .ref (pl 2)), (0, .ref (pl 0)), (1, .int x1), (2, .int x2)]) (q := 90) dX5_ask_88 (by decide) rfl rfl ?_
      refine ef_aload_n (q := 91) 1 dX5_ask_90 rfl rfl rfl ?_
      refine ef_iload_n (q := 92) 4 dX5_ask_91 rfl rfl rfl ?_
      refine ef_putI (q := 95) rfl fl5_164 rfl rfl dX5_ask_92 rfl ?_
      refine ef_iload (q := 97) 0 dX5_ask_95 rfl rfl ?_
      exact ef_iret rfl dX5_ask_97
    refine ef_dec (fun h7 => ?_) (fun h7 => ?_)
    · refine ef_of (fun _ _ => ev_tableIn (tgt := 98) dX5_ask_25 (by rw [h7]; decide) (by rw [h7]; decide) (off := 73) (by rw [h7]; rfl) (by decide)) ?_
      refine ef_aload_n (q := 99) 0 dX5_ask_98 rfl rfl rfl ?_
      refine ef_getI (x := z1.2.1 2 6) (q := 102) rfl fl5_167 rfl rfl dX5_ask_99 rfl ?_
      refine ef_istore (lv' := [(4, .int (z1.2.1 2 6)), (3, .ref (pl 2)), (0, .ref (pl 0)), (1, .int x1), (2, .int x2)]) (q := 104) dX5_ask_102 (by decide) rfl rfl ?_
      refine ef_aload_n (q := 105) 1 dX5_ask_104 rfl rfl rfl ?_
      refine ef_iload_n (q := 106) 4 dX5_ask_105 rfl rfl rfl ?_
      refine ef_putI (q := 109) rfl fl5_167 rfl rfl dX5_ask_106 rfl ?_
      refine ef_iload (q := 111) 0 dX5_ask_109 rfl rfl ?_
      exact ef_iret rfl dX5_ask_111
    have hsw : (x1 : Int32).toInt < 0 ∨ 3 < (x1 : Int32).toInt := by
      have th4 := ne_toI (k := 0) h4 (by decide)
      have th5 := ne_toI (k := 1) h5 (by decide)
      have th6 := ne_toI (k := 2) h6 (by decide)
      have th7 := ne_toI (k := 3) h7 (by decide)
      omega
    refine ef_of (fun _ _ => ev_tableOut (tgt := 112) dX5_ask_25 hsw (by decide)) ?_
    refine ef_aload_n (q := 113) 0 dX5_ask_112 rfl rfl rfl ?_
    refine ef_getI (x := z1.2.1 2 1) (q := 116) rfl fl5_170 rfl rfl dX5_ask_113 rfl ?_
    refine ef_istore (lv' := [(4, .int (z1.2.1 2 1)), (3, .ref (pl 2)), (0, .ref (pl 0)), (1, .int x1), (2, .int x2)]) (q := 118) dX5_ask_116 (by decide) rfl rfl ?_
    refine ef_aload_n (q := 119) 1 dX5_ask_118 rfl rfl rfl ?_
    refine ef_iload_n (q := 120) 4 dX5_ask_119 rfl rfl rfl ?_
    refine ef_putI (q := 123) rfl fl5_170 rfl rfl dX5_ask_120 rfl ?_
    refine ef_iload (q := 125) 0 dX5_ask_123 rfl rfl ?_
    exact ef_iret rfl dX5_ask_125
theorem okX5_ask (x1 : Int32) (x2 : Int32) : MtF 3 mX5_ask lyM rvI (fun _ pl => [.ref (pl 0), .int x1, .int x2]) (fX5_ask x1 x2) := by
  refine MtF.of (by decide +kernel) rfl (fun _ pl => Nat.le_of_ble_eq_true rfl) (fun G pl h0 s => ?_)
  refine ef_sub (lv := [(0, .ref (pl 0)), (1, .int x1), (2, .int x2)]) (lv' := [(0, .ref (pl 0)), (1, .int x1), (2, .int x2)]) [0, 1, 2] rfl ?_
  exact okX5_ask_0  x1 x2 s
-- X5_licker
theorem dX5_licker_0 : decode cX5_licker 0 = .ok (.iload_n 1, 1) := by decide +kernel
theorem dX5_licker_1 : decode cX5_licker 1 = .ok (.iconst 0, 1) := by decide +kernel
theorem dX5_licker_2 : decode cX5_licker 2 = .ok (.iconst 5, 1) := by decide +kernel
theorem dX5_licker_3 : decode cX5_licker 3 = .ok (.invokestatic 62, 3) := by decide +kernel
theorem dX5_licker_6 : decode cX5_licker 6 = .ok (.ifCond .eq 13, 3) := by decide +kernel
theorem dX5_licker_9 : decode cX5_licker 9 = .ok (.iload_n 2, 1) := by decide +kernel
theorem dX5_licker_10 : decode cX5_licker 10 = .ok (.iconst 0, 1) := by decide +kernel
theorem dX5_licker_11 : decode cX5_licker 11 = .ok (.bipush 9, 2) := by decide +kernel
theorem dX5_licker_13 : decode cX5_licker 13 = .ok (.invokestatic 62, 3) := by decide +kernel
theorem dX5_licker_16 : decode cX5_licker 16 = .ok (.ifCond .ne 10, 3) := by decide +kernel
theorem dX5_licker_19 : decode cX5_licker 19 = .ok (.aload_n 0, 1) := by decide +kernel
theorem dX5_licker_20 : decode cX5_licker 20 = .ok (.bipush (-2), 2) := by decide +kernel
theorem dX5_licker_22 : decode cX5_licker 22 = .ok (.invokevirtual 66, 3) := by decide +kernel
theorem dX5_licker_25 : decode cX5_licker 25 = .ok (.ireturn, 1) := by decide +kernel
theorem dX5_licker_26 : decode cX5_licker 26 = .ok (.aload_n 0, 1) := by decide +kernel
theorem dX5_licker_27 : decode cX5_licker 27 = .ok (.getfield 10, 3) := by decide +kernel
theorem dX5_licker_30 : decode cX5_licker 30 = .ok (.getfield 173, 3) := by decide +kernel
theorem dX5_licker_33 : decode cX5_licker 33 = .ok (.iconst 4, 1) := by decide +kernel
theorem dX5_licker_34 : decode cX5_licker 34 = .ok (.if_icmp .lt 10, 3) := by decide +kernel
theorem dX5_licker_37 : decode cX5_licker 37 = .ok (.aload_n 0, 1) := by decide +kernel
theorem dX5_licker_38 : decode cX5_licker 38 = .ok (.bipush (-6), 2) := by decide +kernel
theorem dX5_licker_40 : decode cX5_licker 40 = .ok (.invokevirtual 66, 3) := by decide +kernel
theorem dX5_licker_43 : decode cX5_licker 43 = .ok (.ireturn, 1) := by decide +kernel
theorem dX5_licker_44 : decode cX5_licker 44 = .ok (.aload_n 0, 1) := by decide +kernel
theorem dX5_licker_45 : decode cX5_licker 45 = .ok (.getfield 10, 3) := by decide +kernel
theorem dX5_licker_48 : decode cX5_licker 48 = .ok (.iload_n 1, 1) := by decide +kernel
theorem dX5_licker_49 : decode cX5_licker 49 = .ok (.iload_n 2, 1) := by decide +kernel
theorem dX5_licker_50 : decode cX5_licker 50 = .ok (.invokevirtual 176, 3) := by decide +kernel
theorem dX5_licker_53 : decode cX5_licker 53 = .ok (.aload_n 0, 1) := by decide +kernel
theorem dX5_licker_54 : decode cX5_licker 54 = .ok (.getfield 10, 3) := by decide +kernel
theorem dX5_licker_57 : decode cX5_licker 57 = .ok (.getfield 173, 3) := by decide +kernel
theorem dX5_licker_60 : decode cX5_licker 60 = .ok (.iconst 1, 1) := by decide +kernel
theorem dX5_licker_61 : decode cX5_licker 61 = .ok (.isub, 1) := by decide +kernel
theorem dX5_licker_62 : decode cX5_licker 62 = .ok (.ireturn, 1) := by decide +kernel
def fX5_licker_19 (s : SS) : Option (Int32 × SS) := ((fX5_refuse (-2 : Int32) s).bind fun z1 => some (z1.1, z1.2))
def fX5_licker_0 (x1 : Int32) (x2 : Int32) (s : SS) : Option (Int32 × SS) := ((fX5_isWithin x1 (0 : Int32) (5 : Int32) s).bind fun z1 => if z1.1 = 0 then (fX5_licker_19 s) else (((fX5_isWithin x2 (0 : Int32) (9 : Int32) s).bind fun z3 => if z3.1 = 0 then (fX5_licker_19 s) else (if (s.1 1 3) < (4 : Int32) then (((fX4_addLicker x1 x2 (selS (fun k => 1 + k) s)).bind fun z6 => some (((mrgS (fun k => 1 + k) 9 s z6.2).1 1 3) - (1 : Int32), mrgS (fun k => 1 + k) 9 s z6.2))) else (((fX5_refuse (-6 : Int32) s).bind fun z7 => some (z7.1, z7.2)))))))
def fX5_licker (x1 : Int32) (x2 : Int32) (s : SS) : Option (Int32 × SS) := fX5_licker_0 x1 x2 s
set_option maxRecDepth 100000 in
set_option maxHeartbeats 4000000 in
theorem okX5_licker_19 {G : GG} {pl : Nat → Nat} {h0 : PH} (s : SS) : EvF G 2 mX5_licker lyM pl h0 rvI (fX5_licker_19 s) 19 [(0, .ref (pl 0))] [] s := by
  unfold fX5_licker_19
  refine ef_aload_n (q := 20) 0 dX5_licker_19 rfl rfl rfl ?_
  refine ef_bipush (v := (-2 : Int32)) (q := 22) dX5_licker_20 (by decide) rfl ?_
  refine ef_invVI0 (k := 0) (As := [.int (-2 : Int32)]) (rest := []) (q := 25) (okX5_refuse (-2 : Int32)) rfl calX5_refuse ml5_66 (by decide) rfl rfl rfl (Nat.le_of_ble_eq_true rfl) dX5_licker_22 rfl (fun z1 => ?_)
  exact ef_iret rfl dX5_licker_25
set_option maxRecDepth 100000 in
set_option maxHeartbeats 4000000 in
theorem okX5_licker_0 {G : GG} {pl : Nat → Nat} {h0 : PH} (x1 : Int32) (x2 : Int32) (s : SS) : EvF G 2 mX5_licker lyM pl h0 rvI (fX5_licker_0 x1 x2 s) 0 [(0, .ref (pl 0)), (1, .int x1), (2, .int x2)] [] s := by
  unfold fX5_licker_0
  refine ef_iload_n (q := 1) 1 dX5_licker_0 rfl rfl rfl ?_
  refine ef_iconst (v := (0 : Int32)) (q := 2) dX5_licker_1 (by decide) rfl ?_
  refine ef_iconst (v := (5 : Int32)) (q := 3) dX5_licker_2 (by decide) rfl ?_
  refine ef_invPI0 (As := [.int x1, .int (0 : Int32), .int (5 : Int32)]) (rest := []) (q := 6) (okX5_isWithin x1 (0 : Int32) (5 : Int32)) rfl calX5_isWithin ml5_62 (by decide) rfl rfl (Nat.le_of_ble_eq_true rfl) dX5_licker_3 rfl (fun z1 => ?_)
  refine ef_if (pt := 19) (pf := 9) (fun _ _ => ev_if_eq (tgt := 19) dX5_licker_6 (by decide)) (fun h2 => ?_) (fun h2 => ?_)
  · refine ef_sub (lv' := [(0, .ref (pl 0))]) [0] rfl ?_
    exact okX5_licker_19 s
  · refine ef_iload_n (q := 10) 2 dX5_licker_9 rfl rfl rfl ?_
    refine ef_iconst (v := (0 : Int32)) (q := 11) dX5_licker_10 (by decide) rfl ?_
    refine ef_bipush (v := (9 : Int32)) (q := 13) dX5_licker_11 (by decide) rfl ?_
    refine ef_invPI0 (As := [.int x2, .int (0 : Int32), .int (9 : Int32)]) (rest := []) (q := 16) (okX5_isWithin x2 (0 : Int32) (9 : Int32)) rfl calX5_isWithin ml5_62 (by decide) rfl rfl (Nat.le_of_ble_eq_true rfl) dX5_licker_13 rfl (fun z3 => ?_)
    refine ef_if (pt := 19) (pf := 26) (fun _ _ kt kf => ev_if_ne (tgt := 26) dX5_licker_16 (by decide) kf kt) (fun h4 => ?_) (fun h4 => ?_)
    · refine ef_sub (lv' := [(0, .ref (pl 0))]) [0] rfl ?_
      exact okX5_licker_19 s
    · refine ef_aload_n (q := 27) 0 dX5_licker_26 rfl rfl rfl ?_
      refine ef_getR (t := 1) (q := 30) rfl fl5_10 rfl rfl dX5_licker_27 rfl ?_
      refine ef_getI (x := s.1 1 3) (q := 33) rfl fl5_173 rfl rfl dX5_licker_30 rfl ?_
      refine ef_iconst (v := (4 : Int32)) (q := 34) dX5_licker_33 (by decide) rfl ?_
      refine ef_if (pt := 44) (pf := 37) (fun _ _ => ev_icmp_lt (tgt := 44) dX5_licker_34 (by decide)) (fun h5 => ?_) (fun h5 => ?_)
      · refine ef_aload_n (q := 45) 0 dX5_licker_44 rfl rfl rfl ?_
        refine ef_getR (t := 1) (q := 48) rfl fl5_10 rfl rfl dX5_licker_45 rfl ?_
        refine ef_iload_n (q := 49) 1 dX5_licker_48 rfl rfl rfl ?_
        refine ef_iload_n (q := 50) 2 dX5_licker_49 rfl rfl rfl ?_
        refine ef_invVU (k := 1) (nn := 9) (π := (fun k => 1 + k)) (As := [.int x1, .int x2]) (rest := []) (q := 53) (okX4_addLicker x1 x2) (by decide +kernel) rfl calX4_addLicker ml5_176 (by decide) rfl rfl rfl (Nat.le_of_ble_eq_true rfl) dX5_licker_50 rfl rfl (fun z6 => ?_)
        refine ef_aload_n (q := 54) 0 dX5_licker_53 rfl rfl rfl ?_
        refine ef_getR (t := 1) (q := 57) rfl fl5_10 rfl rfl dX5_licker_54 rfl ?_
        refine ef_getI (x := (mrgS (fun k => 1 + k) 9 s z6.2).1 1 3) (q := 60) rfl fl5_173 rfl rfl dX5_licker_57 rfl ?_
        refine ef_iconst (v := (1 : Int32)) (q := 61) dX5_licker_60 (by decide) rfl ?_
        refine ef_isub (q := 62) dX5_licker_61 rfl ?_
        exact ef_iret rfl dX5_licker_62
      · refine ef_aload_n (q := 38) 0 dX5_licker_37 rfl rfl rfl ?_
        refine ef_bipush (v := (-6 : Int32)) (q := 40) dX5_licker_38 (by decide) rfl ?_
        refine ef_invVI0 (k := 0) (As := [.int (-6 : Int32)]) (rest := []) (q := 43) (okX5_refuse (-6 : Int32)) rfl calX5_refuse ml5_66 (by decide) rfl rfl rfl (Nat.le_of_ble_eq_true rfl) dX5_licker_40 rfl (fun z7 => ?_)
        exact ef_iret rfl dX5_licker_43
theorem okX5_licker (x1 : Int32) (x2 : Int32) : MtF 2 mX5_licker lyM rvI (fun _ pl => [.ref (pl 0), .int x1, .int x2]) (fX5_licker x1 x2) := by
  refine MtF.of (by decide +kernel) rfl (fun _ pl => Nat.le_of_ble_eq_true rfl) (fun G pl h0 s => ?_)
  refine ef_sub (lv := [(0, .ref (pl 0)), (1, .int x1), (2, .int x2)]) (lv' := [(0, .ref (pl 0)), (1, .int x1), (2, .int x2)]) [0, 1, 2] rfl ?_
  exact okX5_licker_0  x1 x2 s
-- X5_feed
theorem dX5_feed_0 : decode cX5_feed 0 = .ok (.iload_n 1, 1) := by decide +kernel
theorem dX5_feed_1 : decode cX5_feed 1 = .ok (.iconst 0, 1) := by decide +kernel
theorem dX5_feed_2 : decode cX5_feed 2 = .ok (.sipush 255, 3) := by decide +kernel
theorem dX5_feed_5 : decode cX5_feed 5 = .ok (.invokestatic 62, 3) := by decide +kernel
theorem dX5_feed_8 : decode cX5_feed 8 = .ok (.ifCond .ne 10, 3) := by decide +kernel
theorem dX5_feed_11 : decode cX5_feed 11 = .ok (.aload_n 0, 1) := by decide +kernel
theorem dX5_feed_12 : decode cX5_feed 12 = .ok (.bipush (-2), 2) := by decide +kernel
theorem dX5_feed_14 : decode cX5_feed 14 = .ok (.invokevirtual 66, 3) := by decide +kernel
theorem dX5_feed_17 : decode cX5_feed 17 = .ok (.ireturn, 1) := by decide +kernel
theorem dX5_feed_18 : decode cX5_feed 18 = .ok (.aload_n 0, 1) := by decide +kernel
theorem dX5_feed_19 : decode cX5_feed 19 = .ok (.getfield 45, 3) := by decide +kernel
theorem dX5_feed_22 : decode cX5_feed 22 = .ok (.getfield 179, 3) := by decide +kernel
theorem dX5_feed_25 : decode cX5_feed 25 = .ok (.sipush 250, 3) := by decide +kernel
theorem dX5_feed_28 : decode cX5_feed 28 = .ok (.if_icmp .lt 10, 3) := by decide +kernel
theorem dX5_feed_31 : decode cX5_feed 31 = .ok (.aload_n 0, 1) := by decide +kernel
theorem dX5_feed_32 : decode cX5_feed 32 = .ok (.bipush (-6), 2) := by decide +kernel
theorem dX5_feed_34 : decode cX5_feed 34 = .ok (.invokevirtual 66, 3) := by decide +kernel
theorem dX5_feed_37 : decode cX5_feed 37 = .ok (.ireturn, 1) := by decide +kernel
theorem dX5_feed_38 : decode cX5_feed 38 = .ok (.aload_n 0, 1) := by decide +kernel
theorem dX5_feed_39 : decode cX5_feed 39 = .ok (.getfield 45, 3) := by decide +kernel
theorem dX5_feed_42 : decode cX5_feed 42 = .ok (.iload_n 1, 1) := by decide +kernel
theorem dX5_feed_43 : decode cX5_feed 43 = .ok (.invokevirtual 180, 3) := by decide +kernel
theorem dX5_feed_46 : decode cX5_feed 46 = .ok (.aload_n 0, 1) := by decide +kernel
theorem dX5_feed_47 : decode cX5_feed 47 = .ok (.getfield 45, 3) := by decide +kernel
theorem dX5_feed_50 : decode cX5_feed 50 = .ok (.getfield 179, 3) := by decide +kernel
theorem dX5_feed_53 : decode cX5_feed 53 = .ok (.ireturn, 1) := by decide +kernel
def fX5_feed_0 (x1 : Int32) (s : SS) : Option (Int32 × SS) := ((fX5_isWithin x1 (0 : Int32) (255 : Int32) s).bind fun z1 => if z1.1 = 0 then (((fX5_refuse (-2 : Int32) s).bind fun z3 => some (z3.1, z3.2))) else (if (s.1 58 1) < (250 : Int32) then (((fX1_append x1 (selS (fun k => 58 + k) s)).bind fun z5 => some ((mrgS (fun k => 58 + k) 2 s z5.2).1 58 1, mrgS (fun k => 58 + k) 2 s z5.2))) else (((fX5_refuse (-6 : Int32) s).bind fun z6 => some (z6.1, z6.2)))))
def fX5_feed (x1 : Int32) (s : SS) : Option (Int32 × SS) := fX5_feed_0 x1 s
set_option maxRecDepth 100000 in
set_option maxHeartbeats 4000000 in
theorem okX5_feed_0 {G : GG} {pl : Nat → Nat} {h0 : PH} (x1 : Int32) (s : SS) : EvF G 2 mX5_feed lyM pl h0 rvI (fX5_feed_0 x1 s) 0 [(0, .ref (pl 0)), (1, .int x1)] [] s := by
  unfold fX5_feed_0
  refine ef_iload_n (q := 1) 1 dX5_feed_0 rfl rfl rfl ?_
  refine ef_iconst (v := (0 : Int32)) (q := 2) dX5_feed_1 (by decide) rfl ?_
  refine ef_sipush (v := (255 : Int32)) (q := 5) dX5_feed_2 (by decide) rfl ?_
  refine ef_invPI0 (As := [.int x1, .int (0 : Int32), .int (255 : Int32)]) (rest := []) (q := 8) (okX5_isWithin x1 (0 : Int32) (255 : Int32)) rfl calX5_isWithin ml5_62 (by decide) rfl rfl (Nat.le_of_ble_eq_true rfl) dX5_feed_5 rfl (fun z1 => ?_)
  refine ef_if (pt := 11) (pf := 18) (fun _ _ kt kf => ev_if_ne (tgt := 18) dX5_feed_8 (by decide) kf kt) (fun h2 => ?_) (fun h2 => ?_)
  · refine ef_aload_n (q := 12) 0 dX5_feed_11 rfl rfl rfl ?_
    refine ef_bipush (v := (-2 : Int32)) (q := 14) dX5_feed_12 (by decide) rfl ?_
    refine ef_invVI0 (k := 0) (As := [.int (-2 : Int32)]) (rest := []) (q := 17) (okX5_refuse (-2 : Int32)) rfl calX5_refuse ml5_66 (by decide) rfl rfl rfl (Nat.le_of_ble_eq_true rfl) dX5_feed_14 rfl (fun z3 => ?_)
    exact ef_iret rfl dX5_feed_17
  · refine ef_aload_n (q := 19) 0 dX5_feed_18 rfl rfl rfl ?_
    refine ef_getR (t := 58) (q := 22) rfl fl5_45 rfl rfl dX5_feed_19 rfl ?_
    refine ef_getI (x := s.1 58 1) (q := 25) rfl fl5_179 rfl rfl dX5_feed_22 rfl ?_
    refine ef_sipush (v := (250 : Int32)) (q := 28) dX5_feed_25 (by decide) rfl ?_
    refine ef_if (pt := 38) (pf := 31) (fun _ _ => ev_icmp_lt (tgt := 38) dX5_feed_28 (by decide)) (fun h4 => ?_) (fun h4 => ?_)
    · refine ef_aload_n (q := 39) 0 dX5_feed_38 rfl rfl rfl ?_
      refine ef_getR (t := 58) (q := 42) rfl fl5_45 rfl rfl dX5_feed_39 rfl ?_
      refine ef_iload_n (q := 43) 1 dX5_feed_42 rfl rfl rfl ?_
      refine ef_invVU (k := 58) (nn := 2) (π := (fun k => 58 + k)) (As := [.int x1]) (rest := []) (q := 46) (okX1_append x1) (by decide +kernel) rfl calX1_append ml5_180 (by decide) rfl rfl rfl (Nat.le_of_ble_eq_true rfl) dX5_feed_43 rfl rfl (fun z5 => ?_)
      refine ef_aload_n (q := 47) 0 dX5_feed_46 rfl rfl rfl ?_
      refine ef_getR (t := 58) (q := 50) rfl fl5_45 rfl rfl dX5_feed_47 rfl ?_
      refine ef_getI (x := (mrgS (fun k => 58 + k) 2 s z5.2).1 58 1) (q := 53) rfl fl5_179 rfl rfl dX5_feed_50 rfl ?_
      exact ef_iret rfl dX5_feed_53
    · refine ef_aload_n (q := 32) 0 dX5_feed_31 rfl rfl rfl ?_
      refine ef_bipush (v := (-6 : Int32)) (q := 34) dX5_feed_32 (by decide) rfl ?_
      refine ef_invVI0 (k := 0) (As := [.int (-6 : Int32)]) (rest := []) (q := 37) (okX5_refuse (-6 : Int32)) rfl calX5_refuse ml5_66 (by decide) rfl rfl rfl (Nat.le_of_ble_eq_true rfl) dX5_feed_34 rfl (fun z6 => ?_)
      exact ef_iret rfl dX5_feed_37
theorem okX5_feed (x1 : Int32) : MtF 2 mX5_feed lyM rvI (fun _ pl => [.ref (pl 0), .int x1]) (fX5_feed x1) := by
  refine MtF.of (by decide +kernel) rfl (fun _ pl => Nat.le_of_ble_eq_true rfl) (fun G pl h0 s => ?_)
  refine ef_sub (lv := [(0, .ref (pl 0)), (1, .int x1)]) (lv' := [(0, .ref (pl 0)), (1, .int x1)]) [0, 1] rfl ?_
  exact okX5_feed_0  x1 s
-- X5_wipe
theorem dX5_wipe_0 : decode cX5_wipe 0 = .ok (.aload_n 0, 1) := by decide +kernel
theorem dX5_wipe_1 : decode cX5_wipe 1 = .ok (.getfield 45, 3) := by decide +kernel
theorem dX5_wipe_4 : decode cX5_wipe 4 = .ok (.getfield 179, 3) := by decide +kernel
theorem dX5_wipe_7 : decode cX5_wipe 7 = .ok (.istore_n 1, 1) := by decide +kernel
theorem dX5_wipe_8 : decode cX5_wipe 8 = .ok (.aload_n 0, 1) := by decide +kernel
theorem dX5_wipe_9 : decode cX5_wipe 9 = .ok (.getfield 45, 3) := by decide +kernel
theorem dX5_wipe_12 : decode cX5_wipe 12 = .ok (.iconst 0, 1) := by decide +kernel
theorem dX5_wipe_13 : decode cX5_wipe 13 = .ok (.putfield 179, 3) := by decide +kernel
theorem dX5_wipe_16 : decode cX5_wipe 16 = .ok (.iload_n 1, 1) := by decide +kernel
theorem dX5_wipe_17 : decode cX5_wipe 17 = .ok (.ireturn, 1) := by decide +kernel
def fX5_wipe_0 (s : SS) : Option (Int32 × SS) := some (s.1 58 1, wrI s 58 1 (0 : Int32))
def fX5_wipe (s : SS) : Option (Int32 × SS) := fX5_wipe_0 s
set_option maxRecDepth 100000 in
set_option maxHeartbeats 4000000 in
theorem okX5_wipe_0 {G : GG} {pl : Nat → Nat} {h0 : PH} (s : SS) : EvF G 0 mX5_wipe lyM pl h0 rvI (fX5_wipe_0 s) 0 [(0, .ref (pl 0))] [] s := by
  unfold fX5_wipe_0
  refine ef_aload_n (q := 1) 0 dX5_wipe_0 rfl rfl rfl ?_
  refine ef_getR (t := 58) (q := 4) rfl fl5_45 rfl rfl dX5_wipe_1 rfl ?_
  refine ef_getI (x := s.1 58 1) (q := 7) rfl fl5_179 rfl rfl dX5_wipe_4 rfl ?_
  refine ef_istore_n (lv' := [(1, .int (s.1 58 1)), (0, .ref (pl 0))]) (q := 8) dX5_wipe_7 rfl (by decide) rfl rfl ?_
  refine ef_aload_n (q := 9) 1 dX5_wipe_8 rfl rfl rfl ?_
  refine ef_getR (t := 58) (q := 12) rfl fl5_45 rfl rfl dX5_wipe_9 rfl ?_
  refine ef_iconst (v := (0 : Int32)) (q := 13) dX5_wipe_12 (by decide) rfl ?_
  refine ef_putI (q := 16) rfl fl5_179 rfl rfl dX5_wipe_13 rfl ?_
  refine ef_iload_n (q := 17) 0 dX5_wipe_16 rfl rfl rfl ?_
  exact ef_iret rfl dX5_wipe_17
theorem okX5_wipe : MtF 0 mX5_wipe lyM rvI (fun _ pl => [.ref (pl 0)]) (fX5_wipe) := by
  refine MtF.of (by decide +kernel) rfl (fun _ pl => Nat.le_of_ble_eq_true rfl) (fun G pl h0 s => ?_)
  refine ef_sub (lv := [(0, .ref (pl 0))]) (lv' := [(0, .ref (pl 0))]) [0] rfl ?_
  exact okX5_wipe_0  s
-- X5_kerb
theorem dX5_kerb_0 : decode cX5_kerb 0 = .ok (.aload_n 0, 1) := by decide +kernel
theorem dX5_kerb_1 : decode cX5_kerb 1 = .ok (.getfield 19, 3) := by decide +kernel
theorem dX5_kerb_4 : decode cX5_kerb 4 = .ok (.aload_n 0, 1) := by decide +kernel
theorem dX5_kerb_5 : decode cX5_kerb 5 = .ok (.getfield 10, 3) := by decide +kernel
theorem dX5_kerb_8 : decode cX5_kerb 8 = .ok (.invokevirtual 183, 3) := by decide +kernel
theorem dX5_kerb_11 : decode cX5_kerb 11 = .ok (.aload_n 0, 1) := by decide +kernel
theorem dX5_kerb_12 : decode cX5_kerb 12 = .ok (.getfield 45, 3) := by decide +kernel
theorem dX5_kerb_15 : decode cX5_kerb 15 = .ok (.aload_n 0, 1) := by decide +kernel
theorem dX5_kerb_16 : decode cX5_kerb 16 = .ok (.getfield 10, 3) := by decide +kernel
theorem dX5_kerb_19 : decode cX5_kerb 19 = .ok (.invokevirtual 187, 3) := by decide +kernel
theorem dX5_kerb_22 : decode cX5_kerb 22 = .ok (.istore_n 1, 1) := by decide +kernel
theorem dX5_kerb_23 : decode cX5_kerb 23 = .ok (.aload_n 0, 1) := by decide +kernel
theorem dX5_kerb_24 : decode cX5_kerb 24 = .ok (.getfield 45, 3) := by decide +kernel
theorem dX5_kerb_27 : decode cX5_kerb 27 = .ok (.iconst 0, 1) := by decide +kernel
theorem dX5_kerb_28 : decode cX5_kerb 28 = .ok (.putfield 179, 3) := by decide +kernel
theorem dX5_kerb_31 : decode cX5_kerb 31 = .ok (.iload_n 1, 1) := by decide +kernel
theorem dX5_kerb_32 : decode cX5_kerb 32 = .ok (.ifCond .ge 21, 3) := by decide +kernel
theorem dX5_kerb_35 : decode cX5_kerb 35 = .ok (.aload_n 0, 1) := by decide +kernel
theorem dX5_kerb_36 : decode cX5_kerb 36 = .ok (.getfield 10, 3) := by decide +kernel
theorem dX5_kerb_39 : decode cX5_kerb 39 = .ok (.aload_n 0, 1) := by decide +kernel
theorem dX5_kerb_40 : decode cX5_kerb 40 = .ok (.getfield 19, 3) := by decide +kernel
theorem dX5_kerb_43 : decode cX5_kerb 43 = .ok (.invokevirtual 183, 3) := by decide +kernel
theorem dX5_kerb_46 : decode cX5_kerb 46 = .ok (.aload_n 0, 1) := by decide +kernel
theorem dX5_kerb_47 : decode cX5_kerb 47 = .ok (.bipush (-2), 2) := by decide +kernel
theorem dX5_kerb_49 : decode cX5_kerb 49 = .ok (.invokevirtual 66, 3) := by decide +kernel
theorem dX5_kerb_52 : decode cX5_kerb 52 = .ok (.pop, 1) := by decide +kernel
theorem dX5_kerb_53 : decode cX5_kerb 53 = .ok (.iload_n 1, 1) := by decide +kernel
theorem dX5_kerb_54 : decode cX5_kerb 54 = .ok (.ireturn, 1) := by decide +kernel
def fX5_kerb_0 (s : SS) : Option (Int32 × SS) := ((fX4_takeFrom (selS (fun k => if k < 9 then 19 + k else 1 + (k - 9)) s)).bind fun z1 => ((fX1_readInto (selS (fun k => if k < 2 then 58 + k else 1 + (k - 2)) (mrgS (fun k => if k < 9 then 19 + k else 1 + (k - 9)) 18 s z1.2))).bind fun z2 => if 0 ≤ z2.1 then (some (z2.1, wrI (mrgS (fun k => if k < 2 then 58 + k else 1 + (k - 2)) 11 (mrgS (fun k => if k < 9 then 19 + k else 1 + (k - 9)) 18 s z1.2) z2.2) 58 1 (0 : Int32))) else (((fX4_takeFrom (selS (fun k => if k < 9 then 1 + k else 19 + (k - 9)) (wrI (mrgS (fun k => if k < 2 then 58 + k else 1 + (k - 2)) 11 (mrgS (fun k => if k < 9 then 19 + k else 1 + (k - 9)) 18 s z1.2) z2.2) 58 1 (0 : Int32)))).bind fun z4 => ((fX5_refuse (-2 : Int32) (mrgS (fun k => if k < 9 then 1 + k else 19 + (k - 9)) 18 (wrI (mrgS (fun k => if k < 2 then 58 + k else 1 + (k - 2)) 11 (mrgS (fun k => if k < 9 then 19 + k else 1 + (k - 9)) 18 s z1.2) z2.2) 58 1 (0 : Int32)) z4.2)).bind fun z5 => some (z2.1, z5.2))))))
def fX5_kerb (s : SS) : Option (Int32 × SS) := fX5_kerb_0 s
set_option maxRecDepth 100000 in
set_option maxHeartbeats 4000000 in
theorem okX5_kerb_0 {G : GG} {pl : Nat → Nat} {h0 : PH} (s : SS) : EvF G 7 mX5_kerb lyM pl h0 rvI (fX5_kerb_0 s) 0 [(0, .ref (pl 0))] [] s := by
  unfold fX5_kerb_0
  refine ef_aload_n (q := 1) 0 dX5_kerb_0 rfl rfl rfl ?_
  refine ef_getR (t := 19) (q := 4) rfl fl5_19 rfl rfl dX5_kerb_1 rfl ?_
  refine ef_aload_n (q := 5) 0 dX5_kerb_4 rfl rfl rfl ?_
  refine ef_getR (t := 1) (q := 8) rfl fl5_10 rfl rfl dX5_kerb_5 rfl ?_
  refine ef_invVU (k := 19) (nn := 18) (π := (fun k => if k < 9 then 19 + k else 1 + (k - 9))) (As := [.ref (pl 1)]) (rest := []) (q := 11) (okX4_takeFrom) (by decide +kernel) rfl calX4_takeFrom ml5_183 (by decide) rfl rfl rfl (Nat.le_of_ble_eq_true rfl) dX5_kerb_8 rfl rfl (fun z1 => ?_)
  refine ef_aload_n (q := 12) 0 dX5_kerb_11 rfl rfl rfl ?_
  refine ef_getR (t := 58) (q := 15) rfl fl5_45 rfl rfl dX5_kerb_12 rfl ?_
  refine ef_aload_n (q := 16) 0 dX5_kerb_15 rfl rfl rfl ?_
  refine ef_getR (t := 1) (q := 19) rfl fl5_10 rfl rfl dX5_kerb_16 rfl ?_
  refine ef_invVI (k := 58) (nn := 11) (π := (fun k => if k < 2 then 58 + k else 1 + (k - 2))) (As := [.ref (pl 1)]) (rest := []) (q := 22) (okX1_readInto) (by decide +kernel) rfl calX1_readInto ml5_187 (by decide) rfl rfl rfl (Nat.le_of_ble_eq_true rfl) dX5_kerb_19 rfl rfl (fun z2 => ?_)
  refine ef_istore_n (lv' := [(1, .int z2.1), (0, .ref (pl 0))]) (q := 23) dX5_kerb_22 rfl (by decide) rfl rfl ?_
  refine ef_aload_n (q := 24) 1 dX5_kerb_23 rfl rfl rfl ?_
  refine ef_getR (t := 58) (q := 27) rfl fl5_45 rfl rfl dX5_kerb_24 rfl ?_
  refine ef_iconst (v := (0 : Int32)) (q := 28) dX5_kerb_27 (by decide) rfl ?_
  refine ef_putI (q := 31) rfl fl5_179 rfl rfl dX5_kerb_28 rfl ?_
  refine ef_iload_n (q := 32) 0 dX5_kerb_31 rfl rfl rfl ?_
  refine ef_if (pt := 53) (pf := 35) (fun _ _ => ev_if_ge (tgt := 53) dX5_kerb_32 (by decide)) (fun h3 => ?_) (fun h3 => ?_)
  · refine ef_iload_n (q := 54) 0 dX5_kerb_53 rfl rfl rfl ?_
    exact ef_iret rfl dX5_kerb_54
  · refine ef_aload_n (q := 36) 1 dX5_kerb_35 rfl rfl rfl ?_
    refine ef_getR (t := 1) (q := 39) rfl fl5_10 rfl rfl dX5_kerb_36 rfl ?_
    refine ef_aload_n (q := 40) 1 dX5_kerb_39 rfl rfl rfl ?_
    refine ef_getR (t := 19) (q := 43) rfl fl5_19 rfl rfl dX5_kerb_40 rfl ?_
    refine ef_invVU (k := 1) (nn := 18) (π := (fun k => if k < 9 then 1 + k else 19 + (k - 9))) (As := [.ref (pl 19)]) (rest := []) (q := 46) (okX4_takeFrom) (by decide +kernel) rfl calX4_takeFrom ml5_183 (by decide) rfl rfl rfl (Nat.le_of_ble_eq_true rfl) dX5_kerb_43 rfl rfl (fun z4 => ?_)
    refine ef_aload_n (q := 47) 1 dX5_kerb_46 rfl rfl rfl ?_
    refine ef_bipush (v := (-2 : Int32)) (q := 49) dX5_kerb_47 (by decide) rfl ?_
    refine ef_invVI0 (k := 0) (As := [.int (-2 : Int32)]) (rest := []) (q := 52) (okX5_refuse (-2 : Int32)) rfl calX5_refuse ml5_66 (by decide) rfl rfl rfl (Nat.le_of_ble_eq_true rfl) dX5_kerb_49 rfl (fun z5 => ?_)
    refine ef_pop (q := 53) dX5_kerb_52 rfl rfl ?_
    refine ef_iload_n (q := 54) 0 dX5_kerb_53 rfl rfl rfl ?_
    exact ef_iret rfl dX5_kerb_54
theorem okX5_kerb : MtF 7 mX5_kerb lyM rvI (fun _ pl => [.ref (pl 0)]) (fX5_kerb) := by
  refine MtF.of (by decide +kernel) rfl (fun _ pl => Nat.le_of_ble_eq_true rfl) (fun G pl h0 s => ?_)
  refine ef_sub (lv := [(0, .ref (pl 0))]) (lv' := [(0, .ref (pl 0))]) [0] rfl ?_
  exact okX5_kerb_0  s
-- X5_isScoop
theorem dX5_isScoop_0 : decode cX5_isScoop 0 = .ok (.iload_n 1, 1) := by decide +kernel
theorem dX5_isScoop_1 : decode cX5_isScoop 1 = .ok (.iconst 0, 1) := by decide +kernel
theorem dX5_isScoop_2 : decode cX5_isScoop 2 = .ok (.aload_n 0, 1) := by decide +kernel
theorem dX5_isScoop_3 : decode cX5_isScoop 3 = .ok (.getfield 10, 3) := by decide +kernel
theorem dX5_isScoop_6 : decode cX5_isScoop 6 = .ok (.getfield 130, 3) := by decide +kernel
theorem dX5_isScoop_9 : decode cX5_isScoop 9 = .ok (.getfield 137, 3) := by decide +kernel
theorem dX5_isScoop_12 : decode cX5_isScoop 12 = .ok (.iconst 1, 1) := by decide +kernel
theorem dX5_isScoop_13 : decode cX5_isScoop 13 = .ok (.isub, 1) := by decide +kernel
theorem dX5_isScoop_14 : decode cX5_isScoop 14 = .ok (.invokestatic 62, 3) := by decide +kernel
theorem dX5_isScoop_17 : decode cX5_isScoop 17 = .ok (.ireturn, 1) := by decide +kernel
def fX5_isScoop_0 (x1 : Int32) (s : SS) : Option (Int32 × SS) := ((fX5_isWithin x1 (0 : Int32) ((s.1 2 11) - (1 : Int32)) s).bind fun z1 => some (nbZ z1.1, s))
def fX5_isScoop (x1 : Int32) (s : SS) : Option (Int32 × SS) := fX5_isScoop_0 x1 s
set_option maxRecDepth 100000 in
set_option maxHeartbeats 4000000 in
theorem okX5_isScoop_0 {G : GG} {pl : Nat → Nat} {h0 : PH} (x1 : Int32) (s : SS) : EvF G 1 mX5_isScoop lyM pl h0 rvI (fX5_isScoop_0 x1 s) 0 [(0, .ref (pl 0)), (1, .int x1)] [] s := by
  unfold fX5_isScoop_0
  refine ef_iload_n (q := 1) 1 dX5_isScoop_0 rfl rfl rfl ?_
  refine ef_iconst (v := (0 : Int32)) (q := 2) dX5_isScoop_1 (by decide) rfl ?_
  refine ef_aload_n (q := 3) 0 dX5_isScoop_2 rfl rfl rfl ?_
  refine ef_getR (t := 1) (q := 6) rfl fl5_10 rfl rfl dX5_isScoop_3 rfl ?_
  refine ef_getR (t := 2) (q := 9) rfl fl5_130 rfl rfl dX5_isScoop_6 rfl ?_
  refine ef_getI (x := s.1 2 11) (q := 12) rfl fl5_137 rfl rfl dX5_isScoop_9 rfl ?_
  refine ef_iconst (v := (1 : Int32)) (q := 13) dX5_isScoop_12 (by decide) rfl ?_
  refine ef_isub (q := 14) dX5_isScoop_13 rfl ?_
  refine ef_invPI0 (As := [.int x1, .int (0 : Int32), .int ((s.1 2 11) - (1 : Int32))]) (rest := []) (q := 17) (okX5_isWithin x1 (0 : Int32) ((s.1 2 11) - (1 : Int32))) rfl calX5_isWithin ml5_62 (by decide) rfl rfl (Nat.le_of_ble_eq_true rfl) dX5_isScoop_14 rfl (fun z1 => ?_)
  exact ef_zret rfl dX5_isScoop_17
theorem okX5_isScoop (x1 : Int32) : MtF 1 mX5_isScoop lyM rvI (fun _ pl => [.ref (pl 0), .int x1]) (fX5_isScoop x1) := by
  refine MtF.of (by decide +kernel) rfl (fun _ pl => Nat.le_of_ble_eq_true rfl) (fun G pl h0 s => ?_)
  refine ef_sub (lv := [(0, .ref (pl 0)), (1, .int x1)]) (lv' := [(0, .ref (pl 0)), (1, .int x1)]) [0, 1] rfl ?_
  exact okX5_isScoop_0  x1 s
-- X5_scoopOf
theorem dX5_scoopOf_0 : decode cX5_scoopOf 0 = .ok (.aload_n 0, 1) := by decide +kernel
theorem dX5_scoopOf_1 : decode cX5_scoopOf 1 = .ok (.iload_n 1, 1) := by decide +kernel
theorem dX5_scoopOf_2 : decode cX5_scoopOf 2 = .ok (.invokevirtual 191, 3) := by decide +kernel
theorem dX5_scoopOf_5 : decode cX5_scoopOf 5 = .ok (.ifCond .eq 12, 3) := by decide +kernel
theorem dX5_scoopOf_8 : decode cX5_scoopOf 8 = .ok (.iload_n 2, 1) := by decide +kernel
theorem dX5_scoopOf_9 : decode cX5_scoopOf 9 = .ok (.iconst 0, 1) := by decide +kernel
theorem dX5_scoopOf_10 : decode cX5_scoopOf 10 = .ok (.iconst 2, 1) := by decide +kernel
theorem dX5_scoopOf_11 : decode cX5_scoopOf 11 = .ok (.invokestatic 62, 3) := by decide +kernel
theorem dX5_scoopOf_14 : decode cX5_scoopOf 14 = .ok (.ifCond .ne 10, 3) := by decide +kernel
theorem dX5_scoopOf_17 : decode cX5_scoopOf 17 = .ok (.aload_n 0, 1) := by decide +kernel
theorem dX5_scoopOf_18 : decode cX5_scoopOf 18 = .ok (.bipush (-2), 2) := by decide +kernel
theorem dX5_scoopOf_20 : decode cX5_scoopOf 20 = .ok (.invokevirtual 66, 3) := by decide +kernel
theorem dX5_scoopOf_23 : decode cX5_scoopOf 23 = .ok (.ireturn, 1) := by decide +kernel
theorem dX5_scoopOf_24 : decode cX5_scoopOf 24 = .ok (.iload_n 2, 1) := by decide +kernel
theorem dX5_scoopOf_25 : decode cX5_scoopOf 25 = .ok (.ifCond .ne 16, 3) := by decide +kernel
theorem dX5_scoopOf_28 : decode cX5_scoopOf 28 = .ok (.aload_n 0, 1) := by decide +kernel
theorem dX5_scoopOf_29 : decode cX5_scoopOf 29 = .ok (.getfield 10, 3) := by decide +kernel
theorem dX5_scoopOf_32 : decode cX5_scoopOf 32 = .ok (.getfield 130, 3) := by decide +kernel
theorem dX5_scoopOf_35 : decode cX5_scoopOf 35 = .ok (.getfield 194, 3) := by decide +kernel
theorem dX5_scoopOf_38 : decode cX5_scoopOf 38 = .ok (.iload_n 1, 1) := by decide +kernel
theorem dX5_scoopOf_39 : decode cX5_scoopOf 39 = .ok (.iaload, 1) := by decide +kernel
theorem dX5_scoopOf_40 : decode cX5_scoopOf 40 = .ok (.ireturn, 1) := by decide +kernel
theorem dX5_scoopOf_41 : decode cX5_scoopOf 41 = .ok (.iload_n 2, 1) := by decide +kernel
theorem dX5_scoopOf_42 : decode cX5_scoopOf 42 = .ok (.iconst 1, 1) := by decide +kernel
theorem dX5_scoopOf_43 : decode cX5_scoopOf 43 = .ok (.if_icmp .ne 18, 3) := by decide +kernel
theorem dX5_scoopOf_46 : decode cX5_scoopOf 46 = .ok (.aload_n 0, 1) := by decide +kernel
theorem dX5_scoopOf_47 : decode cX5_scoopOf 47 = .ok (.getfield 10, 3) := by decide +kernel
theorem dX5_scoopOf_50 : decode cX5_scoopOf 50 = .ok (.getfield 130, 3) := by decide +kernel
theorem dX5_scoopOf_53 : decode cX5_scoopOf 53 = .ok (.getfield 197, 3) := by decide +kernel
theorem dX5_scoopOf_56 : decode cX5_scoopOf 56 = .ok (.iload_n 1, 1) := by decide +kernel
theorem dX5_scoopOf_57 : decode cX5_scoopOf 57 = .ok (.iaload, 1) := by decide +kernel
theorem dX5_scoopOf_58 : decode cX5_scoopOf 58 = .ok (.goto 14, 3) := by decide +kernel
theorem dX5_scoopOf_61 : decode cX5_scoopOf 61 = .ok (.aload_n 0, 1) := by decide +kernel
theorem dX5_scoopOf_62 : decode cX5_scoopOf 62 = .ok (.getfield 10, 3) := by decide +kernel
theorem dX5_scoopOf_65 : decode cX5_scoopOf 65 = .ok (.getfield 130, 3) := by decide +kernel
theorem dX5_scoopOf_68 : decode cX5_scoopOf 68 = .ok (.iload_n 1, 1) := by decide +kernel
theorem dX5_scoopOf_69 : decode cX5_scoopOf 69 = .ok (.invokevirtual 200, 3) := by decide +kernel
theorem dX5_scoopOf_72 : decode cX5_scoopOf 72 = .ok (.ireturn, 1) := by decide +kernel
def fX5_scoopOf_17 (s : SS) : Option (Int32 × SS) := ((fX5_refuse (-2 : Int32) s).bind fun z1 => some (z1.1, z1.2))
def fX5_scoopOf_0 (x1 : Int32) (x2 : Int32) (s : SS) : Option (Int32 × SS) := ((fX5_isScoop x1 s).bind fun z1 => if z1.1 = 0 then (fX5_scoopOf_17 z1.2) else (((fX5_isWithin x2 (0 : Int32) (2 : Int32) z1.2).bind fun z3 => if z3.1 = 0 then (fX5_scoopOf_17 z1.2) else (if x2 = 0 then (if ixB x1 3 then (some (z1.2.1 3 x1.toNatClampNeg, z1.2)) else none) else (if x2 = (1 : Int32) then (if ixB x1 3 then (some (z1.2.1 4 x1.toNatClampNeg, z1.2)) else none) else (((fX0_allWetOf x1 (selS (fun k => 2 + k) z1.2)).bind fun z9 => some (z9.1, mrgS (fun k => 2 + k) 5 z1.2 z9.2))))))))
def fX5_scoopOf (x1 : Int32) (x2 : Int32) (s : SS) : Option (Int32 × SS) := fX5_scoopOf_0 x1 x2 s
set_option maxRecDepth 100000 in
set_option maxHeartbeats 4000000 in
theorem okX5_scoopOf_17 {G : GG} {pl : Nat → Nat} {h0 : PH} (s : SS) : EvF G 2 mX5_scoopOf lyM pl h0 rvI (fX5_scoopOf_17 s) 17 [(0, .ref (pl 0))] [] s := by
  unfold fX5_scoopOf_17
  refine ef_aload_n (q := 18) 0 dX5_scoopOf_17 rfl rfl rfl ?_
  refine ef_bipush (v := (-2 : Int32)) (q := 20) dX5_scoopOf_18 (by decide) rfl ?_
  refine ef_invVI0 (k := 0) (As := [.int (-2 : Int32)]) (rest := []) (q := 23) (okX5_refuse (-2 : Int32)) rfl calX5_refuse ml5_66 (by decide) rfl rfl rfl (Nat.le_of_ble_eq_true rfl) dX5_scoopOf_20 rfl (fun z1 => ?_)
  exact ef_iret rfl dX5_scoopOf_23
set_option maxRecDepth 100000 in
set_option maxHeartbeats 4000000 in
theorem okX5_scoopOf_0 {G : GG} {pl : Nat → Nat} {h0 : PH} (x1 : Int32) (x2 : Int32) (s : SS) : EvF G 2 mX5_scoopOf lyM pl h0 rvI (fX5_scoopOf_0 x1 x2 s) 0 [(0, .ref (pl 0)), (1, .int x1), (2, .int x2)] [] s := by
  unfold fX5_scoopOf_0
  refine ef_aload_n (q := 1) 0 dX5_scoopOf_0 rfl rfl rfl ?_
  refine ef_iload_n (q := 2) 1 dX5_scoopOf_1 rfl rfl rfl ?_
  refine ef_invVI0 (k := 0) (As := [.int x1]) (rest := []) (q := 5) (okX5_isScoop x1) rfl calX5_isScoop ml5_191 (by decide) rfl rfl rfl (Nat.le_of_ble_eq_true rfl) dX5_scoopOf_2 rfl (fun z1 => ?_)
  refine ef_if (pt := 17) (pf := 8) (fun _ _ => ev_if_eq (tgt := 17) dX5_scoopOf_5 (by decide)) (fun h2 => ?_) (fun h2 => ?_)
  · refine ef_sub (lv' := [(0, .ref (pl 0))]) [0] rfl ?_
    exact okX5_scoopOf_17 z1.2
  · refine ef_iload_n (q := 9) 2 dX5_scoopOf_8 rfl rfl rfl ?_
    refine ef_iconst (v := (0 : Int32)) (q := 10) dX5_scoopOf_9 (by decide) rfl ?_
    refine ef_iconst (v := (2 : Int32)) (q := 11) dX5_scoopOf_10 (by decide) rfl ?_
    refine ef_invPI0 (As := [.int x2, .int (0 : Int32), .int (2 : Int32)]) (rest := []) (q := 14) (okX5_isWithin x2 (0 : Int32) (2 : Int32)) rfl calX5_isWithin ml5_62 (by decide) rfl rfl (Nat.le_of_ble_eq_true rfl) dX5_scoopOf_11 rfl (fun z3 => ?_)
    refine ef_if (pt := 17) (pf := 24) (fun _ _ kt kf => ev_if_ne (tgt := 24) dX5_scoopOf_14 (by decide) kf kt) (fun h4 => ?_) (fun h4 => ?_)
    · refine ef_sub (lv' := [(0, .ref (pl 0))]) [0] rfl ?_
      exact okX5_scoopOf_17 z1.2
    · refine ef_iload_n (q := 25) 2 dX5_scoopOf_24 rfl rfl rfl ?_
      refine ef_if (pt := 28) (pf := 41) (fun _ _ kt kf => ev_if_ne (tgt := 41) dX5_scoopOf_25 (by decide) kf kt) (fun h5 => ?_) (fun h5 => ?_)
      · refine ef_aload_n (q := 29) 0 dX5_scoopOf_28 rfl rfl rfl ?_
        refine ef_getR (t := 1) (q := 32) rfl fl5_10 rfl rfl dX5_scoopOf_29 rfl ?_
        refine ef_getR (t := 2) (q := 35) rfl fl5_130 rfl rfl dX5_scoopOf_32 rfl ?_
        refine ef_getR (t := 3) (q := 38) rfl fl5_194 rfl rfl dX5_scoopOf_35 rfl ?_
        refine ef_iload_n (q := 39) 1 dX5_scoopOf_38 rfl rfl rfl ?_
        refine ef_guard (fun g6 => ?_)
        refine ef_iaload (x := z1.2.1 3 x1.toNatClampNeg) (q := 40) rfl g6 dX5_scoopOf_39 rfl rfl ?_
        exact ef_iret rfl dX5_scoopOf_40
      · refine ef_iload_n (q := 42) 2 dX5_scoopOf_41 rfl rfl rfl ?_
        refine ef_iconst (v := (1 : Int32)) (q := 43) dX5_scoopOf_42 (by decide) rfl ?_
        refine ef_if (pt := 46) (pf := 61) (fun _ _ kt kf => ev_icmp_ne (tgt := 61) dX5_scoopOf_43 (by decide) kf kt) (fun h7 => ?_) (fun h7 => ?_)
        · refine ef_aload_n (q := 47) 0 dX5_scoopOf_46 rfl rfl rfl ?_
          refine ef_getR (t := 1) (q := 50) rfl fl5_10 rfl rfl dX5_scoopOf_47 rfl ?_
          refine ef_getR (t := 2) (q := 53) rfl fl5_130 rfl rfl dX5_scoopOf_50 rfl ?_
          refine ef_getR (t := 4) (q := 56) rfl fl5_197 rfl rfl dX5_scoopOf_53 rfl ?_
          refine ef_iload_n (q := 57) 1 dX5_scoopOf_56 rfl rfl rfl ?_
          refine ef_guard (fun g8 => ?_)
          refine ef_iaload (x := z1.2.1 4 x1.toNatClampNeg) (q := 58) rfl g8 dX5_scoopOf_57 rfl rfl ?_
          refine ef_goto (tgt := 72) dX5_scoopOf_58 (by decide) ?_
          exact ef_iret rfl dX5_scoopOf_72
        · refine ef_aload_n (q := 62) 0 dX5_scoopOf_61 rfl rfl rfl ?_
          refine ef_getR (t := 1) (q := 65) rfl fl5_10 rfl rfl dX5_scoopOf_62 rfl ?_
          refine ef_getR (t := 2) (q := 68) rfl fl5_130 rfl rfl dX5_scoopOf_65 rfl ?_
          refine ef_iload_n (q := 69) 1 dX5_scoopOf_68 rfl rfl rfl ?_
          refine ef_invVI (k := 2) (nn := 5) (π := (fun k => 2 + k)) (As := [.int x1]) (rest := []) (q := 72) (okX0_allWetOf x1) (by decide +kernel) rfl calX0_allWetOf ml5_200 (by decide) rfl rfl rfl (Nat.le_of_ble_eq_true rfl) dX5_scoopOf_69 rfl rfl (fun z9 => ?_)
          exact ef_iret rfl dX5_scoopOf_72
theorem okX5_scoopOf (x1 : Int32) (x2 : Int32) : MtF 2 mX5_scoopOf lyM rvI (fun _ pl => [.ref (pl 0), .int x1, .int x2]) (fX5_scoopOf x1 x2) := by
  refine MtF.of (by decide +kernel) rfl (fun _ pl => Nat.le_of_ble_eq_true rfl) (fun G pl h0 s => ?_)
  refine ef_sub (lv := [(0, .ref (pl 0)), (1, .int x1), (2, .int x2)]) (lv' := [(0, .ref (pl 0)), (1, .int x1), (2, .int x2)]) [0, 1, 2] rfl ?_
  exact okX5_scoopOf_0  x1 x2 s
-- X5_wet
theorem dX5_wet_0 : decode cX5_wet 0 = .ok (.iload_n 1, 1) := by decide +kernel
theorem dX5_wet_1 : decode cX5_wet 1 = .ok (.iconst (-1), 1) := by decide +kernel
theorem dX5_wet_2 : decode cX5_wet 2 = .ok (.if_icmp .eq 11, 3) := by decide +kernel
theorem dX5_wet_5 : decode cX5_wet 5 = .ok (.aload_n 0, 1) := by decide +kernel
theorem dX5_wet_6 : decode cX5_wet 6 = .ok (.iload_n 1, 1) := by decide +kernel
theorem dX5_wet_7 : decode cX5_wet 7 = .ok (.invokevirtual 191, 3) := by decide +kernel
theorem dX5_wet_10 : decode cX5_wet 10 = .ok (.ifCond .eq 11, 3) := by decide +kernel
theorem dX5_wet_13 : decode cX5_wet 13 = .ok (.aload_n 0, 1) := by decide +kernel
theorem dX5_wet_14 : decode cX5_wet 14 = .ok (.iload_n 2, 1) := by decide +kernel
theorem dX5_wet_15 : decode cX5_wet 15 = .ok (.invokevirtual 203, 3) := by decide +kernel
theorem dX5_wet_18 : decode cX5_wet 18 = .ok (.ifCond .ne 10, 3) := by decide +kernel
theorem dX5_wet_21 : decode cX5_wet 21 = .ok (.aload_n 0, 1) := by decide +kernel
theorem dX5_wet_22 : decode cX5_wet 22 = .ok (.bipush (-2), 2) := by decide +kernel
theorem dX5_wet_24 : decode cX5_wet 24 = .ok (.invokevirtual 66, 3) := by decide +kernel
theorem dX5_wet_27 : decode cX5_wet 27 = .ok (.ireturn, 1) := by decide +kernel
theorem dX5_wet_28 : decode cX5_wet 28 = .ok (.iload_n 1, 1) := by decide +kernel
theorem dX5_wet_29 : decode cX5_wet 29 = .ok (.iconst (-1), 1) := by decide +kernel
theorem dX5_wet_30 : decode cX5_wet 30 = .ok (.if_icmp .ne 18, 3) := by decide +kernel
theorem dX5_wet_33 : decode cX5_wet 33 = .ok (.aload_n 0, 1) := by decide +kernel
theorem dX5_wet_34 : decode cX5_wet 34 = .ok (.getfield 10, 3) := by decide +kernel
theorem dX5_wet_37 : decode cX5_wet 37 = .ok (.getfield 130, 3) := by decide +kernel
theorem dX5_wet_40 : decode cX5_wet 40 = .ok (.getfield 206, 3) := by decide +kernel
theorem dX5_wet_43 : decode cX5_wet 43 = .ok (.iload_n 2, 1) := by decide +kernel
theorem dX5_wet_44 : decode cX5_wet 44 = .ok (.iaload, 1) := by decide +kernel
theorem dX5_wet_45 : decode cX5_wet 45 = .ok (.goto 15, 3) := by decide +kernel
theorem dX5_wet_48 : decode cX5_wet 48 = .ok (.aload_n 0, 1) := by decide +kernel
theorem dX5_wet_49 : decode cX5_wet 49 = .ok (.getfield 10, 3) := by decide +kernel
theorem dX5_wet_52 : decode cX5_wet 52 = .ok (.getfield 130, 3) := by decide +kernel
theorem dX5_wet_55 : decode cX5_wet 55 = .ok (.iload_n 1, 1) := by decide +kernel
theorem dX5_wet_56 : decode cX5_wet 56 = .ok (.iload_n 2, 1) := by decide +kernel
theorem dX5_wet_57 : decode cX5_wet 57 = .ok (.invokevirtual 209, 3) := by decide +kernel
theorem dX5_wet_60 : decode cX5_wet 60 = .ok (.ireturn, 1) := by decide +kernel
def fX5_wet_21 (s : SS) : Option (Int32 × SS) := ((fX5_refuse (-2 : Int32) s).bind fun z1 => some (z1.1, z1.2))
def fX5_wet_13 (x1 : Int32) (x2 : Int32) (s : SS) : Option (Int32 × SS) := ((fX5_isSide x2 s).bind fun z1 => if z1.1 = 0 then (fX5_wet_21 z1.2) else (if x1 = (-1 : Int32) then (if ixB x2 8 then (some (z1.2.1 6 x2.toNatClampNeg, z1.2)) else none) else (((fX0_wetAt x1 x2 (selS (fun k => 2 + k) z1.2)).bind fun z5 => some (z5.1, mrgS (fun k => 2 + k) 5 z1.2 z5.2)))))
def fX5_wet_0 (x1 : Int32) (x2 : Int32) (s : SS) : Option (Int32 × SS) := if x1 = (-1 : Int32) then (fX5_wet_13 x1 x2 s) else (((fX5_isScoop x1 s).bind fun z2 => if z2.1 = 0 then (fX5_wet_21 z2.2) else (fX5_wet_13 x1 x2 z2.2)))
def fX5_wet (x1 : Int32) (x2 : Int32) (s : SS) : Option (Int32 × SS) := fX5_wet_0 x1 x2 s
set_option maxRecDepth 100000 in
set_option maxHeartbeats 4000000 in
theorem okX5_wet_21 {G : GG} {pl : Nat → Nat} {h0 : PH} (s : SS) : EvF G 2 mX5_wet lyM pl h0 rvI (fX5_wet_21 s) 21 [(0, .ref (pl 0))] [] s := by
  unfold fX5_wet_21
  refine ef_aload_n (q := 22) 0 dX5_wet_21 rfl rfl rfl ?_
  refine ef_bipush (v := (-2 : Int32)) (q := 24) dX5_wet_22 (by decide) rfl ?_
  refine ef_invVI0 (k := 0) (As := [.int (-2 : Int32)]) (rest := []) (q := 27) (okX5_refuse (-2 : Int32)) rfl calX5_refuse ml5_66 (by decide) rfl rfl rfl (Nat.le_of_ble_eq_true rfl) dX5_wet_24 rfl (fun z1 => ?_)
  exact ef_iret rfl dX5_wet_27
set_option maxRecDepth 100000 in
set_option maxHeartbeats 4000000 in
theorem okX5_wet_13 {G : GG} {pl : Nat → Nat} {h0 : PH} (x1 : Int32) (x2 : Int32) (s : SS) : EvF G 2 mX5_wet lyM pl h0 rvI (fX5_wet_13 x1 x2 s) 13 [(0, .ref (pl 0)), (1, .int x1), (2, .int x2)] [] s := by
  unfold fX5_wet_13
  refine ef_aload_n (q := 14) 0 dX5_wet_13 rfl rfl rfl ?_
  refine ef_iload_n (q := 15) 2 dX5_wet_14 rfl rfl rfl ?_
  refine ef_invVI0 (k := 0) (As := [.int x2]) (rest := []) (q := 18) (okX5_isSide x2) rfl calX5_isSide ml5_203 (by decide) rfl rfl rfl (Nat.le_of_ble_eq_true rfl) dX5_wet_15 rfl (fun z1 => ?_)
  refine ef_if (pt := 21) (pf := 28) (fun _ _ kt kf => ev_if_ne (tgt := 28) dX5_wet_18 (by decide) kf kt) (fun h2 => ?_) (fun h2 => ?_)
  · refine ef_sub (lv' := [(0, .ref (pl 0))]) [0] rfl ?_
    exact okX5_wet_21 z1.2
  · refine ef_iload_n (q := 29) 1 dX5_wet_28 rfl rfl rfl ?_
    refine ef_iconst (v := (-1 : Int32)) (q := 30) dX5_wet_29 (by decide) rfl ?_
    refine ef_if (pt := 33) (pf := 48) (fun _ _ kt kf => ev_icmp_ne (tgt := 48) dX5_wet_30 (by decide) kf kt) (fun h3 => ?_) (fun h3 => ?_)
    · refine ef_aload_n (q := 34) 0 dX5_wet_33 rfl rfl rfl ?_
      refine ef_getR (t := 1) (q := 37) rfl fl5_10 rfl rfl dX5_wet_34 rfl ?_
      refine ef_getR (t := 2) (q := 40) rfl fl5_130 rfl rfl dX5_wet_37 rfl ?_
      refine ef_getR (t := 6) (q := 43) rfl fl5_206 rfl rfl dX5_wet_40 rfl ?_
      refine ef_iload_n (q := 44) 2 dX5_wet_43 rfl rfl rfl ?_
      refine ef_guard (fun g4 => ?_)
      refine ef_iaload (x := z1.2.1 6 x2.toNatClampNeg) (q := 45) rfl g4 dX5_wet_44 rfl rfl ?_
      refine ef_goto (tgt := 60) dX5_wet_45 (by decide) ?_
      exact ef_iret rfl dX5_wet_60
    · refine ef_aload_n (q := 49) 0 dX5_wet_48 rfl rfl rfl ?_
      refine ef_getR (t := 1) (q := 52) rfl fl5_10 rfl rfl dX5_wet_49 rfl ?_
      refine ef_getR (t := 2) (q := 55) rfl fl5_130 rfl rfl dX5_wet_52 rfl ?_
      refine ef_iload_n (q := 56) 1 dX5_wet_55 rfl rfl rfl ?_
      refine ef_iload_n (q := 57) 2 dX5_wet_56 rfl rfl rfl ?_
      refine ef_invVI (k := 2) (nn := 5) (π := (fun k => 2 + k)) (As := [.int x1, .int x2]) (rest := []) (q := 60) (okX0_wetAt x1 x2) (by decide +kernel) rfl calX0_wetAt ml5_209 (by decide) rfl rfl rfl (Nat.le_of_ble_eq_true rfl) dX5_wet_57 rfl rfl (fun z5 => ?_)
      exact ef_iret rfl dX5_wet_60
set_option maxRecDepth 100000 in
set_option maxHeartbeats 4000000 in
theorem okX5_wet_0 {G : GG} {pl : Nat → Nat} {h0 : PH} (x1 : Int32) (x2 : Int32) (s : SS) : EvF G 2 mX5_wet lyM pl h0 rvI (fX5_wet_0 x1 x2 s) 0 [(0, .ref (pl 0)), (1, .int x1), (2, .int x2)] [] s := by
  unfold fX5_wet_0
  refine ef_iload_n (q := 1) 1 dX5_wet_0 rfl rfl rfl ?_
  refine ef_iconst (v := (-1 : Int32)) (q := 2) dX5_wet_1 (by decide) rfl ?_
  refine ef_if (pt := 13) (pf := 5) (fun _ _ => ev_icmp_eq (tgt := 13) dX5_wet_2 (by decide)) (fun h1 => ?_) (fun h1 => ?_)
  · refine ef_sub (lv' := [(0, .ref (pl 0)), (1, .int x1), (2, .int x2)]) [0, 1, 2] rfl ?_
    exact okX5_wet_13 x1 x2 s
  · refine ef_aload_n (q := 6) 0 dX5_wet_5 rfl rfl rfl ?_
    refine ef_iload_n (q := 7) 1 dX5_wet_6 rfl rfl rfl ?_
    refine ef_invVI0 (k := 0) (As := [.int x1]) (rest := []) (q := 10) (okX5_isScoop x1) rfl calX5_isScoop ml5_191 (by decide) rfl rfl rfl (Nat.le_of_ble_eq_true rfl) dX5_wet_7 rfl (fun z2 => ?_)
    refine ef_if (pt := 21) (pf := 13) (fun _ _ => ev_if_eq (tgt := 21) dX5_wet_10 (by decide)) (fun h3 => ?_) (fun h3 => ?_)
    · refine ef_sub (lv' := [(0, .ref (pl 0))]) [0] rfl ?_
      exact okX5_wet_21 z2.2
    · refine ef_sub (lv' := [(0, .ref (pl 0)), (1, .int x1), (2, .int x2)]) [0, 1, 2] rfl ?_
      exact okX5_wet_13 x1 x2 z2.2
theorem okX5_wet (x1 : Int32) (x2 : Int32) : MtF 2 mX5_wet lyM rvI (fun _ pl => [.ref (pl 0), .int x1, .int x2]) (fX5_wet x1 x2) := by
  refine MtF.of (by decide +kernel) rfl (fun _ pl => Nat.le_of_ble_eq_true rfl) (fun G pl h0 s => ?_)
  refine ef_sub (lv := [(0, .ref (pl 0)), (1, .int x1), (2, .int x2)]) (lv' := [(0, .ref (pl 0)), (1, .int x1), (2, .int x2)]) [0, 1, 2] rfl ?_
  exact okX5_wet_0  x1 x2 s
-- X5_lickerOf
theorem dX5_lickerOf_0 : decode cX5_lickerOf 0 = .ok (.aload_n 0, 1) := by decide +kernel
theorem dX5_lickerOf_1 : decode cX5_lickerOf 1 = .ok (.iload_n 1, 1) := by decide +kernel
theorem dX5_lickerOf_2 : decode cX5_lickerOf 2 = .ok (.invokevirtual 106, 3) := by decide +kernel
theorem dX5_lickerOf_5 : decode cX5_lickerOf 5 = .ok (.ifCond .eq 12, 3) := by decide +kernel
theorem dX5_lickerOf_8 : decode cX5_lickerOf 8 = .ok (.iload_n 2, 1) := by decide +kernel
theorem dX5_lickerOf_9 : decode cX5_lickerOf 9 = .ok (.iconst 0, 1) := by decide +kernel
theorem dX5_lickerOf_10 : decode cX5_lickerOf 10 = .ok (.iconst 1, 1) := by decide +kernel
theorem dX5_lickerOf_11 : decode cX5_lickerOf 11 = .ok (.invokestatic 62, 3) := by decide +kernel
theorem dX5_lickerOf_14 : decode cX5_lickerOf 14 = .ok (.ifCond .ne 10, 3) := by decide +kernel
theorem dX5_lickerOf_17 : decode cX5_lickerOf 17 = .ok (.aload_n 0, 1) := by decide +kernel
theorem dX5_lickerOf_18 : decode cX5_lickerOf 18 = .ok (.bipush (-2), 2) := by decide +kernel
theorem dX5_lickerOf_20 : decode cX5_lickerOf 20 = .ok (.invokevirtual 66, 3) := by decide +kernel
theorem dX5_lickerOf_23 : decode cX5_lickerOf 23 = .ok (.ireturn, 1) := by decide +kernel
theorem dX5_lickerOf_24 : decode cX5_lickerOf 24 = .ok (.iload_n 2, 1) := by decide +kernel
theorem dX5_lickerOf_25 : decode cX5_lickerOf 25 = .ok (.ifCond .ne 15, 3) := by decide +kernel
theorem dX5_lickerOf_28 : decode cX5_lickerOf 28 = .ok (.aload_n 0, 1) := by decide +kernel
theorem dX5_lickerOf_29 : decode cX5_lickerOf 29 = .ok (.getfield 10, 3) := by decide +kernel
theorem dX5_lickerOf_32 : decode cX5_lickerOf 32 = .ok (.getfield 120, 3) := by decide +kernel
theorem dX5_lickerOf_35 : decode cX5_lickerOf 35 = .ok (.iload_n 1, 1) := by decide +kernel
theorem dX5_lickerOf_36 : decode cX5_lickerOf 36 = .ok (.iaload, 1) := by decide +kernel
theorem dX5_lickerOf_37 : decode cX5_lickerOf 37 = .ok (.goto 12, 3) := by decide +kernel
theorem dX5_lickerOf_40 : decode cX5_lickerOf 40 = .ok (.aload_n 0, 1) := by decide +kernel
theorem dX5_lickerOf_41 : decode cX5_lickerOf 41 = .ok (.getfield 10, 3) := by decide +kernel
theorem dX5_lickerOf_44 : decode cX5_lickerOf 44 = .ok (.getfield 127, 3) := by decide +kernel
theorem dX5_lickerOf_47 : decode cX5_lickerOf 47 = .ok (.iload_n 1, 1) := by decide +kernel
theorem dX5_lickerOf_48 : decode cX5_lickerOf 48 = .ok (.iaload, 1) := by decide +kernel
theorem dX5_lickerOf_49 : decode cX5_lickerOf 49 = .ok (.ireturn, 1) := by decide +kernel
def fX5_lickerOf_17 (s : SS) : Option (Int32 × SS) := ((fX5_refuse (-2 : Int32) s).bind fun z1 => some (z1.1, z1.2))
def fX5_lickerOf_0 (x1 : Int32) (x2 : Int32) (s : SS) : Option (Int32 × SS) := ((fX5_isLicker x1 s).bind fun z1 => if z1.1 = 0 then (fX5_lickerOf_17 z1.2) else (((fX5_isWithin x2 (0 : Int32) (1 : Int32) z1.2).bind fun z3 => if z3.1 = 0 then (fX5_lickerOf_17 z1.2) else (if x2 = 0 then (if ixB x1 4 then (some (z1.2.1 7 x1.toNatClampNeg, z1.2)) else none) else (if ixB x1 4 then (some (z1.2.1 8 x1.toNatClampNeg, z1.2)) else none)))))
def fX5_lickerOf (x1 : Int32) (x2 : Int32) (s : SS) : Option (Int32 × SS) := fX5_lickerOf_0 x1 x2 s
set_option maxRecDepth 100000 in
set_option maxHeartbeats 4000000 in
theorem okX5_lickerOf_17 {G : GG} {pl : Nat → Nat} {h0 : PH} (s : SS) : EvF G 2 mX5_lickerOf lyM pl h0 rvI (fX5_lickerOf_17 s) 17 [(0, .ref (pl 0))] [] s := by
  unfold fX5_lickerOf_17
  refine ef_aload_n (q := 18) 0 dX5_lickerOf_17 rfl rfl rfl ?_
  refine ef_bipush (v := (-2 : Int32)) (q := 20) dX5_lickerOf_18 (by decide) rfl ?_
  refine ef_invVI0 (k := 0) (As := [.int (-2 : Int32)]) (rest := []) (q := 23) (okX5_refuse (-2 : Int32)) rfl calX5_refuse ml5_66 (by decide) rfl rfl rfl (Nat.le_of_ble_eq_true rfl) dX5_lickerOf_20 rfl (fun z1 => ?_)
  exact ef_iret rfl dX5_lickerOf_23
set_option maxRecDepth 100000 in
set_option maxHeartbeats 4000000 in
theorem okX5_lickerOf_0 {G : GG} {pl : Nat → Nat} {h0 : PH} (x1 : Int32) (x2 : Int32) (s : SS) : EvF G 2 mX5_lickerOf lyM pl h0 rvI (fX5_lickerOf_0 x1 x2 s) 0 [(0, .ref (pl 0)), (1, .int x1), (2, .int x2)] [] s := by
  unfold fX5_lickerOf_0
  refine ef_aload_n (q := 1) 0 dX5_lickerOf_0 rfl rfl rfl ?_
  refine ef_iload_n (q := 2) 1 dX5_lickerOf_1 rfl rfl rfl ?_
  refine ef_invVI0 (k := 0) (As := [.int x1]) (rest := []) (q := 5) (okX5_isLicker x1) rfl calX5_isLicker ml5_106 (by decide) rfl rfl rfl (Nat.le_of_ble_eq_true rfl) dX5_lickerOf_2 rfl (fun z1 => ?_)
  refine ef_if (pt := 17) (pf := 8) (fun _ _ => ev_if_eq (tgt := 17) dX5_lickerOf_5 (by decide)) (fun h2 => ?_) (fun h2 => ?_)
  · refine ef_sub (lv' := [(0, .ref (pl 0))]) [0] rfl ?_
    exact okX5_lickerOf_17 z1.2
  · refine ef_iload_n (q := 9) 2 dX5_lickerOf_8 rfl rfl rfl ?_
    refine ef_iconst (v := (0 : Int32)) (q := 10) dX5_lickerOf_9 (by decide) rfl ?_
    refine ef_iconst (v := (1 : Int32)) (q := 11) dX5_lickerOf_10 (by decide) rfl ?_
    refine ef_invPI0 (As := [.int x2, .int (0 : Int32), .int (1 : Int32)]) (rest := []) (q := 14) (okX5_isWithin x2 (0 : Int32) (1 : Int32)) rfl calX5_isWithin ml5_62 (by decide) rfl rfl (Nat.le_of_ble_eq_true rfl) dX5_lickerOf_11 rfl (fun z3 => ?_)
    refine ef_if (pt := 17) (pf := 24) (fun _ _ kt kf => ev_if_ne (tgt := 24) dX5_lickerOf_14 (by decide) kf kt) (fun h4 => ?_) (fun h4 => ?_)
    · refine ef_sub (lv' := [(0, .ref (pl 0))]) [0] rfl ?_
      exact okX5_lickerOf_17 z1.2
    · refine ef_iload_n (q := 25) 2 dX5_lickerOf_24 rfl rfl rfl ?_
      refine ef_if (pt := 28) (pf := 40) (fun _ _ kt kf => ev_if_ne (tgt := 40) dX5_lickerOf_25 (by decide) kf kt) (fun h5 => ?_) (fun h5 => ?_)
      · refine ef_aload_n (q := 29) 0 dX5_lickerOf_28 rfl rfl rfl ?_
        refine ef_getR (t := 1) (q := 32) rfl fl5_10 rfl rfl dX5_lickerOf_29 rfl ?_
        refine ef_getR (t := 7) (q := 35) rfl fl5_120 rfl rfl dX5_lickerOf_32 rfl ?_
        refine ef_iload_n (q := 36) 1 dX5_lickerOf_35 rfl rfl rfl ?_
        refine ef_guard (fun g6 => ?_)
        refine ef_iaload (x := z1.2.1 7 x1.toNatClampNeg) (q := 37) rfl g6 dX5_lickerOf_36 rfl rfl ?_
        refine ef_goto (tgt := 49) dX5_lickerOf_37 (by decide) ?_
        exact ef_iret rfl dX5_lickerOf_49
      · refine ef_aload_n (q := 41) 0 dX5_lickerOf_40 rfl rfl rfl ?_
        refine ef_getR (t := 1) (q := 44) rfl fl5_10 rfl rfl dX5_lickerOf_41 rfl ?_
        refine ef_getR (t := 8) (q := 47) rfl fl5_127 rfl rfl dX5_lickerOf_44 rfl ?_
        refine ef_iload_n (q := 48) 1 dX5_lickerOf_47 rfl rfl rfl ?_
        refine ef_guard (fun g7 => ?_)
        refine ef_iaload (x := z1.2.1 8 x1.toNatClampNeg) (q := 49) rfl g7 dX5_lickerOf_48 rfl rfl ?_
        exact ef_iret rfl dX5_lickerOf_49
theorem okX5_lickerOf (x1 : Int32) (x2 : Int32) : MtF 2 mX5_lickerOf lyM rvI (fun _ pl => [.ref (pl 0), .int x1, .int x2]) (fX5_lickerOf x1 x2) := by
  refine MtF.of (by decide +kernel) rfl (fun _ pl => Nat.le_of_ble_eq_true rfl) (fun G pl h0 s => ?_)
  refine ef_sub (lv := [(0, .ref (pl 0)), (1, .int x1), (2, .int x2)]) (lv' := [(0, .ref (pl 0)), (1, .int x1), (2, .int x2)]) [0, 1, 2] rfl ?_
  exact okX5_lickerOf_0  x1 x2 s
-- X5_sunny
theorem dX5_sunny_0 : decode cX5_sunny 0 = .ok (.aload_n 0, 1) := by decide +kernel
theorem dX5_sunny_1 : decode cX5_sunny 1 = .ok (.iload_n 1, 1) := by decide +kernel
theorem dX5_sunny_2 : decode cX5_sunny 2 = .ok (.invokevirtual 203, 3) := by decide +kernel
theorem dX5_sunny_5 : decode cX5_sunny 5 = .ok (.ifCond .ne 10, 3) := by decide +kernel
theorem dX5_sunny_8 : decode cX5_sunny 8 = .ok (.aload_n 0, 1) := by decide +kernel
theorem dX5_sunny_9 : decode cX5_sunny 9 = .ok (.bipush (-2), 2) := by decide +kernel
theorem dX5_sunny_11 : decode cX5_sunny 11 = .ok (.invokevirtual 66, 3) := by decide +kernel
theorem dX5_sunny_14 : decode cX5_sunny 14 = .ok (.ireturn, 1) := by decide +kernel
theorem dX5_sunny_15 : decode cX5_sunny 15 = .ok (.aload_n 0, 1) := by decide +kernel
theorem dX5_sunny_16 : decode cX5_sunny 16 = .ok (.getfield 10, 3) := by decide +kernel
theorem dX5_sunny_19 : decode cX5_sunny 19 = .ok (.getfield 130, 3) := by decide +kernel
theorem dX5_sunny_22 : decode cX5_sunny 22 = .ok (.iload_n 1, 1) := by decide +kernel
theorem dX5_sunny_23 : decode cX5_sunny 23 = .ok (.invokevirtual 212, 3) := by decide +kernel
theorem dX5_sunny_26 : decode cX5_sunny 26 = .ok (.ifCond .eq 7, 3) := by decide +kernel
theorem dX5_sunny_29 : decode cX5_sunny 29 = .ok (.iconst 1, 1) := by decide +kernel
theorem dX5_sunny_30 : decode cX5_sunny 30 = .ok (.goto 4, 3) := by decide +kernel
theorem dX5_sunny_33 : decode cX5_sunny 33 = .ok (.iconst 0, 1) := by decide +kernel
theorem dX5_sunny_34 : decode cX5_sunny 34 = .ok (.ireturn, 1) := by decide +kernel
def fX5_sunny_0 (x1 : Int32) (s : SS) : Option (Int32 × SS) := ((fX5_isSide x1 s).bind fun z1 => if z1.1 = 0 then (((fX5_refuse (-2 : Int32) z1.2).bind fun z3 => some (z3.1, z3.2))) else (((fX0_isSunny x1 (selS (fun k => 2 + k) z1.2)).bind fun z4 => if z4.1 = 0 then (some ((0 : Int32), mrgS (fun k => 2 + k) 5 z1.2 z4.2)) else (some ((1 : Int32), mrgS (fun k => 2 + k) 5 z1.2 z4.2)))))
def fX5_sunny (x1 : Int32) (s : SS) : Option (Int32 × SS) := fX5_sunny_0 x1 s
set_option maxRecDepth 100000 in
set_option maxHeartbeats 4000000 in
theorem okX5_sunny_0 {G : GG} {pl : Nat → Nat} {h0 : PH} (x1 : Int32) (s : SS) : EvF G 2 mX5_sunny lyM pl h0 rvI (fX5_sunny_0 x1 s) 0 [(0, .ref (pl 0)), (1, .int x1)] [] s := by
  unfold fX5_sunny_0
  refine ef_aload_n (q := 1) 0 dX5_sunny_0 rfl rfl rfl ?_
  refine ef_iload_n (q := 2) 1 dX5_sunny_1 rfl rfl rfl ?_
  refine ef_invVI0 (k := 0) (As := [.int x1]) (rest := []) (q := 5) (okX5_isSide x1) rfl calX5_isSide ml5_203 (by decide) rfl rfl rfl (Nat.le_of_ble_eq_true rfl) dX5_sunny_2 rfl (fun z1 => ?_)
  refine ef_if (pt := 8) (pf := 15) (fun _ _ kt kf => ev_if_ne (tgt := 15) dX5_sunny_5 (by decide) kf kt) (fun h2 => ?_) (fun h2 => ?_)
  · refine ef_aload_n (q := 9) 0 dX5_sunny_8 rfl rfl rfl ?_
    refine ef_bipush (v := (-2 : Int32)) (q := 11) dX5_sunny_9 (by decide) rfl ?_
    refine ef_invVI0 (k := 0) (As := [.int (-2 : Int32)]) (rest := []) (q := 14) (okX5_refuse (-2 : Int32)) rfl calX5_refuse ml5_66 (by decide) rfl rfl rfl (Nat.le_of_ble_eq_true rfl) dX5_sunny_11 rfl (fun z3 => ?_)
    exact ef_iret rfl dX5_sunny_14
  · refine ef_aload_n (q := 16) 0 dX5_sunny_15 rfl rfl rfl ?_
    refine ef_getR (t := 1) (q := 19) rfl fl5_10 rfl rfl dX5_sunny_16 rfl ?_
    refine ef_getR (t := 2) (q := 22) rfl fl5_130 rfl rfl dX5_sunny_19 rfl ?_
    refine ef_iload_n (q := 23) 1 dX5_sunny_22 rfl rfl rfl ?_
    refine ef_invVI (k := 2) (nn := 5) (π := (fun k => 2 + k)) (As := [.int x1]) (rest := []) (q := 26) (okX0_isSunny x1) (by decide +kernel) rfl calX0_isSunny ml5_212 (by decide) rfl rfl rfl (Nat.le_of_ble_eq_true rfl) dX5_sunny_23 rfl rfl (fun z4 => ?_)
    refine ef_if (pt := 33) (pf := 29) (fun _ _ => ev_if_eq (tgt := 33) dX5_sunny_26 (by decide)) (fun h5 => ?_) (fun h5 => ?_)
    · refine ef_iconst (v := (0 : Int32)) (q := 34) dX5_sunny_33 (by decide) rfl ?_
      exact ef_iret rfl dX5_sunny_34
    · refine ef_iconst (v := (1 : Int32)) (q := 30) dX5_sunny_29 (by decide) rfl ?_
      refine ef_goto (tgt := 34) dX5_sunny_30 (by decide) ?_
      exact ef_iret rfl dX5_sunny_34
theorem okX5_sunny (x1 : Int32) : MtF 2 mX5_sunny lyM rvI (fun _ pl => [.ref (pl 0), .int x1]) (fX5_sunny x1) := by
  refine MtF.of (by decide +kernel) rfl (fun _ pl => Nat.le_of_ble_eq_true rfl) (fun G pl h0 s => ?_)
  refine ef_sub (lv := [(0, .ref (pl 0)), (1, .int x1)]) (lv' := [(0, .ref (pl 0)), (1, .int x1)]) [0, 1] rfl ?_
  exact okX5_sunny_0  x1 s
-- X5_isSpan
theorem dX5_isSpan_0 : decode cX5_isSpan 0 = .ok (.iload_n 0, 1) := by decide +kernel
theorem dX5_isSpan_1 : decode cX5_isSpan 1 = .ok (.iconst 0, 1) := by decide +kernel
theorem dX5_isSpan_2 : decode cX5_isSpan 2 = .ok (.sipush 200, 3) := by decide +kernel
theorem dX5_isSpan_5 : decode cX5_isSpan 5 = .ok (.invokestatic 62, 3) := by decide +kernel
theorem dX5_isSpan_8 : decode cX5_isSpan 8 = .ok (.ireturn, 1) := by decide +kernel
def fX5_isSpan_0 (x0 : Int32) (s : SS) : Option (Int32 × SS) := ((fX5_isWithin x0 (0 : Int32) (200 : Int32) s).bind fun z1 => some (nbZ z1.1, s))
def fX5_isSpan (x0 : Int32) (s : SS) : Option (Int32 × SS) := fX5_isSpan_0 x0 s
set_option maxRecDepth 100000 in
set_option maxHeartbeats 4000000 in
theorem okX5_isSpan_0 {G : GG} {pl : Nat → Nat} {h0 : PH} (x0 : Int32) (s : SS) : EvF G 1 mX5_isSpan ly pl h0 rvI (fX5_isSpan_0 x0 s) 0 [(0, .int x0)] [] s := by
  unfold fX5_isSpan_0
  refine ef_iload_n (q := 1) 0 dX5_isSpan_0 rfl rfl rfl ?_
  refine ef_iconst (v := (0 : Int32)) (q := 2) dX5_isSpan_1 (by decide) rfl ?_
  refine ef_sipush (v := (200 : Int32)) (q := 5) dX5_isSpan_2 (by decide) rfl ?_
  refine ef_invPI0 (As := [.int x0, .int (0 : Int32), .int (200 : Int32)]) (rest := []) (q := 8) (okX5_isWithin x0 (0 : Int32) (200 : Int32)) rfl calX5_isWithin ml5_62 (by decide) rfl rfl (Nat.le_of_ble_eq_true rfl) dX5_isSpan_5 rfl (fun z1 => ?_)
  exact ef_zret rfl dX5_isSpan_8
theorem okX5_isSpan (x0 : Int32) : MtF 1 mX5_isSpan ly rvI (fun _ pl => [.int x0]) (fX5_isSpan x0) := by
  refine MtF.of (by decide +kernel) rfl (fun _ pl => Nat.le_of_ble_eq_true rfl) (fun G pl h0 s => ?_)
  refine ef_sub (lv := [(0, .int x0)]) (lv' := [(0, .int x0)]) [0] rfl ?_
  exact okX5_isSpan_0  x0 s
-- X5_lostIdling
theorem dX5_lostIdling_0 : decode cX5_lostIdling 0 = .ok (.aload_n 0, 1) := by decide +kernel
theorem dX5_lostIdling_1 : decode cX5_lostIdling 1 = .ok (.getfield 25, 3) := by decide +kernel
theorem dX5_lostIdling_4 : decode cX5_lostIdling 4 = .ok (.getfield 227, 3) := by decide +kernel
theorem dX5_lostIdling_7 : decode cX5_lostIdling 7 = .ok (.istore_n 2, 1) := by decide +kernel
theorem dX5_lostIdling_8 : decode cX5_lostIdling 8 = .ok (.iconst 0, 1) := by decide +kernel
theorem dX5_lostIdling_9 : decode cX5_lostIdling 9 = .ok (.istore_n 3, 1) := by decide +kernel
theorem dX5_lostIdling_10 : decode cX5_lostIdling 10 = .ok (.iload_n 3, 1) := by decide +kernel
theorem dX5_lostIdling_11 : decode cX5_lostIdling 11 = .ok (.iload_n 1, 1) := by decide +kernel
theorem dX5_lostIdling_12 : decode cX5_lostIdling 12 = .ok (.if_icmp .ge 17, 3) := by decide +kernel
theorem dX5_lostIdling_15 : decode cX5_lostIdling 15 = .ok (.aload_n 0, 1) := by decide +kernel
theorem dX5_lostIdling_16 : decode cX5_lostIdling 16 = .ok (.getfield 25, 3) := by decide +kernel
theorem dX5_lostIdling_19 : decode cX5_lostIdling 19 = .ok (.iconst 0, 1) := by decide +kernel
theorem dX5_lostIdling_20 : decode cX5_lostIdling 20 = .ok (.invokevirtual 224, 3) := by decide +kernel
theorem dX5_lostIdling_23 : decode cX5_lostIdling 23 = .ok (.iinc 3 1, 3) := by decide +kernel
theorem dX5_lostIdling_26 : decode cX5_lostIdling 26 = .ok (.goto (-16), 3) := by decide +kernel
theorem dX5_lostIdling_29 : decode cX5_lostIdling 29 = .ok (.aload_n 0, 1) := by decide +kernel
theorem dX5_lostIdling_30 : decode cX5_lostIdling 30 = .ok (.getfield 25, 3) := by decide +kernel
theorem dX5_lostIdling_33 : decode cX5_lostIdling 33 = .ok (.getfield 227, 3) := by decide +kernel
theorem dX5_lostIdling_36 : decode cX5_lostIdling 36 = .ok (.iload_n 2, 1) := by decide +kernel
theorem dX5_lostIdling_37 : decode cX5_lostIdling 37 = .ok (.isub, 1) := by decide +kernel
theorem dX5_lostIdling_38 : decode cX5_lostIdling 38 = .ok (.ireturn, 1) := by decide +kernel
def fX5_lostIdling_10 : Nat → Int32 → Int32 → Int32 → SS → Option (Int32 × SS)
  | 0, _, _, _, _ => none
  | n + 1, x1, x2, x3, s => if x1 ≤ x3 then (some ((s.1 28 8) - x2, s)) else (((fX0_pass (0 : Int32) (selS (fun k => 28 + k) s)).bind fun z2 => fX5_lostIdling_10 n x1 x2 (x3 + (1 : Int32)) (mrgS (fun k => 28 + k) 5 s z2.2)))
def fX5_lostIdling_0 (x1 : Int32) (s : SS) : Option (Int32 × SS) := fX5_lostIdling_10 FU x1 (s.1 28 8) (0 : Int32) s
def fX5_lostIdling (x1 : Int32) (s : SS) : Option (Int32 × SS) := fX5_lostIdling_0 x1 s
set_option maxRecDepth 100000 in
set_option maxHeartbeats 4000000 in
theorem okX5_lostIdling_10 {G : GG} {pl : Nat → Nat} {h0 : PH} : ∀ (n : Nat) (x1 : Int32) (x2 : Int32) (x3 : Int32) (s : SS), EvF G 3 mX5_lostIdling lyM pl h0 rvI (fX5_lostIdling_10 n x1 x2 x3 s) 10 [(0, .ref (pl 0)), (1, .int x1), (2, .int x2), (3, .int x3)] [] s := by
  intro n
  induction n with
  | zero => intro x1 x2 x3 s; rw [fX5_lostIdling_10]; exact ef_none
  | succ n ih =>
    intro x1 x2 x3 s
    rw [fX5_lostIdling_10]
    refine ef_iload_n (q := 11) 3 dX5_lostIdling_10 rfl rfl rfl ?_
    refine ef_iload_n (q := 12) 1 dX5_lostIdling_11 rfl rfl rfl ?_
    refine ef_if (pt := 29) (pf := 15) (fun _ _ => ev_icmp_ge (tgt := 29) dX5_lostIdling_12 (by decide)) (fun h1 => ?_) (fun h1 => ?_)
    · refine ef_aload_n (q := 30) 0 dX5_lostIdling_29 rfl rfl rfl ?_
      refine ef_getR (t := 28) (q := 33) rfl fl5_25 rfl rfl dX5_lostIdling_30 rfl ?_
      refine ef_getI (x := s.1 28 8) (q := 36) rfl fl5_227 rfl rfl dX5_lostIdling_33 rfl ?_
      refine ef_iload_n (q := 37) 2 dX5_lostIdling_36 rfl rfl rfl ?_
      refine ef_isub (q := 38) dX5_lostIdling_37 rfl ?_
      exact ef_iret rfl dX5_lostIdling_38
    · refine ef_aload_n (q := 16) 0 dX5_lostIdling_15 rfl rfl rfl ?_
      refine ef_getR (t := 28) (q := 19) rfl fl5_25 rfl rfl dX5_lostIdling_16 rfl ?_
      refine ef_iconst (v := (0 : Int32)) (q := 20) dX5_lostIdling_19 (by decide) rfl ?_
      refine ef_invVU (k := 28) (nn := 5) (π := (fun k => 28 + k)) (As := [.int (0 : Int32)]) (rest := []) (q := 23) (okX0_pass (0 : Int32)) (by decide +kernel) rfl calX0_pass ml5_224 (by decide) rfl rfl rfl (Nat.le_of_ble_eq_true rfl) dX5_lostIdling_20 rfl rfl (fun z2 => ?_)
      refine ef_iinc (v := x3 + (1 : Int32)) (lv' := [(3, .int (x3 + (1 : Int32))), (0, .ref (pl 0)), (1, .int x1), (2, .int x2)]) (q := 26) 3 dX5_lostIdling_23 rfl rfl (by decide) rfl rfl ?_
      refine ef_goto (tgt := 10) dX5_lostIdling_26 (by decide) ?_
      refine ef_sub (lv' := [(0, .ref (pl 0)), (1, .int x1), (2, .int x2), (3, .int (x3 + (1 : Int32)))]) [1, 2, 3, 0] rfl ?_
      exact ih x1 x2 (x3 + (1 : Int32)) (mrgS (fun k => 28 + k) 5 s z2.2)
set_option maxRecDepth 100000 in
set_option maxHeartbeats 4000000 in
theorem okX5_lostIdling_0 {G : GG} {pl : Nat → Nat} {h0 : PH} (x1 : Int32) (s : SS) : EvF G 3 mX5_lostIdling lyM pl h0 rvI (fX5_lostIdling_0 x1 s) 0 [(0, .ref (pl 0)), (1, .int x1)] [] s := by
  unfold fX5_lostIdling_0
  refine ef_aload_n (q := 1) 0 dX5_lostIdling_0 rfl rfl rfl ?_
  refine ef_getR (t := 28) (q := 4) rfl fl5_25 rfl rfl dX5_lostIdling_1 rfl ?_
  refine ef_getI (x := s.1 28 8) (q := 7) rfl fl5_227 rfl rfl dX5_lostIdling_4 rfl ?_
  refine ef_istore_n (lv' := [(2, .int (s.1 28 8)), (0, .ref (pl 0)), (1, .int x1)]) (q := 8) dX5_lostIdling_7 rfl (by decide) rfl rfl ?_
  refine ef_iconst (v := (0 : Int32)) (q := 9) dX5_lostIdling_8 (by decide) rfl ?_
  refine ef_istore_n (lv' := [(3, .int (0 : Int32)), (2, .int (s.1 28 8)), (0, .ref (pl 0)), (1, .int x1)]) (q := 10) dX5_lostIdling_9 rfl (by decide) rfl rfl ?_
  refine ef_sub (lv' := [(0, .ref (pl 0)), (1, .int x1), (2, .int (s.1 28 8)), (3, .int (0 : Int32))]) [2, 3, 1, 0] rfl ?_
  exact okX5_lostIdling_10 FU x1 (s.1 28 8) (0 : Int32) s
theorem okX5_lostIdling (x1 : Int32) : MtF 3 mX5_lostIdling lyM rvI (fun _ pl => [.ref (pl 0), .int x1]) (fX5_lostIdling x1) := by
  refine MtF.of (by decide +kernel) rfl (fun _ pl => Nat.le_of_ble_eq_true rfl) (fun G pl h0 s => ?_)
  refine ef_sub (lv := [(0, .ref (pl 0)), (1, .int x1)]) (lv' := [(0, .ref (pl 0)), (1, .int x1)]) [0, 1] rfl ?_
  exact okX5_lostIdling_0  x1 s
-- X5_without
theorem dX5_without_0 : decode cX5_without 0 = .ok (.iload_n 1, 1) := by decide +kernel
theorem dX5_without_1 : decode cX5_without 1 = .ok (.invokestatic 215, 3) := by decide +kernel
theorem dX5_without_4 : decode cX5_without 4 = .ok (.ifCond .ne 10, 3) := by decide +kernel
theorem dX5_without_7 : decode cX5_without 7 = .ok (.aload_n 0, 1) := by decide +kernel
theorem dX5_without_8 : decode cX5_without 8 = .ok (.bipush (-2), 2) := by decide +kernel
theorem dX5_without_10 : decode cX5_without 10 = .ok (.invokevirtual 66, 3) := by decide +kernel
theorem dX5_without_13 : decode cX5_without 13 = .ok (.ireturn, 1) := by decide +kernel
theorem dX5_without_14 : decode cX5_without 14 = .ok (.aload_n 0, 1) := by decide +kernel
theorem dX5_without_15 : decode cX5_without 15 = .ok (.getfield 25, 3) := by decide +kernel
theorem dX5_without_18 : decode cX5_without 18 = .ok (.aload_n 0, 1) := by decide +kernel
theorem dX5_without_19 : decode cX5_without 19 = .ok (.getfield 10, 3) := by decide +kernel
theorem dX5_without_22 : decode cX5_without 22 = .ok (.getfield 130, 3) := by decide +kernel
theorem dX5_without_25 : decode cX5_without 25 = .ok (.invokevirtual 218, 3) := by decide +kernel
theorem dX5_without_28 : decode cX5_without 28 = .ok (.aload_n 0, 1) := by decide +kernel
theorem dX5_without_29 : decode cX5_without 29 = .ok (.iload_n 1, 1) := by decide +kernel
theorem dX5_without_30 : decode cX5_without 30 = .ok (.invokevirtual 221, 3) := by decide +kernel
theorem dX5_without_33 : decode cX5_without 33 = .ok (.ireturn, 1) := by decide +kernel
def fX5_without_0 (x1 : Int32) (s : SS) : Option (Int32 × SS) := ((fX5_isSpan x1 s).bind fun z1 => if z1.1 = 0 then (((fX5_refuse (-2 : Int32) s).bind fun z3 => some (z3.1, z3.2))) else (((fX0_takeFrom (selS (fun k => if k < 5 then 28 + k else 2 + (k - 5)) s)).bind fun z4 => ((fX5_lostIdling x1 (mrgS (fun k => if k < 5 then 28 + k else 2 + (k - 5)) 10 s z4.2)).bind fun z5 => some (z5.1, z5.2)))))
def fX5_without (x1 : Int32) (s : SS) : Option (Int32 × SS) := fX5_without_0 x1 s
set_option maxRecDepth 100000 in
set_option maxHeartbeats 4000000 in
theorem okX5_without_0 {G : GG} {pl : Nat → Nat} {h0 : PH} (x1 : Int32) (s : SS) : EvF G 4 mX5_without lyM pl h0 rvI (fX5_without_0 x1 s) 0 [(0, .ref (pl 0)), (1, .int x1)] [] s := by
  unfold fX5_without_0
  refine ef_iload_n (q := 1) 1 dX5_without_0 rfl rfl rfl ?_
  refine ef_invPI0 (As := [.int x1]) (rest := []) (q := 4) (okX5_isSpan x1) rfl calX5_isSpan ml5_215 (by decide) rfl rfl (Nat.le_of_ble_eq_true rfl) dX5_without_1 rfl (fun z1 => ?_)
  refine ef_if (pt := 7) (pf := 14) (fun _ _ kt kf => ev_if_ne (tgt := 14) dX5_without_4 (by decide) kf kt) (fun h2 => ?_) (fun h2 => ?_)
  · refine ef_aload_n (q := 8) 0 dX5_without_7 rfl rfl rfl ?_
    refine ef_bipush (v := (-2 : Int32)) (q := 10) dX5_without_8 (by decide) rfl ?_
    refine ef_invVI0 (k := 0) (As := [.int (-2 : Int32)]) (rest := []) (q := 13) (okX5_refuse (-2 : Int32)) rfl calX5_refuse ml5_66 (by decide) rfl rfl rfl (Nat.le_of_ble_eq_true rfl) dX5_without_10 rfl (fun z3 => ?_)
    exact ef_iret rfl dX5_without_13
  · refine ef_aload_n (q := 15) 0 dX5_without_14 rfl rfl rfl ?_
    refine ef_getR (t := 28) (q := 18) rfl fl5_25 rfl rfl dX5_without_15 rfl ?_
    refine ef_aload_n (q := 19) 0 dX5_without_18 rfl rfl rfl ?_
    refine ef_getR (t := 1) (q := 22) rfl fl5_10 rfl rfl dX5_without_19 rfl ?_
    refine ef_getR (t := 2) (q := 25) rfl fl5_130 rfl rfl dX5_without_22 rfl ?_
    refine ef_invVU (k := 28) (nn := 10) (π := (fun k => if k < 5 then 28 + k else 2 + (k - 5))) (As := [.ref (pl 2)]) (rest := []) (q := 28) (okX0_takeFrom) (by decide +kernel) rfl calX0_takeFrom ml5_218 (by decide) rfl rfl rfl (Nat.le_of_ble_eq_true rfl) dX5_without_25 rfl rfl (fun z4 => ?_)
    refine ef_aload_n (q := 29) 0 dX5_without_28 rfl rfl rfl ?_
    refine ef_iload_n (q := 30) 1 dX5_without_29 rfl rfl rfl ?_
    refine ef_invVI0 (k := 0) (As := [.int x1]) (rest := []) (q := 33) (okX5_lostIdling x1) rfl calX5_lostIdling ml5_221 (by decide) rfl rfl rfl (Nat.le_of_ble_eq_true rfl) dX5_without_30 rfl (fun z5 => ?_)
    exact ef_iret rfl dX5_without_33
theorem okX5_without (x1 : Int32) : MtF 4 mX5_without lyM rvI (fun _ pl => [.ref (pl 0), .int x1]) (fX5_without x1) := by
  refine MtF.of (by decide +kernel) rfl (fun _ pl => Nat.le_of_ble_eq_true rfl) (fun G pl h0 s => ?_)
  refine ef_sub (lv := [(0, .ref (pl 0)), (1, .int x1)]) (lv' := [(0, .ref (pl 0)), (1, .int x1)]) [0, 1] rfl ?_
  exact okX5_without_0  x1 s
-- X5_spare
theorem dX5_spare_0 : decode cX5_spare 0 = .ok (.aload_n 0, 1) := by decide +kernel
theorem dX5_spare_1 : decode cX5_spare 1 = .ok (.getfield 25, 3) := by decide +kernel
theorem dX5_spare_4 : decode cX5_spare 4 = .ok (.aload_n 0, 1) := by decide +kernel
theorem dX5_spare_5 : decode cX5_spare 5 = .ok (.getfield 10, 3) := by decide +kernel
theorem dX5_spare_8 : decode cX5_spare 8 = .ok (.getfield 130, 3) := by decide +kernel
theorem dX5_spare_11 : decode cX5_spare 11 = .ok (.invokevirtual 218, 3) := by decide +kernel
theorem dX5_spare_14 : decode cX5_spare 14 = .ok (.iconst 0, 1) := by decide +kernel
theorem dX5_spare_15 : decode cX5_spare 15 = .ok (.istore_n 1, 1) := by decide +kernel
theorem dX5_spare_16 : decode cX5_spare 16 = .ok (.iload_n 1, 1) := by decide +kernel
theorem dX5_spare_17 : decode cX5_spare 17 = .ok (.sipush 200, 3) := by decide +kernel
theorem dX5_spare_20 : decode cX5_spare 20 = .ok (.if_icmp .ge 39, 3) := by decide +kernel
theorem dX5_spare_23 : decode cX5_spare 23 = .ok (.aload_n 0, 1) := by decide +kernel
theorem dX5_spare_24 : decode cX5_spare 24 = .ok (.getfield 25, 3) := by decide +kernel
theorem dX5_spare_27 : decode cX5_spare 27 = .ok (.iconst 0, 1) := by decide +kernel
theorem dX5_spare_28 : decode cX5_spare 28 = .ok (.invokevirtual 224, 3) := by decide +kernel
theorem dX5_spare_31 : decode cX5_spare 31 = .ok (.aload_n 0, 1) := by decide +kernel
theorem dX5_spare_32 : decode cX5_spare 32 = .ok (.getfield 25, 3) := by decide +kernel
theorem dX5_spare_35 : decode cX5_spare 35 = .ok (.getfield 227, 3) := by decide +kernel
theorem dX5_spare_38 : decode cX5_spare 38 = .ok (.aload_n 0, 1) := by decide +kernel
theorem dX5_spare_39 : decode cX5_spare 39 = .ok (.getfield 10, 3) := by decide +kernel
theorem dX5_spare_42 : decode cX5_spare 42 = .ok (.getfield 130, 3) := by decide +kernel
theorem dX5_spare_45 : decode cX5_spare 45 = .ok (.getfield 227, 3) := by decide +kernel
theorem dX5_spare_48 : decode cX5_spare 48 = .ok (.if_icmp .le 5, 3) := by decide +kernel
theorem dX5_spare_51 : decode cX5_spare 51 = .ok (.iload_n 1, 1) := by decide +kernel
theorem dX5_spare_52 : decode cX5_spare 52 = .ok (.ireturn, 1) := by decide +kernel
theorem dX5_spare_53 : decode cX5_spare 53 = .ok (.iinc 1 1, 3) := by decide +kernel
theorem dX5_spare_56 : decode cX5_spare 56 = .ok (.goto (-40), 3) := by decide +kernel
theorem dX5_spare_59 : decode cX5_spare 59 = .ok (.sipush 200, 3) := by decide +kernel
theorem dX5_spare_62 : decode cX5_spare 62 = .ok (.ireturn, 1) := by decide +kernel
def fX5_spare_16 : Nat → Int32 → SS → Option (Int32 × SS)
  | 0, _, _ => none
  | n + 1, x1, s => if (200 : Int32) ≤ x1 then (some ((200 : Int32), s)) else (((fX0_pass (0 : Int32) (selS (fun k => 28 + k) s)).bind fun z2 => if ((mrgS (fun k => 28 + k) 5 s z2.2).1 28 8) ≤ ((mrgS (fun k => 28 + k) 5 s z2.2).1 2 8) then (fX5_spare_16 n (x1 + (1 : Int32)) (mrgS (fun k => 28 + k) 5 s z2.2)) else (some (x1, mrgS (fun k => 28 + k) 5 s z2.2))))
def fX5_spare_0 (s : SS) : Option (Int32 × SS) := ((fX0_takeFrom (selS (fun k => if k < 5 then 28 + k else 2 + (k - 5)) s)).bind fun z1 => fX5_spare_16 FU (0 : Int32) (mrgS (fun k => if k < 5 then 28 + k else 2 + (k - 5)) 10 s z1.2))
def fX5_spare (s : SS) : Option (Int32 × SS) := fX5_spare_0 s
set_option maxRecDepth 100000 in
set_option maxHeartbeats 4000000 in
theorem okX5_spare_16 {G : GG} {pl : Nat → Nat} {h0 : PH} : ∀ (n : Nat) (x1 : Int32) (s : SS), EvF G 3 mX5_spare lyM pl h0 rvI (fX5_spare_16 n x1 s) 16 [(0, .ref (pl 0)), (1, .int x1)] [] s := by
  intro n
  induction n with
  | zero => intro x1 s; rw [fX5_spare_16]; exact ef_none
  | succ n ih =>
    intro x1 s
    rw [fX5_spare_16]
    refine ef_iload_n (q := 17) 1 dX5_spare_16 rfl rfl rfl ?_
    refine ef_sipush (v := (200 : Int32)) (q := 20) dX5_spare_17 (by decide) rfl ?_
    refine ef_if (pt := 59) (pf := 23) (fun _ _ => ev_icmp_ge (tgt := 59) dX5_spare_20 (by decide)) (fun h1 => ?_) (fun h1 => ?_)
    · refine ef_sipush (v := (200 : Int32)) (q := 62) dX5_spare_59 (by decide) rfl ?_
      exact ef_iret rfl dX5_spare_62
    · refine ef_aload_n (q := 24) 0 dX5_spare_23 rfl rfl rfl ?_
      refine ef_getR (t := 28) (q := 27) rfl fl5_25 rfl rfl dX5_spare_24 rfl ?_
      refine ef_iconst (v := (0 : Int32)) (q := 28) dX5_spare_27 (by decide) rfl ?_
      refine ef_invVU (k := 28) (nn := 5) (π := (fun k => 28 + k)) (As := [.int (0 : Int32)]) (rest := []) (q := 31) (okX0_pass (0 : Int32)) (by decide +kernel) rfl calX0_pass ml5_224 (by decide) rfl rfl rfl (Nat.le_of_ble_eq_true rfl) dX5_spare_28 rfl rfl (fun z2 => ?_)
      refine ef_aload_n (q := 32) 0 dX5_spare_31 rfl rfl rfl ?_
      refine ef_getR (t := 28) (q := 35) rfl fl5_25 rfl rfl dX5_spare_32 rfl ?_
      refine ef_getI (x := (mrgS (fun k => 28 + k) 5 s z2.2).1 28 8) (q := 38) rfl fl5_227 rfl rfl dX5_spare_35 rfl ?_
      refine ef_aload_n (q := 39) 0 dX5_spare_38 rfl rfl rfl ?_
      refine ef_getR (t := 1) (q := 42) rfl fl5_10 rfl rfl dX5_spare_39 rfl ?_
      refine ef_getR (t := 2) (q := 45) rfl fl5_130 rfl rfl dX5_spare_42 rfl ?_
      refine ef_getI (x := (mrgS (fun k => 28 + k) 5 s z2.2).1 2 8) (q := 48) rfl fl5_227 rfl rfl dX5_spare_45 rfl ?_
      refine ef_if (pt := 53) (pf := 51) (fun _ _ => ev_icmp_le (tgt := 53) dX5_spare_48 (by decide)) (fun h3 => ?_) (fun h3 => ?_)
      · refine ef_iinc (v := x1 + (1 : Int32)) (lv' := [(1, .int (x1 + (1 : Int32))), (0, .ref (pl 0))]) (q := 56) 1 dX5_spare_53 rfl rfl (by decide) rfl rfl ?_
        refine ef_goto (tgt := 16) dX5_spare_56 (by decide) ?_
        refine ef_sub (lv' := [(0, .ref (pl 0)), (1, .int (x1 + (1 : Int32)))]) [1, 0] rfl ?_
        exact ih (x1 + (1 : Int32)) (mrgS (fun k => 28 + k) 5 s z2.2)
      · refine ef_iload_n (q := 52) 1 dX5_spare_51 rfl rfl rfl ?_
        exact ef_iret rfl dX5_spare_52
set_option maxRecDepth 100000 in
set_option maxHeartbeats 4000000 in
theorem okX5_spare_0 {G : GG} {pl : Nat → Nat} {h0 : PH} (s : SS) : EvF G 3 mX5_spare lyM pl h0 rvI (fX5_spare_0 s) 0 [(0, .ref (pl 0))] [] s := by
  unfold fX5_spare_0
  refine ef_aload_n (q := 1) 0 dX5_spare_0 rfl rfl rfl ?_
  refine ef_getR (t := 28) (q := 4) rfl fl5_25 rfl rfl dX5_spare_1 rfl ?_
  refine ef_aload_n (q := 5) 0 dX5_spare_4 rfl rfl rfl ?_
  refine ef_getR (t := 1) (q := 8) rfl fl5_10 rfl rfl dX5_spare_5 rfl ?_
  refine ef_getR (t := 2) (q := 11) rfl fl5_130 rfl rfl dX5_spare_8 rfl ?_
  refine ef_invVU (k := 28) (nn := 10) (π := (fun k => if k < 5 then 28 + k else 2 + (k - 5))) (As := [.ref (pl 2)]) (rest := []) (q := 14) (okX0_takeFrom) (by decide +kernel) rfl calX0_takeFrom ml5_218 (by decide) rfl rfl rfl (Nat.le_of_ble_eq_true rfl) dX5_spare_11 rfl rfl (fun z1 => ?_)
  refine ef_iconst (v := (0 : Int32)) (q := 15) dX5_spare_14 (by decide) rfl ?_
  refine ef_istore_n (lv' := [(1, .int (0 : Int32)), (0, .ref (pl 0))]) (q := 16) dX5_spare_15 rfl (by decide) rfl rfl ?_
  refine ef_sub (lv' := [(0, .ref (pl 0)), (1, .int (0 : Int32))]) [1, 0] rfl ?_
  exact okX5_spare_16 FU (0 : Int32) (mrgS (fun k => if k < 5 then 28 + k else 2 + (k - 5)) 10 s z1.2)
theorem okX5_spare : MtF 3 mX5_spare lyM rvI (fun _ pl => [.ref (pl 0)]) (fX5_spare) := by
  refine MtF.of (by decide +kernel) rfl (fun _ pl => Nat.le_of_ble_eq_true rfl) (fun G pl h0 s => ?_)
  refine ef_sub (lv := [(0, .ref (pl 0))]) (lv' := [(0, .ref (pl 0))]) [0] rfl ?_
  exact okX5_spare_0  s
-- X5_thinkRun
theorem dX5_thinkRun_0 : decode cX5_thinkRun 0 = .ok (.aload_n 0, 1) := by decide +kernel
theorem dX5_thinkRun_1 : decode cX5_thinkRun 1 = .ok (.getfield 25, 3) := by decide +kernel
theorem dX5_thinkRun_4 : decode cX5_thinkRun 4 = .ok (.aload_n 0, 1) := by decide +kernel
theorem dX5_thinkRun_5 : decode cX5_thinkRun 5 = .ok (.getfield 10, 3) := by decide +kernel
theorem dX5_thinkRun_8 : decode cX5_thinkRun 8 = .ok (.getfield 130, 3) := by decide +kernel
theorem dX5_thinkRun_11 : decode cX5_thinkRun 11 = .ok (.invokevirtual 218, 3) := by decide +kernel
theorem dX5_thinkRun_14 : decode cX5_thinkRun 14 = .ok (.iconst 0, 1) := by decide +kernel
theorem dX5_thinkRun_15 : decode cX5_thinkRun 15 = .ok (.istore_n 3, 1) := by decide +kernel
theorem dX5_thinkRun_16 : decode cX5_thinkRun 16 = .ok (.iload_n 3, 1) := by decide +kernel
theorem dX5_thinkRun_17 : decode cX5_thinkRun 17 = .ok (.iload_n 2, 1) := by decide +kernel
theorem dX5_thinkRun_18 : decode cX5_thinkRun 18 = .ok (.if_icmp .ge 45, 3) := by decide +kernel
theorem dX5_thinkRun_21 : decode cX5_thinkRun 21 = .ok (.aload_n 0, 1) := by decide +kernel
theorem dX5_thinkRun_22 : decode cX5_thinkRun 22 = .ok (.getfield 25, 3) := by decide +kernel
theorem dX5_thinkRun_25 : decode cX5_thinkRun 25 = .ok (.aload_n 0, 1) := by decide +kernel
theorem dX5_thinkRun_26 : decode cX5_thinkRun 26 = .ok (.getfield 32, 3) := by decide +kernel
theorem dX5_thinkRun_29 : decode cX5_thinkRun 29 = .ok (.aload_n 0, 1) := by decide +kernel
theorem dX5_thinkRun_30 : decode cX5_thinkRun 30 = .ok (.getfield 25, 3) := by decide +kernel
theorem dX5_thinkRun_33 : decode cX5_thinkRun 33 = .ok (.aload_n 0, 1) := by decide +kernel
theorem dX5_thinkRun_34 : decode cX5_thinkRun 34 = .ok (.getfield 10, 3) := by decide +kernel
theorem dX5_thinkRun_37 : decode cX5_thinkRun 37 = .ok (.getfield 120, 3) := by decide +kernel
theorem dX5_thinkRun_40 : decode cX5_thinkRun 40 = .ok (.iload_n 1, 1) := by decide +kernel
theorem dX5_thinkRun_41 : decode cX5_thinkRun 41 = .ok (.iaload, 1) := by decide +kernel
theorem dX5_thinkRun_42 : decode cX5_thinkRun 42 = .ok (.aload_n 0, 1) := by decide +kernel
theorem dX5_thinkRun_43 : decode cX5_thinkRun 43 = .ok (.getfield 10, 3) := by decide +kernel
theorem dX5_thinkRun_46 : decode cX5_thinkRun 46 = .ok (.getfield 127, 3) := by decide +kernel
theorem dX5_thinkRun_49 : decode cX5_thinkRun 49 = .ok (.iload_n 1, 1) := by decide +kernel
theorem dX5_thinkRun_50 : decode cX5_thinkRun 50 = .ok (.iaload, 1) := by decide +kernel
theorem dX5_thinkRun_51 : decode cX5_thinkRun 51 = .ok (.invokevirtual 319, 3) := by decide +kernel
theorem dX5_thinkRun_54 : decode cX5_thinkRun 54 = .ok (.invokevirtual 224, 3) := by decide +kernel
theorem dX5_thinkRun_57 : decode cX5_thinkRun 57 = .ok (.iinc 3 1, 3) := by decide +kernel
theorem dX5_thinkRun_60 : decode cX5_thinkRun 60 = .ok (.goto (-44), 3) := by decide +kernel
theorem dX5_thinkRun_63 : decode cX5_thinkRun 63 = .ok (.return_, 1) := by decide +kernel
def fX5_thinkRun_16 : Nat → Int32 → Int32 → Int32 → SS → Option (Unit × SS)
  | 0, _, _, _, _ => none
  | n + 1, x1, x2, x3, s => if x2 ≤ x3 then (some ((), s)) else (if ixB x1 4 then (if ixB x1 4 then (((fX2_choose (s.1 7 x1.toNatClampNeg) (s.1 8 x1.toNatClampNeg) (selS (fun k => if k < 24 then 33 + k else 28 + (k - 24)) s)).bind fun z4 => ((fX0_pass z4.1 (selS (fun k => 28 + k) (mrgS (fun k => if k < 24 then 33 + k else 28 + (k - 24)) 29 s z4.2))).bind fun z5 => fX5_thinkRun_16 n x1 x2 (x3 + (1 : Int32)) (mrgS (fun k => 28 + k) 5 (mrgS (fun k => if k < 24 then 33 + k else 28 + (k - 24)) 29 s z4.2) z5.2)))) else none) else none)
def fX5_thinkRun_0 (x1 : Int32) (x2 : Int32) (s : SS) : Option (Unit × SS) := ((fX0_takeFrom (selS (fun k => if k < 5 then 28 + k else 2 + (k - 5)) s)).bind fun z1 => fX5_thinkRun_16 FU x1 x2 (0 : Int32) (mrgS (fun k => if k < 5 then 28 + k else 2 + (k - 5)) 10 s z1.2))
def fX5_thinkRun (x1 : Int32) (x2 : Int32) (s : SS) : Option (Unit × SS) := fX5_thinkRun_0 x1 x2 s
set_option maxRecDepth 100000 in
set_option maxHeartbeats 4000000 in
theorem okX5_thinkRun_16 {G : GG} {pl : Nat → Nat} {h0 : PH} : ∀ (n : Nat) (x1 : Int32) (x2 : Int32) (x3 : Int32) (s : SS), EvF G 11 mX5_thinkRun lyM pl h0 rvU (fX5_thinkRun_16 n x1 x2 x3 s) 16 [(0, .ref (pl 0)), (1, .int x1), (2, .int x2), (3, .int x3)] [] s := by
  intro n
  induction n with
  | zero => intro x1 x2 x3 s; rw [fX5_thinkRun_16]; exact ef_none
  | succ n ih =>
    intro x1 x2 x3 s
    rw [fX5_thinkRun_16]
    refine ef_iload_n (q := 17) 3 dX5_thinkRun_16 rfl rfl rfl ?_
    refine ef_iload_n (q := 18) 2 dX5_thinkRun_17 rfl rfl rfl ?_
    refine ef_if (pt := 63) (pf := 21) (fun _ _ => ev_icmp_ge (tgt := 63) dX5_thinkRun_18 (by decide)) (fun h1 => ?_) (fun h1 => ?_)
    · exact ef_vret rfl dX5_thinkRun_63
    · refine ef_aload_n (q := 22) 0 dX5_thinkRun_21 rfl rfl rfl ?_
      refine ef_getR (t := 28) (q := 25) rfl fl5_25 rfl rfl dX5_thinkRun_22 rfl ?_
      refine ef_aload_n (q := 26) 0 dX5_thinkRun_25 rfl rfl rfl ?_
      refine ef_getR (t := 33) (q := 29) rfl fl5_32 rfl rfl dX5_thinkRun_26 rfl ?_
      refine ef_aload_n (q := 30) 0 dX5_thinkRun_29 rfl rfl rfl ?_
      refine ef_getR (t := 28) (q := 33) rfl fl5_25 rfl rfl dX5_thinkRun_30 rfl ?_
      refine ef_aload_n (q := 34) 0 dX5_thinkRun_33 rfl rfl rfl ?_
      refine ef_getR (t := 1) (q := 37) rfl fl5_10 rfl rfl dX5_thinkRun_34 rfl ?_
      refine ef_getR (t := 7) (q := 40) rfl fl5_120 rfl rfl dX5_thinkRun_37 rfl ?_
      refine ef_iload_n (q := 41) 1 dX5_thinkRun_40 rfl rfl rfl ?_
      refine ef_guard (fun g2 => ?_)
      refine ef_iaload (x := s.1 7 x1.toNatClampNeg) (q := 42) rfl g2 dX5_thinkRun_41 rfl rfl ?_
      refine ef_aload_n (q := 43) 0 dX5_thinkRun_42 rfl rfl rfl ?_
      refine ef_getR (t := 1) (q := 46) rfl fl5_10 rfl rfl dX5_thinkRun_43 rfl ?_
      refine ef_getR (t := 8) (q := 49) rfl fl5_127 rfl rfl dX5_thinkRun_46 rfl ?_
      refine ef_iload_n (q := 50) 1 dX5_thinkRun_49 rfl rfl rfl ?_
      refine ef_guard (fun g3 => ?_)
      refine ef_iaload (x := s.1 8 x1.toNatClampNeg) (q := 51) rfl g3 dX5_thinkRun_50 rfl rfl ?_
      refine ef_invVI (k := 33) (nn := 29) (π := (fun k => if k < 24 then 33 + k else 28 + (k - 24))) (As := [.ref (pl 28), .int (s.1 7 x1.toNatClampNeg), .int (s.1 8 x1.toNatClampNeg)]) (rest := [.ref (pl 28)]) (q := 54) (okX2_choose (s.1 7 x1.toNatClampNeg) (s.1 8 x1.toNatClampNeg)) (by decide +kernel) rfl calX2_choose ml5_319 (by decide) rfl rfl rfl (Nat.le_of_ble_eq_true rfl) dX5_thinkRun_51 rfl rfl (fun z4 => ?_)
      refine ef_invVU (k := 28) (nn := 5) (π := (fun k => 28 + k)) (As := [.int z4.1]) (rest := []) (q := 57) (okX0_pass z4.1) (by decide +kernel) rfl calX0_pass ml5_224 (by decide) rfl rfl rfl (Nat.le_of_ble_eq_true rfl) dX5_thinkRun_54 rfl rfl (fun z5 => ?_)
      refine ef_iinc (v := x3 + (1 : Int32)) (lv' := [(3, .int (x3 + (1 : Int32))), (0, .ref (pl 0)), (1, .int x1), (2, .int x2)]) (q := 60) 3 dX5_thinkRun_57 rfl rfl (by decide) rfl rfl ?_
      refine ef_goto (tgt := 16) dX5_thinkRun_60 (by decide) ?_
      refine ef_sub (lv' := [(0, .ref (pl 0)), (1, .int x1), (2, .int x2), (3, .int (x3 + (1 : Int32)))]) [1, 2, 3, 0] rfl ?_
      exact ih x1 x2 (x3 + (1 : Int32)) (mrgS (fun k => 28 + k) 5 (mrgS (fun k => if k < 24 then 33 + k else 28 + (k - 24)) 29 s z4.2) z5.2)
set_option maxRecDepth 100000 in
set_option maxHeartbeats 4000000 in
theorem okX5_thinkRun_0 {G : GG} {pl : Nat → Nat} {h0 : PH} (x1 : Int32) (x2 : Int32) (s : SS) : EvF G 11 mX5_thinkRun lyM pl h0 rvU (fX5_thinkRun_0 x1 x2 s) 0 [(0, .ref (pl 0)), (1, .int x1), (2, .int x2)] [] s := by
  unfold fX5_thinkRun_0
  refine ef_aload_n (q := 1) 0 dX5_thinkRun_0 rfl rfl rfl ?_
  refine ef_getR (t := 28) (q := 4) rfl fl5_25 rfl rfl dX5_thinkRun_1 rfl ?_
  refine ef_aload_n (q := 5) 0 dX5_thinkRun_4 rfl rfl rfl ?_
  refine ef_getR (t := 1) (q := 8) rfl fl5_10 rfl rfl dX5_thinkRun_5 rfl ?_
  refine ef_getR (t := 2) (q := 11) rfl fl5_130 rfl rfl dX5_thinkRun_8 rfl ?_
  refine ef_invVU (k := 28) (nn := 10) (π := (fun k => if k < 5 then 28 + k else 2 + (k - 5))) (As := [.ref (pl 2)]) (rest := []) (q := 14) (okX0_takeFrom) (by decide +kernel) rfl calX0_takeFrom ml5_218 (by decide) rfl rfl rfl (Nat.le_of_ble_eq_true rfl) dX5_thinkRun_11 rfl rfl (fun z1 => ?_)
  refine ef_iconst (v := (0 : Int32)) (q := 15) dX5_thinkRun_14 (by decide) rfl ?_
  refine ef_istore_n (lv' := [(3, .int (0 : Int32)), (0, .ref (pl 0)), (1, .int x1), (2, .int x2)]) (q := 16) dX5_thinkRun_15 rfl (by decide) rfl rfl ?_
  refine ef_sub (lv' := [(0, .ref (pl 0)), (1, .int x1), (2, .int x2), (3, .int (0 : Int32))]) [1, 2, 3, 0] rfl ?_
  exact okX5_thinkRun_16 FU x1 x2 (0 : Int32) (mrgS (fun k => if k < 5 then 28 + k else 2 + (k - 5)) 10 s z1.2)
theorem okX5_thinkRun (x1 : Int32) (x2 : Int32) : MtF 11 mX5_thinkRun lyM rvU (fun _ pl => [.ref (pl 0), .int x1, .int x2]) (fX5_thinkRun x1 x2) := by
  refine MtF.of (by decide +kernel) rfl (fun _ pl => Nat.le_of_ble_eq_true rfl) (fun G pl h0 s => ?_)
  refine ef_sub (lv := [(0, .ref (pl 0)), (1, .int x1), (2, .int x2)]) (lv' := [(0, .ref (pl 0)), (1, .int x1), (2, .int x2)]) [0, 1, 2] rfl ?_
  exact okX5_thinkRun_0  x1 x2 s
-- X5_thoughtResult
theorem dX5_thoughtResult_0 : decode cX5_thoughtResult 0 = .ok (.iload_n 1, 1) := by decide +kernel
theorem dX5_thoughtResult_1 : decode cX5_thoughtResult 1 = .ok (.tableswitch 73 0 2 #[27, 46, 65], 27) := by decide +kernel
theorem dX5_thoughtResult_28 : decode cX5_thoughtResult 28 = .ok (.aload_n 0, 1) := by decide +kernel
theorem dX5_thoughtResult_29 : decode cX5_thoughtResult 29 = .ok (.getfield 25, 3) := by decide +kernel
theorem dX5_thoughtResult_32 : decode cX5_thoughtResult 32 = .ok (.getfield 227, 3) := by decide +kernel
theorem dX5_thoughtResult_35 : decode cX5_thoughtResult 35 = .ok (.aload_n 0, 1) := by decide +kernel
theorem dX5_thoughtResult_36 : decode cX5_thoughtResult 36 = .ok (.getfield 10, 3) := by decide +kernel
theorem dX5_thoughtResult_39 : decode cX5_thoughtResult 39 = .ok (.getfield 130, 3) := by decide +kernel
theorem dX5_thoughtResult_42 : decode cX5_thoughtResult 42 = .ok (.getfield 227, 3) := by decide +kernel
theorem dX5_thoughtResult_45 : decode cX5_thoughtResult 45 = .ok (.isub, 1) := by decide +kernel
theorem dX5_thoughtResult_46 : decode cX5_thoughtResult 46 = .ok (.ireturn, 1) := by decide +kernel
theorem dX5_thoughtResult_47 : decode cX5_thoughtResult 47 = .ok (.aload_n 0, 1) := by decide +kernel
theorem dX5_thoughtResult_48 : decode cX5_thoughtResult 48 = .ok (.getfield 25, 3) := by decide +kernel
theorem dX5_thoughtResult_51 : decode cX5_thoughtResult 51 = .ok (.getfield 246, 3) := by decide +kernel
theorem dX5_thoughtResult_54 : decode cX5_thoughtResult 54 = .ok (.aload_n 0, 1) := by decide +kernel
theorem dX5_thoughtResult_55 : decode cX5_thoughtResult 55 = .ok (.getfield 10, 3) := by decide +kernel
theorem dX5_thoughtResult_58 : decode cX5_thoughtResult 58 = .ok (.getfield 130, 3) := by decide +kernel
theorem dX5_thoughtResult_61 : decode cX5_thoughtResult 61 = .ok (.getfield 246, 3) := by decide +kernel
theorem dX5_thoughtResult_64 : decode cX5_thoughtResult 64 = .ok (.isub, 1) := by decide +kernel
theorem dX5_thoughtResult_65 : decode cX5_thoughtResult 65 = .ok (.ireturn, 1) := by decide +kernel
theorem dX5_thoughtResult_66 : decode cX5_thoughtResult 66 = .ok (.aload_n 0, 1) := by decide +kernel
theorem dX5_thoughtResult_67 : decode cX5_thoughtResult 67 = .ok (.getfield 25, 3) := by decide +kernel
theorem dX5_thoughtResult_70 : decode cX5_thoughtResult 70 = .ok (.invokevirtual 249, 3) := by decide +kernel
theorem dX5_thoughtResult_73 : decode cX5_thoughtResult 73 = .ok (.ireturn, 1) := by decide +kernel
theorem dX5_thoughtResult_74 : decode cX5_thoughtResult 74 = .ok (.aload_n 0, 1) := by decide +kernel
theorem dX5_thoughtResult_75 : decode cX5_thoughtResult 75 = .ok (.getfield 25, 3) := by decide +kernel
theorem dX5_thoughtResult_78 : decode cX5_thoughtResult 78 = .ok (.getfield 170, 3) := by decide +kernel
theorem dX5_thoughtResult_81 : decode cX5_thoughtResult 81 = .ok (.ireturn, 1) := by decide +kernel
def fX5_thoughtResult_0 (x1 : Int32) (s : SS) : Option (Int32 × SS) := if x1 = (0 : Int32) then (some ((s.1 28 8) - (s.1 2 8), s)) else (if x1 = (1 : Int32) then (some ((s.1 28 9) - (s.1 2 9), s)) else (if x1 = (2 : Int32) then (((fX0_left (selS (fun k => 28 + k) s)).bind fun z4 => some (z4.1, mrgS (fun k => 28 + k) 5 s z4.2))) else (some (s.1 28 1, s))))
def fX5_thoughtResult (x1 : Int32) (s : SS) : Option (Int32 × SS) := fX5_thoughtResult_0 x1 s
set_option maxRecDepth 100000 in
set_option maxHeartbeats 4000000 in
theorem okX5_thoughtResult_0 {G : GG} {pl : Nat → Nat} {h0 : PH} (x1 : Int32) (s : SS) : EvF G 3 mX5_thoughtResult lyM pl h0 rvI (fX5_thoughtResult_0 x1 s) 0 [(0, .ref (pl 0)), (1, .int x1)] [] s := by
  unfold fX5_thoughtResult_0
  refine ef_iload_n (q := 1) 1 dX5_thoughtResult_0 rfl rfl rfl ?_
  refine ef_dec (fun h1 => ?_) (fun h1 => ?_)
  · refine ef_of (fun _ _ => ev_tableIn (tgt := 28) dX5_thoughtResult_1 (by rw [h1]; decide) (by rw [h1]; decide) (off := 27) (by rw [h1]; rfl) (by decide)) ?_
    refine ef_aload_n (q := 29) 0 dX5_thoughtResult_28 rfl rfl rfl ?_
    refine ef_getR (t := 28) (q := 32) rfl fl5_25 rfl rfl dX5_thoughtResult_29 rfl ?_
    refine ef_getI (x := s.1 28 8) (q := 35) rfl fl5_227 rfl rfl dX5_thoughtResult_32 rfl ?_
    refine ef_aload_n (q := 36) 0 dX5_thoughtResult_35 rfl rfl rfl ?_
    refine ef_getR (t := 1) (q := 39) rfl fl5_10 rfl rfl dX5_thoughtResult_36 rfl ?_
    refine ef_getR (t := 2) (q := 42) rfl fl5_130 rfl rfl dX5_thoughtResult_39 rfl ?_
    refine ef_getI (x := s.1 2 8) (q := 45) rfl fl5_227 rfl rfl dX5_thoughtResult_42 rfl ?_
    refine ef_isub (q := 46) dX5_thoughtResult_45 rfl ?_
    exact ef_iret rfl dX5_thoughtResult_46
  refine ef_dec (fun h2 => ?_) (fun h2 => ?_)
  · refine ef_of (fun _ _ => ev_tableIn (tgt := 47) dX5_thoughtResult_1 (by rw [h2]; decide) (by rw [h2]; decide) (off := 46) (by rw [h2]; rfl) (by decide)) ?_
    refine ef_aload_n (q := 48) 0 dX5_thoughtResult_47 rfl rfl rfl ?_
    refine ef_getR (t := 28) (q := 51) rfl fl5_25 rfl rfl dX5_thoughtResult_48 rfl ?_
    refine ef_getI (x := s.1 28 9) (q := 54) rfl fl5_246 rfl rfl dX5_thoughtResult_51 rfl ?_
    refine ef_aload_n (q := 55) 0 dX5_thoughtResult_54 rfl rfl rfl ?_
    refine ef_getR (t := 1) (q := 58) rfl fl5_10 rfl rfl dX5_thoughtResult_55 rfl ?_
    refine ef_getR (t := 2) (q := 61) rfl fl5_130 rfl rfl dX5_thoughtResult_58 rfl ?_
    refine ef_getI (x := s.1 2 9) (q := 64) rfl fl5_246 rfl rfl dX5_thoughtResult_61 rfl ?_
    refine ef_isub (q := 65) dX5_thoughtResult_64 rfl ?_
    exact ef_iret rfl dX5_thoughtResult_65
  refine ef_dec (fun h3 => ?_) (fun h3 => ?_)
  · refine ef_of (fun _ _ => ev_tableIn (tgt := 66) dX5_thoughtResult_1 (by rw [h3]; decide) (by rw [h3]; decide) (off := 65) (by rw [h3]; rfl) (by decide)) ?_
    refine ef_aload_n (q := 67) 0 dX5_thoughtResult_66 rfl rfl rfl ?_
    refine ef_getR (t := 28) (q := 70) rfl fl5_25 rfl rfl dX5_thoughtResult_67 rfl ?_
    refine ef_invVI (k := 28) (nn := 5) (π := (fun k => 28 + k)) (As := []) (rest := []) (q := 73) (okX0_left) (by decide +kernel) rfl calX0_left ml5_249 (by decide) rfl rfl rfl (Nat.le_of_ble_eq_true rfl) dX5_thoughtResult_70 rfl rfl (fun z4 => ?_)
    exact ef_iret rfl dX5_thoughtResult_73
  have hsw : (x1 : Int32).toInt < 0 ∨ 2 < (x1 : Int32).toInt := by
    have th1 := ne_toI (k := 0) h1 (by decide)
    have th2 := ne_toI (k := 1) h2 (by decide)
    have th3 := ne_toI (k := 2) h3 (by decide)
    omega
  refine ef_of (fun _ _ => ev_tableOut (tgt := 74) dX5_thoughtResult_1 hsw (by decide)) ?_
  refine ef_aload_n (q := 75) 0 dX5_thoughtResult_74 rfl rfl rfl ?_
  refine ef_getR (t := 28) (q := 78) rfl fl5_25 rfl rfl dX5_thoughtResult_75 rfl ?_
  refine ef_getI (x := s.1 28 1) (q := 81) rfl fl5_170 rfl rfl dX5_thoughtResult_78 rfl ?_
  exact ef_iret rfl dX5_thoughtResult_81
theorem okX5_thoughtResult (x1 : Int32) : MtF 3 mX5_thoughtResult lyM rvI (fun _ pl => [.ref (pl 0), .int x1]) (fX5_thoughtResult x1) := by
  refine MtF.of (by decide +kernel) rfl (fun _ pl => Nat.le_of_ble_eq_true rfl) (fun G pl h0 s => ?_)
  refine ef_sub (lv := [(0, .ref (pl 0)), (1, .int x1)]) (lv' := [(0, .ref (pl 0)), (1, .int x1)]) [0, 1] rfl ?_
  exact okX5_thoughtResult_0  x1 s
-- X5_run
theorem dX5_run_0 : decode cX5_run 0 = .ok (.aload_n 0, 1) := by decide +kernel
theorem dX5_run_1 : decode cX5_run 1 = .ok (.iload_n 1, 1) := by decide +kernel
theorem dX5_run_2 : decode cX5_run 2 = .ok (.invokevirtual 106, 3) := by decide +kernel
theorem dX5_run_5 : decode cX5_run 5 = .ok (.ifCond .eq 19, 3) := by decide +kernel
theorem dX5_run_8 : decode cX5_run 8 = .ok (.iload_n 2, 1) := by decide +kernel
theorem dX5_run_9 : decode cX5_run 9 = .ok (.invokestatic 215, 3) := by decide +kernel
theorem dX5_run_12 : decode cX5_run 12 = .ok (.ifCond .eq 12, 3) := by decide +kernel
theorem dX5_run_15 : decode cX5_run 15 = .ok (.iload_n 3, 1) := by decide +kernel
theorem dX5_run_16 : decode cX5_run 16 = .ok (.iconst 0, 1) := by decide +kernel
theorem dX5_run_17 : decode cX5_run 17 = .ok (.iconst 3, 1) := by decide +kernel
theorem dX5_run_18 : decode cX5_run 18 = .ok (.invokestatic 62, 3) := by decide +kernel
theorem dX5_run_21 : decode cX5_run 21 = .ok (.ifCond .ne 10, 3) := by decide +kernel
theorem dX5_run_24 : decode cX5_run 24 = .ok (.aload_n 0, 1) := by decide +kernel
theorem dX5_run_25 : decode cX5_run 25 = .ok (.bipush (-2), 2) := by decide +kernel
theorem dX5_run_27 : decode cX5_run 27 = .ok (.invokevirtual 66, 3) := by decide +kernel
theorem dX5_run_30 : decode cX5_run 30 = .ok (.ireturn, 1) := by decide +kernel
theorem dX5_run_31 : decode cX5_run 31 = .ok (.aload_n 0, 1) := by decide +kernel
theorem dX5_run_32 : decode cX5_run 32 = .ok (.iload_n 1, 1) := by decide +kernel
theorem dX5_run_33 : decode cX5_run 33 = .ok (.iload_n 2, 1) := by decide +kernel
theorem dX5_run_34 : decode cX5_run 34 = .ok (.invokevirtual 230, 3) := by decide +kernel
theorem dX5_run_37 : decode cX5_run 37 = .ok (.aload_n 0, 1) := by decide +kernel
theorem dX5_run_38 : decode cX5_run 38 = .ok (.iload_n 3, 1) := by decide +kernel
theorem dX5_run_39 : decode cX5_run 39 = .ok (.invokevirtual 233, 3) := by decide +kernel
theorem dX5_run_42 : decode cX5_run 42 = .ok (.ireturn, 1) := by decide +kernel
def fX5_run_24 (s : SS) : Option (Int32 × SS) := ((fX5_refuse (-2 : Int32) s).bind fun z1 => some (z1.1, z1.2))
def fX5_run_0 (x1 : Int32) (x2 : Int32) (x3 : Int32) (s : SS) : Option (Int32 × SS) := ((fX5_isLicker x1 s).bind fun z1 => if z1.1 = 0 then (fX5_run_24 z1.2) else (((fX5_isSpan x2 z1.2).bind fun z3 => if z3.1 = 0 then (fX5_run_24 z1.2) else (((fX5_isWithin x3 (0 : Int32) (3 : Int32) z1.2).bind fun z5 => if z5.1 = 0 then (fX5_run_24 z1.2) else (((fX5_thinkRun x1 x2 z1.2).bind fun z7 => ((fX5_thoughtResult x3 z7.2).bind fun z8 => some (z8.1, z8.2)))))))))
def fX5_run (x1 : Int32) (x2 : Int32) (x3 : Int32) (s : SS) : Option (Int32 × SS) := fX5_run_0 x1 x2 x3 s
set_option maxRecDepth 100000 in
set_option maxHeartbeats 4000000 in
theorem okX5_run_24 {G : GG} {pl : Nat → Nat} {h0 : PH} (s : SS) : EvF G 12 mX5_run lyM pl h0 rvI (fX5_run_24 s) 24 [(0, .ref (pl 0))] [] s := by
  unfold fX5_run_24
  refine ef_aload_n (q := 25) 0 dX5_run_24 rfl rfl rfl ?_
  refine ef_bipush (v := (-2 : Int32)) (q := 27) dX5_run_25 (by decide) rfl ?_
  refine ef_invVI0 (k := 0) (As := [.int (-2 : Int32)]) (rest := []) (q := 30) (okX5_refuse (-2 : Int32)) rfl calX5_refuse ml5_66 (by decide) rfl rfl rfl (Nat.le_of_ble_eq_true rfl) dX5_run_27 rfl (fun z1 => ?_)
  exact ef_iret rfl dX5_run_30
set_option maxRecDepth 100000 in
set_option maxHeartbeats 4000000 in
theorem okX5_run_0 {G : GG} {pl : Nat → Nat} {h0 : PH} (x1 : Int32) (x2 : Int32) (x3 : Int32) (s : SS) : EvF G 12 mX5_run lyM pl h0 rvI (fX5_run_0 x1 x2 x3 s) 0 [(0, .ref (pl 0)), (1, .int x1), (2, .int x2), (3, .int x3)] [] s := by
  unfold fX5_run_0
  refine ef_aload_n (q := 1) 0 dX5_run_0 rfl rfl rfl ?_
  refine ef_iload_n (q := 2) 1 dX5_run_1 rfl rfl rfl ?_
  refine ef_invVI0 (k := 0) (As := [.int x1]) (rest := []) (q := 5) (okX5_isLicker x1) rfl calX5_isLicker ml5_106 (by decide) rfl rfl rfl (Nat.le_of_ble_eq_true rfl) dX5_run_2 rfl (fun z1 => ?_)
  refine ef_if (pt := 24) (pf := 8) (fun _ _ => ev_if_eq (tgt := 24) dX5_run_5 (by decide)) (fun h2 => ?_) (fun h2 => ?_)
  · refine ef_sub (lv' := [(0, .ref (pl 0))]) [0] rfl ?_
    exact okX5_run_24 z1.2
  · refine ef_iload_n (q := 9) 2 dX5_run_8 rfl rfl rfl ?_
    refine ef_invPI0 (As := [.int x2]) (rest := []) (q := 12) (okX5_isSpan x2) rfl calX5_isSpan ml5_215 (by decide) rfl rfl (Nat.le_of_ble_eq_true rfl) dX5_run_9 rfl (fun z3 => ?_)
    refine ef_if (pt := 24) (pf := 15) (fun _ _ => ev_if_eq (tgt := 24) dX5_run_12 (by decide)) (fun h4 => ?_) (fun h4 => ?_)
    · refine ef_sub (lv' := [(0, .ref (pl 0))]) [0] rfl ?_
      exact okX5_run_24 z1.2
    · refine ef_iload_n (q := 16) 3 dX5_run_15 rfl rfl rfl ?_
      refine ef_iconst (v := (0 : Int32)) (q := 17) dX5_run_16 (by decide) rfl ?_
      refine ef_iconst (v := (3 : Int32)) (q := 18) dX5_run_17 (by decide) rfl ?_
      refine ef_invPI0 (As := [.int x3, .int (0 : Int32), .int (3 : Int32)]) (rest := []) (q := 21) (okX5_isWithin x3 (0 : Int32) (3 : Int32)) rfl calX5_isWithin ml5_62 (by decide) rfl rfl (Nat.le_of_ble_eq_true rfl) dX5_run_18 rfl (fun z5 => ?_)
      refine ef_if (pt := 24) (pf := 31) (fun _ _ kt kf => ev_if_ne (tgt := 31) dX5_run_21 (by decide) kf kt) (fun h6 => ?_) (fun h6 => ?_)
      · refine ef_sub (lv' := [(0, .ref (pl 0))]) [0] rfl ?_
        exact okX5_run_24 z1.2
      · refine ef_aload_n (q := 32) 0 dX5_run_31 rfl rfl rfl ?_
        refine ef_iload_n (q := 33) 1 dX5_run_32 rfl rfl rfl ?_
        refine ef_iload_n (q := 34) 2 dX5_run_33 rfl rfl rfl ?_
        refine ef_invVU0 (k := 0) (As := [.int x1, .int x2]) (rest := []) (q := 37) (okX5_thinkRun x1 x2) rfl calX5_thinkRun ml5_230 (by decide) rfl rfl rfl (Nat.le_of_ble_eq_true rfl) dX5_run_34 rfl (fun z7 => ?_)
        refine ef_aload_n (q := 38) 0 dX5_run_37 rfl rfl rfl ?_
        refine ef_iload_n (q := 39) 3 dX5_run_38 rfl rfl rfl ?_
        refine ef_invVI0 (k := 0) (As := [.int x3]) (rest := []) (q := 42) (okX5_thoughtResult x3) rfl calX5_thoughtResult ml5_233 (by decide) rfl rfl rfl (Nat.le_of_ble_eq_true rfl) dX5_run_39 rfl (fun z8 => ?_)
        exact ef_iret rfl dX5_run_42
theorem okX5_run (x1 : Int32) (x2 : Int32) (x3 : Int32) : MtF 12 mX5_run lyM rvI (fun _ pl => [.ref (pl 0), .int x1, .int x2, .int x3]) (fX5_run x1 x2 x3) := by
  refine MtF.of (by decide +kernel) rfl (fun _ pl => Nat.le_of_ble_eq_true rfl) (fun G pl h0 s => ?_)
  refine ef_sub (lv := [(0, .ref (pl 0)), (1, .int x1), (2, .int x2), (3, .int x3)]) (lv' := [(0, .ref (pl 0)), (1, .int x1), (2, .int x2), (3, .int x3)]) [0, 1, 2, 3] rfl ?_
  exact okX5_run_0  x1 x2 x3 s
-- X5_would
theorem dX5_would_0 : decode cX5_would 0 = .ok (.aload_n 0, 1) := by decide +kernel
theorem dX5_would_1 : decode cX5_would 1 = .ok (.iload_n 1, 1) := by decide +kernel
theorem dX5_would_2 : decode cX5_would 2 = .ok (.invokevirtual 106, 3) := by decide +kernel
theorem dX5_would_5 : decode cX5_would 5 = .ok (.ifCond .ne 10, 3) := by decide +kernel
theorem dX5_would_8 : decode cX5_would 8 = .ok (.aload_n 0, 1) := by decide +kernel
theorem dX5_would_9 : decode cX5_would 9 = .ok (.bipush (-2), 2) := by decide +kernel
theorem dX5_would_11 : decode cX5_would 11 = .ok (.invokevirtual 66, 3) := by decide +kernel
theorem dX5_would_14 : decode cX5_would 14 = .ok (.ireturn, 1) := by decide +kernel
theorem dX5_would_15 : decode cX5_would 15 = .ok (.aload_n 0, 1) := by decide +kernel
theorem dX5_would_16 : decode cX5_would 16 = .ok (.aload_n 0, 1) := by decide +kernel
theorem dX5_would_17 : decode cX5_would 17 = .ok (.getfield 10, 3) := by decide +kernel
theorem dX5_would_20 : decode cX5_would 20 = .ok (.getfield 130, 3) := by decide +kernel
theorem dX5_would_23 : decode cX5_would 23 = .ok (.iload_n 1, 1) := by decide +kernel
theorem dX5_would_24 : decode cX5_would 24 = .ok (.invokevirtual 133, 3) := by decide +kernel
theorem dX5_would_27 : decode cX5_would 27 = .ok (.ireturn, 1) := by decide +kernel
def fX5_would_0 (x1 : Int32) (s : SS) : Option (Int32 × SS) := ((fX5_isLicker x1 s).bind fun z1 => if z1.1 = 0 then (((fX5_refuse (-2 : Int32) z1.2).bind fun z3 => some (z3.1, z3.2))) else (((fX5_wouldIn2 x1 z1.2).bind fun z4 => some (z4.1, z4.2))))
def fX5_would (x1 : Int32) (s : SS) : Option (Int32 × SS) := fX5_would_0 x1 s
set_option maxRecDepth 100000 in
set_option maxHeartbeats 4000000 in
theorem okX5_would_0 {G : GG} {pl : Nat → Nat} {h0 : PH} (x1 : Int32) (s : SS) : EvF G 12 mX5_would lyM pl h0 rvI (fX5_would_0 x1 s) 0 [(0, .ref (pl 0)), (1, .int x1)] [] s := by
  unfold fX5_would_0
  refine ef_aload_n (q := 1) 0 dX5_would_0 rfl rfl rfl ?_
  refine ef_iload_n (q := 2) 1 dX5_would_1 rfl rfl rfl ?_
  refine ef_invVI0 (k := 0) (As := [.int x1]) (rest := []) (q := 5) (okX5_isLicker x1) rfl calX5_isLicker ml5_106 (by decide) rfl rfl rfl (Nat.le_of_ble_eq_true rfl) dX5_would_2 rfl (fun z1 => ?_)
  refine ef_if (pt := 8) (pf := 15) (fun _ _ kt kf => ev_if_ne (tgt := 15) dX5_would_5 (by decide) kf kt) (fun h2 => ?_) (fun h2 => ?_)
  · refine ef_aload_n (q := 9) 0 dX5_would_8 rfl rfl rfl ?_
    refine ef_bipush (v := (-2 : Int32)) (q := 11) dX5_would_9 (by decide) rfl ?_
    refine ef_invVI0 (k := 0) (As := [.int (-2 : Int32)]) (rest := []) (q := 14) (okX5_refuse (-2 : Int32)) rfl calX5_refuse ml5_66 (by decide) rfl rfl rfl (Nat.le_of_ble_eq_true rfl) dX5_would_11 rfl (fun z3 => ?_)
    exact ef_iret rfl dX5_would_14
  · refine ef_aload_n (q := 16) 0 dX5_would_15 rfl rfl rfl ?_
    refine ef_aload_n (q := 17) 0 dX5_would_16 rfl rfl rfl ?_
    refine ef_getR (t := 1) (q := 20) rfl fl5_10 rfl rfl dX5_would_17 rfl ?_
    refine ef_getR (t := 2) (q := 23) rfl fl5_130 rfl rfl dX5_would_20 rfl ?_
    refine ef_iload_n (q := 24) 1 dX5_would_23 rfl rfl rfl ?_
    refine ef_invVI0 (k := 0) (As := [.ref (pl 2), .int x1]) (rest := []) (q := 27) (okX5_wouldIn2 x1) rfl calX5_wouldIn ml5_133 (by decide) rfl rfl rfl (Nat.le_of_ble_eq_true rfl) dX5_would_24 rfl (fun z4 => ?_)
    exact ef_iret rfl dX5_would_27
theorem okX5_would (x1 : Int32) : MtF 12 mX5_would lyM rvI (fun _ pl => [.ref (pl 0), .int x1]) (fX5_would x1) := by
  refine MtF.of (by decide +kernel) rfl (fun _ pl => Nat.le_of_ble_eq_true rfl) (fun G pl h0 s => ?_)
  refine ef_sub (lv := [(0, .ref (pl 0)), (1, .int x1)]) (lv' := [(0, .ref (pl 0)), (1, .int x1)]) [0, 1] rfl ?_
  exact okX5_would_0  x1 s
-- X5_plan
theorem dX5_plan_0 : decode cX5_plan 0 = .ok (.iload_n 1, 1) := by decide +kernel
theorem dX5_plan_1 : decode cX5_plan 1 = .ok (.iconst 1, 1) := by decide +kernel
theorem dX5_plan_2 : decode cX5_plan 2 = .ok (.iconst 3, 1) := by decide +kernel
theorem dX5_plan_3 : decode cX5_plan 3 = .ok (.invokestatic 62, 3) := by decide +kernel
theorem dX5_plan_6 : decode cX5_plan 6 = .ok (.ifCond .eq 14, 3) := by decide +kernel
theorem dX5_plan_9 : decode cX5_plan 9 = .ok (.iload_n 2, 1) := by decide +kernel
theorem dX5_plan_10 : decode cX5_plan 10 = .ok (.iconst (-1), 1) := by decide +kernel
theorem dX5_plan_11 : decode cX5_plan 11 = .ok (.iload_n 1, 1) := by decide +kernel
theorem dX5_plan_12 : decode cX5_plan 12 = .ok (.iconst 1, 1) := by decide +kernel
theorem dX5_plan_13 : decode cX5_plan 13 = .ok (.isub, 1) := by decide +kernel
theorem dX5_plan_14 : decode cX5_plan 14 = .ok (.invokestatic 62, 3) := by decide +kernel
theorem dX5_plan_17 : decode cX5_plan 17 = .ok (.ifCond .ne 10, 3) := by decide +kernel
theorem dX5_plan_20 : decode cX5_plan 20 = .ok (.aload_n 0, 1) := by decide +kernel
theorem dX5_plan_21 : decode cX5_plan 21 = .ok (.bipush (-2), 2) := by decide +kernel
theorem dX5_plan_23 : decode cX5_plan 23 = .ok (.invokevirtual 66, 3) := by decide +kernel
theorem dX5_plan_26 : decode cX5_plan 26 = .ok (.ireturn, 1) := by decide +kernel
theorem dX5_plan_27 : decode cX5_plan 27 = .ok (.aload_n 0, 1) := by decide +kernel
theorem dX5_plan_28 : decode cX5_plan 28 = .ok (.getfield 32, 3) := by decide +kernel
theorem dX5_plan_31 : decode cX5_plan 31 = .ok (.aload_n 0, 1) := by decide +kernel
theorem dX5_plan_32 : decode cX5_plan 32 = .ok (.getfield 10, 3) := by decide +kernel
theorem dX5_plan_35 : decode cX5_plan 35 = .ok (.getfield 130, 3) := by decide +kernel
theorem dX5_plan_38 : decode cX5_plan 38 = .ok (.iload_n 1, 1) := by decide +kernel
theorem dX5_plan_39 : decode cX5_plan 39 = .ok (.invokevirtual 236, 3) := by decide +kernel
theorem dX5_plan_42 : decode cX5_plan 42 = .ok (.iload_n 2, 1) := by decide +kernel
theorem dX5_plan_43 : decode cX5_plan 43 = .ok (.iconst (-1), 1) := by decide +kernel
theorem dX5_plan_44 : decode cX5_plan 44 = .ok (.if_icmp .ne 24, 3) := by decide +kernel
theorem dX5_plan_47 : decode cX5_plan 47 = .ok (.aload_n 0, 1) := by decide +kernel
theorem dX5_plan_48 : decode cX5_plan 48 = .ok (.getfield 32, 3) := by decide +kernel
theorem dX5_plan_51 : decode cX5_plan 51 = .ok (.getfield 240, 3) := by decide +kernel
theorem dX5_plan_54 : decode cX5_plan 54 = .ok (.aload_n 0, 1) := by decide +kernel
theorem dX5_plan_55 : decode cX5_plan 55 = .ok (.getfield 10, 3) := by decide +kernel
theorem dX5_plan_58 : decode cX5_plan 58 = .ok (.getfield 130, 3) := by decide +kernel
theorem dX5_plan_61 : decode cX5_plan 61 = .ok (.getfield 227, 3) := by decide +kernel
theorem dX5_plan_64 : decode cX5_plan 64 = .ok (.isub, 1) := by decide +kernel
theorem dX5_plan_65 : decode cX5_plan 65 = .ok (.goto 12, 3) := by decide +kernel
theorem dX5_plan_68 : decode cX5_plan 68 = .ok (.aload_n 0, 1) := by decide +kernel
theorem dX5_plan_69 : decode cX5_plan 69 = .ok (.getfield 32, 3) := by decide +kernel
theorem dX5_plan_72 : decode cX5_plan 72 = .ok (.getfield 243, 3) := by decide +kernel
theorem dX5_plan_75 : decode cX5_plan 75 = .ok (.iload_n 2, 1) := by decide +kernel
theorem dX5_plan_76 : decode cX5_plan 76 = .ok (.iaload, 1) := by decide +kernel
theorem dX5_plan_77 : decode cX5_plan 77 = .ok (.ireturn, 1) := by decide +kernel
def fX5_plan_20 (s : SS) : Option (Int32 × SS) := ((fX5_refuse (-2 : Int32) s).bind fun z1 => some (z1.1, z1.2))
def fX5_plan_0 (x1 : Int32) (x2 : Int32) (s : SS) : Option (Int32 × SS) := ((fX5_isWithin x1 (1 : Int32) (3 : Int32) s).bind fun z1 => if z1.1 = 0 then (fX5_plan_20 s) else (((fX5_isWithin x2 (-1 : Int32) (x1 - (1 : Int32)) s).bind fun z3 => if z3.1 = 0 then (fX5_plan_20 s) else (((fX2_findPlan x1 (selS (fun k => if k < 24 then 33 + k else 2 + (k - 24)) s)).bind fun z5 => if x2 = (-1 : Int32) then (some (((mrgS (fun k => if k < 24 then 33 + k else 2 + (k - 24)) 29 s z5.2).1 33 3) - ((mrgS (fun k => if k < 24 then 33 + k else 2 + (k - 24)) 29 s z5.2).1 2 8), mrgS (fun k => if k < 24 then 33 + k else 2 + (k - 24)) 29 s z5.2)) else (if ixB x2 3 then (some ((mrgS (fun k => if k < 24 then 33 + k else 2 + (k - 24)) 29 s z5.2).1 36 x2.toNatClampNeg, mrgS (fun k => if k < 24 then 33 + k else 2 + (k - 24)) 29 s z5.2)) else none))))))
def fX5_plan (x1 : Int32) (x2 : Int32) (s : SS) : Option (Int32 × SS) := fX5_plan_0 x1 x2 s
set_option maxRecDepth 100000 in
set_option maxHeartbeats 4000000 in
theorem okX5_plan_20 {G : GG} {pl : Nat → Nat} {h0 : PH} (s : SS) : EvF G 10 mX5_plan lyM pl h0 rvI (fX5_plan_20 s) 20 [(0, .ref (pl 0))] [] s := by
  unfold fX5_plan_20
  refine ef_aload_n (q := 21) 0 dX5_plan_20 rfl rfl rfl ?_
  refine ef_bipush (v := (-2 : Int32)) (q := 23) dX5_plan_21 (by decide) rfl ?_
  refine ef_invVI0 (k := 0) (As := [.int (-2 : Int32)]) (rest := []) (q := 26) (okX5_refuse (-2 : Int32)) rfl calX5_refuse ml5_66 (by decide) rfl rfl rfl (Nat.le_of_ble_eq_true rfl) dX5_plan_23 rfl (fun z1 => ?_)
  exact ef_iret rfl dX5_plan_26
set_option maxRecDepth 100000 in
set_option maxHeartbeats 4000000 in
theorem okX5_plan_0 {G : GG} {pl : Nat → Nat} {h0 : PH} (x1 : Int32) (x2 : Int32) (s : SS) : EvF G 10 mX5_plan lyM pl h0 rvI (fX5_plan_0 x1 x2 s) 0 [(0, .ref (pl 0)), (1, .int x1), (2, .int x2)] [] s := by
  unfold fX5_plan_0
  refine ef_iload_n (q := 1) 1 dX5_plan_0 rfl rfl rfl ?_
  refine ef_iconst (v := (1 : Int32)) (q := 2) dX5_plan_1 (by decide) rfl ?_
  refine ef_iconst (v := (3 : Int32)) (q := 3) dX5_plan_2 (by decide) rfl ?_
  refine ef_invPI0 (As := [.int x1, .int (1 : Int32), .int (3 : Int32)]) (rest := []) (q := 6) (okX5_isWithin x1 (1 : Int32) (3 : Int32)) rfl calX5_isWithin ml5_62 (by decide) rfl rfl (Nat.le_of_ble_eq_true rfl) dX5_plan_3 rfl (fun z1 => ?_)
  refine ef_if (pt := 20) (pf := 9) (fun _ _ => ev_if_eq (tgt := 20) dX5_plan_6 (by decide)) (fun h2 => ?_) (fun h2 => ?_)
  · refine ef_sub (lv' := [(0, .ref (pl 0))]) [0] rfl ?_
    exact okX5_plan_20 s
  · refine ef_iload_n (q := 10) 2 dX5_plan_9 rfl rfl rfl ?_
    refine ef_iconst (v := (-1 : Int32)) (q := 11) dX5_plan_10 (by decide) rfl ?_
    refine ef_iload_n (q := 12) 1 dX5_plan_11 rfl rfl rfl ?_
    refine ef_iconst (v := (1 : Int32)) (q := 13) dX5_plan_12 (by decide) rfl ?_
    refine ef_isub (q := 14) dX5_plan_13 rfl ?_
    refine ef_invPI0 (As := [.int x2, .int (-1 : Int32), .int (x1 - (1 : Int32))]) (rest := []) (q := 17) (okX5_isWithin x2 (-1 : Int32) (x1 - (1 : Int32))) rfl calX5_isWithin ml5_62 (by decide) rfl rfl (Nat.le_of_ble_eq_true rfl) dX5_plan_14 rfl (fun z3 => ?_)
    refine ef_if (pt := 20) (pf := 27) (fun _ _ kt kf => ev_if_ne (tgt := 27) dX5_plan_17 (by decide) kf kt) (fun h4 => ?_) (fun h4 => ?_)
    · refine ef_sub (lv' := [(0, .ref (pl 0))]) [0] rfl ?_
      exact okX5_plan_20 s
    · refine ef_aload_n (q := 28) 0 dX5_plan_27 rfl rfl rfl ?_
      refine ef_getR (t := 33) (q := 31) rfl fl5_32 rfl rfl dX5_plan_28 rfl ?_
      refine ef_aload_n (q := 32) 0 dX5_plan_31 rfl rfl rfl ?_
      refine ef_getR (t := 1) (q := 35) rfl fl5_10 rfl rfl dX5_plan_32 rfl ?_
      refine ef_getR (t := 2) (q := 38) rfl fl5_130 rfl rfl dX5_plan_35 rfl ?_
      refine ef_iload_n (q := 39) 1 dX5_plan_38 rfl rfl rfl ?_
      refine ef_invVU (k := 33) (nn := 29) (π := (fun k => if k < 24 then 33 + k else 2 + (k - 24))) (As := [.ref (pl 2), .int x1]) (rest := []) (q := 42) (okX2_findPlan x1) (by decide +kernel) rfl calX2_findPlan ml5_236 (by decide) rfl rfl rfl (Nat.le_of_ble_eq_true rfl) dX5_plan_39 rfl rfl (fun z5 => ?_)
      refine ef_iload_n (q := 43) 2 dX5_plan_42 rfl rfl rfl ?_
      refine ef_iconst (v := (-1 : Int32)) (q := 44) dX5_plan_43 (by decide) rfl ?_
      refine ef_if (pt := 47) (pf := 68) (fun _ _ kt kf => ev_icmp_ne (tgt := 68) dX5_plan_44 (by decide) kf kt) (fun h6 => ?_) (fun h6 => ?_)
      · refine ef_aload_n (q := 48) 0 dX5_plan_47 rfl rfl rfl ?_
        refine ef_getR (t := 33) (q := 51) rfl fl5_32 rfl rfl dX5_plan_48 rfl ?_
        refine ef_getI (x := (mrgS (fun k => if k < 24 then 33 + k else 2 + (k - 24)) 29 s z5.2).1 33 3) (q := 54) rfl fl5_240 rfl rfl dX5_plan_51 rfl ?_
        refine ef_aload_n (q := 55) 0 dX5_plan_54 rfl rfl rfl ?_
        refine ef_getR (t := 1) (q := 58) rfl fl5_10 rfl rfl dX5_plan_55 rfl ?_
        refine ef_getR (t := 2) (q := 61) rfl fl5_130 rfl rfl dX5_plan_58 rfl ?_
        refine ef_getI (x := (mrgS (fun k => if k < 24 then 33 + k else 2 + (k - 24)) 29 s z5.2).1 2 8) (q := 64) rfl fl5_227 rfl rfl dX5_plan_61 rfl ?_
        refine ef_isub (q := 65) dX5_plan_64 rfl ?_
        refine ef_goto (tgt := 77) dX5_plan_65 (by decide) ?_
        exact ef_iret rfl dX5_plan_77
      · refine ef_aload_n (q := 69) 0 dX5_plan_68 rfl rfl rfl ?_
        refine ef_getR (t := 33) (q := 72) rfl fl5_32 rfl rfl dX5_plan_69 rfl ?_
        refine ef_getR (t := 36) (q := 75) rfl fl5_243 rfl rfl dX5_plan_72 rfl ?_
        refine ef_iload_n (q := 76) 2 dX5_plan_75 rfl rfl rfl ?_
        refine ef_guard (fun g7 => ?_)
        refine ef_iaload (x := (mrgS (fun k => if k < 24 then 33 + k else 2 + (k - 24)) 29 s z5.2).1 36 x2.toNatClampNeg) (q := 77) rfl g7 dX5_plan_76 rfl rfl ?_
        exact ef_iret rfl dX5_plan_77
theorem okX5_plan (x1 : Int32) (x2 : Int32) : MtF 10 mX5_plan lyM rvI (fun _ pl => [.ref (pl 0), .int x1, .int x2]) (fX5_plan x1 x2) := by
  refine MtF.of (by decide +kernel) rfl (fun _ pl => Nat.le_of_ble_eq_true rfl) (fun G pl h0 s => ?_)
  refine ef_sub (lv := [(0, .ref (pl 0)), (1, .int x1), (2, .int x2)]) (lv' := [(0, .ref (pl 0)), (1, .int x1), (2, .int x2)]) [0, 1, 2] rfl ?_
  exact okX5_plan_0  x1 x2 s
-- X5_best
theorem dX5_best_0 : decode cX5_best 0 = .ok (.iload_n 1, 1) := by decide +kernel
theorem dX5_best_1 : decode cX5_best 1 = .ok (.invokestatic 215, 3) := by decide +kernel
theorem dX5_best_4 : decode cX5_best 4 = .ok (.ifCond .ne 10, 3) := by decide +kernel
theorem dX5_best_7 : decode cX5_best 7 = .ok (.aload_n 0, 1) := by decide +kernel
theorem dX5_best_8 : decode cX5_best 8 = .ok (.bipush (-2), 2) := by decide +kernel
theorem dX5_best_10 : decode cX5_best 10 = .ok (.invokevirtual 66, 3) := by decide +kernel
theorem dX5_best_13 : decode cX5_best 13 = .ok (.ireturn, 1) := by decide +kernel
theorem dX5_best_14 : decode cX5_best 14 = .ok (.aload_n 0, 1) := by decide +kernel
theorem dX5_best_15 : decode cX5_best 15 = .ok (.getfield 10, 3) := by decide +kernel
theorem dX5_best_18 : decode cX5_best 18 = .ok (.getfield 173, 3) := by decide +kernel
theorem dX5_best_21 : decode cX5_best 21 = .ok (.ifCond .ne 10, 3) := by decide +kernel
theorem dX5_best_24 : decode cX5_best 24 = .ok (.aload_n 0, 1) := by decide +kernel
theorem dX5_best_25 : decode cX5_best 25 = .ok (.bipush (-5), 2) := by decide +kernel
theorem dX5_best_27 : decode cX5_best 27 = .ok (.invokevirtual 66, 3) := by decide +kernel
theorem dX5_best_30 : decode cX5_best 30 = .ok (.ireturn, 1) := by decide +kernel
theorem dX5_best_31 : decode cX5_best 31 = .ok (.iconst 0, 1) := by decide +kernel
theorem dX5_best_32 : decode cX5_best 32 = .ok (.istore_n 2, 1) := by decide +kernel
theorem dX5_best_33 : decode cX5_best 33 = .ok (.iconst 0, 1) := by decide +kernel
theorem dX5_best_34 : decode cX5_best 34 = .ok (.istore_n 3, 1) := by decide +kernel
theorem dX5_best_35 : decode cX5_best 35 = .ok (.iconst 0, 1) := by decide +kernel
theorem dX5_best_36 : decode cX5_best 36 = .ok (.istore 4, 2) := by decide +kernel
theorem dX5_best_38 : decode cX5_best 38 = .ok (.iconst 0, 1) := by decide +kernel
theorem dX5_best_39 : decode cX5_best 39 = .ok (.istore 5, 2) := by decide +kernel
theorem dX5_best_41 : decode cX5_best 41 = .ok (.iload 5, 2) := by decide +kernel
theorem dX5_best_43 : decode cX5_best 43 = .ok (.aload_n 0, 1) := by decide +kernel
theorem dX5_best_44 : decode cX5_best 44 = .ok (.getfield 10, 3) := by decide +kernel
theorem dX5_best_47 : decode cX5_best 47 = .ok (.getfield 173, 3) := by decide +kernel
theorem dX5_best_50 : decode cX5_best 50 = .ok (.if_icmp .ge 87, 3) := by decide +kernel
theorem dX5_best_53 : decode cX5_best 53 = .ok (.aload_n 0, 1) := by decide +kernel
theorem dX5_best_54 : decode cX5_best 54 = .ok (.iload 5, 2) := by decide +kernel
theorem dX5_best_56 : decode cX5_best 56 = .ok (.iload_n 1, 1) := by decide +kernel
theorem dX5_best_57 : decode cX5_best 57 = .ok (.invokevirtual 230, 3) := by decide +kernel
theorem dX5_best_60 : decode cX5_best 60 = .ok (.aload_n 0, 1) := by decide +kernel
theorem dX5_best_61 : decode cX5_best 61 = .ok (.getfield 25, 3) := by decide +kernel
theorem dX5_best_64 : decode cX5_best 64 = .ok (.getfield 227, 3) := by decide +kernel
theorem dX5_best_67 : decode cX5_best 67 = .ok (.iload_n 3, 1) := by decide +kernel
theorem dX5_best_68 : decode cX5_best 68 = .ok (.if_icmp .lt 26, 3) := by decide +kernel
theorem dX5_best_71 : decode cX5_best 71 = .ok (.aload_n 0, 1) := by decide +kernel
theorem dX5_best_72 : decode cX5_best 72 = .ok (.getfield 25, 3) := by decide +kernel
theorem dX5_best_75 : decode cX5_best 75 = .ok (.getfield 227, 3) := by decide +kernel
theorem dX5_best_78 : decode cX5_best 78 = .ok (.iload_n 3, 1) := by decide +kernel
theorem dX5_best_79 : decode cX5_best 79 = .ok (.if_icmp .ne 19, 3) := by decide +kernel
theorem dX5_best_82 : decode cX5_best 82 = .ok (.aload_n 0, 1) := by decide +kernel
theorem dX5_best_83 : decode cX5_best 83 = .ok (.getfield 25, 3) := by decide +kernel
theorem dX5_best_86 : decode cX5_best 86 = .ok (.getfield 246, 3) := by decide +kernel
theorem dX5_best_89 : decode cX5_best 89 = .ok (.iload 4, 2) := by decide +kernel
theorem dX5_best_91 : decode cX5_best 91 = .ok (.if_icmp .le 7, 3) := by decide +kernel
theorem dX5_best_94 : decode cX5_best 94 = .ok (.iconst 1, 1) := by decide +kernel
theorem dX5_best_95 : decode cX5_best 95 = .ok (.goto 4, 3) := by decide +kernel
theorem dX5_best_98 : decode cX5_best 98 = .ok (.iconst 0, 1) := by decide +kernel
theorem dX5_best_99 : decode cX5_best 99 = .ok (.istore 6, 2) := by decide +kernel
theorem dX5_best_101 : decode cX5_best 101 = .ok (.iload 5, 2) := by decide +kernel
theorem dX5_best_103 : decode cX5_best 103 = .ok (.ifCond .eq 8, 3) := by decide +kernel
theorem dX5_best_106 : decode cX5_best 106 = .ok (.iload 6, 2) := by decide +kernel
theorem dX5_best_108 : decode cX5_best 108 = .ok (.ifCond .eq 23, 3) := by decide +kernel
theorem dX5_best_111 : decode cX5_best 111 = .ok (.iload 5, 2) := by decide +kernel
theorem dX5_best_113 : decode cX5_best 113 = .ok (.istore_n 2, 1) := by decide +kernel
theorem dX5_best_114 : decode cX5_best 114 = .ok (.aload_n 0, 1) := by decide +kernel
theorem dX5_best_115 : decode cX5_best 115 = .ok (.getfield 25, 3) := by decide +kernel
theorem dX5_best_118 : decode cX5_best 118 = .ok (.getfield 227, 3) := by decide +kernel
theorem dX5_best_121 : decode cX5_best 121 = .ok (.istore_n 3, 1) := by decide +kernel
theorem dX5_best_122 : decode cX5_best 122 = .ok (.aload_n 0, 1) := by decide +kernel
theorem dX5_best_123 : decode cX5_best 123 = .ok (.getfield 25, 3) := by decide +kernel
theorem dX5_best_126 : decode cX5_best 126 = .ok (.getfield 246, 3) := by decide +kernel
theorem dX5_best_129 : decode cX5_best 129 = .ok (.istore 4, 2) := by decide +kernel
theorem dX5_best_131 : decode cX5_best 131 = .ok (.iinc 5 1, 3) := by decide +kernel
theorem dX5_best_134 : decode cX5_best 134 = .ok (.goto (-93), 3) := by decide +kernel
theorem dX5_best_137 : decode cX5_best 137 = .ok (.iload_n 2, 1) := by decide +kernel
theorem dX5_best_138 : decode cX5_best 138 = .ok (.ireturn, 1) := by decide +kernel
def fX5_best_111 (rec_41 : Int32 → Int32 → Int32 → Int32 → Int32 → SS → Option (Int32 × SS)) (x1 : Int32) (x5 : Int32) (s : SS) : Option (Int32 × SS) := rec_41 x1 x5 (s.1 28 8) (s.1 28 9) (x5 + (1 : Int32)) s
def fX5_best_99 (rec_41 : Int32 → Int32 → Int32 → Int32 → Int32 → SS → Option (Int32 × SS)) (x1 : Int32) (x2 : Int32) (x3 : Int32) (x4 : Int32) (x5 : Int32) (y0 : Int32) (s : SS) : Option (Int32 × SS) := if x5 = 0 then (fX5_best_111 rec_41 x1 x5 s) else (if y0 = 0 then (rec_41 x1 x2 x3 x4 (x5 + (1 : Int32)) s) else (fX5_best_111 rec_41 x1 x5 s))
def fX5_best_94 (rec_41 : Int32 → Int32 → Int32 → Int32 → Int32 → SS → Option (Int32 × SS)) (x1 : Int32) (x2 : Int32) (x3 : Int32) (x4 : Int32) (x5 : Int32) (s : SS) : Option (Int32 × SS) := fX5_best_99 rec_41 x1 x2 x3 x4 x5 (1 : Int32) s
def fX5_best_98 (rec_41 : Int32 → Int32 → Int32 → Int32 → Int32 → SS → Option (Int32 × SS)) (x1 : Int32) (x2 : Int32) (x3 : Int32) (x4 : Int32) (x5 : Int32) (s : SS) : Option (Int32 × SS) := fX5_best_99 rec_41 x1 x2 x3 x4 x5 (0 : Int32) s
def fX5_best_41 : Nat → Int32 → Int32 → Int32 → Int32 → Int32 → SS → Option (Int32 × SS)
  | 0, _, _, _, _, _, _ => none
  | n + 1, x1, x2, x3, x4, x5, s => if (s.1 1 3) ≤ x5 then (some (x2, s)) else (((fX5_thinkRun x5 x1 s).bind fun z2 => if (z2.2.1 28 8) < x3 then (fX5_best_94 (fX5_best_41 n) x1 x2 x3 x4 x5 z2.2) else (if (z2.2.1 28 8) = x3 then (if (z2.2.1 28 9) ≤ x4 then (fX5_best_98 (fX5_best_41 n) x1 x2 x3 x4 x5 z2.2) else (fX5_best_94 (fX5_best_41 n) x1 x2 x3 x4 x5 z2.2)) else (fX5_best_98 (fX5_best_41 n) x1 x2 x3 x4 x5 z2.2))))
def fX5_best_0 (x1 : Int32) (s : SS) : Option (Int32 × SS) := ((fX5_isSpan x1 s).bind fun z1 => if z1.1 = 0 then (((fX5_refuse (-2 : Int32) s).bind fun z3 => some (z3.1, z3.2))) else (if (s.1 1 3) = 0 then (((fX5_refuse (-5 : Int32) s).bind fun z5 => some (z5.1, z5.2))) else (fX5_best_41 FU x1 (0 : Int32) (0 : Int32) (0 : Int32) (0 : Int32) s)))
def fX5_best (x1 : Int32) (s : SS) : Option (Int32 × SS) := fX5_best_0 x1 s
set_option maxRecDepth 100000 in
set_option maxHeartbeats 4000000 in
theorem okX5_best_111 {G : GG} {pl : Nat → Nat} {h0 : PH} (rec_41 : Int32 → Int32 → Int32 → Int32 → Int32 → SS → Option (Int32 × SS)) (hrec_41 : ∀ (x1 : Int32) (x2 : Int32) (x3 : Int32) (x4 : Int32) (x5 : Int32) (s : SS), EvF G 12 mX5_best lyM pl h0 rvI (rec_41 x1 x2 x3 x4 x5 s) 41 [(0, .ref (pl 0)), (1, .int x1), (2, .int x2), (3, .int x3), (4, .int x4), (5, .int x5)] [] s) (x1 : Int32) (x5 : Int32) (s : SS) : EvF G 12 mX5_best lyM pl h0 rvI (fX5_best_111 rec_41 x1 x5 s) 111 [(0, .ref (pl 0)), (1, .int x1), (5, .int x5)] [] s := by
  unfold fX5_best_111
  refine ef_iload (q := 113) 2 dX5_best_111 rfl rfl ?_
  refine ef_istore_n (lv' := [(2, .int x5), (0, .ref (pl 0)), (1, .int x1), (5, .int x5)]) (q := 114) dX5_best_113 rfl (by decide) rfl rfl ?_
  refine ef_aload_n (q := 115) 1 dX5_best_114 rfl rfl rfl ?_
  refine ef_getR (t := 28) (q := 118) rfl fl5_25 rfl rfl dX5_best_115 rfl ?_
  refine ef_getI (x := s.1 28 8) (q := 121) rfl fl5_227 rfl rfl dX5_best_118 rfl ?_
  refine ef_istore_n (lv' := [(3, .int (s.1 28 8)), (2, .int x5), (0, .ref (pl 0)), (1, .int x1), (5, .int x5)]) (q := 122) dX5_best_121 rfl (by decide) rfl rfl ?_
  refine ef_aload_n (q := 123) 2 dX5_best_122 rfl rfl rfl ?_
  refine ef_getR (t := 28) (q := 126) rfl fl5_25 rfl rfl dX5_best_123 rfl ?_
  refine ef_getI (x := s.1 28 9) (q := 129) rfl fl5_246 rfl rfl dX5_best_126 rfl ?_
  refine ef_istore (lv' := [(4, .int (s.1 28 9)), (3, .int (s.1 28 8)), (2, .int x5), (0, .ref (pl 0)), (1, .int x1), (5, .int x5)]) (q := 131) dX5_best_129 (by decide) rfl rfl ?_
  refine ef_iinc (v := x5 + (1 : Int32)) (lv' := [(5, .int (x5 + (1 : Int32))), (4, .int (s.1 28 9)), (3, .int (s.1 28 8)), (2, .int x5), (0, .ref (pl 0)), (1, .int x1)]) (q := 134) 5 dX5_best_131 rfl rfl (by decide) rfl rfl ?_
  refine ef_goto (tgt := 41) dX5_best_134 (by decide) ?_
  refine ef_sub (lv' := [(0, .ref (pl 0)), (1, .int x1), (2, .int x5), (3, .int (s.1 28 8)), (4, .int (s.1 28 9)), (5, .int (x5 + (1 : Int32)))]) [4, 5, 3, 2, 1, 0] rfl ?_
  exact hrec_41 x1 x5 (s.1 28 8) (s.1 28 9) (x5 + (1 : Int32)) s
set_option maxRecDepth 100000 in
set_option maxHeartbeats 4000000 in
theorem okX5_best_99 {G : GG} {pl : Nat → Nat} {h0 : PH} (rec_41 : Int32 → Int32 → Int32 → Int32 → Int32 → SS → Option (Int32 × SS)) (hrec_41 : ∀ (x1 : Int32) (x2 : Int32) (x3 : Int32) (x4 : Int32) (x5 : Int32) (s : SS), EvF G 12 mX5_best lyM pl h0 rvI (rec_41 x1 x2 x3 x4 x5 s) 41 [(0, .ref (pl 0)), (1, .int x1), (2, .int x2), (3, .int x3), (4, .int x4), (5, .int x5)] [] s) (x1 : Int32) (x2 : Int32) (x3 : Int32) (x4 : Int32) (x5 : Int32) (y0 : Int32) (s : SS) : EvF G 12 mX5_best lyM pl h0 rvI (fX5_best_99 rec_41 x1 x2 x3 x4 x5 y0 s) 99 [(0, .ref (pl 0)), (1, .int x1), (2, .int x2), (3, .int x3), (4, .int x4), (5, .int x5)] [.int y0] s := by
  unfold fX5_best_99
  refine ef_istore (lv' := [(6, .int y0), (0, .ref (pl 0)), (1, .int x1), (2, .int x2), (3, .int x3), (4, .int x4), (5, .int x5)]) (q := 101) dX5_best_99 (by decide) rfl rfl ?_
  refine ef_iload (q := 103) 6 dX5_best_101 rfl rfl ?_
  refine ef_if (pt := 111) (pf := 106) (fun _ _ => ev_if_eq (tgt := 111) dX5_best_103 (by decide)) (fun h1 => ?_) (fun h1 => ?_)
  · refine ef_sub (lv' := [(0, .ref (pl 0)), (1, .int x1), (5, .int x5)]) [1, 2, 6] rfl ?_
    exact okX5_best_111 rec_41 hrec_41 x1 x5 s
  · refine ef_iload (q := 108) 0 dX5_best_106 rfl rfl ?_
    refine ef_if (pt := 131) (pf := 111) (fun _ _ => ev_if_eq (tgt := 131) dX5_best_108 (by decide)) (fun h2 => ?_) (fun h2 => ?_)
    · refine ef_iinc (v := x5 + (1 : Int32)) (lv' := [(5, .int (x5 + (1 : Int32))), (6, .int y0), (0, .ref (pl 0)), (1, .int x1), (2, .int x2), (3, .int x3), (4, .int x4)]) (q := 134) 6 dX5_best_131 rfl rfl (by decide) rfl rfl ?_
      refine ef_goto (tgt := 41) dX5_best_134 (by decide) ?_
      refine ef_sub (lv' := [(0, .ref (pl 0)), (1, .int x1), (2, .int x2), (3, .int x3), (4, .int x4), (5, .int (x5 + (1 : Int32)))]) [2, 3, 4, 5, 6, 0] rfl ?_
      exact hrec_41 x1 x2 x3 x4 (x5 + (1 : Int32)) s
    · refine ef_sub (lv' := [(0, .ref (pl 0)), (1, .int x1), (5, .int x5)]) [1, 2, 6] rfl ?_
      exact okX5_best_111 rec_41 hrec_41 x1 x5 s
set_option maxRecDepth 100000 in
set_option maxHeartbeats 4000000 in
theorem okX5_best_94 {G : GG} {pl : Nat → Nat} {h0 : PH} (rec_41 : Int32 → Int32 → Int32 → Int32 → Int32 → SS → Option (Int32 × SS)) (hrec_41 : ∀ (x1 : Int32) (x2 : Int32) (x3 : Int32) (x4 : Int32) (x5 : Int32) (s : SS), EvF G 12 mX5_best lyM pl h0 rvI (rec_41 x1 x2 x3 x4 x5 s) 41 [(0, .ref (pl 0)), (1, .int x1), (2, .int x2), (3, .int x3), (4, .int x4), (5, .int x5)] [] s) (x1 : Int32) (x2 : Int32) (x3 : Int32) (x4 : Int32) (x5 : Int32) (s : SS) : EvF G 12 mX5_best lyM pl h0 rvI (fX5_best_94 rec_41 x1 x2 x3 x4 x5 s) 94 [(0, .ref (pl 0)), (1, .int x1), (2, .int x2), (3, .int x3), (4, .int x4), (5, .int x5)] [] s := by
  unfold fX5_best_94
  refine ef_iconst (v := (1 : Int32)) (q := 95) dX5_best_94 (by decide) rfl ?_
  refine ef_goto (tgt := 99) dX5_best_95 (by decide) ?_
  refine ef_sub (lv' := [(0, .ref (pl 0)), (1, .int x1), (2, .int x2), (3, .int x3), (4, .int x4), (5, .int x5)]) [0, 1, 2, 3, 4, 5] rfl ?_
  exact okX5_best_99 rec_41 hrec_41 x1 x2 x3 x4 x5 (1 : Int32) s
set_option maxRecDepth 100000 in
set_option maxHeartbeats 4000000 in
theorem okX5_best_98 {G : GG} {pl : Nat → Nat} {h0 : PH} (rec_41 : Int32 → Int32 → Int32 → Int32 → Int32 → SS → Option (Int32 × SS)) (hrec_41 : ∀ (x1 : Int32) (x2 : Int32) (x3 : Int32) (x4 : Int32) (x5 : Int32) (s : SS), EvF G 12 mX5_best lyM pl h0 rvI (rec_41 x1 x2 x3 x4 x5 s) 41 [(0, .ref (pl 0)), (1, .int x1), (2, .int x2), (3, .int x3), (4, .int x4), (5, .int x5)] [] s) (x1 : Int32) (x2 : Int32) (x3 : Int32) (x4 : Int32) (x5 : Int32) (s : SS) : EvF G 12 mX5_best lyM pl h0 rvI (fX5_best_98 rec_41 x1 x2 x3 x4 x5 s) 98 [(0, .ref (pl 0)), (1, .int x1), (2, .int x2), (3, .int x3), (4, .int x4), (5, .int x5)] [] s := by
  unfold fX5_best_98
  refine ef_iconst (v := (0 : Int32)) (q := 99) dX5_best_98 (by decide) rfl ?_
  refine ef_sub (lv' := [(0, .ref (pl 0)), (1, .int x1), (2, .int x2), (3, .int x3), (4, .int x4), (5, .int x5)]) [0, 1, 2, 3, 4, 5] rfl ?_
  exact okX5_best_99 rec_41 hrec_41 x1 x2 x3 x4 x5 (0 : Int32) s
set_option maxRecDepth 100000 in
set_option maxHeartbeats 4000000 in
theorem okX5_best_41 {G : GG} {pl : Nat → Nat} {h0 : PH} : ∀ (n : Nat) (x1 : Int32) (x2 : Int32) (x3 : Int32) (x4 : Int32) (x5 : Int32) (s : SS), EvF G 12 mX5_best lyM pl h0 rvI (fX5_best_41 n x1 x2 x3 x4 x5 s) 41 [(0, .ref (pl 0)), (1, .int x1), (2, .int x2), (3, .int x3), (4, .int x4), (5, .int x5)] [] s := by
  intro n
  induction n with
  | zero => intro x1 x2 x3 x4 x5 s; rw [fX5_best_41]; exact ef_none
  | succ n ih =>
    intro x1 x2 x3 x4 x5 s
    rw [fX5_best_41]
    refine ef_iload (q := 43) 5 dX5_best_41 rfl rfl ?_
    refine ef_aload_n (q := 44) 0 dX5_best_43 rfl rfl rfl ?_
    refine ef_getR (t := 1) (q := 47) rfl fl5_10 rfl rfl dX5_best_44 rfl ?_
    refine ef_getI (x := s.1 1 3) (q := 50) rfl fl5_173 rfl rfl dX5_best_47 rfl ?_
    refine ef_if (pt := 137) (pf := 53) (fun _ _ => ev_icmp_ge (tgt := 137) dX5_best_50 (by decide)) (fun h1 => ?_) (fun h1 => ?_)
    · refine ef_iload_n (q := 138) 2 dX5_best_137 rfl rfl rfl ?_
      exact ef_iret rfl dX5_best_138
    · refine ef_aload_n (q := 54) 0 dX5_best_53 rfl rfl rfl ?_
      refine ef_iload (q := 56) 5 dX5_best_54 rfl rfl ?_
      refine ef_iload_n (q := 57) 1 dX5_best_56 rfl rfl rfl ?_
      refine ef_invVU0 (k := 0) (As := [.int x5, .int x1]) (rest := []) (q := 60) (okX5_thinkRun x5 x1) rfl calX5_thinkRun ml5_230 (by decide) rfl rfl rfl (Nat.le_of_ble_eq_true rfl) dX5_best_57 rfl (fun z2 => ?_)
      refine ef_aload_n (q := 61) 0 dX5_best_60 rfl rfl rfl ?_
      refine ef_getR (t := 28) (q := 64) rfl fl5_25 rfl rfl dX5_best_61 rfl ?_
      refine ef_getI (x := z2.2.1 28 8) (q := 67) rfl fl5_227 rfl rfl dX5_best_64 rfl ?_
      refine ef_iload_n (q := 68) 3 dX5_best_67 rfl rfl rfl ?_
      refine ef_if (pt := 94) (pf := 71) (fun _ _ => ev_icmp_lt (tgt := 94) dX5_best_68 (by decide)) (fun h3 => ?_) (fun h3 => ?_)
      · refine ef_sub (lv' := [(0, .ref (pl 0)), (1, .int x1), (2, .int x2), (3, .int x3), (4, .int x4), (5, .int x5)]) [0, 1, 2, 3, 4, 5] rfl ?_
        exact okX5_best_94 (fX5_best_41 n) ih x1 x2 x3 x4 x5 z2.2
      · refine ef_aload_n (q := 72) 0 dX5_best_71 rfl rfl rfl ?_
        refine ef_getR (t := 28) (q := 75) rfl fl5_25 rfl rfl dX5_best_72 rfl ?_
        refine ef_getI (x := z2.2.1 28 8) (q := 78) rfl fl5_227 rfl rfl dX5_best_75 rfl ?_
        refine ef_iload_n (q := 79) 3 dX5_best_78 rfl rfl rfl ?_
        refine ef_if (pt := 82) (pf := 98) (fun _ _ kt kf => ev_icmp_ne (tgt := 98) dX5_best_79 (by decide) kf kt) (fun h4 => ?_) (fun h4 => ?_)
        · refine ef_aload_n (q := 83) 0 dX5_best_82 rfl rfl rfl ?_
          refine ef_getR (t := 28) (q := 86) rfl fl5_25 rfl rfl dX5_best_83 rfl ?_
          refine ef_getI (x := z2.2.1 28 9) (q := 89) rfl fl5_246 rfl rfl dX5_best_86 rfl ?_
          refine ef_iload (q := 91) 4 dX5_best_89 rfl rfl ?_
          refine ef_if (pt := 98) (pf := 94) (fun _ _ => ev_icmp_le (tgt := 98) dX5_best_91 (by decide)) (fun h5 => ?_) (fun h5 => ?_)
          · refine ef_sub (lv' := [(0, .ref (pl 0)), (1, .int x1), (2, .int x2), (3, .int x3), (4, .int x4), (5, .int x5)]) [0, 1, 2, 3, 4, 5] rfl ?_
            exact okX5_best_98 (fX5_best_41 n) ih x1 x2 x3 x4 x5 z2.2
          · refine ef_sub (lv' := [(0, .ref (pl 0)), (1, .int x1), (2, .int x2), (3, .int x3), (4, .int x4), (5, .int x5)]) [0, 1, 2, 3, 4, 5] rfl ?_
            exact okX5_best_94 (fX5_best_41 n) ih x1 x2 x3 x4 x5 z2.2
        · refine ef_sub (lv' := [(0, .ref (pl 0)), (1, .int x1), (2, .int x2), (3, .int x3), (4, .int x4), (5, .int x5)]) [0, 1, 2, 3, 4, 5] rfl ?_
          exact okX5_best_98 (fX5_best_41 n) ih x1 x2 x3 x4 x5 z2.2
set_option maxRecDepth 100000 in
set_option maxHeartbeats 4000000 in
theorem okX5_best_0 {G : GG} {pl : Nat → Nat} {h0 : PH} (x1 : Int32) (s : SS) : EvF G 12 mX5_best lyM pl h0 rvI (fX5_best_0 x1 s) 0 [(0, .ref (pl 0)), (1, .int x1)] [] s := by
  unfold fX5_best_0
  refine ef_iload_n (q := 1) 1 dX5_best_0 rfl rfl rfl ?_
  refine ef_invPI0 (As := [.int x1]) (rest := []) (q := 4) (okX5_isSpan x1) rfl calX5_isSpan ml5_215 (by decide) rfl rfl (Nat.le_of_ble_eq_true rfl) dX5_best_1 rfl (fun z1 => ?_)
  refine ef_if (pt := 7) (pf := 14) (fun _ _ kt kf => ev_if_ne (tgt := 14) dX5_best_4 (by decide) kf kt) (fun h2 => ?_) (fun h2 => ?_)
  · refine ef_aload_n (q := 8) 0 dX5_best_7 rfl rfl rfl ?_
    refine ef_bipush (v := (-2 : Int32)) (q := 10) dX5_best_8 (by decide) rfl ?_
    refine ef_invVI0 (k := 0) (As := [.int (-2 : Int32)]) (rest := []) (q := 13) (okX5_refuse (-2 : Int32)) rfl calX5_refuse ml5_66 (by decide) rfl rfl rfl (Nat.le_of_ble_eq_true rfl) dX5_best_10 rfl (fun z3 => ?_)
    exact ef_iret rfl dX5_best_13
  · refine ef_aload_n (q := 15) 0 dX5_best_14 rfl rfl rfl ?_
    refine ef_getR (t := 1) (q := 18) rfl fl5_10 rfl rfl dX5_best_15 rfl ?_
    refine ef_getI (x := s.1 1 3) (q := 21) rfl fl5_173 rfl rfl dX5_best_18 rfl ?_
    refine ef_if (pt := 24) (pf := 31) (fun _ _ kt kf => ev_if_ne (tgt := 31) dX5_best_21 (by decide) kf kt) (fun h4 => ?_) (fun h4 => ?_)
    · refine ef_aload_n (q := 25) 0 dX5_best_24 rfl rfl rfl ?_
      refine ef_bipush (v := (-5 : Int32)) (q := 27) dX5_best_25 (by decide) rfl ?_
      refine ef_invVI0 (k := 0) (As := [.int (-5 : Int32)]) (rest := []) (q := 30) (okX5_refuse (-5 : Int32)) rfl calX5_refuse ml5_66 (by decide) rfl rfl rfl (Nat.le_of_ble_eq_true rfl) dX5_best_27 rfl (fun z5 => ?_)
      exact ef_iret rfl dX5_best_30
    · refine ef_iconst (v := (0 : Int32)) (q := 32) dX5_best_31 (by decide) rfl ?_
      refine ef_istore_n (lv' := [(2, .int (0 : Int32)), (0, .ref (pl 0)), (1, .int x1)]) (q := 33) dX5_best_32 rfl (by decide) rfl rfl ?_
      refine ef_iconst (v := (0 : Int32)) (q := 34) dX5_best_33 (by decide) rfl ?_
      refine ef_istore_n (lv' := [(3, .int (0 : Int32)), (2, .int (0 : Int32)), (0, .ref (pl 0)), (1, .int x1)]) (q := 35) dX5_best_34 rfl (by decide) rfl rfl ?_
      refine ef_iconst (v := (0 : Int32)) (q := 36) dX5_best_35 (by decide) rfl ?_
      refine ef_istore (lv' := [(4, .int (0 : Int32)), (3, .int (0 : Int32)), (2, .int (0 : Int32)), (0, .ref (pl 0)), (1, .int x1)]) (q := 38) dX5_best_36 (by decide) rfl rfl ?_
      refine ef_iconst (v := (0 : Int32)) (q := 39) dX5_best_38 (by decide) rfl ?_
      refine ef_istore (lv' := [(5, .int (0 : Int32)), (4, .int (0 : Int32)), (3, .int (0 : Int32)), (2, .int (0 : Int32)), (0, .ref (pl 0)), (1, .int x1)]) (q := 41) dX5_best_39 (by decide) rfl rfl ?_
      refine ef_sub (lv' := [(0, .ref (pl 0)), (1, .int x1), (2, .int (0 : Int32)), (3, .int (0 : Int32)), (4, .int (0 : Int32)), (5, .int (0 : Int32))]) [4, 5, 3, 2, 1, 0] rfl ?_
      exact okX5_best_41 FU x1 (0 : Int32) (0 : Int32) (0 : Int32) (0 : Int32) s
theorem okX5_best (x1 : Int32) : MtF 12 mX5_best lyM rvI (fun _ pl => [.ref (pl 0), .int x1]) (fX5_best x1) := by
  refine MtF.of (by decide +kernel) rfl (fun _ pl => Nat.le_of_ble_eq_true rfl) (fun G pl h0 s => ?_)
  refine ef_sub (lv := [(0, .ref (pl 0)), (1, .int x1)]) (lv' := [(0, .ref (pl 0)), (1, .int x1)]) [0, 1] rfl ?_
  exact okX5_best_0  x1 s
-- X5_until
theorem dX5_until_0 : decode cX5_until 0 = .ok (.aload_n 0, 1) := by decide +kernel
theorem dX5_until_1 : decode cX5_until 1 = .ok (.iload_n 1, 1) := by decide +kernel
theorem dX5_until_2 : decode cX5_until 2 = .ok (.invokevirtual 106, 3) := by decide +kernel
theorem dX5_until_5 : decode cX5_until 5 = .ok (.ifCond .ne 10, 3) := by decide +kernel
theorem dX5_until_8 : decode cX5_until 8 = .ok (.aload_n 0, 1) := by decide +kernel
theorem dX5_until_9 : decode cX5_until 9 = .ok (.bipush (-2), 2) := by decide +kernel
theorem dX5_until_11 : decode cX5_until 11 = .ok (.invokevirtual 66, 3) := by decide +kernel
theorem dX5_until_14 : decode cX5_until 14 = .ok (.ireturn, 1) := by decide +kernel
theorem dX5_until_15 : decode cX5_until 15 = .ok (.aload_n 0, 1) := by decide +kernel
theorem dX5_until_16 : decode cX5_until 16 = .ok (.getfield 25, 3) := by decide +kernel
theorem dX5_until_19 : decode cX5_until 19 = .ok (.aload_n 0, 1) := by decide +kernel
theorem dX5_until_20 : decode cX5_until 20 = .ok (.getfield 10, 3) := by decide +kernel
theorem dX5_until_23 : decode cX5_until 23 = .ok (.getfield 130, 3) := by decide +kernel
theorem dX5_until_26 : decode cX5_until 26 = .ok (.invokevirtual 218, 3) := by decide +kernel
theorem dX5_until_29 : decode cX5_until 29 = .ok (.iconst 0, 1) := by decide +kernel
theorem dX5_until_30 : decode cX5_until 30 = .ok (.istore_n 2, 1) := by decide +kernel
theorem dX5_until_31 : decode cX5_until 31 = .ok (.iload_n 2, 1) := by decide +kernel
theorem dX5_until_32 : decode cX5_until 32 = .ok (.sipush 200, 3) := by decide +kernel
theorem dX5_until_35 : decode cX5_until 35 = .ok (.if_icmp .ge 37, 3) := by decide +kernel
theorem dX5_until_38 : decode cX5_until 38 = .ok (.aload_n 0, 1) := by decide +kernel
theorem dX5_until_39 : decode cX5_until 39 = .ok (.getfield 25, 3) := by decide +kernel
theorem dX5_until_42 : decode cX5_until 42 = .ok (.invokevirtual 249, 3) := by decide +kernel
theorem dX5_until_45 : decode cX5_until 45 = .ok (.ifCond .ne 5, 3) := by decide +kernel
theorem dX5_until_48 : decode cX5_until 48 = .ok (.iload_n 2, 1) := by decide +kernel
theorem dX5_until_49 : decode cX5_until 49 = .ok (.ireturn, 1) := by decide +kernel
theorem dX5_until_50 : decode cX5_until 50 = .ok (.aload_n 0, 1) := by decide +kernel
theorem dX5_until_51 : decode cX5_until 51 = .ok (.getfield 25, 3) := by decide +kernel
theorem dX5_until_54 : decode cX5_until 54 = .ok (.aload_n 0, 1) := by decide +kernel
theorem dX5_until_55 : decode cX5_until 55 = .ok (.aload_n 0, 1) := by decide +kernel
theorem dX5_until_56 : decode cX5_until 56 = .ok (.getfield 25, 3) := by decide +kernel
theorem dX5_until_59 : decode cX5_until 59 = .ok (.iload_n 1, 1) := by decide +kernel
theorem dX5_until_60 : decode cX5_until 60 = .ok (.invokevirtual 133, 3) := by decide +kernel
theorem dX5_until_63 : decode cX5_until 63 = .ok (.invokevirtual 224, 3) := by decide +kernel
theorem dX5_until_66 : decode cX5_until 66 = .ok (.iinc 2 1, 3) := by decide +kernel
theorem dX5_until_69 : decode cX5_until 69 = .ok (.goto (-38), 3) := by decide +kernel
theorem dX5_until_72 : decode cX5_until 72 = .ok (.aload_n 0, 1) := by decide +kernel
theorem dX5_until_73 : decode cX5_until 73 = .ok (.getfield 25, 3) := by decide +kernel
theorem dX5_until_76 : decode cX5_until 76 = .ok (.invokevirtual 249, 3) := by decide +kernel
theorem dX5_until_79 : decode cX5_until 79 = .ok (.ifCond .ne 9, 3) := by decide +kernel
theorem dX5_until_82 : decode cX5_until 82 = .ok (.sipush 200, 3) := by decide +kernel
theorem dX5_until_85 : decode cX5_until 85 = .ok (.goto 4, 3) := by decide +kernel
theorem dX5_until_88 : decode cX5_until 88 = .ok (.iconst (-1), 1) := by decide +kernel
theorem dX5_until_89 : decode cX5_until 89 = .ok (.ireturn, 1) := by decide +kernel
def fX5_until_31 : Nat → Int32 → Int32 → SS → Option (Int32 × SS)
  | 0, _, _, _ => none
  | n + 1, x1, x2, s => if (200 : Int32) ≤ x2 then (((fX0_left (selS (fun k => 28 + k) s)).bind fun z2 => if z2.1 = 0 then (some ((200 : Int32), mrgS (fun k => 28 + k) 5 s z2.2)) else (some ((-1 : Int32), mrgS (fun k => 28 + k) 5 s z2.2)))) else (((fX0_left (selS (fun k => 28 + k) s)).bind fun z4 => if z4.1 = 0 then (some (x2, mrgS (fun k => 28 + k) 5 s z4.2)) else (((fX5_wouldIn28 x1 (mrgS (fun k => 28 + k) 5 s z4.2)).bind fun z6 => ((fX0_pass z6.1 (selS (fun k => 28 + k) z6.2)).bind fun z7 => fX5_until_31 n x1 (x2 + (1 : Int32)) (mrgS (fun k => 28 + k) 5 z6.2 z7.2))))))
def fX5_until_0 (x1 : Int32) (s : SS) : Option (Int32 × SS) := ((fX5_isLicker x1 s).bind fun z1 => if z1.1 = 0 then (((fX5_refuse (-2 : Int32) z1.2).bind fun z3 => some (z3.1, z3.2))) else (((fX0_takeFrom (selS (fun k => if k < 5 then 28 + k else 2 + (k - 5)) z1.2)).bind fun z4 => fX5_until_31 FU x1 (0 : Int32) (mrgS (fun k => if k < 5 then 28 + k else 2 + (k - 5)) 10 z1.2 z4.2))))
def fX5_until (x1 : Int32) (s : SS) : Option (Int32 × SS) := fX5_until_0 x1 s
set_option maxRecDepth 100000 in
set_option maxHeartbeats 4000000 in
theorem okX5_until_31 {G : GG} {pl : Nat → Nat} {h0 : PH} : ∀ (n : Nat) (x1 : Int32) (x2 : Int32) (s : SS), EvF G 12 mX5_until lyM pl h0 rvI (fX5_until_31 n x1 x2 s) 31 [(0, .ref (pl 0)), (1, .int x1), (2, .int x2)] [] s := by
  intro n
  induction n with
  | zero => intro x1 x2 s; rw [fX5_until_31]; exact ef_none
  | succ n ih =>
    intro x1 x2 s
    rw [fX5_until_31]
    refine ef_iload_n (q := 32) 2 dX5_until_31 rfl rfl rfl ?_
    refine ef_sipush (v := (200 : Int32)) (q := 35) dX5_until_32 (by decide) rfl ?_
    refine ef_if (pt := 72) (pf := 38) (fun _ _ => ev_icmp_ge (tgt := 72) dX5_until_35 (by decide)) (fun h1 => ?_) (fun h1 => ?_)
    · refine ef_aload_n (q := 73) 0 dX5_until_72 rfl rfl rfl ?_
      refine ef_getR (t := 28) (q := 76) rfl fl5_25 rfl rfl dX5_until_73 rfl ?_
      refine ef_invVI (k := 28) (nn := 5) (π := (fun k => 28 + k)) (As := []) (rest := []) (q := 79) (okX0_left) (by decide +kernel) rfl calX0_left ml5_249 (by decide) rfl rfl rfl (Nat.le_of_ble_eq_true rfl) dX5_until_76 rfl rfl (fun z2 => ?_)
      refine ef_if (pt := 82) (pf := 88) (fun _ _ kt kf => ev_if_ne (tgt := 88) dX5_until_79 (by decide) kf kt) (fun h3 => ?_) (fun h3 => ?_)
      · refine ef_sipush (v := (200 : Int32)) (q := 85) dX5_until_82 (by decide) rfl ?_
        refine ef_goto (tgt := 89) dX5_until_85 (by decide) ?_
        exact ef_iret rfl dX5_until_89
      · refine ef_iconst (v := (-1 : Int32)) (q := 89) dX5_until_88 (by decide) rfl ?_
        exact ef_iret rfl dX5_until_89
    · refine ef_aload_n (q := 39) 0 dX5_until_38 rfl rfl rfl ?_
      refine ef_getR (t := 28) (q := 42) rfl fl5_25 rfl rfl dX5_until_39 rfl ?_
      refine ef_invVI (k := 28) (nn := 5) (π := (fun k => 28 + k)) (As := []) (rest := []) (q := 45) (okX0_left) (by decide +kernel) rfl calX0_left ml5_249 (by decide) rfl rfl rfl (Nat.le_of_ble_eq_true rfl) dX5_until_42 rfl rfl (fun z4 => ?_)
      refine ef_if (pt := 48) (pf := 50) (fun _ _ kt kf => ev_if_ne (tgt := 50) dX5_until_45 (by decide) kf kt) (fun h5 => ?_) (fun h5 => ?_)
      · refine ef_iload_n (q := 49) 2 dX5_until_48 rfl rfl rfl ?_
        exact ef_iret rfl dX5_until_49
      · refine ef_aload_n (q := 51) 0 dX5_until_50 rfl rfl rfl ?_
        refine ef_getR (t := 28) (q := 54) rfl fl5_25 rfl rfl dX5_until_51 rfl ?_
        refine ef_aload_n (q := 55) 0 dX5_until_54 rfl rfl rfl ?_
        refine ef_aload_n (q := 56) 0 dX5_until_55 rfl rfl rfl ?_
        refine ef_getR (t := 28) (q := 59) rfl fl5_25 rfl rfl dX5_until_56 rfl ?_
        refine ef_iload_n (q := 60) 1 dX5_until_59 rfl rfl rfl ?_
        refine ef_invVI0 (k := 0) (As := [.ref (pl 28), .int x1]) (rest := [.ref (pl 28)]) (q := 63) (okX5_wouldIn28 x1) rfl calX5_wouldIn ml5_133 (by decide) rfl rfl rfl (Nat.le_of_ble_eq_true rfl) dX5_until_60 rfl (fun z6 => ?_)
        refine ef_invVU (k := 28) (nn := 5) (π := (fun k => 28 + k)) (As := [.int z6.1]) (rest := []) (q := 66) (okX0_pass z6.1) (by decide +kernel) rfl calX0_pass ml5_224 (by decide) rfl rfl rfl (Nat.le_of_ble_eq_true rfl) dX5_until_63 rfl rfl (fun z7 => ?_)
        refine ef_iinc (v := x2 + (1 : Int32)) (lv' := [(2, .int (x2 + (1 : Int32))), (0, .ref (pl 0)), (1, .int x1)]) (q := 69) 2 dX5_until_66 rfl rfl (by decide) rfl rfl ?_
        refine ef_goto (tgt := 31) dX5_until_69 (by decide) ?_
        refine ef_sub (lv' := [(0, .ref (pl 0)), (1, .int x1), (2, .int (x2 + (1 : Int32)))]) [1, 2, 0] rfl ?_
        exact ih x1 (x2 + (1 : Int32)) (mrgS (fun k => 28 + k) 5 z6.2 z7.2)
set_option maxRecDepth 100000 in
set_option maxHeartbeats 4000000 in
theorem okX5_until_0 {G : GG} {pl : Nat → Nat} {h0 : PH} (x1 : Int32) (s : SS) : EvF G 12 mX5_until lyM pl h0 rvI (fX5_until_0 x1 s) 0 [(0, .ref (pl 0)), (1, .int x1)] [] s := by
  unfold fX5_until_0
  refine ef_aload_n (q := 1) 0 dX5_until_0 rfl rfl rfl ?_
  refine ef_iload_n (q := 2) 1 dX5_until_1 rfl rfl rfl ?_
  refine ef_invVI0 (k := 0) (As := [.int x1]) (rest := []) (q := 5) (okX5_isLicker x1) rfl calX5_isLicker ml5_106 (by decide) rfl rfl rfl (Nat.le_of_ble_eq_true rfl) dX5_until_2 rfl (fun z1 => ?_)
  refine ef_if (pt := 8) (pf := 15) (fun _ _ kt kf => ev_if_ne (tgt := 15) dX5_until_5 (by decide) kf kt) (fun h2 => ?_) (fun h2 => ?_)
  · refine ef_aload_n (q := 9) 0 dX5_until_8 rfl rfl rfl ?_
    refine ef_bipush (v := (-2 : Int32)) (q := 11) dX5_until_9 (by decide) rfl ?_
    refine ef_invVI0 (k := 0) (As := [.int (-2 : Int32)]) (rest := []) (q := 14) (okX5_refuse (-2 : Int32)) rfl calX5_refuse ml5_66 (by decide) rfl rfl rfl (Nat.le_of_ble_eq_true rfl) dX5_until_11 rfl (fun z3 => ?_)
    exact ef_iret rfl dX5_until_14
  · refine ef_aload_n (q := 16) 0 dX5_until_15 rfl rfl rfl ?_
    refine ef_getR (t := 28) (q := 19) rfl fl5_25 rfl rfl dX5_until_16 rfl ?_
    refine ef_aload_n (q := 20) 0 dX5_until_19 rfl rfl rfl ?_
    refine ef_getR (t := 1) (q := 23) rfl fl5_10 rfl rfl dX5_until_20 rfl ?_
    refine ef_getR (t := 2) (q := 26) rfl fl5_130 rfl rfl dX5_until_23 rfl ?_
    refine ef_invVU (k := 28) (nn := 10) (π := (fun k => if k < 5 then 28 + k else 2 + (k - 5))) (As := [.ref (pl 2)]) (rest := []) (q := 29) (okX0_takeFrom) (by decide +kernel) rfl calX0_takeFrom ml5_218 (by decide) rfl rfl rfl (Nat.le_of_ble_eq_true rfl) dX5_until_26 rfl rfl (fun z4 => ?_)
    refine ef_iconst (v := (0 : Int32)) (q := 30) dX5_until_29 (by decide) rfl ?_
    refine ef_istore_n (lv' := [(2, .int (0 : Int32)), (0, .ref (pl 0)), (1, .int x1)]) (q := 31) dX5_until_30 rfl (by decide) rfl rfl ?_
    refine ef_sub (lv' := [(0, .ref (pl 0)), (1, .int x1), (2, .int (0 : Int32))]) [1, 2, 0] rfl ?_
    exact okX5_until_31 FU x1 (0 : Int32) (mrgS (fun k => if k < 5 then 28 + k else 2 + (k - 5)) 10 z1.2 z4.2)
theorem okX5_until (x1 : Int32) : MtF 12 mX5_until lyM rvI (fun _ pl => [.ref (pl 0), .int x1]) (fX5_until x1) := by
  refine MtF.of (by decide +kernel) rfl (fun _ pl => Nat.le_of_ble_eq_true rfl) (fun G pl h0 s => ?_)
  refine ef_sub (lv := [(0, .ref (pl 0)), (1, .int x1)]) (lv' := [(0, .ref (pl 0)), (1, .int x1)]) [0, 1] rfl ?_
  exact okX5_until_0  x1 s
-- X5_spareBy
theorem dX5_spareBy_0 : decode cX5_spareBy 0 = .ok (.aload_n 0, 1) := by decide +kernel
theorem dX5_spareBy_1 : decode cX5_spareBy 1 = .ok (.iload_n 1, 1) := by decide +kernel
theorem dX5_spareBy_2 : decode cX5_spareBy 2 = .ok (.invokevirtual 106, 3) := by decide +kernel
theorem dX5_spareBy_5 : decode cX5_spareBy 5 = .ok (.ifCond .ne 10, 3) := by decide +kernel
theorem dX5_spareBy_8 : decode cX5_spareBy 8 = .ok (.aload_n 0, 1) := by decide +kernel
theorem dX5_spareBy_9 : decode cX5_spareBy 9 = .ok (.bipush (-2), 2) := by decide +kernel
theorem dX5_spareBy_11 : decode cX5_spareBy 11 = .ok (.invokevirtual 66, 3) := by decide +kernel
theorem dX5_spareBy_14 : decode cX5_spareBy 14 = .ok (.ireturn, 1) := by decide +kernel
theorem dX5_spareBy_15 : decode cX5_spareBy 15 = .ok (.aload_n 0, 1) := by decide +kernel
theorem dX5_spareBy_16 : decode cX5_spareBy 16 = .ok (.getfield 25, 3) := by decide +kernel
theorem dX5_spareBy_19 : decode cX5_spareBy 19 = .ok (.aload_n 0, 1) := by decide +kernel
theorem dX5_spareBy_20 : decode cX5_spareBy 20 = .ok (.getfield 10, 3) := by decide +kernel
theorem dX5_spareBy_23 : decode cX5_spareBy 23 = .ok (.getfield 130, 3) := by decide +kernel
theorem dX5_spareBy_26 : decode cX5_spareBy 26 = .ok (.invokevirtual 218, 3) := by decide +kernel
theorem dX5_spareBy_29 : decode cX5_spareBy 29 = .ok (.iconst 0, 1) := by decide +kernel
theorem dX5_spareBy_30 : decode cX5_spareBy 30 = .ok (.istore_n 2, 1) := by decide +kernel
theorem dX5_spareBy_31 : decode cX5_spareBy 31 = .ok (.iload_n 2, 1) := by decide +kernel
theorem dX5_spareBy_32 : decode cX5_spareBy 32 = .ok (.sipush 200, 3) := by decide +kernel
theorem dX5_spareBy_35 : decode cX5_spareBy 35 = .ok (.if_icmp .ge 47, 3) := by decide +kernel
theorem dX5_spareBy_38 : decode cX5_spareBy 38 = .ok (.aload_n 0, 1) := by decide +kernel
theorem dX5_spareBy_39 : decode cX5_spareBy 39 = .ok (.getfield 25, 3) := by decide +kernel
theorem dX5_spareBy_42 : decode cX5_spareBy 42 = .ok (.aload_n 0, 1) := by decide +kernel
theorem dX5_spareBy_43 : decode cX5_spareBy 43 = .ok (.aload_n 0, 1) := by decide +kernel
theorem dX5_spareBy_44 : decode cX5_spareBy 44 = .ok (.getfield 25, 3) := by decide +kernel
theorem dX5_spareBy_47 : decode cX5_spareBy 47 = .ok (.iload_n 1, 1) := by decide +kernel
theorem dX5_spareBy_48 : decode cX5_spareBy 48 = .ok (.invokevirtual 133, 3) := by decide +kernel
theorem dX5_spareBy_51 : decode cX5_spareBy 51 = .ok (.invokevirtual 224, 3) := by decide +kernel
theorem dX5_spareBy_54 : decode cX5_spareBy 54 = .ok (.aload_n 0, 1) := by decide +kernel
theorem dX5_spareBy_55 : decode cX5_spareBy 55 = .ok (.getfield 25, 3) := by decide +kernel
theorem dX5_spareBy_58 : decode cX5_spareBy 58 = .ok (.getfield 227, 3) := by decide +kernel
theorem dX5_spareBy_61 : decode cX5_spareBy 61 = .ok (.aload_n 0, 1) := by decide +kernel
theorem dX5_spareBy_62 : decode cX5_spareBy 62 = .ok (.getfield 10, 3) := by decide +kernel
theorem dX5_spareBy_65 : decode cX5_spareBy 65 = .ok (.getfield 130, 3) := by decide +kernel
theorem dX5_spareBy_68 : decode cX5_spareBy 68 = .ok (.getfield 227, 3) := by decide +kernel
theorem dX5_spareBy_71 : decode cX5_spareBy 71 = .ok (.if_icmp .le 5, 3) := by decide +kernel
theorem dX5_spareBy_74 : decode cX5_spareBy 74 = .ok (.iload_n 2, 1) := by decide +kernel
theorem dX5_spareBy_75 : decode cX5_spareBy 75 = .ok (.ireturn, 1) := by decide +kernel
theorem dX5_spareBy_76 : decode cX5_spareBy 76 = .ok (.iinc 2 1, 3) := by decide +kernel
theorem dX5_spareBy_79 : decode cX5_spareBy 79 = .ok (.goto (-48), 3) := by decide +kernel
theorem dX5_spareBy_82 : decode cX5_spareBy 82 = .ok (.sipush 200, 3) := by decide +kernel
theorem dX5_spareBy_85 : decode cX5_spareBy 85 = .ok (.ireturn, 1) := by decide +kernel
def fX5_spareBy_31 : Nat → Int32 → Int32 → SS → Option (Int32 × SS)
  | 0, _, _, _ => none
  | n + 1, x1, x2, s => if (200 : Int32) ≤ x2 then (some ((200 : Int32), s)) else (((fX5_wouldIn28 x1 s).bind fun z2 => ((fX0_pass z2.1 (selS (fun k => 28 + k) z2.2)).bind fun z3 => if ((mrgS (fun k => 28 + k) 5 z2.2 z3.2).1 28 8) ≤ ((mrgS (fun k => 28 + k) 5 z2.2 z3.2).1 2 8) then (fX5_spareBy_31 n x1 (x2 + (1 : Int32)) (mrgS (fun k => 28 + k) 5 z2.2 z3.2)) else (some (x2, mrgS (fun k => 28 + k) 5 z2.2 z3.2)))))
def fX5_spareBy_0 (x1 : Int32) (s : SS) : Option (Int32 × SS) := ((fX5_isLicker x1 s).bind fun z1 => if z1.1 = 0 then (((fX5_refuse (-2 : Int32) z1.2).bind fun z3 => some (z3.1, z3.2))) else (((fX0_takeFrom (selS (fun k => if k < 5 then 28 + k else 2 + (k - 5)) z1.2)).bind fun z4 => fX5_spareBy_31 FU x1 (0 : Int32) (mrgS (fun k => if k < 5 then 28 + k else 2 + (k - 5)) 10 z1.2 z4.2))))
def fX5_spareBy (x1 : Int32) (s : SS) : Option (Int32 × SS) := fX5_spareBy_0 x1 s
set_option maxRecDepth 100000 in
set_option maxHeartbeats 4000000 in
theorem okX5_spareBy_31 {G : GG} {pl : Nat → Nat} {h0 : PH} : ∀ (n : Nat) (x1 : Int32) (x2 : Int32) (s : SS), EvF G 12 mX5_spareBy lyM pl h0 rvI (fX5_spareBy_31 n x1 x2 s) 31 [(0, .ref (pl 0)), (1, .int x1), (2, .int x2)] [] s := by
  intro n
  induction n with
  | zero => intro x1 x2 s; rw [fX5_spareBy_31]; exact ef_none
  | succ n ih =>
    intro x1 x2 s
    rw [fX5_spareBy_31]
    refine ef_iload_n (q := 32) 2 dX5_spareBy_31 rfl rfl rfl ?_
    refine ef_sipush (v := (200 : Int32)) (q := 35) dX5_spareBy_32 (by decide) rfl ?_
    refine ef_if (pt := 82) (pf := 38) (fun _ _ => ev_icmp_ge (tgt := 82) dX5_spareBy_35 (by decide)) (fun h1 => ?_) (fun h1 => ?_)
    · refine ef_sipush (v := (200 : Int32)) (q := 85) dX5_spareBy_82 (by decide) rfl ?_
      exact ef_iret rfl dX5_spareBy_85
    · refine ef_aload_n (q := 39) 0 dX5_spareBy_38 rfl rfl rfl ?_
      refine ef_getR (t := 28) (q := 42) rfl fl5_25 rfl rfl dX5_spareBy_39 rfl ?_
      refine ef_aload_n (q := 43) 0 dX5_spareBy_42 rfl rfl rfl ?_
      refine ef_aload_n (q := 44) 0 dX5_spareBy_43 rfl rfl rfl ?_
      refine ef_getR (t := 28) (q := 47) rfl fl5_25 rfl rfl dX5_spareBy_44 rfl ?_
      refine ef_iload_n (q := 48) 1 dX5_spareBy_47 rfl rfl rfl ?_
      refine ef_invVI0 (k := 0) (As := [.ref (pl 28), .int x1]) (rest := [.ref (pl 28)]) (q := 51) (okX5_wouldIn28 x1) rfl calX5_wouldIn ml5_133 (by decide) rfl rfl rfl (Nat.le_of_ble_eq_true rfl) dX5_spareBy_48 rfl (fun z2 => ?_)
      refine ef_invVU (k := 28) (nn := 5) (π := (fun k => 28 + k)) (As := [.int z2.1]) (rest := []) (q := 54) (okX0_pass z2.1) (by decide +kernel) rfl calX0_pass ml5_224 (by decide) rfl rfl rfl (Nat.le_of_ble_eq_true rfl) dX5_spareBy_51 rfl rfl (fun z3 => ?_)
      refine ef_aload_n (q := 55) 0 dX5_spareBy_54 rfl rfl rfl ?_
      refine ef_getR (t := 28) (q := 58) rfl fl5_25 rfl rfl dX5_spareBy_55 rfl ?_
      refine ef_getI (x := (mrgS (fun k => 28 + k) 5 z2.2 z3.2).1 28 8) (q := 61) rfl fl5_227 rfl rfl dX5_spareBy_58 rfl ?_
      refine ef_aload_n (q := 62) 0 dX5_spareBy_61 rfl rfl rfl ?_
      refine ef_getR (t := 1) (q := 65) rfl fl5_10 rfl rfl dX5_spareBy_62 rfl ?_
      refine ef_getR (t := 2) (q := 68) rfl fl5_130 rfl rfl dX5_spareBy_65 rfl ?_
      refine ef_getI (x := (mrgS (fun k => 28 + k) 5 z2.2 z3.2).1 2 8) (q := 71) rfl fl5_227 rfl rfl dX5_spareBy_68 rfl ?_
      refine ef_if (pt := 76) (pf := 74) (fun _ _ => ev_icmp_le (tgt := 76) dX5_spareBy_71 (by decide)) (fun h4 => ?_) (fun h4 => ?_)
      · refine ef_iinc (v := x2 + (1 : Int32)) (lv' := [(2, .int (x2 + (1 : Int32))), (0, .ref (pl 0)), (1, .int x1)]) (q := 79) 2 dX5_spareBy_76 rfl rfl (by decide) rfl rfl ?_
        refine ef_goto (tgt := 31) dX5_spareBy_79 (by decide) ?_
        refine ef_sub (lv' := [(0, .ref (pl 0)), (1, .int x1), (2, .int (x2 + (1 : Int32)))]) [1, 2, 0] rfl ?_
        exact ih x1 (x2 + (1 : Int32)) (mrgS (fun k => 28 + k) 5 z2.2 z3.2)
      · refine ef_iload_n (q := 75) 2 dX5_spareBy_74 rfl rfl rfl ?_
        exact ef_iret rfl dX5_spareBy_75
set_option maxRecDepth 100000 in
set_option maxHeartbeats 4000000 in
theorem okX5_spareBy_0 {G : GG} {pl : Nat → Nat} {h0 : PH} (x1 : Int32) (s : SS) : EvF G 12 mX5_spareBy lyM pl h0 rvI (fX5_spareBy_0 x1 s) 0 [(0, .ref (pl 0)), (1, .int x1)] [] s := by
  unfold fX5_spareBy_0
  refine ef_aload_n (q := 1) 0 dX5_spareBy_0 rfl rfl rfl ?_
  refine ef_iload_n (q := 2) 1 dX5_spareBy_1 rfl rfl rfl ?_
  refine ef_invVI0 (k := 0) (As := [.int x1]) (rest := []) (q := 5) (okX5_isLicker x1) rfl calX5_isLicker ml5_106 (by decide) rfl rfl rfl (Nat.le_of_ble_eq_true rfl) dX5_spareBy_2 rfl (fun z1 => ?_)
  refine ef_if (pt := 8) (pf := 15) (fun _ _ kt kf => ev_if_ne (tgt := 15) dX5_spareBy_5 (by decide) kf kt) (fun h2 => ?_) (fun h2 => ?_)
  · refine ef_aload_n (q := 9) 0 dX5_spareBy_8 rfl rfl rfl ?_
    refine ef_bipush (v := (-2 : Int32)) (q := 11) dX5_spareBy_9 (by decide) rfl ?_
    refine ef_invVI0 (k := 0) (As := [.int (-2 : Int32)]) (rest := []) (q := 14) (okX5_refuse (-2 : Int32)) rfl calX5_refuse ml5_66 (by decide) rfl rfl rfl (Nat.le_of_ble_eq_true rfl) dX5_spareBy_11 rfl (fun z3 => ?_)
    exact ef_iret rfl dX5_spareBy_14
  · refine ef_aload_n (q := 16) 0 dX5_spareBy_15 rfl rfl rfl ?_
    refine ef_getR (t := 28) (q := 19) rfl fl5_25 rfl rfl dX5_spareBy_16 rfl ?_
    refine ef_aload_n (q := 20) 0 dX5_spareBy_19 rfl rfl rfl ?_
    refine ef_getR (t := 1) (q := 23) rfl fl5_10 rfl rfl dX5_spareBy_20 rfl ?_
    refine ef_getR (t := 2) (q := 26) rfl fl5_130 rfl rfl dX5_spareBy_23 rfl ?_
    refine ef_invVU (k := 28) (nn := 10) (π := (fun k => if k < 5 then 28 + k else 2 + (k - 5))) (As := [.ref (pl 2)]) (rest := []) (q := 29) (okX0_takeFrom) (by decide +kernel) rfl calX0_takeFrom ml5_218 (by decide) rfl rfl rfl (Nat.le_of_ble_eq_true rfl) dX5_spareBy_26 rfl rfl (fun z4 => ?_)
    refine ef_iconst (v := (0 : Int32)) (q := 30) dX5_spareBy_29 (by decide) rfl ?_
    refine ef_istore_n (lv' := [(2, .int (0 : Int32)), (0, .ref (pl 0)), (1, .int x1)]) (q := 31) dX5_spareBy_30 rfl (by decide) rfl rfl ?_
    refine ef_sub (lv' := [(0, .ref (pl 0)), (1, .int x1), (2, .int (0 : Int32))]) [1, 2, 0] rfl ?_
    exact okX5_spareBy_31 FU x1 (0 : Int32) (mrgS (fun k => if k < 5 then 28 + k else 2 + (k - 5)) 10 z1.2 z4.2)
theorem okX5_spareBy (x1 : Int32) : MtF 12 mX5_spareBy lyM rvI (fun _ pl => [.ref (pl 0), .int x1]) (fX5_spareBy x1) := by
  refine MtF.of (by decide +kernel) rfl (fun _ pl => Nat.le_of_ble_eq_true rfl) (fun G pl h0 s => ?_)
  refine ef_sub (lv := [(0, .ref (pl 0)), (1, .int x1)]) (lv' := [(0, .ref (pl 0)), (1, .int x1)]) [0, 1] rfl ?_
  exact okX5_spareBy_0  x1 s
-- X5_both
theorem dX5_both_0 : decode cX5_both 0 = .ok (.aload_n 0, 1) := by decide +kernel
theorem dX5_both_1 : decode cX5_both 1 = .ok (.iload_n 1, 1) := by decide +kernel
theorem dX5_both_2 : decode cX5_both 2 = .ok (.invokevirtual 106, 3) := by decide +kernel
theorem dX5_both_5 : decode cX5_both 5 = .ok (.ifCond .eq 18, 3) := by decide +kernel
theorem dX5_both_8 : decode cX5_both 8 = .ok (.aload_n 0, 1) := by decide +kernel
theorem dX5_both_9 : decode cX5_both 9 = .ok (.iload_n 2, 1) := by decide +kernel
theorem dX5_both_10 : decode cX5_both 10 = .ok (.invokevirtual 106, 3) := by decide +kernel
theorem dX5_both_13 : decode cX5_both 13 = .ok (.ifCond .eq 10, 3) := by decide +kernel
theorem dX5_both_16 : decode cX5_both 16 = .ok (.iload_n 3, 1) := by decide +kernel
theorem dX5_both_17 : decode cX5_both 17 = .ok (.invokestatic 215, 3) := by decide +kernel
theorem dX5_both_20 : decode cX5_both 20 = .ok (.ifCond .ne 10, 3) := by decide +kernel
theorem dX5_both_23 : decode cX5_both 23 = .ok (.aload_n 0, 1) := by decide +kernel
theorem dX5_both_24 : decode cX5_both 24 = .ok (.bipush (-2), 2) := by decide +kernel
theorem dX5_both_26 : decode cX5_both 26 = .ok (.invokevirtual 66, 3) := by decide +kernel
theorem dX5_both_29 : decode cX5_both 29 = .ok (.ireturn, 1) := by decide +kernel
theorem dX5_both_30 : decode cX5_both 30 = .ok (.aload_n 0, 1) := by decide +kernel
theorem dX5_both_31 : decode cX5_both 31 = .ok (.getfield 25, 3) := by decide +kernel
theorem dX5_both_34 : decode cX5_both 34 = .ok (.aload_n 0, 1) := by decide +kernel
theorem dX5_both_35 : decode cX5_both 35 = .ok (.getfield 10, 3) := by decide +kernel
theorem dX5_both_38 : decode cX5_both 38 = .ok (.getfield 130, 3) := by decide +kernel
theorem dX5_both_41 : decode cX5_both 41 = .ok (.invokevirtual 218, 3) := by decide +kernel
theorem dX5_both_44 : decode cX5_both 44 = .ok (.iconst 0, 1) := by decide +kernel
theorem dX5_both_45 : decode cX5_both 45 = .ok (.istore 4, 2) := by decide +kernel
theorem dX5_both_47 : decode cX5_both 47 = .ok (.iload 4, 2) := by decide +kernel
theorem dX5_both_49 : decode cX5_both 49 = .ok (.iload_n 3, 1) := by decide +kernel
theorem dX5_both_50 : decode cX5_both 50 = .ok (.if_icmp .ge 36, 3) := by decide +kernel
theorem dX5_both_53 : decode cX5_both 53 = .ok (.aload_n 0, 1) := by decide +kernel
theorem dX5_both_54 : decode cX5_both 54 = .ok (.getfield 25, 3) := by decide +kernel
theorem dX5_both_57 : decode cX5_both 57 = .ok (.aload_n 0, 1) := by decide +kernel
theorem dX5_both_58 : decode cX5_both 58 = .ok (.aload_n 0, 1) := by decide +kernel
theorem dX5_both_59 : decode cX5_both 59 = .ok (.getfield 25, 3) := by decide +kernel
theorem dX5_both_62 : decode cX5_both 62 = .ok (.iload 4, 2) := by decide +kernel
theorem dX5_both_64 : decode cX5_both 64 = .ok (.iconst 2, 1) := by decide +kernel
theorem dX5_both_65 : decode cX5_both 65 = .ok (.irem, 1) := by decide +kernel
theorem dX5_both_66 : decode cX5_both 66 = .ok (.ifCond .ne 7, 3) := by decide +kernel
theorem dX5_both_69 : decode cX5_both 69 = .ok (.iload_n 1, 1) := by decide +kernel
theorem dX5_both_70 : decode cX5_both 70 = .ok (.goto 4, 3) := by decide +kernel
theorem dX5_both_73 : decode cX5_both 73 = .ok (.iload_n 2, 1) := by decide +kernel
theorem dX5_both_74 : decode cX5_both 74 = .ok (.invokevirtual 133, 3) := by decide +kernel
theorem dX5_both_77 : decode cX5_both 77 = .ok (.invokevirtual 224, 3) := by decide +kernel
theorem dX5_both_80 : decode cX5_both 80 = .ok (.iinc 4 1, 3) := by decide +kernel
theorem dX5_both_83 : decode cX5_both 83 = .ok (.goto (-36), 3) := by decide +kernel
theorem dX5_both_86 : decode cX5_both 86 = .ok (.aload_n 0, 1) := by decide +kernel
theorem dX5_both_87 : decode cX5_both 87 = .ok (.getfield 25, 3) := by decide +kernel
theorem dX5_both_90 : decode cX5_both 90 = .ok (.getfield 227, 3) := by decide +kernel
theorem dX5_both_93 : decode cX5_both 93 = .ok (.aload_n 0, 1) := by decide +kernel
theorem dX5_both_94 : decode cX5_both 94 = .ok (.getfield 10, 3) := by decide +kernel
theorem dX5_both_97 : decode cX5_both 97 = .ok (.getfield 130, 3) := by decide +kernel
theorem dX5_both_100 : decode cX5_both 100 = .ok (.getfield 227, 3) := by decide +kernel
theorem dX5_both_103 : decode cX5_both 103 = .ok (.isub, 1) := by decide +kernel
theorem dX5_both_104 : decode cX5_both 104 = .ok (.ireturn, 1) := by decide +kernel
def fX5_both_23 (s : SS) : Option (Int32 × SS) := ((fX5_refuse (-2 : Int32) s).bind fun z1 => some (z1.1, z1.2))
def fX5_both_74 (rec_47 : Int32 → Int32 → Int32 → Int32 → SS → Option (Int32 × SS)) (x1 : Int32) (x2 : Int32) (x3 : Int32) (x4 : Int32) (y3 : Int32) (s : SS) : Option (Int32 × SS) := ((fX5_wouldIn28 y3 s).bind fun z1 => ((fX0_pass z1.1 (selS (fun k => 28 + k) z1.2)).bind fun z2 => rec_47 x1 x2 x3 (x4 + (1 : Int32)) (mrgS (fun k => 28 + k) 5 z1.2 z2.2)))
def fX5_both_47 : Nat → Int32 → Int32 → Int32 → Int32 → SS → Option (Int32 × SS)
  | 0, _, _, _, _, _ => none
  | n + 1, x1, x2, x3, x4, s => if x3 ≤ x4 then (some ((s.1 28 8) - (s.1 2 8), s)) else (if (x4 - x4 / (2 : Int32) * (2 : Int32)) = 0 then (fX5_both_74 (fX5_both_47 n) x1 x2 x3 x4 x1 s) else (fX5_both_74 (fX5_both_47 n) x1 x2 x3 x4 x2 s))
def fX5_both_0 (x1 : Int32) (x2 : Int32) (x3 : Int32) (s : SS) : Option (Int32 × SS) := ((fX5_isLicker x1 s).bind fun z1 => if z1.1 = 0 then (fX5_both_23 z1.2) else (((fX5_isLicker x2 z1.2).bind fun z3 => if z3.1 = 0 then (fX5_both_23 z3.2) else (((fX5_isSpan x3 z3.2).bind fun z5 => if z5.1 = 0 then (fX5_both_23 z3.2) else (((fX0_takeFrom (selS (fun k => if k < 5 then 28 + k else 2 + (k - 5)) z3.2)).bind fun z7 => fX5_both_47 FU x1 x2 x3 (0 : Int32) (mrgS (fun k => if k < 5 then 28 + k else 2 + (k - 5)) 10 z3.2 z7.2))))))))
def fX5_both (x1 : Int32) (x2 : Int32) (x3 : Int32) (s : SS) : Option (Int32 × SS) := fX5_both_0 x1 x2 x3 s
set_option maxRecDepth 100000 in
set_option maxHeartbeats 4000000 in
theorem okX5_both_23 {G : GG} {pl : Nat → Nat} {h0 : PH} (s : SS) : EvF G 12 mX5_both lyM pl h0 rvI (fX5_both_23 s) 23 [(0, .ref (pl 0))] [] s := by
  unfold fX5_both_23
  refine ef_aload_n (q := 24) 0 dX5_both_23 rfl rfl rfl ?_
  refine ef_bipush (v := (-2 : Int32)) (q := 26) dX5_both_24 (by decide) rfl ?_
  refine ef_invVI0 (k := 0) (As := [.int (-2 : Int32)]) (rest := []) (q := 29) (okX5_refuse (-2 : Int32)) rfl calX5_refuse ml5_66 (by decide) rfl rfl rfl (Nat.le_of_ble_eq_true rfl) dX5_both_26 rfl (fun z1 => ?_)
  exact ef_iret rfl dX5_both_29
set_option maxRecDepth 100000 in
set_option maxHeartbeats 4000000 in
theorem okX5_both_74 {G : GG} {pl : Nat → Nat} {h0 : PH} (rec_47 : Int32 → Int32 → Int32 → Int32 → SS → Option (Int32 × SS)) (hrec_47 : ∀ (x1 : Int32) (x2 : Int32) (x3 : Int32) (x4 : Int32) (s : SS), EvF G 12 mX5_both lyM pl h0 rvI (rec_47 x1 x2 x3 x4 s) 47 [(0, .ref (pl 0)), (1, .int x1), (2, .int x2), (3, .int x3), (4, .int x4)] [] s) (x1 : Int32) (x2 : Int32) (x3 : Int32) (x4 : Int32) (y3 : Int32) (s : SS) : EvF G 12 mX5_both lyM pl h0 rvI (fX5_both_74 rec_47 x1 x2 x3 x4 y3 s) 74 [(0, .ref (pl 0)), (1, .int x1), (2, .int x2), (3, .int x3), (4, .int x4)] [.int y3, .ref (pl 28), .ref (pl 0), .ref (pl 28)] s := by
  unfold fX5_both_74
  refine ef_invVI0 (k := 0) (As := [.ref (pl 28), .int y3]) (rest := [.ref (pl 28)]) (q := 77) (okX5_wouldIn28 y3) rfl calX5_wouldIn ml5_133 (by decide) rfl rfl rfl (Nat.le_of_ble_eq_true rfl) dX5_both_74 rfl (fun z1 => ?_)
  refine ef_invVU (k := 28) (nn := 5) (π := (fun k => 28 + k)) (As := [.int z1.1]) (rest := []) (q := 80) (okX0_pass z1.1) (by decide +kernel) rfl calX0_pass ml5_224 (by decide) rfl rfl rfl (Nat.le_of_ble_eq_true rfl) dX5_both_77 rfl rfl (fun z2 => ?_)
  refine ef_iinc (v := x4 + (1 : Int32)) (lv' := [(4, .int (x4 + (1 : Int32))), (0, .ref (pl 0)), (1, .int x1), (2, .int x2), (3, .int x3)]) (q := 83) 4 dX5_both_80 rfl rfl (by decide) rfl rfl ?_
  refine ef_goto (tgt := 47) dX5_both_83 (by decide) ?_
  refine ef_sub (lv' := [(0, .ref (pl 0)), (1, .int x1), (2, .int x2), (3, .int x3), (4, .int (x4 + (1 : Int32)))]) [1, 2, 3, 4, 0] rfl ?_
  exact hrec_47 x1 x2 x3 (x4 + (1 : Int32)) (mrgS (fun k => 28 + k) 5 z1.2 z2.2)
set_option maxRecDepth 100000 in
set_option maxHeartbeats 4000000 in
theorem okX5_both_47 {G : GG} {pl : Nat → Nat} {h0 : PH} : ∀ (n : Nat) (x1 : Int32) (x2 : Int32) (x3 : Int32) (x4 : Int32) (s : SS), EvF G 12 mX5_both lyM pl h0 rvI (fX5_both_47 n x1 x2 x3 x4 s) 47 [(0, .ref (pl 0)), (1, .int x1), (2, .int x2), (3, .int x3), (4, .int x4)] [] s := by
  intro n
  induction n with
  | zero => intro x1 x2 x3 x4 s; rw [fX5_both_47]; exact ef_none
  | succ n ih =>
    intro x1 x2 x3 x4 s
    rw [fX5_both_47]
    refine ef_iload (q := 49) 4 dX5_both_47 rfl rfl ?_
    refine ef_iload_n (q := 50) 3 dX5_both_49 rfl rfl rfl ?_
    refine ef_if (pt := 86) (pf := 53) (fun _ _ => ev_icmp_ge (tgt := 86) dX5_both_50 (by decide)) (fun h1 => ?_) (fun h1 => ?_)
    · refine ef_aload_n (q := 87) 0 dX5_both_86 rfl rfl rfl ?_
      refine ef_getR (t := 28) (q := 90) rfl fl5_25 rfl rfl dX5_both_87 rfl ?_
      refine ef_getI (x := s.1 28 8) (q := 93) rfl fl5_227 rfl rfl dX5_both_90 rfl ?_
      refine ef_aload_n (q := 94) 0 dX5_both_93 rfl rfl rfl ?_
      refine ef_getR (t := 1) (q := 97) rfl fl5_10 rfl rfl dX5_both_94 rfl ?_
      refine ef_getR (t := 2) (q := 100) rfl fl5_130 rfl rfl dX5_both_97 rfl ?_
      refine ef_getI (x := s.1 2 8) (q := 103) rfl fl5_227 rfl rfl dX5_both_100 rfl ?_
      refine ef_isub (q := 104) dX5_both_103 rfl ?_
      exact ef_iret rfl dX5_both_104
    · refine ef_aload_n (q := 54) 0 dX5_both_53 rfl rfl rfl ?_
      refine ef_getR (t := 28) (q := 57) rfl fl5_25 rfl rfl dX5_both_54 rfl ?_
      refine ef_aload_n (q := 58) 0 dX5_both_57 rfl rfl rfl ?_
      refine ef_aload_n (q := 59) 0 dX5_both_58 rfl rfl rfl ?_
      refine ef_getR (t := 28) (q := 62) rfl fl5_25 rfl rfl dX5_both_59 rfl ?_
      refine ef_iload (q := 64) 4 dX5_both_62 rfl rfl ?_
      refine ef_iconst (v := (2 : Int32)) (q := 65) dX5_both_64 (by decide) rfl ?_
      refine ef_irem (q := 66) dX5_both_65 (by decide) rfl ?_
      refine ef_if (pt := 69) (pf := 73) (fun _ _ kt kf => ev_if_ne (tgt := 73) dX5_both_66 (by decide) kf kt) (fun h2 => ?_) (fun h2 => ?_)
      · refine ef_iload_n (q := 70) 1 dX5_both_69 rfl rfl rfl ?_
        refine ef_goto (tgt := 74) dX5_both_70 (by decide) ?_
        refine ef_sub (lv' := [(0, .ref (pl 0)), (1, .int x1), (2, .int x2), (3, .int x3), (4, .int x4)]) [0, 1, 2, 3, 4] rfl ?_
        exact okX5_both_74 (fX5_both_47 n) ih x1 x2 x3 x4 x1 s
      · refine ef_iload_n (q := 74) 2 dX5_both_73 rfl rfl rfl ?_
        refine ef_sub (lv' := [(0, .ref (pl 0)), (1, .int x1), (2, .int x2), (3, .int x3), (4, .int x4)]) [0, 1, 2, 3, 4] rfl ?_
        exact okX5_both_74 (fX5_both_47 n) ih x1 x2 x3 x4 x2 s
set_option maxRecDepth 100000 in
set_option maxHeartbeats 4000000 in
theorem okX5_both_0 {G : GG} {pl : Nat → Nat} {h0 : PH} (x1 : Int32) (x2 : Int32) (x3 : Int32) (s : SS) : EvF G 12 mX5_both lyM pl h0 rvI (fX5_both_0 x1 x2 x3 s) 0 [(0, .ref (pl 0)), (1, .int x1), (2, .int x2), (3, .int x3)] [] s := by
  unfold fX5_both_0
  refine ef_aload_n (q := 1) 0 dX5_both_0 rfl rfl rfl ?_
  refine ef_iload_n (q := 2) 1 dX5_both_1 rfl rfl rfl ?_
  refine ef_invVI0 (k := 0) (As := [.int x1]) (rest := []) (q := 5) (okX5_isLicker x1) rfl calX5_isLicker ml5_106 (by decide) rfl rfl rfl (Nat.le_of_ble_eq_true rfl) dX5_both_2 rfl (fun z1 => ?_)
  refine ef_if (pt := 23) (pf := 8) (fun _ _ => ev_if_eq (tgt := 23) dX5_both_5 (by decide)) (fun h2 => ?_) (fun h2 => ?_)
  · refine ef_sub (lv' := [(0, .ref (pl 0))]) [0] rfl ?_
    exact okX5_both_23 z1.2
  · refine ef_aload_n (q := 9) 0 dX5_both_8 rfl rfl rfl ?_
    refine ef_iload_n (q := 10) 2 dX5_both_9 rfl rfl rfl ?_
    refine ef_invVI0 (k := 0) (As := [.int x2]) (rest := []) (q := 13) (okX5_isLicker x2) rfl calX5_isLicker ml5_106 (by decide) rfl rfl rfl (Nat.le_of_ble_eq_true rfl) dX5_both_10 rfl (fun z3 => ?_)
    refine ef_if (pt := 23) (pf := 16) (fun _ _ => ev_if_eq (tgt := 23) dX5_both_13 (by decide)) (fun h4 => ?_) (fun h4 => ?_)
    · refine ef_sub (lv' := [(0, .ref (pl 0))]) [0] rfl ?_
      exact okX5_both_23 z3.2
    · refine ef_iload_n (q := 17) 3 dX5_both_16 rfl rfl rfl ?_
      refine ef_invPI0 (As := [.int x3]) (rest := []) (q := 20) (okX5_isSpan x3) rfl calX5_isSpan ml5_215 (by decide) rfl rfl (Nat.le_of_ble_eq_true rfl) dX5_both_17 rfl (fun z5 => ?_)
      refine ef_if (pt := 23) (pf := 30) (fun _ _ kt kf => ev_if_ne (tgt := 30) dX5_both_20 (by decide) kf kt) (fun h6 => ?_) (fun h6 => ?_)
      · refine ef_sub (lv' := [(0, .ref (pl 0))]) [0] rfl ?_
        exact okX5_both_23 z3.2
      · refine ef_aload_n (q := 31) 0 dX5_both_30 rfl rfl rfl ?_
        refine ef_getR (t := 28) (q := 34) rfl fl5_25 rfl rfl dX5_both_31 rfl ?_
        refine ef_aload_n (q := 35) 0 dX5_both_34 rfl rfl rfl ?_
        refine ef_getR (t := 1) (q := 38) rfl fl5_10 rfl rfl dX5_both_35 rfl ?_
        refine ef_getR (t := 2) (q := 41) rfl fl5_130 rfl rfl dX5_both_38 rfl ?_
        refine ef_invVU (k := 28) (nn := 10) (π := (fun k => if k < 5 then 28 + k else 2 + (k - 5))) (As := [.ref (pl 2)]) (rest := []) (q := 44) (okX0_takeFrom) (by decide +kernel) rfl calX0_takeFrom ml5_218 (by decide) rfl rfl rfl (Nat.le_of_ble_eq_true rfl) dX5_both_41 rfl rfl (fun z7 => ?_)
        refine ef_iconst (v := (0 : Int32)) (q := 45) dX5_both_44 (by decide) rfl ?_
        refine ef_istore (lv' := [(4, .int (0 : Int32)), (0, .ref (pl 0)), (1, .int x1), (2, .int x2), (3, .int x3)]) (q := 47) dX5_both_45 (by decide) rfl rfl ?_
        refine ef_sub (lv' := [(0, .ref (pl 0)), (1, .int x1), (2, .int x2), (3, .int x3), (4, .int (0 : Int32))]) [1, 2, 3, 4, 0] rfl ?_
        exact okX5_both_47 FU x1 x2 x3 (0 : Int32) (mrgS (fun k => if k < 5 then 28 + k else 2 + (k - 5)) 10 z3.2 z7.2)
theorem okX5_both (x1 : Int32) (x2 : Int32) (x3 : Int32) : MtF 12 mX5_both lyM rvI (fun _ pl => [.ref (pl 0), .int x1, .int x2, .int x3]) (fX5_both x1 x2 x3) := by
  refine MtF.of (by decide +kernel) rfl (fun _ pl => Nat.le_of_ble_eq_true rfl) (fun G pl h0 s => ?_)
  refine ef_sub (lv := [(0, .ref (pl 0)), (1, .int x1), (2, .int x2), (3, .int x3)]) (lv' := [(0, .ref (pl 0)), (1, .int x1), (2, .int x2), (3, .int x3)]) [0, 1, 2, 3] rfl ?_
  exact okX5_both_0  x1 x2 x3 s
-- X5_holdFor
theorem dX5_holdFor_0 : decode cX5_holdFor 0 = .ok (.iload_n 1, 1) := by decide +kernel
theorem dX5_holdFor_1 : decode cX5_holdFor 1 = .ok (.invokestatic 215, 3) := by decide +kernel
theorem dX5_holdFor_4 : decode cX5_holdFor 4 = .ok (.ifCond .ne 10, 3) := by decide +kernel
theorem dX5_holdFor_7 : decode cX5_holdFor 7 = .ok (.aload_n 0, 1) := by decide +kernel
theorem dX5_holdFor_8 : decode cX5_holdFor 8 = .ok (.bipush (-2), 2) := by decide +kernel
theorem dX5_holdFor_10 : decode cX5_holdFor 10 = .ok (.invokevirtual 66, 3) := by decide +kernel
theorem dX5_holdFor_13 : decode cX5_holdFor 13 = .ok (.ireturn, 1) := by decide +kernel
theorem dX5_holdFor_14 : decode cX5_holdFor 14 = .ok (.iconst 0, 1) := by decide +kernel
theorem dX5_holdFor_15 : decode cX5_holdFor 15 = .ok (.istore_n 2, 1) := by decide +kernel
theorem dX5_holdFor_16 : decode cX5_holdFor 16 = .ok (.iload_n 2, 1) := by decide +kernel
theorem dX5_holdFor_17 : decode cX5_holdFor 17 = .ok (.bipush 20, 2) := by decide +kernel
theorem dX5_holdFor_19 : decode cX5_holdFor 19 = .ok (.if_icmp .gt 41, 3) := by decide +kernel
theorem dX5_holdFor_22 : decode cX5_holdFor 22 = .ok (.aload_n 0, 1) := by decide +kernel
theorem dX5_holdFor_23 : decode cX5_holdFor 23 = .ok (.getfield 25, 3) := by decide +kernel
theorem dX5_holdFor_26 : decode cX5_holdFor 26 = .ok (.aload_n 0, 1) := by decide +kernel
theorem dX5_holdFor_27 : decode cX5_holdFor 27 = .ok (.getfield 10, 3) := by decide +kernel
theorem dX5_holdFor_30 : decode cX5_holdFor 30 = .ok (.getfield 130, 3) := by decide +kernel
theorem dX5_holdFor_33 : decode cX5_holdFor 33 = .ok (.invokevirtual 218, 3) := by decide +kernel
theorem dX5_holdFor_36 : decode cX5_holdFor 36 = .ok (.aload_n 0, 1) := by decide +kernel
theorem dX5_holdFor_37 : decode cX5_holdFor 37 = .ok (.getfield 25, 3) := by decide +kernel
theorem dX5_holdFor_40 : decode cX5_holdFor 40 = .ok (.iload_n 2, 1) := by decide +kernel
theorem dX5_holdFor_41 : decode cX5_holdFor 41 = .ok (.putfield 158, 3) := by decide +kernel
theorem dX5_holdFor_44 : decode cX5_holdFor 44 = .ok (.aload_n 0, 1) := by decide +kernel
theorem dX5_holdFor_45 : decode cX5_holdFor 45 = .ok (.iload_n 1, 1) := by decide +kernel
theorem dX5_holdFor_46 : decode cX5_holdFor 46 = .ok (.invokevirtual 221, 3) := by decide +kernel
theorem dX5_holdFor_49 : decode cX5_holdFor 49 = .ok (.ifCond .ne 5, 3) := by decide +kernel
theorem dX5_holdFor_52 : decode cX5_holdFor 52 = .ok (.iload_n 2, 1) := by decide +kernel
theorem dX5_holdFor_53 : decode cX5_holdFor 53 = .ok (.ireturn, 1) := by decide +kernel
theorem dX5_holdFor_54 : decode cX5_holdFor 54 = .ok (.iinc 2 1, 3) := by decide +kernel
theorem dX5_holdFor_57 : decode cX5_holdFor 57 = .ok (.goto (-41), 3) := by decide +kernel
theorem dX5_holdFor_60 : decode cX5_holdFor 60 = .ok (.iconst (-1), 1) := by decide +kernel
theorem dX5_holdFor_61 : decode cX5_holdFor 61 = .ok (.ireturn, 1) := by decide +kernel
def fX5_holdFor_16 : Nat → Int32 → Int32 → SS → Option (Int32 × SS)
  | 0, _, _, _ => none
  | n + 1, x1, x2, s => if (20 : Int32) < x2 then (some ((-1 : Int32), s)) else (((fX0_takeFrom (selS (fun k => if k < 5 then 28 + k else 2 + (k - 5)) s)).bind fun z2 => ((fX5_lostIdling x1 (wrI (mrgS (fun k => if k < 5 then 28 + k else 2 + (k - 5)) 10 s z2.2) 28 3 x2)).bind fun z3 => if z3.1 = 0 then (some (x2, z3.2)) else (fX5_holdFor_16 n x1 (x2 + (1 : Int32)) z3.2))))
def fX5_holdFor_0 (x1 : Int32) (s : SS) : Option (Int32 × SS) := ((fX5_isSpan x1 s).bind fun z1 => if z1.1 = 0 then (((fX5_refuse (-2 : Int32) s).bind fun z3 => some (z3.1, z3.2))) else (fX5_holdFor_16 FU x1 (0 : Int32) s))
def fX5_holdFor (x1 : Int32) (s : SS) : Option (Int32 × SS) := fX5_holdFor_0 x1 s
set_option maxRecDepth 100000 in
set_option maxHeartbeats 4000000 in
theorem okX5_holdFor_16 {G : GG} {pl : Nat → Nat} {h0 : PH} : ∀ (n : Nat) (x1 : Int32) (x2 : Int32) (s : SS), EvF G 4 mX5_holdFor lyM pl h0 rvI (fX5_holdFor_16 n x1 x2 s) 16 [(0, .ref (pl 0)), (1, .int x1), (2, .int x2)] [] s := by
  intro n
  induction n with
  | zero => intro x1 x2 s; rw [fX5_holdFor_16]; exact ef_none
  | succ n ih =>
    intro x1 x2 s
    rw [fX5_holdFor_16]
    refine ef_iload_n (q := 17) 2 dX5_holdFor_16 rfl rfl rfl ?_
    refine ef_bipush (v := (20 : Int32)) (q := 19) dX5_holdFor_17 (by decide) rfl ?_
    refine ef_if (pt := 60) (pf := 22) (fun _ _ => ev_icmp_gt (tgt := 60) dX5_holdFor_19 (by decide)) (fun h1 => ?_) (fun h1 => ?_)
    · refine ef_iconst (v := (-1 : Int32)) (q := 61) dX5_holdFor_60 (by decide) rfl ?_
      exact ef_iret rfl dX5_holdFor_61
    · refine ef_aload_n (q := 23) 0 dX5_holdFor_22 rfl rfl rfl ?_
      refine ef_getR (t := 28) (q := 26) rfl fl5_25 rfl rfl dX5_holdFor_23 rfl ?_
      refine ef_aload_n (q := 27) 0 dX5_holdFor_26 rfl rfl rfl ?_
      refine ef_getR (t := 1) (q := 30) rfl fl5_10 rfl rfl dX5_holdFor_27 rfl ?_
      refine ef_getR (t := 2) (q := 33) rfl fl5_130 rfl rfl dX5_holdFor_30 rfl ?_
      refine ef_invVU (k := 28) (nn := 10) (π := (fun k => if k < 5 then 28 + k else 2 + (k - 5))) (As := [.ref (pl 2)]) (rest := []) (q := 36) (okX0_takeFrom) (by decide +kernel) rfl calX0_takeFrom ml5_218 (by decide) rfl rfl rfl (Nat.le_of_ble_eq_true rfl) dX5_holdFor_33 rfl rfl (fun z2 => ?_)
      refine ef_aload_n (q := 37) 0 dX5_holdFor_36 rfl rfl rfl ?_
      refine ef_getR (t := 28) (q := 40) rfl fl5_25 rfl rfl dX5_holdFor_37 rfl ?_
      refine ef_iload_n (q := 41) 2 dX5_holdFor_40 rfl rfl rfl ?_
      refine ef_putI (q := 44) rfl fl5_158 rfl rfl dX5_holdFor_41 rfl ?_
      refine ef_aload_n (q := 45) 0 dX5_holdFor_44 rfl rfl rfl ?_
      refine ef_iload_n (q := 46) 1 dX5_holdFor_45 rfl rfl rfl ?_
      refine ef_invVI0 (k := 0) (As := [.int x1]) (rest := []) (q := 49) (okX5_lostIdling x1) rfl calX5_lostIdling ml5_221 (by decide) rfl rfl rfl (Nat.le_of_ble_eq_true rfl) dX5_holdFor_46 rfl (fun z3 => ?_)
      refine ef_if (pt := 52) (pf := 54) (fun _ _ kt kf => ev_if_ne (tgt := 54) dX5_holdFor_49 (by decide) kf kt) (fun h4 => ?_) (fun h4 => ?_)
      · refine ef_iload_n (q := 53) 2 dX5_holdFor_52 rfl rfl rfl ?_
        exact ef_iret rfl dX5_holdFor_53
      · refine ef_iinc (v := x2 + (1 : Int32)) (lv' := [(2, .int (x2 + (1 : Int32))), (0, .ref (pl 0)), (1, .int x1)]) (q := 57) 2 dX5_holdFor_54 rfl rfl (by decide) rfl rfl ?_
        refine ef_goto (tgt := 16) dX5_holdFor_57 (by decide) ?_
        refine ef_sub (lv' := [(0, .ref (pl 0)), (1, .int x1), (2, .int (x2 + (1 : Int32)))]) [1, 2, 0] rfl ?_
        exact ih x1 (x2 + (1 : Int32)) z3.2
set_option maxRecDepth 100000 in
set_option maxHeartbeats 4000000 in
theorem okX5_holdFor_0 {G : GG} {pl : Nat → Nat} {h0 : PH} (x1 : Int32) (s : SS) : EvF G 4 mX5_holdFor lyM pl h0 rvI (fX5_holdFor_0 x1 s) 0 [(0, .ref (pl 0)), (1, .int x1)] [] s := by
  unfold fX5_holdFor_0
  refine ef_iload_n (q := 1) 1 dX5_holdFor_0 rfl rfl rfl ?_
  refine ef_invPI0 (As := [.int x1]) (rest := []) (q := 4) (okX5_isSpan x1) rfl calX5_isSpan ml5_215 (by decide) rfl rfl (Nat.le_of_ble_eq_true rfl) dX5_holdFor_1 rfl (fun z1 => ?_)
  refine ef_if (pt := 7) (pf := 14) (fun _ _ kt kf => ev_if_ne (tgt := 14) dX5_holdFor_4 (by decide) kf kt) (fun h2 => ?_) (fun h2 => ?_)
  · refine ef_aload_n (q := 8) 0 dX5_holdFor_7 rfl rfl rfl ?_
    refine ef_bipush (v := (-2 : Int32)) (q := 10) dX5_holdFor_8 (by decide) rfl ?_
    refine ef_invVI0 (k := 0) (As := [.int (-2 : Int32)]) (rest := []) (q := 13) (okX5_refuse (-2 : Int32)) rfl calX5_refuse ml5_66 (by decide) rfl rfl rfl (Nat.le_of_ble_eq_true rfl) dX5_holdFor_10 rfl (fun z3 => ?_)
    exact ef_iret rfl dX5_holdFor_13
  · refine ef_iconst (v := (0 : Int32)) (q := 15) dX5_holdFor_14 (by decide) rfl ?_
    refine ef_istore_n (lv' := [(2, .int (0 : Int32)), (0, .ref (pl 0)), (1, .int x1)]) (q := 16) dX5_holdFor_15 rfl (by decide) rfl rfl ?_
    refine ef_sub (lv' := [(0, .ref (pl 0)), (1, .int x1), (2, .int (0 : Int32))]) [1, 2, 0] rfl ?_
    exact okX5_holdFor_16 FU x1 (0 : Int32) s
theorem okX5_holdFor (x1 : Int32) : MtF 4 mX5_holdFor lyM rvI (fun _ pl => [.ref (pl 0), .int x1]) (fX5_holdFor x1) := by
  refine MtF.of (by decide +kernel) rfl (fun _ pl => Nat.le_of_ble_eq_true rfl) (fun G pl h0 s => ?_)
  refine ef_sub (lv := [(0, .ref (pl 0)), (1, .int x1)]) (lv' := [(0, .ref (pl 0)), (1, .int x1)]) [0, 1] rfl ?_
  exact okX5_holdFor_0  x1 s
-- X5_lostUnder
theorem dX5_lostUnder_0 : decode cX5_lostUnder 0 = .ok (.aload_n 0, 1) := by decide +kernel
theorem dX5_lostUnder_1 : decode cX5_lostUnder 1 = .ok (.getfield 25, 3) := by decide +kernel
theorem dX5_lostUnder_4 : decode cX5_lostUnder 4 = .ok (.aload_n 0, 1) := by decide +kernel
theorem dX5_lostUnder_5 : decode cX5_lostUnder 5 = .ok (.getfield 10, 3) := by decide +kernel
theorem dX5_lostUnder_8 : decode cX5_lostUnder 8 = .ok (.getfield 130, 3) := by decide +kernel
theorem dX5_lostUnder_11 : decode cX5_lostUnder 11 = .ok (.invokevirtual 218, 3) := by decide +kernel
theorem dX5_lostUnder_14 : decode cX5_lostUnder 14 = .ok (.aload_n 0, 1) := by decide +kernel
theorem dX5_lostUnder_15 : decode cX5_lostUnder 15 = .ok (.getfield 25, 3) := by decide +kernel
theorem dX5_lostUnder_18 : decode cX5_lostUnder 18 = .ok (.iload_n 1, 1) := by decide +kernel
theorem dX5_lostUnder_19 : decode cX5_lostUnder 19 = .ok (.iload_n 2, 1) := by decide +kernel
theorem dX5_lostUnder_20 : decode cX5_lostUnder 20 = .ok (.invokevirtual 146, 3) := by decide +kernel
theorem dX5_lostUnder_23 : decode cX5_lostUnder 23 = .ok (.aload_n 0, 1) := by decide +kernel
theorem dX5_lostUnder_24 : decode cX5_lostUnder 24 = .ok (.iload_n 3, 1) := by decide +kernel
theorem dX5_lostUnder_25 : decode cX5_lostUnder 25 = .ok (.invokevirtual 221, 3) := by decide +kernel
theorem dX5_lostUnder_28 : decode cX5_lostUnder 28 = .ok (.ireturn, 1) := by decide +kernel
def fX5_lostUnder_0 (x1 : Int32) (x2 : Int32) (x3 : Int32) (s : SS) : Option (Int32 × SS) := ((fX0_takeFrom (selS (fun k => if k < 5 then 28 + k else 2 + (k - 5)) s)).bind fun z1 => ((fX0_putOnTop x1 x2 (selS (fun k => 28 + k) (mrgS (fun k => if k < 5 then 28 + k else 2 + (k - 5)) 10 s z1.2))).bind fun z2 => ((fX5_lostIdling x3 (mrgS (fun k => 28 + k) 5 (mrgS (fun k => if k < 5 then 28 + k else 2 + (k - 5)) 10 s z1.2) z2.2)).bind fun z3 => some (z3.1, z3.2))))
def fX5_lostUnder (x1 : Int32) (x2 : Int32) (x3 : Int32) (s : SS) : Option (Int32 × SS) := fX5_lostUnder_0 x1 x2 x3 s
set_option maxRecDepth 100000 in
set_option maxHeartbeats 4000000 in
theorem okX5_lostUnder_0 {G : GG} {pl : Nat → Nat} {h0 : PH} (x1 : Int32) (x2 : Int32) (x3 : Int32) (s : SS) : EvF G 4 mX5_lostUnder lyM pl h0 rvI (fX5_lostUnder_0 x1 x2 x3 s) 0 [(0, .ref (pl 0)), (1, .int x1), (2, .int x2), (3, .int x3)] [] s := by
  unfold fX5_lostUnder_0
  refine ef_aload_n (q := 1) 0 dX5_lostUnder_0 rfl rfl rfl ?_
  refine ef_getR (t := 28) (q := 4) rfl fl5_25 rfl rfl dX5_lostUnder_1 rfl ?_
  refine ef_aload_n (q := 5) 0 dX5_lostUnder_4 rfl rfl rfl ?_
  refine ef_getR (t := 1) (q := 8) rfl fl5_10 rfl rfl dX5_lostUnder_5 rfl ?_
  refine ef_getR (t := 2) (q := 11) rfl fl5_130 rfl rfl dX5_lostUnder_8 rfl ?_
  refine ef_invVU (k := 28) (nn := 10) (π := (fun k => if k < 5 then 28 + k else 2 + (k - 5))) (As := [.ref (pl 2)]) (rest := []) (q := 14) (okX0_takeFrom) (by decide +kernel) rfl calX0_takeFrom ml5_218 (by decide) rfl rfl rfl (Nat.le_of_ble_eq_true rfl) dX5_lostUnder_11 rfl rfl (fun z1 => ?_)
  refine ef_aload_n (q := 15) 0 dX5_lostUnder_14 rfl rfl rfl ?_
  refine ef_getR (t := 28) (q := 18) rfl fl5_25 rfl rfl dX5_lostUnder_15 rfl ?_
  refine ef_iload_n (q := 19) 1 dX5_lostUnder_18 rfl rfl rfl ?_
  refine ef_iload_n (q := 20) 2 dX5_lostUnder_19 rfl rfl rfl ?_
  refine ef_invVU (k := 28) (nn := 5) (π := (fun k => 28 + k)) (As := [.int x1, .int x2]) (rest := []) (q := 23) (okX0_putOnTop x1 x2) (by decide +kernel) rfl calX0_putOnTop ml5_146 (by decide) rfl rfl rfl (Nat.le_of_ble_eq_true rfl) dX5_lostUnder_20 rfl rfl (fun z2 => ?_)
  refine ef_aload_n (q := 24) 0 dX5_lostUnder_23 rfl rfl rfl ?_
  refine ef_iload_n (q := 25) 3 dX5_lostUnder_24 rfl rfl rfl ?_
  refine ef_invVI0 (k := 0) (As := [.int x3]) (rest := []) (q := 28) (okX5_lostIdling x3) rfl calX5_lostIdling ml5_221 (by decide) rfl rfl rfl (Nat.le_of_ble_eq_true rfl) dX5_lostUnder_25 rfl (fun z3 => ?_)
  exact ef_iret rfl dX5_lostUnder_28
theorem okX5_lostUnder (x1 : Int32) (x2 : Int32) (x3 : Int32) : MtF 4 mX5_lostUnder lyM rvI (fun _ pl => [.ref (pl 0), .int x1, .int x2, .int x3]) (fX5_lostUnder x1 x2 x3) := by
  refine MtF.of (by decide +kernel) rfl (fun _ pl => Nat.le_of_ble_eq_true rfl) (fun G pl h0 s => ?_)
  refine ef_sub (lv := [(0, .ref (pl 0)), (1, .int x1), (2, .int x2), (3, .int x3)]) (lv' := [(0, .ref (pl 0)), (1, .int x1), (2, .int x2), (3, .int x3)]) [0, 1, 2, 3] rfl ?_
  exact okX5_lostUnder_0  x1 x2 x3 s
-- X5_largest
theorem dX5_largest_0 : decode cX5_largest 0 = .ok (.iload_n 1, 1) := by decide +kernel
theorem dX5_largest_1 : decode cX5_largest 1 = .ok (.iconst 0, 1) := by decide +kernel
theorem dX5_largest_2 : decode cX5_largest 2 = .ok (.bipush 9, 2) := by decide +kernel
theorem dX5_largest_4 : decode cX5_largest 4 = .ok (.invokestatic 62, 3) := by decide +kernel
theorem dX5_largest_7 : decode cX5_largest 7 = .ok (.ifCond .eq 10, 3) := by decide +kernel
theorem dX5_largest_10 : decode cX5_largest 10 = .ok (.iload_n 2, 1) := by decide +kernel
theorem dX5_largest_11 : decode cX5_largest 11 = .ok (.invokestatic 215, 3) := by decide +kernel
theorem dX5_largest_14 : decode cX5_largest 14 = .ok (.ifCond .ne 10, 3) := by decide +kernel
theorem dX5_largest_17 : decode cX5_largest 17 = .ok (.aload_n 0, 1) := by decide +kernel
theorem dX5_largest_18 : decode cX5_largest 18 = .ok (.bipush (-2), 2) := by decide +kernel
theorem dX5_largest_20 : decode cX5_largest 20 = .ok (.invokevirtual 66, 3) := by decide +kernel
theorem dX5_largest_23 : decode cX5_largest 23 = .ok (.ireturn, 1) := by decide +kernel
theorem dX5_largest_24 : decode cX5_largest 24 = .ok (.aload_n 0, 1) := by decide +kernel
theorem dX5_largest_25 : decode cX5_largest 25 = .ok (.getfield 10, 3) := by decide +kernel
theorem dX5_largest_28 : decode cX5_largest 28 = .ok (.getfield 130, 3) := by decide +kernel
theorem dX5_largest_31 : decode cX5_largest 31 = .ok (.getfield 137, 3) := by decide +kernel
theorem dX5_largest_34 : decode cX5_largest 34 = .ok (.iconst 3, 1) := by decide +kernel
theorem dX5_largest_35 : decode cX5_largest 35 = .ok (.if_icmp .lt 10, 3) := by decide +kernel
theorem dX5_largest_38 : decode cX5_largest 38 = .ok (.aload_n 0, 1) := by decide +kernel
theorem dX5_largest_39 : decode cX5_largest 39 = .ok (.bipush (-6), 2) := by decide +kernel
theorem dX5_largest_41 : decode cX5_largest 41 = .ok (.invokevirtual 66, 3) := by decide +kernel
theorem dX5_largest_44 : decode cX5_largest 44 = .ok (.ireturn, 1) := by decide +kernel
theorem dX5_largest_45 : decode cX5_largest 45 = .ok (.aload_n 0, 1) := by decide +kernel
theorem dX5_largest_46 : decode cX5_largest 46 = .ok (.getfield 25, 3) := by decide +kernel
theorem dX5_largest_49 : decode cX5_largest 49 = .ok (.aload_n 0, 1) := by decide +kernel
theorem dX5_largest_50 : decode cX5_largest 50 = .ok (.getfield 10, 3) := by decide +kernel
theorem dX5_largest_53 : decode cX5_largest 53 = .ok (.getfield 130, 3) := by decide +kernel
theorem dX5_largest_56 : decode cX5_largest 56 = .ok (.invokevirtual 218, 3) := by decide +kernel
theorem dX5_largest_59 : decode cX5_largest 59 = .ok (.aload_n 0, 1) := by decide +kernel
theorem dX5_largest_60 : decode cX5_largest 60 = .ok (.iload_n 2, 1) := by decide +kernel
theorem dX5_largest_61 : decode cX5_largest 61 = .ok (.invokevirtual 221, 3) := by decide +kernel
theorem dX5_largest_64 : decode cX5_largest 64 = .ok (.istore_n 3, 1) := by decide +kernel
theorem dX5_largest_65 : decode cX5_largest 65 = .ok (.iconst 0, 1) := by decide +kernel
theorem dX5_largest_66 : decode cX5_largest 66 = .ok (.istore 4, 2) := by decide +kernel
theorem dX5_largest_68 : decode cX5_largest 68 = .ok (.bipush 64, 2) := by decide +kernel
theorem dX5_largest_70 : decode cX5_largest 70 = .ok (.istore 5, 2) := by decide +kernel
theorem dX5_largest_72 : decode cX5_largest 72 = .ok (.iload 5, 2) := by decide +kernel
theorem dX5_largest_74 : decode cX5_largest 74 = .ok (.ifCond .le 44, 3) := by decide +kernel
theorem dX5_largest_77 : decode cX5_largest 77 = .ok (.iload 4, 2) := by decide +kernel
theorem dX5_largest_79 : decode cX5_largest 79 = .ok (.iload 5, 2) := by decide +kernel
theorem dX5_largest_81 : decode cX5_largest 81 = .ok (.iadd, 1) := by decide +kernel
theorem dX5_largest_82 : decode cX5_largest 82 = .ok (.bipush 99, 2) := by decide +kernel
theorem dX5_largest_84 : decode cX5_largest 84 = .ok (.if_icmp .gt 25, 3) := by decide +kernel
theorem dX5_largest_87 : decode cX5_largest 87 = .ok (.aload_n 0, 1) := by decide +kernel
theorem dX5_largest_88 : decode cX5_largest 88 = .ok (.iload_n 1, 1) := by decide +kernel
theorem dX5_largest_89 : decode cX5_largest 89 = .ok (.iload 4, 2) := by decide +kernel
theorem dX5_largest_91 : decode cX5_largest 91 = .ok (.iload 5, 2) := by decide +kernel
theorem dX5_largest_93 : decode cX5_largest 93 = .ok (.iadd, 1) := by decide +kernel
theorem dX5_largest_94 : decode cX5_largest 94 = .ok (.iload_n 2, 1) := by decide +kernel
theorem dX5_largest_95 : decode cX5_largest 95 = .ok (.invokevirtual 252, 3) := by decide +kernel
theorem dX5_largest_98 : decode cX5_largest 98 = .ok (.iload_n 3, 1) := by decide +kernel
theorem dX5_largest_99 : decode cX5_largest 99 = .ok (.if_icmp .gt 10, 3) := by decide +kernel
theorem dX5_largest_102 : decode cX5_largest 102 = .ok (.iload 4, 2) := by decide +kernel
theorem dX5_largest_104 : decode cX5_largest 104 = .ok (.iload 5, 2) := by decide +kernel
theorem dX5_largest_106 : decode cX5_largest 106 = .ok (.iadd, 1) := by decide +kernel
theorem dX5_largest_107 : decode cX5_largest 107 = .ok (.istore 4, 2) := by decide +kernel
theorem dX5_largest_109 : decode cX5_largest 109 = .ok (.iload 5, 2) := by decide +kernel
theorem dX5_largest_111 : decode cX5_largest 111 = .ok (.iconst 2, 1) := by decide +kernel
theorem dX5_largest_112 : decode cX5_largest 112 = .ok (.idiv, 1) := by decide +kernel
theorem dX5_largest_113 : decode cX5_largest 113 = .ok (.istore 5, 2) := by decide +kernel
theorem dX5_largest_115 : decode cX5_largest 115 = .ok (.goto (-43), 3) := by decide +kernel
theorem dX5_largest_118 : decode cX5_largest 118 = .ok (.iload 4, 2) := by decide +kernel
theorem dX5_largest_120 : decode cX5_largest 120 = .ok (.ireturn, 1) := by decide +kernel
def fX5_largest_17 (s : SS) : Option (Int32 × SS) := ((fX5_refuse (-2 : Int32) s).bind fun z1 => some (z1.1, z1.2))
def fX5_largest_109 (rec_72 : Int32 → Int32 → Int32 → Int32 → Int32 → SS → Option (Int32 × SS)) (x1 : Int32) (x2 : Int32) (x3 : Int32) (x4 : Int32) (x5 : Int32) (s : SS) : Option (Int32 × SS) := rec_72 x1 x2 x3 x4 (x5 / (2 : Int32)) s
def fX5_largest_72 : Nat → Int32 → Int32 → Int32 → Int32 → Int32 → SS → Option (Int32 × SS)
  | 0, _, _, _, _, _, _ => none
  | n + 1, x1, x2, x3, x4, x5, s => if x5 ≤ 0 then (some (x4, s)) else (if (99 : Int32) < (x4 + x5) then (fX5_largest_109 (fX5_largest_72 n) x1 x2 x3 x4 x5 s) else (((fX5_lostUnder x1 (x4 + x5) x2 s).bind fun z3 => if x3 < z3.1 then (fX5_largest_109 (fX5_largest_72 n) x1 x2 x3 x4 x5 z3.2) else (fX5_largest_109 (fX5_largest_72 n) x1 x2 x3 (x4 + x5) x5 z3.2))))
def fX5_largest_0 (x1 : Int32) (x2 : Int32) (s : SS) : Option (Int32 × SS) := ((fX5_isWithin x1 (0 : Int32) (9 : Int32) s).bind fun z1 => if z1.1 = 0 then (fX5_largest_17 s) else (((fX5_isSpan x2 s).bind fun z3 => if z3.1 = 0 then (fX5_largest_17 s) else (if (s.1 2 11) < (3 : Int32) then (((fX0_takeFrom (selS (fun k => if k < 5 then 28 + k else 2 + (k - 5)) s)).bind fun z6 => ((fX5_lostIdling x2 (mrgS (fun k => if k < 5 then 28 + k else 2 + (k - 5)) 10 s z6.2)).bind fun z7 => fX5_largest_72 FU x1 x2 z7.1 (0 : Int32) (64 : Int32) z7.2))) else (((fX5_refuse (-6 : Int32) s).bind fun z8 => some (z8.1, z8.2)))))))
def fX5_largest (x1 : Int32) (x2 : Int32) (s : SS) : Option (Int32 × SS) := fX5_largest_0 x1 x2 s
set_option maxRecDepth 100000 in
set_option maxHeartbeats 4000000 in
theorem okX5_largest_17 {G : GG} {pl : Nat → Nat} {h0 : PH} (s : SS) : EvF G 5 mX5_largest lyM pl h0 rvI (fX5_largest_17 s) 17 [(0, .ref (pl 0))] [] s := by
  unfold fX5_largest_17
  refine ef_aload_n (q := 18) 0 dX5_largest_17 rfl rfl rfl ?_
  refine ef_bipush (v := (-2 : Int32)) (q := 20) dX5_largest_18 (by decide) rfl ?_
  refine ef_invVI0 (k := 0) (As := [.int (-2 : Int32)]) (rest := []) (q := 23) (okX5_refuse (-2 : Int32)) rfl calX5_refuse ml5_66 (by decide) rfl rfl rfl (Nat.le_of_ble_eq_true rfl) dX5_largest_20 rfl (fun z1 => ?_)
  exact ef_iret rfl dX5_largest_23
set_option maxRecDepth 100000 in
set_option maxHeartbeats 4000000 in
theorem okX5_largest_109 {G : GG} {pl : Nat → Nat} {h0 : PH} (rec_72 : Int32 → Int32 → Int32 → Int32 → Int32 → SS → Option (Int32 × SS)) (hrec_72 : ∀ (x1 : Int32) (x2 : Int32) (x3 : Int32) (x4 : Int32) (x5 : Int32) (s : SS), EvF G 5 mX5_largest lyM pl h0 rvI (rec_72 x1 x2 x3 x4 x5 s) 72 [(0, .ref (pl 0)), (1, .int x1), (2, .int x2), (3, .int x3), (4, .int x4), (5, .int x5)] [] s) (x1 : Int32) (x2 : Int32) (x3 : Int32) (x4 : Int32) (x5 : Int32) (s : SS) : EvF G 5 mX5_largest lyM pl h0 rvI (fX5_largest_109 rec_72 x1 x2 x3 x4 x5 s) 109 [(0, .ref (pl 0)), (1, .int x1), (2, .int x2), (3, .int x3), (4, .int x4), (5, .int x5)] [] s := by
  unfold fX5_largest_109
  refine ef_iload (q := 111) 5 dX5_largest_109 rfl rfl ?_
  refine ef_iconst (v := (2 : Int32)) (q := 112) dX5_largest_111 (by decide) rfl ?_
  refine ef_idiv (q := 113) dX5_largest_112 (by decide) rfl ?_
  refine ef_istore (lv' := [(5, .int (x5 / (2 : Int32))), (0, .ref (pl 0)), (1, .int x1), (2, .int x2), (3, .int x3), (4, .int x4)]) (q := 115) dX5_largest_113 (by decide) rfl rfl ?_
  refine ef_goto (tgt := 72) dX5_largest_115 (by decide) ?_
  refine ef_sub (lv' := [(0, .ref (pl 0)), (1, .int x1), (2, .int x2), (3, .int x3), (4, .int x4), (5, .int (x5 / (2 : Int32)))]) [1, 2, 3, 4, 5, 0] rfl ?_
  exact hrec_72 x1 x2 x3 x4 (x5 / (2 : Int32)) s
set_option maxRecDepth 100000 in
set_option maxHeartbeats 4000000 in
theorem okX5_largest_72 {G : GG} {pl : Nat → Nat} {h0 : PH} : ∀ (n : Nat) (x1 : Int32) (x2 : Int32) (x3 : Int32) (x4 : Int32) (x5 : Int32) (s : SS), EvF G 5 mX5_largest lyM pl h0 rvI (fX5_largest_72 n x1 x2 x3 x4 x5 s) 72 [(0, .ref (pl 0)), (1, .int x1), (2, .int x2), (3, .int x3), (4, .int x4), (5, .int x5)] [] s := by
  intro n
  induction n with
  | zero => intro x1 x2 x3 x4 x5 s; rw [fX5_largest_72]; exact ef_none
  | succ n ih =>
    intro x1 x2 x3 x4 x5 s
    rw [fX5_largest_72]
    refine ef_iload (q := 74) 5 dX5_largest_72 rfl rfl ?_
    refine ef_if (pt := 118) (pf := 77) (fun _ _ => ev_if_le (tgt := 118) dX5_largest_74 (by decide)) (fun h1 => ?_) (fun h1 => ?_)
    · refine ef_iload (q := 120) 4 dX5_largest_118 rfl rfl ?_
      exact ef_iret rfl dX5_largest_120
    · refine ef_iload (q := 79) 4 dX5_largest_77 rfl rfl ?_
      refine ef_iload (q := 81) 5 dX5_largest_79 rfl rfl ?_
      refine ef_iadd (q := 82) dX5_largest_81 rfl ?_
      refine ef_bipush (v := (99 : Int32)) (q := 84) dX5_largest_82 (by decide) rfl ?_
      refine ef_if (pt := 109) (pf := 87) (fun _ _ => ev_icmp_gt (tgt := 109) dX5_largest_84 (by decide)) (fun h2 => ?_) (fun h2 => ?_)
      · refine ef_sub (lv' := [(0, .ref (pl 0)), (1, .int x1), (2, .int x2), (3, .int x3), (4, .int x4), (5, .int x5)]) [0, 1, 2, 3, 4, 5] rfl ?_
        exact okX5_largest_109 (fX5_largest_72 n) ih x1 x2 x3 x4 x5 s
      · refine ef_aload_n (q := 88) 0 dX5_largest_87 rfl rfl rfl ?_
        refine ef_iload_n (q := 89) 1 dX5_largest_88 rfl rfl rfl ?_
        refine ef_iload (q := 91) 4 dX5_largest_89 rfl rfl ?_
        refine ef_iload (q := 93) 5 dX5_largest_91 rfl rfl ?_
        refine ef_iadd (q := 94) dX5_largest_93 rfl ?_
        refine ef_iload_n (q := 95) 2 dX5_largest_94 rfl rfl rfl ?_
        refine ef_invVI0 (k := 0) (As := [.int x1, .int (x4 + x5), .int x2]) (rest := []) (q := 98) (okX5_lostUnder x1 (x4 + x5) x2) rfl calX5_lostUnder ml5_252 (by decide) rfl rfl rfl (Nat.le_of_ble_eq_true rfl) dX5_largest_95 rfl (fun z3 => ?_)
        refine ef_iload_n (q := 99) 3 dX5_largest_98 rfl rfl rfl ?_
        refine ef_if (pt := 109) (pf := 102) (fun _ _ => ev_icmp_gt (tgt := 109) dX5_largest_99 (by decide)) (fun h4 => ?_) (fun h4 => ?_)
        · refine ef_sub (lv' := [(0, .ref (pl 0)), (1, .int x1), (2, .int x2), (3, .int x3), (4, .int x4), (5, .int x5)]) [0, 1, 2, 3, 4, 5] rfl ?_
          exact okX5_largest_109 (fX5_largest_72 n) ih x1 x2 x3 x4 x5 z3.2
        · refine ef_iload (q := 104) 4 dX5_largest_102 rfl rfl ?_
          refine ef_iload (q := 106) 5 dX5_largest_104 rfl rfl ?_
          refine ef_iadd (q := 107) dX5_largest_106 rfl ?_
          refine ef_istore (lv' := [(4, .int (x4 + x5)), (0, .ref (pl 0)), (1, .int x1), (2, .int x2), (3, .int x3), (5, .int x5)]) (q := 109) dX5_largest_107 (by decide) rfl rfl ?_
          refine ef_sub (lv' := [(0, .ref (pl 0)), (1, .int x1), (2, .int x2), (3, .int x3), (4, .int (x4 + x5)), (5, .int x5)]) [1, 2, 3, 4, 0, 5] rfl ?_
          exact okX5_largest_109 (fX5_largest_72 n) ih x1 x2 x3 (x4 + x5) x5 z3.2
set_option maxRecDepth 100000 in
set_option maxHeartbeats 4000000 in
theorem okX5_largest_0 {G : GG} {pl : Nat → Nat} {h0 : PH} (x1 : Int32) (x2 : Int32) (s : SS) : EvF G 5 mX5_largest lyM pl h0 rvI (fX5_largest_0 x1 x2 s) 0 [(0, .ref (pl 0)), (1, .int x1), (2, .int x2)] [] s := by
  unfold fX5_largest_0
  refine ef_iload_n (q := 1) 1 dX5_largest_0 rfl rfl rfl ?_
  refine ef_iconst (v := (0 : Int32)) (q := 2) dX5_largest_1 (by decide) rfl ?_
  refine ef_bipush (v := (9 : Int32)) (q := 4) dX5_largest_2 (by decide) rfl ?_
  refine ef_invPI0 (As := [.int x1, .int (0 : Int32), .int (9 : Int32)]) (rest := []) (q := 7) (okX5_isWithin x1 (0 : Int32) (9 : Int32)) rfl calX5_isWithin ml5_62 (by decide) rfl rfl (Nat.le_of_ble_eq_true rfl) dX5_largest_4 rfl (fun z1 => ?_)
  refine ef_if (pt := 17) (pf := 10) (fun _ _ => ev_if_eq (tgt := 17) dX5_largest_7 (by decide)) (fun h2 => ?_) (fun h2 => ?_)
  · refine ef_sub (lv' := [(0, .ref (pl 0))]) [0] rfl ?_
    exact okX5_largest_17 s
  · refine ef_iload_n (q := 11) 2 dX5_largest_10 rfl rfl rfl ?_
    refine ef_invPI0 (As := [.int x2]) (rest := []) (q := 14) (okX5_isSpan x2) rfl calX5_isSpan ml5_215 (by decide) rfl rfl (Nat.le_of_ble_eq_true rfl) dX5_largest_11 rfl (fun z3 => ?_)
    refine ef_if (pt := 17) (pf := 24) (fun _ _ kt kf => ev_if_ne (tgt := 24) dX5_largest_14 (by decide) kf kt) (fun h4 => ?_) (fun h4 => ?_)
    · refine ef_sub (lv' := [(0, .ref (pl 0))]) [0] rfl ?_
      exact okX5_largest_17 s
    · refine ef_aload_n (q := 25) 0 dX5_largest_24 rfl rfl rfl ?_
      refine ef_getR (t := 1) (q := 28) rfl fl5_10 rfl rfl dX5_largest_25 rfl ?_
      refine ef_getR (t := 2) (q := 31) rfl fl5_130 rfl rfl dX5_largest_28 rfl ?_
      refine ef_getI (x := s.1 2 11) (q := 34) rfl fl5_137 rfl rfl dX5_largest_31 rfl ?_
      refine ef_iconst (v := (3 : Int32)) (q := 35) dX5_largest_34 (by decide) rfl ?_
      refine ef_if (pt := 45) (pf := 38) (fun _ _ => ev_icmp_lt (tgt := 45) dX5_largest_35 (by decide)) (fun h5 => ?_) (fun h5 => ?_)
      · refine ef_aload_n (q := 46) 0 dX5_largest_45 rfl rfl rfl ?_
        refine ef_getR (t := 28) (q := 49) rfl fl5_25 rfl rfl dX5_largest_46 rfl ?_
        refine ef_aload_n (q := 50) 0 dX5_largest_49 rfl rfl rfl ?_
        refine ef_getR (t := 1) (q := 53) rfl fl5_10 rfl rfl dX5_largest_50 rfl ?_
        refine ef_getR (t := 2) (q := 56) rfl fl5_130 rfl rfl dX5_largest_53 rfl ?_
        refine ef_invVU (k := 28) (nn := 10) (π := (fun k => if k < 5 then 28 + k else 2 + (k - 5))) (As := [.ref (pl 2)]) (rest := []) (q := 59) (okX0_takeFrom) (by decide +kernel) rfl calX0_takeFrom ml5_218 (by decide) rfl rfl rfl (Nat.le_of_ble_eq_true rfl) dX5_largest_56 rfl rfl (fun z6 => ?_)
        refine ef_aload_n (q := 60) 0 dX5_largest_59 rfl rfl rfl ?_
        refine ef_iload_n (q := 61) 2 dX5_largest_60 rfl rfl rfl ?_
        refine ef_invVI0 (k := 0) (As := [.int x2]) (rest := []) (q := 64) (okX5_lostIdling x2) rfl calX5_lostIdling ml5_221 (by decide) rfl rfl rfl (Nat.le_of_ble_eq_true rfl) dX5_largest_61 rfl (fun z7 => ?_)
        refine ef_istore_n (lv' := [(3, .int z7.1), (0, .ref (pl 0)), (1, .int x1), (2, .int x2)]) (q := 65) dX5_largest_64 rfl (by decide) rfl rfl ?_
        refine ef_iconst (v := (0 : Int32)) (q := 66) dX5_largest_65 (by decide) rfl ?_
        refine ef_istore (lv' := [(4, .int (0 : Int32)), (3, .int z7.1), (0, .ref (pl 0)), (1, .int x1), (2, .int x2)]) (q := 68) dX5_largest_66 (by decide) rfl rfl ?_
        refine ef_bipush (v := (64 : Int32)) (q := 70) dX5_largest_68 (by decide) rfl ?_
        refine ef_istore (lv' := [(5, .int (64 : Int32)), (4, .int (0 : Int32)), (3, .int z7.1), (0, .ref (pl 0)), (1, .int x1), (2, .int x2)]) (q := 72) dX5_largest_70 (by decide) rfl rfl ?_
        refine ef_sub (lv' := [(0, .ref (pl 0)), (1, .int x1), (2, .int x2), (3, .int z7.1), (4, .int (0 : Int32)), (5, .int (64 : Int32))]) [3, 4, 5, 2, 1, 0] rfl ?_
        exact okX5_largest_72 FU x1 x2 z7.1 (0 : Int32) (64 : Int32) z7.2
      · refine ef_aload_n (q := 39) 0 dX5_largest_38 rfl rfl rfl ?_
        refine ef_bipush (v := (-6 : Int32)) (q := 41) dX5_largest_39 (by decide) rfl ?_
        refine ef_invVI0 (k := 0) (As := [.int (-6 : Int32)]) (rest := []) (q := 44) (okX5_refuse (-6 : Int32)) rfl calX5_refuse ml5_66 (by decide) rfl rfl rfl (Nat.le_of_ble_eq_true rfl) dX5_largest_41 rfl (fun z8 => ?_)
        exact ef_iret rfl dX5_largest_44
theorem okX5_largest (x1 : Int32) (x2 : Int32) : MtF 5 mX5_largest lyM rvI (fun _ pl => [.ref (pl 0), .int x1, .int x2]) (fX5_largest x1 x2) := by
  refine MtF.of (by decide +kernel) rfl (fun _ pl => Nat.le_of_ble_eq_true rfl) (fun G pl h0 s => ?_)
  refine ef_sub (lv := [(0, .ref (pl 0)), (1, .int x1), (2, .int x2)]) (lv' := [(0, .ref (pl 0)), (1, .int x1), (2, .int x2)]) [0, 1, 2] rfl ?_
  exact okX5_largest_0  x1 x2 s
-- X5_order
theorem dX5_order_0 : decode cX5_order 0 = .ok (.iload_n 1, 1) := by decide +kernel
theorem dX5_order_1 : decode cX5_order 1 = .ok (.invokestatic 215, 3) := by decide +kernel
theorem dX5_order_4 : decode cX5_order 4 = .ok (.ifCond .eq 8, 3) := by decide +kernel
theorem dX5_order_7 : decode cX5_order 7 = .ok (.iload_n 2, 1) := by decide +kernel
theorem dX5_order_8 : decode cX5_order 8 = .ok (.iconst (-1), 1) := by decide +kernel
theorem dX5_order_9 : decode cX5_order 9 = .ok (.if_icmp .ge 10, 3) := by decide +kernel
theorem dX5_order_12 : decode cX5_order 12 = .ok (.aload_n 0, 1) := by decide +kernel
theorem dX5_order_13 : decode cX5_order 13 = .ok (.bipush (-2), 2) := by decide +kernel
theorem dX5_order_15 : decode cX5_order 15 = .ok (.invokevirtual 66, 3) := by decide +kernel
theorem dX5_order_18 : decode cX5_order 18 = .ok (.ireturn, 1) := by decide +kernel
theorem dX5_order_19 : decode cX5_order 19 = .ok (.iload_n 2, 1) := by decide +kernel
theorem dX5_order_20 : decode cX5_order 20 = .ok (.aload_n 0, 1) := by decide +kernel
theorem dX5_order_21 : decode cX5_order 21 = .ok (.getfield 10, 3) := by decide +kernel
theorem dX5_order_24 : decode cX5_order 24 = .ok (.getfield 130, 3) := by decide +kernel
theorem dX5_order_27 : decode cX5_order 27 = .ok (.getfield 137, 3) := by decide +kernel
theorem dX5_order_30 : decode cX5_order 30 = .ok (.if_icmp .lt 10, 3) := by decide +kernel
theorem dX5_order_33 : decode cX5_order 33 = .ok (.aload_n 0, 1) := by decide +kernel
theorem dX5_order_34 : decode cX5_order 34 = .ok (.bipush (-5), 2) := by decide +kernel
theorem dX5_order_36 : decode cX5_order 36 = .ok (.invokevirtual 66, 3) := by decide +kernel
theorem dX5_order_39 : decode cX5_order 39 = .ok (.ireturn, 1) := by decide +kernel
theorem dX5_order_40 : decode cX5_order 40 = .ok (.iconst 0, 1) := by decide +kernel
theorem dX5_order_41 : decode cX5_order 41 = .ok (.istore_n 3, 1) := by decide +kernel
theorem dX5_order_42 : decode cX5_order 42 = .ok (.iconst 0, 1) := by decide +kernel
theorem dX5_order_43 : decode cX5_order 43 = .ok (.istore 4, 2) := by decide +kernel
theorem dX5_order_45 : decode cX5_order 45 = .ok (.iconst 0, 1) := by decide +kernel
theorem dX5_order_46 : decode cX5_order 46 = .ok (.istore 5, 2) := by decide +kernel
theorem dX5_order_48 : decode cX5_order 48 = .ok (.iload 5, 2) := by decide +kernel
theorem dX5_order_50 : decode cX5_order 50 = .ok (.bipush 6, 2) := by decide +kernel
theorem dX5_order_52 : decode cX5_order 52 = .ok (.if_icmp .ge 69, 3) := by decide +kernel
theorem dX5_order_55 : decode cX5_order 55 = .ok (.aload_n 0, 1) := by decide +kernel
theorem dX5_order_56 : decode cX5_order 56 = .ok (.getfield 10, 3) := by decide +kernel
theorem dX5_order_59 : decode cX5_order 59 = .ok (.getfield 130, 3) := by decide +kernel
theorem dX5_order_62 : decode cX5_order 62 = .ok (.iload 5, 2) := by decide +kernel
theorem dX5_order_64 : decode cX5_order 64 = .ok (.invokevirtual 256, 3) := by decide +kernel
theorem dX5_order_67 : decode cX5_order 67 = .ok (.ifCond .ne 6, 3) := by decide +kernel
theorem dX5_order_70 : decode cX5_order 70 = .ok (.goto 45, 3) := by decide +kernel
theorem dX5_order_73 : decode cX5_order 73 = .ok (.aload_n 0, 1) := by decide +kernel
theorem dX5_order_74 : decode cX5_order 74 = .ok (.getfield 25, 3) := by decide +kernel
theorem dX5_order_77 : decode cX5_order 77 = .ok (.aload_n 0, 1) := by decide +kernel
theorem dX5_order_78 : decode cX5_order 78 = .ok (.getfield 10, 3) := by decide +kernel
theorem dX5_order_81 : decode cX5_order 81 = .ok (.getfield 130, 3) := by decide +kernel
theorem dX5_order_84 : decode cX5_order 84 = .ok (.iload 5, 2) := by decide +kernel
theorem dX5_order_86 : decode cX5_order 86 = .ok (.invokevirtual 259, 3) := by decide +kernel
theorem dX5_order_89 : decode cX5_order 89 = .ok (.aload_n 0, 1) := by decide +kernel
theorem dX5_order_90 : decode cX5_order 90 = .ok (.iload_n 1, 1) := by decide +kernel
theorem dX5_order_91 : decode cX5_order 91 = .ok (.invokevirtual 221, 3) := by decide +kernel
theorem dX5_order_94 : decode cX5_order 94 = .ok (.istore 6, 2) := by decide +kernel
theorem dX5_order_96 : decode cX5_order 96 = .ok (.iload 5, 2) := by decide +kernel
theorem dX5_order_98 : decode cX5_order 98 = .ok (.ifCond .eq 10, 3) := by decide +kernel
theorem dX5_order_101 : decode cX5_order 101 = .ok (.iload 6, 2) := by decide +kernel
theorem dX5_order_103 : decode cX5_order 103 = .ok (.iload 4, 2) := by decide +kernel
theorem dX5_order_105 : decode cX5_order 105 = .ok (.if_icmp .ge 10, 3) := by decide +kernel
theorem dX5_order_108 : decode cX5_order 108 = .ok (.iload 5, 2) := by decide +kernel
theorem dX5_order_110 : decode cX5_order 110 = .ok (.istore_n 3, 1) := by decide +kernel
theorem dX5_order_111 : decode cX5_order 111 = .ok (.iload 6, 2) := by decide +kernel
theorem dX5_order_113 : decode cX5_order 113 = .ok (.istore 4, 2) := by decide +kernel
theorem dX5_order_115 : decode cX5_order 115 = .ok (.iinc 5 1, 3) := by decide +kernel
theorem dX5_order_118 : decode cX5_order 118 = .ok (.goto (-70), 3) := by decide +kernel
theorem dX5_order_121 : decode cX5_order 121 = .ok (.iload_n 2, 1) := by decide +kernel
theorem dX5_order_122 : decode cX5_order 122 = .ok (.iconst (-1), 1) := by decide +kernel
theorem dX5_order_123 : decode cX5_order 123 = .ok (.if_icmp .ne 8, 3) := by decide +kernel
theorem dX5_order_126 : decode cX5_order 126 = .ok (.iload 4, 2) := by decide +kernel
theorem dX5_order_128 : decode cX5_order 128 = .ok (.goto 8, 3) := by decide +kernel
theorem dX5_order_131 : decode cX5_order 131 = .ok (.iload_n 3, 1) := by decide +kernel
theorem dX5_order_132 : decode cX5_order 132 = .ok (.iload_n 2, 1) := by decide +kernel
theorem dX5_order_133 : decode cX5_order 133 = .ok (.invokestatic 262, 3) := by decide +kernel
theorem dX5_order_136 : decode cX5_order 136 = .ok (.ireturn, 1) := by decide +kernel
def fX5_order_12 (s : SS) : Option (Int32 × SS) := ((fX5_refuse (-2 : Int32) s).bind fun z1 => some (z1.1, z1.2))
def fX5_order_108 (rec_48 : Int32 → Int32 → Int32 → Int32 → Int32 → SS → Option (Int32 × SS)) (x1 : Int32) (x2 : Int32) (x5 : Int32) (x6 : Int32) (s : SS) : Option (Int32 × SS) := rec_48 x1 x2 x5 x6 (x5 + (1 : Int32)) s
def fX5_order_48 : Nat → Int32 → Int32 → Int32 → Int32 → Int32 → SS → Option (Int32 × SS)
  | 0, _, _, _, _, _, _ => none
  | n + 1, x1, x2, x3, x4, x5, s => if (6 : Int32) ≤ x5 then (if x2 = (-1 : Int32) then (some (x4, s)) else (((fX0_scoopInOrder x3 x2 s).bind fun z3 => some (z3.1, s)))) else (((fX0_hasOrder x5 (selS (fun k => 2 + k) s)).bind fun z4 => if z4.1 = 0 then (fX5_order_48 n x1 x2 x3 x4 (x5 + (1 : Int32)) (mrgS (fun k => 2 + k) 5 s z4.2)) else (((fX0_takeInOrder x5 (selS (fun k => if k < 5 then 28 + k else 2 + (k - 5)) (mrgS (fun k => 2 + k) 5 s z4.2))).bind fun z6 => ((fX5_lostIdling x1 (mrgS (fun k => if k < 5 then 28 + k else 2 + (k - 5)) 10 (mrgS (fun k => 2 + k) 5 s z4.2) z6.2)).bind fun z7 => if x5 = 0 then (fX5_order_108 (fX5_order_48 n) x1 x2 x5 z7.1 z7.2) else (if x4 ≤ z7.1 then (fX5_order_48 n x1 x2 x3 x4 (x5 + (1 : Int32)) z7.2) else (fX5_order_108 (fX5_order_48 n) x1 x2 x5 z7.1 z7.2)))))))
def fX5_order_0 (x1 : Int32) (x2 : Int32) (s : SS) : Option (Int32 × SS) := ((fX5_isSpan x1 s).bind fun z1 => if z1.1 = 0 then (fX5_order_12 s) else (if (-1 : Int32) ≤ x2 then (if x2 < (s.1 2 11) then (fX5_order_48 FU x1 x2 (0 : Int32) (0 : Int32) (0 : Int32) s) else (((fX5_refuse (-5 : Int32) s).bind fun z5 => some (z5.1, z5.2)))) else (fX5_order_12 s)))
def fX5_order (x1 : Int32) (x2 : Int32) (s : SS) : Option (Int32 × SS) := fX5_order_0 x1 x2 s
set_option maxRecDepth 100000 in
set_option maxHeartbeats 4000000 in
theorem okX5_order_12 {G : GG} {pl : Nat → Nat} {h0 : PH} (s : SS) : EvF G 4 mX5_order lyM pl h0 rvI (fX5_order_12 s) 12 [(0, .ref (pl 0))] [] s := by
  unfold fX5_order_12
  refine ef_aload_n (q := 13) 0 dX5_order_12 rfl rfl rfl ?_
  refine ef_bipush (v := (-2 : Int32)) (q := 15) dX5_order_13 (by decide) rfl ?_
  refine ef_invVI0 (k := 0) (As := [.int (-2 : Int32)]) (rest := []) (q := 18) (okX5_refuse (-2 : Int32)) rfl calX5_refuse ml5_66 (by decide) rfl rfl rfl (Nat.le_of_ble_eq_true rfl) dX5_order_15 rfl (fun z1 => ?_)
  exact ef_iret rfl dX5_order_18
set_option maxRecDepth 100000 in
set_option maxHeartbeats 4000000 in
theorem okX5_order_108 {G : GG} {pl : Nat → Nat} {h0 : PH} (rec_48 : Int32 → Int32 → Int32 → Int32 → Int32 → SS → Option (Int32 × SS)) (hrec_48 : ∀ (x1 : Int32) (x2 : Int32) (x3 : Int32) (x4 : Int32) (x5 : Int32) (s : SS), EvF G 4 mX5_order lyM pl h0 rvI (rec_48 x1 x2 x3 x4 x5 s) 48 [(0, .ref (pl 0)), (1, .int x1), (2, .int x2), (3, .int x3), (4, .int x4), (5, .int x5)] [] s) (x1 : Int32) (x2 : Int32) (x5 : Int32) (x6 : Int32) (s : SS) : EvF G 4 mX5_order lyM pl h0 rvI (fX5_order_108 rec_48 x1 x2 x5 x6 s) 108 [(0, .ref (pl 0)), (1, .int x1), (2, .int x2), (5, .int x5), (6, .int x6)] [] s := by
  unfold fX5_order_108
  refine ef_iload (q := 110) 3 dX5_order_108 rfl rfl ?_
  refine ef_istore_n (lv' := [(3, .int x5), (0, .ref (pl 0)), (1, .int x1), (2, .int x2), (5, .int x5), (6, .int x6)]) (q := 111) dX5_order_110 rfl (by decide) rfl rfl ?_
  refine ef_iload (q := 113) 5 dX5_order_111 rfl rfl ?_
  refine ef_istore (lv' := [(4, .int x6), (3, .int x5), (0, .ref (pl 0)), (1, .int x1), (2, .int x2), (5, .int x5), (6, .int x6)]) (q := 115) dX5_order_113 (by decide) rfl rfl ?_
  refine ef_iinc (v := x5 + (1 : Int32)) (lv' := [(5, .int (x5 + (1 : Int32))), (4, .int x6), (3, .int x5), (0, .ref (pl 0)), (1, .int x1), (2, .int x2), (6, .int x6)]) (q := 118) 5 dX5_order_115 rfl rfl (by decide) rfl rfl ?_
  refine ef_goto (tgt := 48) dX5_order_118 (by decide) ?_
  refine ef_sub (lv' := [(0, .ref (pl 0)), (1, .int x1), (2, .int x2), (3, .int x5), (4, .int x6), (5, .int (x5 + (1 : Int32)))]) [3, 4, 5, 2, 1, 0] rfl ?_
  exact hrec_48 x1 x2 x5 x6 (x5 + (1 : Int32)) s
set_option maxRecDepth 100000 in
set_option maxHeartbeats 4000000 in
theorem okX5_order_48 {G : GG} {pl : Nat → Nat} {h0 : PH} : ∀ (n : Nat) (x1 : Int32) (x2 : Int32) (x3 : Int32) (x4 : Int32) (x5 : Int32) (s : SS), EvF G 4 mX5_order lyM pl h0 rvI (fX5_order_48 n x1 x2 x3 x4 x5 s) 48 [(0, .ref (pl 0)), (1, .int x1), (2, .int x2), (3, .int x3), (4, .int x4), (5, .int x5)] [] s := by
  intro n
  induction n with
  | zero => intro x1 x2 x3 x4 x5 s; rw [fX5_order_48]; exact ef_none
  | succ n ih =>
    intro x1 x2 x3 x4 x5 s
    rw [fX5_order_48]
    refine ef_iload (q := 50) 5 dX5_order_48 rfl rfl ?_
    refine ef_bipush (v := (6 : Int32)) (q := 52) dX5_order_50 (by decide) rfl ?_
    refine ef_if (pt := 121) (pf := 55) (fun _ _ => ev_icmp_ge (tgt := 121) dX5_order_52 (by decide)) (fun h1 => ?_) (fun h1 => ?_)
    · refine ef_iload_n (q := 122) 2 dX5_order_121 rfl rfl rfl ?_
      refine ef_iconst (v := (-1 : Int32)) (q := 123) dX5_order_122 (by decide) rfl ?_
      refine ef_if (pt := 126) (pf := 131) (fun _ _ kt kf => ev_icmp_ne (tgt := 131) dX5_order_123 (by decide) kf kt) (fun h2 => ?_) (fun h2 => ?_)
      · refine ef_iload (q := 128) 4 dX5_order_126 rfl rfl ?_
        refine ef_goto (tgt := 136) dX5_order_128 (by decide) ?_
        exact ef_iret rfl dX5_order_136
      · refine ef_iload_n (q := 132) 3 dX5_order_131 rfl rfl rfl ?_
        refine ef_iload_n (q := 133) 2 dX5_order_132 rfl rfl rfl ?_
        refine ef_invPI0 (As := [.int x3, .int x2]) (rest := []) (q := 136) (okX0_scoopInOrder x3 x2) rfl calX0_scoopInOrder ml5_262 (by decide) rfl rfl (Nat.le_of_ble_eq_true rfl) dX5_order_133 rfl (fun z3 => ?_)
        exact ef_iret rfl dX5_order_136
    · refine ef_aload_n (q := 56) 0 dX5_order_55 rfl rfl rfl ?_
      refine ef_getR (t := 1) (q := 59) rfl fl5_10 rfl rfl dX5_order_56 rfl ?_
      refine ef_getR (t := 2) (q := 62) rfl fl5_130 rfl rfl dX5_order_59 rfl ?_
      refine ef_iload (q := 64) 5 dX5_order_62 rfl rfl ?_
      refine ef_invVI (k := 2) (nn := 5) (π := (fun k => 2 + k)) (As := [.int x5]) (rest := []) (q := 67) (okX0_hasOrder x5) (by decide +kernel) rfl calX0_hasOrder ml5_256 (by decide) rfl rfl rfl (Nat.le_of_ble_eq_true rfl) dX5_order_64 rfl rfl (fun z4 => ?_)
      refine ef_if (pt := 70) (pf := 73) (fun _ _ kt kf => ev_if_ne (tgt := 73) dX5_order_67 (by decide) kf kt) (fun h5 => ?_) (fun h5 => ?_)
      · refine ef_goto (tgt := 115) dX5_order_70 (by decide) ?_
        refine ef_iinc (v := x5 + (1 : Int32)) (lv' := [(5, .int (x5 + (1 : Int32))), (0, .ref (pl 0)), (1, .int x1), (2, .int x2), (3, .int x3), (4, .int x4)]) (q := 118) 5 dX5_order_115 rfl rfl (by decide) rfl rfl ?_
        refine ef_goto (tgt := 48) dX5_order_118 (by decide) ?_
        refine ef_sub (lv' := [(0, .ref (pl 0)), (1, .int x1), (2, .int x2), (3, .int x3), (4, .int x4), (5, .int (x5 + (1 : Int32)))]) [1, 2, 3, 4, 5, 0] rfl ?_
        exact ih x1 x2 x3 x4 (x5 + (1 : Int32)) (mrgS (fun k => 2 + k) 5 s z4.2)
      · refine ef_aload_n (q := 74) 0 dX5_order_73 rfl rfl rfl ?_
        refine ef_getR (t := 28) (q := 77) rfl fl5_25 rfl rfl dX5_order_74 rfl ?_
        refine ef_aload_n (q := 78) 0 dX5_order_77 rfl rfl rfl ?_
        refine ef_getR (t := 1) (q := 81) rfl fl5_10 rfl rfl dX5_order_78 rfl ?_
        refine ef_getR (t := 2) (q := 84) rfl fl5_130 rfl rfl dX5_order_81 rfl ?_
        refine ef_iload (q := 86) 5 dX5_order_84 rfl rfl ?_
        refine ef_invVU (k := 28) (nn := 10) (π := (fun k => if k < 5 then 28 + k else 2 + (k - 5))) (As := [.ref (pl 2), .int x5]) (rest := []) (q := 89) (okX0_takeInOrder x5) (by decide +kernel) rfl calX0_takeInOrder ml5_259 (by decide) rfl rfl rfl (Nat.le_of_ble_eq_true rfl) dX5_order_86 rfl rfl (fun z6 => ?_)
        refine ef_aload_n (q := 90) 0 dX5_order_89 rfl rfl rfl ?_
        refine ef_iload_n (q := 91) 1 dX5_order_90 rfl rfl rfl ?_
        refine ef_invVI0 (k := 0) (As := [.int x1]) (rest := []) (q := 94) (okX5_lostIdling x1) rfl calX5_lostIdling ml5_221 (by decide) rfl rfl rfl (Nat.le_of_ble_eq_true rfl) dX5_order_91 rfl (fun z7 => ?_)
        refine ef_istore (lv' := [(6, .int z7.1), (0, .ref (pl 0)), (1, .int x1), (2, .int x2), (3, .int x3), (4, .int x4), (5, .int x5)]) (q := 96) dX5_order_94 (by decide) rfl rfl ?_
        refine ef_iload (q := 98) 6 dX5_order_96 rfl rfl ?_
        refine ef_if (pt := 108) (pf := 101) (fun _ _ => ev_if_eq (tgt := 108) dX5_order_98 (by decide)) (fun h8 => ?_) (fun h8 => ?_)
        · refine ef_sub (lv' := [(0, .ref (pl 0)), (1, .int x1), (2, .int x2), (5, .int x5), (6, .int z7.1)]) [1, 2, 3, 6, 0] rfl ?_
          exact okX5_order_108 (fX5_order_48 n) ih x1 x2 x5 z7.1 z7.2
        · refine ef_iload (q := 103) 0 dX5_order_101 rfl rfl ?_
          refine ef_iload (q := 105) 5 dX5_order_103 rfl rfl ?_
          refine ef_if (pt := 115) (pf := 108) (fun _ _ => ev_icmp_ge (tgt := 115) dX5_order_105 (by decide)) (fun h9 => ?_) (fun h9 => ?_)
          · refine ef_iinc (v := x5 + (1 : Int32)) (lv' := [(5, .int (x5 + (1 : Int32))), (6, .int z7.1), (0, .ref (pl 0)), (1, .int x1), (2, .int x2), (3, .int x3), (4, .int x4)]) (q := 118) 6 dX5_order_115 rfl rfl (by decide) rfl rfl ?_
            refine ef_goto (tgt := 48) dX5_order_118 (by decide) ?_
            refine ef_sub (lv' := [(0, .ref (pl 0)), (1, .int x1), (2, .int x2), (3, .int x3), (4, .int x4), (5, .int (x5 + (1 : Int32)))]) [2, 3, 4, 5, 6, 0] rfl ?_
            exact ih x1 x2 x3 x4 (x5 + (1 : Int32)) z7.2
          · refine ef_sub (lv' := [(0, .ref (pl 0)), (1, .int x1), (2, .int x2), (5, .int x5), (6, .int z7.1)]) [1, 2, 3, 6, 0] rfl ?_
            exact okX5_order_108 (fX5_order_48 n) ih x1 x2 x5 z7.1 z7.2
set_option maxRecDepth 100000 in
set_option maxHeartbeats 4000000 in
theorem okX5_order_0 {G : GG} {pl : Nat → Nat} {h0 : PH} (x1 : Int32) (x2 : Int32) (s : SS) : EvF G 4 mX5_order lyM pl h0 rvI (fX5_order_0 x1 x2 s) 0 [(0, .ref (pl 0)), (1, .int x1), (2, .int x2)] [] s := by
  unfold fX5_order_0
  refine ef_iload_n (q := 1) 1 dX5_order_0 rfl rfl rfl ?_
  refine ef_invPI0 (As := [.int x1]) (rest := []) (q := 4) (okX5_isSpan x1) rfl calX5_isSpan ml5_215 (by decide) rfl rfl (Nat.le_of_ble_eq_true rfl) dX5_order_1 rfl (fun z1 => ?_)
  refine ef_if (pt := 12) (pf := 7) (fun _ _ => ev_if_eq (tgt := 12) dX5_order_4 (by decide)) (fun h2 => ?_) (fun h2 => ?_)
  · refine ef_sub (lv' := [(0, .ref (pl 0))]) [0] rfl ?_
    exact okX5_order_12 s
  · refine ef_iload_n (q := 8) 2 dX5_order_7 rfl rfl rfl ?_
    refine ef_iconst (v := (-1 : Int32)) (q := 9) dX5_order_8 (by decide) rfl ?_
    refine ef_if (pt := 19) (pf := 12) (fun _ _ => ev_icmp_ge (tgt := 19) dX5_order_9 (by decide)) (fun h3 => ?_) (fun h3 => ?_)
    · refine ef_iload_n (q := 20) 2 dX5_order_19 rfl rfl rfl ?_
      refine ef_aload_n (q := 21) 0 dX5_order_20 rfl rfl rfl ?_
      refine ef_getR (t := 1) (q := 24) rfl fl5_10 rfl rfl dX5_order_21 rfl ?_
      refine ef_getR (t := 2) (q := 27) rfl fl5_130 rfl rfl dX5_order_24 rfl ?_
      refine ef_getI (x := s.1 2 11) (q := 30) rfl fl5_137 rfl rfl dX5_order_27 rfl ?_
      refine ef_if (pt := 40) (pf := 33) (fun _ _ => ev_icmp_lt (tgt := 40) dX5_order_30 (by decide)) (fun h4 => ?_) (fun h4 => ?_)
      · refine ef_iconst (v := (0 : Int32)) (q := 41) dX5_order_40 (by decide) rfl ?_
        refine ef_istore_n (lv' := [(3, .int (0 : Int32)), (0, .ref (pl 0)), (1, .int x1), (2, .int x2)]) (q := 42) dX5_order_41 rfl (by decide) rfl rfl ?_
        refine ef_iconst (v := (0 : Int32)) (q := 43) dX5_order_42 (by decide) rfl ?_
        refine ef_istore (lv' := [(4, .int (0 : Int32)), (3, .int (0 : Int32)), (0, .ref (pl 0)), (1, .int x1), (2, .int x2)]) (q := 45) dX5_order_43 (by decide) rfl rfl ?_
        refine ef_iconst (v := (0 : Int32)) (q := 46) dX5_order_45 (by decide) rfl ?_
        refine ef_istore (lv' := [(5, .int (0 : Int32)), (4, .int (0 : Int32)), (3, .int (0 : Int32)), (0, .ref (pl 0)), (1, .int x1), (2, .int x2)]) (q := 48) dX5_order_46 (by decide) rfl rfl ?_
        refine ef_sub (lv' := [(0, .ref (pl 0)), (1, .int x1), (2, .int x2), (3, .int (0 : Int32)), (4, .int (0 : Int32)), (5, .int (0 : Int32))]) [3, 4, 5, 2, 1, 0] rfl ?_
        exact okX5_order_48 FU x1 x2 (0 : Int32) (0 : Int32) (0 : Int32) s
      · refine ef_aload_n (q := 34) 0 dX5_order_33 rfl rfl rfl ?_
        refine ef_bipush (v := (-5 : Int32)) (q := 36) dX5_order_34 (by decide) rfl ?_
        refine ef_invVI0 (k := 0) (As := [.int (-5 : Int32)]) (rest := []) (q := 39) (okX5_refuse (-5 : Int32)) rfl calX5_refuse ml5_66 (by decide) rfl rfl rfl (Nat.le_of_ble_eq_true rfl) dX5_order_36 rfl (fun z5 => ?_)
        exact ef_iret rfl dX5_order_39
    · refine ef_sub (lv' := [(0, .ref (pl 0))]) [0] rfl ?_
      exact okX5_order_12 s
theorem okX5_order (x1 : Int32) (x2 : Int32) : MtF 4 mX5_order lyM rvI (fun _ pl => [.ref (pl 0), .int x1, .int x2]) (fX5_order x1 x2) := by
  refine MtF.of (by decide +kernel) rfl (fun _ pl => Nat.le_of_ble_eq_true rfl) (fun G pl h0 s => ?_)
  refine ef_sub (lv := [(0, .ref (pl 0)), (1, .int x1), (2, .int x2)]) (lv' := [(0, .ref (pl 0)), (1, .int x1), (2, .int x2)]) [0, 1, 2] rfl ?_
  exact okX5_order_0  x1 x2 s
-- X5_shade
theorem dX5_shade_0 : decode cX5_shade 0 = .ok (.iload_n 1, 1) := by decide +kernel
theorem dX5_shade_1 : decode cX5_shade 1 = .ok (.invokestatic 215, 3) := by decide +kernel
theorem dX5_shade_4 : decode cX5_shade 4 = .ok (.ifCond .ne 10, 3) := by decide +kernel
theorem dX5_shade_7 : decode cX5_shade 7 = .ok (.aload_n 0, 1) := by decide +kernel
theorem dX5_shade_8 : decode cX5_shade 8 = .ok (.bipush (-2), 2) := by decide +kernel
theorem dX5_shade_10 : decode cX5_shade 10 = .ok (.invokevirtual 66, 3) := by decide +kernel
theorem dX5_shade_13 : decode cX5_shade 13 = .ok (.ireturn, 1) := by decide +kernel
theorem dX5_shade_14 : decode cX5_shade 14 = .ok (.iconst 0, 1) := by decide +kernel
theorem dX5_shade_15 : decode cX5_shade 15 = .ok (.istore_n 2, 1) := by decide +kernel
theorem dX5_shade_16 : decode cX5_shade 16 = .ok (.iconst 0, 1) := by decide +kernel
theorem dX5_shade_17 : decode cX5_shade 17 = .ok (.istore_n 3, 1) := by decide +kernel
theorem dX5_shade_18 : decode cX5_shade 18 = .ok (.iconst 0, 1) := by decide +kernel
theorem dX5_shade_19 : decode cX5_shade 19 = .ok (.istore 4, 2) := by decide +kernel
theorem dX5_shade_21 : decode cX5_shade 21 = .ok (.iload 4, 2) := by decide +kernel
theorem dX5_shade_23 : decode cX5_shade 23 = .ok (.aload_n 0, 1) := by decide +kernel
theorem dX5_shade_24 : decode cX5_shade 24 = .ok (.getfield 10, 3) := by decide +kernel
theorem dX5_shade_27 : decode cX5_shade 27 = .ok (.getfield 130, 3) := by decide +kernel
theorem dX5_shade_30 : decode cX5_shade 30 = .ok (.getfield 140, 3) := by decide +kernel
theorem dX5_shade_33 : decode cX5_shade 33 = .ok (.if_icmp .ge 56, 3) := by decide +kernel
theorem dX5_shade_36 : decode cX5_shade 36 = .ok (.aload_n 0, 1) := by decide +kernel
theorem dX5_shade_37 : decode cX5_shade 37 = .ok (.getfield 25, 3) := by decide +kernel
theorem dX5_shade_40 : decode cX5_shade 40 = .ok (.aload_n 0, 1) := by decide +kernel
theorem dX5_shade_41 : decode cX5_shade 41 = .ok (.getfield 10, 3) := by decide +kernel
theorem dX5_shade_44 : decode cX5_shade 44 = .ok (.getfield 130, 3) := by decide +kernel
theorem dX5_shade_47 : decode cX5_shade 47 = .ok (.invokevirtual 218, 3) := by decide +kernel
theorem dX5_shade_50 : decode cX5_shade 50 = .ok (.aload_n 0, 1) := by decide +kernel
theorem dX5_shade_51 : decode cX5_shade 51 = .ok (.getfield 25, 3) := by decide +kernel
theorem dX5_shade_54 : decode cX5_shade 54 = .ok (.iload 4, 2) := by decide +kernel
theorem dX5_shade_56 : decode cX5_shade 56 = .ok (.putfield 170, 3) := by decide +kernel
theorem dX5_shade_59 : decode cX5_shade 59 = .ok (.aload_n 0, 1) := by decide +kernel
theorem dX5_shade_60 : decode cX5_shade 60 = .ok (.iload_n 1, 1) := by decide +kernel
theorem dX5_shade_61 : decode cX5_shade 61 = .ok (.invokevirtual 221, 3) := by decide +kernel
theorem dX5_shade_64 : decode cX5_shade 64 = .ok (.istore 5, 2) := by decide +kernel
theorem dX5_shade_66 : decode cX5_shade 66 = .ok (.iload 4, 2) := by decide +kernel
theorem dX5_shade_68 : decode cX5_shade 68 = .ok (.ifCond .eq 9, 3) := by decide +kernel
theorem dX5_shade_71 : decode cX5_shade 71 = .ok (.iload 5, 2) := by decide +kernel
theorem dX5_shade_73 : decode cX5_shade 73 = .ok (.iload_n 3, 1) := by decide +kernel
theorem dX5_shade_74 : decode cX5_shade 74 = .ok (.if_icmp .ge 9, 3) := by decide +kernel
theorem dX5_shade_77 : decode cX5_shade 77 = .ok (.iload 4, 2) := by decide +kernel
theorem dX5_shade_79 : decode cX5_shade 79 = .ok (.istore_n 2, 1) := by decide +kernel
theorem dX5_shade_80 : decode cX5_shade 80 = .ok (.iload 5, 2) := by decide +kernel
theorem dX5_shade_82 : decode cX5_shade 82 = .ok (.istore_n 3, 1) := by decide +kernel
theorem dX5_shade_83 : decode cX5_shade 83 = .ok (.iinc 4 1, 3) := by decide +kernel
theorem dX5_shade_86 : decode cX5_shade 86 = .ok (.goto (-65), 3) := by decide +kernel
theorem dX5_shade_89 : decode cX5_shade 89 = .ok (.iload_n 2, 1) := by decide +kernel
theorem dX5_shade_90 : decode cX5_shade 90 = .ok (.ireturn, 1) := by decide +kernel
def fX5_shade_77 (rec_21 : Int32 → Int32 → Int32 → Int32 → SS → Option (Int32 × SS)) (x1 : Int32) (x4 : Int32) (x5 : Int32) (s : SS) : Option (Int32 × SS) := rec_21 x1 x4 x5 (x4 + (1 : Int32)) s
def fX5_shade_21 : Nat → Int32 → Int32 → Int32 → Int32 → SS → Option (Int32 × SS)
  | 0, _, _, _, _, _ => none
  | n + 1, x1, x2, x3, x4, s => if (s.1 2 0) ≤ x4 then (some (x2, s)) else (((fX0_takeFrom (selS (fun k => if k < 5 then 28 + k else 2 + (k - 5)) s)).bind fun z2 => ((fX5_lostIdling x1 (wrI (mrgS (fun k => if k < 5 then 28 + k else 2 + (k - 5)) 10 s z2.2) 28 1 x4)).bind fun z3 => if x4 = 0 then (fX5_shade_77 (fX5_shade_21 n) x1 x4 z3.1 z3.2) else (if x3 ≤ z3.1 then (fX5_shade_21 n x1 x2 x3 (x4 + (1 : Int32)) z3.2) else (fX5_shade_77 (fX5_shade_21 n) x1 x4 z3.1 z3.2)))))
def fX5_shade_0 (x1 : Int32) (s : SS) : Option (Int32 × SS) := ((fX5_isSpan x1 s).bind fun z1 => if z1.1 = 0 then (((fX5_refuse (-2 : Int32) s).bind fun z3 => some (z3.1, z3.2))) else (fX5_shade_21 FU x1 (0 : Int32) (0 : Int32) (0 : Int32) s))
def fX5_shade (x1 : Int32) (s : SS) : Option (Int32 × SS) := fX5_shade_0 x1 s
set_option maxRecDepth 100000 in
set_option maxHeartbeats 4000000 in
theorem okX5_shade_77 {G : GG} {pl : Nat → Nat} {h0 : PH} (rec_21 : Int32 → Int32 → Int32 → Int32 → SS → Option (Int32 × SS)) (hrec_21 : ∀ (x1 : Int32) (x2 : Int32) (x3 : Int32) (x4 : Int32) (s : SS), EvF G 4 mX5_shade lyM pl h0 rvI (rec_21 x1 x2 x3 x4 s) 21 [(0, .ref (pl 0)), (1, .int x1), (2, .int x2), (3, .int x3), (4, .int x4)] [] s) (x1 : Int32) (x4 : Int32) (x5 : Int32) (s : SS) : EvF G 4 mX5_shade lyM pl h0 rvI (fX5_shade_77 rec_21 x1 x4 x5 s) 77 [(0, .ref (pl 0)), (1, .int x1), (4, .int x4), (5, .int x5)] [] s := by
  unfold fX5_shade_77
  refine ef_iload (q := 79) 2 dX5_shade_77 rfl rfl ?_
  refine ef_istore_n (lv' := [(2, .int x4), (0, .ref (pl 0)), (1, .int x1), (4, .int x4), (5, .int x5)]) (q := 80) dX5_shade_79 rfl (by decide) rfl rfl ?_
  refine ef_iload (q := 82) 4 dX5_shade_80 rfl rfl ?_
  refine ef_istore_n (lv' := [(3, .int x5), (2, .int x4), (0, .ref (pl 0)), (1, .int x1), (4, .int x4), (5, .int x5)]) (q := 83) dX5_shade_82 rfl (by decide) rfl rfl ?_
  refine ef_iinc (v := x4 + (1 : Int32)) (lv' := [(4, .int (x4 + (1 : Int32))), (3, .int x5), (2, .int x4), (0, .ref (pl 0)), (1, .int x1), (5, .int x5)]) (q := 86) 4 dX5_shade_83 rfl rfl (by decide) rfl rfl ?_
  refine ef_goto (tgt := 21) dX5_shade_86 (by decide) ?_
  refine ef_sub (lv' := [(0, .ref (pl 0)), (1, .int x1), (2, .int x4), (3, .int x5), (4, .int (x4 + (1 : Int32)))]) [3, 4, 2, 1, 0] rfl ?_
  exact hrec_21 x1 x4 x5 (x4 + (1 : Int32)) s
set_option maxRecDepth 100000 in
set_option maxHeartbeats 4000000 in
theorem okX5_shade_21 {G : GG} {pl : Nat → Nat} {h0 : PH} : ∀ (n : Nat) (x1 : Int32) (x2 : Int32) (x3 : Int32) (x4 : Int32) (s : SS), EvF G 4 mX5_shade lyM pl h0 rvI (fX5_shade_21 n x1 x2 x3 x4 s) 21 [(0, .ref (pl 0)), (1, .int x1), (2, .int x2), (3, .int x3), (4, .int x4)] [] s := by
  intro n
  induction n with
  | zero => intro x1 x2 x3 x4 s; rw [fX5_shade_21]; exact ef_none
  | succ n ih =>
    intro x1 x2 x3 x4 s
    rw [fX5_shade_21]
    refine ef_iload (q := 23) 4 dX5_shade_21 rfl rfl ?_
    refine ef_aload_n (q := 24) 0 dX5_shade_23 rfl rfl rfl ?_
    refine ef_getR (t := 1) (q := 27) rfl fl5_10 rfl rfl dX5_shade_24 rfl ?_
    refine ef_getR (t := 2) (q := 30) rfl fl5_130 rfl rfl dX5_shade_27 rfl ?_
    refine ef_getI (x := s.1 2 0) (q := 33) rfl fl5_140 rfl rfl dX5_shade_30 rfl ?_
    refine ef_if (pt := 89) (pf := 36) (fun _ _ => ev_icmp_ge (tgt := 89) dX5_shade_33 (by decide)) (fun h1 => ?_) (fun h1 => ?_)
    · refine ef_iload_n (q := 90) 2 dX5_shade_89 rfl rfl rfl ?_
      exact ef_iret rfl dX5_shade_90
    · refine ef_aload_n (q := 37) 0 dX5_shade_36 rfl rfl rfl ?_
      refine ef_getR (t := 28) (q := 40) rfl fl5_25 rfl rfl dX5_shade_37 rfl ?_
      refine ef_aload_n (q := 41) 0 dX5_shade_40 rfl rfl rfl ?_
      refine ef_getR (t := 1) (q := 44) rfl fl5_10 rfl rfl dX5_shade_41 rfl ?_
      refine ef_getR (t := 2) (q := 47) rfl fl5_130 rfl rfl dX5_shade_44 rfl ?_
      refine ef_invVU (k := 28) (nn := 10) (π := (fun k => if k < 5 then 28 + k else 2 + (k - 5))) (As := [.ref (pl 2)]) (rest := []) (q := 50) (okX0_takeFrom) (by decide +kernel) rfl calX0_takeFrom ml5_218 (by decide) rfl rfl rfl (Nat.le_of_ble_eq_true rfl) dX5_shade_47 rfl rfl (fun z2 => ?_)
      refine ef_aload_n (q := 51) 0 dX5_shade_50 rfl rfl rfl ?_
      refine ef_getR (t := 28) (q := 54) rfl fl5_25 rfl rfl dX5_shade_51 rfl ?_
      refine ef_iload (q := 56) 4 dX5_shade_54 rfl rfl ?_
      refine ef_putI (q := 59) rfl fl5_170 rfl rfl dX5_shade_56 rfl ?_
      refine ef_aload_n (q := 60) 0 dX5_shade_59 rfl rfl rfl ?_
      refine ef_iload_n (q := 61) 1 dX5_shade_60 rfl rfl rfl ?_
      refine ef_invVI0 (k := 0) (As := [.int x1]) (rest := []) (q := 64) (okX5_lostIdling x1) rfl calX5_lostIdling ml5_221 (by decide) rfl rfl rfl (Nat.le_of_ble_eq_true rfl) dX5_shade_61 rfl (fun z3 => ?_)
      refine ef_istore (lv' := [(5, .int z3.1), (0, .ref (pl 0)), (1, .int x1), (2, .int x2), (3, .int x3), (4, .int x4)]) (q := 66) dX5_shade_64 (by decide) rfl rfl ?_
      refine ef_iload (q := 68) 5 dX5_shade_66 rfl rfl ?_
      refine ef_if (pt := 77) (pf := 71) (fun _ _ => ev_if_eq (tgt := 77) dX5_shade_68 (by decide)) (fun h4 => ?_) (fun h4 => ?_)
      · refine ef_sub (lv' := [(0, .ref (pl 0)), (1, .int x1), (4, .int x4), (5, .int z3.1)]) [1, 2, 5, 0] rfl ?_
        exact okX5_shade_77 (fX5_shade_21 n) ih x1 x4 z3.1 z3.2
      · refine ef_iload (q := 73) 0 dX5_shade_71 rfl rfl ?_
        refine ef_iload_n (q := 74) 4 dX5_shade_73 rfl rfl rfl ?_
        refine ef_if (pt := 83) (pf := 77) (fun _ _ => ev_icmp_ge (tgt := 83) dX5_shade_74 (by decide)) (fun h5 => ?_) (fun h5 => ?_)
        · refine ef_iinc (v := x4 + (1 : Int32)) (lv' := [(4, .int (x4 + (1 : Int32))), (5, .int z3.1), (0, .ref (pl 0)), (1, .int x1), (2, .int x2), (3, .int x3)]) (q := 86) 5 dX5_shade_83 rfl rfl (by decide) rfl rfl ?_
          refine ef_goto (tgt := 21) dX5_shade_86 (by decide) ?_
          refine ef_sub (lv' := [(0, .ref (pl 0)), (1, .int x1), (2, .int x2), (3, .int x3), (4, .int (x4 + (1 : Int32)))]) [2, 3, 4, 5, 0] rfl ?_
          exact ih x1 x2 x3 (x4 + (1 : Int32)) z3.2
        · refine ef_sub (lv' := [(0, .ref (pl 0)), (1, .int x1), (4, .int x4), (5, .int z3.1)]) [1, 2, 5, 0] rfl ?_
          exact okX5_shade_77 (fX5_shade_21 n) ih x1 x4 z3.1 z3.2
set_option maxRecDepth 100000 in
set_option maxHeartbeats 4000000 in
theorem okX5_shade_0 {G : GG} {pl : Nat → Nat} {h0 : PH} (x1 : Int32) (s : SS) : EvF G 4 mX5_shade lyM pl h0 rvI (fX5_shade_0 x1 s) 0 [(0, .ref (pl 0)), (1, .int x1)] [] s := by
  unfold fX5_shade_0
  refine ef_iload_n (q := 1) 1 dX5_shade_0 rfl rfl rfl ?_
  refine ef_invPI0 (As := [.int x1]) (rest := []) (q := 4) (okX5_isSpan x1) rfl calX5_isSpan ml5_215 (by decide) rfl rfl (Nat.le_of_ble_eq_true rfl) dX5_shade_1 rfl (fun z1 => ?_)
  refine ef_if (pt := 7) (pf := 14) (fun _ _ kt kf => ev_if_ne (tgt := 14) dX5_shade_4 (by decide) kf kt) (fun h2 => ?_) (fun h2 => ?_)
  · refine ef_aload_n (q := 8) 0 dX5_shade_7 rfl rfl rfl ?_
    refine ef_bipush (v := (-2 : Int32)) (q := 10) dX5_shade_8 (by decide) rfl ?_
    refine ef_invVI0 (k := 0) (As := [.int (-2 : Int32)]) (rest := []) (q := 13) (okX5_refuse (-2 : Int32)) rfl calX5_refuse ml5_66 (by decide) rfl rfl rfl (Nat.le_of_ble_eq_true rfl) dX5_shade_10 rfl (fun z3 => ?_)
    exact ef_iret rfl dX5_shade_13
  · refine ef_iconst (v := (0 : Int32)) (q := 15) dX5_shade_14 (by decide) rfl ?_
    refine ef_istore_n (lv' := [(2, .int (0 : Int32)), (0, .ref (pl 0)), (1, .int x1)]) (q := 16) dX5_shade_15 rfl (by decide) rfl rfl ?_
    refine ef_iconst (v := (0 : Int32)) (q := 17) dX5_shade_16 (by decide) rfl ?_
    refine ef_istore_n (lv' := [(3, .int (0 : Int32)), (2, .int (0 : Int32)), (0, .ref (pl 0)), (1, .int x1)]) (q := 18) dX5_shade_17 rfl (by decide) rfl rfl ?_
    refine ef_iconst (v := (0 : Int32)) (q := 19) dX5_shade_18 (by decide) rfl ?_
    refine ef_istore (lv' := [(4, .int (0 : Int32)), (3, .int (0 : Int32)), (2, .int (0 : Int32)), (0, .ref (pl 0)), (1, .int x1)]) (q := 21) dX5_shade_19 (by decide) rfl rfl ?_
    refine ef_sub (lv' := [(0, .ref (pl 0)), (1, .int x1), (2, .int (0 : Int32)), (3, .int (0 : Int32)), (4, .int (0 : Int32))]) [3, 4, 2, 1, 0] rfl ?_
    exact okX5_shade_21 FU x1 (0 : Int32) (0 : Int32) (0 : Int32) s
theorem okX5_shade (x1 : Int32) : MtF 4 mX5_shade lyM rvI (fun _ pl => [.ref (pl 0), .int x1]) (fX5_shade x1) := by
  refine MtF.of (by decide +kernel) rfl (fun _ pl => Nat.le_of_ble_eq_true rfl) (fun G pl h0 s => ?_)
  refine ef_sub (lv := [(0, .ref (pl 0)), (1, .int x1)]) (lv' := [(0, .ref (pl 0)), (1, .int x1)]) [0, 1] rfl ?_
  exact okX5_shade_0  x1 s
-- X5_gives
theorem dX5_gives_0 : decode cX5_gives 0 = .ok (.aload_n 0, 1) := by decide +kernel
theorem dX5_gives_1 : decode cX5_gives 1 = .ok (.getfield 25, 3) := by decide +kernel
theorem dX5_gives_4 : decode cX5_gives 4 = .ok (.aload_n 0, 1) := by decide +kernel
theorem dX5_gives_5 : decode cX5_gives 5 = .ok (.getfield 10, 3) := by decide +kernel
theorem dX5_gives_8 : decode cX5_gives 8 = .ok (.getfield 130, 3) := by decide +kernel
theorem dX5_gives_11 : decode cX5_gives 11 = .ok (.invokevirtual 218, 3) := by decide +kernel
theorem dX5_gives_14 : decode cX5_gives 14 = .ok (.iconst 0, 1) := by decide +kernel
theorem dX5_gives_15 : decode cX5_gives 15 = .ok (.istore_n 1, 1) := by decide +kernel
theorem dX5_gives_16 : decode cX5_gives 16 = .ok (.iload_n 1, 1) := by decide +kernel
theorem dX5_gives_17 : decode cX5_gives 17 = .ok (.sipush 200, 3) := by decide +kernel
theorem dX5_gives_20 : decode cX5_gives 20 = .ok (.if_icmp .ge 36, 3) := by decide +kernel
theorem dX5_gives_23 : decode cX5_gives 23 = .ok (.aload_n 0, 1) := by decide +kernel
theorem dX5_gives_24 : decode cX5_gives 24 = .ok (.getfield 25, 3) := by decide +kernel
theorem dX5_gives_27 : decode cX5_gives 27 = .ok (.getfield 265, 3) := by decide +kernel
theorem dX5_gives_30 : decode cX5_gives 30 = .ok (.aload_n 0, 1) := by decide +kernel
theorem dX5_gives_31 : decode cX5_gives 31 = .ok (.getfield 25, 3) := by decide +kernel
theorem dX5_gives_34 : decode cX5_gives 34 = .ok (.getfield 167, 3) := by decide +kernel
theorem dX5_gives_37 : decode cX5_gives 37 = .ok (.if_icmp .lt 5, 3) := by decide +kernel
theorem dX5_gives_40 : decode cX5_gives 40 = .ok (.iload_n 1, 1) := by decide +kernel
theorem dX5_gives_41 : decode cX5_gives 41 = .ok (.ireturn, 1) := by decide +kernel
theorem dX5_gives_42 : decode cX5_gives 42 = .ok (.aload_n 0, 1) := by decide +kernel
theorem dX5_gives_43 : decode cX5_gives 43 = .ok (.getfield 25, 3) := by decide +kernel
theorem dX5_gives_46 : decode cX5_gives 46 = .ok (.iconst 0, 1) := by decide +kernel
theorem dX5_gives_47 : decode cX5_gives 47 = .ok (.invokevirtual 224, 3) := by decide +kernel
theorem dX5_gives_50 : decode cX5_gives 50 = .ok (.iinc 1 1, 3) := by decide +kernel
theorem dX5_gives_53 : decode cX5_gives 53 = .ok (.goto (-37), 3) := by decide +kernel
theorem dX5_gives_56 : decode cX5_gives 56 = .ok (.aload_n 0, 1) := by decide +kernel
theorem dX5_gives_57 : decode cX5_gives 57 = .ok (.getfield 25, 3) := by decide +kernel
theorem dX5_gives_60 : decode cX5_gives 60 = .ok (.getfield 265, 3) := by decide +kernel
theorem dX5_gives_63 : decode cX5_gives 63 = .ok (.aload_n 0, 1) := by decide +kernel
theorem dX5_gives_64 : decode cX5_gives 64 = .ok (.getfield 25, 3) := by decide +kernel
theorem dX5_gives_67 : decode cX5_gives 67 = .ok (.getfield 167, 3) := by decide +kernel
theorem dX5_gives_70 : decode cX5_gives 70 = .ok (.if_icmp .lt 9, 3) := by decide +kernel
theorem dX5_gives_73 : decode cX5_gives 73 = .ok (.sipush 200, 3) := by decide +kernel
theorem dX5_gives_76 : decode cX5_gives 76 = .ok (.goto 4, 3) := by decide +kernel
theorem dX5_gives_79 : decode cX5_gives 79 = .ok (.iconst (-1), 1) := by decide +kernel
theorem dX5_gives_80 : decode cX5_gives 80 = .ok (.ireturn, 1) := by decide +kernel
def fX5_gives_16 : Nat → Int32 → SS → Option (Int32 × SS)
  | 0, _, _ => none
  | n + 1, x1, s => if (200 : Int32) ≤ x1 then (if (s.1 28 10) < (s.1 28 6) then (some ((-1 : Int32), s)) else (some ((200 : Int32), s))) else (if (s.1 28 10) < (s.1 28 6) then (((fX0_pass (0 : Int32) (selS (fun k => 28 + k) s)).bind fun z4 => fX5_gives_16 n (x1 + (1 : Int32)) (mrgS (fun k => 28 + k) 5 s z4.2))) else (some (x1, s)))
def fX5_gives_0 (s : SS) : Option (Int32 × SS) := ((fX0_takeFrom (selS (fun k => if k < 5 then 28 + k else 2 + (k - 5)) s)).bind fun z1 => fX5_gives_16 FU (0 : Int32) (mrgS (fun k => if k < 5 then 28 + k else 2 + (k - 5)) 10 s z1.2))
def fX5_gives (s : SS) : Option (Int32 × SS) := fX5_gives_0 s
set_option maxRecDepth 100000 in
set_option maxHeartbeats 4000000 in
theorem okX5_gives_16 {G : GG} {pl : Nat → Nat} {h0 : PH} : ∀ (n : Nat) (x1 : Int32) (s : SS), EvF G 3 mX5_gives lyM pl h0 rvI (fX5_gives_16 n x1 s) 16 [(0, .ref (pl 0)), (1, .int x1)] [] s := by
  intro n
  induction n with
  | zero => intro x1 s; rw [fX5_gives_16]; exact ef_none
  | succ n ih =>
    intro x1 s
    rw [fX5_gives_16]
    refine ef_iload_n (q := 17) 1 dX5_gives_16 rfl rfl rfl ?_
    refine ef_sipush (v := (200 : Int32)) (q := 20) dX5_gives_17 (by decide) rfl ?_
    refine ef_if (pt := 56) (pf := 23) (fun _ _ => ev_icmp_ge (tgt := 56) dX5_gives_20 (by decide)) (fun h1 => ?_) (fun h1 => ?_)
    · refine ef_aload_n (q := 57) 0 dX5_gives_56 rfl rfl rfl ?_
      refine ef_getR (t := 28) (q := 60) rfl fl5_25 rfl rfl dX5_gives_57 rfl ?_
      refine ef_getI (x := s.1 28 10) (q := 63) rfl fl5_265 rfl rfl dX5_gives_60 rfl ?_
      refine ef_aload_n (q := 64) 0 dX5_gives_63 rfl rfl rfl ?_
      refine ef_getR (t := 28) (q := 67) rfl fl5_25 rfl rfl dX5_gives_64 rfl ?_
      refine ef_getI (x := s.1 28 6) (q := 70) rfl fl5_167 rfl rfl dX5_gives_67 rfl ?_
      refine ef_if (pt := 79) (pf := 73) (fun _ _ => ev_icmp_lt (tgt := 79) dX5_gives_70 (by decide)) (fun h2 => ?_) (fun h2 => ?_)
      · refine ef_iconst (v := (-1 : Int32)) (q := 80) dX5_gives_79 (by decide) rfl ?_
        exact ef_iret rfl dX5_gives_80
      · refine ef_sipush (v := (200 : Int32)) (q := 76) dX5_gives_73 (by decide) rfl ?_
        refine ef_goto (tgt := 80) dX5_gives_76 (by decide) ?_
        exact ef_iret rfl dX5_gives_80
    · refine ef_aload_n (q := 24) 0 dX5_gives_23 rfl rfl rfl ?_
      refine ef_getR (t := 28) (q := 27) rfl fl5_25 rfl rfl dX5_gives_24 rfl ?_
      refine ef_getI (x := s.1 28 10) (q := 30) rfl fl5_265 rfl rfl dX5_gives_27 rfl ?_
      refine ef_aload_n (q := 31) 0 dX5_gives_30 rfl rfl rfl ?_
      refine ef_getR (t := 28) (q := 34) rfl fl5_25 rfl rfl dX5_gives_31 rfl ?_
      refine ef_getI (x := s.1 28 6) (q := 37) rfl fl5_167 rfl rfl dX5_gives_34 rfl ?_
      refine ef_if (pt := 42) (pf := 40) (fun _ _ => ev_icmp_lt (tgt := 42) dX5_gives_37 (by decide)) (fun h3 => ?_) (fun h3 => ?_)
      · refine ef_aload_n (q := 43) 0 dX5_gives_42 rfl rfl rfl ?_
        refine ef_getR (t := 28) (q := 46) rfl fl5_25 rfl rfl dX5_gives_43 rfl ?_
        refine ef_iconst (v := (0 : Int32)) (q := 47) dX5_gives_46 (by decide) rfl ?_
        refine ef_invVU (k := 28) (nn := 5) (π := (fun k => 28 + k)) (As := [.int (0 : Int32)]) (rest := []) (q := 50) (okX0_pass (0 : Int32)) (by decide +kernel) rfl calX0_pass ml5_224 (by decide) rfl rfl rfl (Nat.le_of_ble_eq_true rfl) dX5_gives_47 rfl rfl (fun z4 => ?_)
        refine ef_iinc (v := x1 + (1 : Int32)) (lv' := [(1, .int (x1 + (1 : Int32))), (0, .ref (pl 0))]) (q := 53) 1 dX5_gives_50 rfl rfl (by decide) rfl rfl ?_
        refine ef_goto (tgt := 16) dX5_gives_53 (by decide) ?_
        refine ef_sub (lv' := [(0, .ref (pl 0)), (1, .int (x1 + (1 : Int32)))]) [1, 0] rfl ?_
        exact ih (x1 + (1 : Int32)) (mrgS (fun k => 28 + k) 5 s z4.2)
      · refine ef_iload_n (q := 41) 1 dX5_gives_40 rfl rfl rfl ?_
        exact ef_iret rfl dX5_gives_41
set_option maxRecDepth 100000 in
set_option maxHeartbeats 4000000 in
theorem okX5_gives_0 {G : GG} {pl : Nat → Nat} {h0 : PH} (s : SS) : EvF G 3 mX5_gives lyM pl h0 rvI (fX5_gives_0 s) 0 [(0, .ref (pl 0))] [] s := by
  unfold fX5_gives_0
  refine ef_aload_n (q := 1) 0 dX5_gives_0 rfl rfl rfl ?_
  refine ef_getR (t := 28) (q := 4) rfl fl5_25 rfl rfl dX5_gives_1 rfl ?_
  refine ef_aload_n (q := 5) 0 dX5_gives_4 rfl rfl rfl ?_
  refine ef_getR (t := 1) (q := 8) rfl fl5_10 rfl rfl dX5_gives_5 rfl ?_
  refine ef_getR (t := 2) (q := 11) rfl fl5_130 rfl rfl dX5_gives_8 rfl ?_
  refine ef_invVU (k := 28) (nn := 10) (π := (fun k => if k < 5 then 28 + k else 2 + (k - 5))) (As := [.ref (pl 2)]) (rest := []) (q := 14) (okX0_takeFrom) (by decide +kernel) rfl calX0_takeFrom ml5_218 (by decide) rfl rfl rfl (Nat.le_of_ble_eq_true rfl) dX5_gives_11 rfl rfl (fun z1 => ?_)
  refine ef_iconst (v := (0 : Int32)) (q := 15) dX5_gives_14 (by decide) rfl ?_
  refine ef_istore_n (lv' := [(1, .int (0 : Int32)), (0, .ref (pl 0))]) (q := 16) dX5_gives_15 rfl (by decide) rfl rfl ?_
  refine ef_sub (lv' := [(0, .ref (pl 0)), (1, .int (0 : Int32))]) [1, 0] rfl ?_
  exact okX5_gives_16 FU (0 : Int32) (mrgS (fun k => if k < 5 then 28 + k else 2 + (k - 5)) 10 s z1.2)
theorem okX5_gives : MtF 3 mX5_gives lyM rvI (fun _ pl => [.ref (pl 0)]) (fX5_gives) := by
  refine MtF.of (by decide +kernel) rfl (fun _ pl => Nat.le_of_ble_eq_true rfl) (fun G pl h0 s => ?_)
  refine ef_sub (lv := [(0, .ref (pl 0))]) (lv' := [(0, .ref (pl 0))]) [0] rfl ?_
  exact okX5_gives_0  s
-- X5_wettest
theorem dX5_wettest_0 : decode cX5_wettest 0 = .ok (.aload_n 0, 1) := by decide +kernel
theorem dX5_wettest_1 : decode cX5_wettest 1 = .ok (.getfield 10, 3) := by decide +kernel
theorem dX5_wettest_4 : decode cX5_wettest 4 = .ok (.getfield 130, 3) := by decide +kernel
theorem dX5_wettest_7 : decode cX5_wettest 7 = .ok (.invokevirtual 268, 3) := by decide +kernel
theorem dX5_wettest_10 : decode cX5_wettest 10 = .ok (.ireturn, 1) := by decide +kernel
def fX5_wettest_0 (s : SS) : Option (Int32 × SS) := ((fX0_wettestSide (selS (fun k => 2 + k) s)).bind fun z1 => some (z1.1, mrgS (fun k => 2 + k) 5 s z1.2))
def fX5_wettest (s : SS) : Option (Int32 × SS) := fX5_wettest_0 s
set_option maxRecDepth 100000 in
set_option maxHeartbeats 4000000 in
theorem okX5_wettest_0 {G : GG} {pl : Nat → Nat} {h0 : PH} (s : SS) : EvF G 2 mX5_wettest lyM pl h0 rvI (fX5_wettest_0 s) 0 [(0, .ref (pl 0))] [] s := by
  unfold fX5_wettest_0
  refine ef_aload_n (q := 1) 0 dX5_wettest_0 rfl rfl rfl ?_
  refine ef_getR (t := 1) (q := 4) rfl fl5_10 rfl rfl dX5_wettest_1 rfl ?_
  refine ef_getR (t := 2) (q := 7) rfl fl5_130 rfl rfl dX5_wettest_4 rfl ?_
  refine ef_invVI (k := 2) (nn := 5) (π := (fun k => 2 + k)) (As := []) (rest := []) (q := 10) (okX0_wettestSide) (by decide +kernel) rfl calX0_wettestSide ml5_268 (by decide) rfl rfl rfl (Nat.le_of_ble_eq_true rfl) dX5_wettest_7 rfl rfl (fun z1 => ?_)
  exact ef_iret rfl dX5_wettest_10
theorem okX5_wettest : MtF 2 mX5_wettest lyM rvI (fun _ pl => [.ref (pl 0)]) (fX5_wettest) := by
  refine MtF.of (by decide +kernel) rfl (fun _ pl => Nat.le_of_ble_eq_true rfl) (fun G pl h0 s => ?_)
  refine ef_sub (lv := [(0, .ref (pl 0))]) (lv' := [(0, .ref (pl 0))]) [0] rfl ?_
  exact okX5_wettest_0  s
-- X5_largestScoop
theorem dX5_largestScoop_0 : decode cX5_largestScoop 0 = .ok (.aload_n 0, 1) := by decide +kernel
theorem dX5_largestScoop_1 : decode cX5_largestScoop 1 = .ok (.getfield 10, 3) := by decide +kernel
theorem dX5_largestScoop_4 : decode cX5_largestScoop 4 = .ok (.getfield 130, 3) := by decide +kernel
theorem dX5_largestScoop_7 : decode cX5_largestScoop 7 = .ok (.getfield 137, 3) := by decide +kernel
theorem dX5_largestScoop_10 : decode cX5_largestScoop 10 = .ok (.ifCond .ne 10, 3) := by decide +kernel
theorem dX5_largestScoop_13 : decode cX5_largestScoop 13 = .ok (.aload_n 0, 1) := by decide +kernel
theorem dX5_largestScoop_14 : decode cX5_largestScoop 14 = .ok (.bipush (-5), 2) := by decide +kernel
theorem dX5_largestScoop_16 : decode cX5_largestScoop 16 = .ok (.invokevirtual 66, 3) := by decide +kernel
theorem dX5_largestScoop_19 : decode cX5_largestScoop 19 = .ok (.ireturn, 1) := by decide +kernel
theorem dX5_largestScoop_20 : decode cX5_largestScoop 20 = .ok (.iconst 0, 1) := by decide +kernel
theorem dX5_largestScoop_21 : decode cX5_largestScoop 21 = .ok (.istore_n 1, 1) := by decide +kernel
theorem dX5_largestScoop_22 : decode cX5_largestScoop 22 = .ok (.iconst 1, 1) := by decide +kernel
theorem dX5_largestScoop_23 : decode cX5_largestScoop 23 = .ok (.istore_n 2, 1) := by decide +kernel
theorem dX5_largestScoop_24 : decode cX5_largestScoop 24 = .ok (.iload_n 2, 1) := by decide +kernel
theorem dX5_largestScoop_25 : decode cX5_largestScoop 25 = .ok (.aload_n 0, 1) := by decide +kernel
theorem dX5_largestScoop_26 : decode cX5_largestScoop 26 = .ok (.getfield 10, 3) := by decide +kernel
theorem dX5_largestScoop_29 : decode cX5_largestScoop 29 = .ok (.getfield 130, 3) := by decide +kernel
theorem dX5_largestScoop_32 : decode cX5_largestScoop 32 = .ok (.getfield 137, 3) := by decide +kernel
theorem dX5_largestScoop_35 : decode cX5_largestScoop 35 = .ok (.if_icmp .ge 38, 3) := by decide +kernel
theorem dX5_largestScoop_38 : decode cX5_largestScoop 38 = .ok (.aload_n 0, 1) := by decide +kernel
theorem dX5_largestScoop_39 : decode cX5_largestScoop 39 = .ok (.getfield 10, 3) := by decide +kernel
theorem dX5_largestScoop_42 : decode cX5_largestScoop 42 = .ok (.getfield 130, 3) := by decide +kernel
theorem dX5_largestScoop_45 : decode cX5_largestScoop 45 = .ok (.getfield 197, 3) := by decide +kernel
theorem dX5_largestScoop_48 : decode cX5_largestScoop 48 = .ok (.iload_n 2, 1) := by decide +kernel
theorem dX5_largestScoop_49 : decode cX5_largestScoop 49 = .ok (.iaload, 1) := by decide +kernel
theorem dX5_largestScoop_50 : decode cX5_largestScoop 50 = .ok (.aload_n 0, 1) := by decide +kernel
theorem dX5_largestScoop_51 : decode cX5_largestScoop 51 = .ok (.getfield 10, 3) := by decide +kernel
theorem dX5_largestScoop_54 : decode cX5_largestScoop 54 = .ok (.getfield 130, 3) := by decide +kernel
theorem dX5_largestScoop_57 : decode cX5_largestScoop 57 = .ok (.getfield 197, 3) := by decide +kernel
theorem dX5_largestScoop_60 : decode cX5_largestScoop 60 = .ok (.iload_n 1, 1) := by decide +kernel
theorem dX5_largestScoop_61 : decode cX5_largestScoop 61 = .ok (.iaload, 1) := by decide +kernel
theorem dX5_largestScoop_62 : decode cX5_largestScoop 62 = .ok (.if_icmp .le 5, 3) := by decide +kernel
theorem dX5_largestScoop_65 : decode cX5_largestScoop 65 = .ok (.iload_n 2, 1) := by decide +kernel
theorem dX5_largestScoop_66 : decode cX5_largestScoop 66 = .ok (.istore_n 1, 1) := by decide +kernel
theorem dX5_largestScoop_67 : decode cX5_largestScoop 67 = .ok (.iinc 2 1, 3) := by decide +kernel
theorem dX5_largestScoop_70 : decode cX5_largestScoop 70 = .ok (.goto (-46), 3) := by decide +kernel
theorem dX5_largestScoop_73 : decode cX5_largestScoop 73 = .ok (.iload_n 1, 1) := by decide +kernel
theorem dX5_largestScoop_74 : decode cX5_largestScoop 74 = .ok (.ireturn, 1) := by decide +kernel
def fX5_largestScoop_24 : Nat → Int32 → Int32 → SS → Option (Int32 × SS)
  | 0, _, _, _ => none
  | n + 1, x1, x2, s => if (s.1 2 11) ≤ x2 then (some (x1, s)) else (if ixB x2 3 then (if ixB x1 3 then (if (s.1 4 x2.toNatClampNeg) ≤ (s.1 4 x1.toNatClampNeg) then (fX5_largestScoop_24 n x1 (x2 + (1 : Int32)) s) else (fX5_largestScoop_24 n x2 (x2 + (1 : Int32)) s)) else none) else none)
def fX5_largestScoop_0 (s : SS) : Option (Int32 × SS) := if (s.1 2 11) = 0 then (((fX5_refuse (-5 : Int32) s).bind fun z2 => some (z2.1, z2.2))) else (fX5_largestScoop_24 FU (0 : Int32) (1 : Int32) s)
def fX5_largestScoop (s : SS) : Option (Int32 × SS) := fX5_largestScoop_0 s
set_option maxRecDepth 100000 in
set_option maxHeartbeats 4000000 in
theorem okX5_largestScoop_24 {G : GG} {pl : Nat → Nat} {h0 : PH} : ∀ (n : Nat) (x1 : Int32) (x2 : Int32) (s : SS), EvF G 2 mX5_largestScoop lyM pl h0 rvI (fX5_largestScoop_24 n x1 x2 s) 24 [(0, .ref (pl 0)), (1, .int x1), (2, .int x2)] [] s := by
  intro n
  induction n with
  | zero => intro x1 x2 s; rw [fX5_largestScoop_24]; exact ef_none
  | succ n ih =>
    intro x1 x2 s
    rw [fX5_largestScoop_24]
    refine ef_iload_n (q := 25) 2 dX5_largestScoop_24 rfl rfl rfl ?_
    refine ef_aload_n (q := 26) 0 dX5_largestScoop_25 rfl rfl rfl ?_
    refine ef_getR (t := 1) (q := 29) rfl fl5_10 rfl rfl dX5_largestScoop_26 rfl ?_
    refine ef_getR (t := 2) (q := 32) rfl fl5_130 rfl rfl dX5_largestScoop_29 rfl ?_
    refine ef_getI (x := s.1 2 11) (q := 35) rfl fl5_137 rfl rfl dX5_largestScoop_32 rfl ?_
    refine ef_if (pt := 73) (pf := 38) (fun _ _ => ev_icmp_ge (tgt := 73) dX5_largestScoop_35 (by decide)) (fun h1 => ?_) (fun h1 => ?_)
    · refine ef_iload_n (q := 74) 1 dX5_largestScoop_73 rfl rfl rfl ?_
      exact ef_iret rfl dX5_largestScoop_74
    · refine ef_aload_n (q := 39) 0 dX5_largestScoop_38 rfl rfl rfl ?_
      refine ef_getR (t := 1) (q := 42) rfl fl5_10 rfl rfl dX5_largestScoop_39 rfl ?_
      refine ef_getR (t := 2) (q := 45) rfl fl5_130 rfl rfl dX5_largestScoop_42 rfl ?_
      refine ef_getR (t := 4) (q := 48) rfl fl5_197 rfl rfl dX5_largestScoop_45 rfl ?_
      refine ef_iload_n (q := 49) 2 dX5_largestScoop_48 rfl rfl rfl ?_
      refine ef_guard (fun g2 => ?_)
      refine ef_iaload (x := s.1 4 x2.toNatClampNeg) (q := 50) rfl g2 dX5_largestScoop_49 rfl rfl ?_
      refine ef_aload_n (q := 51) 0 dX5_largestScoop_50 rfl rfl rfl ?_
      refine ef_getR (t := 1) (q := 54) rfl fl5_10 rfl rfl dX5_largestScoop_51 rfl ?_
      refine ef_getR (t := 2) (q := 57) rfl fl5_130 rfl rfl dX5_largestScoop_54 rfl ?_
      refine ef_getR (t := 4) (q := 60) rfl fl5_197 rfl rfl dX5_largestScoop_57 rfl ?_
      refine ef_iload_n (q := 61) 1 dX5_largestScoop_60 rfl rfl rfl ?_
      refine ef_guard (fun g3 => ?_)
      refine ef_iaload (x := s.1 4 x1.toNatClampNeg) (q := 62) rfl g3 dX5_largestScoop_61 rfl rfl ?_
      refine ef_if (pt := 67) (pf := 65) (fun _ _ => ev_icmp_le (tgt := 67) dX5_largestScoop_62 (by decide)) (fun h4 => ?_) (fun h4 => ?_)
      · refine ef_iinc (v := x2 + (1 : Int32)) (lv' := [(2, .int (x2 + (1 : Int32))), (0, .ref (pl 0)), (1, .int x1)]) (q := 70) 2 dX5_largestScoop_67 rfl rfl (by decide) rfl rfl ?_
        refine ef_goto (tgt := 24) dX5_largestScoop_70 (by decide) ?_
        refine ef_sub (lv' := [(0, .ref (pl 0)), (1, .int x1), (2, .int (x2 + (1 : Int32)))]) [1, 2, 0] rfl ?_
        exact ih x1 (x2 + (1 : Int32)) s
      · refine ef_iload_n (q := 66) 2 dX5_largestScoop_65 rfl rfl rfl ?_
        refine ef_istore_n (lv' := [(1, .int x2), (0, .ref (pl 0)), (2, .int x2)]) (q := 67) dX5_largestScoop_66 rfl (by decide) rfl rfl ?_
        refine ef_iinc (v := x2 + (1 : Int32)) (lv' := [(2, .int (x2 + (1 : Int32))), (1, .int x2), (0, .ref (pl 0))]) (q := 70) 2 dX5_largestScoop_67 rfl rfl (by decide) rfl rfl ?_
        refine ef_goto (tgt := 24) dX5_largestScoop_70 (by decide) ?_
        refine ef_sub (lv' := [(0, .ref (pl 0)), (1, .int x2), (2, .int (x2 + (1 : Int32)))]) [2, 1, 0] rfl ?_
        exact ih x2 (x2 + (1 : Int32)) s
set_option maxRecDepth 100000 in
set_option maxHeartbeats 4000000 in
theorem okX5_largestScoop_0 {G : GG} {pl : Nat → Nat} {h0 : PH} (s : SS) : EvF G 2 mX5_largestScoop lyM pl h0 rvI (fX5_largestScoop_0 s) 0 [(0, .ref (pl 0))] [] s := by
  unfold fX5_largestScoop_0
  refine ef_aload_n (q := 1) 0 dX5_largestScoop_0 rfl rfl rfl ?_
  refine ef_getR (t := 1) (q := 4) rfl fl5_10 rfl rfl dX5_largestScoop_1 rfl ?_
  refine ef_getR (t := 2) (q := 7) rfl fl5_130 rfl rfl dX5_largestScoop_4 rfl ?_
  refine ef_getI (x := s.1 2 11) (q := 10) rfl fl5_137 rfl rfl dX5_largestScoop_7 rfl ?_
  refine ef_if (pt := 13) (pf := 20) (fun _ _ kt kf => ev_if_ne (tgt := 20) dX5_largestScoop_10 (by decide) kf kt) (fun h1 => ?_) (fun h1 => ?_)
  · refine ef_aload_n (q := 14) 0 dX5_largestScoop_13 rfl rfl rfl ?_
    refine ef_bipush (v := (-5 : Int32)) (q := 16) dX5_largestScoop_14 (by decide) rfl ?_
    refine ef_invVI0 (k := 0) (As := [.int (-5 : Int32)]) (rest := []) (q := 19) (okX5_refuse (-5 : Int32)) rfl calX5_refuse ml5_66 (by decide) rfl rfl rfl (Nat.le_of_ble_eq_true rfl) dX5_largestScoop_16 rfl (fun z2 => ?_)
    exact ef_iret rfl dX5_largestScoop_19
  · refine ef_iconst (v := (0 : Int32)) (q := 21) dX5_largestScoop_20 (by decide) rfl ?_
    refine ef_istore_n (lv' := [(1, .int (0 : Int32)), (0, .ref (pl 0))]) (q := 22) dX5_largestScoop_21 rfl (by decide) rfl rfl ?_
    refine ef_iconst (v := (1 : Int32)) (q := 23) dX5_largestScoop_22 (by decide) rfl ?_
    refine ef_istore_n (lv' := [(2, .int (1 : Int32)), (1, .int (0 : Int32)), (0, .ref (pl 0))]) (q := 24) dX5_largestScoop_23 rfl (by decide) rfl rfl ?_
    refine ef_sub (lv' := [(0, .ref (pl 0)), (1, .int (0 : Int32)), (2, .int (1 : Int32))]) [2, 1, 0] rfl ?_
    exact okX5_largestScoop_24 FU (0 : Int32) (1 : Int32) s
theorem okX5_largestScoop : MtF 2 mX5_largestScoop lyM rvI (fun _ pl => [.ref (pl 0)]) (fX5_largestScoop) := by
  refine MtF.of (by decide +kernel) rfl (fun _ pl => Nat.le_of_ble_eq_true rfl) (fun G pl h0 s => ?_)
  refine ef_sub (lv := [(0, .ref (pl 0))]) (lv' := [(0, .ref (pl 0))]) [0] rfl ?_
  exact okX5_largestScoop_0  s
-- X5_melted
theorem dX5_melted_0 : decode cX5_melted 0 = .ok (.aload_n 0, 1) := by decide +kernel
theorem dX5_melted_1 : decode cX5_melted 1 = .ok (.getfield 25, 3) := by decide +kernel
theorem dX5_melted_4 : decode cX5_melted 4 = .ok (.aload_n 0, 1) := by decide +kernel
theorem dX5_melted_5 : decode cX5_melted 5 = .ok (.getfield 10, 3) := by decide +kernel
theorem dX5_melted_8 : decode cX5_melted 8 = .ok (.getfield 130, 3) := by decide +kernel
theorem dX5_melted_11 : decode cX5_melted 11 = .ok (.invokevirtual 218, 3) := by decide +kernel
theorem dX5_melted_14 : decode cX5_melted 14 = .ok (.iconst 0, 1) := by decide +kernel
theorem dX5_melted_15 : decode cX5_melted 15 = .ok (.istore_n 1, 1) := by decide +kernel
theorem dX5_melted_16 : decode cX5_melted 16 = .ok (.iload_n 1, 1) := by decide +kernel
theorem dX5_melted_17 : decode cX5_melted 17 = .ok (.sipush 200, 3) := by decide +kernel
theorem dX5_melted_20 : decode cX5_melted 20 = .ok (.if_icmp .ge 29, 3) := by decide +kernel
theorem dX5_melted_23 : decode cX5_melted 23 = .ok (.aload_n 0, 1) := by decide +kernel
theorem dX5_melted_24 : decode cX5_melted 24 = .ok (.getfield 25, 3) := by decide +kernel
theorem dX5_melted_27 : decode cX5_melted 27 = .ok (.invokevirtual 271, 3) := by decide +kernel
theorem dX5_melted_30 : decode cX5_melted 30 = .ok (.ifCond .eq 5, 3) := by decide +kernel
theorem dX5_melted_33 : decode cX5_melted 33 = .ok (.iload_n 1, 1) := by decide +kernel
theorem dX5_melted_34 : decode cX5_melted 34 = .ok (.ireturn, 1) := by decide +kernel
theorem dX5_melted_35 : decode cX5_melted 35 = .ok (.aload_n 0, 1) := by decide +kernel
theorem dX5_melted_36 : decode cX5_melted 36 = .ok (.getfield 25, 3) := by decide +kernel
theorem dX5_melted_39 : decode cX5_melted 39 = .ok (.iconst 0, 1) := by decide +kernel
theorem dX5_melted_40 : decode cX5_melted 40 = .ok (.invokevirtual 224, 3) := by decide +kernel
theorem dX5_melted_43 : decode cX5_melted 43 = .ok (.iinc 1 1, 3) := by decide +kernel
theorem dX5_melted_46 : decode cX5_melted 46 = .ok (.goto (-30), 3) := by decide +kernel
theorem dX5_melted_49 : decode cX5_melted 49 = .ok (.aload_n 0, 1) := by decide +kernel
theorem dX5_melted_50 : decode cX5_melted 50 = .ok (.getfield 25, 3) := by decide +kernel
theorem dX5_melted_53 : decode cX5_melted 53 = .ok (.invokevirtual 271, 3) := by decide +kernel
theorem dX5_melted_56 : decode cX5_melted 56 = .ok (.ifCond .eq 9, 3) := by decide +kernel
theorem dX5_melted_59 : decode cX5_melted 59 = .ok (.sipush 200, 3) := by decide +kernel
theorem dX5_melted_62 : decode cX5_melted 62 = .ok (.goto 4, 3) := by decide +kernel
theorem dX5_melted_65 : decode cX5_melted 65 = .ok (.iconst (-1), 1) := by decide +kernel
theorem dX5_melted_66 : decode cX5_melted 66 = .ok (.ireturn, 1) := by decide +kernel
def fX5_melted_16 : Nat → Int32 → SS → Option (Int32 × SS)
  | 0, _, _ => none
  | n + 1, x1, s => if (200 : Int32) ≤ x1 then (((fX0_hasMeltedScoop (selS (fun k => 28 + k) s)).bind fun z2 => if z2.1 = 0 then (some ((-1 : Int32), mrgS (fun k => 28 + k) 5 s z2.2)) else (some ((200 : Int32), mrgS (fun k => 28 + k) 5 s z2.2)))) else (((fX0_hasMeltedScoop (selS (fun k => 28 + k) s)).bind fun z4 => if z4.1 = 0 then (((fX0_pass (0 : Int32) (selS (fun k => 28 + k) (mrgS (fun k => 28 + k) 5 s z4.2))).bind fun z6 => fX5_melted_16 n (x1 + (1 : Int32)) (mrgS (fun k => 28 + k) 5 (mrgS (fun k => 28 + k) 5 s z4.2) z6.2))) else (some (x1, mrgS (fun k => 28 + k) 5 s z4.2))))
def fX5_melted_0 (s : SS) : Option (Int32 × SS) := ((fX0_takeFrom (selS (fun k => if k < 5 then 28 + k else 2 + (k - 5)) s)).bind fun z1 => fX5_melted_16 FU (0 : Int32) (mrgS (fun k => if k < 5 then 28 + k else 2 + (k - 5)) 10 s z1.2))
def fX5_melted (s : SS) : Option (Int32 × SS) := fX5_melted_0 s
set_option maxRecDepth 100000 in
set_option maxHeartbeats 4000000 in
theorem okX5_melted_16 {G : GG} {pl : Nat → Nat} {h0 : PH} : ∀ (n : Nat) (x1 : Int32) (s : SS), EvF G 3 mX5_melted lyM pl h0 rvI (fX5_melted_16 n x1 s) 16 [(0, .ref (pl 0)), (1, .int x1)] [] s := by
  intro n
  induction n with
  | zero => intro x1 s; rw [fX5_melted_16]; exact ef_none
  | succ n ih =>
    intro x1 s
    rw [fX5_melted_16]
    refine ef_iload_n (q := 17) 1 dX5_melted_16 rfl rfl rfl ?_
    refine ef_sipush (v := (200 : Int32)) (q := 20) dX5_melted_17 (by decide) rfl ?_
    refine ef_if (pt := 49) (pf := 23) (fun _ _ => ev_icmp_ge (tgt := 49) dX5_melted_20 (by decide)) (fun h1 => ?_) (fun h1 => ?_)
    · refine ef_aload_n (q := 50) 0 dX5_melted_49 rfl rfl rfl ?_
      refine ef_getR (t := 28) (q := 53) rfl fl5_25 rfl rfl dX5_melted_50 rfl ?_
      refine ef_invVI (k := 28) (nn := 5) (π := (fun k => 28 + k)) (As := []) (rest := []) (q := 56) (okX0_hasMeltedScoop) (by decide +kernel) rfl calX0_hasMeltedScoop ml5_271 (by decide) rfl rfl rfl (Nat.le_of_ble_eq_true rfl) dX5_melted_53 rfl rfl (fun z2 => ?_)
      refine ef_if (pt := 65) (pf := 59) (fun _ _ => ev_if_eq (tgt := 65) dX5_melted_56 (by decide)) (fun h3 => ?_) (fun h3 => ?_)
      · refine ef_iconst (v := (-1 : Int32)) (q := 66) dX5_melted_65 (by decide) rfl ?_
        exact ef_iret rfl dX5_melted_66
      · refine ef_sipush (v := (200 : Int32)) (q := 62) dX5_melted_59 (by decide) rfl ?_
        refine ef_goto (tgt := 66) dX5_melted_62 (by decide) ?_
        exact ef_iret rfl dX5_melted_66
    · refine ef_aload_n (q := 24) 0 dX5_melted_23 rfl rfl rfl ?_
      refine ef_getR (t := 28) (q := 27) rfl fl5_25 rfl rfl dX5_melted_24 rfl ?_
      refine ef_invVI (k := 28) (nn := 5) (π := (fun k => 28 + k)) (As := []) (rest := []) (q := 30) (okX0_hasMeltedScoop) (by decide +kernel) rfl calX0_hasMeltedScoop ml5_271 (by decide) rfl rfl rfl (Nat.le_of_ble_eq_true rfl) dX5_melted_27 rfl rfl (fun z4 => ?_)
      refine ef_if (pt := 35) (pf := 33) (fun _ _ => ev_if_eq (tgt := 35) dX5_melted_30 (by decide)) (fun h5 => ?_) (fun h5 => ?_)
      · refine ef_aload_n (q := 36) 0 dX5_melted_35 rfl rfl rfl ?_
        refine ef_getR (t := 28) (q := 39) rfl fl5_25 rfl rfl dX5_melted_36 rfl ?_
        refine ef_iconst (v := (0 : Int32)) (q := 40) dX5_melted_39 (by decide) rfl ?_
        refine ef_invVU (k := 28) (nn := 5) (π := (fun k => 28 + k)) (As := [.int (0 : Int32)]) (rest := []) (q := 43) (okX0_pass (0 : Int32)) (by decide +kernel) rfl calX0_pass ml5_224 (by decide) rfl rfl rfl (Nat.le_of_ble_eq_true rfl) dX5_melted_40 rfl rfl (fun z6 => ?_)
        refine ef_iinc (v := x1 + (1 : Int32)) (lv' := [(1, .int (x1 + (1 : Int32))), (0, .ref (pl 0))]) (q := 46) 1 dX5_melted_43 rfl rfl (by decide) rfl rfl ?_
        refine ef_goto (tgt := 16) dX5_melted_46 (by decide) ?_
        refine ef_sub (lv' := [(0, .ref (pl 0)), (1, .int (x1 + (1 : Int32)))]) [1, 0] rfl ?_
        exact ih (x1 + (1 : Int32)) (mrgS (fun k => 28 + k) 5 (mrgS (fun k => 28 + k) 5 s z4.2) z6.2)
      · refine ef_iload_n (q := 34) 1 dX5_melted_33 rfl rfl rfl ?_
        exact ef_iret rfl dX5_melted_34
set_option maxRecDepth 100000 in
set_option maxHeartbeats 4000000 in
theorem okX5_melted_0 {G : GG} {pl : Nat → Nat} {h0 : PH} (s : SS) : EvF G 3 mX5_melted lyM pl h0 rvI (fX5_melted_0 s) 0 [(0, .ref (pl 0))] [] s := by
  unfold fX5_melted_0
  refine ef_aload_n (q := 1) 0 dX5_melted_0 rfl rfl rfl ?_
  refine ef_getR (t := 28) (q := 4) rfl fl5_25 rfl rfl dX5_melted_1 rfl ?_
  refine ef_aload_n (q := 5) 0 dX5_melted_4 rfl rfl rfl ?_
  refine ef_getR (t := 1) (q := 8) rfl fl5_10 rfl rfl dX5_melted_5 rfl ?_
  refine ef_getR (t := 2) (q := 11) rfl fl5_130 rfl rfl dX5_melted_8 rfl ?_
  refine ef_invVU (k := 28) (nn := 10) (π := (fun k => if k < 5 then 28 + k else 2 + (k - 5))) (As := [.ref (pl 2)]) (rest := []) (q := 14) (okX0_takeFrom) (by decide +kernel) rfl calX0_takeFrom ml5_218 (by decide) rfl rfl rfl (Nat.le_of_ble_eq_true rfl) dX5_melted_11 rfl rfl (fun z1 => ?_)
  refine ef_iconst (v := (0 : Int32)) (q := 15) dX5_melted_14 (by decide) rfl ?_
  refine ef_istore_n (lv' := [(1, .int (0 : Int32)), (0, .ref (pl 0))]) (q := 16) dX5_melted_15 rfl (by decide) rfl rfl ?_
  refine ef_sub (lv' := [(0, .ref (pl 0)), (1, .int (0 : Int32))]) [1, 0] rfl ?_
  exact okX5_melted_16 FU (0 : Int32) (mrgS (fun k => if k < 5 then 28 + k else 2 + (k - 5)) 10 s z1.2)
theorem okX5_melted : MtF 3 mX5_melted lyM rvI (fun _ pl => [.ref (pl 0)]) (fX5_melted) := by
  refine MtF.of (by decide +kernel) rfl (fun _ pl => Nat.le_of_ble_eq_true rfl) (fun G pl h0 s => ?_)
  refine ef_sub (lv := [(0, .ref (pl 0))]) (lv' := [(0, .ref (pl 0))]) [0] rfl ?_
  exact okX5_melted_0  s
-- X5_toldFault
theorem dX5_toldFault_0 : decode cX5_toldFault 0 = .ok (.iload_n 2, 1) := by decide +kernel
theorem dX5_toldFault_1 : decode cX5_toldFault 1 = .ok (.iload_n 3, 1) := by decide +kernel
theorem dX5_toldFault_2 : decode cX5_toldFault 2 = .ok (.iload 4, 2) := by decide +kernel
theorem dX5_toldFault_4 : decode cX5_toldFault 4 = .ok (.invokestatic 62, 3) := by decide +kernel
theorem dX5_toldFault_7 : decode cX5_toldFault 7 = .ok (.ifCond .ne 6, 3) := by decide +kernel
theorem dX5_toldFault_10 : decode cX5_toldFault 10 = .ok (.bipush (-2), 2) := by decide +kernel
theorem dX5_toldFault_12 : decode cX5_toldFault 12 = .ok (.ireturn, 1) := by decide +kernel
theorem dX5_toldFault_13 : decode cX5_toldFault 13 = .ok (.aload_n 0, 1) := by decide +kernel
theorem dX5_toldFault_14 : decode cX5_toldFault 14 = .ok (.iload_n 1, 1) := by decide +kernel
theorem dX5_toldFault_15 : decode cX5_toldFault 15 = .ok (.invokevirtual 74, 3) := by decide +kernel
theorem dX5_toldFault_18 : decode cX5_toldFault 18 = .ok (.istore 5, 2) := by decide +kernel
theorem dX5_toldFault_20 : decode cX5_toldFault 20 = .ok (.iload 5, 2) := by decide +kernel
theorem dX5_toldFault_22 : decode cX5_toldFault 22 = .ok (.ifCond .eq 6, 3) := by decide +kernel
theorem dX5_toldFault_25 : decode cX5_toldFault 25 = .ok (.iload 5, 2) := by decide +kernel
theorem dX5_toldFault_27 : decode cX5_toldFault 27 = .ok (.ireturn, 1) := by decide +kernel
theorem dX5_toldFault_28 : decode cX5_toldFault 28 = .ok (.iload_n 2, 1) := by decide +kernel
theorem dX5_toldFault_29 : decode cX5_toldFault 29 = .ok (.aload_n 0, 1) := by decide +kernel
theorem dX5_toldFault_30 : decode cX5_toldFault 30 = .ok (.getfield 38, 3) := by decide +kernel
theorem dX5_toldFault_33 : decode cX5_toldFault 33 = .ok (.iload_n 1, 1) := by decide +kernel
theorem dX5_toldFault_34 : decode cX5_toldFault 34 = .ok (.aaload, 1) := by decide +kernel
theorem dX5_toldFault_35 : decode cX5_toldFault 35 = .ok (.getfield 77, 3) := by decide +kernel
theorem dX5_toldFault_38 : decode cX5_toldFault 38 = .ok (.if_icmp .le 8, 3) := by decide +kernel
theorem dX5_toldFault_41 : decode cX5_toldFault 41 = .ok (.bipush (-2), 2) := by decide +kernel
theorem dX5_toldFault_43 : decode cX5_toldFault 43 = .ok (.goto 4, 3) := by decide +kernel
theorem dX5_toldFault_46 : decode cX5_toldFault 46 = .ok (.iconst 0, 1) := by decide +kernel
theorem dX5_toldFault_47 : decode cX5_toldFault 47 = .ok (.ireturn, 1) := by decide +kernel
def fX5_toldFault_0 (x1 : Int32) (x2 : Int32) (x3 : Int32) (x4 : Int32) (s : SS) : Option (Int32 × SS) := ((fX5_isWithin x2 x3 x4 s).bind fun z1 => if z1.1 = 0 then (some ((-2 : Int32), s)) else (((fX5_rowFault x1 s).bind fun z3 => if z3.1 = 0 then (if ixB x1 8 then (if x2 ≤ (z3.2.1 (61 + 2 * x1.toNatClampNeg) 1) then (some ((0 : Int32), z3.2)) else (some ((-2 : Int32), z3.2))) else none) else (some (z3.1, z3.2)))))
def fX5_toldFault (x1 : Int32) (x2 : Int32) (x3 : Int32) (x4 : Int32) (s : SS) : Option (Int32 × SS) := fX5_toldFault_0 x1 x2 x3 x4 s
set_option maxRecDepth 100000 in
set_option maxHeartbeats 4000000 in
theorem okX5_toldFault_0 {G : GG} {pl : Nat → Nat} {h0 : PH} (x1 : Int32) (x2 : Int32) (x3 : Int32) (x4 : Int32) (s : SS) : EvF G 3 mX5_toldFault lyM pl h0 rvI (fX5_toldFault_0 x1 x2 x3 x4 s) 0 [(0, .ref (pl 0)), (1, .int x1), (2, .int x2), (3, .int x3), (4, .int x4)] [] s := by
  unfold fX5_toldFault_0
  refine ef_iload_n (q := 1) 2 dX5_toldFault_0 rfl rfl rfl ?_
  refine ef_iload_n (q := 2) 3 dX5_toldFault_1 rfl rfl rfl ?_
  refine ef_iload (q := 4) 4 dX5_toldFault_2 rfl rfl ?_
  refine ef_invPI0 (As := [.int x2, .int x3, .int x4]) (rest := []) (q := 7) (okX5_isWithin x2 x3 x4) rfl calX5_isWithin ml5_62 (by decide) rfl rfl (Nat.le_of_ble_eq_true rfl) dX5_toldFault_4 rfl (fun z1 => ?_)
  refine ef_if (pt := 10) (pf := 13) (fun _ _ kt kf => ev_if_ne (tgt := 13) dX5_toldFault_7 (by decide) kf kt) (fun h2 => ?_) (fun h2 => ?_)
  · refine ef_bipush (v := (-2 : Int32)) (q := 12) dX5_toldFault_10 (by decide) rfl ?_
    exact ef_iret rfl dX5_toldFault_12
  · refine ef_aload_n (q := 14) 0 dX5_toldFault_13 rfl rfl rfl ?_
    refine ef_iload_n (q := 15) 1 dX5_toldFault_14 rfl rfl rfl ?_
    refine ef_invVI0 (k := 0) (As := [.int x1]) (rest := []) (q := 18) (okX5_rowFault x1) rfl calX5_rowFault ml5_74 (by decide) rfl rfl rfl (Nat.le_of_ble_eq_true rfl) dX5_toldFault_15 rfl (fun z3 => ?_)
    refine ef_istore (lv' := [(5, .int z3.1), (0, .ref (pl 0)), (1, .int x1), (2, .int x2), (3, .int x3), (4, .int x4)]) (q := 20) dX5_toldFault_18 (by decide) rfl rfl ?_
    refine ef_iload (q := 22) 0 dX5_toldFault_20 rfl rfl ?_
    refine ef_if (pt := 28) (pf := 25) (fun _ _ => ev_if_eq (tgt := 28) dX5_toldFault_22 (by decide)) (fun h4 => ?_) (fun h4 => ?_)
    · refine ef_iload_n (q := 29) 3 dX5_toldFault_28 rfl rfl rfl ?_
      refine ef_aload_n (q := 30) 1 dX5_toldFault_29 rfl rfl rfl ?_
      refine ef_getR (t := 57) (q := 33) rfl fl5_38 rfl rfl dX5_toldFault_30 rfl ?_
      refine ef_iload_n (q := 34) 2 dX5_toldFault_33 rfl rfl rfl ?_
      refine ef_guard (fun g5 => ?_)
      refine ef_aaload (t0 := 61 + 2 * x1.toNatClampNeg) (q := 35) rfl (by decide) lyM_t57 g5 dX5_toldFault_34 rfl rfl ?_
      refine ef_getI (x := z3.2.1 (61 + 2 * x1.toNatClampNeg) 1) (q := 38) (lyM_f57_0 _ (ixB_lt g5)) fl5_77 rfl rfl dX5_toldFault_35 rfl ?_
      refine ef_if (pt := 46) (pf := 41) (fun _ _ => ev_icmp_le (tgt := 46) dX5_toldFault_38 (by decide)) (fun h6 => ?_) (fun h6 => ?_)
      · refine ef_iconst (v := (0 : Int32)) (q := 47) dX5_toldFault_46 (by decide) rfl ?_
        exact ef_iret rfl dX5_toldFault_47
      · refine ef_bipush (v := (-2 : Int32)) (q := 43) dX5_toldFault_41 (by decide) rfl ?_
        refine ef_goto (tgt := 47) dX5_toldFault_43 (by decide) ?_
        exact ef_iret rfl dX5_toldFault_47
    · refine ef_iload (q := 27) 0 dX5_toldFault_25 rfl rfl ?_
      exact ef_iret rfl dX5_toldFault_27
theorem okX5_toldFault (x1 : Int32) (x2 : Int32) (x3 : Int32) (x4 : Int32) : MtF 3 mX5_toldFault lyM rvI (fun _ pl => [.ref (pl 0), .int x1, .int x2, .int x3, .int x4]) (fX5_toldFault x1 x2 x3 x4) := by
  refine MtF.of (by decide +kernel) rfl (fun _ pl => Nat.le_of_ble_eq_true rfl) (fun G pl h0 s => ?_)
  refine ef_sub (lv := [(0, .ref (pl 0)), (1, .int x1), (2, .int x2), (3, .int x3), (4, .int x4)]) (lv' := [(0, .ref (pl 0)), (1, .int x1), (2, .int x2), (3, .int x3), (4, .int x4)]) [0, 1, 2, 3, 4] rfl ?_
  exact okX5_toldFault_0  x1 x2 x3 x4 s
-- X5_wrongTold
theorem dX5_wrongTold_0 : decode cX5_wrongTold 0 = .ok (.iconst 0, 1) := by decide +kernel
theorem dX5_wrongTold_1 : decode cX5_wrongTold 1 = .ok (.istore_n 3, 1) := by decide +kernel
theorem dX5_wrongTold_2 : decode cX5_wrongTold 2 = .ok (.iload_n 3, 1) := by decide +kernel
theorem dX5_wrongTold_3 : decode cX5_wrongTold 3 = .ok (.iload_n 2, 1) := by decide +kernel
theorem dX5_wrongTold_4 : decode cX5_wrongTold 4 = .ok (.if_icmp .ge 56, 3) := by decide +kernel
theorem dX5_wrongTold_7 : decode cX5_wrongTold 7 = .ok (.aload_n 0, 1) := by decide +kernel
theorem dX5_wrongTold_8 : decode cX5_wrongTold 8 = .ok (.getfield 38, 3) := by decide +kernel
theorem dX5_wrongTold_11 : decode cX5_wrongTold 11 = .ok (.iload_n 1, 1) := by decide +kernel
theorem dX5_wrongTold_12 : decode cX5_wrongTold 12 = .ok (.aaload, 1) := by decide +kernel
theorem dX5_wrongTold_13 : decode cX5_wrongTold 13 = .ok (.getfield 89, 3) := by decide +kernel
theorem dX5_wrongTold_16 : decode cX5_wrongTold 16 = .ok (.iload_n 3, 1) := by decide +kernel
theorem dX5_wrongTold_17 : decode cX5_wrongTold 17 = .ok (.laload, 1) := by decide +kernel
theorem dX5_wrongTold_18 : decode cX5_wrongTold 18 = .ok (.lstore 4, 2) := by decide +kernel
theorem dX5_wrongTold_20 : decode cX5_wrongTold 20 = .ok (.lload 4, 2) := by decide +kernel
theorem dX5_wrongTold_22 : decode cX5_wrongTold 22 = .ok (.lconst 0, 1) := by decide +kernel
theorem dX5_wrongTold_23 : decode cX5_wrongTold 23 = .ok (.lcmp, 1) := by decide +kernel
theorem dX5_wrongTold_24 : decode cX5_wrongTold 24 = .ok (.ifCond .lt 28, 3) := by decide +kernel
theorem dX5_wrongTold_27 : decode cX5_wrongTold 27 = .ok (.lload 4, 2) := by decide +kernel
theorem dX5_wrongTold_29 : decode cX5_wrongTold 29 = .ok (.ldc2_w 317, 3) := by decide +kernel
theorem dX5_wrongTold_32 : decode cX5_wrongTold 32 = .ok (.lcmp, 1) := by decide +kernel
theorem dX5_wrongTold_33 : decode cX5_wrongTold 33 = .ok (.ifCond .gt 19, 3) := by decide +kernel
theorem dX5_wrongTold_36 : decode cX5_wrongTold 36 = .ok (.aload_n 0, 1) := by decide +kernel
theorem dX5_wrongTold_37 : decode cX5_wrongTold 37 = .ok (.getfield 10, 3) := by decide +kernel
theorem dX5_wrongTold_40 : decode cX5_wrongTold 40 = .ok (.getfield 130, 3) := by decide +kernel
theorem dX5_wrongTold_43 : decode cX5_wrongTold 43 = .ok (.lload 4, 2) := by decide +kernel
theorem dX5_wrongTold_45 : decode cX5_wrongTold 45 = .ok (.l2i, 1) := by decide +kernel
theorem dX5_wrongTold_46 : decode cX5_wrongTold 46 = .ok (.invokevirtual 293, 3) := by decide +kernel
theorem dX5_wrongTold_49 : decode cX5_wrongTold 49 = .ok (.ifCond .ne 5, 3) := by decide +kernel
theorem dX5_wrongTold_52 : decode cX5_wrongTold 52 = .ok (.iload_n 3, 1) := by decide +kernel
theorem dX5_wrongTold_53 : decode cX5_wrongTold 53 = .ok (.ireturn, 1) := by decide +kernel
theorem dX5_wrongTold_54 : decode cX5_wrongTold 54 = .ok (.iinc 3 1, 3) := by decide +kernel
theorem dX5_wrongTold_57 : decode cX5_wrongTold 57 = .ok (.goto (-55), 3) := by decide +kernel
theorem dX5_wrongTold_60 : decode cX5_wrongTold 60 = .ok (.iconst (-1), 1) := by decide +kernel
theorem dX5_wrongTold_61 : decode cX5_wrongTold 61 = .ok (.ireturn, 1) := by decide +kernel
def fX5_wrongTold_2 : Nat → Int32 → Int32 → Int32 → SS → Option (Int32 × SS)
  | 0, _, _, _, _ => none
  | n + 1, x1, x2, x3, s => if x2 ≤ x3 then (some ((-1 : Int32), s)) else (if ixB x1 8 then (if ixB x3 40 then (if (lg_cmp (s.2 (61 + 2 * x1.toNatClampNeg + 1) x3.toNatClampNeg) (0 : Int64)) < 0 then (some (x3, s)) else (if 0 < (lg_cmp (s.2 (61 + 2 * x1.toNatClampNeg + 1) x3.toNatClampNeg) (6 : Int64)) then (some (x3, s)) else (((fX0_canDo ((s.2 (61 + 2 * x1.toNatClampNeg + 1) x3.toNatClampNeg).toInt32) (selS (fun k => 2 + k) s)).bind fun z6 => if z6.1 = 0 then (some (x3, mrgS (fun k => 2 + k) 5 s z6.2)) else (fX5_wrongTold_2 n x1 x2 (x3 + (1 : Int32)) (mrgS (fun k => 2 + k) 5 s z6.2)))))) else none) else none)
def fX5_wrongTold_0 (x1 : Int32) (x2 : Int32) (s : SS) : Option (Int32 × SS) := fX5_wrongTold_2 FU x1 x2 (0 : Int32) s
def fX5_wrongTold (x1 : Int32) (x2 : Int32) (s : SS) : Option (Int32 × SS) := fX5_wrongTold_0 x1 x2 s
set_option maxRecDepth 100000 in
set_option maxHeartbeats 4000000 in
theorem okX5_wrongTold_2 {G : GG} {pl : Nat → Nat} {h0 : PH} : ∀ (n : Nat) (x1 : Int32) (x2 : Int32) (x3 : Int32) (s : SS), EvF G 1 mX5_wrongTold lyM pl h0 rvI (fX5_wrongTold_2 n x1 x2 x3 s) 2 [(0, .ref (pl 0)), (1, .int x1), (2, .int x2), (3, .int x3)] [] s := by
  intro n
  induction n with
  | zero => intro x1 x2 x3 s; rw [fX5_wrongTold_2]; exact ef_none
  | succ n ih =>
    intro x1 x2 x3 s
    rw [fX5_wrongTold_2]
    refine ef_iload_n (q := 3) 3 dX5_wrongTold_2 rfl rfl rfl ?_
    refine ef_iload_n (q := 4) 2 dX5_wrongTold_3 rfl rfl rfl ?_
    refine ef_if (pt := 60) (pf := 7) (fun _ _ => ev_icmp_ge (tgt := 60) dX5_wrongTold_4 (by decide)) (fun h1 => ?_) (fun h1 => ?_)
    · refine ef_iconst (v := (-1 : Int32)) (q := 61) dX5_wrongTold_60 (by decide) rfl ?_
      exact ef_iret rfl dX5_wrongTold_61
    · refine ef_aload_n (q := 8) 0 dX5_wrongTold_7 rfl rfl rfl ?_
      refine ef_getR (t := 57) (q := 11) rfl fl5_38 rfl rfl dX5_wrongTold_8 rfl ?_
      refine ef_iload_n (q := 12) 1 dX5_wrongTold_11 rfl rfl rfl ?_
      refine ef_guard (fun g2 => ?_)
      refine ef_aaload (t0 := 61 + 2 * x1.toNatClampNeg) (q := 13) rfl (by decide) lyM_t57 g2 dX5_wrongTold_12 rfl rfl ?_
      refine ef_getR (t := 61 + 2 * x1.toNatClampNeg + 1) (q := 16) (lyM_f57_0 _ (ixB_lt g2)) fl5_89 rfl rfl dX5_wrongTold_13 rfl ?_
      refine ef_iload_n (q := 17) 3 dX5_wrongTold_16 rfl rfl rfl ?_
      refine ef_guard (fun g3 => ?_)
      refine ef_laload (x := s.2 (61 + 2 * x1.toNatClampNeg + 1) x3.toNatClampNeg) (q := 18) (lyM_f57_1 _ (ixB_lt g2)) g3 dX5_wrongTold_17 rfl rfl ?_
      refine ef_lstore (lv' := [(4, .long (s.2 (61 + 2 * x1.toNatClampNeg + 1) x3.toNatClampNeg)), (0, .ref (pl 0)), (1, .int x1), (2, .int x2), (3, .int x3)]) (q := 20) dX5_wrongTold_18 (by decide) rfl rfl ?_
      refine ef_lload (q := 22) 0 dX5_wrongTold_20 rfl rfl ?_
      refine ef_lconst (v := (0 : Int64)) (q := 23) dX5_wrongTold_22 (by decide) rfl ?_
      refine ef_lcmp (q := 24) dX5_wrongTold_23 rfl ?_
      refine ef_if (pt := 52) (pf := 27) (fun _ _ => ev_if_lt (tgt := 52) dX5_wrongTold_24 (by decide)) (fun h4 => ?_) (fun h4 => ?_)
      · refine ef_iload_n (q := 53) 4 dX5_wrongTold_52 rfl rfl rfl ?_
        exact ef_iret rfl dX5_wrongTold_53
      · refine ef_lload (q := 29) 0 dX5_wrongTold_27 rfl rfl ?_
        refine ef_ldc2 (v := (6 : Int64)) (q := 32) k5_317 dX5_wrongTold_29 rfl ?_
        refine ef_lcmp (q := 33) dX5_wrongTold_32 rfl ?_
        refine ef_if (pt := 52) (pf := 36) (fun _ _ => ev_if_gt (tgt := 52) dX5_wrongTold_33 (by decide)) (fun h5 => ?_) (fun h5 => ?_)
        · refine ef_iload_n (q := 53) 4 dX5_wrongTold_52 rfl rfl rfl ?_
          exact ef_iret rfl dX5_wrongTold_53
        · refine ef_aload_n (q := 37) 1 dX5_wrongTold_36 rfl rfl rfl ?_
          refine ef_getR (t := 1) (q := 40) rfl fl5_10 rfl rfl dX5_wrongTold_37 rfl ?_
          refine ef_getR (t := 2) (q := 43) rfl fl5_130 rfl rfl dX5_wrongTold_40 rfl ?_
          refine ef_lload (q := 45) 0 dX5_wrongTold_43 rfl rfl ?_
          refine ef_l2i (v := (s.2 (61 + 2 * x1.toNatClampNeg + 1) x3.toNatClampNeg).toInt32) (q := 46) dX5_wrongTold_45 rfl rfl ?_
          refine ef_invVI (k := 2) (nn := 5) (π := (fun k => 2 + k)) (As := [.int ((s.2 (61 + 2 * x1.toNatClampNeg + 1) x3.toNatClampNeg).toInt32)]) (rest := []) (q := 49) (okX0_canDo ((s.2 (61 + 2 * x1.toNatClampNeg + 1) x3.toNatClampNeg).toInt32)) (by decide +kernel) rfl calX0_canDo ml5_293 (by decide) rfl rfl rfl (Nat.le_of_ble_eq_true rfl) dX5_wrongTold_46 rfl rfl (fun z6 => ?_)
          refine ef_if (pt := 52) (pf := 54) (fun _ _ kt kf => ev_if_ne (tgt := 54) dX5_wrongTold_49 (by decide) kf kt) (fun h7 => ?_) (fun h7 => ?_)
          · refine ef_iload_n (q := 53) 4 dX5_wrongTold_52 rfl rfl rfl ?_
            exact ef_iret rfl dX5_wrongTold_53
          · refine ef_iinc (v := x3 + (1 : Int32)) (lv' := [(3, .int (x3 + (1 : Int32))), (4, .long (s.2 (61 + 2 * x1.toNatClampNeg + 1) x3.toNatClampNeg)), (0, .ref (pl 0)), (1, .int x1), (2, .int x2)]) (q := 57) 4 dX5_wrongTold_54 rfl rfl (by decide) rfl rfl ?_
            refine ef_goto (tgt := 2) dX5_wrongTold_57 (by decide) ?_
            refine ef_sub (lv' := [(0, .ref (pl 0)), (1, .int x1), (2, .int x2), (3, .int (x3 + (1 : Int32)))]) [2, 3, 4, 0] rfl ?_
            exact ih x1 x2 (x3 + (1 : Int32)) (mrgS (fun k => 2 + k) 5 s z6.2)
set_option maxRecDepth 100000 in
set_option maxHeartbeats 4000000 in
theorem okX5_wrongTold_0 {G : GG} {pl : Nat → Nat} {h0 : PH} (x1 : Int32) (x2 : Int32) (s : SS) : EvF G 1 mX5_wrongTold lyM pl h0 rvI (fX5_wrongTold_0 x1 x2 s) 0 [(0, .ref (pl 0)), (1, .int x1), (2, .int x2)] [] s := by
  unfold fX5_wrongTold_0
  refine ef_iconst (v := (0 : Int32)) (q := 1) dX5_wrongTold_0 (by decide) rfl ?_
  refine ef_istore_n (lv' := [(3, .int (0 : Int32)), (0, .ref (pl 0)), (1, .int x1), (2, .int x2)]) (q := 2) dX5_wrongTold_1 rfl (by decide) rfl rfl ?_
  refine ef_sub (lv' := [(0, .ref (pl 0)), (1, .int x1), (2, .int x2), (3, .int (0 : Int32))]) [1, 2, 3, 0] rfl ?_
  exact okX5_wrongTold_2 FU x1 x2 (0 : Int32) s
theorem okX5_wrongTold (x1 : Int32) (x2 : Int32) : MtF 1 mX5_wrongTold lyM rvI (fun _ pl => [.ref (pl 0), .int x1, .int x2]) (fX5_wrongTold x1 x2) := by
  refine MtF.of (by decide +kernel) rfl (fun _ pl => Nat.le_of_ble_eq_true rfl) (fun G pl h0 s => ?_)
  refine ef_sub (lv := [(0, .ref (pl 0)), (1, .int x1), (2, .int x2)]) (lv' := [(0, .ref (pl 0)), (1, .int x1), (2, .int x2)]) [0, 1, 2] rfl ?_
  exact okX5_wrongTold_0  x1 x2 s
-- X5_judge
theorem dX5_judge_0 : decode cX5_judge 0 = .ok (.aload_n 0, 1) := by decide +kernel
theorem dX5_judge_1 : decode cX5_judge 1 = .ok (.iload_n 1, 1) := by decide +kernel
theorem dX5_judge_2 : decode cX5_judge 2 = .ok (.iload_n 2, 1) := by decide +kernel
theorem dX5_judge_3 : decode cX5_judge 3 = .ok (.iconst 0, 1) := by decide +kernel
theorem dX5_judge_4 : decode cX5_judge 4 = .ok (.bipush 40, 2) := by decide +kernel
theorem dX5_judge_6 : decode cX5_judge 6 = .ok (.invokevirtual 274, 3) := by decide +kernel
theorem dX5_judge_9 : decode cX5_judge 9 = .ok (.istore_n 3, 1) := by decide +kernel
theorem dX5_judge_10 : decode cX5_judge 10 = .ok (.iload_n 3, 1) := by decide +kernel
theorem dX5_judge_11 : decode cX5_judge 11 = .ok (.ifCond .eq 11, 3) := by decide +kernel
theorem dX5_judge_14 : decode cX5_judge 14 = .ok (.aload_n 0, 1) := by decide +kernel
theorem dX5_judge_15 : decode cX5_judge 15 = .ok (.iload_n 3, 1) := by decide +kernel
theorem dX5_judge_16 : decode cX5_judge 16 = .ok (.invokevirtual 66, 3) := by decide +kernel
theorem dX5_judge_19 : decode cX5_judge 19 = .ok (.goto 9, 3) := by decide +kernel
theorem dX5_judge_22 : decode cX5_judge 22 = .ok (.aload_n 0, 1) := by decide +kernel
theorem dX5_judge_23 : decode cX5_judge 23 = .ok (.iload_n 1, 1) := by decide +kernel
theorem dX5_judge_24 : decode cX5_judge 24 = .ok (.iload_n 2, 1) := by decide +kernel
theorem dX5_judge_25 : decode cX5_judge 25 = .ok (.invokevirtual 278, 3) := by decide +kernel
theorem dX5_judge_28 : decode cX5_judge 28 = .ok (.ireturn, 1) := by decide +kernel
def fX5_judge_0 (x1 : Int32) (x2 : Int32) (s : SS) : Option (Int32 × SS) := ((fX5_toldFault x1 x2 (0 : Int32) (40 : Int32) s).bind fun z1 => if z1.1 = 0 then (((fX5_wrongTold x1 x2 z1.2).bind fun z3 => some (z3.1, z3.2))) else (((fX5_refuse z1.1 z1.2).bind fun z4 => some (z4.1, z4.2))))
def fX5_judge (x1 : Int32) (x2 : Int32) (s : SS) : Option (Int32 × SS) := fX5_judge_0 x1 x2 s
set_option maxRecDepth 100000 in
set_option maxHeartbeats 4000000 in
theorem okX5_judge_0 {G : GG} {pl : Nat → Nat} {h0 : PH} (x1 : Int32) (x2 : Int32) (s : SS) : EvF G 4 mX5_judge lyM pl h0 rvI (fX5_judge_0 x1 x2 s) 0 [(0, .ref (pl 0)), (1, .int x1), (2, .int x2)] [] s := by
  unfold fX5_judge_0
  refine ef_aload_n (q := 1) 0 dX5_judge_0 rfl rfl rfl ?_
  refine ef_iload_n (q := 2) 1 dX5_judge_1 rfl rfl rfl ?_
  refine ef_iload_n (q := 3) 2 dX5_judge_2 rfl rfl rfl ?_
  refine ef_iconst (v := (0 : Int32)) (q := 4) dX5_judge_3 (by decide) rfl ?_
  refine ef_bipush (v := (40 : Int32)) (q := 6) dX5_judge_4 (by decide) rfl ?_
  refine ef_invVI0 (k := 0) (As := [.int x1, .int x2, .int (0 : Int32), .int (40 : Int32)]) (rest := []) (q := 9) (okX5_toldFault x1 x2 (0 : Int32) (40 : Int32)) rfl calX5_toldFault ml5_274 (by decide) rfl rfl rfl (Nat.le_of_ble_eq_true rfl) dX5_judge_6 rfl (fun z1 => ?_)
  refine ef_istore_n (lv' := [(3, .int z1.1), (0, .ref (pl 0)), (1, .int x1), (2, .int x2)]) (q := 10) dX5_judge_9 rfl (by decide) rfl rfl ?_
  refine ef_iload_n (q := 11) 0 dX5_judge_10 rfl rfl rfl ?_
  refine ef_if (pt := 22) (pf := 14) (fun _ _ => ev_if_eq (tgt := 22) dX5_judge_11 (by decide)) (fun h2 => ?_) (fun h2 => ?_)
  · refine ef_aload_n (q := 23) 1 dX5_judge_22 rfl rfl rfl ?_
    refine ef_iload_n (q := 24) 2 dX5_judge_23 rfl rfl rfl ?_
    refine ef_iload_n (q := 25) 3 dX5_judge_24 rfl rfl rfl ?_
    refine ef_invVI0 (k := 0) (As := [.int x1, .int x2]) (rest := []) (q := 28) (okX5_wrongTold x1 x2) rfl calX5_wrongTold ml5_278 (by decide) rfl rfl rfl (Nat.le_of_ble_eq_true rfl) dX5_judge_25 rfl (fun z3 => ?_)
    exact ef_iret rfl dX5_judge_28
  · refine ef_aload_n (q := 15) 1 dX5_judge_14 rfl rfl rfl ?_
    refine ef_iload_n (q := 16) 0 dX5_judge_15 rfl rfl rfl ?_
    refine ef_invVI0 (k := 0) (As := [.int z1.1]) (rest := []) (q := 19) (okX5_refuse z1.1) rfl calX5_refuse ml5_66 (by decide) rfl rfl rfl (Nat.le_of_ble_eq_true rfl) dX5_judge_16 rfl (fun z4 => ?_)
    refine ef_goto (tgt := 28) dX5_judge_19 (by decide) ?_
    exact ef_iret rfl dX5_judge_28
theorem okX5_judge (x1 : Int32) (x2 : Int32) : MtF 4 mX5_judge lyM rvI (fun _ pl => [.ref (pl 0), .int x1, .int x2]) (fX5_judge x1 x2) := by
  refine MtF.of (by decide +kernel) rfl (fun _ pl => Nat.le_of_ble_eq_true rfl) (fun G pl h0 s => ?_)
  refine ef_sub (lv := [(0, .ref (pl 0)), (1, .int x1), (2, .int x2)]) (lv' := [(0, .ref (pl 0)), (1, .int x1), (2, .int x2)]) [0, 1, 2] rfl ?_
  exact okX5_judge_0  x1 x2 s
-- X5_behind
theorem dX5_behind_0 : decode cX5_behind 0 = .ok (.iload_n 3, 1) := by decide +kernel
theorem dX5_behind_1 : decode cX5_behind 1 = .ok (.iconst 0, 1) := by decide +kernel
theorem dX5_behind_2 : decode cX5_behind 2 = .ok (.iconst 3, 1) := by decide +kernel
theorem dX5_behind_3 : decode cX5_behind 3 = .ok (.invokestatic 62, 3) := by decide +kernel
theorem dX5_behind_6 : decode cX5_behind 6 = .ok (.ifCond .eq 15, 3) := by decide +kernel
theorem dX5_behind_9 : decode cX5_behind 9 = .ok (.aload_n 0, 1) := by decide +kernel
theorem dX5_behind_10 : decode cX5_behind 10 = .ok (.iload_n 1, 1) := by decide +kernel
theorem dX5_behind_11 : decode cX5_behind 11 = .ok (.iload_n 2, 1) := by decide +kernel
theorem dX5_behind_12 : decode cX5_behind 12 = .ok (.iconst 0, 1) := by decide +kernel
theorem dX5_behind_13 : decode cX5_behind 13 = .ok (.bipush 40, 2) := by decide +kernel
theorem dX5_behind_15 : decode cX5_behind 15 = .ok (.invokevirtual 274, 3) := by decide +kernel
theorem dX5_behind_18 : decode cX5_behind 18 = .ok (.goto 5, 3) := by decide +kernel
theorem dX5_behind_21 : decode cX5_behind 21 = .ok (.bipush (-2), 2) := by decide +kernel
theorem dX5_behind_23 : decode cX5_behind 23 = .ok (.istore 4, 2) := by decide +kernel
theorem dX5_behind_25 : decode cX5_behind 25 = .ok (.iload 4, 2) := by decide +kernel
theorem dX5_behind_27 : decode cX5_behind 27 = .ok (.ifCond .eq 10, 3) := by decide +kernel
theorem dX5_behind_30 : decode cX5_behind 30 = .ok (.aload_n 0, 1) := by decide +kernel
theorem dX5_behind_31 : decode cX5_behind 31 = .ok (.iload 4, 2) := by decide +kernel
theorem dX5_behind_33 : decode cX5_behind 33 = .ok (.invokevirtual 66, 3) := by decide +kernel
theorem dX5_behind_36 : decode cX5_behind 36 = .ok (.ireturn, 1) := by decide +kernel
theorem dX5_behind_37 : decode cX5_behind 37 = .ok (.aload_n 0, 1) := by decide +kernel
theorem dX5_behind_38 : decode cX5_behind 38 = .ok (.iload_n 1, 1) := by decide +kernel
theorem dX5_behind_39 : decode cX5_behind 39 = .ok (.iload_n 2, 1) := by decide +kernel
theorem dX5_behind_40 : decode cX5_behind 40 = .ok (.invokevirtual 278, 3) := by decide +kernel
theorem dX5_behind_43 : decode cX5_behind 43 = .ok (.iconst (-1), 1) := by decide +kernel
theorem dX5_behind_44 : decode cX5_behind 44 = .ok (.if_icmp .eq 10, 3) := by decide +kernel
theorem dX5_behind_47 : decode cX5_behind 47 = .ok (.aload_n 0, 1) := by decide +kernel
theorem dX5_behind_48 : decode cX5_behind 48 = .ok (.bipush (-5), 2) := by decide +kernel
theorem dX5_behind_50 : decode cX5_behind 50 = .ok (.invokevirtual 66, 3) := by decide +kernel
theorem dX5_behind_53 : decode cX5_behind 53 = .ok (.ireturn, 1) := by decide +kernel
theorem dX5_behind_54 : decode cX5_behind 54 = .ok (.aload_n 0, 1) := by decide +kernel
theorem dX5_behind_55 : decode cX5_behind 55 = .ok (.getfield 25, 3) := by decide +kernel
theorem dX5_behind_58 : decode cX5_behind 58 = .ok (.aload_n 0, 1) := by decide +kernel
theorem dX5_behind_59 : decode cX5_behind 59 = .ok (.getfield 10, 3) := by decide +kernel
theorem dX5_behind_62 : decode cX5_behind 62 = .ok (.getfield 130, 3) := by decide +kernel
theorem dX5_behind_65 : decode cX5_behind 65 = .ok (.invokevirtual 218, 3) := by decide +kernel
theorem dX5_behind_68 : decode cX5_behind 68 = .ok (.iconst 0, 1) := by decide +kernel
theorem dX5_behind_69 : decode cX5_behind 69 = .ok (.istore 5, 2) := by decide +kernel
theorem dX5_behind_71 : decode cX5_behind 71 = .ok (.iload 5, 2) := by decide +kernel
theorem dX5_behind_73 : decode cX5_behind 73 = .ok (.iload_n 2, 1) := by decide +kernel
theorem dX5_behind_74 : decode cX5_behind 74 = .ok (.if_icmp .ge 29, 3) := by decide +kernel
theorem dX5_behind_77 : decode cX5_behind 77 = .ok (.aload_n 0, 1) := by decide +kernel
theorem dX5_behind_78 : decode cX5_behind 78 = .ok (.getfield 25, 3) := by decide +kernel
theorem dX5_behind_81 : decode cX5_behind 81 = .ok (.aload_n 0, 1) := by decide +kernel
theorem dX5_behind_82 : decode cX5_behind 82 = .ok (.getfield 38, 3) := by decide +kernel
theorem dX5_behind_85 : decode cX5_behind 85 = .ok (.iload_n 1, 1) := by decide +kernel
theorem dX5_behind_86 : decode cX5_behind 86 = .ok (.aaload, 1) := by decide +kernel
theorem dX5_behind_87 : decode cX5_behind 87 = .ok (.getfield 89, 3) := by decide +kernel
theorem dX5_behind_90 : decode cX5_behind 90 = .ok (.iload 5, 2) := by decide +kernel
theorem dX5_behind_92 : decode cX5_behind 92 = .ok (.laload, 1) := by decide +kernel
theorem dX5_behind_93 : decode cX5_behind 93 = .ok (.l2i, 1) := by decide +kernel
theorem dX5_behind_94 : decode cX5_behind 94 = .ok (.invokevirtual 224, 3) := by decide +kernel
theorem dX5_behind_97 : decode cX5_behind 97 = .ok (.iinc 5 1, 3) := by decide +kernel
theorem dX5_behind_100 : decode cX5_behind 100 = .ok (.goto (-29), 3) := by decide +kernel
theorem dX5_behind_103 : decode cX5_behind 103 = .ok (.aload_n 0, 1) := by decide +kernel
theorem dX5_behind_104 : decode cX5_behind 104 = .ok (.iload_n 3, 1) := by decide +kernel
theorem dX5_behind_105 : decode cX5_behind 105 = .ok (.invokevirtual 233, 3) := by decide +kernel
theorem dX5_behind_108 : decode cX5_behind 108 = .ok (.ireturn, 1) := by decide +kernel
def fX5_behind_71 : Nat → Int32 → Int32 → Int32 → Int32 → SS → Option (Int32 × SS)
  | 0, _, _, _, _, _ => none
  | n + 1, x1, x2, x3, x5, s => if x2 ≤ x5 then (((fX5_thoughtResult x3 s).bind fun z2 => some (z2.1, z2.2))) else (if ixB x1 8 then (if ixB x5 40 then (((fX0_pass ((s.2 (61 + 2 * x1.toNatClampNeg + 1) x5.toNatClampNeg).toInt32) (selS (fun k => 28 + k) s)).bind fun z5 => fX5_behind_71 n x1 x2 x3 (x5 + (1 : Int32)) (mrgS (fun k => 28 + k) 5 s z5.2))) else none) else none)
def fX5_behind_23 (x1 : Int32) (x2 : Int32) (x3 : Int32) (y0 : Int32) (s : SS) : Option (Int32 × SS) := if y0 = 0 then (((fX5_wrongTold x1 x2 s).bind fun z2 => if z2.1 = (-1 : Int32) then (((fX0_takeFrom (selS (fun k => if k < 5 then 28 + k else 2 + (k - 5)) z2.2)).bind fun z4 => fX5_behind_71 FU x1 x2 x3 (0 : Int32) (mrgS (fun k => if k < 5 then 28 + k else 2 + (k - 5)) 10 z2.2 z4.2))) else (((fX5_refuse (-5 : Int32) z2.2).bind fun z5 => some (z5.1, z5.2))))) else (((fX5_refuse y0 s).bind fun z6 => some (z6.1, z6.2)))
def fX5_behind_0 (x1 : Int32) (x2 : Int32) (x3 : Int32) (s : SS) : Option (Int32 × SS) := ((fX5_isWithin x3 (0 : Int32) (3 : Int32) s).bind fun z1 => if z1.1 = 0 then (fX5_behind_23 x1 x2 x3 (-2 : Int32) s) else (((fX5_toldFault x1 x2 (0 : Int32) (40 : Int32) s).bind fun z3 => fX5_behind_23 x1 x2 x3 z3.1 z3.2)))
def fX5_behind (x1 : Int32) (x2 : Int32) (x3 : Int32) (s : SS) : Option (Int32 × SS) := fX5_behind_0 x1 x2 x3 s
set_option maxRecDepth 100000 in
set_option maxHeartbeats 4000000 in
theorem okX5_behind_71 {G : GG} {pl : Nat → Nat} {h0 : PH} : ∀ (n : Nat) (x1 : Int32) (x2 : Int32) (x3 : Int32) (x5 : Int32) (s : SS), EvF G 4 mX5_behind lyM pl h0 rvI (fX5_behind_71 n x1 x2 x3 x5 s) 71 [(0, .ref (pl 0)), (1, .int x1), (2, .int x2), (3, .int x3), (5, .int x5)] [] s := by
  intro n
  induction n with
  | zero => intro x1 x2 x3 x5 s; rw [fX5_behind_71]; exact ef_none
  | succ n ih =>
    intro x1 x2 x3 x5 s
    rw [fX5_behind_71]
    refine ef_iload (q := 73) 4 dX5_behind_71 rfl rfl ?_
    refine ef_iload_n (q := 74) 2 dX5_behind_73 rfl rfl rfl ?_
    refine ef_if (pt := 103) (pf := 77) (fun _ _ => ev_icmp_ge (tgt := 103) dX5_behind_74 (by decide)) (fun h1 => ?_) (fun h1 => ?_)
    · refine ef_aload_n (q := 104) 0 dX5_behind_103 rfl rfl rfl ?_
      refine ef_iload_n (q := 105) 3 dX5_behind_104 rfl rfl rfl ?_
      refine ef_invVI0 (k := 0) (As := [.int x3]) (rest := []) (q := 108) (okX5_thoughtResult x3) rfl calX5_thoughtResult ml5_233 (by decide) rfl rfl rfl (Nat.le_of_ble_eq_true rfl) dX5_behind_105 rfl (fun z2 => ?_)
      exact ef_iret rfl dX5_behind_108
    · refine ef_aload_n (q := 78) 0 dX5_behind_77 rfl rfl rfl ?_
      refine ef_getR (t := 28) (q := 81) rfl fl5_25 rfl rfl dX5_behind_78 rfl ?_
      refine ef_aload_n (q := 82) 0 dX5_behind_81 rfl rfl rfl ?_
      refine ef_getR (t := 57) (q := 85) rfl fl5_38 rfl rfl dX5_behind_82 rfl ?_
      refine ef_iload_n (q := 86) 1 dX5_behind_85 rfl rfl rfl ?_
      refine ef_guard (fun g3 => ?_)
      refine ef_aaload (t0 := 61 + 2 * x1.toNatClampNeg) (q := 87) rfl (by decide) lyM_t57 g3 dX5_behind_86 rfl rfl ?_
      refine ef_getR (t := 61 + 2 * x1.toNatClampNeg + 1) (q := 90) (lyM_f57_0 _ (ixB_lt g3)) fl5_89 rfl rfl dX5_behind_87 rfl ?_
      refine ef_iload (q := 92) 4 dX5_behind_90 rfl rfl ?_
      refine ef_guard (fun g4 => ?_)
      refine ef_laload (x := s.2 (61 + 2 * x1.toNatClampNeg + 1) x5.toNatClampNeg) (q := 93) (lyM_f57_1 _ (ixB_lt g3)) g4 dX5_behind_92 rfl rfl ?_
      refine ef_l2i (v := (s.2 (61 + 2 * x1.toNatClampNeg + 1) x5.toNatClampNeg).toInt32) (q := 94) dX5_behind_93 rfl rfl ?_
      refine ef_invVU (k := 28) (nn := 5) (π := (fun k => 28 + k)) (As := [.int ((s.2 (61 + 2 * x1.toNatClampNeg + 1) x5.toNatClampNeg).toInt32)]) (rest := []) (q := 97) (okX0_pass ((s.2 (61 + 2 * x1.toNatClampNeg + 1) x5.toNatClampNeg).toInt32)) (by decide +kernel) rfl calX0_pass ml5_224 (by decide) rfl rfl rfl (Nat.le_of_ble_eq_true rfl) dX5_behind_94 rfl rfl (fun z5 => ?_)
      refine ef_iinc (v := x5 + (1 : Int32)) (lv' := [(5, .int (x5 + (1 : Int32))), (0, .ref (pl 0)), (1, .int x1), (2, .int x2), (3, .int x3)]) (q := 100) 4 dX5_behind_97 rfl rfl (by decide) rfl rfl ?_
      refine ef_goto (tgt := 71) dX5_behind_100 (by decide) ?_
      refine ef_sub (lv' := [(0, .ref (pl 0)), (1, .int x1), (2, .int x2), (3, .int x3), (5, .int (x5 + (1 : Int32)))]) [1, 2, 3, 4, 0] rfl ?_
      exact ih x1 x2 x3 (x5 + (1 : Int32)) (mrgS (fun k => 28 + k) 5 s z5.2)
set_option maxRecDepth 100000 in
set_option maxHeartbeats 4000000 in
theorem okX5_behind_23 {G : GG} {pl : Nat → Nat} {h0 : PH} (x1 : Int32) (x2 : Int32) (x3 : Int32) (y0 : Int32) (s : SS) : EvF G 4 mX5_behind lyM pl h0 rvI (fX5_behind_23 x1 x2 x3 y0 s) 23 [(0, .ref (pl 0)), (1, .int x1), (2, .int x2), (3, .int x3)] [.int y0] s := by
  unfold fX5_behind_23
  refine ef_istore (lv' := [(4, .int y0), (0, .ref (pl 0)), (1, .int x1), (2, .int x2), (3, .int x3)]) (q := 25) dX5_behind_23 (by decide) rfl rfl ?_
  refine ef_iload (q := 27) 0 dX5_behind_25 rfl rfl ?_
  refine ef_if (pt := 37) (pf := 30) (fun _ _ => ev_if_eq (tgt := 37) dX5_behind_27 (by decide)) (fun h1 => ?_) (fun h1 => ?_)
  · refine ef_aload_n (q := 38) 1 dX5_behind_37 rfl rfl rfl ?_
    refine ef_iload_n (q := 39) 2 dX5_behind_38 rfl rfl rfl ?_
    refine ef_iload_n (q := 40) 3 dX5_behind_39 rfl rfl rfl ?_
    refine ef_invVI0 (k := 0) (As := [.int x1, .int x2]) (rest := []) (q := 43) (okX5_wrongTold x1 x2) rfl calX5_wrongTold ml5_278 (by decide) rfl rfl rfl (Nat.le_of_ble_eq_true rfl) dX5_behind_40 rfl (fun z2 => ?_)
    refine ef_iconst (v := (-1 : Int32)) (q := 44) dX5_behind_43 (by decide) rfl ?_
    refine ef_if (pt := 54) (pf := 47) (fun _ _ => ev_icmp_eq (tgt := 54) dX5_behind_44 (by decide)) (fun h3 => ?_) (fun h3 => ?_)
    · refine ef_aload_n (q := 55) 1 dX5_behind_54 rfl rfl rfl ?_
      refine ef_getR (t := 28) (q := 58) rfl fl5_25 rfl rfl dX5_behind_55 rfl ?_
      refine ef_aload_n (q := 59) 1 dX5_behind_58 rfl rfl rfl ?_
      refine ef_getR (t := 1) (q := 62) rfl fl5_10 rfl rfl dX5_behind_59 rfl ?_
      refine ef_getR (t := 2) (q := 65) rfl fl5_130 rfl rfl dX5_behind_62 rfl ?_
      refine ef_invVU (k := 28) (nn := 10) (π := (fun k => if k < 5 then 28 + k else 2 + (k - 5))) (As := [.ref (pl 2)]) (rest := []) (q := 68) (okX0_takeFrom) (by decide +kernel) rfl calX0_takeFrom ml5_218 (by decide) rfl rfl rfl (Nat.le_of_ble_eq_true rfl) dX5_behind_65 rfl rfl (fun z4 => ?_)
      refine ef_iconst (v := (0 : Int32)) (q := 69) dX5_behind_68 (by decide) rfl ?_
      refine ef_istore (lv' := [(5, .int (0 : Int32)), (4, .int y0), (0, .ref (pl 0)), (1, .int x1), (2, .int x2), (3, .int x3)]) (q := 71) dX5_behind_69 (by decide) rfl rfl ?_
      refine ef_sub (lv' := [(0, .ref (pl 0)), (1, .int x1), (2, .int x2), (3, .int x3), (5, .int (0 : Int32))]) [2, 3, 4, 5, 0] rfl ?_
      exact okX5_behind_71 FU x1 x2 x3 (0 : Int32) (mrgS (fun k => if k < 5 then 28 + k else 2 + (k - 5)) 10 z2.2 z4.2)
    · refine ef_aload_n (q := 48) 1 dX5_behind_47 rfl rfl rfl ?_
      refine ef_bipush (v := (-5 : Int32)) (q := 50) dX5_behind_48 (by decide) rfl ?_
      refine ef_invVI0 (k := 0) (As := [.int (-5 : Int32)]) (rest := []) (q := 53) (okX5_refuse (-5 : Int32)) rfl calX5_refuse ml5_66 (by decide) rfl rfl rfl (Nat.le_of_ble_eq_true rfl) dX5_behind_50 rfl (fun z5 => ?_)
      exact ef_iret rfl dX5_behind_53
  · refine ef_aload_n (q := 31) 1 dX5_behind_30 rfl rfl rfl ?_
    refine ef_iload (q := 33) 0 dX5_behind_31 rfl rfl ?_
    refine ef_invVI0 (k := 0) (As := [.int y0]) (rest := []) (q := 36) (okX5_refuse y0) rfl calX5_refuse ml5_66 (by decide) rfl rfl rfl (Nat.le_of_ble_eq_true rfl) dX5_behind_33 rfl (fun z6 => ?_)
    exact ef_iret rfl dX5_behind_36
set_option maxRecDepth 100000 in
set_option maxHeartbeats 4000000 in
theorem okX5_behind_0 {G : GG} {pl : Nat → Nat} {h0 : PH} (x1 : Int32) (x2 : Int32) (x3 : Int32) (s : SS) : EvF G 4 mX5_behind lyM pl h0 rvI (fX5_behind_0 x1 x2 x3 s) 0 [(0, .ref (pl 0)), (1, .int x1), (2, .int x2), (3, .int x3)] [] s := by
  unfold fX5_behind_0
  refine ef_iload_n (q := 1) 3 dX5_behind_0 rfl rfl rfl ?_
  refine ef_iconst (v := (0 : Int32)) (q := 2) dX5_behind_1 (by decide) rfl ?_
  refine ef_iconst (v := (3 : Int32)) (q := 3) dX5_behind_2 (by decide) rfl ?_
  refine ef_invPI0 (As := [.int x3, .int (0 : Int32), .int (3 : Int32)]) (rest := []) (q := 6) (okX5_isWithin x3 (0 : Int32) (3 : Int32)) rfl calX5_isWithin ml5_62 (by decide) rfl rfl (Nat.le_of_ble_eq_true rfl) dX5_behind_3 rfl (fun z1 => ?_)
  refine ef_if (pt := 21) (pf := 9) (fun _ _ => ev_if_eq (tgt := 21) dX5_behind_6 (by decide)) (fun h2 => ?_) (fun h2 => ?_)
  · refine ef_bipush (v := (-2 : Int32)) (q := 23) dX5_behind_21 (by decide) rfl ?_
    refine ef_sub (lv' := [(0, .ref (pl 0)), (1, .int x1), (2, .int x2), (3, .int x3)]) [0, 1, 2, 3] rfl ?_
    exact okX5_behind_23 x1 x2 x3 (-2 : Int32) s
  · refine ef_aload_n (q := 10) 0 dX5_behind_9 rfl rfl rfl ?_
    refine ef_iload_n (q := 11) 1 dX5_behind_10 rfl rfl rfl ?_
    refine ef_iload_n (q := 12) 2 dX5_behind_11 rfl rfl rfl ?_
    refine ef_iconst (v := (0 : Int32)) (q := 13) dX5_behind_12 (by decide) rfl ?_
    refine ef_bipush (v := (40 : Int32)) (q := 15) dX5_behind_13 (by decide) rfl ?_
    refine ef_invVI0 (k := 0) (As := [.int x1, .int x2, .int (0 : Int32), .int (40 : Int32)]) (rest := []) (q := 18) (okX5_toldFault x1 x2 (0 : Int32) (40 : Int32)) rfl calX5_toldFault ml5_274 (by decide) rfl rfl rfl (Nat.le_of_ble_eq_true rfl) dX5_behind_15 rfl (fun z3 => ?_)
    refine ef_goto (tgt := 23) dX5_behind_18 (by decide) ?_
    refine ef_sub (lv' := [(0, .ref (pl 0)), (1, .int x1), (2, .int x2), (3, .int x3)]) [0, 1, 2, 3] rfl ?_
    exact okX5_behind_23 x1 x2 x3 z3.1 z3.2
theorem okX5_behind (x1 : Int32) (x2 : Int32) (x3 : Int32) : MtF 4 mX5_behind lyM rvI (fun _ pl => [.ref (pl 0), .int x1, .int x2, .int x3]) (fX5_behind x1 x2 x3) := by
  refine MtF.of (by decide +kernel) rfl (fun _ pl => Nat.le_of_ble_eq_true rfl) (fun G pl h0 s => ?_)
  refine ef_sub (lv := [(0, .ref (pl 0)), (1, .int x1), (2, .int x2), (3, .int x3)]) (lv' := [(0, .ref (pl 0)), (1, .int x1), (2, .int x2), (3, .int x3)]) [0, 1, 2, 3] rfl ?_
  exact okX5_behind_0  x1 x2 x3 s
-- X5_done
theorem dX5_done_0 : decode cX5_done 0 = .ok (.aload_n 0, 1) := by decide +kernel
theorem dX5_done_1 : decode cX5_done 1 = .ok (.iload_n 1, 1) := by decide +kernel
theorem dX5_done_2 : decode cX5_done 2 = .ok (.iload_n 2, 1) := by decide +kernel
theorem dX5_done_3 : decode cX5_done 3 = .ok (.iconst 0, 1) := by decide +kernel
theorem dX5_done_4 : decode cX5_done 4 = .ok (.bipush 40, 2) := by decide +kernel
theorem dX5_done_6 : decode cX5_done 6 = .ok (.invokevirtual 274, 3) := by decide +kernel
theorem dX5_done_9 : decode cX5_done 9 = .ok (.istore_n 3, 1) := by decide +kernel
theorem dX5_done_10 : decode cX5_done 10 = .ok (.iload_n 3, 1) := by decide +kernel
theorem dX5_done_11 : decode cX5_done 11 = .ok (.ifCond .eq 9, 3) := by decide +kernel
theorem dX5_done_14 : decode cX5_done 14 = .ok (.aload_n 0, 1) := by decide +kernel
theorem dX5_done_15 : decode cX5_done 15 = .ok (.iload_n 3, 1) := by decide +kernel
theorem dX5_done_16 : decode cX5_done 16 = .ok (.invokevirtual 66, 3) := by decide +kernel
theorem dX5_done_19 : decode cX5_done 19 = .ok (.ireturn, 1) := by decide +kernel
theorem dX5_done_20 : decode cX5_done 20 = .ok (.aload_n 0, 1) := by decide +kernel
theorem dX5_done_21 : decode cX5_done 21 = .ok (.iload_n 1, 1) := by decide +kernel
theorem dX5_done_22 : decode cX5_done 22 = .ok (.iload_n 2, 1) := by decide +kernel
theorem dX5_done_23 : decode cX5_done 23 = .ok (.invokevirtual 278, 3) := by decide +kernel
theorem dX5_done_26 : decode cX5_done 26 = .ok (.iconst (-1), 1) := by decide +kernel
theorem dX5_done_27 : decode cX5_done 27 = .ok (.if_icmp .eq 10, 3) := by decide +kernel
theorem dX5_done_30 : decode cX5_done 30 = .ok (.aload_n 0, 1) := by decide +kernel
theorem dX5_done_31 : decode cX5_done 31 = .ok (.bipush (-5), 2) := by decide +kernel
theorem dX5_done_33 : decode cX5_done 33 = .ok (.invokevirtual 66, 3) := by decide +kernel
theorem dX5_done_36 : decode cX5_done 36 = .ok (.ireturn, 1) := by decide +kernel
theorem dX5_done_37 : decode cX5_done 37 = .ok (.aload_n 0, 1) := by decide +kernel
theorem dX5_done_38 : decode cX5_done 38 = .ok (.getfield 10, 3) := by decide +kernel
theorem dX5_done_41 : decode cX5_done 41 = .ok (.getfield 130, 3) := by decide +kernel
theorem dX5_done_44 : decode cX5_done 44 = .ok (.getfield 227, 3) := by decide +kernel
theorem dX5_done_47 : decode cX5_done 47 = .ok (.istore 4, 2) := by decide +kernel
theorem dX5_done_49 : decode cX5_done 49 = .ok (.iconst 0, 1) := by decide +kernel
theorem dX5_done_50 : decode cX5_done 50 = .ok (.istore 5, 2) := by decide +kernel
theorem dX5_done_52 : decode cX5_done 52 = .ok (.iload 5, 2) := by decide +kernel
theorem dX5_done_54 : decode cX5_done 54 = .ok (.iload_n 2, 1) := by decide +kernel
theorem dX5_done_55 : decode cX5_done 55 = .ok (.if_icmp .ge 29, 3) := by decide +kernel
theorem dX5_done_58 : decode cX5_done 58 = .ok (.aload_n 0, 1) := by decide +kernel
theorem dX5_done_59 : decode cX5_done 59 = .ok (.getfield 10, 3) := by decide +kernel
theorem dX5_done_62 : decode cX5_done 62 = .ok (.aload_n 0, 1) := by decide +kernel
theorem dX5_done_63 : decode cX5_done 63 = .ok (.getfield 38, 3) := by decide +kernel
theorem dX5_done_66 : decode cX5_done 66 = .ok (.iload_n 1, 1) := by decide +kernel
theorem dX5_done_67 : decode cX5_done 67 = .ok (.aaload, 1) := by decide +kernel
theorem dX5_done_68 : decode cX5_done 68 = .ok (.getfield 89, 3) := by decide +kernel
theorem dX5_done_71 : decode cX5_done 71 = .ok (.iload 5, 2) := by decide +kernel
theorem dX5_done_73 : decode cX5_done 73 = .ok (.laload, 1) := by decide +kernel
theorem dX5_done_74 : decode cX5_done 74 = .ok (.l2i, 1) := by decide +kernel
theorem dX5_done_75 : decode cX5_done 75 = .ok (.invokevirtual 281, 3) := by decide +kernel
theorem dX5_done_78 : decode cX5_done 78 = .ok (.iinc 5 1, 3) := by decide +kernel
theorem dX5_done_81 : decode cX5_done 81 = .ok (.goto (-29), 3) := by decide +kernel
theorem dX5_done_84 : decode cX5_done 84 = .ok (.aload_n 0, 1) := by decide +kernel
theorem dX5_done_85 : decode cX5_done 85 = .ok (.getfield 10, 3) := by decide +kernel
theorem dX5_done_88 : decode cX5_done 88 = .ok (.getfield 130, 3) := by decide +kernel
theorem dX5_done_91 : decode cX5_done 91 = .ok (.getfield 227, 3) := by decide +kernel
theorem dX5_done_94 : decode cX5_done 94 = .ok (.iload 4, 2) := by decide +kernel
theorem dX5_done_96 : decode cX5_done 96 = .ok (.isub, 1) := by decide +kernel
theorem dX5_done_97 : decode cX5_done 97 = .ok (.ireturn, 1) := by decide +kernel
def fX5_done_52 : Nat → Int32 → Int32 → Int32 → Int32 → SS → Option (Int32 × SS)
  | 0, _, _, _, _, _ => none
  | n + 1, x1, x2, x4, x5, s => if x2 ≤ x5 then (some ((s.1 2 8) - x4, s)) else (if ixB x1 8 then (if ixB x5 40 then (((fX4_actInTruth ((s.2 (61 + 2 * x1.toNatClampNeg + 1) x5.toNatClampNeg).toInt32) (selS (fun k => 1 + k) s)).bind fun z4 => fX5_done_52 n x1 x2 x4 (x5 + (1 : Int32)) (mrgS (fun k => 1 + k) 9 s z4.2))) else none) else none)
def fX5_done_0 (x1 : Int32) (x2 : Int32) (s : SS) : Option (Int32 × SS) := ((fX5_toldFault x1 x2 (0 : Int32) (40 : Int32) s).bind fun z1 => if z1.1 = 0 then (((fX5_wrongTold x1 x2 z1.2).bind fun z3 => if z3.1 = (-1 : Int32) then (fX5_done_52 FU x1 x2 (z3.2.1 2 8) (0 : Int32) z3.2) else (((fX5_refuse (-5 : Int32) z3.2).bind fun z5 => some (z5.1, z5.2))))) else (((fX5_refuse z1.1 z1.2).bind fun z6 => some (z6.1, z6.2))))
def fX5_done (x1 : Int32) (x2 : Int32) (s : SS) : Option (Int32 × SS) := fX5_done_0 x1 x2 s
set_option maxRecDepth 100000 in
set_option maxHeartbeats 4000000 in
theorem okX5_done_52 {G : GG} {pl : Nat → Nat} {h0 : PH} : ∀ (n : Nat) (x1 : Int32) (x2 : Int32) (x4 : Int32) (x5 : Int32) (s : SS), EvF G 4 mX5_done lyM pl h0 rvI (fX5_done_52 n x1 x2 x4 x5 s) 52 [(0, .ref (pl 0)), (1, .int x1), (2, .int x2), (4, .int x4), (5, .int x5)] [] s := by
  intro n
  induction n with
  | zero => intro x1 x2 x4 x5 s; rw [fX5_done_52]; exact ef_none
  | succ n ih =>
    intro x1 x2 x4 x5 s
    rw [fX5_done_52]
    refine ef_iload (q := 54) 4 dX5_done_52 rfl rfl ?_
    refine ef_iload_n (q := 55) 2 dX5_done_54 rfl rfl rfl ?_
    refine ef_if (pt := 84) (pf := 58) (fun _ _ => ev_icmp_ge (tgt := 84) dX5_done_55 (by decide)) (fun h1 => ?_) (fun h1 => ?_)
    · refine ef_aload_n (q := 85) 0 dX5_done_84 rfl rfl rfl ?_
      refine ef_getR (t := 1) (q := 88) rfl fl5_10 rfl rfl dX5_done_85 rfl ?_
      refine ef_getR (t := 2) (q := 91) rfl fl5_130 rfl rfl dX5_done_88 rfl ?_
      refine ef_getI (x := s.1 2 8) (q := 94) rfl fl5_227 rfl rfl dX5_done_91 rfl ?_
      refine ef_iload (q := 96) 3 dX5_done_94 rfl rfl ?_
      refine ef_isub (q := 97) dX5_done_96 rfl ?_
      exact ef_iret rfl dX5_done_97
    · refine ef_aload_n (q := 59) 0 dX5_done_58 rfl rfl rfl ?_
      refine ef_getR (t := 1) (q := 62) rfl fl5_10 rfl rfl dX5_done_59 rfl ?_
      refine ef_aload_n (q := 63) 0 dX5_done_62 rfl rfl rfl ?_
      refine ef_getR (t := 57) (q := 66) rfl fl5_38 rfl rfl dX5_done_63 rfl ?_
      refine ef_iload_n (q := 67) 1 dX5_done_66 rfl rfl rfl ?_
      refine ef_guard (fun g2 => ?_)
      refine ef_aaload (t0 := 61 + 2 * x1.toNatClampNeg) (q := 68) rfl (by decide) lyM_t57 g2 dX5_done_67 rfl rfl ?_
      refine ef_getR (t := 61 + 2 * x1.toNatClampNeg + 1) (q := 71) (lyM_f57_0 _ (ixB_lt g2)) fl5_89 rfl rfl dX5_done_68 rfl ?_
      refine ef_iload (q := 73) 4 dX5_done_71 rfl rfl ?_
      refine ef_guard (fun g3 => ?_)
      refine ef_laload (x := s.2 (61 + 2 * x1.toNatClampNeg + 1) x5.toNatClampNeg) (q := 74) (lyM_f57_1 _ (ixB_lt g2)) g3 dX5_done_73 rfl rfl ?_
      refine ef_l2i (v := (s.2 (61 + 2 * x1.toNatClampNeg + 1) x5.toNatClampNeg).toInt32) (q := 75) dX5_done_74 rfl rfl ?_
      refine ef_invVU (k := 1) (nn := 9) (π := (fun k => 1 + k)) (As := [.int ((s.2 (61 + 2 * x1.toNatClampNeg + 1) x5.toNatClampNeg).toInt32)]) (rest := []) (q := 78) (okX4_actInTruth ((s.2 (61 + 2 * x1.toNatClampNeg + 1) x5.toNatClampNeg).toInt32)) (by decide +kernel) rfl calX4_actInTruth ml5_281 (by decide) rfl rfl rfl (Nat.le_of_ble_eq_true rfl) dX5_done_75 rfl rfl (fun z4 => ?_)
      refine ef_iinc (v := x5 + (1 : Int32)) (lv' := [(5, .int (x5 + (1 : Int32))), (0, .ref (pl 0)), (1, .int x1), (2, .int x2), (4, .int x4)]) (q := 81) 4 dX5_done_78 rfl rfl (by decide) rfl rfl ?_
      refine ef_goto (tgt := 52) dX5_done_81 (by decide) ?_
      refine ef_sub (lv' := [(0, .ref (pl 0)), (1, .int x1), (2, .int x2), (4, .int x4), (5, .int (x5 + (1 : Int32)))]) [1, 2, 3, 4, 0] rfl ?_
      exact ih x1 x2 x4 (x5 + (1 : Int32)) (mrgS (fun k => 1 + k) 9 s z4.2)
set_option maxRecDepth 100000 in
set_option maxHeartbeats 4000000 in
theorem okX5_done_0 {G : GG} {pl : Nat → Nat} {h0 : PH} (x1 : Int32) (x2 : Int32) (s : SS) : EvF G 4 mX5_done lyM pl h0 rvI (fX5_done_0 x1 x2 s) 0 [(0, .ref (pl 0)), (1, .int x1), (2, .int x2)] [] s := by
  unfold fX5_done_0
  refine ef_aload_n (q := 1) 0 dX5_done_0 rfl rfl rfl ?_
  refine ef_iload_n (q := 2) 1 dX5_done_1 rfl rfl rfl ?_
  refine ef_iload_n (q := 3) 2 dX5_done_2 rfl rfl rfl ?_
  refine ef_iconst (v := (0 : Int32)) (q := 4) dX5_done_3 (by decide) rfl ?_
  refine ef_bipush (v := (40 : Int32)) (q := 6) dX5_done_4 (by decide) rfl ?_
  refine ef_invVI0 (k := 0) (As := [.int x1, .int x2, .int (0 : Int32), .int (40 : Int32)]) (rest := []) (q := 9) (okX5_toldFault x1 x2 (0 : Int32) (40 : Int32)) rfl calX5_toldFault ml5_274 (by decide) rfl rfl rfl (Nat.le_of_ble_eq_true rfl) dX5_done_6 rfl (fun z1 => ?_)
  refine ef_istore_n (lv' := [(3, .int z1.1), (0, .ref (pl 0)), (1, .int x1), (2, .int x2)]) (q := 10) dX5_done_9 rfl (by decide) rfl rfl ?_
  refine ef_iload_n (q := 11) 0 dX5_done_10 rfl rfl rfl ?_
  refine ef_if (pt := 20) (pf := 14) (fun _ _ => ev_if_eq (tgt := 20) dX5_done_11 (by decide)) (fun h2 => ?_) (fun h2 => ?_)
  · refine ef_aload_n (q := 21) 1 dX5_done_20 rfl rfl rfl ?_
    refine ef_iload_n (q := 22) 2 dX5_done_21 rfl rfl rfl ?_
    refine ef_iload_n (q := 23) 3 dX5_done_22 rfl rfl rfl ?_
    refine ef_invVI0 (k := 0) (As := [.int x1, .int x2]) (rest := []) (q := 26) (okX5_wrongTold x1 x2) rfl calX5_wrongTold ml5_278 (by decide) rfl rfl rfl (Nat.le_of_ble_eq_true rfl) dX5_done_23 rfl (fun z3 => ?_)
    refine ef_iconst (v := (-1 : Int32)) (q := 27) dX5_done_26 (by decide) rfl ?_
    refine ef_if (pt := 37) (pf := 30) (fun _ _ => ev_icmp_eq (tgt := 37) dX5_done_27 (by decide)) (fun h4 => ?_) (fun h4 => ?_)
    · refine ef_aload_n (q := 38) 1 dX5_done_37 rfl rfl rfl ?_
      refine ef_getR (t := 1) (q := 41) rfl fl5_10 rfl rfl dX5_done_38 rfl ?_
      refine ef_getR (t := 2) (q := 44) rfl fl5_130 rfl rfl dX5_done_41 rfl ?_
      refine ef_getI (x := z3.2.1 2 8) (q := 47) rfl fl5_227 rfl rfl dX5_done_44 rfl ?_
      refine ef_istore (lv' := [(4, .int (z3.2.1 2 8)), (3, .int z1.1), (0, .ref (pl 0)), (1, .int x1), (2, .int x2)]) (q := 49) dX5_done_47 (by decide) rfl rfl ?_
      refine ef_iconst (v := (0 : Int32)) (q := 50) dX5_done_49 (by decide) rfl ?_
      refine ef_istore (lv' := [(5, .int (0 : Int32)), (4, .int (z3.2.1 2 8)), (3, .int z1.1), (0, .ref (pl 0)), (1, .int x1), (2, .int x2)]) (q := 52) dX5_done_50 (by decide) rfl rfl ?_
      refine ef_sub (lv' := [(0, .ref (pl 0)), (1, .int x1), (2, .int x2), (4, .int (z3.2.1 2 8)), (5, .int (0 : Int32))]) [3, 4, 5, 1, 0] rfl ?_
      exact okX5_done_52 FU x1 x2 (z3.2.1 2 8) (0 : Int32) z3.2
    · refine ef_aload_n (q := 31) 1 dX5_done_30 rfl rfl rfl ?_
      refine ef_bipush (v := (-5 : Int32)) (q := 33) dX5_done_31 (by decide) rfl ?_
      refine ef_invVI0 (k := 0) (As := [.int (-5 : Int32)]) (rest := []) (q := 36) (okX5_refuse (-5 : Int32)) rfl calX5_refuse ml5_66 (by decide) rfl rfl rfl (Nat.le_of_ble_eq_true rfl) dX5_done_33 rfl (fun z5 => ?_)
      exact ef_iret rfl dX5_done_36
  · refine ef_aload_n (q := 15) 1 dX5_done_14 rfl rfl rfl ?_
    refine ef_iload_n (q := 16) 0 dX5_done_15 rfl rfl rfl ?_
    refine ef_invVI0 (k := 0) (As := [.int z1.1]) (rest := []) (q := 19) (okX5_refuse z1.1) rfl calX5_refuse ml5_66 (by decide) rfl rfl rfl (Nat.le_of_ble_eq_true rfl) dX5_done_16 rfl (fun z6 => ?_)
    exact ef_iret rfl dX5_done_19
theorem okX5_done (x1 : Int32) (x2 : Int32) : MtF 4 mX5_done lyM rvI (fun _ pl => [.ref (pl 0), .int x1, .int x2]) (fX5_done x1 x2) := by
  refine MtF.of (by decide +kernel) rfl (fun _ pl => Nat.le_of_ble_eq_true rfl) (fun G pl h0 s => ?_)
  refine ef_sub (lv := [(0, .ref (pl 0)), (1, .int x1), (2, .int x2)]) (lv' := [(0, .ref (pl 0)), (1, .int x1), (2, .int x2)]) [0, 1, 2] rfl ?_
  exact okX5_done_0  x1 x2 s
-- X5_drop
theorem dX5_drop_0 : decode cX5_drop 0 = .ok (.iload_n 1, 1) := by decide +kernel
theorem dX5_drop_1 : decode cX5_drop 1 = .ok (.iconst (-1), 1) := by decide +kernel
theorem dX5_drop_2 : decode cX5_drop 2 = .ok (.if_icmp .ge 10, 3) := by decide +kernel
theorem dX5_drop_5 : decode cX5_drop 5 = .ok (.aload_n 0, 1) := by decide +kernel
theorem dX5_drop_6 : decode cX5_drop 6 = .ok (.bipush (-2), 2) := by decide +kernel
theorem dX5_drop_8 : decode cX5_drop 8 = .ok (.invokevirtual 66, 3) := by decide +kernel
theorem dX5_drop_11 : decode cX5_drop 11 = .ok (.ireturn, 1) := by decide +kernel
theorem dX5_drop_12 : decode cX5_drop 12 = .ok (.iload_n 1, 1) := by decide +kernel
theorem dX5_drop_13 : decode cX5_drop 13 = .ok (.aload_n 0, 1) := by decide +kernel
theorem dX5_drop_14 : decode cX5_drop 14 = .ok (.getfield 10, 3) := by decide +kernel
theorem dX5_drop_17 : decode cX5_drop 17 = .ok (.getfield 284, 3) := by decide +kernel
theorem dX5_drop_20 : decode cX5_drop 20 = .ok (.if_icmp .lt 10, 3) := by decide +kernel
theorem dX5_drop_23 : decode cX5_drop 23 = .ok (.aload_n 0, 1) := by decide +kernel
theorem dX5_drop_24 : decode cX5_drop 24 = .ok (.bipush (-5), 2) := by decide +kernel
theorem dX5_drop_26 : decode cX5_drop 26 = .ok (.invokevirtual 66, 3) := by decide +kernel
theorem dX5_drop_29 : decode cX5_drop 29 = .ok (.ireturn, 1) := by decide +kernel
theorem dX5_drop_30 : decode cX5_drop 30 = .ok (.iload_n 1, 1) := by decide +kernel
theorem dX5_drop_31 : decode cX5_drop 31 = .ok (.iconst (-1), 1) := by decide +kernel
theorem dX5_drop_32 : decode cX5_drop 32 = .ok (.if_icmp .ne 13, 3) := by decide +kernel
theorem dX5_drop_35 : decode cX5_drop 35 = .ok (.aload_n 0, 1) := by decide +kernel
theorem dX5_drop_36 : decode cX5_drop 36 = .ok (.getfield 10, 3) := by decide +kernel
theorem dX5_drop_39 : decode cX5_drop 39 = .ok (.getfield 284, 3) := by decide +kernel
theorem dX5_drop_42 : decode cX5_drop 42 = .ok (.goto 12, 3) := by decide +kernel
theorem dX5_drop_45 : decode cX5_drop 45 = .ok (.aload_n 0, 1) := by decide +kernel
theorem dX5_drop_46 : decode cX5_drop 46 = .ok (.getfield 10, 3) := by decide +kernel
theorem dX5_drop_49 : decode cX5_drop 49 = .ok (.getfield 287, 3) := by decide +kernel
theorem dX5_drop_52 : decode cX5_drop 52 = .ok (.iload_n 1, 1) := by decide +kernel
theorem dX5_drop_53 : decode cX5_drop 53 = .ok (.iaload, 1) := by decide +kernel
theorem dX5_drop_54 : decode cX5_drop 54 = .ok (.ireturn, 1) := by decide +kernel
def fX5_drop_0 (x1 : Int32) (s : SS) : Option (Int32 × SS) := if (-1 : Int32) ≤ x1 then (if x1 < (s.1 1 5) then (if x1 = (-1 : Int32) then (some (s.1 1 5, s)) else (if ixB x1 20 then (some (s.1 9 x1.toNatClampNeg, s)) else none)) else (((fX5_refuse (-5 : Int32) s).bind fun z5 => some (z5.1, z5.2)))) else (((fX5_refuse (-2 : Int32) s).bind fun z6 => some (z6.1, z6.2)))
def fX5_drop (x1 : Int32) (s : SS) : Option (Int32 × SS) := fX5_drop_0 x1 s
set_option maxRecDepth 100000 in
set_option maxHeartbeats 4000000 in
theorem okX5_drop_0 {G : GG} {pl : Nat → Nat} {h0 : PH} (x1 : Int32) (s : SS) : EvF G 2 mX5_drop lyM pl h0 rvI (fX5_drop_0 x1 s) 0 [(0, .ref (pl 0)), (1, .int x1)] [] s := by
  unfold fX5_drop_0
  refine ef_iload_n (q := 1) 1 dX5_drop_0 rfl rfl rfl ?_
  refine ef_iconst (v := (-1 : Int32)) (q := 2) dX5_drop_1 (by decide) rfl ?_
  refine ef_if (pt := 12) (pf := 5) (fun _ _ => ev_icmp_ge (tgt := 12) dX5_drop_2 (by decide)) (fun h1 => ?_) (fun h1 => ?_)
  · refine ef_iload_n (q := 13) 1 dX5_drop_12 rfl rfl rfl ?_
    refine ef_aload_n (q := 14) 0 dX5_drop_13 rfl rfl rfl ?_
    refine ef_getR (t := 1) (q := 17) rfl fl5_10 rfl rfl dX5_drop_14 rfl ?_
    refine ef_getI (x := s.1 1 5) (q := 20) rfl fl5_284 rfl rfl dX5_drop_17 rfl ?_
    refine ef_if (pt := 30) (pf := 23) (fun _ _ => ev_icmp_lt (tgt := 30) dX5_drop_20 (by decide)) (fun h2 => ?_) (fun h2 => ?_)
    · refine ef_iload_n (q := 31) 1 dX5_drop_30 rfl rfl rfl ?_
      refine ef_iconst (v := (-1 : Int32)) (q := 32) dX5_drop_31 (by decide) rfl ?_
      refine ef_if (pt := 35) (pf := 45) (fun _ _ kt kf => ev_icmp_ne (tgt := 45) dX5_drop_32 (by decide) kf kt) (fun h3 => ?_) (fun h3 => ?_)
      · refine ef_aload_n (q := 36) 0 dX5_drop_35 rfl rfl rfl ?_
        refine ef_getR (t := 1) (q := 39) rfl fl5_10 rfl rfl dX5_drop_36 rfl ?_
        refine ef_getI (x := s.1 1 5) (q := 42) rfl fl5_284 rfl rfl dX5_drop_39 rfl ?_
        refine ef_goto (tgt := 54) dX5_drop_42 (by decide) ?_
        exact ef_iret rfl dX5_drop_54
      · refine ef_aload_n (q := 46) 0 dX5_drop_45 rfl rfl rfl ?_
        refine ef_getR (t := 1) (q := 49) rfl fl5_10 rfl rfl dX5_drop_46 rfl ?_
        refine ef_getR (t := 9) (q := 52) rfl fl5_287 rfl rfl dX5_drop_49 rfl ?_
        refine ef_iload_n (q := 53) 1 dX5_drop_52 rfl rfl rfl ?_
        refine ef_guard (fun g4 => ?_)
        refine ef_iaload (x := s.1 9 x1.toNatClampNeg) (q := 54) rfl g4 dX5_drop_53 rfl rfl ?_
        exact ef_iret rfl dX5_drop_54
    · refine ef_aload_n (q := 24) 0 dX5_drop_23 rfl rfl rfl ?_
      refine ef_bipush (v := (-5 : Int32)) (q := 26) dX5_drop_24 (by decide) rfl ?_
      refine ef_invVI0 (k := 0) (As := [.int (-5 : Int32)]) (rest := []) (q := 29) (okX5_refuse (-5 : Int32)) rfl calX5_refuse ml5_66 (by decide) rfl rfl rfl (Nat.le_of_ble_eq_true rfl) dX5_drop_26 rfl (fun z5 => ?_)
      exact ef_iret rfl dX5_drop_29
  · refine ef_aload_n (q := 6) 0 dX5_drop_5 rfl rfl rfl ?_
    refine ef_bipush (v := (-2 : Int32)) (q := 8) dX5_drop_6 (by decide) rfl ?_
    refine ef_invVI0 (k := 0) (As := [.int (-2 : Int32)]) (rest := []) (q := 11) (okX5_refuse (-2 : Int32)) rfl calX5_refuse ml5_66 (by decide) rfl rfl rfl (Nat.le_of_ble_eq_true rfl) dX5_drop_8 rfl (fun z6 => ?_)
    exact ef_iret rfl dX5_drop_11
theorem okX5_drop (x1 : Int32) : MtF 2 mX5_drop lyM rvI (fun _ pl => [.ref (pl 0), .int x1]) (fX5_drop x1) := by
  refine MtF.of (by decide +kernel) rfl (fun _ pl => Nat.le_of_ble_eq_true rfl) (fun G pl h0 s => ?_)
  refine ef_sub (lv := [(0, .ref (pl 0)), (1, .int x1)]) (lv' := [(0, .ref (pl 0)), (1, .int x1)]) [0, 1] rfl ?_
  exact okX5_drop_0  x1 s
-- X5_wentAt
theorem dX5_wentAt_0 : decode cX5_wentAt 0 = .ok (.aload_n 0, 1) := by decide +kernel
theorem dX5_wentAt_1 : decode cX5_wentAt 1 = .ok (.getfield 38, 3) := by decide +kernel
theorem dX5_wentAt_4 : decode cX5_wentAt 4 = .ok (.iload_n 1, 1) := by decide +kernel
theorem dX5_wentAt_5 : decode cX5_wentAt 5 = .ok (.aaload, 1) := by decide +kernel
theorem dX5_wentAt_6 : decode cX5_wentAt 6 = .ok (.getfield 89, 3) := by decide +kernel
theorem dX5_wentAt_9 : decode cX5_wentAt 9 = .ok (.astore 4, 2) := by decide +kernel
theorem dX5_wentAt_11 : decode cX5_wentAt 11 = .ok (.iconst 1, 1) := by decide +kernel
theorem dX5_wentAt_12 : decode cX5_wentAt 12 = .ok (.istore 5, 2) := by decide +kernel
theorem dX5_wentAt_14 : decode cX5_wentAt 14 = .ok (.iload 5, 2) := by decide +kernel
theorem dX5_wentAt_16 : decode cX5_wentAt 16 = .ok (.iload_n 2, 1) := by decide +kernel
theorem dX5_wentAt_17 : decode cX5_wentAt 17 = .ok (.if_icmp .ge 59, 3) := by decide +kernel
theorem dX5_wentAt_20 : decode cX5_wentAt 20 = .ok (.aload_n 0, 1) := by decide +kernel
theorem dX5_wentAt_21 : decode cX5_wentAt 21 = .ok (.getfield 10, 3) := by decide +kernel
theorem dX5_wentAt_24 : decode cX5_wentAt 24 = .ok (.getfield 287, 3) := by decide +kernel
theorem dX5_wentAt_27 : decode cX5_wentAt 27 = .ok (.iload 5, 2) := by decide +kernel
theorem dX5_wentAt_29 : decode cX5_wentAt 29 = .ok (.iaload, 1) := by decide +kernel
theorem dX5_wentAt_30 : decode cX5_wentAt 30 = .ok (.aload_n 0, 1) := by decide +kernel
theorem dX5_wentAt_31 : decode cX5_wentAt 31 = .ok (.getfield 10, 3) := by decide +kernel
theorem dX5_wentAt_34 : decode cX5_wentAt 34 = .ok (.getfield 287, 3) := by decide +kernel
theorem dX5_wentAt_37 : decode cX5_wentAt 37 = .ok (.iload 5, 2) := by decide +kernel
theorem dX5_wentAt_39 : decode cX5_wentAt 39 = .ok (.iconst 1, 1) := by decide +kernel
theorem dX5_wentAt_40 : decode cX5_wentAt 40 = .ok (.isub, 1) := by decide +kernel
theorem dX5_wentAt_41 : decode cX5_wentAt 41 = .ok (.iaload, 1) := by decide +kernel
theorem dX5_wentAt_42 : decode cX5_wentAt 42 = .ok (.isub, 1) := by decide +kernel
theorem dX5_wentAt_43 : decode cX5_wentAt 43 = .ok (.i2l, 1) := by decide +kernel
theorem dX5_wentAt_44 : decode cX5_wentAt 44 = .ok (.lstore 6, 2) := by decide +kernel
theorem dX5_wentAt_46 : decode cX5_wentAt 46 = .ok (.aload 4, 2) := by decide +kernel
theorem dX5_wentAt_48 : decode cX5_wentAt 48 = .ok (.iload 5, 2) := by decide +kernel
theorem dX5_wentAt_50 : decode cX5_wentAt 50 = .ok (.laload, 1) := by decide +kernel
theorem dX5_wentAt_51 : decode cX5_wentAt 51 = .ok (.aload 4, 2) := by decide +kernel
theorem dX5_wentAt_53 : decode cX5_wentAt 53 = .ok (.iload 5, 2) := by decide +kernel
theorem dX5_wentAt_55 : decode cX5_wentAt 55 = .ok (.iconst 1, 1) := by decide +kernel
theorem dX5_wentAt_56 : decode cX5_wentAt 56 = .ok (.isub, 1) := by decide +kernel
theorem dX5_wentAt_57 : decode cX5_wentAt 57 = .ok (.laload, 1) := by decide +kernel
theorem dX5_wentAt_58 : decode cX5_wentAt 58 = .ok (.lsub, 1) := by decide +kernel
theorem dX5_wentAt_59 : decode cX5_wentAt 59 = .ok (.iload_n 3, 1) := by decide +kernel
theorem dX5_wentAt_60 : decode cX5_wentAt 60 = .ok (.i2l, 1) := by decide +kernel
theorem dX5_wentAt_61 : decode cX5_wentAt 61 = .ok (.lload 6, 2) := by decide +kernel
theorem dX5_wentAt_63 : decode cX5_wentAt 63 = .ok (.lmul, 1) := by decide +kernel
theorem dX5_wentAt_64 : decode cX5_wentAt 64 = .ok (.lcmp, 1) := by decide +kernel
theorem dX5_wentAt_65 : decode cX5_wentAt 65 = .ok (.ifCond .eq 5, 3) := by decide +kernel
theorem dX5_wentAt_68 : decode cX5_wentAt 68 = .ok (.iconst 0, 1) := by decide +kernel
theorem dX5_wentAt_69 : decode cX5_wentAt 69 = .ok (.ireturn, 1) := by decide +kernel
theorem dX5_wentAt_70 : decode cX5_wentAt 70 = .ok (.iinc 5 1, 3) := by decide +kernel
theorem dX5_wentAt_73 : decode cX5_wentAt 73 = .ok (.goto (-59), 3) := by decide +kernel
theorem dX5_wentAt_76 : decode cX5_wentAt 76 = .ok (.iconst 1, 1) := by decide +kernel
theorem dX5_wentAt_77 : decode cX5_wentAt 77 = .ok (.ireturn, 1) := by decide +kernel
def fX5_wentAt_14 : Nat → Int32 → Int32 → Nat → Int32 → SS → Option (Int32 × SS)
  | 0, _, _, _, _, _ => none
  | n + 1, x2, x3, j4, x5, s => if x2 ≤ x5 then (some ((1 : Int32), s)) else (if ixB x5 20 then (if ixB (x5 - (1 : Int32)) 20 then (if ixB x5 40 then (if ixB (x5 - (1 : Int32)) 40 then (if (lg_cmp ((s.2 (61 + 2 * j4 + 1) x5.toNatClampNeg) - (s.2 (61 + 2 * j4 + 1) ((x5 - (1 : Int32)).toNatClampNeg))) (x3.toInt64 * (((s.1 9 x5.toNatClampNeg) - (s.1 9 ((x5 - (1 : Int32)).toNatClampNeg))).toInt64))) = 0 then (fX5_wentAt_14 n x2 x3 j4 (x5 + (1 : Int32)) s) else (some ((0 : Int32), s))) else none) else none) else none) else none)
def fX5_wentAt_0 (x1 : Int32) (x2 : Int32) (x3 : Int32) (s : SS) : Option (Int32 × SS) := if ixB x1 8 then (fX5_wentAt_14 FU x2 x3 x1.toNatClampNeg (1 : Int32) s) else none
def fX5_wentAt (x1 : Int32) (x2 : Int32) (x3 : Int32) (s : SS) : Option (Int32 × SS) := fX5_wentAt_0 x1 x2 x3 s
set_option maxRecDepth 100000 in
set_option maxHeartbeats 4000000 in
theorem okX5_wentAt_14 {G : GG} {pl : Nat → Nat} {h0 : PH} : ∀ (n : Nat) (x2 : Int32) (x3 : Int32) (j4 : Nat) (hj4 : j4 < 8) (x5 : Int32) (s : SS), EvF G 0 mX5_wentAt lyM pl h0 rvI (fX5_wentAt_14 n x2 x3 j4 x5 s) 14 [(0, .ref (pl 0)), (2, .int x2), (3, .int x3), (4, .ref (pl (61 + 2 * j4 + 1))), (5, .int x5)] [] s := by
  intro n
  induction n with
  | zero => intro x2 x3 j4 hj4 x5 s; rw [fX5_wentAt_14]; exact ef_none
  | succ n ih =>
    intro x2 x3 j4 hj4 x5 s
    rw [fX5_wentAt_14]
    refine ef_iload (q := 16) 4 dX5_wentAt_14 rfl rfl ?_
    refine ef_iload_n (q := 17) 1 dX5_wentAt_16 rfl rfl rfl ?_
    refine ef_if (pt := 76) (pf := 20) (fun _ _ => ev_icmp_ge (tgt := 76) dX5_wentAt_17 (by decide)) (fun h1 => ?_) (fun h1 => ?_)
    · refine ef_iconst (v := (1 : Int32)) (q := 77) dX5_wentAt_76 (by decide) rfl ?_
      exact ef_zretc (x := (1 : Int32)) (by decide) rfl dX5_wentAt_77
    · refine ef_aload_n (q := 21) 0 dX5_wentAt_20 rfl rfl rfl ?_
      refine ef_getR (t := 1) (q := 24) rfl fl5_10 rfl rfl dX5_wentAt_21 rfl ?_
      refine ef_getR (t := 9) (q := 27) rfl fl5_287 rfl rfl dX5_wentAt_24 rfl ?_
      refine ef_iload (q := 29) 4 dX5_wentAt_27 rfl rfl ?_
      refine ef_guard (fun g2 => ?_)
      refine ef_iaload (x := s.1 9 x5.toNatClampNeg) (q := 30) rfl g2 dX5_wentAt_29 rfl rfl ?_
      refine ef_aload_n (q := 31) 0 dX5_wentAt_30 rfl rfl rfl ?_
      refine ef_getR (t := 1) (q := 34) rfl fl5_10 rfl rfl dX5_wentAt_31 rfl ?_
      refine ef_getR (t := 9) (q := 37) rfl fl5_287 rfl rfl dX5_wentAt_34 rfl ?_
      refine ef_iload (q := 39) 4 dX5_wentAt_37 rfl rfl ?_
      refine ef_iconst (v := (1 : Int32)) (q := 40) dX5_wentAt_39 (by decide) rfl ?_
      refine ef_isub (q := 41) dX5_wentAt_40 rfl ?_
      refine ef_guard (fun g3 => ?_)
      refine ef_iaload (x := s.1 9 ((x5 - (1 : Int32)).toNatClampNeg)) (q := 42) rfl g3 dX5_wentAt_41 rfl rfl ?_
      refine ef_isub (q := 43) dX5_wentAt_42 rfl ?_
      refine ef_i2l (v := ((s.1 9 x5.toNatClampNeg) - (s.1 9 ((x5 - (1 : Int32)).toNatClampNeg))).toInt64) (q := 44) dX5_wentAt_43 rfl rfl ?_
      refine ef_lstore (lv' := [(6, .long (((s.1 9 x5.toNatClampNeg) - (s.1 9 ((x5 - (1 : Int32)).toNatClampNeg))).toInt64)), (0, .ref (pl 0)), (2, .int x2), (3, .int x3), (4, .ref (pl (61 + 2 * j4 + 1))), (5, .int x5)]) (q := 46) dX5_wentAt_44 (by decide) rfl rfl ?_
      refine ef_aload (q := 48) 4 dX5_wentAt_46 rfl rfl ?_
      refine ef_iload (q := 50) 5 dX5_wentAt_48 rfl rfl ?_
      refine ef_guard (fun g4 => ?_)
      refine ef_laload (x := s.2 (61 + 2 * j4 + 1) x5.toNatClampNeg) (q := 51) (lyM_f57_1 _ (hj4)) g4 dX5_wentAt_50 rfl rfl ?_
      refine ef_aload (q := 53) 4 dX5_wentAt_51 rfl rfl ?_
      refine ef_iload (q := 55) 5 dX5_wentAt_53 rfl rfl ?_
      refine ef_iconst (v := (1 : Int32)) (q := 56) dX5_wentAt_55 (by decide) rfl ?_
      refine ef_isub (q := 57) dX5_wentAt_56 rfl ?_
      refine ef_guard (fun g5 => ?_)
      refine ef_laload (x := s.2 (61 + 2 * j4 + 1) ((x5 - (1 : Int32)).toNatClampNeg)) (q := 58) (lyM_f57_1 _ (hj4)) g5 dX5_wentAt_57 rfl rfl ?_
      refine ef_lsub (q := 59) dX5_wentAt_58 rfl ?_
      refine ef_iload_n (q := 60) 3 dX5_wentAt_59 rfl rfl rfl ?_
      refine ef_i2l (v := x3.toInt64) (q := 61) dX5_wentAt_60 rfl rfl ?_
      refine ef_lload (q := 63) 0 dX5_wentAt_61 rfl rfl ?_
      refine ef_lmul (q := 64) dX5_wentAt_63 rfl ?_
      refine ef_lcmp (q := 65) dX5_wentAt_64 rfl ?_
      refine ef_if (pt := 70) (pf := 68) (fun _ _ => ev_if_eq (tgt := 70) dX5_wentAt_65 (by decide)) (fun h6 => ?_) (fun h6 => ?_)
      · refine ef_iinc (v := x5 + (1 : Int32)) (lv' := [(5, .int (x5 + (1 : Int32))), (6, .long (((s.1 9 x5.toNatClampNeg) - (s.1 9 ((x5 - (1 : Int32)).toNatClampNeg))).toInt64)), (0, .ref (pl 0)), (2, .int x2), (3, .int x3), (4, .ref (pl (61 + 2 * j4 + 1)))]) (q := 73) 5 dX5_wentAt_70 rfl rfl (by decide) rfl rfl ?_
        refine ef_goto (tgt := 14) dX5_wentAt_73 (by decide) ?_
        refine ef_sub (lv' := [(0, .ref (pl 0)), (2, .int x2), (3, .int x3), (4, .ref (pl (61 + 2 * j4 + 1))), (5, .int (x5 + (1 : Int32)))]) [2, 3, 4, 5, 0] rfl ?_
        exact ih x2 x3 j4 hj4 (x5 + (1 : Int32)) s
      · refine ef_iconst (v := (0 : Int32)) (q := 69) dX5_wentAt_68 (by decide) rfl ?_
        exact ef_zretc (x := (0 : Int32)) (by decide) rfl dX5_wentAt_69
set_option maxRecDepth 100000 in
set_option maxHeartbeats 4000000 in
theorem okX5_wentAt_0 {G : GG} {pl : Nat → Nat} {h0 : PH} (x1 : Int32) (x2 : Int32) (x3 : Int32) (s : SS) : EvF G 0 mX5_wentAt lyM pl h0 rvI (fX5_wentAt_0 x1 x2 x3 s) 0 [(0, .ref (pl 0)), (1, .int x1), (2, .int x2), (3, .int x3)] [] s := by
  unfold fX5_wentAt_0
  refine ef_aload_n (q := 1) 0 dX5_wentAt_0 rfl rfl rfl ?_
  refine ef_getR (t := 57) (q := 4) rfl fl5_38 rfl rfl dX5_wentAt_1 rfl ?_
  refine ef_iload_n (q := 5) 1 dX5_wentAt_4 rfl rfl rfl ?_
  refine ef_guard (fun g1 => ?_)
  refine ef_aaload (t0 := 61 + 2 * x1.toNatClampNeg) (q := 6) rfl (by decide) lyM_t57 g1 dX5_wentAt_5 rfl rfl ?_
  refine ef_getR (t := 61 + 2 * x1.toNatClampNeg + 1) (q := 9) (lyM_f57_0 _ (ixB_lt g1)) fl5_89 rfl rfl dX5_wentAt_6 rfl ?_
  refine ef_astore (lv' := [(4, .ref (pl (61 + 2 * x1.toNatClampNeg + 1))), (0, .ref (pl 0)), (1, .int x1), (2, .int x2), (3, .int x3)]) (q := 11) dX5_wentAt_9 (by decide) rfl rfl ?_
  refine ef_iconst (v := (1 : Int32)) (q := 12) dX5_wentAt_11 (by decide) rfl ?_
  refine ef_istore (lv' := [(5, .int (1 : Int32)), (4, .ref (pl (61 + 2 * x1.toNatClampNeg + 1))), (0, .ref (pl 0)), (1, .int x1), (2, .int x2), (3, .int x3)]) (q := 14) dX5_wentAt_12 (by decide) rfl rfl ?_
  refine ef_sub (lv' := [(0, .ref (pl 0)), (2, .int x2), (3, .int x3), (4, .ref (pl (61 + 2 * x1.toNatClampNeg + 1))), (5, .int (1 : Int32))]) [2, 4, 5, 1, 0] rfl ?_
  exact okX5_wentAt_14 FU x2 x3 x1.toNatClampNeg (ixB_lt g1) (1 : Int32) s
theorem okX5_wentAt (x1 : Int32) (x2 : Int32) (x3 : Int32) : MtF 0 mX5_wentAt lyM rvI (fun _ pl => [.ref (pl 0), .int x1, .int x2, .int x3]) (fX5_wentAt x1 x2 x3) := by
  refine MtF.of (by decide +kernel) rfl (fun _ pl => Nat.le_of_ble_eq_true rfl) (fun G pl h0 s => ?_)
  refine ef_sub (lv := [(0, .ref (pl 0)), (1, .int x1), (2, .int x2), (3, .int x3)]) (lv' := [(0, .ref (pl 0)), (1, .int x1), (2, .int x2), (3, .int x3)]) [0, 1, 2, 3] rfl ?_
  exact okX5_wentAt_0  x1 x2 x3 s
-- X5_went
theorem dX5_went_0 : decode cX5_went 0 = .ok (.aload_n 0, 1) := by decide +kernel
theorem dX5_went_1 : decode cX5_went 1 = .ok (.iload_n 1, 1) := by decide +kernel
theorem dX5_went_2 : decode cX5_went 2 = .ok (.iload_n 2, 1) := by decide +kernel
theorem dX5_went_3 : decode cX5_went 3 = .ok (.iconst 2, 1) := by decide +kernel
theorem dX5_went_4 : decode cX5_went 4 = .ok (.bipush 20, 2) := by decide +kernel
theorem dX5_went_6 : decode cX5_went 6 = .ok (.invokevirtual 274, 3) := by decide +kernel
theorem dX5_went_9 : decode cX5_went 9 = .ok (.istore_n 3, 1) := by decide +kernel
theorem dX5_went_10 : decode cX5_went 10 = .ok (.iload_n 3, 1) := by decide +kernel
theorem dX5_went_11 : decode cX5_went 11 = .ok (.ifCond .eq 9, 3) := by decide +kernel
theorem dX5_went_14 : decode cX5_went 14 = .ok (.aload_n 0, 1) := by decide +kernel
theorem dX5_went_15 : decode cX5_went 15 = .ok (.iload_n 3, 1) := by decide +kernel
theorem dX5_went_16 : decode cX5_went 16 = .ok (.invokevirtual 66, 3) := by decide +kernel
theorem dX5_went_19 : decode cX5_went 19 = .ok (.ireturn, 1) := by decide +kernel
theorem dX5_went_20 : decode cX5_went 20 = .ok (.iload_n 2, 1) := by decide +kernel
theorem dX5_went_21 : decode cX5_went 21 = .ok (.aload_n 0, 1) := by decide +kernel
theorem dX5_went_22 : decode cX5_went 22 = .ok (.getfield 10, 3) := by decide +kernel
theorem dX5_went_25 : decode cX5_went 25 = .ok (.getfield 284, 3) := by decide +kernel
theorem dX5_went_28 : decode cX5_went 28 = .ok (.if_icmp .le 10, 3) := by decide +kernel
theorem dX5_went_31 : decode cX5_went 31 = .ok (.aload_n 0, 1) := by decide +kernel
theorem dX5_went_32 : decode cX5_went 32 = .ok (.bipush (-5), 2) := by decide +kernel
theorem dX5_went_34 : decode cX5_went 34 = .ok (.invokevirtual 66, 3) := by decide +kernel
theorem dX5_went_37 : decode cX5_went 37 = .ok (.ireturn, 1) := by decide +kernel
theorem dX5_went_38 : decode cX5_went 38 = .ok (.iconst 0, 1) := by decide +kernel
theorem dX5_went_39 : decode cX5_went 39 = .ok (.istore 4, 2) := by decide +kernel
theorem dX5_went_41 : decode cX5_went 41 = .ok (.iconst 1, 1) := by decide +kernel
theorem dX5_went_42 : decode cX5_went 42 = .ok (.istore 5, 2) := by decide +kernel
theorem dX5_went_44 : decode cX5_went 44 = .ok (.iload 5, 2) := by decide +kernel
theorem dX5_went_46 : decode cX5_went 46 = .ok (.bipush 9, 2) := by decide +kernel
theorem dX5_went_48 : decode cX5_went 48 = .ok (.if_icmp .gt 29, 3) := by decide +kernel
theorem dX5_went_51 : decode cX5_went 51 = .ok (.aload_n 0, 1) := by decide +kernel
theorem dX5_went_52 : decode cX5_went 52 = .ok (.iload_n 1, 1) := by decide +kernel
theorem dX5_went_53 : decode cX5_went 53 = .ok (.iload_n 2, 1) := by decide +kernel
theorem dX5_went_54 : decode cX5_went 54 = .ok (.iload 5, 2) := by decide +kernel
theorem dX5_went_56 : decode cX5_went 56 = .ok (.invokevirtual 290, 3) := by decide +kernel
theorem dX5_went_59 : decode cX5_went 59 = .ok (.ifCond .eq 12, 3) := by decide +kernel
theorem dX5_went_62 : decode cX5_went 62 = .ok (.iload 4, 2) := by decide +kernel
theorem dX5_went_64 : decode cX5_went 64 = .ok (.iconst 1, 1) := by decide +kernel
theorem dX5_went_65 : decode cX5_went 65 = .ok (.iload 5, 2) := by decide +kernel
theorem dX5_went_67 : decode cX5_went 67 = .ok (.ishl, 1) := by decide +kernel
theorem dX5_went_68 : decode cX5_went 68 = .ok (.ior, 1) := by decide +kernel
theorem dX5_went_69 : decode cX5_went 69 = .ok (.istore 4, 2) := by decide +kernel
theorem dX5_went_71 : decode cX5_went 71 = .ok (.iinc 5 1, 3) := by decide +kernel
theorem dX5_went_74 : decode cX5_went 74 = .ok (.goto (-30), 3) := by decide +kernel
theorem dX5_went_77 : decode cX5_went 77 = .ok (.iload 4, 2) := by decide +kernel
theorem dX5_went_79 : decode cX5_went 79 = .ok (.ireturn, 1) := by decide +kernel
def fX5_went_44 : Nat → Int32 → Int32 → Int32 → Int32 → SS → Option (Int32 × SS)
  | 0, _, _, _, _, _ => none
  | n + 1, x1, x2, x4, x5, s => if (9 : Int32) < x5 then (some (x4, s)) else (((fX5_wentAt x1 x2 x5 s).bind fun z2 => if z2.1 = 0 then (fX5_went_44 n x1 x2 x4 (x5 + (1 : Int32)) z2.2) else (fX5_went_44 n x1 x2 (x4 ||| ((1 : Int32) <<< (x5 &&& 31))) (x5 + (1 : Int32)) z2.2)))
def fX5_went_0 (x1 : Int32) (x2 : Int32) (s : SS) : Option (Int32 × SS) := ((fX5_toldFault x1 x2 (2 : Int32) (20 : Int32) s).bind fun z1 => if z1.1 = 0 then (if x2 ≤ (z1.2.1 1 5) then (fX5_went_44 FU x1 x2 (0 : Int32) (1 : Int32) z1.2) else (((fX5_refuse (-5 : Int32) z1.2).bind fun z4 => some (z4.1, z4.2)))) else (((fX5_refuse z1.1 z1.2).bind fun z5 => some (z5.1, z5.2))))
def fX5_went (x1 : Int32) (x2 : Int32) (s : SS) : Option (Int32 × SS) := fX5_went_0 x1 x2 s
set_option maxRecDepth 100000 in
set_option maxHeartbeats 4000000 in
theorem okX5_went_44 {G : GG} {pl : Nat → Nat} {h0 : PH} : ∀ (n : Nat) (x1 : Int32) (x2 : Int32) (x4 : Int32) (x5 : Int32) (s : SS), EvF G 4 mX5_went lyM pl h0 rvI (fX5_went_44 n x1 x2 x4 x5 s) 44 [(0, .ref (pl 0)), (1, .int x1), (2, .int x2), (4, .int x4), (5, .int x5)] [] s := by
  intro n
  induction n with
  | zero => intro x1 x2 x4 x5 s; rw [fX5_went_44]; exact ef_none
  | succ n ih =>
    intro x1 x2 x4 x5 s
    rw [fX5_went_44]
    refine ef_iload (q := 46) 4 dX5_went_44 rfl rfl ?_
    refine ef_bipush (v := (9 : Int32)) (q := 48) dX5_went_46 (by decide) rfl ?_
    refine ef_if (pt := 77) (pf := 51) (fun _ _ => ev_icmp_gt (tgt := 77) dX5_went_48 (by decide)) (fun h1 => ?_) (fun h1 => ?_)
    · refine ef_iload (q := 79) 3 dX5_went_77 rfl rfl ?_
      exact ef_iret rfl dX5_went_79
    · refine ef_aload_n (q := 52) 0 dX5_went_51 rfl rfl rfl ?_
      refine ef_iload_n (q := 53) 1 dX5_went_52 rfl rfl rfl ?_
      refine ef_iload_n (q := 54) 2 dX5_went_53 rfl rfl rfl ?_
      refine ef_iload (q := 56) 4 dX5_went_54 rfl rfl ?_
      refine ef_invVI0 (k := 0) (As := [.int x1, .int x2, .int x5]) (rest := []) (q := 59) (okX5_wentAt x1 x2 x5) rfl calX5_wentAt ml5_290 (by decide) rfl rfl rfl (Nat.le_of_ble_eq_true rfl) dX5_went_56 rfl (fun z2 => ?_)
      refine ef_if (pt := 71) (pf := 62) (fun _ _ => ev_if_eq (tgt := 71) dX5_went_59 (by decide)) (fun h3 => ?_) (fun h3 => ?_)
      · refine ef_iinc (v := x5 + (1 : Int32)) (lv' := [(5, .int (x5 + (1 : Int32))), (0, .ref (pl 0)), (1, .int x1), (2, .int x2), (4, .int x4)]) (q := 74) 4 dX5_went_71 rfl rfl (by decide) rfl rfl ?_
        refine ef_goto (tgt := 44) dX5_went_74 (by decide) ?_
        refine ef_sub (lv' := [(0, .ref (pl 0)), (1, .int x1), (2, .int x2), (4, .int x4), (5, .int (x5 + (1 : Int32)))]) [1, 2, 3, 4, 0] rfl ?_
        exact ih x1 x2 x4 (x5 + (1 : Int32)) z2.2
      · refine ef_iload (q := 64) 3 dX5_went_62 rfl rfl ?_
        refine ef_iconst (v := (1 : Int32)) (q := 65) dX5_went_64 (by decide) rfl ?_
        refine ef_iload (q := 67) 4 dX5_went_65 rfl rfl ?_
        refine ef_ishl (q := 68) dX5_went_67 rfl ?_
        refine ef_ior (q := 69) dX5_went_68 rfl ?_
        refine ef_istore (lv' := [(4, .int (x4 ||| ((1 : Int32) <<< (x5 &&& 31)))), (0, .ref (pl 0)), (1, .int x1), (2, .int x2), (5, .int x5)]) (q := 71) dX5_went_69 (by decide) rfl rfl ?_
        refine ef_iinc (v := x5 + (1 : Int32)) (lv' := [(5, .int (x5 + (1 : Int32))), (4, .int (x4 ||| ((1 : Int32) <<< (x5 &&& 31)))), (0, .ref (pl 0)), (1, .int x1), (2, .int x2)]) (q := 74) 4 dX5_went_71 rfl rfl (by decide) rfl rfl ?_
        refine ef_goto (tgt := 44) dX5_went_74 (by decide) ?_
        refine ef_sub (lv' := [(0, .ref (pl 0)), (1, .int x1), (2, .int x2), (4, .int (x4 ||| ((1 : Int32) <<< (x5 &&& 31)))), (5, .int (x5 + (1 : Int32)))]) [2, 3, 4, 1, 0] rfl ?_
        exact ih x1 x2 (x4 ||| ((1 : Int32) <<< (x5 &&& 31))) (x5 + (1 : Int32)) z2.2
set_option maxRecDepth 100000 in
set_option maxHeartbeats 4000000 in
theorem okX5_went_0 {G : GG} {pl : Nat → Nat} {h0 : PH} (x1 : Int32) (x2 : Int32) (s : SS) : EvF G 4 mX5_went lyM pl h0 rvI (fX5_went_0 x1 x2 s) 0 [(0, .ref (pl 0)), (1, .int x1), (2, .int x2)] [] s := by
  unfold fX5_went_0
  refine ef_aload_n (q := 1) 0 dX5_went_0 rfl rfl rfl ?_
  refine ef_iload_n (q := 2) 1 dX5_went_1 rfl rfl rfl ?_
  refine ef_iload_n (q := 3) 2 dX5_went_2 rfl rfl rfl ?_
  refine ef_iconst (v := (2 : Int32)) (q := 4) dX5_went_3 (by decide) rfl ?_
  refine ef_bipush (v := (20 : Int32)) (q := 6) dX5_went_4 (by decide) rfl ?_
  refine ef_invVI0 (k := 0) (As := [.int x1, .int x2, .int (2 : Int32), .int (20 : Int32)]) (rest := []) (q := 9) (okX5_toldFault x1 x2 (2 : Int32) (20 : Int32)) rfl calX5_toldFault ml5_274 (by decide) rfl rfl rfl (Nat.le_of_ble_eq_true rfl) dX5_went_6 rfl (fun z1 => ?_)
  refine ef_istore_n (lv' := [(3, .int z1.1), (0, .ref (pl 0)), (1, .int x1), (2, .int x2)]) (q := 10) dX5_went_9 rfl (by decide) rfl rfl ?_
  refine ef_iload_n (q := 11) 0 dX5_went_10 rfl rfl rfl ?_
  refine ef_if (pt := 20) (pf := 14) (fun _ _ => ev_if_eq (tgt := 20) dX5_went_11 (by decide)) (fun h2 => ?_) (fun h2 => ?_)
  · refine ef_iload_n (q := 21) 3 dX5_went_20 rfl rfl rfl ?_
    refine ef_aload_n (q := 22) 1 dX5_went_21 rfl rfl rfl ?_
    refine ef_getR (t := 1) (q := 25) rfl fl5_10 rfl rfl dX5_went_22 rfl ?_
    refine ef_getI (x := z1.2.1 1 5) (q := 28) rfl fl5_284 rfl rfl dX5_went_25 rfl ?_
    refine ef_if (pt := 38) (pf := 31) (fun _ _ => ev_icmp_le (tgt := 38) dX5_went_28 (by decide)) (fun h3 => ?_) (fun h3 => ?_)
    · refine ef_iconst (v := (0 : Int32)) (q := 39) dX5_went_38 (by decide) rfl ?_
      refine ef_istore (lv' := [(4, .int (0 : Int32)), (3, .int z1.1), (0, .ref (pl 0)), (1, .int x1), (2, .int x2)]) (q := 41) dX5_went_39 (by decide) rfl rfl ?_
      refine ef_iconst (v := (1 : Int32)) (q := 42) dX5_went_41 (by decide) rfl ?_
      refine ef_istore (lv' := [(5, .int (1 : Int32)), (4, .int (0 : Int32)), (3, .int z1.1), (0, .ref (pl 0)), (1, .int x1), (2, .int x2)]) (q := 44) dX5_went_42 (by decide) rfl rfl ?_
      refine ef_sub (lv' := [(0, .ref (pl 0)), (1, .int x1), (2, .int x2), (4, .int (0 : Int32)), (5, .int (1 : Int32))]) [3, 4, 5, 1, 0] rfl ?_
      exact okX5_went_44 FU x1 x2 (0 : Int32) (1 : Int32) z1.2
    · refine ef_aload_n (q := 32) 1 dX5_went_31 rfl rfl rfl ?_
      refine ef_bipush (v := (-5 : Int32)) (q := 34) dX5_went_32 (by decide) rfl ?_
      refine ef_invVI0 (k := 0) (As := [.int (-5 : Int32)]) (rest := []) (q := 37) (okX5_refuse (-5 : Int32)) rfl calX5_refuse ml5_66 (by decide) rfl rfl rfl (Nat.le_of_ble_eq_true rfl) dX5_went_34 rfl (fun z4 => ?_)
      exact ef_iret rfl dX5_went_37
  · refine ef_aload_n (q := 15) 1 dX5_went_14 rfl rfl rfl ?_
    refine ef_iload_n (q := 16) 0 dX5_went_15 rfl rfl rfl ?_
    refine ef_invVI0 (k := 0) (As := [.int z1.1]) (rest := []) (q := 19) (okX5_refuse z1.1) rfl calX5_refuse ml5_66 (by decide) rfl rfl rfl (Nat.le_of_ble_eq_true rfl) dX5_went_16 rfl (fun z5 => ?_)
    exact ef_iret rfl dX5_went_19
theorem okX5_went (x1 : Int32) (x2 : Int32) : MtF 4 mX5_went lyM rvI (fun _ pl => [.ref (pl 0), .int x1, .int x2]) (fX5_went x1 x2) := by
  refine MtF.of (by decide +kernel) rfl (fun _ pl => Nat.le_of_ble_eq_true rfl) (fun G pl h0 s => ?_)
  refine ef_sub (lv := [(0, .ref (pl 0)), (1, .int x1), (2, .int x2)]) (lv' := [(0, .ref (pl 0)), (1, .int x1), (2, .int x2)]) [0, 1, 2] rfl ?_
  exact okX5_went_0  x1 x2 s
-- X5_act
theorem dX5_act_0 : decode cX5_act 0 = .ok (.iload_n 1, 1) := by decide +kernel
theorem dX5_act_1 : decode cX5_act 1 = .ok (.iconst 0, 1) := by decide +kernel
theorem dX5_act_2 : decode cX5_act 2 = .ok (.bipush 6, 2) := by decide +kernel
theorem dX5_act_4 : decode cX5_act 4 = .ok (.invokestatic 62, 3) := by decide +kernel
theorem dX5_act_7 : decode cX5_act 7 = .ok (.ifCond .ne 10, 3) := by decide +kernel
theorem dX5_act_10 : decode cX5_act 10 = .ok (.aload_n 0, 1) := by decide +kernel
theorem dX5_act_11 : decode cX5_act 11 = .ok (.bipush (-2), 2) := by decide +kernel
theorem dX5_act_13 : decode cX5_act 13 = .ok (.invokevirtual 66, 3) := by decide +kernel
theorem dX5_act_16 : decode cX5_act 16 = .ok (.ireturn, 1) := by decide +kernel
theorem dX5_act_17 : decode cX5_act 17 = .ok (.aload_n 0, 1) := by decide +kernel
theorem dX5_act_18 : decode cX5_act 18 = .ok (.getfield 10, 3) := by decide +kernel
theorem dX5_act_21 : decode cX5_act 21 = .ok (.getfield 130, 3) := by decide +kernel
theorem dX5_act_24 : decode cX5_act 24 = .ok (.iload_n 1, 1) := by decide +kernel
theorem dX5_act_25 : decode cX5_act 25 = .ok (.invokevirtual 293, 3) := by decide +kernel
theorem dX5_act_28 : decode cX5_act 28 = .ok (.ifCond .ne 10, 3) := by decide +kernel
theorem dX5_act_31 : decode cX5_act 31 = .ok (.aload_n 0, 1) := by decide +kernel
theorem dX5_act_32 : decode cX5_act 32 = .ok (.bipush (-5), 2) := by decide +kernel
theorem dX5_act_34 : decode cX5_act 34 = .ok (.invokevirtual 66, 3) := by decide +kernel
theorem dX5_act_37 : decode cX5_act 37 = .ok (.ireturn, 1) := by decide +kernel
theorem dX5_act_38 : decode cX5_act 38 = .ok (.aload_n 0, 1) := by decide +kernel
theorem dX5_act_39 : decode cX5_act 39 = .ok (.getfield 10, 3) := by decide +kernel
theorem dX5_act_42 : decode cX5_act 42 = .ok (.getfield 130, 3) := by decide +kernel
theorem dX5_act_45 : decode cX5_act 45 = .ok (.getfield 227, 3) := by decide +kernel
theorem dX5_act_48 : decode cX5_act 48 = .ok (.istore_n 2, 1) := by decide +kernel
theorem dX5_act_49 : decode cX5_act 49 = .ok (.aload_n 0, 1) := by decide +kernel
theorem dX5_act_50 : decode cX5_act 50 = .ok (.getfield 10, 3) := by decide +kernel
theorem dX5_act_53 : decode cX5_act 53 = .ok (.iload_n 1, 1) := by decide +kernel
theorem dX5_act_54 : decode cX5_act 54 = .ok (.invokevirtual 281, 3) := by decide +kernel
theorem dX5_act_57 : decode cX5_act 57 = .ok (.aload_n 0, 1) := by decide +kernel
theorem dX5_act_58 : decode cX5_act 58 = .ok (.getfield 10, 3) := by decide +kernel
theorem dX5_act_61 : decode cX5_act 61 = .ok (.getfield 130, 3) := by decide +kernel
theorem dX5_act_64 : decode cX5_act 64 = .ok (.getfield 227, 3) := by decide +kernel
theorem dX5_act_67 : decode cX5_act 67 = .ok (.iload_n 2, 1) := by decide +kernel
theorem dX5_act_68 : decode cX5_act 68 = .ok (.isub, 1) := by decide +kernel
theorem dX5_act_69 : decode cX5_act 69 = .ok (.ireturn, 1) := by decide +kernel
def fX5_act_0 (x1 : Int32) (s : SS) : Option (Int32 × SS) := ((fX5_isWithin x1 (0 : Int32) (6 : Int32) s).bind fun z1 => if z1.1 = 0 then (((fX5_refuse (-2 : Int32) s).bind fun z3 => some (z3.1, z3.2))) else (((fX0_canDo x1 (selS (fun k => 2 + k) s)).bind fun z4 => if z4.1 = 0 then (((fX5_refuse (-5 : Int32) (mrgS (fun k => 2 + k) 5 s z4.2)).bind fun z6 => some (z6.1, z6.2))) else (((fX4_actInTruth x1 (selS (fun k => 1 + k) (mrgS (fun k => 2 + k) 5 s z4.2))).bind fun z7 => some (((mrgS (fun k => 1 + k) 9 (mrgS (fun k => 2 + k) 5 s z4.2) z7.2).1 2 8) - ((mrgS (fun k => 2 + k) 5 s z4.2).1 2 8), mrgS (fun k => 1 + k) 9 (mrgS (fun k => 2 + k) 5 s z4.2) z7.2))))))
def fX5_act (x1 : Int32) (s : SS) : Option (Int32 × SS) := fX5_act_0 x1 s
set_option maxRecDepth 100000 in
set_option maxHeartbeats 4000000 in
theorem okX5_act_0 {G : GG} {pl : Nat → Nat} {h0 : PH} (x1 : Int32) (s : SS) : EvF G 4 mX5_act lyM pl h0 rvI (fX5_act_0 x1 s) 0 [(0, .ref (pl 0)), (1, .int x1)] [] s := by
  unfold fX5_act_0
  refine ef_iload_n (q := 1) 1 dX5_act_0 rfl rfl rfl ?_
  refine ef_iconst (v := (0 : Int32)) (q := 2) dX5_act_1 (by decide) rfl ?_
  refine ef_bipush (v := (6 : Int32)) (q := 4) dX5_act_2 (by decide) rfl ?_
  refine ef_invPI0 (As := [.int x1, .int (0 : Int32), .int (6 : Int32)]) (rest := []) (q := 7) (okX5_isWithin x1 (0 : Int32) (6 : Int32)) rfl calX5_isWithin ml5_62 (by decide) rfl rfl (Nat.le_of_ble_eq_true rfl) dX5_act_4 rfl (fun z1 => ?_)
  refine ef_if (pt := 10) (pf := 17) (fun _ _ kt kf => ev_if_ne (tgt := 17) dX5_act_7 (by decide) kf kt) (fun h2 => ?_) (fun h2 => ?_)
  · refine ef_aload_n (q := 11) 0 dX5_act_10 rfl rfl rfl ?_
    refine ef_bipush (v := (-2 : Int32)) (q := 13) dX5_act_11 (by decide) rfl ?_
    refine ef_invVI0 (k := 0) (As := [.int (-2 : Int32)]) (rest := []) (q := 16) (okX5_refuse (-2 : Int32)) rfl calX5_refuse ml5_66 (by decide) rfl rfl rfl (Nat.le_of_ble_eq_true rfl) dX5_act_13 rfl (fun z3 => ?_)
    exact ef_iret rfl dX5_act_16
  · refine ef_aload_n (q := 18) 0 dX5_act_17 rfl rfl rfl ?_
    refine ef_getR (t := 1) (q := 21) rfl fl5_10 rfl rfl dX5_act_18 rfl ?_
    refine ef_getR (t := 2) (q := 24) rfl fl5_130 rfl rfl dX5_act_21 rfl ?_
    refine ef_iload_n (q := 25) 1 dX5_act_24 rfl rfl rfl ?_
    refine ef_invVI (k := 2) (nn := 5) (π := (fun k => 2 + k)) (As := [.int x1]) (rest := []) (q := 28) (okX0_canDo x1) (by decide +kernel) rfl calX0_canDo ml5_293 (by decide) rfl rfl rfl (Nat.le_of_ble_eq_true rfl) dX5_act_25 rfl rfl (fun z4 => ?_)
    refine ef_if (pt := 31) (pf := 38) (fun _ _ kt kf => ev_if_ne (tgt := 38) dX5_act_28 (by decide) kf kt) (fun h5 => ?_) (fun h5 => ?_)
    · refine ef_aload_n (q := 32) 0 dX5_act_31 rfl rfl rfl ?_
      refine ef_bipush (v := (-5 : Int32)) (q := 34) dX5_act_32 (by decide) rfl ?_
      refine ef_invVI0 (k := 0) (As := [.int (-5 : Int32)]) (rest := []) (q := 37) (okX5_refuse (-5 : Int32)) rfl calX5_refuse ml5_66 (by decide) rfl rfl rfl (Nat.le_of_ble_eq_true rfl) dX5_act_34 rfl (fun z6 => ?_)
      exact ef_iret rfl dX5_act_37
    · refine ef_aload_n (q := 39) 0 dX5_act_38 rfl rfl rfl ?_
      refine ef_getR (t := 1) (q := 42) rfl fl5_10 rfl rfl dX5_act_39 rfl ?_
      refine ef_getR (t := 2) (q := 45) rfl fl5_130 rfl rfl dX5_act_42 rfl ?_
      refine ef_getI (x := (mrgS (fun k => 2 + k) 5 s z4.2).1 2 8) (q := 48) rfl fl5_227 rfl rfl dX5_act_45 rfl ?_
      refine ef_istore_n (lv' := [(2, .int ((mrgS (fun k => 2 + k) 5 s z4.2).1 2 8)), (0, .ref (pl 0)), (1, .int x1)]) (q := 49) dX5_act_48 rfl (by decide) rfl rfl ?_
      refine ef_aload_n (q := 50) 1 dX5_act_49 rfl rfl rfl ?_
      refine ef_getR (t := 1) (q := 53) rfl fl5_10 rfl rfl dX5_act_50 rfl ?_
      refine ef_iload_n (q := 54) 2 dX5_act_53 rfl rfl rfl ?_
      refine ef_invVU (k := 1) (nn := 9) (π := (fun k => 1 + k)) (As := [.int x1]) (rest := []) (q := 57) (okX4_actInTruth x1) (by decide +kernel) rfl calX4_actInTruth ml5_281 (by decide) rfl rfl rfl (Nat.le_of_ble_eq_true rfl) dX5_act_54 rfl rfl (fun z7 => ?_)
      refine ef_aload_n (q := 58) 1 dX5_act_57 rfl rfl rfl ?_
      refine ef_getR (t := 1) (q := 61) rfl fl5_10 rfl rfl dX5_act_58 rfl ?_
      refine ef_getR (t := 2) (q := 64) rfl fl5_130 rfl rfl dX5_act_61 rfl ?_
      refine ef_getI (x := (mrgS (fun k => 1 + k) 9 (mrgS (fun k => 2 + k) 5 s z4.2) z7.2).1 2 8) (q := 67) rfl fl5_227 rfl rfl dX5_act_64 rfl ?_
      refine ef_iload_n (q := 68) 0 dX5_act_67 rfl rfl rfl ?_
      refine ef_isub (q := 69) dX5_act_68 rfl ?_
      exact ef_iret rfl dX5_act_69
theorem okX5_act (x1 : Int32) : MtF 4 mX5_act lyM rvI (fun _ pl => [.ref (pl 0), .int x1]) (fX5_act x1) := by
  refine MtF.of (by decide +kernel) rfl (fun _ pl => Nat.le_of_ble_eq_true rfl) (fun G pl h0 s => ?_)
  refine ef_sub (lv := [(0, .ref (pl 0)), (1, .int x1)]) (lv' := [(0, .ref (pl 0)), (1, .int x1)]) [0, 1] rfl ?_
  exact okX5_act_0  x1 s
-- X5_lickInTruth
theorem dX5_lickInTruth_0 : decode cX5_lickInTruth 0 = .ok (.iconst 0, 1) := by decide +kernel
theorem dX5_lickInTruth_1 : decode cX5_lickInTruth 1 = .ok (.istore_n 3, 1) := by decide +kernel
theorem dX5_lickInTruth_2 : decode cX5_lickInTruth 2 = .ok (.iload_n 3, 1) := by decide +kernel
theorem dX5_lickInTruth_3 : decode cX5_lickInTruth 3 = .ok (.iload_n 2, 1) := by decide +kernel
theorem dX5_lickInTruth_4 : decode cX5_lickInTruth 4 = .ok (.if_icmp .ge 48, 3) := by decide +kernel
theorem dX5_lickInTruth_7 : decode cX5_lickInTruth 7 = .ok (.aload_n 0, 1) := by decide +kernel
theorem dX5_lickInTruth_8 : decode cX5_lickInTruth 8 = .ok (.getfield 10, 3) := by decide +kernel
theorem dX5_lickInTruth_11 : decode cX5_lickInTruth 11 = .ok (.aload_n 0, 1) := by decide +kernel
theorem dX5_lickInTruth_12 : decode cX5_lickInTruth 12 = .ok (.getfield 32, 3) := by decide +kernel
theorem dX5_lickInTruth_15 : decode cX5_lickInTruth 15 = .ok (.aload_n 0, 1) := by decide +kernel
theorem dX5_lickInTruth_16 : decode cX5_lickInTruth 16 = .ok (.getfield 10, 3) := by decide +kernel
theorem dX5_lickInTruth_19 : decode cX5_lickInTruth 19 = .ok (.getfield 130, 3) := by decide +kernel
theorem dX5_lickInTruth_22 : decode cX5_lickInTruth 22 = .ok (.aload_n 0, 1) := by decide +kernel
theorem dX5_lickInTruth_23 : decode cX5_lickInTruth 23 = .ok (.getfield 10, 3) := by decide +kernel
theorem dX5_lickInTruth_26 : decode cX5_lickInTruth 26 = .ok (.getfield 120, 3) := by decide +kernel
theorem dX5_lickInTruth_29 : decode cX5_lickInTruth 29 = .ok (.iload_n 1, 1) := by decide +kernel
theorem dX5_lickInTruth_30 : decode cX5_lickInTruth 30 = .ok (.iaload, 1) := by decide +kernel
theorem dX5_lickInTruth_31 : decode cX5_lickInTruth 31 = .ok (.aload_n 0, 1) := by decide +kernel
theorem dX5_lickInTruth_32 : decode cX5_lickInTruth 32 = .ok (.getfield 10, 3) := by decide +kernel
theorem dX5_lickInTruth_35 : decode cX5_lickInTruth 35 = .ok (.getfield 127, 3) := by decide +kernel
theorem dX5_lickInTruth_38 : decode cX5_lickInTruth 38 = .ok (.iload_n 1, 1) := by decide +kernel
theorem dX5_lickInTruth_39 : decode cX5_lickInTruth 39 = .ok (.iaload, 1) := by decide +kernel
theorem dX5_lickInTruth_40 : decode cX5_lickInTruth 40 = .ok (.invokevirtual 319, 3) := by decide +kernel
theorem dX5_lickInTruth_43 : decode cX5_lickInTruth 43 = .ok (.invokevirtual 281, 3) := by decide +kernel
theorem dX5_lickInTruth_46 : decode cX5_lickInTruth 46 = .ok (.iinc 3 1, 3) := by decide +kernel
theorem dX5_lickInTruth_49 : decode cX5_lickInTruth 49 = .ok (.goto (-47), 3) := by decide +kernel
theorem dX5_lickInTruth_52 : decode cX5_lickInTruth 52 = .ok (.return_, 1) := by decide +kernel
def fX5_lickInTruth_2 : Nat → Int32 → Int32 → Int32 → SS → Option (Unit × SS)
  | 0, _, _, _, _ => none
  | n + 1, x1, x2, x3, s => if x2 ≤ x3 then (some ((), s)) else (if ixB x1 4 then (if ixB x1 4 then (((fX2_choose (s.1 7 x1.toNatClampNeg) (s.1 8 x1.toNatClampNeg) (selS (fun k => if k < 24 then 33 + k else 2 + (k - 24)) s)).bind fun z4 => ((fX4_actInTruth z4.1 (selS (fun k => 1 + k) (mrgS (fun k => if k < 24 then 33 + k else 2 + (k - 24)) 29 s z4.2))).bind fun z5 => fX5_lickInTruth_2 n x1 x2 (x3 + (1 : Int32)) (mrgS (fun k => 1 + k) 9 (mrgS (fun k => if k < 24 then 33 + k else 2 + (k - 24)) 29 s z4.2) z5.2)))) else none) else none)
def fX5_lickInTruth_0 (x1 : Int32) (x2 : Int32) (s : SS) : Option (Unit × SS) := fX5_lickInTruth_2 FU x1 x2 (0 : Int32) s
def fX5_lickInTruth (x1 : Int32) (x2 : Int32) (s : SS) : Option (Unit × SS) := fX5_lickInTruth_0 x1 x2 s
set_option maxRecDepth 100000 in
set_option maxHeartbeats 4000000 in
theorem okX5_lickInTruth_2 {G : GG} {pl : Nat → Nat} {h0 : PH} : ∀ (n : Nat) (x1 : Int32) (x2 : Int32) (x3 : Int32) (s : SS), EvF G 11 mX5_lickInTruth lyM pl h0 rvU (fX5_lickInTruth_2 n x1 x2 x3 s) 2 [(0, .ref (pl 0)), (1, .int x1), (2, .int x2), (3, .int x3)] [] s := by
  intro n
  induction n with
  | zero => intro x1 x2 x3 s; rw [fX5_lickInTruth_2]; exact ef_none
  | succ n ih =>
    intro x1 x2 x3 s
    rw [fX5_lickInTruth_2]
    refine ef_iload_n (q := 3) 3 dX5_lickInTruth_2 rfl rfl rfl ?_
    refine ef_iload_n (q := 4) 2 dX5_lickInTruth_3 rfl rfl rfl ?_
    refine ef_if (pt := 52) (pf := 7) (fun _ _ => ev_icmp_ge (tgt := 52) dX5_lickInTruth_4 (by decide)) (fun h1 => ?_) (fun h1 => ?_)
    · exact ef_vret rfl dX5_lickInTruth_52
    · refine ef_aload_n (q := 8) 0 dX5_lickInTruth_7 rfl rfl rfl ?_
      refine ef_getR (t := 1) (q := 11) rfl fl5_10 rfl rfl dX5_lickInTruth_8 rfl ?_
      refine ef_aload_n (q := 12) 0 dX5_lickInTruth_11 rfl rfl rfl ?_
      refine ef_getR (t := 33) (q := 15) rfl fl5_32 rfl rfl dX5_lickInTruth_12 rfl ?_
      refine ef_aload_n (q := 16) 0 dX5_lickInTruth_15 rfl rfl rfl ?_
      refine ef_getR (t := 1) (q := 19) rfl fl5_10 rfl rfl dX5_lickInTruth_16 rfl ?_
      refine ef_getR (t := 2) (q := 22) rfl fl5_130 rfl rfl dX5_lickInTruth_19 rfl ?_
      refine ef_aload_n (q := 23) 0 dX5_lickInTruth_22 rfl rfl rfl ?_
      refine ef_getR (t := 1) (q := 26) rfl fl5_10 rfl rfl dX5_lickInTruth_23 rfl ?_
      refine ef_getR (t := 7) (q := 29) rfl fl5_120 rfl rfl dX5_lickInTruth_26 rfl ?_
      refine ef_iload_n (q := 30) 1 dX5_lickInTruth_29 rfl rfl rfl ?_
      refine ef_guard (fun g2 => ?_)
      refine ef_iaload (x := s.1 7 x1.toNatClampNeg) (q := 31) rfl g2 dX5_lickInTruth_30 rfl rfl ?_
      refine ef_aload_n (q := 32) 0 dX5_lickInTruth_31 rfl rfl rfl ?_
      refine ef_getR (t := 1) (q := 35) rfl fl5_10 rfl rfl dX5_lickInTruth_32 rfl ?_
      refine ef_getR (t := 8) (q := 38) rfl fl5_127 rfl rfl dX5_lickInTruth_35 rfl ?_
      refine ef_iload_n (q := 39) 1 dX5_lickInTruth_38 rfl rfl rfl ?_
      refine ef_guard (fun g3 => ?_)
      refine ef_iaload (x := s.1 8 x1.toNatClampNeg) (q := 40) rfl g3 dX5_lickInTruth_39 rfl rfl ?_
      refine ef_invVI (k := 33) (nn := 29) (π := (fun k => if k < 24 then 33 + k else 2 + (k - 24))) (As := [.ref (pl 2), .int (s.1 7 x1.toNatClampNeg), .int (s.1 8 x1.toNatClampNeg)]) (rest := [.ref (pl 1)]) (q := 43) (okX2_choose (s.1 7 x1.toNatClampNeg) (s.1 8 x1.toNatClampNeg)) (by decide +kernel) rfl calX2_choose ml5_319 (by decide) rfl rfl rfl (Nat.le_of_ble_eq_true rfl) dX5_lickInTruth_40 rfl rfl (fun z4 => ?_)
      refine ef_invVU (k := 1) (nn := 9) (π := (fun k => 1 + k)) (As := [.int z4.1]) (rest := []) (q := 46) (okX4_actInTruth z4.1) (by decide +kernel) rfl calX4_actInTruth ml5_281 (by decide) rfl rfl rfl (Nat.le_of_ble_eq_true rfl) dX5_lickInTruth_43 rfl rfl (fun z5 => ?_)
      refine ef_iinc (v := x3 + (1 : Int32)) (lv' := [(3, .int (x3 + (1 : Int32))), (0, .ref (pl 0)), (1, .int x1), (2, .int x2)]) (q := 49) 3 dX5_lickInTruth_46 rfl rfl (by decide) rfl rfl ?_
      refine ef_goto (tgt := 2) dX5_lickInTruth_49 (by decide) ?_
      refine ef_sub (lv' := [(0, .ref (pl 0)), (1, .int x1), (2, .int x2), (3, .int (x3 + (1 : Int32)))]) [1, 2, 3, 0] rfl ?_
      exact ih x1 x2 (x3 + (1 : Int32)) (mrgS (fun k => 1 + k) 9 (mrgS (fun k => if k < 24 then 33 + k else 2 + (k - 24)) 29 s z4.2) z5.2)
set_option maxRecDepth 100000 in
set_option maxHeartbeats 4000000 in
theorem okX5_lickInTruth_0 {G : GG} {pl : Nat → Nat} {h0 : PH} (x1 : Int32) (x2 : Int32) (s : SS) : EvF G 11 mX5_lickInTruth lyM pl h0 rvU (fX5_lickInTruth_0 x1 x2 s) 0 [(0, .ref (pl 0)), (1, .int x1), (2, .int x2)] [] s := by
  unfold fX5_lickInTruth_0
  refine ef_iconst (v := (0 : Int32)) (q := 1) dX5_lickInTruth_0 (by decide) rfl ?_
  refine ef_istore_n (lv' := [(3, .int (0 : Int32)), (0, .ref (pl 0)), (1, .int x1), (2, .int x2)]) (q := 2) dX5_lickInTruth_1 rfl (by decide) rfl rfl ?_
  refine ef_sub (lv' := [(0, .ref (pl 0)), (1, .int x1), (2, .int x2), (3, .int (0 : Int32))]) [1, 2, 3, 0] rfl ?_
  exact okX5_lickInTruth_2 FU x1 x2 (0 : Int32) s
theorem okX5_lickInTruth (x1 : Int32) (x2 : Int32) : MtF 11 mX5_lickInTruth lyM rvU (fun _ pl => [.ref (pl 0), .int x1, .int x2]) (fX5_lickInTruth x1 x2) := by
  refine MtF.of (by decide +kernel) rfl (fun _ pl => Nat.le_of_ble_eq_true rfl) (fun G pl h0 s => ?_)
  refine ef_sub (lv := [(0, .ref (pl 0)), (1, .int x1), (2, .int x2)]) (lv' := [(0, .ref (pl 0)), (1, .int x1), (2, .int x2)]) [0, 1, 2] rfl ?_
  exact okX5_lickInTruth_0  x1 x2 s
-- X5_licks
theorem dX5_licks_0 : decode cX5_licks 0 = .ok (.aload_n 0, 1) := by decide +kernel
theorem dX5_licks_1 : decode cX5_licks 1 = .ok (.iload_n 1, 1) := by decide +kernel
theorem dX5_licks_2 : decode cX5_licks 2 = .ok (.invokevirtual 106, 3) := by decide +kernel
theorem dX5_licks_5 : decode cX5_licks 5 = .ok (.ifCond .eq 13, 3) := by decide +kernel
theorem dX5_licks_8 : decode cX5_licks 8 = .ok (.iload_n 2, 1) := by decide +kernel
theorem dX5_licks_9 : decode cX5_licks 9 = .ok (.iconst 1, 1) := by decide +kernel
theorem dX5_licks_10 : decode cX5_licks 10 = .ok (.bipush 60, 2) := by decide +kernel
theorem dX5_licks_12 : decode cX5_licks 12 = .ok (.invokestatic 62, 3) := by decide +kernel
theorem dX5_licks_15 : decode cX5_licks 15 = .ok (.ifCond .ne 10, 3) := by decide +kernel
theorem dX5_licks_18 : decode cX5_licks 18 = .ok (.aload_n 0, 1) := by decide +kernel
theorem dX5_licks_19 : decode cX5_licks 19 = .ok (.bipush (-2), 2) := by decide +kernel
theorem dX5_licks_21 : decode cX5_licks 21 = .ok (.invokevirtual 66, 3) := by decide +kernel
theorem dX5_licks_24 : decode cX5_licks 24 = .ok (.ireturn, 1) := by decide +kernel
theorem dX5_licks_25 : decode cX5_licks 25 = .ok (.aload_n 0, 1) := by decide +kernel
theorem dX5_licks_26 : decode cX5_licks 26 = .ok (.getfield 10, 3) := by decide +kernel
theorem dX5_licks_29 : decode cX5_licks 29 = .ok (.getfield 130, 3) := by decide +kernel
theorem dX5_licks_32 : decode cX5_licks 32 = .ok (.getfield 246, 3) := by decide +kernel
theorem dX5_licks_35 : decode cX5_licks 35 = .ok (.istore_n 3, 1) := by decide +kernel
theorem dX5_licks_36 : decode cX5_licks 36 = .ok (.aload_n 0, 1) := by decide +kernel
theorem dX5_licks_37 : decode cX5_licks 37 = .ok (.iload_n 1, 1) := by decide +kernel
theorem dX5_licks_38 : decode cX5_licks 38 = .ok (.iload_n 2, 1) := by decide +kernel
theorem dX5_licks_39 : decode cX5_licks 39 = .ok (.invokevirtual 296, 3) := by decide +kernel
theorem dX5_licks_42 : decode cX5_licks 42 = .ok (.aload_n 0, 1) := by decide +kernel
theorem dX5_licks_43 : decode cX5_licks 43 = .ok (.getfield 10, 3) := by decide +kernel
theorem dX5_licks_46 : decode cX5_licks 46 = .ok (.getfield 130, 3) := by decide +kernel
theorem dX5_licks_49 : decode cX5_licks 49 = .ok (.getfield 246, 3) := by decide +kernel
theorem dX5_licks_52 : decode cX5_licks 52 = .ok (.iload_n 3, 1) := by decide +kernel
theorem dX5_licks_53 : decode cX5_licks 53 = .ok (.isub, 1) := by decide +kernel
theorem dX5_licks_54 : decode cX5_licks 54 = .ok (.ireturn, 1) := by decide +kernel
def fX5_licks_18 (s : SS) : Option (Int32 × SS) := ((fX5_refuse (-2 : Int32) s).bind fun z1 => some (z1.1, z1.2))
def fX5_licks_0 (x1 : Int32) (x2 : Int32) (s : SS) : Option (Int32 × SS) := ((fX5_isLicker x1 s).bind fun z1 => if z1.1 = 0 then (fX5_licks_18 z1.2) else (((fX5_isWithin x2 (1 : Int32) (60 : Int32) z1.2).bind fun z3 => if z3.1 = 0 then (fX5_licks_18 z1.2) else (((fX5_lickInTruth x1 x2 z1.2).bind fun z5 => some ((z5.2.1 2 9) - (z1.2.1 2 9), z5.2))))))
def fX5_licks (x1 : Int32) (x2 : Int32) (s : SS) : Option (Int32 × SS) := fX5_licks_0 x1 x2 s
set_option maxRecDepth 100000 in
set_option maxHeartbeats 4000000 in
theorem okX5_licks_18 {G : GG} {pl : Nat → Nat} {h0 : PH} (s : SS) : EvF G 12 mX5_licks lyM pl h0 rvI (fX5_licks_18 s) 18 [(0, .ref (pl 0))] [] s := by
  unfold fX5_licks_18
  refine ef_aload_n (q := 19) 0 dX5_licks_18 rfl rfl rfl ?_
  refine ef_bipush (v := (-2 : Int32)) (q := 21) dX5_licks_19 (by decide) rfl ?_
  refine ef_invVI0 (k := 0) (As := [.int (-2 : Int32)]) (rest := []) (q := 24) (okX5_refuse (-2 : Int32)) rfl calX5_refuse ml5_66 (by decide) rfl rfl rfl (Nat.le_of_ble_eq_true rfl) dX5_licks_21 rfl (fun z1 => ?_)
  exact ef_iret rfl dX5_licks_24
set_option maxRecDepth 100000 in
set_option maxHeartbeats 4000000 in
theorem okX5_licks_0 {G : GG} {pl : Nat → Nat} {h0 : PH} (x1 : Int32) (x2 : Int32) (s : SS) : EvF G 12 mX5_licks lyM pl h0 rvI (fX5_licks_0 x1 x2 s) 0 [(0, .ref (pl 0)), (1, .int x1), (2, .int x2)] [] s := by
  unfold fX5_licks_0
  refine ef_aload_n (q := 1) 0 dX5_licks_0 rfl rfl rfl ?_
  refine ef_iload_n (q := 2) 1 dX5_licks_1 rfl rfl rfl ?_
  refine ef_invVI0 (k := 0) (As := [.int x1]) (rest := []) (q := 5) (okX5_isLicker x1) rfl calX5_isLicker ml5_106 (by decide) rfl rfl rfl (Nat.le_of_ble_eq_true rfl) dX5_licks_2 rfl (fun z1 => ?_)
  refine ef_if (pt := 18) (pf := 8) (fun _ _ => ev_if_eq (tgt := 18) dX5_licks_5 (by decide)) (fun h2 => ?_) (fun h2 => ?_)
  · refine ef_sub (lv' := [(0, .ref (pl 0))]) [0] rfl ?_
    exact okX5_licks_18 z1.2
  · refine ef_iload_n (q := 9) 2 dX5_licks_8 rfl rfl rfl ?_
    refine ef_iconst (v := (1 : Int32)) (q := 10) dX5_licks_9 (by decide) rfl ?_
    refine ef_bipush (v := (60 : Int32)) (q := 12) dX5_licks_10 (by decide) rfl ?_
    refine ef_invPI0 (As := [.int x2, .int (1 : Int32), .int (60 : Int32)]) (rest := []) (q := 15) (okX5_isWithin x2 (1 : Int32) (60 : Int32)) rfl calX5_isWithin ml5_62 (by decide) rfl rfl (Nat.le_of_ble_eq_true rfl) dX5_licks_12 rfl (fun z3 => ?_)
    refine ef_if (pt := 18) (pf := 25) (fun _ _ kt kf => ev_if_ne (tgt := 25) dX5_licks_15 (by decide) kf kt) (fun h4 => ?_) (fun h4 => ?_)
    · refine ef_sub (lv' := [(0, .ref (pl 0))]) [0] rfl ?_
      exact okX5_licks_18 z1.2
    · refine ef_aload_n (q := 26) 0 dX5_licks_25 rfl rfl rfl ?_
      refine ef_getR (t := 1) (q := 29) rfl fl5_10 rfl rfl dX5_licks_26 rfl ?_
      refine ef_getR (t := 2) (q := 32) rfl fl5_130 rfl rfl dX5_licks_29 rfl ?_
      refine ef_getI (x := z1.2.1 2 9) (q := 35) rfl fl5_246 rfl rfl dX5_licks_32 rfl ?_
      refine ef_istore_n (lv' := [(3, .int (z1.2.1 2 9)), (0, .ref (pl 0)), (1, .int x1), (2, .int x2)]) (q := 36) dX5_licks_35 rfl (by decide) rfl rfl ?_
      refine ef_aload_n (q := 37) 1 dX5_licks_36 rfl rfl rfl ?_
      refine ef_iload_n (q := 38) 2 dX5_licks_37 rfl rfl rfl ?_
      refine ef_iload_n (q := 39) 3 dX5_licks_38 rfl rfl rfl ?_
      refine ef_invVU0 (k := 0) (As := [.int x1, .int x2]) (rest := []) (q := 42) (okX5_lickInTruth x1 x2) rfl calX5_lickInTruth ml5_296 (by decide) rfl rfl rfl (Nat.le_of_ble_eq_true rfl) dX5_licks_39 rfl (fun z5 => ?_)
      refine ef_aload_n (q := 43) 1 dX5_licks_42 rfl rfl rfl ?_
      refine ef_getR (t := 1) (q := 46) rfl fl5_10 rfl rfl dX5_licks_43 rfl ?_
      refine ef_getR (t := 2) (q := 49) rfl fl5_130 rfl rfl dX5_licks_46 rfl ?_
      refine ef_getI (x := z5.2.1 2 9) (q := 52) rfl fl5_246 rfl rfl dX5_licks_49 rfl ?_
      refine ef_iload_n (q := 53) 0 dX5_licks_52 rfl rfl rfl ?_
      refine ef_isub (q := 54) dX5_licks_53 rfl ?_
      exact ef_iret rfl dX5_licks_54
theorem okX5_licks (x1 : Int32) (x2 : Int32) : MtF 12 mX5_licks lyM rvI (fun _ pl => [.ref (pl 0), .int x1, .int x2]) (fX5_licks x1 x2) := by
  refine MtF.of (by decide +kernel) rfl (fun _ pl => Nat.le_of_ble_eq_true rfl) (fun G pl h0 s => ?_)
  refine ef_sub (lv := [(0, .ref (pl 0)), (1, .int x1), (2, .int x2)]) (lv' := [(0, .ref (pl 0)), (1, .int x1), (2, .int x2)]) [0, 1, 2] rfl ?_
  exact okX5_licks_0  x1 x2 s
-- X5_swap
theorem dX5_swap_0 : decode cX5_swap 0 = .ok (.aload_n 0, 1) := by decide +kernel
theorem dX5_swap_1 : decode cX5_swap 1 = .ok (.iload_n 1, 1) := by decide +kernel
theorem dX5_swap_2 : decode cX5_swap 2 = .ok (.invokevirtual 191, 3) := by decide +kernel
theorem dX5_swap_5 : decode cX5_swap 5 = .ok (.ifCond .eq 11, 3) := by decide +kernel
theorem dX5_swap_8 : decode cX5_swap 8 = .ok (.aload_n 0, 1) := by decide +kernel
theorem dX5_swap_9 : decode cX5_swap 9 = .ok (.iload_n 2, 1) := by decide +kernel
theorem dX5_swap_10 : decode cX5_swap 10 = .ok (.invokevirtual 191, 3) := by decide +kernel
theorem dX5_swap_13 : decode cX5_swap 13 = .ok (.ifCond .ne 10, 3) := by decide +kernel
theorem dX5_swap_16 : decode cX5_swap 16 = .ok (.aload_n 0, 1) := by decide +kernel
theorem dX5_swap_17 : decode cX5_swap 17 = .ok (.bipush (-2), 2) := by decide +kernel
theorem dX5_swap_19 : decode cX5_swap 19 = .ok (.invokevirtual 66, 3) := by decide +kernel
theorem dX5_swap_22 : decode cX5_swap 22 = .ok (.ireturn, 1) := by decide +kernel
theorem dX5_swap_23 : decode cX5_swap 23 = .ok (.iload_n 1, 1) := by decide +kernel
theorem dX5_swap_24 : decode cX5_swap 24 = .ok (.iload_n 2, 1) := by decide +kernel
theorem dX5_swap_25 : decode cX5_swap 25 = .ok (.if_icmp .ne 5, 3) := by decide +kernel
theorem dX5_swap_28 : decode cX5_swap 28 = .ok (.iconst 0, 1) := by decide +kernel
theorem dX5_swap_29 : decode cX5_swap 29 = .ok (.ireturn, 1) := by decide +kernel
theorem dX5_swap_30 : decode cX5_swap 30 = .ok (.aload_n 0, 1) := by decide +kernel
theorem dX5_swap_31 : decode cX5_swap 31 = .ok (.getfield 10, 3) := by decide +kernel
theorem dX5_swap_34 : decode cX5_swap 34 = .ok (.getfield 130, 3) := by decide +kernel
theorem dX5_swap_37 : decode cX5_swap 37 = .ok (.iload_n 1, 1) := by decide +kernel
theorem dX5_swap_38 : decode cX5_swap 38 = .ok (.iload_n 2, 1) := by decide +kernel
theorem dX5_swap_39 : decode cX5_swap 39 = .ok (.invokevirtual 299, 3) := by decide +kernel
theorem dX5_swap_42 : decode cX5_swap 42 = .ok (.iconst 1, 1) := by decide +kernel
theorem dX5_swap_43 : decode cX5_swap 43 = .ok (.ireturn, 1) := by decide +kernel
def fX5_swap_16 (s : SS) : Option (Int32 × SS) := ((fX5_refuse (-2 : Int32) s).bind fun z1 => some (z1.1, z1.2))
def fX5_swap_0 (x1 : Int32) (x2 : Int32) (s : SS) : Option (Int32 × SS) := ((fX5_isScoop x1 s).bind fun z1 => if z1.1 = 0 then (fX5_swap_16 z1.2) else (((fX5_isScoop x2 z1.2).bind fun z3 => if z3.1 = 0 then (fX5_swap_16 z3.2) else (if x1 = x2 then (some ((0 : Int32), z3.2)) else (((fX0_changePlaces x1 x2 (selS (fun k => 2 + k) z3.2)).bind fun z6 => some ((1 : Int32), mrgS (fun k => 2 + k) 5 z3.2 z6.2)))))))
def fX5_swap (x1 : Int32) (x2 : Int32) (s : SS) : Option (Int32 × SS) := fX5_swap_0 x1 x2 s
set_option maxRecDepth 100000 in
set_option maxHeartbeats 4000000 in
theorem okX5_swap_16 {G : GG} {pl : Nat → Nat} {h0 : PH} (s : SS) : EvF G 2 mX5_swap lyM pl h0 rvI (fX5_swap_16 s) 16 [(0, .ref (pl 0))] [] s := by
  unfold fX5_swap_16
  refine ef_aload_n (q := 17) 0 dX5_swap_16 rfl rfl rfl ?_
  refine ef_bipush (v := (-2 : Int32)) (q := 19) dX5_swap_17 (by decide) rfl ?_
  refine ef_invVI0 (k := 0) (As := [.int (-2 : Int32)]) (rest := []) (q := 22) (okX5_refuse (-2 : Int32)) rfl calX5_refuse ml5_66 (by decide) rfl rfl rfl (Nat.le_of_ble_eq_true rfl) dX5_swap_19 rfl (fun z1 => ?_)
  exact ef_iret rfl dX5_swap_22
set_option maxRecDepth 100000 in
set_option maxHeartbeats 4000000 in
theorem okX5_swap_0 {G : GG} {pl : Nat → Nat} {h0 : PH} (x1 : Int32) (x2 : Int32) (s : SS) : EvF G 2 mX5_swap lyM pl h0 rvI (fX5_swap_0 x1 x2 s) 0 [(0, .ref (pl 0)), (1, .int x1), (2, .int x2)] [] s := by
  unfold fX5_swap_0
  refine ef_aload_n (q := 1) 0 dX5_swap_0 rfl rfl rfl ?_
  refine ef_iload_n (q := 2) 1 dX5_swap_1 rfl rfl rfl ?_
  refine ef_invVI0 (k := 0) (As := [.int x1]) (rest := []) (q := 5) (okX5_isScoop x1) rfl calX5_isScoop ml5_191 (by decide) rfl rfl rfl (Nat.le_of_ble_eq_true rfl) dX5_swap_2 rfl (fun z1 => ?_)
  refine ef_if (pt := 16) (pf := 8) (fun _ _ => ev_if_eq (tgt := 16) dX5_swap_5 (by decide)) (fun h2 => ?_) (fun h2 => ?_)
  · refine ef_sub (lv' := [(0, .ref (pl 0))]) [0] rfl ?_
    exact okX5_swap_16 z1.2
  · refine ef_aload_n (q := 9) 0 dX5_swap_8 rfl rfl rfl ?_
    refine ef_iload_n (q := 10) 2 dX5_swap_9 rfl rfl rfl ?_
    refine ef_invVI0 (k := 0) (As := [.int x2]) (rest := []) (q := 13) (okX5_isScoop x2) rfl calX5_isScoop ml5_191 (by decide) rfl rfl rfl (Nat.le_of_ble_eq_true rfl) dX5_swap_10 rfl (fun z3 => ?_)
    refine ef_if (pt := 16) (pf := 23) (fun _ _ kt kf => ev_if_ne (tgt := 23) dX5_swap_13 (by decide) kf kt) (fun h4 => ?_) (fun h4 => ?_)
    · refine ef_sub (lv' := [(0, .ref (pl 0))]) [0] rfl ?_
      exact okX5_swap_16 z3.2
    · refine ef_iload_n (q := 24) 1 dX5_swap_23 rfl rfl rfl ?_
      refine ef_iload_n (q := 25) 2 dX5_swap_24 rfl rfl rfl ?_
      refine ef_if (pt := 28) (pf := 30) (fun _ _ kt kf => ev_icmp_ne (tgt := 30) dX5_swap_25 (by decide) kf kt) (fun h5 => ?_) (fun h5 => ?_)
      · refine ef_iconst (v := (0 : Int32)) (q := 29) dX5_swap_28 (by decide) rfl ?_
        exact ef_iret rfl dX5_swap_29
      · refine ef_aload_n (q := 31) 0 dX5_swap_30 rfl rfl rfl ?_
        refine ef_getR (t := 1) (q := 34) rfl fl5_10 rfl rfl dX5_swap_31 rfl ?_
        refine ef_getR (t := 2) (q := 37) rfl fl5_130 rfl rfl dX5_swap_34 rfl ?_
        refine ef_iload_n (q := 38) 1 dX5_swap_37 rfl rfl rfl ?_
        refine ef_iload_n (q := 39) 2 dX5_swap_38 rfl rfl rfl ?_
        refine ef_invVU (k := 2) (nn := 5) (π := (fun k => 2 + k)) (As := [.int x1, .int x2]) (rest := []) (q := 42) (okX0_changePlaces x1 x2) (by decide +kernel) rfl calX0_changePlaces ml5_299 (by decide) rfl rfl rfl (Nat.le_of_ble_eq_true rfl) dX5_swap_39 rfl rfl (fun z6 => ?_)
        refine ef_iconst (v := (1 : Int32)) (q := 43) dX5_swap_42 (by decide) rfl ?_
        exact ef_iret rfl dX5_swap_43
theorem okX5_swap (x1 : Int32) (x2 : Int32) : MtF 2 mX5_swap lyM rvI (fun _ pl => [.ref (pl 0), .int x1, .int x2]) (fX5_swap x1 x2) := by
  refine MtF.of (by decide +kernel) rfl (fun _ pl => Nat.le_of_ble_eq_true rfl) (fun G pl h0 s => ?_)
  refine ef_sub (lv := [(0, .ref (pl 0)), (1, .int x1), (2, .int x2)]) (lv' := [(0, .ref (pl 0)), (1, .int x1), (2, .int x2)]) [0, 1, 2] rfl ?_
  exact okX5_swap_0  x1 x2 s
-- X5_day
theorem dX5_day_0 : decode cX5_day 0 = .ok (.aload_n 0, 1) := by decide +kernel
theorem dX5_day_1 : decode cX5_day 1 = .ok (.iload_n 1, 1) := by decide +kernel
theorem dX5_day_2 : decode cX5_day 2 = .ok (.invokevirtual 106, 3) := by decide +kernel
theorem dX5_day_5 : decode cX5_day 5 = .ok (.ifCond .eq 13, 3) := by decide +kernel
theorem dX5_day_8 : decode cX5_day 8 = .ok (.iload_n 2, 1) := by decide +kernel
theorem dX5_day_9 : decode cX5_day 9 = .ok (.iconst 1, 1) := by decide +kernel
theorem dX5_day_10 : decode cX5_day 10 = .ok (.bipush 60, 2) := by decide +kernel
theorem dX5_day_12 : decode cX5_day 12 = .ok (.invokestatic 62, 3) := by decide +kernel
theorem dX5_day_15 : decode cX5_day 15 = .ok (.ifCond .ne 10, 3) := by decide +kernel
theorem dX5_day_18 : decode cX5_day 18 = .ok (.aload_n 0, 1) := by decide +kernel
theorem dX5_day_19 : decode cX5_day 19 = .ok (.bipush (-2), 2) := by decide +kernel
theorem dX5_day_21 : decode cX5_day 21 = .ok (.invokevirtual 66, 3) := by decide +kernel
theorem dX5_day_24 : decode cX5_day 24 = .ok (.ireturn, 1) := by decide +kernel
theorem dX5_day_25 : decode cX5_day 25 = .ok (.aload_n 0, 1) := by decide +kernel
theorem dX5_day_26 : decode cX5_day 26 = .ok (.getfield 10, 3) := by decide +kernel
theorem dX5_day_29 : decode cX5_day 29 = .ok (.getfield 130, 3) := by decide +kernel
theorem dX5_day_32 : decode cX5_day 32 = .ok (.aload_n 0, 1) := by decide +kernel
theorem dX5_day_33 : decode cX5_day 33 = .ok (.getfield 10, 3) := by decide +kernel
theorem dX5_day_36 : decode cX5_day 36 = .ok (.invokevirtual 302, 3) := by decide +kernel
theorem dX5_day_39 : decode cX5_day 39 = .ok (.aload_n 0, 1) := by decide +kernel
theorem dX5_day_40 : decode cX5_day 40 = .ok (.getfield 10, 3) := by decide +kernel
theorem dX5_day_43 : decode cX5_day 43 = .ok (.getfield 130, 3) := by decide +kernel
theorem dX5_day_46 : decode cX5_day 46 = .ok (.invokevirtual 149, 3) := by decide +kernel
theorem dX5_day_49 : decode cX5_day 49 = .ok (.iand, 1) := by decide +kernel
theorem dX5_day_50 : decode cX5_day 50 = .ok (.putfield 152, 3) := by decide +kernel
theorem dX5_day_53 : decode cX5_day 53 = .ok (.aload_n 0, 1) := by decide +kernel
theorem dX5_day_54 : decode cX5_day 54 = .ok (.getfield 10, 3) := by decide +kernel
theorem dX5_day_57 : decode cX5_day 57 = .ok (.getfield 130, 3) := by decide +kernel
theorem dX5_day_60 : decode cX5_day 60 = .ok (.getfield 227, 3) := by decide +kernel
theorem dX5_day_63 : decode cX5_day 63 = .ok (.istore_n 3, 1) := by decide +kernel
theorem dX5_day_64 : decode cX5_day 64 = .ok (.aload_n 0, 1) := by decide +kernel
theorem dX5_day_65 : decode cX5_day 65 = .ok (.iload_n 1, 1) := by decide +kernel
theorem dX5_day_66 : decode cX5_day 66 = .ok (.iload_n 2, 1) := by decide +kernel
theorem dX5_day_67 : decode cX5_day 67 = .ok (.invokevirtual 296, 3) := by decide +kernel
theorem dX5_day_70 : decode cX5_day 70 = .ok (.aload_n 0, 1) := by decide +kernel
theorem dX5_day_71 : decode cX5_day 71 = .ok (.getfield 10, 3) := by decide +kernel
theorem dX5_day_74 : decode cX5_day 74 = .ok (.getfield 130, 3) := by decide +kernel
theorem dX5_day_77 : decode cX5_day 77 = .ok (.getfield 227, 3) := by decide +kernel
theorem dX5_day_80 : decode cX5_day 80 = .ok (.iload_n 3, 1) := by decide +kernel
theorem dX5_day_81 : decode cX5_day 81 = .ok (.isub, 1) := by decide +kernel
theorem dX5_day_82 : decode cX5_day 82 = .ok (.ireturn, 1) := by decide +kernel
def fX5_day_18 (s : SS) : Option (Int32 × SS) := ((fX5_refuse (-2 : Int32) s).bind fun z1 => some (z1.1, z1.2))
def fX5_day_0 (x1 : Int32) (x2 : Int32) (s : SS) : Option (Int32 × SS) := ((fX5_isLicker x1 s).bind fun z1 => if z1.1 = 0 then (fX5_day_18 z1.2) else (((fX5_isWithin x2 (1 : Int32) (60 : Int32) z1.2).bind fun z3 => if z3.1 = 0 then (fX5_day_18 z1.2) else (((fX4_drawByte (selS (fun k => 1 + k) z1.2)).bind fun z5 => ((fX0_allPlaces (selS (fun k => 2 + k) (mrgS (fun k => 1 + k) 9 z1.2 z5.2))).bind fun z6 => ((fX5_lickInTruth x1 x2 (wrI (mrgS (fun k => 2 + k) 5 (mrgS (fun k => 1 + k) 9 z1.2 z5.2) z6.2) 2 2 (z5.1 &&& z6.1))).bind fun z7 => some ((z7.2.1 2 8) - ((mrgS (fun k => 2 + k) 5 (mrgS (fun k => 1 + k) 9 z1.2 z5.2) z6.2).1 2 8), z7.2))))))))
def fX5_day (x1 : Int32) (x2 : Int32) (s : SS) : Option (Int32 × SS) := fX5_day_0 x1 x2 s
set_option maxRecDepth 100000 in
set_option maxHeartbeats 4000000 in
theorem okX5_day_18 {G : GG} {pl : Nat → Nat} {h0 : PH} (s : SS) : EvF G 12 mX5_day lyM pl h0 rvI (fX5_day_18 s) 18 [(0, .ref (pl 0))] [] s := by
  unfold fX5_day_18
  refine ef_aload_n (q := 19) 0 dX5_day_18 rfl rfl rfl ?_
  refine ef_bipush (v := (-2 : Int32)) (q := 21) dX5_day_19 (by decide) rfl ?_
  refine ef_invVI0 (k := 0) (As := [.int (-2 : Int32)]) (rest := []) (q := 24) (okX5_refuse (-2 : Int32)) rfl calX5_refuse ml5_66 (by decide) rfl rfl rfl (Nat.le_of_ble_eq_true rfl) dX5_day_21 rfl (fun z1 => ?_)
  exact ef_iret rfl dX5_day_24
set_option maxRecDepth 100000 in
set_option maxHeartbeats 4000000 in
theorem okX5_day_0 {G : GG} {pl : Nat → Nat} {h0 : PH} (x1 : Int32) (x2 : Int32) (s : SS) : EvF G 12 mX5_day lyM pl h0 rvI (fX5_day_0 x1 x2 s) 0 [(0, .ref (pl 0)), (1, .int x1), (2, .int x2)] [] s := by
  unfold fX5_day_0
  refine ef_aload_n (q := 1) 0 dX5_day_0 rfl rfl rfl ?_
  refine ef_iload_n (q := 2) 1 dX5_day_1 rfl rfl rfl ?_
  refine ef_invVI0 (k := 0) (As := [.int x1]) (rest := []) (q := 5) (okX5_isLicker x1) rfl calX5_isLicker ml5_106 (by decide) rfl rfl rfl (Nat.le_of_ble_eq_true rfl) dX5_day_2 rfl (fun z1 => ?_)
  refine ef_if (pt := 18) (pf := 8) (fun _ _ => ev_if_eq (tgt := 18) dX5_day_5 (by decide)) (fun h2 => ?_) (fun h2 => ?_)
  · refine ef_sub (lv' := [(0, .ref (pl 0))]) [0] rfl ?_
    exact okX5_day_18 z1.2
  · refine ef_iload_n (q := 9) 2 dX5_day_8 rfl rfl rfl ?_
    refine ef_iconst (v := (1 : Int32)) (q := 10) dX5_day_9 (by decide) rfl ?_
    refine ef_bipush (v := (60 : Int32)) (q := 12) dX5_day_10 (by decide) rfl ?_
    refine ef_invPI0 (As := [.int x2, .int (1 : Int32), .int (60 : Int32)]) (rest := []) (q := 15) (okX5_isWithin x2 (1 : Int32) (60 : Int32)) rfl calX5_isWithin ml5_62 (by decide) rfl rfl (Nat.le_of_ble_eq_true rfl) dX5_day_12 rfl (fun z3 => ?_)
    refine ef_if (pt := 18) (pf := 25) (fun _ _ kt kf => ev_if_ne (tgt := 25) dX5_day_15 (by decide) kf kt) (fun h4 => ?_) (fun h4 => ?_)
    · refine ef_sub (lv' := [(0, .ref (pl 0))]) [0] rfl ?_
      exact okX5_day_18 z1.2
    · refine ef_aload_n (q := 26) 0 dX5_day_25 rfl rfl rfl ?_
      refine ef_getR (t := 1) (q := 29) rfl fl5_10 rfl rfl dX5_day_26 rfl ?_
      refine ef_getR (t := 2) (q := 32) rfl fl5_130 rfl rfl dX5_day_29 rfl ?_
      refine ef_aload_n (q := 33) 0 dX5_day_32 rfl rfl rfl ?_
      refine ef_getR (t := 1) (q := 36) rfl fl5_10 rfl rfl dX5_day_33 rfl ?_
      refine ef_invVI (k := 1) (nn := 9) (π := (fun k => 1 + k)) (As := []) (rest := [.ref (pl 2)]) (q := 39) (okX4_drawByte) (by decide +kernel) rfl calX4_drawByte ml5_302 (by decide) rfl rfl rfl (Nat.le_of_ble_eq_true rfl) dX5_day_36 rfl rfl (fun z5 => ?_)
      refine ef_aload_n (q := 40) 0 dX5_day_39 rfl rfl rfl ?_
      refine ef_getR (t := 1) (q := 43) rfl fl5_10 rfl rfl dX5_day_40 rfl ?_
      refine ef_getR (t := 2) (q := 46) rfl fl5_130 rfl rfl dX5_day_43 rfl ?_
      refine ef_invVI (k := 2) (nn := 5) (π := (fun k => 2 + k)) (As := []) (rest := [.int z5.1, .ref (pl 2)]) (q := 49) (okX0_allPlaces) (by decide +kernel) rfl calX0_allPlaces ml5_149 (by decide) rfl rfl rfl (Nat.le_of_ble_eq_true rfl) dX5_day_46 rfl rfl (fun z6 => ?_)
      refine ef_iand (q := 50) dX5_day_49 rfl ?_
      refine ef_putI (q := 53) rfl fl5_152 rfl rfl dX5_day_50 rfl ?_
      refine ef_aload_n (q := 54) 0 dX5_day_53 rfl rfl rfl ?_
      refine ef_getR (t := 1) (q := 57) rfl fl5_10 rfl rfl dX5_day_54 rfl ?_
      refine ef_getR (t := 2) (q := 60) rfl fl5_130 rfl rfl dX5_day_57 rfl ?_
      refine ef_getI (x := (mrgS (fun k => 2 + k) 5 (mrgS (fun k => 1 + k) 9 z1.2 z5.2) z6.2).1 2 8) (q := 63) rfl fl5_227 rfl rfl dX5_day_60 rfl ?_
      refine ef_istore_n (lv' := [(3, .int ((mrgS (fun k => 2 + k) 5 (mrgS (fun k => 1 + k) 9 z1.2 z5.2) z6.2).1 2 8)), (0, .ref (pl 0)), (1, .int x1), (2, .int x2)]) (q := 64) dX5_day_63 rfl (by decide) rfl rfl ?_
      refine ef_aload_n (q := 65) 1 dX5_day_64 rfl rfl rfl ?_
      refine ef_iload_n (q := 66) 2 dX5_day_65 rfl rfl rfl ?_
      refine ef_iload_n (q := 67) 3 dX5_day_66 rfl rfl rfl ?_
      refine ef_invVU0 (k := 0) (As := [.int x1, .int x2]) (rest := []) (q := 70) (okX5_lickInTruth x1 x2) rfl calX5_lickInTruth ml5_296 (by decide) rfl rfl rfl (Nat.le_of_ble_eq_true rfl) dX5_day_67 rfl (fun z7 => ?_)
      refine ef_aload_n (q := 71) 1 dX5_day_70 rfl rfl rfl ?_
      refine ef_getR (t := 1) (q := 74) rfl fl5_10 rfl rfl dX5_day_71 rfl ?_
      refine ef_getR (t := 2) (q := 77) rfl fl5_130 rfl rfl dX5_day_74 rfl ?_
      refine ef_getI (x := z7.2.1 2 8) (q := 80) rfl fl5_227 rfl rfl dX5_day_77 rfl ?_
      refine ef_iload_n (q := 81) 0 dX5_day_80 rfl rfl rfl ?_
      refine ef_isub (q := 82) dX5_day_81 rfl ?_
      exact ef_iret rfl dX5_day_82
theorem okX5_day (x1 : Int32) (x2 : Int32) : MtF 12 mX5_day lyM rvI (fun _ pl => [.ref (pl 0), .int x1, .int x2]) (fX5_day x1 x2) := by
  refine MtF.of (by decide +kernel) rfl (fun _ pl => Nat.le_of_ble_eq_true rfl) (fun G pl h0 s => ?_)
  refine ef_sub (lv := [(0, .ref (pl 0)), (1, .int x1), (2, .int x2)]) (lv' := [(0, .ref (pl 0)), (1, .int x1), (2, .int x2)]) [0, 1, 2] rfl ?_
  exact okX5_day_0  x1 x2 s
-- X5_anew
theorem dX5_anew_0 : decode cX5_anew 0 = .ok (.aload_n 0, 1) := by decide +kernel
theorem dX5_anew_1 : decode cX5_anew 1 = .ok (.getfield 10, 3) := by decide +kernel
theorem dX5_anew_4 : decode cX5_anew 4 = .ok (.getfield 130, 3) := by decide +kernel
theorem dX5_anew_7 : decode cX5_anew 7 = .ok (.invokevirtual 249, 3) := by decide +kernel
theorem dX5_anew_10 : decode cX5_anew 10 = .ok (.istore_n 1, 1) := by decide +kernel
theorem dX5_anew_11 : decode cX5_anew 11 = .ok (.aload_n 0, 1) := by decide +kernel
theorem dX5_anew_12 : decode cX5_anew 12 = .ok (.getfield 10, 3) := by decide +kernel
theorem dX5_anew_15 : decode cX5_anew 15 = .ok (.getfield 130, 3) := by decide +kernel
theorem dX5_anew_18 : decode cX5_anew 18 = .ok (.invokevirtual 305, 3) := by decide +kernel
theorem dX5_anew_21 : decode cX5_anew 21 = .ok (.aload_n 0, 1) := by decide +kernel
theorem dX5_anew_22 : decode cX5_anew 22 = .ok (.getfield 10, 3) := by decide +kernel
theorem dX5_anew_25 : decode cX5_anew 25 = .ok (.iconst 0, 1) := by decide +kernel
theorem dX5_anew_26 : decode cX5_anew 26 = .ok (.putfield 284, 3) := by decide +kernel
theorem dX5_anew_29 : decode cX5_anew 29 = .ok (.iload_n 1, 1) := by decide +kernel
theorem dX5_anew_30 : decode cX5_anew 30 = .ok (.ireturn, 1) := by decide +kernel
def fX5_anew_0 (s : SS) : Option (Int32 × SS) := ((fX0_left (selS (fun k => 2 + k) s)).bind fun z1 => ((fX0_becomeEmpty (selS (fun k => 2 + k) (mrgS (fun k => 2 + k) 5 s z1.2))).bind fun z2 => some (z1.1, wrI (mrgS (fun k => 2 + k) 5 (mrgS (fun k => 2 + k) 5 s z1.2) z2.2) 1 5 (0 : Int32))))
def fX5_anew (s : SS) : Option (Int32 × SS) := fX5_anew_0 s
set_option maxRecDepth 100000 in
set_option maxHeartbeats 4000000 in
theorem okX5_anew_0 {G : GG} {pl : Nat → Nat} {h0 : PH} (s : SS) : EvF G 3 mX5_anew lyM pl h0 rvI (fX5_anew_0 s) 0 [(0, .ref (pl 0))] [] s := by
  unfold fX5_anew_0
  refine ef_aload_n (q := 1) 0 dX5_anew_0 rfl rfl rfl ?_
  refine ef_getR (t := 1) (q := 4) rfl fl5_10 rfl rfl dX5_anew_1 rfl ?_
  refine ef_getR (t := 2) (q := 7) rfl fl5_130 rfl rfl dX5_anew_4 rfl ?_
  refine ef_invVI (k := 2) (nn := 5) (π := (fun k => 2 + k)) (As := []) (rest := []) (q := 10) (okX0_left) (by decide +kernel) rfl calX0_left ml5_249 (by decide) rfl rfl rfl (Nat.le_of_ble_eq_true rfl) dX5_anew_7 rfl rfl (fun z1 => ?_)
  refine ef_istore_n (lv' := [(1, .int z1.1), (0, .ref (pl 0))]) (q := 11) dX5_anew_10 rfl (by decide) rfl rfl ?_
  refine ef_aload_n (q := 12) 1 dX5_anew_11 rfl rfl rfl ?_
  refine ef_getR (t := 1) (q := 15) rfl fl5_10 rfl rfl dX5_anew_12 rfl ?_
  refine ef_getR (t := 2) (q := 18) rfl fl5_130 rfl rfl dX5_anew_15 rfl ?_
  refine ef_invVU (k := 2) (nn := 5) (π := (fun k => 2 + k)) (As := []) (rest := []) (q := 21) (okX0_becomeEmpty) (by decide +kernel) rfl calX0_becomeEmpty ml5_305 (by decide) rfl rfl rfl (Nat.le_of_ble_eq_true rfl) dX5_anew_18 rfl rfl (fun z2 => ?_)
  refine ef_aload_n (q := 22) 1 dX5_anew_21 rfl rfl rfl ?_
  refine ef_getR (t := 1) (q := 25) rfl fl5_10 rfl rfl dX5_anew_22 rfl ?_
  refine ef_iconst (v := (0 : Int32)) (q := 26) dX5_anew_25 (by decide) rfl ?_
  refine ef_putI (q := 29) rfl fl5_284 rfl rfl dX5_anew_26 rfl ?_
  refine ef_iload_n (q := 30) 0 dX5_anew_29 rfl rfl rfl ?_
  exact ef_iret rfl dX5_anew_30
theorem okX5_anew : MtF 3 mX5_anew lyM rvI (fun _ pl => [.ref (pl 0)]) (fX5_anew) := by
  refine MtF.of (by decide +kernel) rfl (fun _ pl => Nat.le_of_ble_eq_true rfl) (fun G pl h0 s => ?_)
  refine ef_sub (lv := [(0, .ref (pl 0))]) (lv' := [(0, .ref (pl 0))]) [0] rfl ?_
  exact okX5_anew_0  s
-- X5_seed
theorem dX5_seed_0 : decode cX5_seed 0 = .ok (.aload_n 0, 1) := by decide +kernel
theorem dX5_seed_1 : decode cX5_seed 1 = .ok (.getfield 10, 3) := by decide +kernel
theorem dX5_seed_4 : decode cX5_seed 4 = .ok (.getfield 308, 3) := by decide +kernel
theorem dX5_seed_7 : decode cX5_seed 7 = .ok (.istore_n 2, 1) := by decide +kernel
theorem dX5_seed_8 : decode cX5_seed 8 = .ok (.aload_n 0, 1) := by decide +kernel
theorem dX5_seed_9 : decode cX5_seed 9 = .ok (.getfield 10, 3) := by decide +kernel
theorem dX5_seed_12 : decode cX5_seed 12 = .ok (.iload_n 1, 1) := by decide +kernel
theorem dX5_seed_13 : decode cX5_seed 13 = .ok (.putfield 308, 3) := by decide +kernel
theorem dX5_seed_16 : decode cX5_seed 16 = .ok (.iload_n 2, 1) := by decide +kernel
theorem dX5_seed_17 : decode cX5_seed 17 = .ok (.ireturn, 1) := by decide +kernel
def fX5_seed_0 (x1 : Int32) (s : SS) : Option (Int32 × SS) := some (s.1 1 6, wrI s 1 6 x1)
def fX5_seed (x1 : Int32) (s : SS) : Option (Int32 × SS) := fX5_seed_0 x1 s
set_option maxRecDepth 100000 in
set_option maxHeartbeats 4000000 in
theorem okX5_seed_0 {G : GG} {pl : Nat → Nat} {h0 : PH} (x1 : Int32) (s : SS) : EvF G 0 mX5_seed lyM pl h0 rvI (fX5_seed_0 x1 s) 0 [(0, .ref (pl 0)), (1, .int x1)] [] s := by
  unfold fX5_seed_0
  refine ef_aload_n (q := 1) 0 dX5_seed_0 rfl rfl rfl ?_
  refine ef_getR (t := 1) (q := 4) rfl fl5_10 rfl rfl dX5_seed_1 rfl ?_
  refine ef_getI (x := s.1 1 6) (q := 7) rfl fl5_308 rfl rfl dX5_seed_4 rfl ?_
  refine ef_istore_n (lv' := [(2, .int (s.1 1 6)), (0, .ref (pl 0)), (1, .int x1)]) (q := 8) dX5_seed_7 rfl (by decide) rfl rfl ?_
  refine ef_aload_n (q := 9) 1 dX5_seed_8 rfl rfl rfl ?_
  refine ef_getR (t := 1) (q := 12) rfl fl5_10 rfl rfl dX5_seed_9 rfl ?_
  refine ef_iload_n (q := 13) 2 dX5_seed_12 rfl rfl rfl ?_
  refine ef_putI (q := 16) rfl fl5_308 rfl rfl dX5_seed_13 rfl ?_
  refine ef_iload_n (q := 17) 0 dX5_seed_16 rfl rfl rfl ?_
  exact ef_iret rfl dX5_seed_17
theorem okX5_seed (x1 : Int32) : MtF 0 mX5_seed lyM rvI (fun _ pl => [.ref (pl 0), .int x1]) (fX5_seed x1) := by
  refine MtF.of (by decide +kernel) rfl (fun _ pl => Nat.le_of_ble_eq_true rfl) (fun G pl h0 s => ?_)
  refine ef_sub (lv := [(0, .ref (pl 0)), (1, .int x1)]) (lv' := [(0, .ref (pl 0)), (1, .int x1)]) [0, 1] rfl ?_
  exact okX5_seed_0  x1 s
-- X5_image
theorem dX5_image_0 : decode cX5_image 0 = .ok (.aload_n 0, 1) := by decide +kernel
theorem dX5_image_1 : decode cX5_image 1 = .ok (.getfield 16, 3) := by decide +kernel
theorem dX5_image_4 : decode cX5_image 4 = .ok (.aload_n 0, 1) := by decide +kernel
theorem dX5_image_5 : decode cX5_image 5 = .ok (.getfield 10, 3) := by decide +kernel
theorem dX5_image_8 : decode cX5_image 8 = .ok (.invokevirtual 183, 3) := by decide +kernel
theorem dX5_image_11 : decode cX5_image 11 = .ok (.aload_n 0, 1) := by decide +kernel
theorem dX5_image_12 : decode cX5_image 12 = .ok (.iconst 1, 1) := by decide +kernel
theorem dX5_image_13 : decode cX5_image 13 = .ok (.putfield 53, 3) := by decide +kernel
theorem dX5_image_16 : decode cX5_image 16 = .ok (.iconst 1, 1) := by decide +kernel
theorem dX5_image_17 : decode cX5_image 17 = .ok (.ireturn, 1) := by decide +kernel
def fX5_image_0 (s : SS) : Option (Int32 × SS) := ((fX4_takeFrom (selS (fun k => if k < 9 then 10 + k else 1 + (k - 9)) s)).bind fun z1 => some ((1 : Int32), wrI (mrgS (fun k => if k < 9 then 10 + k else 1 + (k - 9)) 18 s z1.2) 0 8 (1 : Int32)))
def fX5_image (s : SS) : Option (Int32 × SS) := fX5_image_0 s
set_option maxRecDepth 100000 in
set_option maxHeartbeats 4000000 in
theorem okX5_image_0 {G : GG} {pl : Nat → Nat} {h0 : PH} (s : SS) : EvF G 3 mX5_image lyM pl h0 rvI (fX5_image_0 s) 0 [(0, .ref (pl 0))] [] s := by
  unfold fX5_image_0
  refine ef_aload_n (q := 1) 0 dX5_image_0 rfl rfl rfl ?_
  refine ef_getR (t := 10) (q := 4) rfl fl5_16 rfl rfl dX5_image_1 rfl ?_
  refine ef_aload_n (q := 5) 0 dX5_image_4 rfl rfl rfl ?_
  refine ef_getR (t := 1) (q := 8) rfl fl5_10 rfl rfl dX5_image_5 rfl ?_
  refine ef_invVU (k := 10) (nn := 18) (π := (fun k => if k < 9 then 10 + k else 1 + (k - 9))) (As := [.ref (pl 1)]) (rest := []) (q := 11) (okX4_takeFrom) (by decide +kernel) rfl calX4_takeFrom ml5_183 (by decide) rfl rfl rfl (Nat.le_of_ble_eq_true rfl) dX5_image_8 rfl rfl (fun z1 => ?_)
  refine ef_aload_n (q := 12) 0 dX5_image_11 rfl rfl rfl ?_
  refine ef_iconst (v := (1 : Int32)) (q := 13) dX5_image_12 (by decide) rfl ?_
  refine ef_putZ (q := 16) rfl fl5_53 rfl rfl (by decide) (by decide) dX5_image_13 rfl ?_
  refine ef_iconst (v := (1 : Int32)) (q := 17) dX5_image_16 (by decide) rfl ?_
  exact ef_iret rfl dX5_image_17
theorem okX5_image : MtF 3 mX5_image lyM rvI (fun _ pl => [.ref (pl 0)]) (fX5_image) := by
  refine MtF.of (by decide +kernel) rfl (fun _ pl => Nat.le_of_ble_eq_true rfl) (fun G pl h0 s => ?_)
  refine ef_sub (lv := [(0, .ref (pl 0))]) (lv' := [(0, .ref (pl 0))]) [0] rfl ?_
  exact okX5_image_0  s
-- X5_back
theorem dX5_back_0 : decode cX5_back 0 = .ok (.aload_n 0, 1) := by decide +kernel
theorem dX5_back_1 : decode cX5_back 1 = .ok (.getfield 53, 3) := by decide +kernel
theorem dX5_back_4 : decode cX5_back 4 = .ok (.ifCond .ne 10, 3) := by decide +kernel
theorem dX5_back_7 : decode cX5_back 7 = .ok (.aload_n 0, 1) := by decide +kernel
theorem dX5_back_8 : decode cX5_back 8 = .ok (.bipush (-5), 2) := by decide +kernel
theorem dX5_back_10 : decode cX5_back 10 = .ok (.invokevirtual 66, 3) := by decide +kernel
theorem dX5_back_13 : decode cX5_back 13 = .ok (.ireturn, 1) := by decide +kernel
theorem dX5_back_14 : decode cX5_back 14 = .ok (.aload_n 0, 1) := by decide +kernel
theorem dX5_back_15 : decode cX5_back 15 = .ok (.getfield 10, 3) := by decide +kernel
theorem dX5_back_18 : decode cX5_back 18 = .ok (.aload_n 0, 1) := by decide +kernel
theorem dX5_back_19 : decode cX5_back 19 = .ok (.getfield 16, 3) := by decide +kernel
theorem dX5_back_22 : decode cX5_back 22 = .ok (.invokevirtual 183, 3) := by decide +kernel
theorem dX5_back_25 : decode cX5_back 25 = .ok (.iconst 0, 1) := by decide +kernel
theorem dX5_back_26 : decode cX5_back 26 = .ok (.istore_n 1, 1) := by decide +kernel
theorem dX5_back_27 : decode cX5_back 27 = .ok (.iload_n 1, 1) := by decide +kernel
theorem dX5_back_28 : decode cX5_back 28 = .ok (.bipush 8, 2) := by decide +kernel
theorem dX5_back_30 : decode cX5_back 30 = .ok (.if_icmp .ge 37, 3) := by decide +kernel
theorem dX5_back_33 : decode cX5_back 33 = .ok (.aload_n 0, 1) := by decide +kernel
theorem dX5_back_34 : decode cX5_back 34 = .ok (.getfield 38, 3) := by decide +kernel
theorem dX5_back_37 : decode cX5_back 37 = .ok (.iload_n 1, 1) := by decide +kernel
theorem dX5_back_38 : decode cX5_back 38 = .ok (.aaload, 1) := by decide +kernel
theorem dX5_back_39 : decode cX5_back 39 = .ok (.invokevirtual 116, 3) := by decide +kernel
theorem dX5_back_42 : decode cX5_back 42 = .ok (.aload_n 0, 1) := by decide +kernel
theorem dX5_back_43 : decode cX5_back 43 = .ok (.getfield 10, 3) := by decide +kernel
theorem dX5_back_46 : decode cX5_back 46 = .ok (.getfield 173, 3) := by decide +kernel
theorem dX5_back_49 : decode cX5_back 49 = .ok (.if_icmp .lt 12, 3) := by decide +kernel
theorem dX5_back_52 : decode cX5_back 52 = .ok (.aload_n 0, 1) := by decide +kernel
theorem dX5_back_53 : decode cX5_back 53 = .ok (.getfield 38, 3) := by decide +kernel
theorem dX5_back_56 : decode cX5_back 56 = .ok (.iload_n 1, 1) := by decide +kernel
theorem dX5_back_57 : decode cX5_back 57 = .ok (.aaload, 1) := by decide +kernel
theorem dX5_back_58 : decode cX5_back 58 = .ok (.invokevirtual 109, 3) := by decide +kernel
theorem dX5_back_61 : decode cX5_back 61 = .ok (.iinc 1 1, 3) := by decide +kernel
theorem dX5_back_64 : decode cX5_back 64 = .ok (.goto (-37), 3) := by decide +kernel
theorem dX5_back_67 : decode cX5_back 67 = .ok (.iconst 1, 1) := by decide +kernel
theorem dX5_back_68 : decode cX5_back 68 = .ok (.ireturn, 1) := by decide +kernel
def fX5_back_27 : Nat → Int32 → SS → Option (Int32 × SS)
  | 0, _, _ => none
  | n + 1, x1, s => if (8 : Int32) ≤ x1 then (some ((1 : Int32), s)) else (if ixB x1 8 then (((fX3_lickerNumber (selS (fun k => 61 + 2 * x1.toNatClampNeg + k) s)).bind fun z3 => if z3.1 < ((mrgS (fun k => 61 + 2 * x1.toNatClampNeg + k) 2 s z3.2).1 1 3) then (fX5_back_27 n (x1 + (1 : Int32)) (mrgS (fun k => 61 + 2 * x1.toNatClampNeg + k) 2 s z3.2)) else (if ixB x1 8 then (((fX3_clearAway (selS (fun k => 61 + 2 * x1.toNatClampNeg + k) (mrgS (fun k => 61 + 2 * x1.toNatClampNeg + k) 2 s z3.2))).bind fun z6 => fX5_back_27 n (x1 + (1 : Int32)) (mrgS (fun k => 61 + 2 * x1.toNatClampNeg + k) 2 (mrgS (fun k => 61 + 2 * x1.toNatClampNeg + k) 2 s z3.2) z6.2))) else none))) else none)
def fX5_back_0 (s : SS) : Option (Int32 × SS) := if (s.1 0 8) = 0 then (((fX5_refuse (-5 : Int32) s).bind fun z2 => some (z2.1, z2.2))) else (((fX4_takeFrom (selS (fun k => if k < 9 then 1 + k else 10 + (k - 9)) s)).bind fun z3 => fX5_back_27 FU (0 : Int32) (mrgS (fun k => if k < 9 then 1 + k else 10 + (k - 9)) 18 s z3.2)))
def fX5_back (s : SS) : Option (Int32 × SS) := fX5_back_0 s
set_option maxRecDepth 100000 in
set_option maxHeartbeats 4000000 in
theorem okX5_back_27 {G : GG} {pl : Nat → Nat} {h0 : PH} : ∀ (n : Nat) (x1 : Int32) (s : SS), EvF G 3 mX5_back lyM pl h0 rvI (fX5_back_27 n x1 s) 27 [(0, .ref (pl 0)), (1, .int x1)] [] s := by
  intro n
  induction n with
  | zero => intro x1 s; rw [fX5_back_27]; exact ef_none
  | succ n ih =>
    intro x1 s
    rw [fX5_back_27]
    refine ef_iload_n (q := 28) 1 dX5_back_27 rfl rfl rfl ?_
    refine ef_bipush (v := (8 : Int32)) (q := 30) dX5_back_28 (by decide) rfl ?_
    refine ef_if (pt := 67) (pf := 33) (fun _ _ => ev_icmp_ge (tgt := 67) dX5_back_30 (by decide)) (fun h1 => ?_) (fun h1 => ?_)
    · refine ef_iconst (v := (1 : Int32)) (q := 68) dX5_back_67 (by decide) rfl ?_
      exact ef_iret rfl dX5_back_68
    · refine ef_aload_n (q := 34) 0 dX5_back_33 rfl rfl rfl ?_
      refine ef_getR (t := 57) (q := 37) rfl fl5_38 rfl rfl dX5_back_34 rfl ?_
      refine ef_iload_n (q := 38) 1 dX5_back_37 rfl rfl rfl ?_
      refine ef_guard (fun g2 => ?_)
      refine ef_aaload (t0 := 61 + 2 * x1.toNatClampNeg) (q := 39) rfl (by decide) lyM_t57 g2 dX5_back_38 rfl rfl ?_
      refine ef_invVI (k := (61 + 2 * x1.toNatClampNeg)) (nn := 2) (π := (fun k => 61 + 2 * x1.toNatClampNeg + k)) (As := []) (rest := []) (q := 42) (okX3_lickerNumber) (lm_M_S_s57_0 _ (ixB_lt g2)) rfl calX3_lickerNumber ml5_116 (by decide) (lyM_f57_0 _ (ixB_lt g2)) rfl rfl (Nat.le_of_ble_eq_true rfl) dX5_back_39 rfl rfl (fun z3 => ?_)
      refine ef_aload_n (q := 43) 0 dX5_back_42 rfl rfl rfl ?_
      refine ef_getR (t := 1) (q := 46) rfl fl5_10 rfl rfl dX5_back_43 rfl ?_
      refine ef_getI (x := (mrgS (fun k => 61 + 2 * x1.toNatClampNeg + k) 2 s z3.2).1 1 3) (q := 49) rfl fl5_173 rfl rfl dX5_back_46 rfl ?_
      refine ef_if (pt := 61) (pf := 52) (fun _ _ => ev_icmp_lt (tgt := 61) dX5_back_49 (by decide)) (fun h4 => ?_) (fun h4 => ?_)
      · refine ef_iinc (v := x1 + (1 : Int32)) (lv' := [(1, .int (x1 + (1 : Int32))), (0, .ref (pl 0))]) (q := 64) 1 dX5_back_61 rfl rfl (by decide) rfl rfl ?_
        refine ef_goto (tgt := 27) dX5_back_64 (by decide) ?_
        refine ef_sub (lv' := [(0, .ref (pl 0)), (1, .int (x1 + (1 : Int32)))]) [1, 0] rfl ?_
        exact ih (x1 + (1 : Int32)) (mrgS (fun k => 61 + 2 * x1.toNatClampNeg + k) 2 s z3.2)
      · refine ef_aload_n (q := 53) 0 dX5_back_52 rfl rfl rfl ?_
        refine ef_getR (t := 57) (q := 56) rfl fl5_38 rfl rfl dX5_back_53 rfl ?_
        refine ef_iload_n (q := 57) 1 dX5_back_56 rfl rfl rfl ?_
        refine ef_guard (fun g5 => ?_)
        refine ef_aaload (t0 := 61 + 2 * x1.toNatClampNeg) (q := 58) rfl (by decide) lyM_t57 g5 dX5_back_57 rfl rfl ?_
        refine ef_invVU (k := (61 + 2 * x1.toNatClampNeg)) (nn := 2) (π := (fun k => 61 + 2 * x1.toNatClampNeg + k)) (As := []) (rest := []) (q := 61) (okX3_clearAway) (lm_M_S_s57_0 _ (ixB_lt g5)) rfl calX3_clearAway ml5_109 (by decide) (lyM_f57_0 _ (ixB_lt g5)) rfl rfl (Nat.le_of_ble_eq_true rfl) dX5_back_58 rfl rfl (fun z6 => ?_)
        refine ef_iinc (v := x1 + (1 : Int32)) (lv' := [(1, .int (x1 + (1 : Int32))), (0, .ref (pl 0))]) (q := 64) 1 dX5_back_61 rfl rfl (by decide) rfl rfl ?_
        refine ef_goto (tgt := 27) dX5_back_64 (by decide) ?_
        refine ef_sub (lv' := [(0, .ref (pl 0)), (1, .int (x1 + (1 : Int32)))]) [1, 0] rfl ?_
        exact ih (x1 + (1 : Int32)) (mrgS (fun k => 61 + 2 * x1.toNatClampNeg + k) 2 (mrgS (fun k => 61 + 2 * x1.toNatClampNeg + k) 2 s z3.2) z6.2)
set_option maxRecDepth 100000 in
set_option maxHeartbeats 4000000 in
theorem okX5_back_0 {G : GG} {pl : Nat → Nat} {h0 : PH} (s : SS) : EvF G 3 mX5_back lyM pl h0 rvI (fX5_back_0 s) 0 [(0, .ref (pl 0))] [] s := by
  unfold fX5_back_0
  refine ef_aload_n (q := 1) 0 dX5_back_0 rfl rfl rfl ?_
  refine ef_getI (x := s.1 0 8) (q := 4) rfl fl5_53 rfl rfl dX5_back_1 rfl ?_
  refine ef_if (pt := 7) (pf := 14) (fun _ _ kt kf => ev_if_ne (tgt := 14) dX5_back_4 (by decide) kf kt) (fun h1 => ?_) (fun h1 => ?_)
  · refine ef_aload_n (q := 8) 0 dX5_back_7 rfl rfl rfl ?_
    refine ef_bipush (v := (-5 : Int32)) (q := 10) dX5_back_8 (by decide) rfl ?_
    refine ef_invVI0 (k := 0) (As := [.int (-5 : Int32)]) (rest := []) (q := 13) (okX5_refuse (-5 : Int32)) rfl calX5_refuse ml5_66 (by decide) rfl rfl rfl (Nat.le_of_ble_eq_true rfl) dX5_back_10 rfl (fun z2 => ?_)
    exact ef_iret rfl dX5_back_13
  · refine ef_aload_n (q := 15) 0 dX5_back_14 rfl rfl rfl ?_
    refine ef_getR (t := 1) (q := 18) rfl fl5_10 rfl rfl dX5_back_15 rfl ?_
    refine ef_aload_n (q := 19) 0 dX5_back_18 rfl rfl rfl ?_
    refine ef_getR (t := 10) (q := 22) rfl fl5_16 rfl rfl dX5_back_19 rfl ?_
    refine ef_invVU (k := 1) (nn := 18) (π := (fun k => if k < 9 then 1 + k else 10 + (k - 9))) (As := [.ref (pl 10)]) (rest := []) (q := 25) (okX4_takeFrom) (by decide +kernel) rfl calX4_takeFrom ml5_183 (by decide) rfl rfl rfl (Nat.le_of_ble_eq_true rfl) dX5_back_22 rfl rfl (fun z3 => ?_)
    refine ef_iconst (v := (0 : Int32)) (q := 26) dX5_back_25 (by decide) rfl ?_
    refine ef_istore_n (lv' := [(1, .int (0 : Int32)), (0, .ref (pl 0))]) (q := 27) dX5_back_26 rfl (by decide) rfl rfl ?_
    refine ef_sub (lv' := [(0, .ref (pl 0)), (1, .int (0 : Int32))]) [1, 0] rfl ?_
    exact okX5_back_27 FU (0 : Int32) (mrgS (fun k => if k < 9 then 1 + k else 10 + (k - 9)) 18 s z3.2)
theorem okX5_back : MtF 3 mX5_back lyM rvI (fun _ pl => [.ref (pl 0)]) (fX5_back) := by
  refine MtF.of (by decide +kernel) rfl (fun _ pl => Nat.le_of_ble_eq_true rfl) (fun G pl h0 s => ?_)
  refine ef_sub (lv := [(0, .ref (pl 0))]) (lv' := [(0, .ref (pl 0))]) [0] rfl ?_
  exact okX5_back_0  s
-- X5_shelvesInUse
theorem dX5_shelvesInUse_0 : decode cX5_shelvesInUse 0 = .ok (.iconst 0, 1) := by decide +kernel
theorem dX5_shelvesInUse_1 : decode cX5_shelvesInUse 1 = .ok (.istore_n 1, 1) := by decide +kernel
theorem dX5_shelvesInUse_2 : decode cX5_shelvesInUse 2 = .ok (.iconst 0, 1) := by decide +kernel
theorem dX5_shelvesInUse_3 : decode cX5_shelvesInUse 3 = .ok (.istore_n 2, 1) := by decide +kernel
theorem dX5_shelvesInUse_4 : decode cX5_shelvesInUse 4 = .ok (.iload_n 2, 1) := by decide +kernel
theorem dX5_shelvesInUse_5 : decode cX5_shelvesInUse 5 = .ok (.bipush 8, 2) := by decide +kernel
theorem dX5_shelvesInUse_7 : decode cX5_shelvesInUse 7 = .ok (.if_icmp .ge 25, 3) := by decide +kernel
theorem dX5_shelvesInUse_10 : decode cX5_shelvesInUse 10 = .ok (.aload_n 0, 1) := by decide +kernel
theorem dX5_shelvesInUse_11 : decode cX5_shelvesInUse 11 = .ok (.getfield 38, 3) := by decide +kernel
theorem dX5_shelvesInUse_14 : decode cX5_shelvesInUse 14 = .ok (.iload_n 2, 1) := by decide +kernel
theorem dX5_shelvesInUse_15 : decode cX5_shelvesInUse 15 = .ok (.aaload, 1) := by decide +kernel
theorem dX5_shelvesInUse_16 : decode cX5_shelvesInUse 16 = .ok (.getfield 103, 3) := by decide +kernel
theorem dX5_shelvesInUse_19 : decode cX5_shelvesInUse 19 = .ok (.iconst (-1), 1) := by decide +kernel
theorem dX5_shelvesInUse_20 : decode cX5_shelvesInUse 20 = .ok (.if_icmp .eq 6, 3) := by decide +kernel
theorem dX5_shelvesInUse_23 : decode cX5_shelvesInUse 23 = .ok (.iinc 1 1, 3) := by decide +kernel
theorem dX5_shelvesInUse_26 : decode cX5_shelvesInUse 26 = .ok (.iinc 2 1, 3) := by decide +kernel
theorem dX5_shelvesInUse_29 : decode cX5_shelvesInUse 29 = .ok (.goto (-25), 3) := by decide +kernel
theorem dX5_shelvesInUse_32 : decode cX5_shelvesInUse 32 = .ok (.iload_n 1, 1) := by decide +kernel
theorem dX5_shelvesInUse_33 : decode cX5_shelvesInUse 33 = .ok (.ireturn, 1) := by decide +kernel
def fX5_shelvesInUse_4 : Nat → Int32 → Int32 → SS → Option (Int32 × SS)
  | 0, _, _, _ => none
  | n + 1, x1, x2, s => if (8 : Int32) ≤ x2 then (some (x1, s)) else (if ixB x2 8 then (if (s.1 (61 + 2 * x2.toNatClampNeg) 0) = (-1 : Int32) then (fX5_shelvesInUse_4 n x1 (x2 + (1 : Int32)) s) else (fX5_shelvesInUse_4 n (x1 + (1 : Int32)) (x2 + (1 : Int32)) s)) else none)
def fX5_shelvesInUse_0 (s : SS) : Option (Int32 × SS) := fX5_shelvesInUse_4 FU (0 : Int32) (0 : Int32) s
def fX5_shelvesInUse (s : SS) : Option (Int32 × SS) := fX5_shelvesInUse_0 s
set_option maxRecDepth 100000 in
set_option maxHeartbeats 4000000 in
theorem okX5_shelvesInUse_4 {G : GG} {pl : Nat → Nat} {h0 : PH} : ∀ (n : Nat) (x1 : Int32) (x2 : Int32) (s : SS), EvF G 0 mX5_shelvesInUse lyM pl h0 rvI (fX5_shelvesInUse_4 n x1 x2 s) 4 [(0, .ref (pl 0)), (1, .int x1), (2, .int x2)] [] s := by
  intro n
  induction n with
  | zero => intro x1 x2 s; rw [fX5_shelvesInUse_4]; exact ef_none
  | succ n ih =>
    intro x1 x2 s
    rw [fX5_shelvesInUse_4]
    refine ef_iload_n (q := 5) 2 dX5_shelvesInUse_4 rfl rfl rfl ?_
    refine ef_bipush (v := (8 : Int32)) (q := 7) dX5_shelvesInUse_5 (by decide) rfl ?_
    refine ef_if (pt := 32) (pf := 10) (fun _ _ => ev_icmp_ge (tgt := 32) dX5_shelvesInUse_7 (by decide)) (fun h1 => ?_) (fun h1 => ?_)
    · refine ef_iload_n (q := 33) 1 dX5_shelvesInUse_32 rfl rfl rfl ?_
      exact ef_iret rfl dX5_shelvesInUse_33
    · refine ef_aload_n (q := 11) 0 dX5_shelvesInUse_10 rfl rfl rfl ?_
      refine ef_getR (t := 57) (q := 14) rfl fl5_38 rfl rfl dX5_shelvesInUse_11 rfl ?_
      refine ef_iload_n (q := 15) 2 dX5_shelvesInUse_14 rfl rfl rfl ?_
      refine ef_guard (fun g2 => ?_)
      refine ef_aaload (t0 := 61 + 2 * x2.toNatClampNeg) (q := 16) rfl (by decide) lyM_t57 g2 dX5_shelvesInUse_15 rfl rfl ?_
      refine ef_getI (x := s.1 (61 + 2 * x2.toNatClampNeg) 0) (q := 19) (lyM_f57_0 _ (ixB_lt g2)) fl5_103 rfl rfl dX5_shelvesInUse_16 rfl ?_
      refine ef_iconst (v := (-1 : Int32)) (q := 20) dX5_shelvesInUse_19 (by decide) rfl ?_
      refine ef_if (pt := 26) (pf := 23) (fun _ _ => ev_icmp_eq (tgt := 26) dX5_shelvesInUse_20 (by decide)) (fun h3 => ?_) (fun h3 => ?_)
      · refine ef_iinc (v := x2 + (1 : Int32)) (lv' := [(2, .int (x2 + (1 : Int32))), (0, .ref (pl 0)), (1, .int x1)]) (q := 29) 2 dX5_shelvesInUse_26 rfl rfl (by decide) rfl rfl ?_
        refine ef_goto (tgt := 4) dX5_shelvesInUse_29 (by decide) ?_
        refine ef_sub (lv' := [(0, .ref (pl 0)), (1, .int x1), (2, .int (x2 + (1 : Int32)))]) [1, 2, 0] rfl ?_
        exact ih x1 (x2 + (1 : Int32)) s
      · refine ef_iinc (v := x1 + (1 : Int32)) (lv' := [(1, .int (x1 + (1 : Int32))), (0, .ref (pl 0)), (2, .int x2)]) (q := 26) 1 dX5_shelvesInUse_23 rfl rfl (by decide) rfl rfl ?_
        refine ef_iinc (v := x2 + (1 : Int32)) (lv' := [(2, .int (x2 + (1 : Int32))), (1, .int (x1 + (1 : Int32))), (0, .ref (pl 0))]) (q := 29) 2 dX5_shelvesInUse_26 rfl rfl (by decide) rfl rfl ?_
        refine ef_goto (tgt := 4) dX5_shelvesInUse_29 (by decide) ?_
        refine ef_sub (lv' := [(0, .ref (pl 0)), (1, .int (x1 + (1 : Int32))), (2, .int (x2 + (1 : Int32)))]) [2, 1, 0] rfl ?_
        exact ih (x1 + (1 : Int32)) (x2 + (1 : Int32)) s
set_option maxRecDepth 100000 in
set_option maxHeartbeats 4000000 in
theorem okX5_shelvesInUse_0 {G : GG} {pl : Nat → Nat} {h0 : PH} (s : SS) : EvF G 0 mX5_shelvesInUse lyM pl h0 rvI (fX5_shelvesInUse_0 s) 0 [(0, .ref (pl 0))] [] s := by
  unfold fX5_shelvesInUse_0
  refine ef_iconst (v := (0 : Int32)) (q := 1) dX5_shelvesInUse_0 (by decide) rfl ?_
  refine ef_istore_n (lv' := [(1, .int (0 : Int32)), (0, .ref (pl 0))]) (q := 2) dX5_shelvesInUse_1 rfl (by decide) rfl rfl ?_
  refine ef_iconst (v := (0 : Int32)) (q := 3) dX5_shelvesInUse_2 (by decide) rfl ?_
  refine ef_istore_n (lv' := [(2, .int (0 : Int32)), (1, .int (0 : Int32)), (0, .ref (pl 0))]) (q := 4) dX5_shelvesInUse_3 rfl (by decide) rfl rfl ?_
  refine ef_sub (lv' := [(0, .ref (pl 0)), (1, .int (0 : Int32)), (2, .int (0 : Int32))]) [2, 1, 0] rfl ?_
  exact okX5_shelvesInUse_4 FU (0 : Int32) (0 : Int32) s
theorem okX5_shelvesInUse : MtF 0 mX5_shelvesInUse lyM rvI (fun _ pl => [.ref (pl 0)]) (fX5_shelvesInUse) := by
  refine MtF.of (by decide +kernel) rfl (fun _ pl => Nat.le_of_ble_eq_true rfl) (fun G pl h0 s => ?_)
  refine ef_sub (lv := [(0, .ref (pl 0))]) (lv' := [(0, .ref (pl 0))]) [0] rfl ?_
  exact okX5_shelvesInUse_0  s
-- X5_status
theorem dX5_status_0 : decode cX5_status 0 = .ok (.iload_n 1, 1) := by decide +kernel
theorem dX5_status_1 : decode cX5_status 1 = .ok (.tableswitch 311 0 21 #[103, 114, 125, 133, 144, 155, 166, 177, 188, 199, 210, 218, 226, 233, 240, 247, 254, 262, 267, 278, 289, 300], 103) := by decide +kernel
theorem dX5_status_104 : decode cX5_status 104 = .ok (.aload_n 0, 1) := by decide +kernel
theorem dX5_status_105 : decode cX5_status 105 = .ok (.getfield 10, 3) := by decide +kernel
theorem dX5_status_108 : decode cX5_status 108 = .ok (.getfield 130, 3) := by decide +kernel
theorem dX5_status_111 : decode cX5_status 111 = .ok (.getfield 140, 3) := by decide +kernel
theorem dX5_status_114 : decode cX5_status 114 = .ok (.ireturn, 1) := by decide +kernel
theorem dX5_status_115 : decode cX5_status 115 = .ok (.aload_n 0, 1) := by decide +kernel
theorem dX5_status_116 : decode cX5_status 116 = .ok (.getfield 10, 3) := by decide +kernel
theorem dX5_status_119 : decode cX5_status 119 = .ok (.getfield 130, 3) := by decide +kernel
theorem dX5_status_122 : decode cX5_status 122 = .ok (.getfield 137, 3) := by decide +kernel
theorem dX5_status_125 : decode cX5_status 125 = .ok (.ireturn, 1) := by decide +kernel
theorem dX5_status_126 : decode cX5_status 126 = .ok (.aload_n 0, 1) := by decide +kernel
theorem dX5_status_127 : decode cX5_status 127 = .ok (.getfield 10, 3) := by decide +kernel
theorem dX5_status_130 : decode cX5_status 130 = .ok (.getfield 173, 3) := by decide +kernel
theorem dX5_status_133 : decode cX5_status 133 = .ok (.ireturn, 1) := by decide +kernel
theorem dX5_status_134 : decode cX5_status 134 = .ok (.aload_n 0, 1) := by decide +kernel
theorem dX5_status_135 : decode cX5_status 135 = .ok (.getfield 10, 3) := by decide +kernel
theorem dX5_status_138 : decode cX5_status 138 = .ok (.getfield 130, 3) := by decide +kernel
theorem dX5_status_141 : decode cX5_status 141 = .ok (.getfield 311, 3) := by decide +kernel
theorem dX5_status_144 : decode cX5_status 144 = .ok (.ireturn, 1) := by decide +kernel
theorem dX5_status_145 : decode cX5_status 145 = .ok (.aload_n 0, 1) := by decide +kernel
theorem dX5_status_146 : decode cX5_status 146 = .ok (.getfield 10, 3) := by decide +kernel
theorem dX5_status_149 : decode cX5_status 149 = .ok (.getfield 130, 3) := by decide +kernel
theorem dX5_status_152 : decode cX5_status 152 = .ok (.getfield 227, 3) := by decide +kernel
theorem dX5_status_155 : decode cX5_status 155 = .ok (.ireturn, 1) := by decide +kernel
theorem dX5_status_156 : decode cX5_status 156 = .ok (.aload_n 0, 1) := by decide +kernel
theorem dX5_status_157 : decode cX5_status 157 = .ok (.getfield 10, 3) := by decide +kernel
theorem dX5_status_160 : decode cX5_status 160 = .ok (.getfield 130, 3) := by decide +kernel
theorem dX5_status_163 : decode cX5_status 163 = .ok (.getfield 246, 3) := by decide +kernel
theorem dX5_status_166 : decode cX5_status 166 = .ok (.ireturn, 1) := by decide +kernel
theorem dX5_status_167 : decode cX5_status 167 = .ok (.aload_n 0, 1) := by decide +kernel
theorem dX5_status_168 : decode cX5_status 168 = .ok (.getfield 10, 3) := by decide +kernel
theorem dX5_status_171 : decode cX5_status 171 = .ok (.getfield 130, 3) := by decide +kernel
theorem dX5_status_174 : decode cX5_status 174 = .ok (.invokevirtual 249, 3) := by decide +kernel
theorem dX5_status_177 : decode cX5_status 177 = .ok (.ireturn, 1) := by decide +kernel
theorem dX5_status_178 : decode cX5_status 178 = .ok (.aload_n 0, 1) := by decide +kernel
theorem dX5_status_179 : decode cX5_status 179 = .ok (.getfield 10, 3) := by decide +kernel
theorem dX5_status_182 : decode cX5_status 182 = .ok (.getfield 130, 3) := by decide +kernel
theorem dX5_status_185 : decode cX5_status 185 = .ok (.getfield 265, 3) := by decide +kernel
theorem dX5_status_188 : decode cX5_status 188 = .ok (.ireturn, 1) := by decide +kernel
theorem dX5_status_189 : decode cX5_status 189 = .ok (.aload_n 0, 1) := by decide +kernel
theorem dX5_status_190 : decode cX5_status 190 = .ok (.getfield 10, 3) := by decide +kernel
theorem dX5_status_193 : decode cX5_status 193 = .ok (.getfield 130, 3) := by decide +kernel
theorem dX5_status_196 : decode cX5_status 196 = .ok (.getfield 170, 3) := by decide +kernel
theorem dX5_status_199 : decode cX5_status 199 = .ok (.ireturn, 1) := by decide +kernel
theorem dX5_status_200 : decode cX5_status 200 = .ok (.aload_n 0, 1) := by decide +kernel
theorem dX5_status_201 : decode cX5_status 201 = .ok (.getfield 10, 3) := by decide +kernel
theorem dX5_status_204 : decode cX5_status 204 = .ok (.getfield 130, 3) := by decide +kernel
theorem dX5_status_207 : decode cX5_status 207 = .ok (.getfield 152, 3) := by decide +kernel
theorem dX5_status_210 : decode cX5_status 210 = .ok (.ireturn, 1) := by decide +kernel
theorem dX5_status_211 : decode cX5_status 211 = .ok (.aload_n 0, 1) := by decide +kernel
theorem dX5_status_212 : decode cX5_status 212 = .ok (.getfield 45, 3) := by decide +kernel
theorem dX5_status_215 : decode cX5_status 215 = .ok (.getfield 179, 3) := by decide +kernel
theorem dX5_status_218 : decode cX5_status 218 = .ok (.ireturn, 1) := by decide +kernel
theorem dX5_status_219 : decode cX5_status 219 = .ok (.aload_n 0, 1) := by decide +kernel
theorem dX5_status_220 : decode cX5_status 220 = .ok (.getfield 10, 3) := by decide +kernel
theorem dX5_status_223 : decode cX5_status 223 = .ok (.getfield 308, 3) := by decide +kernel
theorem dX5_status_226 : decode cX5_status 226 = .ok (.ireturn, 1) := by decide +kernel
theorem dX5_status_227 : decode cX5_status 227 = .ok (.aload_n 0, 1) := by decide +kernel
theorem dX5_status_228 : decode cX5_status 228 = .ok (.getfield 49, 3) := by decide +kernel
theorem dX5_status_231 : decode cX5_status 231 = .ok (.iconst 2, 1) := by decide +kernel
theorem dX5_status_232 : decode cX5_status 232 = .ok (.iaload, 1) := by decide +kernel
theorem dX5_status_233 : decode cX5_status 233 = .ok (.ireturn, 1) := by decide +kernel
theorem dX5_status_234 : decode cX5_status 234 = .ok (.aload_n 0, 1) := by decide +kernel
theorem dX5_status_235 : decode cX5_status 235 = .ok (.getfield 49, 3) := by decide +kernel
theorem dX5_status_238 : decode cX5_status 238 = .ok (.iconst 3, 1) := by decide +kernel
theorem dX5_status_239 : decode cX5_status 239 = .ok (.iaload, 1) := by decide +kernel
theorem dX5_status_240 : decode cX5_status 240 = .ok (.ireturn, 1) := by decide +kernel
theorem dX5_status_241 : decode cX5_status 241 = .ok (.aload_n 0, 1) := by decide +kernel
theorem dX5_status_242 : decode cX5_status 242 = .ok (.getfield 49, 3) := by decide +kernel
theorem dX5_status_245 : decode cX5_status 245 = .ok (.iconst 4, 1) := by decide +kernel
theorem dX5_status_246 : decode cX5_status 246 = .ok (.iaload, 1) := by decide +kernel
theorem dX5_status_247 : decode cX5_status 247 = .ok (.ireturn, 1) := by decide +kernel
theorem dX5_status_248 : decode cX5_status 248 = .ok (.aload_n 0, 1) := by decide +kernel
theorem dX5_status_249 : decode cX5_status 249 = .ok (.getfield 49, 3) := by decide +kernel
theorem dX5_status_252 : decode cX5_status 252 = .ok (.iconst 5, 1) := by decide +kernel
theorem dX5_status_253 : decode cX5_status 253 = .ok (.iaload, 1) := by decide +kernel
theorem dX5_status_254 : decode cX5_status 254 = .ok (.ireturn, 1) := by decide +kernel
theorem dX5_status_255 : decode cX5_status 255 = .ok (.aload_n 0, 1) := by decide +kernel
theorem dX5_status_256 : decode cX5_status 256 = .ok (.getfield 49, 3) := by decide +kernel
theorem dX5_status_259 : decode cX5_status 259 = .ok (.bipush 6, 2) := by decide +kernel
theorem dX5_status_261 : decode cX5_status 261 = .ok (.iaload, 1) := by decide +kernel
theorem dX5_status_262 : decode cX5_status 262 = .ok (.ireturn, 1) := by decide +kernel
theorem dX5_status_263 : decode cX5_status 263 = .ok (.aload_n 0, 1) := by decide +kernel
theorem dX5_status_264 : decode cX5_status 264 = .ok (.invokevirtual 314, 3) := by decide +kernel
theorem dX5_status_267 : decode cX5_status 267 = .ok (.ireturn, 1) := by decide +kernel
theorem dX5_status_268 : decode cX5_status 268 = .ok (.aload_n 0, 1) := by decide +kernel
theorem dX5_status_269 : decode cX5_status 269 = .ok (.getfield 10, 3) := by decide +kernel
theorem dX5_status_272 : decode cX5_status 272 = .ok (.getfield 130, 3) := by decide +kernel
theorem dX5_status_275 : decode cX5_status 275 = .ok (.getfield 158, 3) := by decide +kernel
theorem dX5_status_278 : decode cX5_status 278 = .ok (.ireturn, 1) := by decide +kernel
theorem dX5_status_279 : decode cX5_status 279 = .ok (.aload_n 0, 1) := by decide +kernel
theorem dX5_status_280 : decode cX5_status 280 = .ok (.getfield 10, 3) := by decide +kernel
theorem dX5_status_283 : decode cX5_status 283 = .ok (.getfield 130, 3) := by decide +kernel
theorem dX5_status_286 : decode cX5_status 286 = .ok (.getfield 161, 3) := by decide +kernel
theorem dX5_status_289 : decode cX5_status 289 = .ok (.ireturn, 1) := by decide +kernel
theorem dX5_status_290 : decode cX5_status 290 = .ok (.aload_n 0, 1) := by decide +kernel
theorem dX5_status_291 : decode cX5_status 291 = .ok (.getfield 10, 3) := by decide +kernel
theorem dX5_status_294 : decode cX5_status 294 = .ok (.getfield 130, 3) := by decide +kernel
theorem dX5_status_297 : decode cX5_status 297 = .ok (.getfield 164, 3) := by decide +kernel
theorem dX5_status_300 : decode cX5_status 300 = .ok (.ireturn, 1) := by decide +kernel
theorem dX5_status_301 : decode cX5_status 301 = .ok (.aload_n 0, 1) := by decide +kernel
theorem dX5_status_302 : decode cX5_status 302 = .ok (.getfield 10, 3) := by decide +kernel
theorem dX5_status_305 : decode cX5_status 305 = .ok (.getfield 130, 3) := by decide +kernel
theorem dX5_status_308 : decode cX5_status 308 = .ok (.getfield 167, 3) := by decide +kernel
theorem dX5_status_311 : decode cX5_status 311 = .ok (.ireturn, 1) := by decide +kernel
theorem dX5_status_312 : decode cX5_status 312 = .ok (.iconst (-1), 1) := by decide +kernel
theorem dX5_status_313 : decode cX5_status 313 = .ok (.ireturn, 1) := by decide +kernel
def fX5_status_0 (x1 : Int32) (s : SS) : Option (Int32 × SS) := if x1 = (0 : Int32) then (some (s.1 2 0, s)) else (if x1 = (1 : Int32) then (some (s.1 2 11, s)) else (if x1 = (2 : Int32) then (some (s.1 1 3, s)) else (if x1 = (3 : Int32) then (some (s.1 2 7, s)) else (if x1 = (4 : Int32) then (some (s.1 2 8, s)) else (if x1 = (5 : Int32) then (some (s.1 2 9, s)) else (if x1 = (6 : Int32) then (((fX0_left (selS (fun k => 2 + k) s)).bind fun z8 => some (z8.1, mrgS (fun k => 2 + k) 5 s z8.2))) else (if x1 = (7 : Int32) then (some (s.1 2 10, s)) else (if x1 = (8 : Int32) then (some (s.1 2 1, s)) else (if x1 = (9 : Int32) then (some (s.1 2 2, s)) else (if x1 = (10 : Int32) then (some (s.1 58 1, s)) else (if x1 = (11 : Int32) then (some (s.1 1 6, s)) else (if x1 = (12 : Int32) then (some (s.1 60 2, s)) else (if x1 = (13 : Int32) then (some (s.1 60 3, s)) else (if x1 = (14 : Int32) then (some (s.1 60 4, s)) else (if x1 = (15 : Int32) then (some (s.1 60 5, s)) else (if x1 = (16 : Int32) then (some (s.1 60 6, s)) else (if x1 = (17 : Int32) then (((fX5_shelvesInUse s).bind fun z20 => some (z20.1, z20.2))) else (if x1 = (18 : Int32) then (some (s.1 2 3, s)) else (if x1 = (19 : Int32) then (some (s.1 2 4, s)) else (if x1 = (20 : Int32) then (some (s.1 2 5, s)) else (if x1 = (21 : Int32) then (some (s.1 2 6, s)) else (some ((-1 : Int32), s)))))))))))))))))))))))
def fX5_status (x1 : Int32) (s : SS) : Option (Int32 × SS) := fX5_status_0 x1 s
set_option maxRecDepth 100000 in
set_option maxHeartbeats 4000000 in
theorem okX5_status_0 {G : GG} {pl : Nat → Nat} {h0 : PH} (x1 : Int32) (s : SS) : EvF G 3 mX5_status lyM pl h0 rvI (fX5_status_0 x1 s) 0 [(0, .ref (pl 0)), (1, .int x1)] [] s := by
  unfold fX5_status_0
  refine ef_iload_n (q := 1) 1 dX5_status_0 rfl rfl rfl ?_
  refine ef_dec (fun h1 => ?_) (fun h1 => ?_)
  · refine ef_of (fun _ _ => ev_tableIn (tgt := 104) dX5_status_1 (by rw [h1]; decide) (by rw [h1]; decide) (off := 103) (by rw [h1]; rfl) (by decide)) ?_
    refine ef_aload_n (q := 105) 0 dX5_status_104 rfl rfl rfl ?_
    refine ef_getR (t := 1) (q := 108) rfl fl5_10 rfl rfl dX5_status_105 rfl ?_
    refine ef_getR (t := 2) (q := 111) rfl fl5_130 rfl rfl dX5_status_108 rfl ?_
    refine ef_getI (x := s.1 2 0) (q := 114) rfl fl5_140 rfl rfl dX5_status_111 rfl ?_
    exact ef_iret rfl dX5_status_114
  refine ef_dec (fun h2 => ?_) (fun h2 => ?_)
  · refine ef_of (fun _ _ => ev_tableIn (tgt := 115) dX5_status_1 (by rw [h2]; decide) (by rw [h2]; decide) (off := 114) (by rw [h2]; rfl) (by decide)) ?_
    refine ef_aload_n (q := 116) 0 dX5_status_115 rfl rfl rfl ?_
    refine ef_getR (t := 1) (q := 119) rfl fl5_10 rfl rfl dX5_status_116 rfl ?_
    refine ef_getR (t := 2) (q := 122) rfl fl5_130 rfl rfl dX5_status_119 rfl ?_
    refine ef_getI (x := s.1 2 11) (q := 125) rfl fl5_137 rfl rfl dX5_status_122 rfl ?_
    exact ef_iret rfl dX5_status_125
  refine ef_dec (fun h3 => ?_) (fun h3 => ?_)
  · refine ef_of (fun _ _ => ev_tableIn (tgt := 126) dX5_status_1 (by rw [h3]; decide) (by rw [h3]; decide) (off := 125) (by rw [h3]; rfl) (by decide)) ?_
    refine ef_aload_n (q := 127) 0 dX5_status_126 rfl rfl rfl ?_
    refine ef_getR (t := 1) (q := 130) rfl fl5_10 rfl rfl dX5_status_127 rfl ?_
    refine ef_getI (x := s.1 1 3) (q := 133) rfl fl5_173 rfl rfl dX5_status_130 rfl ?_
    exact ef_iret rfl dX5_status_133
  refine ef_dec (fun h4 => ?_) (fun h4 => ?_)
  · refine ef_of (fun _ _ => ev_tableIn (tgt := 134) dX5_status_1 (by rw [h4]; decide) (by rw [h4]; decide) (off := 133) (by rw [h4]; rfl) (by decide)) ?_
    refine ef_aload_n (q := 135) 0 dX5_status_134 rfl rfl rfl ?_
    refine ef_getR (t := 1) (q := 138) rfl fl5_10 rfl rfl dX5_status_135 rfl ?_
    refine ef_getR (t := 2) (q := 141) rfl fl5_130 rfl rfl dX5_status_138 rfl ?_
    refine ef_getI (x := s.1 2 7) (q := 144) rfl fl5_311 rfl rfl dX5_status_141 rfl ?_
    exact ef_iret rfl dX5_status_144
  refine ef_dec (fun h5 => ?_) (fun h5 => ?_)
  · refine ef_of (fun _ _ => ev_tableIn (tgt := 145) dX5_status_1 (by rw [h5]; decide) (by rw [h5]; decide) (off := 144) (by rw [h5]; rfl) (by decide)) ?_
    refine ef_aload_n (q := 146) 0 dX5_status_145 rfl rfl rfl ?_
    refine ef_getR (t := 1) (q := 149) rfl fl5_10 rfl rfl dX5_status_146 rfl ?_
    refine ef_getR (t := 2) (q := 152) rfl fl5_130 rfl rfl dX5_status_149 rfl ?_
    refine ef_getI (x := s.1 2 8) (q := 155) rfl fl5_227 rfl rfl dX5_status_152 rfl ?_
    exact ef_iret rfl dX5_status_155
  refine ef_dec (fun h6 => ?_) (fun h6 => ?_)
  · refine ef_of (fun _ _ => ev_tableIn (tgt := 156) dX5_status_1 (by rw [h6]; decide) (by rw [h6]; decide) (off := 155) (by rw [h6]; rfl) (by decide)) ?_
    refine ef_aload_n (q := 157) 0 dX5_status_156 rfl rfl rfl ?_
    refine ef_getR (t := 1) (q := 160) rfl fl5_10 rfl rfl dX5_status_157 rfl ?_
    refine ef_getR (t := 2) (q := 163) rfl fl5_130 rfl rfl dX5_status_160 rfl ?_
    refine ef_getI (x := s.1 2 9) (q := 166) rfl fl5_246 rfl rfl dX5_status_163 rfl ?_
    exact ef_iret rfl dX5_status_166
  refine ef_dec (fun h7 => ?_) (fun h7 => ?_)
  · refine ef_of (fun _ _ => ev_tableIn (tgt := 167) dX5_status_1 (by rw [h7]; decide) (by rw [h7]; decide) (off := 166) (by rw [h7]; rfl) (by decide)) ?_
    refine ef_aload_n (q := 168) 0 dX5_status_167 rfl rfl rfl ?_
    refine ef_getR (t := 1) (q := 171) rfl fl5_10 rfl rfl dX5_status_168 rfl ?_
    refine ef_getR (t := 2) (q := 174) rfl fl5_130 rfl rfl dX5_status_171 rfl ?_
    refine ef_invVI (k := 2) (nn := 5) (π := (fun k => 2 + k)) (As := []) (rest := []) (q := 177) (okX0_left) (by decide +kernel) rfl calX0_left ml5_249 (by decide) rfl rfl rfl (Nat.le_of_ble_eq_true rfl) dX5_status_174 rfl rfl (fun z8 => ?_)
    exact ef_iret rfl dX5_status_177
  refine ef_dec (fun h9 => ?_) (fun h9 => ?_)
  · refine ef_of (fun _ _ => ev_tableIn (tgt := 178) dX5_status_1 (by rw [h9]; decide) (by rw [h9]; decide) (off := 177) (by rw [h9]; rfl) (by decide)) ?_
    refine ef_aload_n (q := 179) 0 dX5_status_178 rfl rfl rfl ?_
    refine ef_getR (t := 1) (q := 182) rfl fl5_10 rfl rfl dX5_status_179 rfl ?_
    refine ef_getR (t := 2) (q := 185) rfl fl5_130 rfl rfl dX5_status_182 rfl ?_
    refine ef_getI (x := s.1 2 10) (q := 188) rfl fl5_265 rfl rfl dX5_status_185 rfl ?_
    exact ef_iret rfl dX5_status_188
  refine ef_dec (fun h10 => ?_) (fun h10 => ?_)
  · refine ef_of (fun _ _ => ev_tableIn (tgt := 189) dX5_status_1 (by rw [h10]; decide) (by rw [h10]; decide) (off := 188) (by rw [h10]; rfl) (by decide)) ?_
    refine ef_aload_n (q := 190) 0 dX5_status_189 rfl rfl rfl ?_
    refine ef_getR (t := 1) (q := 193) rfl fl5_10 rfl rfl dX5_status_190 rfl ?_
    refine ef_getR (t := 2) (q := 196) rfl fl5_130 rfl rfl dX5_status_193 rfl ?_
    refine ef_getI (x := s.1 2 1) (q := 199) rfl fl5_170 rfl rfl dX5_status_196 rfl ?_
    exact ef_iret rfl dX5_status_199
  refine ef_dec (fun h11 => ?_) (fun h11 => ?_)
  · refine ef_of (fun _ _ => ev_tableIn (tgt := 200) dX5_status_1 (by rw [h11]; decide) (by rw [h11]; decide) (off := 199) (by rw [h11]; rfl) (by decide)) ?_
    refine ef_aload_n (q := 201) 0 dX5_status_200 rfl rfl rfl ?_
    refine ef_getR (t := 1) (q := 204) rfl fl5_10 rfl rfl dX5_status_201 rfl ?_
    refine ef_getR (t := 2) (q := 207) rfl fl5_130 rfl rfl dX5_status_204 rfl ?_
    refine ef_getI (x := s.1 2 2) (q := 210) rfl fl5_152 rfl rfl dX5_status_207 rfl ?_
    exact ef_iret rfl dX5_status_210
  refine ef_dec (fun h12 => ?_) (fun h12 => ?_)
  · refine ef_of (fun _ _ => ev_tableIn (tgt := 211) dX5_status_1 (by rw [h12]; decide) (by rw [h12]; decide) (off := 210) (by rw [h12]; rfl) (by decide)) ?_
    refine ef_aload_n (q := 212) 0 dX5_status_211 rfl rfl rfl ?_
    refine ef_getR (t := 58) (q := 215) rfl fl5_45 rfl rfl dX5_status_212 rfl ?_
    refine ef_getI (x := s.1 58 1) (q := 218) rfl fl5_179 rfl rfl dX5_status_215 rfl ?_
    exact ef_iret rfl dX5_status_218
  refine ef_dec (fun h13 => ?_) (fun h13 => ?_)
  · refine ef_of (fun _ _ => ev_tableIn (tgt := 219) dX5_status_1 (by rw [h13]; decide) (by rw [h13]; decide) (off := 218) (by rw [h13]; rfl) (by decide)) ?_
    refine ef_aload_n (q := 220) 0 dX5_status_219 rfl rfl rfl ?_
    refine ef_getR (t := 1) (q := 223) rfl fl5_10 rfl rfl dX5_status_220 rfl ?_
    refine ef_getI (x := s.1 1 6) (q := 226) rfl fl5_308 rfl rfl dX5_status_223 rfl ?_
    exact ef_iret rfl dX5_status_226
  refine ef_dec (fun h14 => ?_) (fun h14 => ?_)
  · refine ef_of (fun _ _ => ev_tableIn (tgt := 227) dX5_status_1 (by rw [h14]; decide) (by rw [h14]; decide) (off := 226) (by rw [h14]; rfl) (by decide)) ?_
    refine ef_aload_n (q := 228) 0 dX5_status_227 rfl rfl rfl ?_
    refine ef_getR (t := 60) (q := 231) rfl fl5_49 rfl rfl dX5_status_228 rfl ?_
    refine ef_iconst (v := (2 : Int32)) (q := 232) dX5_status_231 (by decide) rfl ?_
    refine ef_iaload (x := s.1 60 2) (q := 233) rfl (by decide) dX5_status_232 rfl rfl ?_
    exact ef_iret rfl dX5_status_233
  refine ef_dec (fun h15 => ?_) (fun h15 => ?_)
  · refine ef_of (fun _ _ => ev_tableIn (tgt := 234) dX5_status_1 (by rw [h15]; decide) (by rw [h15]; decide) (off := 233) (by rw [h15]; rfl) (by decide)) ?_
    refine ef_aload_n (q := 235) 0 dX5_status_234 rfl rfl rfl ?_
    refine ef_getR (t := 60) (q := 238) rfl fl5_49 rfl rfl dX5_status_235 rfl ?_
    refine ef_iconst (v := (3 : Int32)) (q := 239) dX5_status_238 (by decide) rfl ?_
    refine ef_iaload (x := s.1 60 3) (q := 240) rfl (by decide) dX5_status_239 rfl rfl ?_
    exact ef_iret rfl dX5_status_240
  refine ef_dec (fun h16 => ?_) (fun h16 => ?_)
  · refine ef_of (fun _ _ => ev_tableIn (tgt := 241) dX5_status_1 (by rw [h16]; decide) (by rw [h16]; decide) (off := 240) (by rw [h16]; rfl) (by decide)) ?_
    refine ef_aload_n (q := 242) 0 dX5_status_241 rfl rfl rfl ?_
    refine ef_getR (t := 60) (q := 245) rfl fl5_49 rfl rfl dX5_status_242 rfl ?_
    refine ef_iconst (v := (4 : Int32)) (q := 246) dX5_status_245 (by decide) rfl ?_
    refine ef_iaload (x := s.1 60 4) (q := 247) rfl (by decide) dX5_status_246 rfl rfl ?_
    exact ef_iret rfl dX5_status_247
  refine ef_dec (fun h17 => ?_) (fun h17 => ?_)
  · refine ef_of (fun _ _ => ev_tableIn (tgt := 248) dX5_status_1 (by rw [h17]; decide) (by rw [h17]; decide) (off := 247) (by rw [h17]; rfl) (by decide)) ?_
    refine ef_aload_n (q := 249) 0 dX5_status_248 rfl rfl rfl ?_
    refine ef_getR (t := 60) (q := 252) rfl fl5_49 rfl rfl dX5_status_249 rfl ?_
    refine ef_iconst (v := (5 : Int32)) (q := 253) dX5_status_252 (by decide) rfl ?_
    refine ef_iaload (x := s.1 60 5) (q := 254) rfl (by decide) dX5_status_253 rfl rfl ?_
    exact ef_iret rfl dX5_status_254
  refine ef_dec (fun h18 => ?_) (fun h18 => ?_)
  · refine ef_of (fun _ _ => ev_tableIn (tgt := 255) dX5_status_1 (by rw [h18]; decide) (by rw [h18]; decide) (off := 254) (by rw [h18]; rfl) (by decide)) ?_
    refine ef_aload_n (q := 256) 0 dX5_status_255 rfl rfl rfl ?_
    refine ef_getR (t := 60) (q := 259) rfl fl5_49 rfl rfl dX5_status_256 rfl ?_
    refine ef_bipush (v := (6 : Int32)) (q := 261) dX5_status_259 (by decide) rfl ?_
    refine ef_iaload (x := s.1 60 6) (q := 262) rfl (by decide) dX5_status_261 rfl rfl ?_
    exact ef_iret rfl dX5_status_262
  refine ef_dec (fun h19 => ?_) (fun h19 => ?_)
  · refine ef_of (fun _ _ => ev_tableIn (tgt := 263) dX5_status_1 (by rw [h19]; decide) (by rw [h19]; decide) (off := 262) (by rw [h19]; rfl) (by decide)) ?_
    refine ef_aload_n (q := 264) 0 dX5_status_263 rfl rfl rfl ?_
    refine ef_invVI0 (k := 0) (As := []) (rest := []) (q := 267) (okX5_shelvesInUse) rfl calX5_shelvesInUse ml5_314 (by decide) rfl rfl rfl (Nat.le_of_ble_eq_true rfl) dX5_status_264 rfl (fun z20 => ?_)
    exact ef_iret rfl dX5_status_267
  refine ef_dec (fun h21 => ?_) (fun h21 => ?_)
  · refine ef_of (fun _ _ => ev_tableIn (tgt := 268) dX5_status_1 (by rw [h21]; decide) (by rw [h21]; decide) (off := 267) (by rw [h21]; rfl) (by decide)) ?_
    refine ef_aload_n (q := 269) 0 dX5_status_268 rfl rfl rfl ?_
    refine ef_getR (t := 1) (q := 272) rfl fl5_10 rfl rfl dX5_status_269 rfl ?_
    refine ef_getR (t := 2) (q := 275) rfl fl5_130 rfl rfl dX5_status_272 rfl ?_
    refine ef_getI (x := s.1 2 3) (q := 278) rfl fl5_158 rfl rfl dX5_status_275 rfl ?_
    exact ef_iret rfl dX5_status_278
  refine ef_dec (fun h22 => ?_) (fun h22 => ?_)
  · refine ef_of (fun _ _ => ev_tableIn (tgt := 279) dX5_status_1 (by rw [h22]; decide) (by rw [h22]; decide) (off := 278) (by rw [h22]; rfl) (by decide)) ?_
    refine ef_aload_n (q := 280) 0 dX5_status_279 rfl rfl rfl ?_
    refine ef_getR (t := 1) (q := 283) rfl fl5_10 rfl rfl dX5_status_280 rfl ?_
    refine ef_getR (t := 2) (q := 286) rfl fl5_130 rfl rfl dX5_status_283 rfl ?_
    refine ef_getI (x := s.1 2 4) (q := 289) rfl fl5_161 rfl rfl dX5_status_286 rfl ?_
    exact ef_iret rfl dX5_status_289
  refine ef_dec (fun h23 => ?_) (fun h23 => ?_)
  · refine ef_of (fun _ _ => ev_tableIn (tgt := 290) dX5_status_1 (by rw [h23]; decide) (by rw [h23]; decide) (off := 289) (by rw [h23]; rfl) (by decide)) ?_
    refine ef_aload_n (q := 291) 0 dX5_status_290 rfl rfl rfl ?_
    refine ef_getR (t := 1) (q := 294) rfl fl5_10 rfl rfl dX5_status_291 rfl ?_
    refine ef_getR (t := 2) (q := 297) rfl fl5_130 rfl rfl dX5_status_294 rfl ?_
    refine ef_getI (x := s.1 2 5) (q := 300) rfl fl5_164 rfl rfl dX5_status_297 rfl ?_
    exact ef_iret rfl dX5_status_300
  refine ef_dec (fun h24 => ?_) (fun h24 => ?_)
  · refine ef_of (fun _ _ => ev_tableIn (tgt := 301) dX5_status_1 (by rw [h24]; decide) (by rw [h24]; decide) (off := 300) (by rw [h24]; rfl) (by decide)) ?_
    refine ef_aload_n (q := 302) 0 dX5_status_301 rfl rfl rfl ?_
    refine ef_getR (t := 1) (q := 305) rfl fl5_10 rfl rfl dX5_status_302 rfl ?_
    refine ef_getR (t := 2) (q := 308) rfl fl5_130 rfl rfl dX5_status_305 rfl ?_
    refine ef_getI (x := s.1 2 6) (q := 311) rfl fl5_167 rfl rfl dX5_status_308 rfl ?_
    exact ef_iret rfl dX5_status_311
  have hsw : (x1 : Int32).toInt < 0 ∨ 21 < (x1 : Int32).toInt := by
    have th1 := ne_toI (k := 0) h1 (by decide)
    have th2 := ne_toI (k := 1) h2 (by decide)
    have th3 := ne_toI (k := 2) h3 (by decide)
    have th4 := ne_toI (k := 3) h4 (by decide)
    have th5 := ne_toI (k := 4) h5 (by decide)
    have th6 := ne_toI (k := 5) h6 (by decide)
    have th7 := ne_toI (k := 6) h7 (by decide)
    have th9 := ne_toI (k := 7) h9 (by decide)
    have th10 := ne_toI (k := 8) h10 (by decide)
    have th11 := ne_toI (k := 9) h11 (by decide)
    have th12 := ne_toI (k := 10) h12 (by decide)
    have th13 := ne_toI (k := 11) h13 (by decide)
    have th14 := ne_toI (k := 12) h14 (by decide)
    have th15 := ne_toI (k := 13) h15 (by decide)
    have th16 := ne_toI (k := 14) h16 (by decide)
    have th17 := ne_toI (k := 15) h17 (by decide)
    have th18 := ne_toI (k := 16) h18 (by decide)
    have th19 := ne_toI (k := 17) h19 (by decide)
    have th21 := ne_toI (k := 18) h21 (by decide)
    have th22 := ne_toI (k := 19) h22 (by decide)
    have th23 := ne_toI (k := 20) h23 (by decide)
    have th24 := ne_toI (k := 21) h24 (by decide)
    omega
  refine ef_of (fun _ _ => ev_tableOut (tgt := 312) dX5_status_1 hsw (by decide)) ?_
  refine ef_iconst (v := (-1 : Int32)) (q := 313) dX5_status_312 (by decide) rfl ?_
  exact ef_iret rfl dX5_status_313
theorem okX5_status (x1 : Int32) : MtF 3 mX5_status lyM rvI (fun _ pl => [.ref (pl 0), .int x1]) (fX5_status x1) := by
  refine MtF.of (by decide +kernel) rfl (fun _ pl => Nat.le_of_ble_eq_true rfl) (fun G pl h0 s => ?_)
  refine ef_sub (lv := [(0, .ref (pl 0)), (1, .int x1)]) (lv' := [(0, .ref (pl 0)), (1, .int x1)]) [0, 1] rfl ?_
  exact okX5_status_0  x1 s
