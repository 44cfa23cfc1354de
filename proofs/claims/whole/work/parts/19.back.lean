-- X6_back
theorem dX6_back_0 : decode cX6_back 0 = .ok (.aload_n 0, 1) := by decide +kernel
theorem dX6_back_1 : decode cX6_back 1 = .ok (.getfield 385, 3) := by decide +kernel
theorem dX6_back_4 : decode cX6_back 4 = .ok (.ifnonnull 10, 3) := by decide +kernel
theorem dX6_back_7 : decode cX6_back 7 = .ok (.aload_n 0, 1) := by decide +kernel
theorem dX6_back_8 : decode cX6_back 8 = .ok (.bipush (-5), 2) := by decide +kernel
theorem dX6_back_10 : decode cX6_back 10 = .ok (.invokevirtual 102, 3) := by decide +kernel
theorem dX6_back_13 : decode cX6_back 13 = .ok (.ireturn, 1) := by decide +kernel
theorem dX6_back_14 : decode cX6_back 14 = .ok (.aload_n 0, 1) := by decide +kernel
theorem dX6_back_15 : decode cX6_back 15 = .ok (.aload_n 0, 1) := by decide +kernel
theorem dX6_back_16 : decode cX6_back 16 = .ok (.getfield 385, 3) := by decide +kernel
theorem dX6_back_19 : decode cX6_back 19 = .ok (.invokevirtual 254, 3) := by decide +kernel
theorem dX6_back_22 : decode cX6_back 22 = .ok (.iconst 0, 1) := by decide +kernel
theorem dX6_back_23 : decode cX6_back 23 = .ok (.istore_n 1, 1) := by decide +kernel
theorem dX6_back_24 : decode cX6_back 24 = .ok (.iload_n 1, 1) := by decide +kernel
theorem dX6_back_25 : decode cX6_back 25 = .ok (.bipush 8, 2) := by decide +kernel
theorem dX6_back_27 : decode cX6_back 27 = .ok (.if_icmp .ge 39, 3) := by decide +kernel
theorem dX6_back_30 : decode cX6_back 30 = .ok (.aload_n 0, 1) := by decide +kernel
theorem dX6_back_31 : decode cX6_back 31 = .ok (.getfield 7, 3) := by decide +kernel
theorem dX6_back_34 : decode cX6_back 34 = .ok (.iload_n 1, 1) := by decide +kernel
theorem dX6_back_35 : decode cX6_back 35 = .ok (.iaload, 1) := by decide +kernel
theorem dX6_back_36 : decode cX6_back 36 = .ok (.iconst 2, 1) := by decide +kernel
theorem dX6_back_37 : decode cX6_back 37 = .ok (.if_icmp .ne 23, 3) := by decide +kernel
theorem dX6_back_40 : decode cX6_back 40 = .ok (.aload_n 0, 1) := by decide +kernel
theorem dX6_back_41 : decode cX6_back 41 = .ok (.getfield 28, 3) := by decide +kernel
theorem dX6_back_44 : decode cX6_back 44 = .ok (.iload_n 1, 1) := by decide +kernel
theorem dX6_back_45 : decode cX6_back 45 = .ok (.iaload, 1) := by decide +kernel
theorem dX6_back_46 : decode cX6_back 46 = .ok (.aload_n 0, 1) := by decide +kernel
theorem dX6_back_47 : decode cX6_back 47 = .ok (.getfield 86, 3) := by decide +kernel
theorem dX6_back_50 : decode cX6_back 50 = .ok (.if_icmp .lt 10, 3) := by decide +kernel
theorem dX6_back_53 : decode cX6_back 53 = .ok (.aload_n 0, 1) := by decide +kernel
theorem dX6_back_54 : decode cX6_back 54 = .ok (.getfield 7, 3) := by decide +kernel
theorem dX6_back_57 : decode cX6_back 57 = .ok (.iload_n 1, 1) := by decide +kernel
theorem dX6_back_58 : decode cX6_back 58 = .ok (.iconst 0, 1) := by decide +kernel
theorem dX6_back_59 : decode cX6_back 59 = .ok (.iastore, 1) := by decide +kernel
theorem dX6_back_60 : decode cX6_back 60 = .ok (.iinc 1 1, 3) := by decide +kernel
theorem dX6_back_63 : decode cX6_back 63 = .ok (.goto (-39), 3) := by decide +kernel
theorem dX6_back_66 : decode cX6_back 66 = .ok (.iconst 1, 1) := by decide +kernel
theorem dX6_back_67 : decode cX6_back 67 = .ok (.ireturn, 1) := by decide +kernel
def fX6_back_24 (p : List Nat) : Nat → Int32 → TF → Option (Int32 × TF)
  | 0, _, _ => none
  | n + 1, x1, t => if (8 : Int32) ≤ x1 then (some ((1 : Int32), t)) else (if ixB x1 8 then (if ((t.2 p).1 1 x1.toNatClampNeg) = (2 : Int32) then (if ixB x1 8 then (if ((t.2 p).1 14 x1.toNatClampNeg) < ((t.2 p).1 0 22) then (fX6_back_24 p n (x1 + (1 : Int32)) t) else (if ixB x1 8 then (fX6_back_24 p n (x1 + (1 : Int32)) (wTI t p 1 x1.toNatClampNeg (0 : Int32))) else none)) else none) else (fX6_back_24 p n (x1 + (1 : Int32)) t)) else none)
def fX6_back_0 (p : List Nat) (t : TF) : Option (Int32 × TF) := if t.1 (8 :: p) = true then (if t.1 (8 :: p) = true then (((fX6_takeFrom (prS (t.2 p) (t.2 (8 :: p)))).bind fun z3 => fX6_back_24 p FU (0 : Int32) (wrT (wrT t p z3.2) (8 :: p) (snS z3.2)))) else none) else (((fX6_refuse (-5 : Int32) (t.2 p)).bind fun z4 => some (z4.1, wrT t p z4.2)))
def fX6_back (p : List Nat) (t : TF) : Option (Int32 × TF) := fX6_back_0 p t
set_option maxRecDepth 100000 in
set_option maxHeartbeats 4000000 in
theorem okX6_back_24 {G : GG} {X : Nat → Prop} {ob0 : List Nat → Nat} {t0 : TF} {h00 : PH} (p : List Nat) : ∀ (n : Nat) (x1 : Int32) (t : TF) (ob : List Nat → Nat) (a0 : Nat) (e0 : AtF ob t (p) a0), EvP G 3 mX6_back X ob0 t0 h00 rwI (fX6_back_24 p n x1 t) 24 [(0, .ref a0), (1, .int x1)] [] t ob := by
  intro n
  induction n with
  | zero => intro x1 t ob a0 e0; rw [fX6_back_24]; exact ep_none
  | succ n ih =>
    intro x1 t ob a0 e0
    rw [fX6_back_24]
    refine ep_iload_n (q := 25) 1 dX6_back_24 rfl rfl rfl ?_
    refine ep_bipush (v := (8 : Int32)) (q := 27) dX6_back_25 (by decide) rfl ?_
    refine ep_if (pt := 66) (pf := 30) (fun _ _ _ _ _ _ => ev_icmp_ge (tgt := 66) dX6_back_27 (by decide)) (fun h1 => ?_) (fun h1 => ?_)
    · refine ep_iconst (v := (1 : Int32)) (q := 67) dX6_back_66 (by decide) rfl ?_
      exact ep_iret rfl dX6_back_67
    · refine ep_aload_n (q := 31) 0 dX6_back_30 rfl rfl rfl ?_
      refine ep_getR (k := 1) (q := 34) e0 fl6_7 rfl rfl rfl dX6_back_31 rfl ?_
      refine ep_iload_n (q := 35) 1 dX6_back_34 rfl rfl rfl ?_
      refine ep_guard (fun g2 => ?_)
      refine ep_iaload (x := (t.2 p).1 1 x1.toNatClampNeg) (q := 36) e0 rfl g2 dX6_back_35 rfl rfl ?_
      refine ep_iconst (v := (2 : Int32)) (q := 37) dX6_back_36 (by decide) rfl ?_
      refine ep_if (pt := 40) (pf := 60) (fun _ _ _ _ _ _ kt kf => ev_icmp_ne (tgt := 60) dX6_back_37 (by decide) kf kt) (fun h3 => ?_) (fun h3 => ?_)
      · refine ep_aload_n (q := 41) 0 dX6_back_40 rfl rfl rfl ?_
        refine ep_getR (k := 14) (q := 44) e0 fl6_28 rfl rfl rfl dX6_back_41 rfl ?_
        refine ep_iload_n (q := 45) 1 dX6_back_44 rfl rfl rfl ?_
        refine ep_guard (fun g4 => ?_)
        refine ep_iaload (x := (t.2 p).1 14 x1.toNatClampNeg) (q := 46) e0 rfl g4 dX6_back_45 rfl rfl ?_
        refine ep_aload_n (q := 47) 0 dX6_back_46 rfl rfl rfl ?_
        refine ep_getI (x := (t.2 p).1 0 22) (q := 50) e0 fl6_86 rfl rfl dX6_back_47 rfl ?_
        refine ep_if (pt := 60) (pf := 53) (fun _ _ _ _ _ _ => ev_icmp_lt (tgt := 60) dX6_back_50 (by decide)) (fun h5 => ?_) (fun h5 => ?_)
        · refine ep_iinc (v := x1 + (1 : Int32)) (lv' := [(1, .int (x1 + (1 : Int32))), (0, .ref a0)]) (q := 63) 1 dX6_back_60 rfl rfl (by decide) rfl rfl ?_
          refine ep_goto (tgt := 24) dX6_back_63 (by decide) ?_
          refine ep_sub (lv' := [(0, .ref a0), (1, .int (x1 + (1 : Int32)))]) [1, 0] rfl ?_
          exact ih (x1 + (1 : Int32)) t ob a0 e0
        · refine ep_aload_n (q := 54) 0 dX6_back_53 rfl rfl rfl ?_
          refine ep_getR (k := 1) (q := 57) e0 fl6_7 rfl rfl rfl dX6_back_54 rfl ?_
          refine ep_iload_n (q := 58) 1 dX6_back_57 rfl rfl rfl ?_
          refine ep_iconst (v := (0 : Int32)) (q := 59) dX6_back_58 (by decide) rfl ?_
          refine ep_guard (fun g6 => ?_)
          refine ep_iastore (j := x1.toNatClampNeg) (q := 60) e0 rfl g6 dX6_back_59 rfl rfl ?_
          refine ep_iinc (v := x1 + (1 : Int32)) (lv' := [(1, .int (x1 + (1 : Int32))), (0, .ref a0)]) (q := 63) 1 dX6_back_60 rfl rfl (by decide) rfl rfl ?_
          refine ep_goto (tgt := 24) dX6_back_63 (by decide) ?_
          refine ep_sub (lv' := [(0, .ref a0), (1, .int (x1 + (1 : Int32)))]) [1, 0] rfl ?_
          exact ih (x1 + (1 : Int32)) (wTI t p 1 x1.toNatClampNeg (0 : Int32)) ob a0 e0
      · refine ep_iinc (v := x1 + (1 : Int32)) (lv' := [(1, .int (x1 + (1 : Int32))), (0, .ref a0)]) (q := 63) 1 dX6_back_60 rfl rfl (by decide) rfl rfl ?_
        refine ep_goto (tgt := 24) dX6_back_63 (by decide) ?_
        refine ep_sub (lv' := [(0, .ref a0), (1, .int (x1 + (1 : Int32)))]) [1, 0] rfl ?_
        exact ih (x1 + (1 : Int32)) t ob a0 e0
set_option maxRecDepth 100000 in
set_option maxHeartbeats 4000000 in
theorem okX6_back_0 {G : GG} {X : Nat → Prop} {ob0 : List Nat → Nat} {t0 : TF} {h00 : PH} (p : List Nat) (t : TF) (ob : List Nat → Nat) (a0 : Nat) (e0 : AtF ob t (p) a0) : EvP G 3 mX6_back X ob0 t0 h00 rwI (fX6_back_0 p t) 0 [(0, .ref a0)] [] t ob := by
  unfold fX6_back_0
  refine ep_aload_n (q := 1) 0 dX6_back_0 rfl rfl rfl ?_
  refine ep_getZ (z := (8, 0, 28)) (q := 4) e0 (by decide) rfl fl6_385 rfl dX6_back_1 rfl ?_
  refine ep_ifnonnull (tgt := 14) (q := 7) dX6_back_4 (by decide) rfl (fun h1 => ?_) (fun h1 => ?_)
  · refine ep_aload_n (q := 15) 0 dX6_back_14 rfl rfl rfl ?_
    refine ep_aload_n (q := 16) 0 dX6_back_15 rfl rfl rfl ?_
    refine ep_getZ (z := (8, 0, 28)) (q := 19) e0 (by decide) rfl fl6_385 rfl dX6_back_16 rfl ?_
    refine ep_lz (fun g2 => ?_)
    refine ep_invVU2 (As := [.ref (ob (8 :: p))]) (rest := []) (q := 22) e0 (⟨g2, rfl⟩) cne' (okX6_takeFrom) rfl calX6_takeFrom ml6_254 (by decide) rfl rfl (Nat.le_of_ble_eq_true rfl) dX6_back_19 rfl (fun z3 => ?_)
    refine ep_iconst (v := (0 : Int32)) (q := 23) dX6_back_22 (by decide) rfl ?_
    refine ep_istore_n (lv' := [(1, .int (0 : Int32)), (0, .ref a0)]) (q := 24) dX6_back_23 rfl (by decide) rfl rfl ?_
    refine ep_sub (lv' := [(0, .ref a0), (1, .int (0 : Int32))]) [1, 0] rfl ?_
    exact okX6_back_24 p FU (0 : Int32) (wrT (wrT t p z3.2) (8 :: p) (snS z3.2)) ob a0 e0
  · refine ep_aload_n (q := 8) 0 dX6_back_7 rfl rfl rfl ?_
    refine ep_bipush (v := (-5 : Int32)) (q := 10) dX6_back_8 (by decide) rfl ?_
    refine ep_invVI1 (As := [.int (-5 : Int32)]) (rest := []) (q := 13) e0 (okX6_refuse (-5 : Int32)) rfl calX6_refuse ml6_102 (by decide) rfl rfl (Nat.le_of_ble_eq_true rfl) dX6_back_10 rfl (fun z4 => ?_)
    exact ep_iret rfl dX6_back_13
theorem okX6_back (p : List Nat) : MtP 3 mX6_back rwI p (fun a => [.ref a]) (fX6_back p) := by
  refine MtP.of (by decide +kernel) rfl (fun _ => Nat.le_of_ble_eq_true rfl) (fun G X ob t h a e => ?_)
  refine ep_sub (lv := [(0, .ref a)]) (lv' := [(0, .ref a)]) [0] rfl ?_
  exact okX6_back_0 p t ob a e
