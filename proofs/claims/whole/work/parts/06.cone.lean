-- X0_takeFrom
theorem dX0_takeFrom_0 : decode cX0_takeFrom 0 = .ok (.aload_n 0, 1) := by decide +kernel
theorem dX0_takeFrom_1 : decode cX0_takeFrom 1 = .ok (.aload_n 1, 1) := by decide +kernel
theorem dX0_takeFrom_2 : decode cX0_takeFrom 2 = .ok (.getfield 9, 3) := by decide +kernel
theorem dX0_takeFrom_5 : decode cX0_takeFrom 5 = .ok (.putfield 9, 3) := by decide +kernel
theorem dX0_takeFrom_8 : decode cX0_takeFrom 8 = .ok (.aload_n 0, 1) := by decide +kernel
theorem dX0_takeFrom_9 : decode cX0_takeFrom 9 = .ok (.aload_n 1, 1) := by decide +kernel
theorem dX0_takeFrom_10 : decode cX0_takeFrom 10 = .ok (.getfield 15, 3) := by decide +kernel
theorem dX0_takeFrom_13 : decode cX0_takeFrom 13 = .ok (.putfield 15, 3) := by decide +kernel
theorem dX0_takeFrom_16 : decode cX0_takeFrom 16 = .ok (.aload_n 0, 1) := by decide +kernel
theorem dX0_takeFrom_17 : decode cX0_takeFrom 17 = .ok (.aload_n 1, 1) := by decide +kernel
theorem dX0_takeFrom_18 : decode cX0_takeFrom 18 = .ok (.getfield 18, 3) := by decide +kernel
theorem dX0_takeFrom_21 : decode cX0_takeFrom 21 = .ok (.putfield 18, 3) := by decide +kernel
theorem dX0_takeFrom_24 : decode cX0_takeFrom 24 = .ok (.aload_n 0, 1) := by decide +kernel
theorem dX0_takeFrom_25 : decode cX0_takeFrom 25 = .ok (.aload_n 1, 1) := by decide +kernel
theorem dX0_takeFrom_26 : decode cX0_takeFrom 26 = .ok (.getfield 21, 3) := by decide +kernel
theorem dX0_takeFrom_29 : decode cX0_takeFrom 29 = .ok (.putfield 21, 3) := by decide +kernel
theorem dX0_takeFrom_32 : decode cX0_takeFrom 32 = .ok (.aload_n 0, 1) := by decide +kernel
theorem dX0_takeFrom_33 : decode cX0_takeFrom 33 = .ok (.aload_n 1, 1) := by decide +kernel
theorem dX0_takeFrom_34 : decode cX0_takeFrom 34 = .ok (.getfield 24, 3) := by decide +kernel
theorem dX0_takeFrom_37 : decode cX0_takeFrom 37 = .ok (.putfield 24, 3) := by decide +kernel
theorem dX0_takeFrom_40 : decode cX0_takeFrom 40 = .ok (.aload_n 0, 1) := by decide +kernel
theorem dX0_takeFrom_41 : decode cX0_takeFrom 41 = .ok (.aload_n 1, 1) := by decide +kernel
theorem dX0_takeFrom_42 : decode cX0_takeFrom 42 = .ok (.getfield 27, 3) := by decide +kernel
theorem dX0_takeFrom_45 : decode cX0_takeFrom 45 = .ok (.putfield 27, 3) := by decide +kernel
theorem dX0_takeFrom_48 : decode cX0_takeFrom 48 = .ok (.aload_n 0, 1) := by decide +kernel
theorem dX0_takeFrom_49 : decode cX0_takeFrom 49 = .ok (.aload_n 1, 1) := by decide +kernel
theorem dX0_takeFrom_50 : decode cX0_takeFrom 50 = .ok (.getfield 30, 3) := by decide +kernel
theorem dX0_takeFrom_53 : decode cX0_takeFrom 53 = .ok (.putfield 30, 3) := by decide +kernel
theorem dX0_takeFrom_56 : decode cX0_takeFrom 56 = .ok (.aload_n 0, 1) := by decide +kernel
theorem dX0_takeFrom_57 : decode cX0_takeFrom 57 = .ok (.aload_n 1, 1) := by decide +kernel
theorem dX0_takeFrom_58 : decode cX0_takeFrom 58 = .ok (.getfield 33, 3) := by decide +kernel
theorem dX0_takeFrom_61 : decode cX0_takeFrom 61 = .ok (.putfield 33, 3) := by decide +kernel
theorem dX0_takeFrom_64 : decode cX0_takeFrom 64 = .ok (.aload_n 0, 1) := by decide +kernel
theorem dX0_takeFrom_65 : decode cX0_takeFrom 65 = .ok (.aload_n 1, 1) := by decide +kernel
theorem dX0_takeFrom_66 : decode cX0_takeFrom 66 = .ok (.getfield 36, 3) := by decide +kernel
theorem dX0_takeFrom_69 : decode cX0_takeFrom 69 = .ok (.putfield 36, 3) := by decide +kernel
theorem dX0_takeFrom_72 : decode cX0_takeFrom 72 = .ok (.aload_n 0, 1) := by decide +kernel
theorem dX0_takeFrom_73 : decode cX0_takeFrom 73 = .ok (.aload_n 1, 1) := by decide +kernel
theorem dX0_takeFrom_74 : decode cX0_takeFrom 74 = .ok (.getfield 39, 3) := by decide +kernel
theorem dX0_takeFrom_77 : decode cX0_takeFrom 77 = .ok (.putfield 39, 3) := by decide +kernel
theorem dX0_takeFrom_80 : decode cX0_takeFrom 80 = .ok (.aload_n 0, 1) := by decide +kernel
theorem dX0_takeFrom_81 : decode cX0_takeFrom 81 = .ok (.aload_n 1, 1) := by decide +kernel
theorem dX0_takeFrom_82 : decode cX0_takeFrom 82 = .ok (.getfield 42, 3) := by decide +kernel
theorem dX0_takeFrom_85 : decode cX0_takeFrom 85 = .ok (.putfield 42, 3) := by decide +kernel
theorem dX0_takeFrom_88 : decode cX0_takeFrom 88 = .ok (.aload_n 0, 1) := by decide +kernel
theorem dX0_takeFrom_89 : decode cX0_takeFrom 89 = .ok (.aload_n 1, 1) := by decide +kernel
theorem dX0_takeFrom_90 : decode cX0_takeFrom 90 = .ok (.getfield 45, 3) := by decide +kernel
theorem dX0_takeFrom_93 : decode cX0_takeFrom 93 = .ok (.putfield 45, 3) := by decide +kernel
theorem dX0_takeFrom_96 : decode cX0_takeFrom 96 = .ok (.aload_n 1, 1) := by decide +kernel
theorem dX0_takeFrom_97 : decode cX0_takeFrom 97 = .ok (.getfield 48, 3) := by decide +kernel
theorem dX0_takeFrom_100 : decode cX0_takeFrom 100 = .ok (.iconst 0, 1) := by decide +kernel
theorem dX0_takeFrom_101 : decode cX0_takeFrom 101 = .ok (.aload_n 0, 1) := by decide +kernel
theorem dX0_takeFrom_102 : decode cX0_takeFrom 102 = .ok (.getfield 48, 3) := by decide +kernel
theorem dX0_takeFrom_105 : decode cX0_takeFrom 105 = .ok (.iconst 0, 1) := by decide +kernel
theorem dX0_takeFrom_106 : decode cX0_takeFrom 106 = .ok (.iconst 3, 1) := by decide +kernel
theorem dX0_takeFrom_107 : decode cX0_takeFrom 107 = .ok (.invokestatic 61, 3) := by decide +kernel
theorem dX0_takeFrom_110 : decode cX0_takeFrom 110 = .ok (.aload_n 1, 1) := by decide +kernel
theorem dX0_takeFrom_111 : decode cX0_takeFrom 111 = .ok (.getfield 52, 3) := by decide +kernel
theorem dX0_takeFrom_114 : decode cX0_takeFrom 114 = .ok (.iconst 0, 1) := by decide +kernel
theorem dX0_takeFrom_115 : decode cX0_takeFrom 115 = .ok (.aload_n 0, 1) := by decide +kernel
theorem dX0_takeFrom_116 : decode cX0_takeFrom 116 = .ok (.getfield 52, 3) := by decide +kernel
theorem dX0_takeFrom_119 : decode cX0_takeFrom 119 = .ok (.iconst 0, 1) := by decide +kernel
theorem dX0_takeFrom_120 : decode cX0_takeFrom 120 = .ok (.iconst 3, 1) := by decide +kernel
theorem dX0_takeFrom_121 : decode cX0_takeFrom 121 = .ok (.invokestatic 61, 3) := by decide +kernel
theorem dX0_takeFrom_124 : decode cX0_takeFrom 124 = .ok (.aload_n 1, 1) := by decide +kernel
theorem dX0_takeFrom_125 : decode cX0_takeFrom 125 = .ok (.getfield 55, 3) := by decide +kernel
theorem dX0_takeFrom_128 : decode cX0_takeFrom 128 = .ok (.iconst 0, 1) := by decide +kernel
theorem dX0_takeFrom_129 : decode cX0_takeFrom 129 = .ok (.aload_n 0, 1) := by decide +kernel
theorem dX0_takeFrom_130 : decode cX0_takeFrom 130 = .ok (.getfield 55, 3) := by decide +kernel
theorem dX0_takeFrom_133 : decode cX0_takeFrom 133 = .ok (.iconst 0, 1) := by decide +kernel
theorem dX0_takeFrom_134 : decode cX0_takeFrom 134 = .ok (.bipush 24, 2) := by decide +kernel
theorem dX0_takeFrom_136 : decode cX0_takeFrom 136 = .ok (.invokestatic 61, 3) := by decide +kernel
theorem dX0_takeFrom_139 : decode cX0_takeFrom 139 = .ok (.aload_n 1, 1) := by decide +kernel
theorem dX0_takeFrom_140 : decode cX0_takeFrom 140 = .ok (.getfield 58, 3) := by decide +kernel
theorem dX0_takeFrom_143 : decode cX0_takeFrom 143 = .ok (.iconst 0, 1) := by decide +kernel
theorem dX0_takeFrom_144 : decode cX0_takeFrom 144 = .ok (.aload_n 0, 1) := by decide +kernel
theorem dX0_takeFrom_145 : decode cX0_takeFrom 145 = .ok (.getfield 58, 3) := by decide +kernel
theorem dX0_takeFrom_148 : decode cX0_takeFrom 148 = .ok (.iconst 0, 1) := by decide +kernel
theorem dX0_takeFrom_149 : decode cX0_takeFrom 149 = .ok (.bipush 8, 2) := by decide +kernel
theorem dX0_takeFrom_151 : decode cX0_takeFrom 151 = .ok (.invokestatic 61, 3) := by decide +kernel
theorem dX0_takeFrom_154 : decode cX0_takeFrom 154 = .ok (.return_, 1) := by decide +kernel
def fX0_takeFrom_0 (s : SS) : Option (Unit × SS) := if acOK (0 : Int32) (0 : Int32) (3 : Int32) 3 3 then (if acOK (0 : Int32) (0 : Int32) (3 : Int32) 3 3 then (if acOK (0 : Int32) (0 : Int32) (24 : Int32) 24 24 then (if acOK (0 : Int32) (0 : Int32) (8 : Int32) 8 8 then (some ((), wrA (wrA (wrA (wrA (wrI (wrI (wrI (wrI (wrI (wrI (wrI (wrI (wrI (wrI (wrI (wrI s 0 0 (s.1 5 0)) 0 1 (s.1 5 1)) 0 2 (s.1 5 2)) 0 3 (s.1 5 3)) 0 4 (s.1 5 4)) 0 5 (s.1 5 5)) 0 6 (s.1 5 6)) 0 7 (s.1 5 7)) 0 8 (s.1 5 8)) 0 9 (s.1 5 9)) 0 10 (s.1 5 10)) 0 11 (s.1 5 11)) 1  (va_cpy (s.1 6) (s.1 1) (0 : Int32).toNatClampNeg (0 : Int32).toNatClampNeg (3 : Int32).toNatClampNeg)) 2  (va_cpy (s.1 7) (s.1 2) (0 : Int32).toNatClampNeg (0 : Int32).toNatClampNeg (3 : Int32).toNatClampNeg)) 3  (va_cpy (s.1 8) (s.1 3) (0 : Int32).toNatClampNeg (0 : Int32).toNatClampNeg (24 : Int32).toNatClampNeg)) 4  (va_cpy (s.1 9) (s.1 4) (0 : Int32).toNatClampNeg (0 : Int32).toNatClampNeg (8 : Int32).toNatClampNeg))) else none) else none) else none) else none
def fX0_takeFrom (s : SS) : Option (Unit × SS) := fX0_takeFrom_0 s
set_option maxRecDepth 100000 in
set_option maxHeartbeats 4000000 in
theorem okX0_takeFrom_0 {G : GG} {pl : Nat → Nat} {h0 : PH} (s : SS) : EvF G 1 mX0_takeFrom lyCC pl h0 rvU (fX0_takeFrom_0 s) 0 [(0, .ref (pl 0)), (1, .ref (pl 5))] [] s := by
  unfold fX0_takeFrom_0
  refine ef_aload_n (q := 1) 0 dX0_takeFrom_0 rfl rfl rfl ?_
  refine ef_aload_n (q := 2) 1 dX0_takeFrom_1 rfl rfl rfl ?_
  refine ef_getI (x := s.1 5 0) (q := 5) rfl fl0_9 rfl rfl dX0_takeFrom_2 rfl ?_
  refine ef_putI (q := 8) rfl fl0_9 rfl rfl dX0_takeFrom_5 rfl ?_
  refine ef_aload_n (q := 9) 0 dX0_takeFrom_8 rfl rfl rfl ?_
  refine ef_aload_n (q := 10) 1 dX0_takeFrom_9 rfl rfl rfl ?_
  refine ef_getI (x := s.1 5 1) (q := 13) rfl fl0_15 rfl rfl dX0_takeFrom_10 rfl ?_
  refine ef_putI (q := 16) rfl fl0_15 rfl rfl dX0_takeFrom_13 rfl ?_
  refine ef_aload_n (q := 17) 0 dX0_takeFrom_16 rfl rfl rfl ?_
  refine ef_aload_n (q := 18) 1 dX0_takeFrom_17 rfl rfl rfl ?_
  refine ef_getI (x := s.1 5 2) (q := 21) rfl fl0_18 rfl rfl dX0_takeFrom_18 rfl ?_
  refine ef_putI (q := 24) rfl fl0_18 rfl rfl dX0_takeFrom_21 rfl ?_
  refine ef_aload_n (q := 25) 0 dX0_takeFrom_24 rfl rfl rfl ?_
  refine ef_aload_n (q := 26) 1 dX0_takeFrom_25 rfl rfl rfl ?_
  refine ef_getI (x := s.1 5 3) (q := 29) rfl fl0_21 rfl rfl dX0_takeFrom_26 rfl ?_
  refine ef_putI (q := 32) rfl fl0_21 rfl rfl dX0_takeFrom_29 rfl ?_
  refine ef_aload_n (q := 33) 0 dX0_takeFrom_32 rfl rfl rfl ?_
  refine ef_aload_n (q := 34) 1 dX0_takeFrom_33 rfl rfl rfl ?_
  refine ef_getI (x := s.1 5 4) (q := 37) rfl fl0_24 rfl rfl dX0_takeFrom_34 rfl ?_
  refine ef_putI (q := 40) rfl fl0_24 rfl rfl dX0_takeFrom_37 rfl ?_
  refine ef_aload_n (q := 41) 0 dX0_takeFrom_40 rfl rfl rfl ?_
  refine ef_aload_n (q := 42) 1 dX0_takeFrom_41 rfl rfl rfl ?_
  refine ef_getI (x := s.1 5 5) (q := 45) rfl fl0_27 rfl rfl dX0_takeFrom_42 rfl ?_
  refine ef_putI (q := 48) rfl fl0_27 rfl rfl dX0_takeFrom_45 rfl ?_
  refine ef_aload_n (q := 49) 0 dX0_takeFrom_48 rfl rfl rfl ?_
  refine ef_aload_n (q := 50) 1 dX0_takeFrom_49 rfl rfl rfl ?_
  refine ef_getI (x := s.1 5 6) (q := 53) rfl fl0_30 rfl rfl dX0_takeFrom_50 rfl ?_
  refine ef_putI (q := 56) rfl fl0_30 rfl rfl dX0_takeFrom_53 rfl ?_
  refine ef_aload_n (q := 57) 0 dX0_takeFrom_56 rfl rfl rfl ?_
  refine ef_aload_n (q := 58) 1 dX0_takeFrom_57 rfl rfl rfl ?_
  refine ef_getI (x := s.1 5 7) (q := 61) rfl fl0_33 rfl rfl dX0_takeFrom_58 rfl ?_
  refine ef_putI (q := 64) rfl fl0_33 rfl rfl dX0_takeFrom_61 rfl ?_
  refine ef_aload_n (q := 65) 0 dX0_takeFrom_64 rfl rfl rfl ?_
  refine ef_aload_n (q := 66) 1 dX0_takeFrom_65 rfl rfl rfl ?_
  refine ef_getI (x := s.1 5 8) (q := 69) rfl fl0_36 rfl rfl dX0_takeFrom_66 rfl ?_
  refine ef_putI (q := 72) rfl fl0_36 rfl rfl dX0_takeFrom_69 rfl ?_
  refine ef_aload_n (q := 73) 0 dX0_takeFrom_72 rfl rfl rfl ?_
  refine ef_aload_n (q := 74) 1 dX0_takeFrom_73 rfl rfl rfl ?_
  refine ef_getI (x := s.1 5 9) (q := 77) rfl fl0_39 rfl rfl dX0_takeFrom_74 rfl ?_
  refine ef_putI (q := 80) rfl fl0_39 rfl rfl dX0_takeFrom_77 rfl ?_
  refine ef_aload_n (q := 81) 0 dX0_takeFrom_80 rfl rfl rfl ?_
  refine ef_aload_n (q := 82) 1 dX0_takeFrom_81 rfl rfl rfl ?_
  refine ef_getI (x := s.1 5 10) (q := 85) rfl fl0_42 rfl rfl dX0_takeFrom_82 rfl ?_
  refine ef_putI (q := 88) rfl fl0_42 rfl rfl dX0_takeFrom_85 rfl ?_
  refine ef_aload_n (q := 89) 0 dX0_takeFrom_88 rfl rfl rfl ?_
  refine ef_aload_n (q := 90) 1 dX0_takeFrom_89 rfl rfl rfl ?_
  refine ef_getI (x := s.1 5 11) (q := 93) rfl fl0_45 rfl rfl dX0_takeFrom_90 rfl ?_
  refine ef_putI (q := 96) rfl fl0_45 rfl rfl dX0_takeFrom_93 rfl ?_
  refine ef_aload_n (q := 97) 1 dX0_takeFrom_96 rfl rfl rfl ?_
  refine ef_getR (t := 6) (q := 100) rfl fl0_48 rfl rfl dX0_takeFrom_97 rfl ?_
  refine ef_iconst (v := (0 : Int32)) (q := 101) dX0_takeFrom_100 (by decide) rfl ?_
  refine ef_aload_n (q := 102) 0 dX0_takeFrom_101 rfl rfl rfl ?_
  refine ef_getR (t := 1) (q := 105) rfl fl0_48 rfl rfl dX0_takeFrom_102 rfl ?_
  refine ef_iconst (v := (0 : Int32)) (q := 106) dX0_takeFrom_105 (by decide) rfl ?_
  refine ef_iconst (v := (3 : Int32)) (q := 107) dX0_takeFrom_106 (by decide) rfl ?_
  refine ef_guard (fun g1 => ?_)
  refine ef_acopyI (k0 := 6) (k1 := 1) (q := 110) rfl rfl ml0_61 g1 (by decide) (Nat.le_of_ble_eq_true rfl) dX0_takeFrom_107 rfl rfl ?_
  refine ef_aload_n (q := 111) 1 dX0_takeFrom_110 rfl rfl rfl ?_
  refine ef_getR (t := 7) (q := 114) rfl fl0_52 rfl rfl dX0_takeFrom_111 rfl ?_
  refine ef_iconst (v := (0 : Int32)) (q := 115) dX0_takeFrom_114 (by decide) rfl ?_
  refine ef_aload_n (q := 116) 0 dX0_takeFrom_115 rfl rfl rfl ?_
  refine ef_getR (t := 2) (q := 119) rfl fl0_52 rfl rfl dX0_takeFrom_116 rfl ?_
  refine ef_iconst (v := (0 : Int32)) (q := 120) dX0_takeFrom_119 (by decide) rfl ?_
  refine ef_iconst (v := (3 : Int32)) (q := 121) dX0_takeFrom_120 (by decide) rfl ?_
  refine ef_guard (fun g2 => ?_)
  refine ef_acopyI (k0 := 7) (k1 := 2) (q := 124) rfl rfl ml0_61 g2 (by decide) (Nat.le_of_ble_eq_true rfl) dX0_takeFrom_121 rfl rfl ?_
  refine ef_aload_n (q := 125) 1 dX0_takeFrom_124 rfl rfl rfl ?_
  refine ef_getR (t := 8) (q := 128) rfl fl0_55 rfl rfl dX0_takeFrom_125 rfl ?_
  refine ef_iconst (v := (0 : Int32)) (q := 129) dX0_takeFrom_128 (by decide) rfl ?_
  refine ef_aload_n (q := 130) 0 dX0_takeFrom_129 rfl rfl rfl ?_
  refine ef_getR (t := 3) (q := 133) rfl fl0_55 rfl rfl dX0_takeFrom_130 rfl ?_
  refine ef_iconst (v := (0 : Int32)) (q := 134) dX0_takeFrom_133 (by decide) rfl ?_
  refine ef_bipush (v := (24 : Int32)) (q := 136) dX0_takeFrom_134 (by decide) rfl ?_
  refine ef_guard (fun g3 => ?_)
  refine ef_acopyI (k0 := 8) (k1 := 3) (q := 139) rfl rfl ml0_61 g3 (by decide) (Nat.le_of_ble_eq_true rfl) dX0_takeFrom_136 rfl rfl ?_
  refine ef_aload_n (q := 140) 1 dX0_takeFrom_139 rfl rfl rfl ?_
  refine ef_getR (t := 9) (q := 143) rfl fl0_58 rfl rfl dX0_takeFrom_140 rfl ?_
  refine ef_iconst (v := (0 : Int32)) (q := 144) dX0_takeFrom_143 (by decide) rfl ?_
  refine ef_aload_n (q := 145) 0 dX0_takeFrom_144 rfl rfl rfl ?_
  refine ef_getR (t := 4) (q := 148) rfl fl0_58 rfl rfl dX0_takeFrom_145 rfl ?_
  refine ef_iconst (v := (0 : Int32)) (q := 149) dX0_takeFrom_148 (by decide) rfl ?_
  refine ef_bipush (v := (8 : Int32)) (q := 151) dX0_takeFrom_149 (by decide) rfl ?_
  refine ef_guard (fun g4 => ?_)
  refine ef_acopyI (k0 := 9) (k1 := 4) (q := 154) rfl rfl ml0_61 g4 (by decide) (Nat.le_of_ble_eq_true rfl) dX0_takeFrom_151 rfl rfl ?_
  exact ef_vret rfl dX0_takeFrom_154
theorem okX0_takeFrom : MtF 1 mX0_takeFrom lyCC rvU (fun _ pl => [.ref (pl 0), .ref (pl 5)]) (fX0_takeFrom) := by
  refine MtF.of (by decide +kernel) rfl (fun _ pl => Nat.le_of_ble_eq_true rfl) (fun G pl h0 s => ?_)
  refine ef_sub (lv := [(0, .ref (pl 0)), (1, .ref (pl 5))]) (lv' := [(0, .ref (pl 0)), (1, .ref (pl 5))]) [0, 1] rfl ?_
  exact okX0_takeFrom_0  s
-- X0_scoopInOrder
theorem dX0_scoopInOrder_0 : decode cX0_scoopInOrder 0 = .ok (.iload_n 0, 1) := by decide +kernel
theorem dX0_scoopInOrder_1 : decode cX0_scoopInOrder 1 = .ok (.iconst 3, 1) := by decide +kernel
theorem dX0_scoopInOrder_2 : decode cX0_scoopInOrder 2 = .ok (.imul, 1) := by decide +kernel
theorem dX0_scoopInOrder_3 : decode cX0_scoopInOrder 3 = .ok (.iload_n 1, 1) := by decide +kernel
theorem dX0_scoopInOrder_4 : decode cX0_scoopInOrder 4 = .ok (.iadd, 1) := by decide +kernel
theorem dX0_scoopInOrder_5 : decode cX0_scoopInOrder 5 = .ok (.istore_n 2, 1) := by decide +kernel
theorem dX0_scoopInOrder_6 : decode cX0_scoopInOrder 6 = .ok (.iload_n 2, 1) := by decide +kernel
theorem dX0_scoopInOrder_7 : decode cX0_scoopInOrder 7 = .ok (.ifCond .lt 19, 3) := by decide +kernel
theorem dX0_scoopInOrder_10 : decode cX0_scoopInOrder 10 = .ok (.iload_n 2, 1) := by decide +kernel
theorem dX0_scoopInOrder_11 : decode cX0_scoopInOrder 11 = .ok (.getstatic 71, 3) := by decide +kernel
theorem dX0_scoopInOrder_14 : decode cX0_scoopInOrder 14 = .ok (.arraylength, 1) := by decide +kernel
theorem dX0_scoopInOrder_15 : decode cX0_scoopInOrder 15 = .ok (.if_icmp .ge 11, 3) := by decide +kernel
theorem dX0_scoopInOrder_18 : decode cX0_scoopInOrder 18 = .ok (.getstatic 71, 3) := by decide +kernel
theorem dX0_scoopInOrder_21 : decode cX0_scoopInOrder 21 = .ok (.iload_n 2, 1) := by decide +kernel
theorem dX0_scoopInOrder_22 : decode cX0_scoopInOrder 22 = .ok (.iaload, 1) := by decide +kernel
theorem dX0_scoopInOrder_23 : decode cX0_scoopInOrder 23 = .ok (.goto 4, 3) := by decide +kernel
theorem dX0_scoopInOrder_26 : decode cX0_scoopInOrder 26 = .ok (.iconst 0, 1) := by decide +kernel
theorem dX0_scoopInOrder_27 : decode cX0_scoopInOrder 27 = .ok (.ireturn, 1) := by decide +kernel
def fX0_scoopInOrder_0 (x0 : Int32) (x1 : Int32) (s : SS) : Option (Int32 × SS) := if ((x0 * (3 : Int32)) + x1) < 0 then (some ((0 : Int32), s)) else (if (18 : Int32) ≤ ((x0 * (3 : Int32)) + x1) then (some ((0 : Int32), s)) else (if ixB ((x0 * (3 : Int32)) + x1) 18 then (some (orderRows.getD ((x0 * (3 : Int32)) + x1).toNatClampNeg 0, s)) else none))
def fX0_scoopInOrder (x0 : Int32) (x1 : Int32) (s : SS) : Option (Int32 × SS) := fX0_scoopInOrder_0 x0 x1 s
set_option maxRecDepth 100000 in
set_option maxHeartbeats 4000000 in
theorem okX0_scoopInOrder_0 {G : GG} {pl : Nat → Nat} {h0 : PH} (x0 : Int32) (x1 : Int32) (s : SS) : EvF G 0 mX0_scoopInOrder ly pl h0 rvI (fX0_scoopInOrder_0 x0 x1 s) 0 [(0, .int x0), (1, .int x1)] [] s := by
  unfold fX0_scoopInOrder_0
  refine ef_iload_n (q := 1) 0 dX0_scoopInOrder_0 rfl rfl rfl ?_
  refine ef_iconst (v := (3 : Int32)) (q := 2) dX0_scoopInOrder_1 (by decide) rfl ?_
  refine ef_imul (q := 3) dX0_scoopInOrder_2 rfl ?_
  refine ef_iload_n (q := 4) 1 dX0_scoopInOrder_3 rfl rfl rfl ?_
  refine ef_iadd (q := 5) dX0_scoopInOrder_4 rfl ?_
  refine ef_istore_n (lv' := [(2, .int ((x0 * (3 : Int32)) + x1)), (0, .int x0), (1, .int x1)]) (q := 6) dX0_scoopInOrder_5 rfl (by decide) rfl rfl ?_
  refine ef_iload_n (q := 7) 0 dX0_scoopInOrder_6 rfl rfl rfl ?_
  refine ef_if (pt := 26) (pf := 10) (fun _ _ => ev_if_lt (tgt := 26) dX0_scoopInOrder_7 (by decide)) (fun h1 => ?_) (fun h1 => ?_)
  · refine ef_iconst (v := (0 : Int32)) (q := 27) dX0_scoopInOrder_26 (by decide) rfl ?_
    exact ef_iret rfl dX0_scoopInOrder_27
  · refine ef_iload_n (q := 11) 0 dX0_scoopInOrder_10 rfl rfl rfl ?_
    refine ef_getsO (q := 14) fo0_71 dX0_scoopInOrder_11 rfl ?_
    refine ef_oalen (v := (18 : Int32)) (q := 15) (by decide) dX0_scoopInOrder_14 rfl ?_
    refine ef_if (pt := 26) (pf := 18) (fun _ _ => ev_icmp_ge (tgt := 26) dX0_scoopInOrder_15 (by decide)) (fun h2 => ?_) (fun h2 => ?_)
    · refine ef_iconst (v := (0 : Int32)) (q := 27) dX0_scoopInOrder_26 (by decide) rfl ?_
      exact ef_iret rfl dX0_scoopInOrder_27
    · refine ef_getsO (q := 21) fo0_71 dX0_scoopInOrder_18 rfl ?_
      refine ef_iload_n (q := 22) 0 dX0_scoopInOrder_21 rfl rfl rfl ?_
      refine ef_guard (fun g3 => ?_)
      refine ef_oaload (x := orderRows.getD ((x0 * (3 : Int32)) + x1).toNatClampNeg 0) (q := 23) g3 dX0_scoopInOrder_22 rfl rfl ?_
      refine ef_goto (tgt := 27) dX0_scoopInOrder_23 (by decide) ?_
      exact ef_iret rfl dX0_scoopInOrder_27
theorem okX0_scoopInOrder (x0 : Int32) (x1 : Int32) : MtF 0 mX0_scoopInOrder ly rvI (fun _ pl => [.int x0, .int x1]) (fX0_scoopInOrder x0 x1) := by
  refine MtF.of (by decide +kernel) rfl (fun _ pl => Nat.le_of_ble_eq_true rfl) (fun G pl h0 s => ?_)
  refine ef_sub (lv := [(0, .int x0), (1, .int x1)]) (lv' := [(0, .int x0), (1, .int x1)]) [0, 1] rfl ?_
  exact okX0_scoopInOrder_0  x0 x1 s
-- X0_hasOrder
theorem dX0_hasOrder_0 : decode cX0_hasOrder 0 = .ok (.aload_n 0, 1) := by decide +kernel
theorem dX0_hasOrder_1 : decode cX0_hasOrder 1 = .ok (.getfield 45, 3) := by decide +kernel
theorem dX0_hasOrder_4 : decode cX0_hasOrder 4 = .ok (.istore_n 2, 1) := by decide +kernel
theorem dX0_hasOrder_5 : decode cX0_hasOrder 5 = .ok (.iload_n 2, 1) := by decide +kernel
theorem dX0_hasOrder_6 : decode cX0_hasOrder 6 = .ok (.iconst 3, 1) := by decide +kernel
theorem dX0_hasOrder_7 : decode cX0_hasOrder 7 = .ok (.if_icmp .ge 20, 3) := by decide +kernel
theorem dX0_hasOrder_10 : decode cX0_hasOrder 10 = .ok (.iload_n 1, 1) := by decide +kernel
theorem dX0_hasOrder_11 : decode cX0_hasOrder 11 = .ok (.iload_n 2, 1) := by decide +kernel
theorem dX0_hasOrder_12 : decode cX0_hasOrder 12 = .ok (.invokestatic 67, 3) := by decide +kernel
theorem dX0_hasOrder_15 : decode cX0_hasOrder 15 = .ok (.iload_n 2, 1) := by decide +kernel
theorem dX0_hasOrder_16 : decode cX0_hasOrder 16 = .ok (.if_icmp .eq 5, 3) := by decide +kernel
theorem dX0_hasOrder_19 : decode cX0_hasOrder 19 = .ok (.iconst 0, 1) := by decide +kernel
theorem dX0_hasOrder_20 : decode cX0_hasOrder 20 = .ok (.ireturn, 1) := by decide +kernel
theorem dX0_hasOrder_21 : decode cX0_hasOrder 21 = .ok (.iinc 2 1, 3) := by decide +kernel
theorem dX0_hasOrder_24 : decode cX0_hasOrder 24 = .ok (.goto (-19), 3) := by decide +kernel
theorem dX0_hasOrder_27 : decode cX0_hasOrder 27 = .ok (.iconst 1, 1) := by decide +kernel
theorem dX0_hasOrder_28 : decode cX0_hasOrder 28 = .ok (.ireturn, 1) := by decide +kernel
def fX0_hasOrder_5 : Nat → Int32 → Int32 → SS → Option (Int32 × SS)
  | 0, _, _, _ => none
  | n + 1, x1, x2, s => if (3 : Int32) ≤ x2 then (some ((1 : Int32), s)) else (((fX0_scoopInOrder x1 x2 s).bind fun z2 => if z2.1 = x2 then (fX0_hasOrder_5 n x1 (x2 + (1 : Int32)) s) else (some ((0 : Int32), s))))
def fX0_hasOrder_0 (x1 : Int32) (s : SS) : Option (Int32 × SS) := fX0_hasOrder_5 FU x1 (s.1 0 11) s
def fX0_hasOrder (x1 : Int32) (s : SS) : Option (Int32 × SS) := fX0_hasOrder_0 x1 s
set_option maxRecDepth 100000 in
set_option maxHeartbeats 4000000 in
theorem okX0_hasOrder_5 {G : GG} {pl : Nat → Nat} {h0 : PH} : ∀ (n : Nat) (x1 : Int32) (x2 : Int32) (s : SS), EvF G 1 mX0_hasOrder lyC pl h0 rvI (fX0_hasOrder_5 n x1 x2 s) 5 [(1, .int x1), (2, .int x2)] [] s := by
  intro n
  induction n with
  | zero => intro x1 x2 s; rw [fX0_hasOrder_5]; exact ef_none
  | succ n ih =>
    intro x1 x2 s
    rw [fX0_hasOrder_5]
    refine ef_iload_n (q := 6) 1 dX0_hasOrder_5 rfl rfl rfl ?_
    refine ef_iconst (v := (3 : Int32)) (q := 7) dX0_hasOrder_6 (by decide) rfl ?_
    refine ef_if (pt := 27) (pf := 10) (fun _ _ => ev_icmp_ge (tgt := 27) dX0_hasOrder_7 (by decide)) (fun h1 => ?_) (fun h1 => ?_)
    · refine ef_iconst (v := (1 : Int32)) (q := 28) dX0_hasOrder_27 (by decide) rfl ?_
      exact ef_zretc (x := (1 : Int32)) (by decide) rfl dX0_hasOrder_28
    · refine ef_iload_n (q := 11) 0 dX0_hasOrder_10 rfl rfl rfl ?_
      refine ef_iload_n (q := 12) 1 dX0_hasOrder_11 rfl rfl rfl ?_
      refine ef_invPI0 (As := [.int x1, .int x2]) (rest := []) (q := 15) (okX0_scoopInOrder x1 x2) rfl calX0_scoopInOrder ml0_67 (by decide) rfl rfl (Nat.le_of_ble_eq_true rfl) dX0_hasOrder_12 rfl (fun z2 => ?_)
      refine ef_iload_n (q := 16) 1 dX0_hasOrder_15 rfl rfl rfl ?_
      refine ef_if (pt := 21) (pf := 19) (fun _ _ => ev_icmp_eq (tgt := 21) dX0_hasOrder_16 (by decide)) (fun h3 => ?_) (fun h3 => ?_)
      · refine ef_iinc (v := x2 + (1 : Int32)) (lv' := [(2, .int (x2 + (1 : Int32))), (1, .int x1)]) (q := 24) 1 dX0_hasOrder_21 rfl rfl (by decide) rfl rfl ?_
        refine ef_goto (tgt := 5) dX0_hasOrder_24 (by decide) ?_
        refine ef_sub (lv' := [(1, .int x1), (2, .int (x2 + (1 : Int32)))]) [1, 0] rfl ?_
        exact ih x1 (x2 + (1 : Int32)) s
      · refine ef_iconst (v := (0 : Int32)) (q := 20) dX0_hasOrder_19 (by decide) rfl ?_
        exact ef_zretc (x := (0 : Int32)) (by decide) rfl dX0_hasOrder_20
set_option maxRecDepth 100000 in
set_option maxHeartbeats 4000000 in
theorem okX0_hasOrder_0 {G : GG} {pl : Nat → Nat} {h0 : PH} (x1 : Int32) (s : SS) : EvF G 1 mX0_hasOrder lyC pl h0 rvI (fX0_hasOrder_0 x1 s) 0 [(0, .ref (pl 0)), (1, .int x1)] [] s := by
  unfold fX0_hasOrder_0
  refine ef_aload_n (q := 1) 0 dX0_hasOrder_0 rfl rfl rfl ?_
  refine ef_getI (x := s.1 0 11) (q := 4) rfl fl0_45 rfl rfl dX0_hasOrder_1 rfl ?_
  refine ef_istore_n (lv' := [(2, .int (s.1 0 11)), (0, .ref (pl 0)), (1, .int x1)]) (q := 5) dX0_hasOrder_4 rfl (by decide) rfl rfl ?_
  refine ef_sub (lv' := [(1, .int x1), (2, .int (s.1 0 11))]) [2, 0] rfl ?_
  exact okX0_hasOrder_5 FU x1 (s.1 0 11) s
theorem okX0_hasOrder (x1 : Int32) : MtF 1 mX0_hasOrder lyC rvI (fun _ pl => [.ref (pl 0), .int x1]) (fX0_hasOrder x1) := by
  refine MtF.of (by decide +kernel) rfl (fun _ pl => Nat.le_of_ble_eq_true rfl) (fun G pl h0 s => ?_)
  refine ef_sub (lv := [(0, .ref (pl 0)), (1, .int x1)]) (lv' := [(0, .ref (pl 0)), (1, .int x1)]) [0, 1] rfl ?_
  exact okX0_hasOrder_0  x1 s
-- X0_takeInOrder
theorem dX0_takeInOrder_0 : decode cX0_takeInOrder 0 = .ok (.aload_n 0, 1) := by decide +kernel
theorem dX0_takeInOrder_1 : decode cX0_takeInOrder 1 = .ok (.aload_n 1, 1) := by decide +kernel
theorem dX0_takeInOrder_2 : decode cX0_takeInOrder 2 = .ok (.invokevirtual 74, 3) := by decide +kernel
theorem dX0_takeInOrder_5 : decode cX0_takeInOrder 5 = .ok (.iconst 0, 1) := by decide +kernel
theorem dX0_takeInOrder_6 : decode cX0_takeInOrder 6 = .ok (.istore_n 3, 1) := by decide +kernel
theorem dX0_takeInOrder_7 : decode cX0_takeInOrder 7 = .ok (.iload_n 3, 1) := by decide +kernel
theorem dX0_takeInOrder_8 : decode cX0_takeInOrder 8 = .ok (.aload_n 0, 1) := by decide +kernel
theorem dX0_takeInOrder_9 : decode cX0_takeInOrder 9 = .ok (.getfield 45, 3) := by decide +kernel
theorem dX0_takeInOrder_12 : decode cX0_takeInOrder 12 = .ok (.if_icmp .ge 64, 3) := by decide +kernel
theorem dX0_takeInOrder_15 : decode cX0_takeInOrder 15 = .ok (.iload_n 2, 1) := by decide +kernel
theorem dX0_takeInOrder_16 : decode cX0_takeInOrder 16 = .ok (.iload_n 3, 1) := by decide +kernel
theorem dX0_takeInOrder_17 : decode cX0_takeInOrder 17 = .ok (.invokestatic 67, 3) := by decide +kernel
theorem dX0_takeInOrder_20 : decode cX0_takeInOrder 20 = .ok (.istore 4, 2) := by decide +kernel
theorem dX0_takeInOrder_22 : decode cX0_takeInOrder 22 = .ok (.aload_n 0, 1) := by decide +kernel
theorem dX0_takeInOrder_23 : decode cX0_takeInOrder 23 = .ok (.getfield 48, 3) := by decide +kernel
theorem dX0_takeInOrder_26 : decode cX0_takeInOrder 26 = .ok (.iload_n 3, 1) := by decide +kernel
theorem dX0_takeInOrder_27 : decode cX0_takeInOrder 27 = .ok (.aload_n 1, 1) := by decide +kernel
theorem dX0_takeInOrder_28 : decode cX0_takeInOrder 28 = .ok (.getfield 48, 3) := by decide +kernel
theorem dX0_takeInOrder_31 : decode cX0_takeInOrder 31 = .ok (.iload 4, 2) := by decide +kernel
theorem dX0_takeInOrder_33 : decode cX0_takeInOrder 33 = .ok (.iaload, 1) := by decide +kernel
theorem dX0_takeInOrder_34 : decode cX0_takeInOrder 34 = .ok (.iastore, 1) := by decide +kernel
theorem dX0_takeInOrder_35 : decode cX0_takeInOrder 35 = .ok (.aload_n 0, 1) := by decide +kernel
theorem dX0_takeInOrder_36 : decode cX0_takeInOrder 36 = .ok (.getfield 52, 3) := by decide +kernel
theorem dX0_takeInOrder_39 : decode cX0_takeInOrder 39 = .ok (.iload_n 3, 1) := by decide +kernel
theorem dX0_takeInOrder_40 : decode cX0_takeInOrder 40 = .ok (.aload_n 1, 1) := by decide +kernel
theorem dX0_takeInOrder_41 : decode cX0_takeInOrder 41 = .ok (.getfield 52, 3) := by decide +kernel
theorem dX0_takeInOrder_44 : decode cX0_takeInOrder 44 = .ok (.iload 4, 2) := by decide +kernel
theorem dX0_takeInOrder_46 : decode cX0_takeInOrder 46 = .ok (.iaload, 1) := by decide +kernel
theorem dX0_takeInOrder_47 : decode cX0_takeInOrder 47 = .ok (.iastore, 1) := by decide +kernel
theorem dX0_takeInOrder_48 : decode cX0_takeInOrder 48 = .ok (.aload_n 1, 1) := by decide +kernel
theorem dX0_takeInOrder_49 : decode cX0_takeInOrder 49 = .ok (.getfield 55, 3) := by decide +kernel
theorem dX0_takeInOrder_52 : decode cX0_takeInOrder 52 = .ok (.iload 4, 2) := by decide +kernel
theorem dX0_takeInOrder_54 : decode cX0_takeInOrder 54 = .ok (.bipush 8, 2) := by decide +kernel
theorem dX0_takeInOrder_56 : decode cX0_takeInOrder 56 = .ok (.imul, 1) := by decide +kernel
theorem dX0_takeInOrder_57 : decode cX0_takeInOrder 57 = .ok (.aload_n 0, 1) := by decide +kernel
theorem dX0_takeInOrder_58 : decode cX0_takeInOrder 58 = .ok (.getfield 55, 3) := by decide +kernel
theorem dX0_takeInOrder_61 : decode cX0_takeInOrder 61 = .ok (.iload_n 3, 1) := by decide +kernel
theorem dX0_takeInOrder_62 : decode cX0_takeInOrder 62 = .ok (.bipush 8, 2) := by decide +kernel
theorem dX0_takeInOrder_64 : decode cX0_takeInOrder 64 = .ok (.imul, 1) := by decide +kernel
theorem dX0_takeInOrder_65 : decode cX0_takeInOrder 65 = .ok (.bipush 8, 2) := by decide +kernel
theorem dX0_takeInOrder_67 : decode cX0_takeInOrder 67 = .ok (.invokestatic 61, 3) := by decide +kernel
theorem dX0_takeInOrder_70 : decode cX0_takeInOrder 70 = .ok (.iinc 3 1, 3) := by decide +kernel
theorem dX0_takeInOrder_73 : decode cX0_takeInOrder 73 = .ok (.goto (-66), 3) := by decide +kernel
theorem dX0_takeInOrder_76 : decode cX0_takeInOrder 76 = .ok (.return_, 1) := by decide +kernel
def fX0_takeInOrder_7 : Nat → Int32 → Int32 → SS → Option (Unit × SS)
  | 0, _, _, _ => none
  | n + 1, x2, x3, s => if (s.1 0 11) ≤ x3 then (some ((), s)) else (((fX0_scoopInOrder x2 x3 s).bind fun z2 => if ixB z2.1 3 then (if ixB x3 3 then (if ixB z2.1 3 then (if ixB x3 3 then (if acOK (z2.1 * (8 : Int32)) (x3 * (8 : Int32)) (8 : Int32) 24 24 then (fX0_takeInOrder_7 n x2 (x3 + (1 : Int32)) (wrA (wrI (wrI s 1 x3.toNatClampNeg (s.1 6 z2.1.toNatClampNeg)) 2 x3.toNatClampNeg (s.1 7 z2.1.toNatClampNeg)) 3  (va_cpy (s.1 8) (s.1 3) (z2.1 * (8 : Int32)).toNatClampNeg (x3 * (8 : Int32)).toNatClampNeg (8 : Int32).toNatClampNeg))) else none) else none) else none) else none) else none))
def fX0_takeInOrder_0 (x2 : Int32) (s : SS) : Option (Unit × SS) := ((fX0_takeFrom s).bind fun z1 => fX0_takeInOrder_7 FU x2 (0 : Int32) z1.2)
def fX0_takeInOrder (x2 : Int32) (s : SS) : Option (Unit × SS) := fX0_takeInOrder_0 x2 s
set_option maxRecDepth 100000 in
set_option maxHeartbeats 4000000 in
theorem okX0_takeInOrder_7 {G : GG} {pl : Nat → Nat} {h0 : PH} : ∀ (n : Nat) (x2 : Int32) (x3 : Int32) (s : SS), EvF G 2 mX0_takeInOrder lyCC pl h0 rvU (fX0_takeInOrder_7 n x2 x3 s) 7 [(0, .ref (pl 0)), (1, .ref (pl 5)), (2, .int x2), (3, .int x3)] [] s := by
  intro n
  induction n with
  | zero => intro x2 x3 s; rw [fX0_takeInOrder_7]; exact ef_none
  | succ n ih =>
    intro x2 x3 s
    rw [fX0_takeInOrder_7]
    refine ef_iload_n (q := 8) 3 dX0_takeInOrder_7 rfl rfl rfl ?_
    refine ef_aload_n (q := 9) 0 dX0_takeInOrder_8 rfl rfl rfl ?_
    refine ef_getI (x := s.1 0 11) (q := 12) rfl fl0_45 rfl rfl dX0_takeInOrder_9 rfl ?_
    refine ef_if (pt := 76) (pf := 15) (fun _ _ => ev_icmp_ge (tgt := 76) dX0_takeInOrder_12 (by decide)) (fun h1 => ?_) (fun h1 => ?_)
    · exact ef_vret rfl dX0_takeInOrder_76
    · refine ef_iload_n (q := 16) 2 dX0_takeInOrder_15 rfl rfl rfl ?_
      refine ef_iload_n (q := 17) 3 dX0_takeInOrder_16 rfl rfl rfl ?_
      refine ef_invPI0 (As := [.int x2, .int x3]) (rest := []) (q := 20) (okX0_scoopInOrder x2 x3) rfl calX0_scoopInOrder ml0_67 (by decide) rfl rfl (Nat.le_of_ble_eq_true rfl) dX0_takeInOrder_17 rfl (fun z2 => ?_)
      refine ef_istore (lv' := [(4, .int z2.1), (0, .ref (pl 0)), (1, .ref (pl 5)), (2, .int x2), (3, .int x3)]) (q := 22) dX0_takeInOrder_20 (by decide) rfl rfl ?_
      refine ef_aload_n (q := 23) 1 dX0_takeInOrder_22 rfl rfl rfl ?_
      refine ef_getR (t := 1) (q := 26) rfl fl0_48 rfl rfl dX0_takeInOrder_23 rfl ?_
      refine ef_iload_n (q := 27) 4 dX0_takeInOrder_26 rfl rfl rfl ?_
      refine ef_aload_n (q := 28) 2 dX0_takeInOrder_27 rfl rfl rfl ?_
      refine ef_getR (t := 6) (q := 31) rfl fl0_48 rfl rfl dX0_takeInOrder_28 rfl ?_
      refine ef_iload (q := 33) 0 dX0_takeInOrder_31 rfl rfl ?_
      refine ef_guard (fun g3 => ?_)
      refine ef_iaload (x := s.1 6 z2.1.toNatClampNeg) (q := 34) rfl g3 dX0_takeInOrder_33 rfl rfl ?_
      refine ef_guard (fun g4 => ?_)
      refine ef_iastore (j := x3.toNatClampNeg) (q := 35) rfl g4 dX0_takeInOrder_34 rfl rfl ?_
      refine ef_aload_n (q := 36) 1 dX0_takeInOrder_35 rfl rfl rfl ?_
      refine ef_getR (t := 2) (q := 39) rfl fl0_52 rfl rfl dX0_takeInOrder_36 rfl ?_
      refine ef_iload_n (q := 40) 4 dX0_takeInOrder_39 rfl rfl rfl ?_
      refine ef_aload_n (q := 41) 2 dX0_takeInOrder_40 rfl rfl rfl ?_
      refine ef_getR (t := 7) (q := 44) rfl fl0_52 rfl rfl dX0_takeInOrder_41 rfl ?_
      refine ef_iload (q := 46) 0 dX0_takeInOrder_44 rfl rfl ?_
      refine ef_guard (fun g5 => ?_)
      refine ef_iaload (x := s.1 7 z2.1.toNatClampNeg) (q := 47) rfl g5 dX0_takeInOrder_46 rfl rfl ?_
      refine ef_guard (fun g6 => ?_)
      refine ef_iastore (j := x3.toNatClampNeg) (q := 48) rfl g6 dX0_takeInOrder_47 rfl rfl ?_
      refine ef_aload_n (q := 49) 2 dX0_takeInOrder_48 rfl rfl rfl ?_
      refine ef_getR (t := 8) (q := 52) rfl fl0_55 rfl rfl dX0_takeInOrder_49 rfl ?_
      refine ef_iload (q := 54) 0 dX0_takeInOrder_52 rfl rfl ?_
      refine ef_bipush (v := (8 : Int32)) (q := 56) dX0_takeInOrder_54 (by decide) rfl ?_
      refine ef_imul (q := 57) dX0_takeInOrder_56 rfl ?_
      refine ef_aload_n (q := 58) 1 dX0_takeInOrder_57 rfl rfl rfl ?_
      refine ef_getR (t := 3) (q := 61) rfl fl0_55 rfl rfl dX0_takeInOrder_58 rfl ?_
      refine ef_iload_n (q := 62) 4 dX0_takeInOrder_61 rfl rfl rfl ?_
      refine ef_bipush (v := (8 : Int32)) (q := 64) dX0_takeInOrder_62 (by decide) rfl ?_
      refine ef_imul (q := 65) dX0_takeInOrder_64 rfl ?_
      refine ef_bipush (v := (8 : Int32)) (q := 67) dX0_takeInOrder_65 (by decide) rfl ?_
      refine ef_guard (fun g7 => ?_)
      refine ef_acopyI (k0 := 8) (k1 := 3) (q := 70) rfl rfl ml0_61 g7 (by decide) (Nat.le_of_ble_eq_true rfl) dX0_takeInOrder_67 rfl rfl ?_
      refine ef_iinc (v := x3 + (1 : Int32)) (lv' := [(3, .int (x3 + (1 : Int32))), (4, .int z2.1), (0, .ref (pl 0)), (1, .ref (pl 5)), (2, .int x2)]) (q := 73) 4 dX0_takeInOrder_70 rfl rfl (by decide) rfl rfl ?_
      refine ef_goto (tgt := 7) dX0_takeInOrder_73 (by decide) ?_
      refine ef_sub (lv' := [(0, .ref (pl 0)), (1, .ref (pl 5)), (2, .int x2), (3, .int (x3 + (1 : Int32)))]) [2, 3, 4, 0] rfl ?_
      exact ih x2 (x3 + (1 : Int32)) (wrA (wrI (wrI s 1 x3.toNatClampNeg (s.1 6 z2.1.toNatClampNeg)) 2 x3.toNatClampNeg (s.1 7 z2.1.toNatClampNeg)) 3  (va_cpy (s.1 8) (s.1 3) (z2.1 * (8 : Int32)).toNatClampNeg (x3 * (8 : Int32)).toNatClampNeg (8 : Int32).toNatClampNeg))
set_option maxRecDepth 100000 in
set_option maxHeartbeats 4000000 in
theorem okX0_takeInOrder_0 {G : GG} {pl : Nat → Nat} {h0 : PH} (x2 : Int32) (s : SS) : EvF G 2 mX0_takeInOrder lyCC pl h0 rvU (fX0_takeInOrder_0 x2 s) 0 [(0, .ref (pl 0)), (1, .ref (pl 5)), (2, .int x2)] [] s := by
  unfold fX0_takeInOrder_0
  refine ef_aload_n (q := 1) 0 dX0_takeInOrder_0 rfl rfl rfl ?_
  refine ef_aload_n (q := 2) 1 dX0_takeInOrder_1 rfl rfl rfl ?_
  refine ef_invVU0 (k := 0) (As := [.ref (pl 5)]) (rest := []) (q := 5) (okX0_takeFrom) rfl calX0_takeFrom ml0_74 (by decide) rfl rfl rfl (Nat.le_of_ble_eq_true rfl) dX0_takeInOrder_2 rfl (fun z1 => ?_)
  refine ef_iconst (v := (0 : Int32)) (q := 6) dX0_takeInOrder_5 (by decide) rfl ?_
  refine ef_istore_n (lv' := [(3, .int (0 : Int32)), (0, .ref (pl 0)), (1, .ref (pl 5)), (2, .int x2)]) (q := 7) dX0_takeInOrder_6 rfl (by decide) rfl rfl ?_
  refine ef_sub (lv' := [(0, .ref (pl 0)), (1, .ref (pl 5)), (2, .int x2), (3, .int (0 : Int32))]) [1, 2, 3, 0] rfl ?_
  exact okX0_takeInOrder_7 FU x2 (0 : Int32) z1.2
theorem okX0_takeInOrder (x2 : Int32) : MtF 2 mX0_takeInOrder lyCC rvU (fun _ pl => [.ref (pl 0), .ref (pl 5), .int x2]) (fX0_takeInOrder x2) := by
  refine MtF.of (by decide +kernel) rfl (fun _ pl => Nat.le_of_ble_eq_true rfl) (fun G pl h0 s => ?_)
  refine ef_sub (lv := [(0, .ref (pl 0)), (1, .ref (pl 5)), (2, .int x2)]) (lv' := [(0, .ref (pl 0)), (1, .ref (pl 5)), (2, .int x2)]) [0, 1, 2] rfl ?_
  exact okX0_takeInOrder_0  x2 s
-- X0_wetAt
theorem dX0_wetAt_0 : decode cX0_wetAt 0 = .ok (.aload_n 0, 1) := by decide +kernel
theorem dX0_wetAt_1 : decode cX0_wetAt 1 = .ok (.getfield 55, 3) := by decide +kernel
theorem dX0_wetAt_4 : decode cX0_wetAt 4 = .ok (.iload_n 1, 1) := by decide +kernel
theorem dX0_wetAt_5 : decode cX0_wetAt 5 = .ok (.bipush 8, 2) := by decide +kernel
theorem dX0_wetAt_7 : decode cX0_wetAt 7 = .ok (.imul, 1) := by decide +kernel
theorem dX0_wetAt_8 : decode cX0_wetAt 8 = .ok (.iload_n 2, 1) := by decide +kernel
theorem dX0_wetAt_9 : decode cX0_wetAt 9 = .ok (.iadd, 1) := by decide +kernel
theorem dX0_wetAt_10 : decode cX0_wetAt 10 = .ok (.iaload, 1) := by decide +kernel
theorem dX0_wetAt_11 : decode cX0_wetAt 11 = .ok (.ireturn, 1) := by decide +kernel
def fX0_wetAt_0 (x1 : Int32) (x2 : Int32) (s : SS) : Option (Int32 × SS) := if ixB ((x1 * (8 : Int32)) + x2) 24 then (some (s.1 3 (((x1 * (8 : Int32)) + x2).toNatClampNeg), s)) else none
def fX0_wetAt (x1 : Int32) (x2 : Int32) (s : SS) : Option (Int32 × SS) := fX0_wetAt_0 x1 x2 s
set_option maxRecDepth 100000 in
set_option maxHeartbeats 4000000 in
theorem okX0_wetAt_0 {G : GG} {pl : Nat → Nat} {h0 : PH} (x1 : Int32) (x2 : Int32) (s : SS) : EvF G 0 mX0_wetAt lyC pl h0 rvI (fX0_wetAt_0 x1 x2 s) 0 [(0, .ref (pl 0)), (1, .int x1), (2, .int x2)] [] s := by
  unfold fX0_wetAt_0
  refine ef_aload_n (q := 1) 0 dX0_wetAt_0 rfl rfl rfl ?_
  refine ef_getR (t := 3) (q := 4) rfl fl0_55 rfl rfl dX0_wetAt_1 rfl ?_
  refine ef_iload_n (q := 5) 1 dX0_wetAt_4 rfl rfl rfl ?_
  refine ef_bipush (v := (8 : Int32)) (q := 7) dX0_wetAt_5 (by decide) rfl ?_
  refine ef_imul (q := 8) dX0_wetAt_7 rfl ?_
  refine ef_iload_n (q := 9) 2 dX0_wetAt_8 rfl rfl rfl ?_
  refine ef_iadd (q := 10) dX0_wetAt_9 rfl ?_
  refine ef_guard (fun g1 => ?_)
  refine ef_iaload (x := s.1 3 (((x1 * (8 : Int32)) + x2).toNatClampNeg)) (q := 11) rfl g1 dX0_wetAt_10 rfl rfl ?_
  exact ef_iret rfl dX0_wetAt_11
theorem okX0_wetAt (x1 : Int32) (x2 : Int32) : MtF 0 mX0_wetAt lyC rvI (fun _ pl => [.ref (pl 0), .int x1, .int x2]) (fX0_wetAt x1 x2) := by
  refine MtF.of (by decide +kernel) rfl (fun _ pl => Nat.le_of_ble_eq_true rfl) (fun G pl h0 s => ?_)
  refine ef_sub (lv := [(0, .ref (pl 0)), (1, .int x1), (2, .int x2)]) (lv' := [(0, .ref (pl 0)), (1, .int x1), (2, .int x2)]) [0, 1, 2] rfl ?_
  exact okX0_wetAt_0  x1 x2 s
-- X0_changePlaces
theorem dX0_changePlaces_0 : decode cX0_changePlaces 0 = .ok (.aload_n 0, 1) := by decide +kernel
theorem dX0_changePlaces_1 : decode cX0_changePlaces 1 = .ok (.getfield 48, 3) := by decide +kernel
theorem dX0_changePlaces_4 : decode cX0_changePlaces 4 = .ok (.iload_n 1, 1) := by decide +kernel
theorem dX0_changePlaces_5 : decode cX0_changePlaces 5 = .ok (.iaload, 1) := by decide +kernel
theorem dX0_changePlaces_6 : decode cX0_changePlaces 6 = .ok (.istore_n 3, 1) := by decide +kernel
theorem dX0_changePlaces_7 : decode cX0_changePlaces 7 = .ok (.aload_n 0, 1) := by decide +kernel
theorem dX0_changePlaces_8 : decode cX0_changePlaces 8 = .ok (.getfield 48, 3) := by decide +kernel
theorem dX0_changePlaces_11 : decode cX0_changePlaces 11 = .ok (.iload_n 1, 1) := by decide +kernel
theorem dX0_changePlaces_12 : decode cX0_changePlaces 12 = .ok (.aload_n 0, 1) := by decide +kernel
theorem dX0_changePlaces_13 : decode cX0_changePlaces 13 = .ok (.getfield 48, 3) := by decide +kernel
theorem dX0_changePlaces_16 : decode cX0_changePlaces 16 = .ok (.iload_n 2, 1) := by decide +kernel
theorem dX0_changePlaces_17 : decode cX0_changePlaces 17 = .ok (.iaload, 1) := by decide +kernel
theorem dX0_changePlaces_18 : decode cX0_changePlaces 18 = .ok (.iastore, 1) := by decide +kernel
theorem dX0_changePlaces_19 : decode cX0_changePlaces 19 = .ok (.aload_n 0, 1) := by decide +kernel
theorem dX0_changePlaces_20 : decode cX0_changePlaces 20 = .ok (.getfield 48, 3) := by decide +kernel
theorem dX0_changePlaces_23 : decode cX0_changePlaces 23 = .ok (.iload_n 2, 1) := by decide +kernel
theorem dX0_changePlaces_24 : decode cX0_changePlaces 24 = .ok (.iload_n 3, 1) := by decide +kernel
theorem dX0_changePlaces_25 : decode cX0_changePlaces 25 = .ok (.iastore, 1) := by decide +kernel
theorem dX0_changePlaces_26 : decode cX0_changePlaces 26 = .ok (.aload_n 0, 1) := by decide +kernel
theorem dX0_changePlaces_27 : decode cX0_changePlaces 27 = .ok (.getfield 52, 3) := by decide +kernel
theorem dX0_changePlaces_30 : decode cX0_changePlaces 30 = .ok (.iload_n 1, 1) := by decide +kernel
theorem dX0_changePlaces_31 : decode cX0_changePlaces 31 = .ok (.iaload, 1) := by decide +kernel
theorem dX0_changePlaces_32 : decode cX0_changePlaces 32 = .ok (.istore 4, 2) := by decide +kernel
theorem dX0_changePlaces_34 : decode cX0_changePlaces 34 = .ok (.aload_n 0, 1) := by decide +kernel
theorem dX0_changePlaces_35 : decode cX0_changePlaces 35 = .ok (.getfield 52, 3) := by decide +kernel
theorem dX0_changePlaces_38 : decode cX0_changePlaces 38 = .ok (.iload_n 1, 1) := by decide +kernel
theorem dX0_changePlaces_39 : decode cX0_changePlaces 39 = .ok (.aload_n 0, 1) := by decide +kernel
theorem dX0_changePlaces_40 : decode cX0_changePlaces 40 = .ok (.getfield 52, 3) := by decide +kernel
theorem dX0_changePlaces_43 : decode cX0_changePlaces 43 = .ok (.iload_n 2, 1) := by decide +kernel
theorem dX0_changePlaces_44 : decode cX0_changePlaces 44 = .ok (.iaload, 1) := by decide +kernel
theorem dX0_changePlaces_45 : decode cX0_changePlaces 45 = .ok (.iastore, 1) := by decide +kernel
theorem dX0_changePlaces_46 : decode cX0_changePlaces 46 = .ok (.aload_n 0, 1) := by decide +kernel
theorem dX0_changePlaces_47 : decode cX0_changePlaces 47 = .ok (.getfield 52, 3) := by decide +kernel
theorem dX0_changePlaces_50 : decode cX0_changePlaces 50 = .ok (.iload_n 2, 1) := by decide +kernel
theorem dX0_changePlaces_51 : decode cX0_changePlaces 51 = .ok (.iload 4, 2) := by decide +kernel
theorem dX0_changePlaces_53 : decode cX0_changePlaces 53 = .ok (.iastore, 1) := by decide +kernel
theorem dX0_changePlaces_54 : decode cX0_changePlaces 54 = .ok (.iconst 0, 1) := by decide +kernel
theorem dX0_changePlaces_55 : decode cX0_changePlaces 55 = .ok (.istore 5, 2) := by decide +kernel
theorem dX0_changePlaces_57 : decode cX0_changePlaces 57 = .ok (.iload 5, 2) := by decide +kernel
theorem dX0_changePlaces_59 : decode cX0_changePlaces 59 = .ok (.bipush 8, 2) := by decide +kernel
theorem dX0_changePlaces_61 : decode cX0_changePlaces 61 = .ok (.if_icmp .ge 51, 3) := by decide +kernel
theorem dX0_changePlaces_64 : decode cX0_changePlaces 64 = .ok (.aload_n 0, 1) := by decide +kernel
theorem dX0_changePlaces_65 : decode cX0_changePlaces 65 = .ok (.iload_n 1, 1) := by decide +kernel
theorem dX0_changePlaces_66 : decode cX0_changePlaces 66 = .ok (.iload 5, 2) := by decide +kernel
theorem dX0_changePlaces_68 : decode cX0_changePlaces 68 = .ok (.invokevirtual 78, 3) := by decide +kernel
theorem dX0_changePlaces_71 : decode cX0_changePlaces 71 = .ok (.istore 6, 2) := by decide +kernel
theorem dX0_changePlaces_73 : decode cX0_changePlaces 73 = .ok (.aload_n 0, 1) := by decide +kernel
theorem dX0_changePlaces_74 : decode cX0_changePlaces 74 = .ok (.getfield 55, 3) := by decide +kernel
theorem dX0_changePlaces_77 : decode cX0_changePlaces 77 = .ok (.iload_n 1, 1) := by decide +kernel
theorem dX0_changePlaces_78 : decode cX0_changePlaces 78 = .ok (.bipush 8, 2) := by decide +kernel
theorem dX0_changePlaces_80 : decode cX0_changePlaces 80 = .ok (.imul, 1) := by decide +kernel
theorem dX0_changePlaces_81 : decode cX0_changePlaces 81 = .ok (.iload 5, 2) := by decide +kernel
theorem dX0_changePlaces_83 : decode cX0_changePlaces 83 = .ok (.iadd, 1) := by decide +kernel
theorem dX0_changePlaces_84 : decode cX0_changePlaces 84 = .ok (.aload_n 0, 1) := by decide +kernel
theorem dX0_changePlaces_85 : decode cX0_changePlaces 85 = .ok (.iload_n 2, 1) := by decide +kernel
theorem dX0_changePlaces_86 : decode cX0_changePlaces 86 = .ok (.iload 5, 2) := by decide +kernel
theorem dX0_changePlaces_88 : decode cX0_changePlaces 88 = .ok (.invokevirtual 78, 3) := by decide +kernel
theorem dX0_changePlaces_91 : decode cX0_changePlaces 91 = .ok (.iastore, 1) := by decide +kernel
theorem dX0_changePlaces_92 : decode cX0_changePlaces 92 = .ok (.aload_n 0, 1) := by decide +kernel
theorem dX0_changePlaces_93 : decode cX0_changePlaces 93 = .ok (.getfield 55, 3) := by decide +kernel
theorem dX0_changePlaces_96 : decode cX0_changePlaces 96 = .ok (.iload_n 2, 1) := by decide +kernel
theorem dX0_changePlaces_97 : decode cX0_changePlaces 97 = .ok (.bipush 8, 2) := by decide +kernel
theorem dX0_changePlaces_99 : decode cX0_changePlaces 99 = .ok (.imul, 1) := by decide +kernel
theorem dX0_changePlaces_100 : decode cX0_changePlaces 100 = .ok (.iload 5, 2) := by decide +kernel
theorem dX0_changePlaces_102 : decode cX0_changePlaces 102 = .ok (.iadd, 1) := by decide +kernel
theorem dX0_changePlaces_103 : decode cX0_changePlaces 103 = .ok (.iload 6, 2) := by decide +kernel
theorem dX0_changePlaces_105 : decode cX0_changePlaces 105 = .ok (.iastore, 1) := by decide +kernel
theorem dX0_changePlaces_106 : decode cX0_changePlaces 106 = .ok (.iinc 5 1, 3) := by decide +kernel
theorem dX0_changePlaces_109 : decode cX0_changePlaces 109 = .ok (.goto (-52), 3) := by decide +kernel
theorem dX0_changePlaces_112 : decode cX0_changePlaces 112 = .ok (.return_, 1) := by decide +kernel
def fX0_changePlaces_57 : Nat → Int32 → Int32 → Int32 → SS → Option (Unit × SS)
  | 0, _, _, _, _ => none
  | n + 1, x1, x2, x5, s => if (8 : Int32) ≤ x5 then (some ((), s)) else (((fX0_wetAt x1 x5 s).bind fun z2 => ((fX0_wetAt x2 x5 z2.2).bind fun z3 => if ixB ((x1 * (8 : Int32)) + x5) 24 then (if ixB ((x2 * (8 : Int32)) + x5) 24 then (fX0_changePlaces_57 n x1 x2 (x5 + (1 : Int32)) (wrI (wrI z3.2 3 (((x1 * (8 : Int32)) + x5).toNatClampNeg) z3.1) 3 (((x2 * (8 : Int32)) + x5).toNatClampNeg) z2.1)) else none) else none)))
def fX0_changePlaces_0 (x1 : Int32) (x2 : Int32) (s : SS) : Option (Unit × SS) := if ixB x1 3 then (if ixB x2 3 then (if ixB x1 3 then (if ixB x2 3 then (if ixB x1 3 then (if ixB x2 3 then (if ixB x1 3 then (if ixB x2 3 then (fX0_changePlaces_57 FU x1 x2 (0 : Int32) (wrI (wrI (wrI (wrI s 1 x1.toNatClampNeg (s.1 1 x2.toNatClampNeg)) 1 x2.toNatClampNeg (s.1 1 x1.toNatClampNeg)) 2 x1.toNatClampNeg (s.1 2 x2.toNatClampNeg)) 2 x2.toNatClampNeg (s.1 2 x1.toNatClampNeg))) else none) else none) else none) else none) else none) else none) else none) else none
def fX0_changePlaces (x1 : Int32) (x2 : Int32) (s : SS) : Option (Unit × SS) := fX0_changePlaces_0 x1 x2 s
set_option maxRecDepth 100000 in
set_option maxHeartbeats 4000000 in
theorem okX0_changePlaces_57 {G : GG} {pl : Nat → Nat} {h0 : PH} : ∀ (n : Nat) (x1 : Int32) (x2 : Int32) (x5 : Int32) (s : SS), EvF G 1 mX0_changePlaces lyC pl h0 rvU (fX0_changePlaces_57 n x1 x2 x5 s) 57 [(0, .ref (pl 0)), (1, .int x1), (2, .int x2), (5, .int x5)] [] s := by
  intro n
  induction n with
  | zero => intro x1 x2 x5 s; rw [fX0_changePlaces_57]; exact ef_none
  | succ n ih =>
    intro x1 x2 x5 s
    rw [fX0_changePlaces_57]
    refine ef_iload (q := 59) 3 dX0_changePlaces_57 rfl rfl ?_
    refine ef_bipush (v := (8 : Int32)) (q := 61) dX0_changePlaces_59 (by decide) rfl ?_
    refine ef_if (pt := 112) (pf := 64) (fun _ _ => ev_icmp_ge (tgt := 112) dX0_changePlaces_61 (by decide)) (fun h1 => ?_) (fun h1 => ?_)
    · exact ef_vret rfl dX0_changePlaces_112
    · refine ef_aload_n (q := 65) 0 dX0_changePlaces_64 rfl rfl rfl ?_
      refine ef_iload_n (q := 66) 1 dX0_changePlaces_65 rfl rfl rfl ?_
      refine ef_iload (q := 68) 3 dX0_changePlaces_66 rfl rfl ?_
      refine ef_invVI0 (k := 0) (As := [.int x1, .int x5]) (rest := []) (q := 71) (okX0_wetAt x1 x5) rfl calX0_wetAt ml0_78 (by decide) rfl rfl rfl (Nat.le_of_ble_eq_true rfl) dX0_changePlaces_68 rfl (fun z2 => ?_)
      refine ef_istore (lv' := [(6, .int z2.1), (0, .ref (pl 0)), (1, .int x1), (2, .int x2), (5, .int x5)]) (q := 73) dX0_changePlaces_71 (by decide) rfl rfl ?_
      refine ef_aload_n (q := 74) 1 dX0_changePlaces_73 rfl rfl rfl ?_
      refine ef_getR (t := 3) (q := 77) rfl fl0_55 rfl rfl dX0_changePlaces_74 rfl ?_
      refine ef_iload_n (q := 78) 2 dX0_changePlaces_77 rfl rfl rfl ?_
      refine ef_bipush (v := (8 : Int32)) (q := 80) dX0_changePlaces_78 (by decide) rfl ?_
      refine ef_imul (q := 81) dX0_changePlaces_80 rfl ?_
      refine ef_iload (q := 83) 4 dX0_changePlaces_81 rfl rfl ?_
      refine ef_iadd (q := 84) dX0_changePlaces_83 rfl ?_
      refine ef_aload_n (q := 85) 1 dX0_changePlaces_84 rfl rfl rfl ?_
      refine ef_iload_n (q := 86) 3 dX0_changePlaces_85 rfl rfl rfl ?_
      refine ef_iload (q := 88) 4 dX0_changePlaces_86 rfl rfl ?_
      refine ef_invVI0 (k := 0) (As := [.int x2, .int x5]) (rest := [.int ((x1 * (8 : Int32)) + x5), .ref (pl 3)]) (q := 91) (okX0_wetAt x2 x5) rfl calX0_wetAt ml0_78 (by decide) rfl rfl rfl (Nat.le_of_ble_eq_true rfl) dX0_changePlaces_88 rfl (fun z3 => ?_)
      refine ef_guard (fun g4 => ?_)
      refine ef_iastore (j := ((x1 * (8 : Int32)) + x5).toNatClampNeg) (q := 92) rfl g4 dX0_changePlaces_91 rfl rfl ?_
      refine ef_aload_n (q := 93) 1 dX0_changePlaces_92 rfl rfl rfl ?_
      refine ef_getR (t := 3) (q := 96) rfl fl0_55 rfl rfl dX0_changePlaces_93 rfl ?_
      refine ef_iload_n (q := 97) 3 dX0_changePlaces_96 rfl rfl rfl ?_
      refine ef_bipush (v := (8 : Int32)) (q := 99) dX0_changePlaces_97 (by decide) rfl ?_
      refine ef_imul (q := 100) dX0_changePlaces_99 rfl ?_
      refine ef_iload (q := 102) 4 dX0_changePlaces_100 rfl rfl ?_
      refine ef_iadd (q := 103) dX0_changePlaces_102 rfl ?_
      refine ef_iload (q := 105) 0 dX0_changePlaces_103 rfl rfl ?_
      refine ef_guard (fun g5 => ?_)
      refine ef_iastore (j := ((x2 * (8 : Int32)) + x5).toNatClampNeg) (q := 106) rfl g5 dX0_changePlaces_105 rfl rfl ?_
      refine ef_iinc (v := x5 + (1 : Int32)) (lv' := [(5, .int (x5 + (1 : Int32))), (6, .int z2.1), (0, .ref (pl 0)), (1, .int x1), (2, .int x2)]) (q := 109) 4 dX0_changePlaces_106 rfl rfl (by decide) rfl rfl ?_
      refine ef_goto (tgt := 57) dX0_changePlaces_109 (by decide) ?_
      refine ef_sub (lv' := [(0, .ref (pl 0)), (1, .int x1), (2, .int x2), (5, .int (x5 + (1 : Int32)))]) [2, 3, 4, 0] rfl ?_
      exact ih x1 x2 (x5 + (1 : Int32)) (wrI (wrI z3.2 3 (((x1 * (8 : Int32)) + x5).toNatClampNeg) z3.1) 3 (((x2 * (8 : Int32)) + x5).toNatClampNeg) z2.1)
set_option maxRecDepth 100000 in
set_option maxHeartbeats 4000000 in
theorem okX0_changePlaces_0 {G : GG} {pl : Nat → Nat} {h0 : PH} (x1 : Int32) (x2 : Int32) (s : SS) : EvF G 1 mX0_changePlaces lyC pl h0 rvU (fX0_changePlaces_0 x1 x2 s) 0 [(0, .ref (pl 0)), (1, .int x1), (2, .int x2)] [] s := by
  unfold fX0_changePlaces_0
  refine ef_aload_n (q := 1) 0 dX0_changePlaces_0 rfl rfl rfl ?_
  refine ef_getR (t := 1) (q := 4) rfl fl0_48 rfl rfl dX0_changePlaces_1 rfl ?_
  refine ef_iload_n (q := 5) 1 dX0_changePlaces_4 rfl rfl rfl ?_
  refine ef_guard (fun g1 => ?_)
  refine ef_iaload (x := s.1 1 x1.toNatClampNeg) (q := 6) rfl g1 dX0_changePlaces_5 rfl rfl ?_
  refine ef_istore_n (lv' := [(3, .int (s.1 1 x1.toNatClampNeg)), (0, .ref (pl 0)), (1, .int x1), (2, .int x2)]) (q := 7) dX0_changePlaces_6 rfl (by decide) rfl rfl ?_
  refine ef_aload_n (q := 8) 1 dX0_changePlaces_7 rfl rfl rfl ?_
  refine ef_getR (t := 1) (q := 11) rfl fl0_48 rfl rfl dX0_changePlaces_8 rfl ?_
  refine ef_iload_n (q := 12) 2 dX0_changePlaces_11 rfl rfl rfl ?_
  refine ef_aload_n (q := 13) 1 dX0_changePlaces_12 rfl rfl rfl ?_
  refine ef_getR (t := 1) (q := 16) rfl fl0_48 rfl rfl dX0_changePlaces_13 rfl ?_
  refine ef_iload_n (q := 17) 3 dX0_changePlaces_16 rfl rfl rfl ?_
  refine ef_guard (fun g2 => ?_)
  refine ef_iaload (x := s.1 1 x2.toNatClampNeg) (q := 18) rfl g2 dX0_changePlaces_17 rfl rfl ?_
  refine ef_guard (fun g3 => ?_)
  refine ef_iastore (j := x1.toNatClampNeg) (q := 19) rfl g3 dX0_changePlaces_18 rfl rfl ?_
  refine ef_aload_n (q := 20) 1 dX0_changePlaces_19 rfl rfl rfl ?_
  refine ef_getR (t := 1) (q := 23) rfl fl0_48 rfl rfl dX0_changePlaces_20 rfl ?_
  refine ef_iload_n (q := 24) 3 dX0_changePlaces_23 rfl rfl rfl ?_
  refine ef_iload_n (q := 25) 0 dX0_changePlaces_24 rfl rfl rfl ?_
  refine ef_guard (fun g4 => ?_)
  refine ef_iastore (j := x2.toNatClampNeg) (q := 26) rfl g4 dX0_changePlaces_25 rfl rfl ?_
  refine ef_aload_n (q := 27) 1 dX0_changePlaces_26 rfl rfl rfl ?_
  refine ef_getR (t := 2) (q := 30) rfl fl0_52 rfl rfl dX0_changePlaces_27 rfl ?_
  refine ef_iload_n (q := 31) 2 dX0_changePlaces_30 rfl rfl rfl ?_
  refine ef_guard (fun g5 => ?_)
  refine ef_iaload (x := s.1 2 x1.toNatClampNeg) (q := 32) rfl g5 dX0_changePlaces_31 rfl rfl ?_
  refine ef_istore (lv' := [(4, .int (s.1 2 x1.toNatClampNeg)), (3, .int (s.1 1 x1.toNatClampNeg)), (0, .ref (pl 0)), (1, .int x1), (2, .int x2)]) (q := 34) dX0_changePlaces_32 (by decide) rfl rfl ?_
  refine ef_aload_n (q := 35) 2 dX0_changePlaces_34 rfl rfl rfl ?_
  refine ef_getR (t := 2) (q := 38) rfl fl0_52 rfl rfl dX0_changePlaces_35 rfl ?_
  refine ef_iload_n (q := 39) 3 dX0_changePlaces_38 rfl rfl rfl ?_
  refine ef_aload_n (q := 40) 2 dX0_changePlaces_39 rfl rfl rfl ?_
  refine ef_getR (t := 2) (q := 43) rfl fl0_52 rfl rfl dX0_changePlaces_40 rfl ?_
  refine ef_iload_n (q := 44) 4 dX0_changePlaces_43 rfl rfl rfl ?_
  refine ef_guard (fun g6 => ?_)
  refine ef_iaload (x := s.1 2 x2.toNatClampNeg) (q := 45) rfl g6 dX0_changePlaces_44 rfl rfl ?_
  refine ef_guard (fun g7 => ?_)
  refine ef_iastore (j := x1.toNatClampNeg) (q := 46) rfl g7 dX0_changePlaces_45 rfl rfl ?_
  refine ef_aload_n (q := 47) 2 dX0_changePlaces_46 rfl rfl rfl ?_
  refine ef_getR (t := 2) (q := 50) rfl fl0_52 rfl rfl dX0_changePlaces_47 rfl ?_
  refine ef_iload_n (q := 51) 4 dX0_changePlaces_50 rfl rfl rfl ?_
  refine ef_iload (q := 53) 0 dX0_changePlaces_51 rfl rfl ?_
  refine ef_guard (fun g8 => ?_)
  refine ef_iastore (j := x2.toNatClampNeg) (q := 54) rfl g8 dX0_changePlaces_53 rfl rfl ?_
  refine ef_iconst (v := (0 : Int32)) (q := 55) dX0_changePlaces_54 (by decide) rfl ?_
  refine ef_istore (lv' := [(5, .int (0 : Int32)), (4, .int (s.1 2 x1.toNatClampNeg)), (3, .int (s.1 1 x1.toNatClampNeg)), (0, .ref (pl 0)), (1, .int x1), (2, .int x2)]) (q := 57) dX0_changePlaces_55 (by decide) rfl rfl ?_
  refine ef_sub (lv' := [(0, .ref (pl 0)), (1, .int x1), (2, .int x2), (5, .int (0 : Int32))]) [3, 4, 5, 0] rfl ?_
  exact okX0_changePlaces_57 FU x1 x2 (0 : Int32) (wrI (wrI (wrI (wrI s 1 x1.toNatClampNeg (s.1 1 x2.toNatClampNeg)) 1 x2.toNatClampNeg (s.1 1 x1.toNatClampNeg)) 2 x1.toNatClampNeg (s.1 2 x2.toNatClampNeg)) 2 x2.toNatClampNeg (s.1 2 x1.toNatClampNeg))
theorem okX0_changePlaces (x1 : Int32) (x2 : Int32) : MtF 1 mX0_changePlaces lyC rvU (fun _ pl => [.ref (pl 0), .int x1, .int x2]) (fX0_changePlaces x1 x2) := by
  refine MtF.of (by decide +kernel) rfl (fun _ pl => Nat.le_of_ble_eq_true rfl) (fun G pl h0 s => ?_)
  refine ef_sub (lv := [(0, .ref (pl 0)), (1, .int x1), (2, .int x2)]) (lv' := [(0, .ref (pl 0)), (1, .int x1), (2, .int x2)]) [0, 1, 2] rfl ?_
  exact okX0_changePlaces_0  x1 x2 s
-- X0_allPlaces
theorem dX0_allPlaces_0 : decode cX0_allPlaces 0 = .ok (.iconst 1, 1) := by decide +kernel
theorem dX0_allPlaces_1 : decode cX0_allPlaces 1 = .ok (.aload_n 0, 1) := by decide +kernel
theorem dX0_allPlaces_2 : decode cX0_allPlaces 2 = .ok (.getfield 9, 3) := by decide +kernel
theorem dX0_allPlaces_5 : decode cX0_allPlaces 5 = .ok (.ishl, 1) := by decide +kernel
theorem dX0_allPlaces_6 : decode cX0_allPlaces 6 = .ok (.iconst 1, 1) := by decide +kernel
theorem dX0_allPlaces_7 : decode cX0_allPlaces 7 = .ok (.isub, 1) := by decide +kernel
theorem dX0_allPlaces_8 : decode cX0_allPlaces 8 = .ok (.ireturn, 1) := by decide +kernel
def fX0_allPlaces_0 (s : SS) : Option (Int32 × SS) := some (((1 : Int32) <<< ((s.1 0 0) &&& 31)) - (1 : Int32), s)
def fX0_allPlaces (s : SS) : Option (Int32 × SS) := fX0_allPlaces_0 s
set_option maxRecDepth 100000 in
set_option maxHeartbeats 4000000 in
theorem okX0_allPlaces_0 {G : GG} {pl : Nat → Nat} {h0 : PH} (s : SS) : EvF G 0 mX0_allPlaces lyC pl h0 rvI (fX0_allPlaces_0 s) 0 [(0, .ref (pl 0))] [] s := by
  unfold fX0_allPlaces_0
  refine ef_iconst (v := (1 : Int32)) (q := 1) dX0_allPlaces_0 (by decide) rfl ?_
  refine ef_aload_n (q := 2) 0 dX0_allPlaces_1 rfl rfl rfl ?_
  refine ef_getI (x := s.1 0 0) (q := 5) rfl fl0_9 rfl rfl dX0_allPlaces_2 rfl ?_
  refine ef_ishl (q := 6) dX0_allPlaces_5 rfl ?_
  refine ef_iconst (v := (1 : Int32)) (q := 7) dX0_allPlaces_6 (by decide) rfl ?_
  refine ef_isub (q := 8) dX0_allPlaces_7 rfl ?_
  exact ef_iret rfl dX0_allPlaces_8
theorem okX0_allPlaces : MtF 0 mX0_allPlaces lyC rvI (fun _ pl => [.ref (pl 0)]) (fX0_allPlaces) := by
  refine MtF.of (by decide +kernel) rfl (fun _ pl => Nat.le_of_ble_eq_true rfl) (fun G pl h0 s => ?_)
  refine ef_sub (lv := [(0, .ref (pl 0))]) (lv' := [(0, .ref (pl 0))]) [0] rfl ?_
  exact okX0_allPlaces_0  s
-- X0_becomeSides
theorem dX0_becomeSides_0 : decode cX0_becomeSides 0 = .ok (.aload_n 0, 1) := by decide +kernel
theorem dX0_becomeSides_1 : decode cX0_becomeSides 1 = .ok (.iload_n 1, 1) := by decide +kernel
theorem dX0_becomeSides_2 : decode cX0_becomeSides 2 = .ok (.putfield 9, 3) := by decide +kernel
theorem dX0_becomeSides_5 : decode cX0_becomeSides 5 = .ok (.aload_n 0, 1) := by decide +kernel
theorem dX0_becomeSides_6 : decode cX0_becomeSides 6 = .ok (.iconst 0, 1) := by decide +kernel
theorem dX0_becomeSides_7 : decode cX0_becomeSides 7 = .ok (.putfield 15, 3) := by decide +kernel
theorem dX0_becomeSides_10 : decode cX0_becomeSides 10 = .ok (.aload_n 0, 1) := by decide +kernel
theorem dX0_becomeSides_11 : decode cX0_becomeSides 11 = .ok (.dup, 1) := by decide +kernel
theorem dX0_becomeSides_12 : decode cX0_becomeSides 12 = .ok (.getfield 18, 3) := by decide +kernel
theorem dX0_becomeSides_15 : decode cX0_becomeSides 15 = .ok (.aload_n 0, 1) := by decide +kernel
theorem dX0_becomeSides_16 : decode cX0_becomeSides 16 = .ok (.invokevirtual 81, 3) := by decide +kernel
theorem dX0_becomeSides_19 : decode cX0_becomeSides 19 = .ok (.iand, 1) := by decide +kernel
theorem dX0_becomeSides_20 : decode cX0_becomeSides 20 = .ok (.putfield 18, 3) := by decide +kernel
theorem dX0_becomeSides_23 : decode cX0_becomeSides 23 = .ok (.return_, 1) := by decide +kernel
def fX0_becomeSides_0 (x1 : Int32) (s : SS) : Option (Unit × SS) := ((fX0_allPlaces (wrI (wrI s 0 0 x1) 0 1 (0 : Int32))).bind fun z1 => some ((), wrI z1.2 0 2 ((s.1 0 2) &&& z1.1)))
def fX0_becomeSides (x1 : Int32) (s : SS) : Option (Unit × SS) := fX0_becomeSides_0 x1 s
set_option maxRecDepth 100000 in
set_option maxHeartbeats 4000000 in
theorem okX0_becomeSides_0 {G : GG} {pl : Nat → Nat} {h0 : PH} (x1 : Int32) (s : SS) : EvF G 1 mX0_becomeSides lyC pl h0 rvU (fX0_becomeSides_0 x1 s) 0 [(0, .ref (pl 0)), (1, .int x1)] [] s := by
  unfold fX0_becomeSides_0
  refine ef_aload_n (q := 1) 0 dX0_becomeSides_0 rfl rfl rfl ?_
  refine ef_iload_n (q := 2) 1 dX0_becomeSides_1 rfl rfl rfl ?_
  refine ef_putI (q := 5) rfl fl0_9 rfl rfl dX0_becomeSides_2 rfl ?_
  refine ef_aload_n (q := 6) 0 dX0_becomeSides_5 rfl rfl rfl ?_
  refine ef_iconst (v := (0 : Int32)) (q := 7) dX0_becomeSides_6 (by decide) rfl ?_
  refine ef_putI (q := 10) rfl fl0_15 rfl rfl dX0_becomeSides_7 rfl ?_
  refine ef_aload_n (q := 11) 0 dX0_becomeSides_10 rfl rfl rfl ?_
  refine ef_dup (q := 12) dX0_becomeSides_11 rfl rfl ?_
  refine ef_getI (x := s.1 0 2) (q := 15) rfl fl0_18 rfl rfl dX0_becomeSides_12 rfl ?_
  refine ef_aload_n (q := 16) 0 dX0_becomeSides_15 rfl rfl rfl ?_
  refine ef_invVI0 (k := 0) (As := []) (rest := [.int (s.1 0 2), .ref (pl 0)]) (q := 19) (okX0_allPlaces) rfl calX0_allPlaces ml0_81 (by decide) rfl rfl rfl (Nat.le_of_ble_eq_true rfl) dX0_becomeSides_16 rfl (fun z1 => ?_)
  refine ef_iand (q := 20) dX0_becomeSides_19 rfl ?_
  refine ef_putI (q := 23) rfl fl0_18 rfl rfl dX0_becomeSides_20 rfl ?_
  exact ef_vret rfl dX0_becomeSides_23
theorem okX0_becomeSides (x1 : Int32) : MtF 1 mX0_becomeSides lyC rvU (fun _ pl => [.ref (pl 0), .int x1]) (fX0_becomeSides x1) := by
  refine MtF.of (by decide +kernel) rfl (fun _ pl => Nat.le_of_ble_eq_true rfl) (fun G pl h0 s => ?_)
  refine ef_sub (lv := [(0, .ref (pl 0)), (1, .int x1)]) (lv' := [(0, .ref (pl 0)), (1, .int x1)]) [0, 1] rfl ?_
  exact okX0_becomeSides_0  x1 s
-- X0_becomeEmpty
theorem dX0_becomeEmpty_0 : decode cX0_becomeEmpty 0 = .ok (.aload_n 0, 1) := by decide +kernel
theorem dX0_becomeEmpty_1 : decode cX0_becomeEmpty 1 = .ok (.iconst 0, 1) := by decide +kernel
theorem dX0_becomeEmpty_2 : decode cX0_becomeEmpty 2 = .ok (.putfield 45, 3) := by decide +kernel
theorem dX0_becomeEmpty_5 : decode cX0_becomeEmpty 5 = .ok (.aload_n 0, 1) := by decide +kernel
theorem dX0_becomeEmpty_6 : decode cX0_becomeEmpty 6 = .ok (.iconst 0, 1) := by decide +kernel
theorem dX0_becomeEmpty_7 : decode cX0_becomeEmpty 7 = .ok (.putfield 42, 3) := by decide +kernel
theorem dX0_becomeEmpty_10 : decode cX0_becomeEmpty 10 = .ok (.iconst 0, 1) := by decide +kernel
theorem dX0_becomeEmpty_11 : decode cX0_becomeEmpty 11 = .ok (.istore_n 1, 1) := by decide +kernel
theorem dX0_becomeEmpty_12 : decode cX0_becomeEmpty 12 = .ok (.iload_n 1, 1) := by decide +kernel
theorem dX0_becomeEmpty_13 : decode cX0_becomeEmpty 13 = .ok (.bipush 8, 2) := by decide +kernel
theorem dX0_becomeEmpty_15 : decode cX0_becomeEmpty 15 = .ok (.if_icmp .ge 16, 3) := by decide +kernel
theorem dX0_becomeEmpty_18 : decode cX0_becomeEmpty 18 = .ok (.aload_n 0, 1) := by decide +kernel
theorem dX0_becomeEmpty_19 : decode cX0_becomeEmpty 19 = .ok (.getfield 58, 3) := by decide +kernel
theorem dX0_becomeEmpty_22 : decode cX0_becomeEmpty 22 = .ok (.iload_n 1, 1) := by decide +kernel
theorem dX0_becomeEmpty_23 : decode cX0_becomeEmpty 23 = .ok (.iconst 0, 1) := by decide +kernel
theorem dX0_becomeEmpty_24 : decode cX0_becomeEmpty 24 = .ok (.iastore, 1) := by decide +kernel
theorem dX0_becomeEmpty_25 : decode cX0_becomeEmpty 25 = .ok (.iinc 1 1, 3) := by decide +kernel
theorem dX0_becomeEmpty_28 : decode cX0_becomeEmpty 28 = .ok (.goto (-16), 3) := by decide +kernel
theorem dX0_becomeEmpty_31 : decode cX0_becomeEmpty 31 = .ok (.return_, 1) := by decide +kernel
def fX0_becomeEmpty_12 : Nat → Int32 → SS → Option (Unit × SS)
  | 0, _, _ => none
  | n + 1, x1, s => if (8 : Int32) ≤ x1 then (some ((), s)) else (if ixB x1 8 then (fX0_becomeEmpty_12 n (x1 + (1 : Int32)) (wrI s 4 x1.toNatClampNeg (0 : Int32))) else none)
def fX0_becomeEmpty_0 (s : SS) : Option (Unit × SS) := fX0_becomeEmpty_12 FU (0 : Int32) (wrI (wrI s 0 11 (0 : Int32)) 0 10 (0 : Int32))
def fX0_becomeEmpty (s : SS) : Option (Unit × SS) := fX0_becomeEmpty_0 s
set_option maxRecDepth 100000 in
set_option maxHeartbeats 4000000 in
theorem okX0_becomeEmpty_12 {G : GG} {pl : Nat → Nat} {h0 : PH} : ∀ (n : Nat) (x1 : Int32) (s : SS), EvF G 0 mX0_becomeEmpty lyC pl h0 rvU (fX0_becomeEmpty_12 n x1 s) 12 [(0, .ref (pl 0)), (1, .int x1)] [] s := by
  intro n
  induction n with
  | zero => intro x1 s; rw [fX0_becomeEmpty_12]; exact ef_none
  | succ n ih =>
    intro x1 s
    rw [fX0_becomeEmpty_12]
    refine ef_iload_n (q := 13) 1 dX0_becomeEmpty_12 rfl rfl rfl ?_
    refine ef_bipush (v := (8 : Int32)) (q := 15) dX0_becomeEmpty_13 (by decide) rfl ?_
    refine ef_if (pt := 31) (pf := 18) (fun _ _ => ev_icmp_ge (tgt := 31) dX0_becomeEmpty_15 (by decide)) (fun h1 => ?_) (fun h1 => ?_)
    · exact ef_vret rfl dX0_becomeEmpty_31
    · refine ef_aload_n (q := 19) 0 dX0_becomeEmpty_18 rfl rfl rfl ?_
      refine ef_getR (t := 4) (q := 22) rfl fl0_58 rfl rfl dX0_becomeEmpty_19 rfl ?_
      refine ef_iload_n (q := 23) 1 dX0_becomeEmpty_22 rfl rfl rfl ?_
      refine ef_iconst (v := (0 : Int32)) (q := 24) dX0_becomeEmpty_23 (by decide) rfl ?_
      refine ef_guard (fun g2 => ?_)
      refine ef_iastore (j := x1.toNatClampNeg) (q := 25) rfl g2 dX0_becomeEmpty_24 rfl rfl ?_
      refine ef_iinc (v := x1 + (1 : Int32)) (lv' := [(1, .int (x1 + (1 : Int32))), (0, .ref (pl 0))]) (q := 28) 1 dX0_becomeEmpty_25 rfl rfl (by decide) rfl rfl ?_
      refine ef_goto (tgt := 12) dX0_becomeEmpty_28 (by decide) ?_
      refine ef_sub (lv' := [(0, .ref (pl 0)), (1, .int (x1 + (1 : Int32)))]) [1, 0] rfl ?_
      exact ih (x1 + (1 : Int32)) (wrI s 4 x1.toNatClampNeg (0 : Int32))
set_option maxRecDepth 100000 in
set_option maxHeartbeats 4000000 in
theorem okX0_becomeEmpty_0 {G : GG} {pl : Nat → Nat} {h0 : PH} (s : SS) : EvF G 0 mX0_becomeEmpty lyC pl h0 rvU (fX0_becomeEmpty_0 s) 0 [(0, .ref (pl 0))] [] s := by
  unfold fX0_becomeEmpty_0
  refine ef_aload_n (q := 1) 0 dX0_becomeEmpty_0 rfl rfl rfl ?_
  refine ef_iconst (v := (0 : Int32)) (q := 2) dX0_becomeEmpty_1 (by decide) rfl ?_
  refine ef_putI (q := 5) rfl fl0_45 rfl rfl dX0_becomeEmpty_2 rfl ?_
  refine ef_aload_n (q := 6) 0 dX0_becomeEmpty_5 rfl rfl rfl ?_
  refine ef_iconst (v := (0 : Int32)) (q := 7) dX0_becomeEmpty_6 (by decide) rfl ?_
  refine ef_putI (q := 10) rfl fl0_42 rfl rfl dX0_becomeEmpty_7 rfl ?_
  refine ef_iconst (v := (0 : Int32)) (q := 11) dX0_becomeEmpty_10 (by decide) rfl ?_
  refine ef_istore_n (lv' := [(1, .int (0 : Int32)), (0, .ref (pl 0))]) (q := 12) dX0_becomeEmpty_11 rfl (by decide) rfl rfl ?_
  refine ef_sub (lv' := [(0, .ref (pl 0)), (1, .int (0 : Int32))]) [1, 0] rfl ?_
  exact okX0_becomeEmpty_12 FU (0 : Int32) (wrI (wrI s 0 11 (0 : Int32)) 0 10 (0 : Int32))
theorem okX0_becomeEmpty : MtF 0 mX0_becomeEmpty lyC rvU (fun _ pl => [.ref (pl 0)]) (fX0_becomeEmpty) := by
  refine MtF.of (by decide +kernel) rfl (fun _ pl => Nat.le_of_ble_eq_true rfl) (fun G pl h0 s => ?_)
  refine ef_sub (lv := [(0, .ref (pl 0))]) (lv' := [(0, .ref (pl 0))]) [0] rfl ?_
  exact okX0_becomeEmpty_0  s
-- X0_putOnTop
theorem dX0_putOnTop_0 : decode cX0_putOnTop 0 = .ok (.aload_n 0, 1) := by decide +kernel
theorem dX0_putOnTop_1 : decode cX0_putOnTop 1 = .ok (.getfield 45, 3) := by decide +kernel
theorem dX0_putOnTop_4 : decode cX0_putOnTop 4 = .ok (.iconst 3, 1) := by decide +kernel
theorem dX0_putOnTop_5 : decode cX0_putOnTop 5 = .ok (.if_icmp .lt 4, 3) := by decide +kernel
theorem dX0_putOnTop_8 : decode cX0_putOnTop 8 = .ok (.return_, 1) := by decide +kernel
theorem dX0_putOnTop_9 : decode cX0_putOnTop 9 = .ok (.aload_n 0, 1) := by decide +kernel
theorem dX0_putOnTop_10 : decode cX0_putOnTop 10 = .ok (.getfield 48, 3) := by decide +kernel
theorem dX0_putOnTop_13 : decode cX0_putOnTop 13 = .ok (.aload_n 0, 1) := by decide +kernel
theorem dX0_putOnTop_14 : decode cX0_putOnTop 14 = .ok (.getfield 45, 3) := by decide +kernel
theorem dX0_putOnTop_17 : decode cX0_putOnTop 17 = .ok (.iload_n 1, 1) := by decide +kernel
theorem dX0_putOnTop_18 : decode cX0_putOnTop 18 = .ok (.iastore, 1) := by decide +kernel
theorem dX0_putOnTop_19 : decode cX0_putOnTop 19 = .ok (.aload_n 0, 1) := by decide +kernel
theorem dX0_putOnTop_20 : decode cX0_putOnTop 20 = .ok (.getfield 52, 3) := by decide +kernel
theorem dX0_putOnTop_23 : decode cX0_putOnTop 23 = .ok (.aload_n 0, 1) := by decide +kernel
theorem dX0_putOnTop_24 : decode cX0_putOnTop 24 = .ok (.getfield 45, 3) := by decide +kernel
theorem dX0_putOnTop_27 : decode cX0_putOnTop 27 = .ok (.iload_n 2, 1) := by decide +kernel
theorem dX0_putOnTop_28 : decode cX0_putOnTop 28 = .ok (.iastore, 1) := by decide +kernel
theorem dX0_putOnTop_29 : decode cX0_putOnTop 29 = .ok (.iconst 0, 1) := by decide +kernel
theorem dX0_putOnTop_30 : decode cX0_putOnTop 30 = .ok (.istore_n 3, 1) := by decide +kernel
theorem dX0_putOnTop_31 : decode cX0_putOnTop 31 = .ok (.iload_n 3, 1) := by decide +kernel
theorem dX0_putOnTop_32 : decode cX0_putOnTop 32 = .ok (.bipush 8, 2) := by decide +kernel
theorem dX0_putOnTop_34 : decode cX0_putOnTop 34 = .ok (.if_icmp .ge 24, 3) := by decide +kernel
theorem dX0_putOnTop_37 : decode cX0_putOnTop 37 = .ok (.aload_n 0, 1) := by decide +kernel
theorem dX0_putOnTop_38 : decode cX0_putOnTop 38 = .ok (.getfield 55, 3) := by decide +kernel
theorem dX0_putOnTop_41 : decode cX0_putOnTop 41 = .ok (.aload_n 0, 1) := by decide +kernel
theorem dX0_putOnTop_42 : decode cX0_putOnTop 42 = .ok (.getfield 45, 3) := by decide +kernel
theorem dX0_putOnTop_45 : decode cX0_putOnTop 45 = .ok (.bipush 8, 2) := by decide +kernel
theorem dX0_putOnTop_47 : decode cX0_putOnTop 47 = .ok (.imul, 1) := by decide +kernel
theorem dX0_putOnTop_48 : decode cX0_putOnTop 48 = .ok (.iload_n 3, 1) := by decide +kernel
theorem dX0_putOnTop_49 : decode cX0_putOnTop 49 = .ok (.iadd, 1) := by decide +kernel
theorem dX0_putOnTop_50 : decode cX0_putOnTop 50 = .ok (.iconst 0, 1) := by decide +kernel
theorem dX0_putOnTop_51 : decode cX0_putOnTop 51 = .ok (.iastore, 1) := by decide +kernel
theorem dX0_putOnTop_52 : decode cX0_putOnTop 52 = .ok (.iinc 3 1, 3) := by decide +kernel
theorem dX0_putOnTop_55 : decode cX0_putOnTop 55 = .ok (.goto (-24), 3) := by decide +kernel
theorem dX0_putOnTop_58 : decode cX0_putOnTop 58 = .ok (.aload_n 0, 1) := by decide +kernel
theorem dX0_putOnTop_59 : decode cX0_putOnTop 59 = .ok (.dup, 1) := by decide +kernel
theorem dX0_putOnTop_60 : decode cX0_putOnTop 60 = .ok (.getfield 45, 3) := by decide +kernel
theorem dX0_putOnTop_63 : decode cX0_putOnTop 63 = .ok (.iconst 1, 1) := by decide +kernel
theorem dX0_putOnTop_64 : decode cX0_putOnTop 64 = .ok (.iadd, 1) := by decide +kernel
theorem dX0_putOnTop_65 : decode cX0_putOnTop 65 = .ok (.putfield 45, 3) := by decide +kernel
theorem dX0_putOnTop_68 : decode cX0_putOnTop 68 = .ok (.return_, 1) := by decide +kernel
def fX0_putOnTop_31 : Nat → Int32 → SS → Option (Unit × SS)
  | 0, _, _ => none
  | n + 1, x3, s => if (8 : Int32) ≤ x3 then (some ((), wrI s 0 11 ((s.1 0 11) + (1 : Int32)))) else (if ixB (((s.1 0 11) * (8 : Int32)) + x3) 24 then (fX0_putOnTop_31 n (x3 + (1 : Int32)) (wrI s 3 ((((s.1 0 11) * (8 : Int32)) + x3).toNatClampNeg) (0 : Int32))) else none)
def fX0_putOnTop_0 (x1 : Int32) (x2 : Int32) (s : SS) : Option (Unit × SS) := if (s.1 0 11) < (3 : Int32) then (if ixB (s.1 0 11) 3 then (if ixB (s.1 0 11) 3 then (fX0_putOnTop_31 FU (0 : Int32) (wrI (wrI s 1 ((s.1 0 11).toNatClampNeg) x1) 2 ((s.1 0 11).toNatClampNeg) x2)) else none) else none) else (some ((), s))
def fX0_putOnTop (x1 : Int32) (x2 : Int32) (s : SS) : Option (Unit × SS) := fX0_putOnTop_0 x1 x2 s
set_option maxRecDepth 100000 in
set_option maxHeartbeats 4000000 in
theorem okX0_putOnTop_31 {G : GG} {pl : Nat → Nat} {h0 : PH} : ∀ (n : Nat) (x3 : Int32) (s : SS), EvF G 0 mX0_putOnTop lyC pl h0 rvU (fX0_putOnTop_31 n x3 s) 31 [(0, .ref (pl 0)), (3, .int x3)] [] s := by
  intro n
  induction n with
  | zero => intro x3 s; rw [fX0_putOnTop_31]; exact ef_none
  | succ n ih =>
    intro x3 s
    rw [fX0_putOnTop_31]
    refine ef_iload_n (q := 32) 1 dX0_putOnTop_31 rfl rfl rfl ?_
    refine ef_bipush (v := (8 : Int32)) (q := 34) dX0_putOnTop_32 (by decide) rfl ?_
    refine ef_if (pt := 58) (pf := 37) (fun _ _ => ev_icmp_ge (tgt := 58) dX0_putOnTop_34 (by decide)) (fun h1 => ?_) (fun h1 => ?_)
    · refine ef_aload_n (q := 59) 0 dX0_putOnTop_58 rfl rfl rfl ?_
      refine ef_dup (q := 60) dX0_putOnTop_59 rfl rfl ?_
      refine ef_getI (x := s.1 0 11) (q := 63) rfl fl0_45 rfl rfl dX0_putOnTop_60 rfl ?_
      refine ef_iconst (v := (1 : Int32)) (q := 64) dX0_putOnTop_63 (by decide) rfl ?_
      refine ef_iadd (q := 65) dX0_putOnTop_64 rfl ?_
      refine ef_putI (q := 68) rfl fl0_45 rfl rfl dX0_putOnTop_65 rfl ?_
      exact ef_vret rfl dX0_putOnTop_68
    · refine ef_aload_n (q := 38) 0 dX0_putOnTop_37 rfl rfl rfl ?_
      refine ef_getR (t := 3) (q := 41) rfl fl0_55 rfl rfl dX0_putOnTop_38 rfl ?_
      refine ef_aload_n (q := 42) 0 dX0_putOnTop_41 rfl rfl rfl ?_
      refine ef_getI (x := s.1 0 11) (q := 45) rfl fl0_45 rfl rfl dX0_putOnTop_42 rfl ?_
      refine ef_bipush (v := (8 : Int32)) (q := 47) dX0_putOnTop_45 (by decide) rfl ?_
      refine ef_imul (q := 48) dX0_putOnTop_47 rfl ?_
      refine ef_iload_n (q := 49) 1 dX0_putOnTop_48 rfl rfl rfl ?_
      refine ef_iadd (q := 50) dX0_putOnTop_49 rfl ?_
      refine ef_iconst (v := (0 : Int32)) (q := 51) dX0_putOnTop_50 (by decide) rfl ?_
      refine ef_guard (fun g2 => ?_)
      refine ef_iastore (j := (((s.1 0 11) * (8 : Int32)) + x3).toNatClampNeg) (q := 52) rfl g2 dX0_putOnTop_51 rfl rfl ?_
      refine ef_iinc (v := x3 + (1 : Int32)) (lv' := [(3, .int (x3 + (1 : Int32))), (0, .ref (pl 0))]) (q := 55) 1 dX0_putOnTop_52 rfl rfl (by decide) rfl rfl ?_
      refine ef_goto (tgt := 31) dX0_putOnTop_55 (by decide) ?_
      refine ef_sub (lv' := [(0, .ref (pl 0)), (3, .int (x3 + (1 : Int32)))]) [1, 0] rfl ?_
      exact ih (x3 + (1 : Int32)) (wrI s 3 ((((s.1 0 11) * (8 : Int32)) + x3).toNatClampNeg) (0 : Int32))
set_option maxRecDepth 100000 in
set_option maxHeartbeats 4000000 in
theorem okX0_putOnTop_0 {G : GG} {pl : Nat → Nat} {h0 : PH} (x1 : Int32) (x2 : Int32) (s : SS) : EvF G 0 mX0_putOnTop lyC pl h0 rvU (fX0_putOnTop_0 x1 x2 s) 0 [(0, .ref (pl 0)), (1, .int x1), (2, .int x2)] [] s := by
  unfold fX0_putOnTop_0
  refine ef_aload_n (q := 1) 0 dX0_putOnTop_0 rfl rfl rfl ?_
  refine ef_getI (x := s.1 0 11) (q := 4) rfl fl0_45 rfl rfl dX0_putOnTop_1 rfl ?_
  refine ef_iconst (v := (3 : Int32)) (q := 5) dX0_putOnTop_4 (by decide) rfl ?_
  refine ef_if (pt := 9) (pf := 8) (fun _ _ => ev_icmp_lt (tgt := 9) dX0_putOnTop_5 (by decide)) (fun h1 => ?_) (fun h1 => ?_)
  · refine ef_aload_n (q := 10) 0 dX0_putOnTop_9 rfl rfl rfl ?_
    refine ef_getR (t := 1) (q := 13) rfl fl0_48 rfl rfl dX0_putOnTop_10 rfl ?_
    refine ef_aload_n (q := 14) 0 dX0_putOnTop_13 rfl rfl rfl ?_
    refine ef_getI (x := s.1 0 11) (q := 17) rfl fl0_45 rfl rfl dX0_putOnTop_14 rfl ?_
    refine ef_iload_n (q := 18) 1 dX0_putOnTop_17 rfl rfl rfl ?_
    refine ef_guard (fun g2 => ?_)
    refine ef_iastore (j := (s.1 0 11).toNatClampNeg) (q := 19) rfl g2 dX0_putOnTop_18 rfl rfl ?_
    refine ef_aload_n (q := 20) 0 dX0_putOnTop_19 rfl rfl rfl ?_
    refine ef_getR (t := 2) (q := 23) rfl fl0_52 rfl rfl dX0_putOnTop_20 rfl ?_
    refine ef_aload_n (q := 24) 0 dX0_putOnTop_23 rfl rfl rfl ?_
    refine ef_getI (x := s.1 0 11) (q := 27) rfl fl0_45 rfl rfl dX0_putOnTop_24 rfl ?_
    refine ef_iload_n (q := 28) 2 dX0_putOnTop_27 rfl rfl rfl ?_
    refine ef_guard (fun g3 => ?_)
    refine ef_iastore (j := (s.1 0 11).toNatClampNeg) (q := 29) rfl g3 dX0_putOnTop_28 rfl rfl ?_
    refine ef_iconst (v := (0 : Int32)) (q := 30) dX0_putOnTop_29 (by decide) rfl ?_
    refine ef_istore_n (lv' := [(3, .int (0 : Int32)), (0, .ref (pl 0)), (1, .int x1), (2, .int x2)]) (q := 31) dX0_putOnTop_30 rfl (by decide) rfl rfl ?_
    refine ef_sub (lv' := [(0, .ref (pl 0)), (3, .int (0 : Int32))]) [1, 0] rfl ?_
    exact okX0_putOnTop_31 FU (0 : Int32) (wrI (wrI s 1 ((s.1 0 11).toNatClampNeg) x1) 2 ((s.1 0 11).toNatClampNeg) x2)
  · exact ef_vret rfl dX0_putOnTop_8
theorem okX0_putOnTop (x1 : Int32) (x2 : Int32) : MtF 0 mX0_putOnTop lyC rvU (fun _ pl => [.ref (pl 0), .int x1, .int x2]) (fX0_putOnTop x1 x2) := by
  refine MtF.of (by decide +kernel) rfl (fun _ pl => Nat.le_of_ble_eq_true rfl) (fun G pl h0 s => ?_)
  refine ef_sub (lv := [(0, .ref (pl 0)), (1, .int x1), (2, .int x2)]) (lv' := [(0, .ref (pl 0)), (1, .int x1), (2, .int x2)]) [0, 1, 2] rfl ?_
  exact okX0_putOnTop_0  x1 x2 s
-- X0_isSunny
theorem dX0_isSunny_0 : decode cX0_isSunny 0 = .ok (.iload_n 1, 1) := by decide +kernel
theorem dX0_isSunny_1 : decode cX0_isSunny 1 = .ok (.aload_n 0, 1) := by decide +kernel
theorem dX0_isSunny_2 : decode cX0_isSunny 2 = .ok (.getfield 15, 3) := by decide +kernel
theorem dX0_isSunny_5 : decode cX0_isSunny 5 = .ok (.isub, 1) := by decide +kernel
theorem dX0_isSunny_6 : decode cX0_isSunny 6 = .ok (.istore_n 2, 1) := by decide +kernel
theorem dX0_isSunny_7 : decode cX0_isSunny 7 = .ok (.iload_n 2, 1) := by decide +kernel
theorem dX0_isSunny_8 : decode cX0_isSunny 8 = .ok (.ifCond .ge 10, 3) := by decide +kernel
theorem dX0_isSunny_11 : decode cX0_isSunny 11 = .ok (.iload_n 2, 1) := by decide +kernel
theorem dX0_isSunny_12 : decode cX0_isSunny 12 = .ok (.aload_n 0, 1) := by decide +kernel
theorem dX0_isSunny_13 : decode cX0_isSunny 13 = .ok (.getfield 9, 3) := by decide +kernel
theorem dX0_isSunny_16 : decode cX0_isSunny 16 = .ok (.iadd, 1) := by decide +kernel
theorem dX0_isSunny_17 : decode cX0_isSunny 17 = .ok (.istore_n 2, 1) := by decide +kernel
theorem dX0_isSunny_18 : decode cX0_isSunny 18 = .ok (.aload_n 0, 1) := by decide +kernel
theorem dX0_isSunny_19 : decode cX0_isSunny 19 = .ok (.getfield 18, 3) := by decide +kernel
theorem dX0_isSunny_22 : decode cX0_isSunny 22 = .ok (.iload_n 2, 1) := by decide +kernel
theorem dX0_isSunny_23 : decode cX0_isSunny 23 = .ok (.ishr, 1) := by decide +kernel
theorem dX0_isSunny_24 : decode cX0_isSunny 24 = .ok (.iconst 1, 1) := by decide +kernel
theorem dX0_isSunny_25 : decode cX0_isSunny 25 = .ok (.iand, 1) := by decide +kernel
theorem dX0_isSunny_26 : decode cX0_isSunny 26 = .ok (.ifCond .eq 7, 3) := by decide +kernel
theorem dX0_isSunny_29 : decode cX0_isSunny 29 = .ok (.iconst 1, 1) := by decide +kernel
theorem dX0_isSunny_30 : decode cX0_isSunny 30 = .ok (.goto 4, 3) := by decide +kernel
theorem dX0_isSunny_33 : decode cX0_isSunny 33 = .ok (.iconst 0, 1) := by decide +kernel
theorem dX0_isSunny_34 : decode cX0_isSunny 34 = .ok (.ireturn, 1) := by decide +kernel
def fX0_isSunny_18 (x2 : Int32) (s : SS) : Option (Int32 × SS) := if (((s.1 0 2) >>> (x2 &&& 31)) &&& (1 : Int32)) = 0 then (some ((0 : Int32), s)) else (some ((1 : Int32), s))
def fX0_isSunny_0 (x1 : Int32) (s : SS) : Option (Int32 × SS) := if 0 ≤ (x1 - (s.1 0 1)) then (fX0_isSunny_18 (x1 - (s.1 0 1)) s) else (fX0_isSunny_18 ((x1 - (s.1 0 1)) + (s.1 0 0)) s)
def fX0_isSunny (x1 : Int32) (s : SS) : Option (Int32 × SS) := fX0_isSunny_0 x1 s
set_option maxRecDepth 100000 in
set_option maxHeartbeats 4000000 in
theorem okX0_isSunny_18 {G : GG} {pl : Nat → Nat} {h0 : PH} (x2 : Int32) (s : SS) : EvF G 0 mX0_isSunny lyC pl h0 rvI (fX0_isSunny_18 x2 s) 18 [(0, .ref (pl 0)), (2, .int x2)] [] s := by
  unfold fX0_isSunny_18
  refine ef_aload_n (q := 19) 0 dX0_isSunny_18 rfl rfl rfl ?_
  refine ef_getI (x := s.1 0 2) (q := 22) rfl fl0_18 rfl rfl dX0_isSunny_19 rfl ?_
  refine ef_iload_n (q := 23) 1 dX0_isSunny_22 rfl rfl rfl ?_
  refine ef_ishr (q := 24) dX0_isSunny_23 rfl ?_
  refine ef_iconst (v := (1 : Int32)) (q := 25) dX0_isSunny_24 (by decide) rfl ?_
  refine ef_iand (q := 26) dX0_isSunny_25 rfl ?_
  refine ef_if (pt := 33) (pf := 29) (fun _ _ => ev_if_eq (tgt := 33) dX0_isSunny_26 (by decide)) (fun h1 => ?_) (fun h1 => ?_)
  · refine ef_iconst (v := (0 : Int32)) (q := 34) dX0_isSunny_33 (by decide) rfl ?_
    exact ef_zretc (x := (0 : Int32)) (by decide) rfl dX0_isSunny_34
  · refine ef_iconst (v := (1 : Int32)) (q := 30) dX0_isSunny_29 (by decide) rfl ?_
    refine ef_goto (tgt := 34) dX0_isSunny_30 (by decide) ?_
    exact ef_zretc (x := (1 : Int32)) (by decide) rfl dX0_isSunny_34
set_option maxRecDepth 100000 in
set_option maxHeartbeats 4000000 in
theorem okX0_isSunny_0 {G : GG} {pl : Nat → Nat} {h0 : PH} (x1 : Int32) (s : SS) : EvF G 0 mX0_isSunny lyC pl h0 rvI (fX0_isSunny_0 x1 s) 0 [(0, .ref (pl 0)), (1, .int x1)] [] s := by
  unfold fX0_isSunny_0
  refine ef_iload_n (q := 1) 1 dX0_isSunny_0 rfl rfl rfl ?_
  refine ef_aload_n (q := 2) 0 dX0_isSunny_1 rfl rfl rfl ?_
  refine ef_getI (x := s.1 0 1) (q := 5) rfl fl0_15 rfl rfl dX0_isSunny_2 rfl ?_
  refine ef_isub (q := 6) dX0_isSunny_5 rfl ?_
  refine ef_istore_n (lv' := [(2, .int (x1 - (s.1 0 1))), (0, .ref (pl 0)), (1, .int x1)]) (q := 7) dX0_isSunny_6 rfl (by decide) rfl rfl ?_
  refine ef_iload_n (q := 8) 0 dX0_isSunny_7 rfl rfl rfl ?_
  refine ef_if (pt := 18) (pf := 11) (fun _ _ => ev_if_ge (tgt := 18) dX0_isSunny_8 (by decide)) (fun h1 => ?_) (fun h1 => ?_)
  · refine ef_sub (lv' := [(0, .ref (pl 0)), (2, .int (x1 - (s.1 0 1)))]) [1, 0] rfl ?_
    exact okX0_isSunny_18 (x1 - (s.1 0 1)) s
  · refine ef_iload_n (q := 12) 0 dX0_isSunny_11 rfl rfl rfl ?_
    refine ef_aload_n (q := 13) 1 dX0_isSunny_12 rfl rfl rfl ?_
    refine ef_getI (x := s.1 0 0) (q := 16) rfl fl0_9 rfl rfl dX0_isSunny_13 rfl ?_
    refine ef_iadd (q := 17) dX0_isSunny_16 rfl ?_
    refine ef_istore_n (lv' := [(2, .int ((x1 - (s.1 0 1)) + (s.1 0 0))), (0, .ref (pl 0)), (1, .int x1)]) (q := 18) dX0_isSunny_17 rfl (by decide) rfl rfl ?_
    refine ef_sub (lv' := [(0, .ref (pl 0)), (2, .int ((x1 - (s.1 0 1)) + (s.1 0 0)))]) [1, 0] rfl ?_
    exact okX0_isSunny_18 ((x1 - (s.1 0 1)) + (s.1 0 0)) s
theorem okX0_isSunny (x1 : Int32) : MtF 0 mX0_isSunny lyC rvI (fun _ pl => [.ref (pl 0), .int x1]) (fX0_isSunny x1) := by
  refine MtF.of (by decide +kernel) rfl (fun _ pl => Nat.le_of_ble_eq_true rfl) (fun G pl h0 s => ?_)
  refine ef_sub (lv := [(0, .ref (pl 0)), (1, .int x1)]) (lv' := [(0, .ref (pl 0)), (1, .int x1)]) [0, 1] rfl ?_
  exact okX0_isSunny_0  x1 s
-- X0_allWetOf
theorem dX0_allWetOf_0 : decode cX0_allWetOf 0 = .ok (.iconst 0, 1) := by decide +kernel
theorem dX0_allWetOf_1 : decode cX0_allWetOf 1 = .ok (.istore_n 2, 1) := by decide +kernel
theorem dX0_allWetOf_2 : decode cX0_allWetOf 2 = .ok (.iconst 0, 1) := by decide +kernel
theorem dX0_allWetOf_3 : decode cX0_allWetOf 3 = .ok (.istore_n 3, 1) := by decide +kernel
theorem dX0_allWetOf_4 : decode cX0_allWetOf 4 = .ok (.iload_n 3, 1) := by decide +kernel
theorem dX0_allWetOf_5 : decode cX0_allWetOf 5 = .ok (.aload_n 0, 1) := by decide +kernel
theorem dX0_allWetOf_6 : decode cX0_allWetOf 6 = .ok (.getfield 9, 3) := by decide +kernel
theorem dX0_allWetOf_9 : decode cX0_allWetOf 9 = .ok (.if_icmp .ge 18, 3) := by decide +kernel
theorem dX0_allWetOf_12 : decode cX0_allWetOf 12 = .ok (.iload_n 2, 1) := by decide +kernel
theorem dX0_allWetOf_13 : decode cX0_allWetOf 13 = .ok (.aload_n 0, 1) := by decide +kernel
theorem dX0_allWetOf_14 : decode cX0_allWetOf 14 = .ok (.iload_n 1, 1) := by decide +kernel
theorem dX0_allWetOf_15 : decode cX0_allWetOf 15 = .ok (.iload_n 3, 1) := by decide +kernel
theorem dX0_allWetOf_16 : decode cX0_allWetOf 16 = .ok (.invokevirtual 78, 3) := by decide +kernel
theorem dX0_allWetOf_19 : decode cX0_allWetOf 19 = .ok (.iadd, 1) := by decide +kernel
theorem dX0_allWetOf_20 : decode cX0_allWetOf 20 = .ok (.istore_n 2, 1) := by decide +kernel
theorem dX0_allWetOf_21 : decode cX0_allWetOf 21 = .ok (.iinc 3 1, 3) := by decide +kernel
theorem dX0_allWetOf_24 : decode cX0_allWetOf 24 = .ok (.goto (-20), 3) := by decide +kernel
theorem dX0_allWetOf_27 : decode cX0_allWetOf 27 = .ok (.iload_n 2, 1) := by decide +kernel
theorem dX0_allWetOf_28 : decode cX0_allWetOf 28 = .ok (.ireturn, 1) := by decide +kernel
def fX0_allWetOf_4 : Nat → Int32 → Int32 → Int32 → SS → Option (Int32 × SS)
  | 0, _, _, _, _ => none
  | n + 1, x1, x2, x3, s => if (s.1 0 0) ≤ x3 then (some (x2, s)) else (((fX0_wetAt x1 x3 s).bind fun z2 => fX0_allWetOf_4 n x1 (x2 + z2.1) (x3 + (1 : Int32)) z2.2))
def fX0_allWetOf_0 (x1 : Int32) (s : SS) : Option (Int32 × SS) := fX0_allWetOf_4 FU x1 (0 : Int32) (0 : Int32) s
def fX0_allWetOf (x1 : Int32) (s : SS) : Option (Int32 × SS) := fX0_allWetOf_0 x1 s
set_option maxRecDepth 100000 in
set_option maxHeartbeats 4000000 in
theorem okX0_allWetOf_4 {G : GG} {pl : Nat → Nat} {h0 : PH} : ∀ (n : Nat) (x1 : Int32) (x2 : Int32) (x3 : Int32) (s : SS), EvF G 1 mX0_allWetOf lyC pl h0 rvI (fX0_allWetOf_4 n x1 x2 x3 s) 4 [(0, .ref (pl 0)), (1, .int x1), (2, .int x2), (3, .int x3)] [] s := by
  intro n
  induction n with
  | zero => intro x1 x2 x3 s; rw [fX0_allWetOf_4]; exact ef_none
  | succ n ih =>
    intro x1 x2 x3 s
    rw [fX0_allWetOf_4]
    refine ef_iload_n (q := 5) 3 dX0_allWetOf_4 rfl rfl rfl ?_
    refine ef_aload_n (q := 6) 0 dX0_allWetOf_5 rfl rfl rfl ?_
    refine ef_getI (x := s.1 0 0) (q := 9) rfl fl0_9 rfl rfl dX0_allWetOf_6 rfl ?_
    refine ef_if (pt := 27) (pf := 12) (fun _ _ => ev_icmp_ge (tgt := 27) dX0_allWetOf_9 (by decide)) (fun h1 => ?_) (fun h1 => ?_)
    · refine ef_iload_n (q := 28) 2 dX0_allWetOf_27 rfl rfl rfl ?_
      exact ef_iret rfl dX0_allWetOf_28
    · refine ef_iload_n (q := 13) 2 dX0_allWetOf_12 rfl rfl rfl ?_
      refine ef_aload_n (q := 14) 0 dX0_allWetOf_13 rfl rfl rfl ?_
      refine ef_iload_n (q := 15) 1 dX0_allWetOf_14 rfl rfl rfl ?_
      refine ef_iload_n (q := 16) 3 dX0_allWetOf_15 rfl rfl rfl ?_
      refine ef_invVI0 (k := 0) (As := [.int x1, .int x3]) (rest := [.int x2]) (q := 19) (okX0_wetAt x1 x3) rfl calX0_wetAt ml0_78 (by decide) rfl rfl rfl (Nat.le_of_ble_eq_true rfl) dX0_allWetOf_16 rfl (fun z2 => ?_)
      refine ef_iadd (q := 20) dX0_allWetOf_19 rfl ?_
      refine ef_istore_n (lv' := [(2, .int (x2 + z2.1)), (0, .ref (pl 0)), (1, .int x1), (3, .int x3)]) (q := 21) dX0_allWetOf_20 rfl (by decide) rfl rfl ?_
      refine ef_iinc (v := x3 + (1 : Int32)) (lv' := [(3, .int (x3 + (1 : Int32))), (2, .int (x2 + z2.1)), (0, .ref (pl 0)), (1, .int x1)]) (q := 24) 3 dX0_allWetOf_21 rfl rfl (by decide) rfl rfl ?_
      refine ef_goto (tgt := 4) dX0_allWetOf_24 (by decide) ?_
      refine ef_sub (lv' := [(0, .ref (pl 0)), (1, .int x1), (2, .int (x2 + z2.1)), (3, .int (x3 + (1 : Int32)))]) [2, 3, 1, 0] rfl ?_
      exact ih x1 (x2 + z2.1) (x3 + (1 : Int32)) z2.2
set_option maxRecDepth 100000 in
set_option maxHeartbeats 4000000 in
theorem okX0_allWetOf_0 {G : GG} {pl : Nat → Nat} {h0 : PH} (x1 : Int32) (s : SS) : EvF G 1 mX0_allWetOf lyC pl h0 rvI (fX0_allWetOf_0 x1 s) 0 [(0, .ref (pl 0)), (1, .int x1)] [] s := by
  unfold fX0_allWetOf_0
  refine ef_iconst (v := (0 : Int32)) (q := 1) dX0_allWetOf_0 (by decide) rfl ?_
  refine ef_istore_n (lv' := [(2, .int (0 : Int32)), (0, .ref (pl 0)), (1, .int x1)]) (q := 2) dX0_allWetOf_1 rfl (by decide) rfl rfl ?_
  refine ef_iconst (v := (0 : Int32)) (q := 3) dX0_allWetOf_2 (by decide) rfl ?_
  refine ef_istore_n (lv' := [(3, .int (0 : Int32)), (2, .int (0 : Int32)), (0, .ref (pl 0)), (1, .int x1)]) (q := 4) dX0_allWetOf_3 rfl (by decide) rfl rfl ?_
  refine ef_sub (lv' := [(0, .ref (pl 0)), (1, .int x1), (2, .int (0 : Int32)), (3, .int (0 : Int32))]) [2, 3, 1, 0] rfl ?_
  exact okX0_allWetOf_4 FU x1 (0 : Int32) (0 : Int32) s
theorem okX0_allWetOf (x1 : Int32) : MtF 1 mX0_allWetOf lyC rvI (fun _ pl => [.ref (pl 0), .int x1]) (fX0_allWetOf x1) := by
  refine MtF.of (by decide +kernel) rfl (fun _ pl => Nat.le_of_ble_eq_true rfl) (fun G pl h0 s => ?_)
  refine ef_sub (lv := [(0, .ref (pl 0)), (1, .int x1)]) (lv' := [(0, .ref (pl 0)), (1, .int x1)]) [0, 1] rfl ?_
  exact okX0_allWetOf_0  x1 s
-- X0_left
theorem dX0_left_0 : decode cX0_left 0 = .ok (.iconst 0, 1) := by decide +kernel
theorem dX0_left_1 : decode cX0_left 1 = .ok (.istore_n 1, 1) := by decide +kernel
theorem dX0_left_2 : decode cX0_left 2 = .ok (.iconst 0, 1) := by decide +kernel
theorem dX0_left_3 : decode cX0_left 3 = .ok (.istore_n 2, 1) := by decide +kernel
theorem dX0_left_4 : decode cX0_left 4 = .ok (.iload_n 2, 1) := by decide +kernel
theorem dX0_left_5 : decode cX0_left 5 = .ok (.aload_n 0, 1) := by decide +kernel
theorem dX0_left_6 : decode cX0_left 6 = .ok (.getfield 45, 3) := by decide +kernel
theorem dX0_left_9 : decode cX0_left 9 = .ok (.if_icmp .ge 24, 3) := by decide +kernel
theorem dX0_left_12 : decode cX0_left 12 = .ok (.iload_n 1, 1) := by decide +kernel
theorem dX0_left_13 : decode cX0_left 13 = .ok (.aload_n 0, 1) := by decide +kernel
theorem dX0_left_14 : decode cX0_left 14 = .ok (.getfield 52, 3) := by decide +kernel
theorem dX0_left_17 : decode cX0_left 17 = .ok (.iload_n 2, 1) := by decide +kernel
theorem dX0_left_18 : decode cX0_left 18 = .ok (.iaload, 1) := by decide +kernel
theorem dX0_left_19 : decode cX0_left 19 = .ok (.aload_n 0, 1) := by decide +kernel
theorem dX0_left_20 : decode cX0_left 20 = .ok (.iload_n 2, 1) := by decide +kernel
theorem dX0_left_21 : decode cX0_left 21 = .ok (.invokevirtual 85, 3) := by decide +kernel
theorem dX0_left_24 : decode cX0_left 24 = .ok (.iadd, 1) := by decide +kernel
theorem dX0_left_25 : decode cX0_left 25 = .ok (.iadd, 1) := by decide +kernel
theorem dX0_left_26 : decode cX0_left 26 = .ok (.istore_n 1, 1) := by decide +kernel
theorem dX0_left_27 : decode cX0_left 27 = .ok (.iinc 2 1, 3) := by decide +kernel
theorem dX0_left_30 : decode cX0_left 30 = .ok (.goto (-26), 3) := by decide +kernel
theorem dX0_left_33 : decode cX0_left 33 = .ok (.iconst 0, 1) := by decide +kernel
theorem dX0_left_34 : decode cX0_left 34 = .ok (.istore_n 2, 1) := by decide +kernel
theorem dX0_left_35 : decode cX0_left 35 = .ok (.iload_n 2, 1) := by decide +kernel
theorem dX0_left_36 : decode cX0_left 36 = .ok (.aload_n 0, 1) := by decide +kernel
theorem dX0_left_37 : decode cX0_left 37 = .ok (.getfield 9, 3) := by decide +kernel
theorem dX0_left_40 : decode cX0_left 40 = .ok (.if_icmp .ge 18, 3) := by decide +kernel
theorem dX0_left_43 : decode cX0_left 43 = .ok (.iload_n 1, 1) := by decide +kernel
theorem dX0_left_44 : decode cX0_left 44 = .ok (.aload_n 0, 1) := by decide +kernel
theorem dX0_left_45 : decode cX0_left 45 = .ok (.getfield 58, 3) := by decide +kernel
theorem dX0_left_48 : decode cX0_left 48 = .ok (.iload_n 2, 1) := by decide +kernel
theorem dX0_left_49 : decode cX0_left 49 = .ok (.iaload, 1) := by decide +kernel
theorem dX0_left_50 : decode cX0_left 50 = .ok (.iadd, 1) := by decide +kernel
theorem dX0_left_51 : decode cX0_left 51 = .ok (.istore_n 1, 1) := by decide +kernel
theorem dX0_left_52 : decode cX0_left 52 = .ok (.iinc 2 1, 3) := by decide +kernel
theorem dX0_left_55 : decode cX0_left 55 = .ok (.goto (-20), 3) := by decide +kernel
theorem dX0_left_58 : decode cX0_left 58 = .ok (.iload_n 1, 1) := by decide +kernel
theorem dX0_left_59 : decode cX0_left 59 = .ok (.ireturn, 1) := by decide +kernel
def fX0_left_35 : Nat → Int32 → Int32 → SS → Option (Int32 × SS)
  | 0, _, _, _ => none
  | n + 1, x1, x2, s => if (s.1 0 0) ≤ x2 then (some (x1, s)) else (if ixB x2 8 then (fX0_left_35 n (x1 + (s.1 4 x2.toNatClampNeg)) (x2 + (1 : Int32)) s) else none)
def fX0_left_4 : Nat → Int32 → Int32 → SS → Option (Int32 × SS)
  | 0, _, _, _ => none
  | n + 1, x1, x2, s => if (s.1 0 11) ≤ x2 then (fX0_left_35 FU x1 (0 : Int32) s) else (if ixB x2 3 then (((fX0_allWetOf x2 s).bind fun z3 => fX0_left_4 n (x1 + ((s.1 2 x2.toNatClampNeg) + z3.1)) (x2 + (1 : Int32)) z3.2)) else none)
def fX0_left_0 (s : SS) : Option (Int32 × SS) := fX0_left_4 FU (0 : Int32) (0 : Int32) s
def fX0_left (s : SS) : Option (Int32 × SS) := fX0_left_0 s
set_option maxRecDepth 100000 in
set_option maxHeartbeats 4000000 in
theorem okX0_left_35 {G : GG} {pl : Nat → Nat} {h0 : PH} : ∀ (n : Nat) (x1 : Int32) (x2 : Int32) (s : SS), EvF G 2 mX0_left lyC pl h0 rvI (fX0_left_35 n x1 x2 s) 35 [(0, .ref (pl 0)), (1, .int x1), (2, .int x2)] [] s := by
  intro n
  induction n with
  | zero => intro x1 x2 s; rw [fX0_left_35]; exact ef_none
  | succ n ih =>
    intro x1 x2 s
    rw [fX0_left_35]
    refine ef_iload_n (q := 36) 2 dX0_left_35 rfl rfl rfl ?_
    refine ef_aload_n (q := 37) 0 dX0_left_36 rfl rfl rfl ?_
    refine ef_getI (x := s.1 0 0) (q := 40) rfl fl0_9 rfl rfl dX0_left_37 rfl ?_
    refine ef_if (pt := 58) (pf := 43) (fun _ _ => ev_icmp_ge (tgt := 58) dX0_left_40 (by decide)) (fun h1 => ?_) (fun h1 => ?_)
    · refine ef_iload_n (q := 59) 1 dX0_left_58 rfl rfl rfl ?_
      exact ef_iret rfl dX0_left_59
    · refine ef_iload_n (q := 44) 1 dX0_left_43 rfl rfl rfl ?_
      refine ef_aload_n (q := 45) 0 dX0_left_44 rfl rfl rfl ?_
      refine ef_getR (t := 4) (q := 48) rfl fl0_58 rfl rfl dX0_left_45 rfl ?_
      refine ef_iload_n (q := 49) 2 dX0_left_48 rfl rfl rfl ?_
      refine ef_guard (fun g2 => ?_)
      refine ef_iaload (x := s.1 4 x2.toNatClampNeg) (q := 50) rfl g2 dX0_left_49 rfl rfl ?_
      refine ef_iadd (q := 51) dX0_left_50 rfl ?_
      refine ef_istore_n (lv' := [(1, .int (x1 + (s.1 4 x2.toNatClampNeg))), (0, .ref (pl 0)), (2, .int x2)]) (q := 52) dX0_left_51 rfl (by decide) rfl rfl ?_
      refine ef_iinc (v := x2 + (1 : Int32)) (lv' := [(2, .int (x2 + (1 : Int32))), (1, .int (x1 + (s.1 4 x2.toNatClampNeg))), (0, .ref (pl 0))]) (q := 55) 2 dX0_left_52 rfl rfl (by decide) rfl rfl ?_
      refine ef_goto (tgt := 35) dX0_left_55 (by decide) ?_
      refine ef_sub (lv' := [(0, .ref (pl 0)), (1, .int (x1 + (s.1 4 x2.toNatClampNeg))), (2, .int (x2 + (1 : Int32)))]) [2, 1, 0] rfl ?_
      exact ih (x1 + (s.1 4 x2.toNatClampNeg)) (x2 + (1 : Int32)) s
set_option maxRecDepth 100000 in
set_option maxHeartbeats 4000000 in
theorem okX0_left_4 {G : GG} {pl : Nat → Nat} {h0 : PH} : ∀ (n : Nat) (x1 : Int32) (x2 : Int32) (s : SS), EvF G 2 mX0_left lyC pl h0 rvI (fX0_left_4 n x1 x2 s) 4 [(0, .ref (pl 0)), (1, .int x1), (2, .int x2)] [] s := by
  intro n
  induction n with
  | zero => intro x1 x2 s; rw [fX0_left_4]; exact ef_none
  | succ n ih =>
    intro x1 x2 s
    rw [fX0_left_4]
    refine ef_iload_n (q := 5) 2 dX0_left_4 rfl rfl rfl ?_
    refine ef_aload_n (q := 6) 0 dX0_left_5 rfl rfl rfl ?_
    refine ef_getI (x := s.1 0 11) (q := 9) rfl fl0_45 rfl rfl dX0_left_6 rfl ?_
    refine ef_if (pt := 33) (pf := 12) (fun _ _ => ev_icmp_ge (tgt := 33) dX0_left_9 (by decide)) (fun h1 => ?_) (fun h1 => ?_)
    · refine ef_iconst (v := (0 : Int32)) (q := 34) dX0_left_33 (by decide) rfl ?_
      refine ef_istore_n (lv' := [(2, .int (0 : Int32)), (0, .ref (pl 0)), (1, .int x1)]) (q := 35) dX0_left_34 rfl (by decide) rfl rfl ?_
      refine ef_sub (lv' := [(0, .ref (pl 0)), (1, .int x1), (2, .int (0 : Int32))]) [1, 2, 0] rfl ?_
      exact okX0_left_35 FU x1 (0 : Int32) s
    · refine ef_iload_n (q := 13) 1 dX0_left_12 rfl rfl rfl ?_
      refine ef_aload_n (q := 14) 0 dX0_left_13 rfl rfl rfl ?_
      refine ef_getR (t := 2) (q := 17) rfl fl0_52 rfl rfl dX0_left_14 rfl ?_
      refine ef_iload_n (q := 18) 2 dX0_left_17 rfl rfl rfl ?_
      refine ef_guard (fun g2 => ?_)
      refine ef_iaload (x := s.1 2 x2.toNatClampNeg) (q := 19) rfl g2 dX0_left_18 rfl rfl ?_
      refine ef_aload_n (q := 20) 0 dX0_left_19 rfl rfl rfl ?_
      refine ef_iload_n (q := 21) 2 dX0_left_20 rfl rfl rfl ?_
      refine ef_invVI0 (k := 0) (As := [.int x2]) (rest := [.int (s.1 2 x2.toNatClampNeg), .int x1]) (q := 24) (okX0_allWetOf x2) rfl calX0_allWetOf ml0_85 (by decide) rfl rfl rfl (Nat.le_of_ble_eq_true rfl) dX0_left_21 rfl (fun z3 => ?_)
      refine ef_iadd (q := 25) dX0_left_24 rfl ?_
      refine ef_iadd (q := 26) dX0_left_25 rfl ?_
      refine ef_istore_n (lv' := [(1, .int (x1 + ((s.1 2 x2.toNatClampNeg) + z3.1))), (0, .ref (pl 0)), (2, .int x2)]) (q := 27) dX0_left_26 rfl (by decide) rfl rfl ?_
      refine ef_iinc (v := x2 + (1 : Int32)) (lv' := [(2, .int (x2 + (1 : Int32))), (1, .int (x1 + ((s.1 2 x2.toNatClampNeg) + z3.1))), (0, .ref (pl 0))]) (q := 30) 2 dX0_left_27 rfl rfl (by decide) rfl rfl ?_
      refine ef_goto (tgt := 4) dX0_left_30 (by decide) ?_
      refine ef_sub (lv' := [(0, .ref (pl 0)), (1, .int (x1 + ((s.1 2 x2.toNatClampNeg) + z3.1))), (2, .int (x2 + (1 : Int32)))]) [2, 1, 0] rfl ?_
      exact ih (x1 + ((s.1 2 x2.toNatClampNeg) + z3.1)) (x2 + (1 : Int32)) z3.2
set_option maxRecDepth 100000 in
set_option maxHeartbeats 4000000 in
theorem okX0_left_0 {G : GG} {pl : Nat → Nat} {h0 : PH} (s : SS) : EvF G 2 mX0_left lyC pl h0 rvI (fX0_left_0 s) 0 [(0, .ref (pl 0))] [] s := by
  unfold fX0_left_0
  refine ef_iconst (v := (0 : Int32)) (q := 1) dX0_left_0 (by decide) rfl ?_
  refine ef_istore_n (lv' := [(1, .int (0 : Int32)), (0, .ref (pl 0))]) (q := 2) dX0_left_1 rfl (by decide) rfl rfl ?_
  refine ef_iconst (v := (0 : Int32)) (q := 3) dX0_left_2 (by decide) rfl ?_
  refine ef_istore_n (lv' := [(2, .int (0 : Int32)), (1, .int (0 : Int32)), (0, .ref (pl 0))]) (q := 4) dX0_left_3 rfl (by decide) rfl rfl ?_
  refine ef_sub (lv' := [(0, .ref (pl 0)), (1, .int (0 : Int32)), (2, .int (0 : Int32))]) [2, 1, 0] rfl ?_
  exact okX0_left_4 FU (0 : Int32) (0 : Int32) s
theorem okX0_left : MtF 2 mX0_left lyC rvI (fun _ pl => [.ref (pl 0)]) (fX0_left) := by
  refine MtF.of (by decide +kernel) rfl (fun _ pl => Nat.le_of_ble_eq_true rfl) (fun G pl h0 s => ?_)
  refine ef_sub (lv := [(0, .ref (pl 0))]) (lv' := [(0, .ref (pl 0))]) [0] rfl ?_
  exact okX0_left_0  s
-- X0_hasMeltedScoop
theorem dX0_hasMeltedScoop_0 : decode cX0_hasMeltedScoop 0 = .ok (.iconst 0, 1) := by decide +kernel
theorem dX0_hasMeltedScoop_1 : decode cX0_hasMeltedScoop 1 = .ok (.istore_n 1, 1) := by decide +kernel
theorem dX0_hasMeltedScoop_2 : decode cX0_hasMeltedScoop 2 = .ok (.iload_n 1, 1) := by decide +kernel
theorem dX0_hasMeltedScoop_3 : decode cX0_hasMeltedScoop 3 = .ok (.aload_n 0, 1) := by decide +kernel
theorem dX0_hasMeltedScoop_4 : decode cX0_hasMeltedScoop 4 = .ok (.getfield 45, 3) := by decide +kernel
theorem dX0_hasMeltedScoop_7 : decode cX0_hasMeltedScoop 7 = .ok (.if_icmp .ge 20, 3) := by decide +kernel
theorem dX0_hasMeltedScoop_10 : decode cX0_hasMeltedScoop 10 = .ok (.aload_n 0, 1) := by decide +kernel
theorem dX0_hasMeltedScoop_11 : decode cX0_hasMeltedScoop 11 = .ok (.getfield 52, 3) := by decide +kernel
theorem dX0_hasMeltedScoop_14 : decode cX0_hasMeltedScoop 14 = .ok (.iload_n 1, 1) := by decide +kernel
theorem dX0_hasMeltedScoop_15 : decode cX0_hasMeltedScoop 15 = .ok (.iaload, 1) := by decide +kernel
theorem dX0_hasMeltedScoop_16 : decode cX0_hasMeltedScoop 16 = .ok (.ifCond .ne 5, 3) := by decide +kernel
theorem dX0_hasMeltedScoop_19 : decode cX0_hasMeltedScoop 19 = .ok (.iconst 1, 1) := by decide +kernel
theorem dX0_hasMeltedScoop_20 : decode cX0_hasMeltedScoop 20 = .ok (.ireturn, 1) := by decide +kernel
theorem dX0_hasMeltedScoop_21 : decode cX0_hasMeltedScoop 21 = .ok (.iinc 1 1, 3) := by decide +kernel
theorem dX0_hasMeltedScoop_24 : decode cX0_hasMeltedScoop 24 = .ok (.goto (-22), 3) := by decide +kernel
theorem dX0_hasMeltedScoop_27 : decode cX0_hasMeltedScoop 27 = .ok (.iconst 0, 1) := by decide +kernel
theorem dX0_hasMeltedScoop_28 : decode cX0_hasMeltedScoop 28 = .ok (.ireturn, 1) := by decide +kernel
def fX0_hasMeltedScoop_2 : Nat → Int32 → SS → Option (Int32 × SS)
  | 0, _, _ => none
  | n + 1, x1, s => if (s.1 0 11) ≤ x1 then (some ((0 : Int32), s)) else (if ixB x1 3 then (if (s.1 2 x1.toNatClampNeg) = 0 then (some ((1 : Int32), s)) else (fX0_hasMeltedScoop_2 n (x1 + (1 : Int32)) s)) else none)
def fX0_hasMeltedScoop_0 (s : SS) : Option (Int32 × SS) := fX0_hasMeltedScoop_2 FU (0 : Int32) s
def fX0_hasMeltedScoop (s : SS) : Option (Int32 × SS) := fX0_hasMeltedScoop_0 s
set_option maxRecDepth 100000 in
set_option maxHeartbeats 4000000 in
theorem okX0_hasMeltedScoop_2 {G : GG} {pl : Nat → Nat} {h0 : PH} : ∀ (n : Nat) (x1 : Int32) (s : SS), EvF G 0 mX0_hasMeltedScoop lyC pl h0 rvI (fX0_hasMeltedScoop_2 n x1 s) 2 [(0, .ref (pl 0)), (1, .int x1)] [] s := by
  intro n
  induction n with
  | zero => intro x1 s; rw [fX0_hasMeltedScoop_2]; exact ef_none
  | succ n ih =>
    intro x1 s
    rw [fX0_hasMeltedScoop_2]
    refine ef_iload_n (q := 3) 1 dX0_hasMeltedScoop_2 rfl rfl rfl ?_
    refine ef_aload_n (q := 4) 0 dX0_hasMeltedScoop_3 rfl rfl rfl ?_
    refine ef_getI (x := s.1 0 11) (q := 7) rfl fl0_45 rfl rfl dX0_hasMeltedScoop_4 rfl ?_
    refine ef_if (pt := 27) (pf := 10) (fun _ _ => ev_icmp_ge (tgt := 27) dX0_hasMeltedScoop_7 (by decide)) (fun h1 => ?_) (fun h1 => ?_)
    · refine ef_iconst (v := (0 : Int32)) (q := 28) dX0_hasMeltedScoop_27 (by decide) rfl ?_
      exact ef_zretc (x := (0 : Int32)) (by decide) rfl dX0_hasMeltedScoop_28
    · refine ef_aload_n (q := 11) 0 dX0_hasMeltedScoop_10 rfl rfl rfl ?_
      refine ef_getR (t := 2) (q := 14) rfl fl0_52 rfl rfl dX0_hasMeltedScoop_11 rfl ?_
      refine ef_iload_n (q := 15) 1 dX0_hasMeltedScoop_14 rfl rfl rfl ?_
      refine ef_guard (fun g2 => ?_)
      refine ef_iaload (x := s.1 2 x1.toNatClampNeg) (q := 16) rfl g2 dX0_hasMeltedScoop_15 rfl rfl ?_
      refine ef_if (pt := 19) (pf := 21) (fun _ _ kt kf => ev_if_ne (tgt := 21) dX0_hasMeltedScoop_16 (by decide) kf kt) (fun h3 => ?_) (fun h3 => ?_)
      · refine ef_iconst (v := (1 : Int32)) (q := 20) dX0_hasMeltedScoop_19 (by decide) rfl ?_
        exact ef_zretc (x := (1 : Int32)) (by decide) rfl dX0_hasMeltedScoop_20
      · refine ef_iinc (v := x1 + (1 : Int32)) (lv' := [(1, .int (x1 + (1 : Int32))), (0, .ref (pl 0))]) (q := 24) 1 dX0_hasMeltedScoop_21 rfl rfl (by decide) rfl rfl ?_
        refine ef_goto (tgt := 2) dX0_hasMeltedScoop_24 (by decide) ?_
        refine ef_sub (lv' := [(0, .ref (pl 0)), (1, .int (x1 + (1 : Int32)))]) [1, 0] rfl ?_
        exact ih (x1 + (1 : Int32)) s
set_option maxRecDepth 100000 in
set_option maxHeartbeats 4000000 in
theorem okX0_hasMeltedScoop_0 {G : GG} {pl : Nat → Nat} {h0 : PH} (s : SS) : EvF G 0 mX0_hasMeltedScoop lyC pl h0 rvI (fX0_hasMeltedScoop_0 s) 0 [(0, .ref (pl 0))] [] s := by
  unfold fX0_hasMeltedScoop_0
  refine ef_iconst (v := (0 : Int32)) (q := 1) dX0_hasMeltedScoop_0 (by decide) rfl ?_
  refine ef_istore_n (lv' := [(1, .int (0 : Int32)), (0, .ref (pl 0))]) (q := 2) dX0_hasMeltedScoop_1 rfl (by decide) rfl rfl ?_
  refine ef_sub (lv' := [(0, .ref (pl 0)), (1, .int (0 : Int32))]) [1, 0] rfl ?_
  exact okX0_hasMeltedScoop_2 FU (0 : Int32) s
theorem okX0_hasMeltedScoop : MtF 0 mX0_hasMeltedScoop lyC rvI (fun _ pl => [.ref (pl 0)]) (fX0_hasMeltedScoop) := by
  refine MtF.of (by decide +kernel) rfl (fun _ pl => Nat.le_of_ble_eq_true rfl) (fun G pl h0 s => ?_)
  refine ef_sub (lv := [(0, .ref (pl 0))]) (lv' := [(0, .ref (pl 0))]) [0] rfl ?_
  exact okX0_hasMeltedScoop_0  s
-- X0_wettestSide
theorem dX0_wettestSide_0 : decode cX0_wettestSide 0 = .ok (.iconst 0, 1) := by decide +kernel
theorem dX0_wettestSide_1 : decode cX0_wettestSide 1 = .ok (.istore_n 1, 1) := by decide +kernel
theorem dX0_wettestSide_2 : decode cX0_wettestSide 2 = .ok (.iconst 0, 1) := by decide +kernel
theorem dX0_wettestSide_3 : decode cX0_wettestSide 3 = .ok (.istore_n 2, 1) := by decide +kernel
theorem dX0_wettestSide_4 : decode cX0_wettestSide 4 = .ok (.iconst 0, 1) := by decide +kernel
theorem dX0_wettestSide_5 : decode cX0_wettestSide 5 = .ok (.istore_n 3, 1) := by decide +kernel
theorem dX0_wettestSide_6 : decode cX0_wettestSide 6 = .ok (.iload_n 3, 1) := by decide +kernel
theorem dX0_wettestSide_7 : decode cX0_wettestSide 7 = .ok (.aload_n 0, 1) := by decide +kernel
theorem dX0_wettestSide_8 : decode cX0_wettestSide 8 = .ok (.getfield 9, 3) := by decide +kernel
theorem dX0_wettestSide_11 : decode cX0_wettestSide 11 = .ok (.if_icmp .ge 58, 3) := by decide +kernel
theorem dX0_wettestSide_14 : decode cX0_wettestSide 14 = .ok (.aload_n 0, 1) := by decide +kernel
theorem dX0_wettestSide_15 : decode cX0_wettestSide 15 = .ok (.getfield 58, 3) := by decide +kernel
theorem dX0_wettestSide_18 : decode cX0_wettestSide 18 = .ok (.iload_n 3, 1) := by decide +kernel
theorem dX0_wettestSide_19 : decode cX0_wettestSide 19 = .ok (.iaload, 1) := by decide +kernel
theorem dX0_wettestSide_20 : decode cX0_wettestSide 20 = .ok (.istore 4, 2) := by decide +kernel
theorem dX0_wettestSide_22 : decode cX0_wettestSide 22 = .ok (.iconst 0, 1) := by decide +kernel
theorem dX0_wettestSide_23 : decode cX0_wettestSide 23 = .ok (.istore 5, 2) := by decide +kernel
theorem dX0_wettestSide_25 : decode cX0_wettestSide 25 = .ok (.iload 5, 2) := by decide +kernel
theorem dX0_wettestSide_27 : decode cX0_wettestSide 27 = .ok (.aload_n 0, 1) := by decide +kernel
theorem dX0_wettestSide_28 : decode cX0_wettestSide 28 = .ok (.getfield 45, 3) := by decide +kernel
theorem dX0_wettestSide_31 : decode cX0_wettestSide 31 = .ok (.if_icmp .ge 21, 3) := by decide +kernel
theorem dX0_wettestSide_34 : decode cX0_wettestSide 34 = .ok (.iload 4, 2) := by decide +kernel
theorem dX0_wettestSide_36 : decode cX0_wettestSide 36 = .ok (.aload_n 0, 1) := by decide +kernel
theorem dX0_wettestSide_37 : decode cX0_wettestSide 37 = .ok (.iload 5, 2) := by decide +kernel
theorem dX0_wettestSide_39 : decode cX0_wettestSide 39 = .ok (.iload_n 3, 1) := by decide +kernel
theorem dX0_wettestSide_40 : decode cX0_wettestSide 40 = .ok (.invokevirtual 78, 3) := by decide +kernel
theorem dX0_wettestSide_43 : decode cX0_wettestSide 43 = .ok (.iadd, 1) := by decide +kernel
theorem dX0_wettestSide_44 : decode cX0_wettestSide 44 = .ok (.istore 4, 2) := by decide +kernel
theorem dX0_wettestSide_46 : decode cX0_wettestSide 46 = .ok (.iinc 5 1, 3) := by decide +kernel
theorem dX0_wettestSide_49 : decode cX0_wettestSide 49 = .ok (.goto (-24), 3) := by decide +kernel
theorem dX0_wettestSide_52 : decode cX0_wettestSide 52 = .ok (.iload 4, 2) := by decide +kernel
theorem dX0_wettestSide_54 : decode cX0_wettestSide 54 = .ok (.iload_n 2, 1) := by decide +kernel
theorem dX0_wettestSide_55 : decode cX0_wettestSide 55 = .ok (.if_icmp .le 8, 3) := by decide +kernel
theorem dX0_wettestSide_58 : decode cX0_wettestSide 58 = .ok (.iload_n 3, 1) := by decide +kernel
theorem dX0_wettestSide_59 : decode cX0_wettestSide 59 = .ok (.istore_n 1, 1) := by decide +kernel
theorem dX0_wettestSide_60 : decode cX0_wettestSide 60 = .ok (.iload 4, 2) := by decide +kernel
theorem dX0_wettestSide_62 : decode cX0_wettestSide 62 = .ok (.istore_n 2, 1) := by decide +kernel
theorem dX0_wettestSide_63 : decode cX0_wettestSide 63 = .ok (.iinc 3 1, 3) := by decide +kernel
theorem dX0_wettestSide_66 : decode cX0_wettestSide 66 = .ok (.goto (-60), 3) := by decide +kernel
theorem dX0_wettestSide_69 : decode cX0_wettestSide 69 = .ok (.iload_n 1, 1) := by decide +kernel
theorem dX0_wettestSide_70 : decode cX0_wettestSide 70 = .ok (.ireturn, 1) := by decide +kernel
def fX0_wettestSide_25 (rec_6 : Int32 → Int32 → Int32 → SS → Option (Int32 × SS)) : Nat → Int32 → Int32 → Int32 → Int32 → Int32 → SS → Option (Int32 × SS)
  | 0, _, _, _, _, _, _ => none
  | n + 1, x1, x2, x3, x4, x5, s => if (s.1 0 11) ≤ x5 then (if x4 ≤ x2 then (rec_6 x1 x2 (x3 + (1 : Int32)) s) else (rec_6 x3 x4 (x3 + (1 : Int32)) s)) else (((fX0_wetAt x5 x3 s).bind fun z3 => fX0_wettestSide_25 rec_6 n x1 x2 x3 (x4 + z3.1) (x5 + (1 : Int32)) z3.2))
def fX0_wettestSide_6 : Nat → Int32 → Int32 → Int32 → SS → Option (Int32 × SS)
  | 0, _, _, _, _ => none
  | n + 1, x1, x2, x3, s => if (s.1 0 0) ≤ x3 then (some (x1, s)) else (if ixB x3 8 then (fX0_wettestSide_25 (fX0_wettestSide_6 n) FU x1 x2 x3 (s.1 4 x3.toNatClampNeg) (0 : Int32) s) else none)
def fX0_wettestSide_0 (s : SS) : Option (Int32 × SS) := fX0_wettestSide_6 FU (0 : Int32) (0 : Int32) (0 : Int32) s
def fX0_wettestSide (s : SS) : Option (Int32 × SS) := fX0_wettestSide_0 s
set_option maxRecDepth 100000 in
set_option maxHeartbeats 4000000 in
theorem okX0_wettestSide_25 {G : GG} {pl : Nat → Nat} {h0 : PH} (rec_6 : Int32 → Int32 → Int32 → SS → Option (Int32 × SS)) (hrec_6 : ∀ (x1 : Int32) (x2 : Int32) (x3 : Int32) (s : SS), EvF G 1 mX0_wettestSide lyC pl h0 rvI (rec_6 x1 x2 x3 s) 6 [(0, .ref (pl 0)), (1, .int x1), (2, .int x2), (3, .int x3)] [] s) : ∀ (n : Nat) (x1 : Int32) (x2 : Int32) (x3 : Int32) (x4 : Int32) (x5 : Int32) (s : SS), EvF G 1 mX0_wettestSide lyC pl h0 rvI (fX0_wettestSide_25 rec_6 n x1 x2 x3 x4 x5 s) 25 [(0, .ref (pl 0)), (1, .int x1), (2, .int x2), (3, .int x3), (4, .int x4), (5, .int x5)] [] s := by
  intro n
  induction n with
  | zero => intro x1 x2 x3 x4 x5 s; rw [fX0_wettestSide_25]; exact ef_none
  | succ n ih =>
    intro x1 x2 x3 x4 x5 s
    rw [fX0_wettestSide_25]
    refine ef_iload (q := 27) 5 dX0_wettestSide_25 rfl rfl ?_
    refine ef_aload_n (q := 28) 0 dX0_wettestSide_27 rfl rfl rfl ?_
    refine ef_getI (x := s.1 0 11) (q := 31) rfl fl0_45 rfl rfl dX0_wettestSide_28 rfl ?_
    refine ef_if (pt := 52) (pf := 34) (fun _ _ => ev_icmp_ge (tgt := 52) dX0_wettestSide_31 (by decide)) (fun h1 => ?_) (fun h1 => ?_)
    · refine ef_iload (q := 54) 4 dX0_wettestSide_52 rfl rfl ?_
      refine ef_iload_n (q := 55) 2 dX0_wettestSide_54 rfl rfl rfl ?_
      refine ef_if (pt := 63) (pf := 58) (fun _ _ => ev_icmp_le (tgt := 63) dX0_wettestSide_55 (by decide)) (fun h2 => ?_) (fun h2 => ?_)
      · refine ef_iinc (v := x3 + (1 : Int32)) (lv' := [(3, .int (x3 + (1 : Int32))), (0, .ref (pl 0)), (1, .int x1), (2, .int x2), (4, .int x4), (5, .int x5)]) (q := 66) 3 dX0_wettestSide_63 rfl rfl (by decide) rfl rfl ?_
        refine ef_goto (tgt := 6) dX0_wettestSide_66 (by decide) ?_
        refine ef_sub (lv' := [(0, .ref (pl 0)), (1, .int x1), (2, .int x2), (3, .int (x3 + (1 : Int32)))]) [1, 2, 3, 0] rfl ?_
        exact hrec_6 x1 x2 (x3 + (1 : Int32)) s
      · refine ef_iload_n (q := 59) 3 dX0_wettestSide_58 rfl rfl rfl ?_
        refine ef_istore_n (lv' := [(1, .int x3), (0, .ref (pl 0)), (2, .int x2), (3, .int x3), (4, .int x4), (5, .int x5)]) (q := 60) dX0_wettestSide_59 rfl (by decide) rfl rfl ?_
        refine ef_iload (q := 62) 4 dX0_wettestSide_60 rfl rfl ?_
        refine ef_istore_n (lv' := [(2, .int x4), (1, .int x3), (0, .ref (pl 0)), (3, .int x3), (4, .int x4), (5, .int x5)]) (q := 63) dX0_wettestSide_62 rfl (by decide) rfl rfl ?_
        refine ef_iinc (v := x3 + (1 : Int32)) (lv' := [(3, .int (x3 + (1 : Int32))), (2, .int x4), (1, .int x3), (0, .ref (pl 0)), (4, .int x4), (5, .int x5)]) (q := 66) 3 dX0_wettestSide_63 rfl rfl (by decide) rfl rfl ?_
        refine ef_goto (tgt := 6) dX0_wettestSide_66 (by decide) ?_
        refine ef_sub (lv' := [(0, .ref (pl 0)), (1, .int x3), (2, .int x4), (3, .int (x3 + (1 : Int32)))]) [3, 2, 1, 0] rfl ?_
        exact hrec_6 x3 x4 (x3 + (1 : Int32)) s
    · refine ef_iload (q := 36) 4 dX0_wettestSide_34 rfl rfl ?_
      refine ef_aload_n (q := 37) 0 dX0_wettestSide_36 rfl rfl rfl ?_
      refine ef_iload (q := 39) 5 dX0_wettestSide_37 rfl rfl ?_
      refine ef_iload_n (q := 40) 3 dX0_wettestSide_39 rfl rfl rfl ?_
      refine ef_invVI0 (k := 0) (As := [.int x5, .int x3]) (rest := [.int x4]) (q := 43) (okX0_wetAt x5 x3) rfl calX0_wetAt ml0_78 (by decide) rfl rfl rfl (Nat.le_of_ble_eq_true rfl) dX0_wettestSide_40 rfl (fun z3 => ?_)
      refine ef_iadd (q := 44) dX0_wettestSide_43 rfl ?_
      refine ef_istore (lv' := [(4, .int (x4 + z3.1)), (0, .ref (pl 0)), (1, .int x1), (2, .int x2), (3, .int x3), (5, .int x5)]) (q := 46) dX0_wettestSide_44 (by decide) rfl rfl ?_
      refine ef_iinc (v := x5 + (1 : Int32)) (lv' := [(5, .int (x5 + (1 : Int32))), (4, .int (x4 + z3.1)), (0, .ref (pl 0)), (1, .int x1), (2, .int x2), (3, .int x3)]) (q := 49) 5 dX0_wettestSide_46 rfl rfl (by decide) rfl rfl ?_
      refine ef_goto (tgt := 25) dX0_wettestSide_49 (by decide) ?_
      refine ef_sub (lv' := [(0, .ref (pl 0)), (1, .int x1), (2, .int x2), (3, .int x3), (4, .int (x4 + z3.1)), (5, .int (x5 + (1 : Int32)))]) [2, 3, 4, 5, 1, 0] rfl ?_
      exact ih x1 x2 x3 (x4 + z3.1) (x5 + (1 : Int32)) z3.2
set_option maxRecDepth 100000 in
set_option maxHeartbeats 4000000 in
theorem okX0_wettestSide_6 {G : GG} {pl : Nat → Nat} {h0 : PH} : ∀ (n : Nat) (x1 : Int32) (x2 : Int32) (x3 : Int32) (s : SS), EvF G 1 mX0_wettestSide lyC pl h0 rvI (fX0_wettestSide_6 n x1 x2 x3 s) 6 [(0, .ref (pl 0)), (1, .int x1), (2, .int x2), (3, .int x3)] [] s := by
  intro n
  induction n with
  | zero => intro x1 x2 x3 s; rw [fX0_wettestSide_6]; exact ef_none
  | succ n ih =>
    intro x1 x2 x3 s
    rw [fX0_wettestSide_6]
    refine ef_iload_n (q := 7) 3 dX0_wettestSide_6 rfl rfl rfl ?_
    refine ef_aload_n (q := 8) 0 dX0_wettestSide_7 rfl rfl rfl ?_
    refine ef_getI (x := s.1 0 0) (q := 11) rfl fl0_9 rfl rfl dX0_wettestSide_8 rfl ?_
    refine ef_if (pt := 69) (pf := 14) (fun _ _ => ev_icmp_ge (tgt := 69) dX0_wettestSide_11 (by decide)) (fun h1 => ?_) (fun h1 => ?_)
    · refine ef_iload_n (q := 70) 1 dX0_wettestSide_69 rfl rfl rfl ?_
      exact ef_iret rfl dX0_wettestSide_70
    · refine ef_aload_n (q := 15) 0 dX0_wettestSide_14 rfl rfl rfl ?_
      refine ef_getR (t := 4) (q := 18) rfl fl0_58 rfl rfl dX0_wettestSide_15 rfl ?_
      refine ef_iload_n (q := 19) 3 dX0_wettestSide_18 rfl rfl rfl ?_
      refine ef_guard (fun g2 => ?_)
      refine ef_iaload (x := s.1 4 x3.toNatClampNeg) (q := 20) rfl g2 dX0_wettestSide_19 rfl rfl ?_
      refine ef_istore (lv' := [(4, .int (s.1 4 x3.toNatClampNeg)), (0, .ref (pl 0)), (1, .int x1), (2, .int x2), (3, .int x3)]) (q := 22) dX0_wettestSide_20 (by decide) rfl rfl ?_
      refine ef_iconst (v := (0 : Int32)) (q := 23) dX0_wettestSide_22 (by decide) rfl ?_
      refine ef_istore (lv' := [(5, .int (0 : Int32)), (4, .int (s.1 4 x3.toNatClampNeg)), (0, .ref (pl 0)), (1, .int x1), (2, .int x2), (3, .int x3)]) (q := 25) dX0_wettestSide_23 (by decide) rfl rfl ?_
      refine ef_sub (lv' := [(0, .ref (pl 0)), (1, .int x1), (2, .int x2), (3, .int x3), (4, .int (s.1 4 x3.toNatClampNeg)), (5, .int (0 : Int32))]) [2, 3, 4, 5, 1, 0] rfl ?_
      exact okX0_wettestSide_25 (fX0_wettestSide_6 n) ih FU x1 x2 x3 (s.1 4 x3.toNatClampNeg) (0 : Int32) s
set_option maxRecDepth 100000 in
set_option maxHeartbeats 4000000 in
theorem okX0_wettestSide_0 {G : GG} {pl : Nat → Nat} {h0 : PH} (s : SS) : EvF G 1 mX0_wettestSide lyC pl h0 rvI (fX0_wettestSide_0 s) 0 [(0, .ref (pl 0))] [] s := by
  unfold fX0_wettestSide_0
  refine ef_iconst (v := (0 : Int32)) (q := 1) dX0_wettestSide_0 (by decide) rfl ?_
  refine ef_istore_n (lv' := [(1, .int (0 : Int32)), (0, .ref (pl 0))]) (q := 2) dX0_wettestSide_1 rfl (by decide) rfl rfl ?_
  refine ef_iconst (v := (0 : Int32)) (q := 3) dX0_wettestSide_2 (by decide) rfl ?_
  refine ef_istore_n (lv' := [(2, .int (0 : Int32)), (1, .int (0 : Int32)), (0, .ref (pl 0))]) (q := 4) dX0_wettestSide_3 rfl (by decide) rfl rfl ?_
  refine ef_iconst (v := (0 : Int32)) (q := 5) dX0_wettestSide_4 (by decide) rfl ?_
  refine ef_istore_n (lv' := [(3, .int (0 : Int32)), (2, .int (0 : Int32)), (1, .int (0 : Int32)), (0, .ref (pl 0))]) (q := 6) dX0_wettestSide_5 rfl (by decide) rfl rfl ?_
  refine ef_sub (lv' := [(0, .ref (pl 0)), (1, .int (0 : Int32)), (2, .int (0 : Int32)), (3, .int (0 : Int32))]) [3, 2, 1, 0] rfl ?_
  exact okX0_wettestSide_6 FU (0 : Int32) (0 : Int32) (0 : Int32) s
theorem okX0_wettestSide : MtF 1 mX0_wettestSide lyC rvI (fun _ pl => [.ref (pl 0)]) (fX0_wettestSide) := by
  refine MtF.of (by decide +kernel) rfl (fun _ pl => Nat.le_of_ble_eq_true rfl) (fun G pl h0 s => ?_)
  refine ef_sub (lv := [(0, .ref (pl 0))]) (lv' := [(0, .ref (pl 0))]) [0] rfl ?_
  exact okX0_wettestSide_0  s
-- X0_isWetLower
theorem dX0_isWetLower_0 : decode cX0_isWetLower 0 = .ok (.aload_n 0, 1) := by decide +kernel
theorem dX0_isWetLower_1 : decode cX0_isWetLower 1 = .ok (.getfield 58, 3) := by decide +kernel
theorem dX0_isWetLower_4 : decode cX0_isWetLower 4 = .ok (.iload_n 1, 1) := by decide +kernel
theorem dX0_isWetLower_5 : decode cX0_isWetLower 5 = .ok (.iaload, 1) := by decide +kernel
theorem dX0_isWetLower_6 : decode cX0_isWetLower 6 = .ok (.aload_n 0, 1) := by decide +kernel
theorem dX0_isWetLower_7 : decode cX0_isWetLower 7 = .ok (.getfield 58, 3) := by decide +kernel
theorem dX0_isWetLower_10 : decode cX0_isWetLower 10 = .ok (.iload_n 2, 1) := by decide +kernel
theorem dX0_isWetLower_11 : decode cX0_isWetLower 11 = .ok (.iaload, 1) := by decide +kernel
theorem dX0_isWetLower_12 : decode cX0_isWetLower 12 = .ok (.if_icmp .eq 24, 3) := by decide +kernel
theorem dX0_isWetLower_15 : decode cX0_isWetLower 15 = .ok (.aload_n 0, 1) := by decide +kernel
theorem dX0_isWetLower_16 : decode cX0_isWetLower 16 = .ok (.getfield 58, 3) := by decide +kernel
theorem dX0_isWetLower_19 : decode cX0_isWetLower 19 = .ok (.iload_n 1, 1) := by decide +kernel
theorem dX0_isWetLower_20 : decode cX0_isWetLower 20 = .ok (.iaload, 1) := by decide +kernel
theorem dX0_isWetLower_21 : decode cX0_isWetLower 21 = .ok (.aload_n 0, 1) := by decide +kernel
theorem dX0_isWetLower_22 : decode cX0_isWetLower 22 = .ok (.getfield 58, 3) := by decide +kernel
theorem dX0_isWetLower_25 : decode cX0_isWetLower 25 = .ok (.iload_n 2, 1) := by decide +kernel
theorem dX0_isWetLower_26 : decode cX0_isWetLower 26 = .ok (.iaload, 1) := by decide +kernel
theorem dX0_isWetLower_27 : decode cX0_isWetLower 27 = .ok (.if_icmp .le 7, 3) := by decide +kernel
theorem dX0_isWetLower_30 : decode cX0_isWetLower 30 = .ok (.iconst 1, 1) := by decide +kernel
theorem dX0_isWetLower_31 : decode cX0_isWetLower 31 = .ok (.goto 4, 3) := by decide +kernel
theorem dX0_isWetLower_34 : decode cX0_isWetLower 34 = .ok (.iconst 0, 1) := by decide +kernel
theorem dX0_isWetLower_35 : decode cX0_isWetLower 35 = .ok (.ireturn, 1) := by decide +kernel
theorem dX0_isWetLower_36 : decode cX0_isWetLower 36 = .ok (.iconst 0, 1) := by decide +kernel
theorem dX0_isWetLower_37 : decode cX0_isWetLower 37 = .ok (.istore_n 3, 1) := by decide +kernel
theorem dX0_isWetLower_38 : decode cX0_isWetLower 38 = .ok (.iload_n 3, 1) := by decide +kernel
theorem dX0_isWetLower_39 : decode cX0_isWetLower 39 = .ok (.aload_n 0, 1) := by decide +kernel
theorem dX0_isWetLower_40 : decode cX0_isWetLower 40 = .ok (.getfield 45, 3) := by decide +kernel
theorem dX0_isWetLower_43 : decode cX0_isWetLower 43 = .ok (.if_icmp .ge 45, 3) := by decide +kernel
theorem dX0_isWetLower_46 : decode cX0_isWetLower 46 = .ok (.aload_n 0, 1) := by decide +kernel
theorem dX0_isWetLower_47 : decode cX0_isWetLower 47 = .ok (.iload_n 3, 1) := by decide +kernel
theorem dX0_isWetLower_48 : decode cX0_isWetLower 48 = .ok (.iload_n 1, 1) := by decide +kernel
theorem dX0_isWetLower_49 : decode cX0_isWetLower 49 = .ok (.invokevirtual 78, 3) := by decide +kernel
theorem dX0_isWetLower_52 : decode cX0_isWetLower 52 = .ok (.aload_n 0, 1) := by decide +kernel
theorem dX0_isWetLower_53 : decode cX0_isWetLower 53 = .ok (.iload_n 3, 1) := by decide +kernel
theorem dX0_isWetLower_54 : decode cX0_isWetLower 54 = .ok (.iload_n 2, 1) := by decide +kernel
theorem dX0_isWetLower_55 : decode cX0_isWetLower 55 = .ok (.invokevirtual 78, 3) := by decide +kernel
theorem dX0_isWetLower_58 : decode cX0_isWetLower 58 = .ok (.if_icmp .eq 24, 3) := by decide +kernel
theorem dX0_isWetLower_61 : decode cX0_isWetLower 61 = .ok (.aload_n 0, 1) := by decide +kernel
theorem dX0_isWetLower_62 : decode cX0_isWetLower 62 = .ok (.iload_n 3, 1) := by decide +kernel
theorem dX0_isWetLower_63 : decode cX0_isWetLower 63 = .ok (.iload_n 1, 1) := by decide +kernel
theorem dX0_isWetLower_64 : decode cX0_isWetLower 64 = .ok (.invokevirtual 78, 3) := by decide +kernel
theorem dX0_isWetLower_67 : decode cX0_isWetLower 67 = .ok (.aload_n 0, 1) := by decide +kernel
theorem dX0_isWetLower_68 : decode cX0_isWetLower 68 = .ok (.iload_n 3, 1) := by decide +kernel
theorem dX0_isWetLower_69 : decode cX0_isWetLower 69 = .ok (.iload_n 2, 1) := by decide +kernel
theorem dX0_isWetLower_70 : decode cX0_isWetLower 70 = .ok (.invokevirtual 78, 3) := by decide +kernel
theorem dX0_isWetLower_73 : decode cX0_isWetLower 73 = .ok (.if_icmp .le 7, 3) := by decide +kernel
theorem dX0_isWetLower_76 : decode cX0_isWetLower 76 = .ok (.iconst 1, 1) := by decide +kernel
theorem dX0_isWetLower_77 : decode cX0_isWetLower 77 = .ok (.goto 4, 3) := by decide +kernel
theorem dX0_isWetLower_80 : decode cX0_isWetLower 80 = .ok (.iconst 0, 1) := by decide +kernel
theorem dX0_isWetLower_81 : decode cX0_isWetLower 81 = .ok (.ireturn, 1) := by decide +kernel
theorem dX0_isWetLower_82 : decode cX0_isWetLower 82 = .ok (.iinc 3 1, 3) := by decide +kernel
theorem dX0_isWetLower_85 : decode cX0_isWetLower 85 = .ok (.goto (-47), 3) := by decide +kernel
theorem dX0_isWetLower_88 : decode cX0_isWetLower 88 = .ok (.iconst 0, 1) := by decide +kernel
theorem dX0_isWetLower_89 : decode cX0_isWetLower 89 = .ok (.ireturn, 1) := by decide +kernel
def fX0_isWetLower_38 : Nat → Int32 → Int32 → Int32 → SS → Option (Int32 × SS)
  | 0, _, _, _, _ => none
  | n + 1, x1, x2, x3, s => if (s.1 0 11) ≤ x3 then (some ((0 : Int32), s)) else (((fX0_wetAt x3 x1 s).bind fun z2 => ((fX0_wetAt x3 x2 z2.2).bind fun z3 => if z2.1 = z3.1 then (fX0_isWetLower_38 n x1 x2 (x3 + (1 : Int32)) z3.2) else (((fX0_wetAt x3 x1 z3.2).bind fun z5 => ((fX0_wetAt x3 x2 z5.2).bind fun z6 => if z5.1 ≤ z6.1 then (some ((0 : Int32), z6.2)) else (some ((1 : Int32), z6.2))))))))
def fX0_isWetLower_0 (x1 : Int32) (x2 : Int32) (s : SS) : Option (Int32 × SS) := if ixB x1 8 then (if ixB x2 8 then (if (s.1 4 x1.toNatClampNeg) = (s.1 4 x2.toNatClampNeg) then (fX0_isWetLower_38 FU x1 x2 (0 : Int32) s) else (if ixB x1 8 then (if ixB x2 8 then (if (s.1 4 x1.toNatClampNeg) ≤ (s.1 4 x2.toNatClampNeg) then (some ((0 : Int32), s)) else (some ((1 : Int32), s))) else none) else none)) else none) else none
def fX0_isWetLower (x1 : Int32) (x2 : Int32) (s : SS) : Option (Int32 × SS) := fX0_isWetLower_0 x1 x2 s
set_option maxRecDepth 100000 in
set_option maxHeartbeats 4000000 in
theorem okX0_isWetLower_38 {G : GG} {pl : Nat → Nat} {h0 : PH} : ∀ (n : Nat) (x1 : Int32) (x2 : Int32) (x3 : Int32) (s : SS), EvF G 1 mX0_isWetLower lyC pl h0 rvI (fX0_isWetLower_38 n x1 x2 x3 s) 38 [(0, .ref (pl 0)), (1, .int x1), (2, .int x2), (3, .int x3)] [] s := by
  intro n
  induction n with
  | zero => intro x1 x2 x3 s; rw [fX0_isWetLower_38]; exact ef_none
  | succ n ih =>
    intro x1 x2 x3 s
    rw [fX0_isWetLower_38]
    refine ef_iload_n (q := 39) 3 dX0_isWetLower_38 rfl rfl rfl ?_
    refine ef_aload_n (q := 40) 0 dX0_isWetLower_39 rfl rfl rfl ?_
    refine ef_getI (x := s.1 0 11) (q := 43) rfl fl0_45 rfl rfl dX0_isWetLower_40 rfl ?_
    refine ef_if (pt := 88) (pf := 46) (fun _ _ => ev_icmp_ge (tgt := 88) dX0_isWetLower_43 (by decide)) (fun h1 => ?_) (fun h1 => ?_)
    · refine ef_iconst (v := (0 : Int32)) (q := 89) dX0_isWetLower_88 (by decide) rfl ?_
      exact ef_zretc (x := (0 : Int32)) (by decide) rfl dX0_isWetLower_89
    · refine ef_aload_n (q := 47) 0 dX0_isWetLower_46 rfl rfl rfl ?_
      refine ef_iload_n (q := 48) 3 dX0_isWetLower_47 rfl rfl rfl ?_
      refine ef_iload_n (q := 49) 1 dX0_isWetLower_48 rfl rfl rfl ?_
      refine ef_invVI0 (k := 0) (As := [.int x3, .int x1]) (rest := []) (q := 52) (okX0_wetAt x3 x1) rfl calX0_wetAt ml0_78 (by decide) rfl rfl rfl (Nat.le_of_ble_eq_true rfl) dX0_isWetLower_49 rfl (fun z2 => ?_)
      refine ef_aload_n (q := 53) 0 dX0_isWetLower_52 rfl rfl rfl ?_
      refine ef_iload_n (q := 54) 3 dX0_isWetLower_53 rfl rfl rfl ?_
      refine ef_iload_n (q := 55) 2 dX0_isWetLower_54 rfl rfl rfl ?_
      refine ef_invVI0 (k := 0) (As := [.int x3, .int x2]) (rest := [.int z2.1]) (q := 58) (okX0_wetAt x3 x2) rfl calX0_wetAt ml0_78 (by decide) rfl rfl rfl (Nat.le_of_ble_eq_true rfl) dX0_isWetLower_55 rfl (fun z3 => ?_)
      refine ef_if (pt := 82) (pf := 61) (fun _ _ => ev_icmp_eq (tgt := 82) dX0_isWetLower_58 (by decide)) (fun h4 => ?_) (fun h4 => ?_)
      · refine ef_iinc (v := x3 + (1 : Int32)) (lv' := [(3, .int (x3 + (1 : Int32))), (0, .ref (pl 0)), (1, .int x1), (2, .int x2)]) (q := 85) 3 dX0_isWetLower_82 rfl rfl (by decide) rfl rfl ?_
        refine ef_goto (tgt := 38) dX0_isWetLower_85 (by decide) ?_
        refine ef_sub (lv' := [(0, .ref (pl 0)), (1, .int x1), (2, .int x2), (3, .int (x3 + (1 : Int32)))]) [1, 2, 3, 0] rfl ?_
        exact ih x1 x2 (x3 + (1 : Int32)) z3.2
      · refine ef_aload_n (q := 62) 0 dX0_isWetLower_61 rfl rfl rfl ?_
        refine ef_iload_n (q := 63) 3 dX0_isWetLower_62 rfl rfl rfl ?_
        refine ef_iload_n (q := 64) 1 dX0_isWetLower_63 rfl rfl rfl ?_
        refine ef_invVI0 (k := 0) (As := [.int x3, .int x1]) (rest := []) (q := 67) (okX0_wetAt x3 x1) rfl calX0_wetAt ml0_78 (by decide) rfl rfl rfl (Nat.le_of_ble_eq_true rfl) dX0_isWetLower_64 rfl (fun z5 => ?_)
        refine ef_aload_n (q := 68) 0 dX0_isWetLower_67 rfl rfl rfl ?_
        refine ef_iload_n (q := 69) 3 dX0_isWetLower_68 rfl rfl rfl ?_
        refine ef_iload_n (q := 70) 2 dX0_isWetLower_69 rfl rfl rfl ?_
        refine ef_invVI0 (k := 0) (As := [.int x3, .int x2]) (rest := [.int z5.1]) (q := 73) (okX0_wetAt x3 x2) rfl calX0_wetAt ml0_78 (by decide) rfl rfl rfl (Nat.le_of_ble_eq_true rfl) dX0_isWetLower_70 rfl (fun z6 => ?_)
        refine ef_if (pt := 80) (pf := 76) (fun _ _ => ev_icmp_le (tgt := 80) dX0_isWetLower_73 (by decide)) (fun h7 => ?_) (fun h7 => ?_)
        · refine ef_iconst (v := (0 : Int32)) (q := 81) dX0_isWetLower_80 (by decide) rfl ?_
          exact ef_zretc (x := (0 : Int32)) (by decide) rfl dX0_isWetLower_81
        · refine ef_iconst (v := (1 : Int32)) (q := 77) dX0_isWetLower_76 (by decide) rfl ?_
          refine ef_goto (tgt := 81) dX0_isWetLower_77 (by decide) ?_
          exact ef_zretc (x := (1 : Int32)) (by decide) rfl dX0_isWetLower_81
set_option maxRecDepth 100000 in
set_option maxHeartbeats 4000000 in
theorem okX0_isWetLower_0 {G : GG} {pl : Nat → Nat} {h0 : PH} (x1 : Int32) (x2 : Int32) (s : SS) : EvF G 1 mX0_isWetLower lyC pl h0 rvI (fX0_isWetLower_0 x1 x2 s) 0 [(0, .ref (pl 0)), (1, .int x1), (2, .int x2)] [] s := by
  unfold fX0_isWetLower_0
  refine ef_aload_n (q := 1) 0 dX0_isWetLower_0 rfl rfl rfl ?_
  refine ef_getR (t := 4) (q := 4) rfl fl0_58 rfl rfl dX0_isWetLower_1 rfl ?_
  refine ef_iload_n (q := 5) 1 dX0_isWetLower_4 rfl rfl rfl ?_
  refine ef_guard (fun g1 => ?_)
  refine ef_iaload (x := s.1 4 x1.toNatClampNeg) (q := 6) rfl g1 dX0_isWetLower_5 rfl rfl ?_
  refine ef_aload_n (q := 7) 0 dX0_isWetLower_6 rfl rfl rfl ?_
  refine ef_getR (t := 4) (q := 10) rfl fl0_58 rfl rfl dX0_isWetLower_7 rfl ?_
  refine ef_iload_n (q := 11) 2 dX0_isWetLower_10 rfl rfl rfl ?_
  refine ef_guard (fun g2 => ?_)
  refine ef_iaload (x := s.1 4 x2.toNatClampNeg) (q := 12) rfl g2 dX0_isWetLower_11 rfl rfl ?_
  refine ef_if (pt := 36) (pf := 15) (fun _ _ => ev_icmp_eq (tgt := 36) dX0_isWetLower_12 (by decide)) (fun h3 => ?_) (fun h3 => ?_)
  · refine ef_iconst (v := (0 : Int32)) (q := 37) dX0_isWetLower_36 (by decide) rfl ?_
    refine ef_istore_n (lv' := [(3, .int (0 : Int32)), (0, .ref (pl 0)), (1, .int x1), (2, .int x2)]) (q := 38) dX0_isWetLower_37 rfl (by decide) rfl rfl ?_
    refine ef_sub (lv' := [(0, .ref (pl 0)), (1, .int x1), (2, .int x2), (3, .int (0 : Int32))]) [1, 2, 3, 0] rfl ?_
    exact okX0_isWetLower_38 FU x1 x2 (0 : Int32) s
  · refine ef_aload_n (q := 16) 0 dX0_isWetLower_15 rfl rfl rfl ?_
    refine ef_getR (t := 4) (q := 19) rfl fl0_58 rfl rfl dX0_isWetLower_16 rfl ?_
    refine ef_iload_n (q := 20) 1 dX0_isWetLower_19 rfl rfl rfl ?_
    refine ef_guard (fun g4 => ?_)
    refine ef_iaload (x := s.1 4 x1.toNatClampNeg) (q := 21) rfl g4 dX0_isWetLower_20 rfl rfl ?_
    refine ef_aload_n (q := 22) 0 dX0_isWetLower_21 rfl rfl rfl ?_
    refine ef_getR (t := 4) (q := 25) rfl fl0_58 rfl rfl dX0_isWetLower_22 rfl ?_
    refine ef_iload_n (q := 26) 2 dX0_isWetLower_25 rfl rfl rfl ?_
    refine ef_guard (fun g5 => ?_)
    refine ef_iaload (x := s.1 4 x2.toNatClampNeg) (q := 27) rfl g5 dX0_isWetLower_26 rfl rfl ?_
    refine ef_if (pt := 34) (pf := 30) (fun _ _ => ev_icmp_le (tgt := 34) dX0_isWetLower_27 (by decide)) (fun h6 => ?_) (fun h6 => ?_)
    · refine ef_iconst (v := (0 : Int32)) (q := 35) dX0_isWetLower_34 (by decide) rfl ?_
      exact ef_zretc (x := (0 : Int32)) (by decide) rfl dX0_isWetLower_35
    · refine ef_iconst (v := (1 : Int32)) (q := 31) dX0_isWetLower_30 (by decide) rfl ?_
      refine ef_goto (tgt := 35) dX0_isWetLower_31 (by decide) ?_
      exact ef_zretc (x := (1 : Int32)) (by decide) rfl dX0_isWetLower_35
theorem okX0_isWetLower (x1 : Int32) (x2 : Int32) : MtF 1 mX0_isWetLower lyC rvI (fun _ pl => [.ref (pl 0), .int x1, .int x2]) (fX0_isWetLower x1 x2) := by
  refine MtF.of (by decide +kernel) rfl (fun _ pl => Nat.le_of_ble_eq_true rfl) (fun G pl h0 s => ?_)
  refine ef_sub (lv := [(0, .ref (pl 0)), (1, .int x1), (2, .int x2)]) (lv' := [(0, .ref (pl 0)), (1, .int x1), (2, .int x2)]) [0, 1, 2] rfl ?_
  exact okX0_isWetLower_0  x1 x2 s
-- X0_lowestWetSide
theorem dX0_lowestWetSide_0 : decode cX0_lowestWetSide 0 = .ok (.iconst 0, 1) := by decide +kernel
theorem dX0_lowestWetSide_1 : decode cX0_lowestWetSide 1 = .ok (.istore_n 1, 1) := by decide +kernel
theorem dX0_lowestWetSide_2 : decode cX0_lowestWetSide 2 = .ok (.iconst 1, 1) := by decide +kernel
theorem dX0_lowestWetSide_3 : decode cX0_lowestWetSide 3 = .ok (.istore_n 2, 1) := by decide +kernel
theorem dX0_lowestWetSide_4 : decode cX0_lowestWetSide 4 = .ok (.iload_n 2, 1) := by decide +kernel
theorem dX0_lowestWetSide_5 : decode cX0_lowestWetSide 5 = .ok (.aload_n 0, 1) := by decide +kernel
theorem dX0_lowestWetSide_6 : decode cX0_lowestWetSide 6 = .ok (.getfield 9, 3) := by decide +kernel
theorem dX0_lowestWetSide_9 : decode cX0_lowestWetSide 9 = .ok (.if_icmp .ge 20, 3) := by decide +kernel
theorem dX0_lowestWetSide_12 : decode cX0_lowestWetSide 12 = .ok (.aload_n 0, 1) := by decide +kernel
theorem dX0_lowestWetSide_13 : decode cX0_lowestWetSide 13 = .ok (.iload_n 2, 1) := by decide +kernel
theorem dX0_lowestWetSide_14 : decode cX0_lowestWetSide 14 = .ok (.iload_n 1, 1) := by decide +kernel
theorem dX0_lowestWetSide_15 : decode cX0_lowestWetSide 15 = .ok (.invokevirtual 89, 3) := by decide +kernel
theorem dX0_lowestWetSide_18 : decode cX0_lowestWetSide 18 = .ok (.ifCond .eq 5, 3) := by decide +kernel
theorem dX0_lowestWetSide_21 : decode cX0_lowestWetSide 21 = .ok (.iload_n 2, 1) := by decide +kernel
theorem dX0_lowestWetSide_22 : decode cX0_lowestWetSide 22 = .ok (.istore_n 1, 1) := by decide +kernel
theorem dX0_lowestWetSide_23 : decode cX0_lowestWetSide 23 = .ok (.iinc 2 1, 3) := by decide +kernel
theorem dX0_lowestWetSide_26 : decode cX0_lowestWetSide 26 = .ok (.goto (-22), 3) := by decide +kernel
theorem dX0_lowestWetSide_29 : decode cX0_lowestWetSide 29 = .ok (.iload_n 1, 1) := by decide +kernel
theorem dX0_lowestWetSide_30 : decode cX0_lowestWetSide 30 = .ok (.ireturn, 1) := by decide +kernel
def fX0_lowestWetSide_4 : Nat → Int32 → Int32 → SS → Option (Int32 × SS)
  | 0, _, _, _ => none
  | n + 1, x1, x2, s => if (s.1 0 0) ≤ x2 then (some (x1, s)) else (((fX0_isWetLower x2 x1 s).bind fun z2 => if z2.1 = 0 then (fX0_lowestWetSide_4 n x1 (x2 + (1 : Int32)) z2.2) else (fX0_lowestWetSide_4 n x2 (x2 + (1 : Int32)) z2.2)))
def fX0_lowestWetSide_0 (s : SS) : Option (Int32 × SS) := fX0_lowestWetSide_4 FU (0 : Int32) (1 : Int32) s
def fX0_lowestWetSide (s : SS) : Option (Int32 × SS) := fX0_lowestWetSide_0 s
set_option maxRecDepth 100000 in
set_option maxHeartbeats 4000000 in
theorem okX0_lowestWetSide_4 {G : GG} {pl : Nat → Nat} {h0 : PH} : ∀ (n : Nat) (x1 : Int32) (x2 : Int32) (s : SS), EvF G 2 mX0_lowestWetSide lyC pl h0 rvI (fX0_lowestWetSide_4 n x1 x2 s) 4 [(0, .ref (pl 0)), (1, .int x1), (2, .int x2)] [] s := by
  intro n
  induction n with
  | zero => intro x1 x2 s; rw [fX0_lowestWetSide_4]; exact ef_none
  | succ n ih =>
    intro x1 x2 s
    rw [fX0_lowestWetSide_4]
    refine ef_iload_n (q := 5) 2 dX0_lowestWetSide_4 rfl rfl rfl ?_
    refine ef_aload_n (q := 6) 0 dX0_lowestWetSide_5 rfl rfl rfl ?_
    refine ef_getI (x := s.1 0 0) (q := 9) rfl fl0_9 rfl rfl dX0_lowestWetSide_6 rfl ?_
    refine ef_if (pt := 29) (pf := 12) (fun _ _ => ev_icmp_ge (tgt := 29) dX0_lowestWetSide_9 (by decide)) (fun h1 => ?_) (fun h1 => ?_)
    · refine ef_iload_n (q := 30) 1 dX0_lowestWetSide_29 rfl rfl rfl ?_
      exact ef_iret rfl dX0_lowestWetSide_30
    · refine ef_aload_n (q := 13) 0 dX0_lowestWetSide_12 rfl rfl rfl ?_
      refine ef_iload_n (q := 14) 2 dX0_lowestWetSide_13 rfl rfl rfl ?_
      refine ef_iload_n (q := 15) 1 dX0_lowestWetSide_14 rfl rfl rfl ?_
      refine ef_invVI0 (k := 0) (As := [.int x2, .int x1]) (rest := []) (q := 18) (okX0_isWetLower x2 x1) rfl calX0_isWetLower ml0_89 (by decide) rfl rfl rfl (Nat.le_of_ble_eq_true rfl) dX0_lowestWetSide_15 rfl (fun z2 => ?_)
      refine ef_if (pt := 23) (pf := 21) (fun _ _ => ev_if_eq (tgt := 23) dX0_lowestWetSide_18 (by decide)) (fun h3 => ?_) (fun h3 => ?_)
      · refine ef_iinc (v := x2 + (1 : Int32)) (lv' := [(2, .int (x2 + (1 : Int32))), (0, .ref (pl 0)), (1, .int x1)]) (q := 26) 2 dX0_lowestWetSide_23 rfl rfl (by decide) rfl rfl ?_
        refine ef_goto (tgt := 4) dX0_lowestWetSide_26 (by decide) ?_
        refine ef_sub (lv' := [(0, .ref (pl 0)), (1, .int x1), (2, .int (x2 + (1 : Int32)))]) [1, 2, 0] rfl ?_
        exact ih x1 (x2 + (1 : Int32)) z2.2
      · refine ef_iload_n (q := 22) 2 dX0_lowestWetSide_21 rfl rfl rfl ?_
        refine ef_istore_n (lv' := [(1, .int x2), (0, .ref (pl 0)), (2, .int x2)]) (q := 23) dX0_lowestWetSide_22 rfl (by decide) rfl rfl ?_
        refine ef_iinc (v := x2 + (1 : Int32)) (lv' := [(2, .int (x2 + (1 : Int32))), (1, .int x2), (0, .ref (pl 0))]) (q := 26) 2 dX0_lowestWetSide_23 rfl rfl (by decide) rfl rfl ?_
        refine ef_goto (tgt := 4) dX0_lowestWetSide_26 (by decide) ?_
        refine ef_sub (lv' := [(0, .ref (pl 0)), (1, .int x2), (2, .int (x2 + (1 : Int32)))]) [2, 1, 0] rfl ?_
        exact ih x2 (x2 + (1 : Int32)) z2.2
set_option maxRecDepth 100000 in
set_option maxHeartbeats 4000000 in
theorem okX0_lowestWetSide_0 {G : GG} {pl : Nat → Nat} {h0 : PH} (s : SS) : EvF G 2 mX0_lowestWetSide lyC pl h0 rvI (fX0_lowestWetSide_0 s) 0 [(0, .ref (pl 0))] [] s := by
  unfold fX0_lowestWetSide_0
  refine ef_iconst (v := (0 : Int32)) (q := 1) dX0_lowestWetSide_0 (by decide) rfl ?_
  refine ef_istore_n (lv' := [(1, .int (0 : Int32)), (0, .ref (pl 0))]) (q := 2) dX0_lowestWetSide_1 rfl (by decide) rfl rfl ?_
  refine ef_iconst (v := (1 : Int32)) (q := 3) dX0_lowestWetSide_2 (by decide) rfl ?_
  refine ef_istore_n (lv' := [(2, .int (1 : Int32)), (1, .int (0 : Int32)), (0, .ref (pl 0))]) (q := 4) dX0_lowestWetSide_3 rfl (by decide) rfl rfl ?_
  refine ef_sub (lv' := [(0, .ref (pl 0)), (1, .int (0 : Int32)), (2, .int (1 : Int32))]) [2, 1, 0] rfl ?_
  exact okX0_lowestWetSide_4 FU (0 : Int32) (1 : Int32) s
theorem okX0_lowestWetSide : MtF 2 mX0_lowestWetSide lyC rvI (fun _ pl => [.ref (pl 0)]) (fX0_lowestWetSide) := by
  refine MtF.of (by decide +kernel) rfl (fun _ pl => Nat.le_of_ble_eq_true rfl) (fun G pl h0 s => ?_)
  refine ef_sub (lv := [(0, .ref (pl 0))]) (lv' := [(0, .ref (pl 0))]) [0] rfl ?_
  exact okX0_lowestWetSide_0  s
-- X0_canDo
theorem dX0_canDo_0 : decode cX0_canDo 0 = .ok (.iload_n 1, 1) := by decide +kernel
theorem dX0_canDo_1 : decode cX0_canDo 1 = .ok (.iconst 1, 1) := by decide +kernel
theorem dX0_canDo_2 : decode cX0_canDo 2 = .ok (.if_icmp .lt 18, 3) := by decide +kernel
theorem dX0_canDo_5 : decode cX0_canDo 5 = .ok (.iload_n 1, 1) := by decide +kernel
theorem dX0_canDo_6 : decode cX0_canDo 6 = .ok (.iconst 4, 1) := by decide +kernel
theorem dX0_canDo_7 : decode cX0_canDo 7 = .ok (.if_icmp .ge 13, 3) := by decide +kernel
theorem dX0_canDo_10 : decode cX0_canDo 10 = .ok (.iload_n 1, 1) := by decide +kernel
theorem dX0_canDo_11 : decode cX0_canDo 11 = .ok (.iconst 1, 1) := by decide +kernel
theorem dX0_canDo_12 : decode cX0_canDo 12 = .ok (.isub, 1) := by decide +kernel
theorem dX0_canDo_13 : decode cX0_canDo 13 = .ok (.aload_n 0, 1) := by decide +kernel
theorem dX0_canDo_14 : decode cX0_canDo 14 = .ok (.getfield 45, 3) := by decide +kernel
theorem dX0_canDo_17 : decode cX0_canDo 17 = .ok (.if_icmp .ge 7, 3) := by decide +kernel
theorem dX0_canDo_20 : decode cX0_canDo 20 = .ok (.iconst 1, 1) := by decide +kernel
theorem dX0_canDo_21 : decode cX0_canDo 21 = .ok (.goto 4, 3) := by decide +kernel
theorem dX0_canDo_24 : decode cX0_canDo 24 = .ok (.iconst 0, 1) := by decide +kernel
theorem dX0_canDo_25 : decode cX0_canDo 25 = .ok (.ireturn, 1) := by decide +kernel
def fX0_canDo_0 (x1 : Int32) (s : SS) : Option (Int32 × SS) := if x1 < (1 : Int32) then (some ((1 : Int32), s)) else (if (4 : Int32) ≤ x1 then (some ((1 : Int32), s)) else (if (s.1 0 11) ≤ (x1 - (1 : Int32)) then (some ((0 : Int32), s)) else (some ((1 : Int32), s))))
def fX0_canDo (x1 : Int32) (s : SS) : Option (Int32 × SS) := fX0_canDo_0 x1 s
set_option maxRecDepth 100000 in
set_option maxHeartbeats 4000000 in
theorem okX0_canDo_0 {G : GG} {pl : Nat → Nat} {h0 : PH} (x1 : Int32) (s : SS) : EvF G 0 mX0_canDo lyC pl h0 rvI (fX0_canDo_0 x1 s) 0 [(0, .ref (pl 0)), (1, .int x1)] [] s := by
  unfold fX0_canDo_0
  refine ef_iload_n (q := 1) 1 dX0_canDo_0 rfl rfl rfl ?_
  refine ef_iconst (v := (1 : Int32)) (q := 2) dX0_canDo_1 (by decide) rfl ?_
  refine ef_if (pt := 20) (pf := 5) (fun _ _ => ev_icmp_lt (tgt := 20) dX0_canDo_2 (by decide)) (fun h1 => ?_) (fun h1 => ?_)
  · refine ef_iconst (v := (1 : Int32)) (q := 21) dX0_canDo_20 (by decide) rfl ?_
    refine ef_goto (tgt := 25) dX0_canDo_21 (by decide) ?_
    exact ef_zretc (x := (1 : Int32)) (by decide) rfl dX0_canDo_25
  · refine ef_iload_n (q := 6) 1 dX0_canDo_5 rfl rfl rfl ?_
    refine ef_iconst (v := (4 : Int32)) (q := 7) dX0_canDo_6 (by decide) rfl ?_
    refine ef_if (pt := 20) (pf := 10) (fun _ _ => ev_icmp_ge (tgt := 20) dX0_canDo_7 (by decide)) (fun h2 => ?_) (fun h2 => ?_)
    · refine ef_iconst (v := (1 : Int32)) (q := 21) dX0_canDo_20 (by decide) rfl ?_
      refine ef_goto (tgt := 25) dX0_canDo_21 (by decide) ?_
      exact ef_zretc (x := (1 : Int32)) (by decide) rfl dX0_canDo_25
    · refine ef_iload_n (q := 11) 1 dX0_canDo_10 rfl rfl rfl ?_
      refine ef_iconst (v := (1 : Int32)) (q := 12) dX0_canDo_11 (by decide) rfl ?_
      refine ef_isub (q := 13) dX0_canDo_12 rfl ?_
      refine ef_aload_n (q := 14) 0 dX0_canDo_13 rfl rfl rfl ?_
      refine ef_getI (x := s.1 0 11) (q := 17) rfl fl0_45 rfl rfl dX0_canDo_14 rfl ?_
      refine ef_if (pt := 24) (pf := 20) (fun _ _ => ev_icmp_ge (tgt := 24) dX0_canDo_17 (by decide)) (fun h3 => ?_) (fun h3 => ?_)
      · refine ef_iconst (v := (0 : Int32)) (q := 25) dX0_canDo_24 (by decide) rfl ?_
        exact ef_zretc (x := (0 : Int32)) (by decide) rfl dX0_canDo_25
      · refine ef_iconst (v := (1 : Int32)) (q := 21) dX0_canDo_20 (by decide) rfl ?_
        refine ef_goto (tgt := 25) dX0_canDo_21 (by decide) ?_
        exact ef_zretc (x := (1 : Int32)) (by decide) rfl dX0_canDo_25
theorem okX0_canDo (x1 : Int32) : MtF 0 mX0_canDo lyC rvI (fun _ pl => [.ref (pl 0), .int x1]) (fX0_canDo x1) := by
  refine MtF.of (by decide +kernel) rfl (fun _ pl => Nat.le_of_ble_eq_true rfl) (fun G pl h0 s => ?_)
  refine ef_sub (lv := [(0, .ref (pl 0)), (1, .int x1)]) (lv' := [(0, .ref (pl 0)), (1, .int x1)]) [0, 1] rfl ?_
  exact okX0_canDo_0  x1 s
-- X0_isIdle
theorem dX0_isIdle_0 : decode cX0_isIdle 0 = .ok (.iload_n 1, 1) := by decide +kernel
theorem dX0_isIdle_1 : decode cX0_isIdle 1 = .ok (.iconst 1, 1) := by decide +kernel
theorem dX0_isIdle_2 : decode cX0_isIdle 2 = .ok (.if_icmp .lt 8, 3) := by decide +kernel
theorem dX0_isIdle_5 : decode cX0_isIdle 5 = .ok (.iload_n 1, 1) := by decide +kernel
theorem dX0_isIdle_6 : decode cX0_isIdle 6 = .ok (.iconst 4, 1) := by decide +kernel
theorem dX0_isIdle_7 : decode cX0_isIdle 7 = .ok (.if_icmp .le 13, 3) := by decide +kernel
theorem dX0_isIdle_10 : decode cX0_isIdle 10 = .ok (.iload_n 1, 1) := by decide +kernel
theorem dX0_isIdle_11 : decode cX0_isIdle 11 = .ok (.ifCond .ne 7, 3) := by decide +kernel
theorem dX0_isIdle_14 : decode cX0_isIdle 14 = .ok (.iconst 1, 1) := by decide +kernel
theorem dX0_isIdle_15 : decode cX0_isIdle 15 = .ok (.goto 4, 3) := by decide +kernel
theorem dX0_isIdle_18 : decode cX0_isIdle 18 = .ok (.iconst 0, 1) := by decide +kernel
theorem dX0_isIdle_19 : decode cX0_isIdle 19 = .ok (.ireturn, 1) := by decide +kernel
theorem dX0_isIdle_20 : decode cX0_isIdle 20 = .ok (.iload_n 1, 1) := by decide +kernel
theorem dX0_isIdle_21 : decode cX0_isIdle 21 = .ok (.iconst 4, 1) := by decide +kernel
theorem dX0_isIdle_22 : decode cX0_isIdle 22 = .ok (.if_icmp .ne 21, 3) := by decide +kernel
theorem dX0_isIdle_25 : decode cX0_isIdle 25 = .ok (.aload_n 0, 1) := by decide +kernel
theorem dX0_isIdle_26 : decode cX0_isIdle 26 = .ok (.getfield 58, 3) := by decide +kernel
theorem dX0_isIdle_29 : decode cX0_isIdle 29 = .ok (.aload_n 0, 1) := by decide +kernel
theorem dX0_isIdle_30 : decode cX0_isIdle 30 = .ok (.getfield 15, 3) := by decide +kernel
theorem dX0_isIdle_33 : decode cX0_isIdle 33 = .ok (.iaload, 1) := by decide +kernel
theorem dX0_isIdle_34 : decode cX0_isIdle 34 = .ok (.ifCond .ne 7, 3) := by decide +kernel
theorem dX0_isIdle_37 : decode cX0_isIdle 37 = .ok (.iconst 1, 1) := by decide +kernel
theorem dX0_isIdle_38 : decode cX0_isIdle 38 = .ok (.goto 4, 3) := by decide +kernel
theorem dX0_isIdle_41 : decode cX0_isIdle 41 = .ok (.iconst 0, 1) := by decide +kernel
theorem dX0_isIdle_42 : decode cX0_isIdle 42 = .ok (.ireturn, 1) := by decide +kernel
theorem dX0_isIdle_43 : decode cX0_isIdle 43 = .ok (.aload_n 0, 1) := by decide +kernel
theorem dX0_isIdle_44 : decode cX0_isIdle 44 = .ok (.iload_n 1, 1) := by decide +kernel
theorem dX0_isIdle_45 : decode cX0_isIdle 45 = .ok (.invokevirtual 93, 3) := by decide +kernel
theorem dX0_isIdle_48 : decode cX0_isIdle 48 = .ok (.ifCond .eq 17, 3) := by decide +kernel
theorem dX0_isIdle_51 : decode cX0_isIdle 51 = .ok (.aload_n 0, 1) := by decide +kernel
theorem dX0_isIdle_52 : decode cX0_isIdle 52 = .ok (.iload_n 1, 1) := by decide +kernel
theorem dX0_isIdle_53 : decode cX0_isIdle 53 = .ok (.iconst 1, 1) := by decide +kernel
theorem dX0_isIdle_54 : decode cX0_isIdle 54 = .ok (.isub, 1) := by decide +kernel
theorem dX0_isIdle_55 : decode cX0_isIdle 55 = .ok (.aload_n 0, 1) := by decide +kernel
theorem dX0_isIdle_56 : decode cX0_isIdle 56 = .ok (.getfield 15, 3) := by decide +kernel
theorem dX0_isIdle_59 : decode cX0_isIdle 59 = .ok (.invokevirtual 78, 3) := by decide +kernel
theorem dX0_isIdle_62 : decode cX0_isIdle 62 = .ok (.ifCond .ne 7, 3) := by decide +kernel
theorem dX0_isIdle_65 : decode cX0_isIdle 65 = .ok (.iconst 1, 1) := by decide +kernel
theorem dX0_isIdle_66 : decode cX0_isIdle 66 = .ok (.goto 4, 3) := by decide +kernel
theorem dX0_isIdle_69 : decode cX0_isIdle 69 = .ok (.iconst 0, 1) := by decide +kernel
theorem dX0_isIdle_70 : decode cX0_isIdle 70 = .ok (.ireturn, 1) := by decide +kernel
def fX0_isIdle_10 (x1 : Int32) (s : SS) : Option (Int32 × SS) := if x1 = 0 then (some ((1 : Int32), s)) else (some ((0 : Int32), s))
def fX0_isIdle_0 (x1 : Int32) (s : SS) : Option (Int32 × SS) := if x1 < (1 : Int32) then (fX0_isIdle_10 x1 s) else (if x1 ≤ (4 : Int32) then (if x1 = (4 : Int32) then (if ixB (s.1 0 1) 8 then (if (s.1 4 ((s.1 0 1).toNatClampNeg)) = 0 then (some ((1 : Int32), s)) else (some ((0 : Int32), s))) else none) else (((fX0_canDo x1 s).bind fun z6 => if z6.1 = 0 then (some ((1 : Int32), z6.2)) else (((fX0_wetAt (x1 - (1 : Int32)) (z6.2.1 0 1) z6.2).bind fun z8 => if z8.1 = 0 then (some ((1 : Int32), z8.2)) else (some ((0 : Int32), z8.2))))))) else (fX0_isIdle_10 x1 s))
def fX0_isIdle (x1 : Int32) (s : SS) : Option (Int32 × SS) := fX0_isIdle_0 x1 s
set_option maxRecDepth 100000 in
set_option maxHeartbeats 4000000 in
theorem okX0_isIdle_10 {G : GG} {pl : Nat → Nat} {h0 : PH} (x1 : Int32) (s : SS) : EvF G 1 mX0_isIdle lyC pl h0 rvI (fX0_isIdle_10 x1 s) 10 [(1, .int x1)] [] s := by
  unfold fX0_isIdle_10
  refine ef_iload_n (q := 11) 0 dX0_isIdle_10 rfl rfl rfl ?_
  refine ef_if (pt := 14) (pf := 18) (fun _ _ kt kf => ev_if_ne (tgt := 18) dX0_isIdle_11 (by decide) kf kt) (fun h1 => ?_) (fun h1 => ?_)
  · refine ef_iconst (v := (1 : Int32)) (q := 15) dX0_isIdle_14 (by decide) rfl ?_
    refine ef_goto (tgt := 19) dX0_isIdle_15 (by decide) ?_
    exact ef_zretc (x := (1 : Int32)) (by decide) rfl dX0_isIdle_19
  · refine ef_iconst (v := (0 : Int32)) (q := 19) dX0_isIdle_18 (by decide) rfl ?_
    exact ef_zretc (x := (0 : Int32)) (by decide) rfl dX0_isIdle_19
set_option maxRecDepth 100000 in
set_option maxHeartbeats 4000000 in
theorem okX0_isIdle_0 {G : GG} {pl : Nat → Nat} {h0 : PH} (x1 : Int32) (s : SS) : EvF G 1 mX0_isIdle lyC pl h0 rvI (fX0_isIdle_0 x1 s) 0 [(0, .ref (pl 0)), (1, .int x1)] [] s := by
  unfold fX0_isIdle_0
  refine ef_iload_n (q := 1) 1 dX0_isIdle_0 rfl rfl rfl ?_
  refine ef_iconst (v := (1 : Int32)) (q := 2) dX0_isIdle_1 (by decide) rfl ?_
  refine ef_if (pt := 10) (pf := 5) (fun _ _ => ev_icmp_lt (tgt := 10) dX0_isIdle_2 (by decide)) (fun h1 => ?_) (fun h1 => ?_)
  · refine ef_sub (lv' := [(1, .int x1)]) [1] rfl ?_
    exact okX0_isIdle_10 x1 s
  · refine ef_iload_n (q := 6) 1 dX0_isIdle_5 rfl rfl rfl ?_
    refine ef_iconst (v := (4 : Int32)) (q := 7) dX0_isIdle_6 (by decide) rfl ?_
    refine ef_if (pt := 20) (pf := 10) (fun _ _ => ev_icmp_le (tgt := 20) dX0_isIdle_7 (by decide)) (fun h2 => ?_) (fun h2 => ?_)
    · refine ef_iload_n (q := 21) 1 dX0_isIdle_20 rfl rfl rfl ?_
      refine ef_iconst (v := (4 : Int32)) (q := 22) dX0_isIdle_21 (by decide) rfl ?_
      refine ef_if (pt := 25) (pf := 43) (fun _ _ kt kf => ev_icmp_ne (tgt := 43) dX0_isIdle_22 (by decide) kf kt) (fun h3 => ?_) (fun h3 => ?_)
      · refine ef_aload_n (q := 26) 0 dX0_isIdle_25 rfl rfl rfl ?_
        refine ef_getR (t := 4) (q := 29) rfl fl0_58 rfl rfl dX0_isIdle_26 rfl ?_
        refine ef_aload_n (q := 30) 0 dX0_isIdle_29 rfl rfl rfl ?_
        refine ef_getI (x := s.1 0 1) (q := 33) rfl fl0_15 rfl rfl dX0_isIdle_30 rfl ?_
        refine ef_guard (fun g4 => ?_)
        refine ef_iaload (x := s.1 4 ((s.1 0 1).toNatClampNeg)) (q := 34) rfl g4 dX0_isIdle_33 rfl rfl ?_
        refine ef_if (pt := 37) (pf := 41) (fun _ _ kt kf => ev_if_ne (tgt := 41) dX0_isIdle_34 (by decide) kf kt) (fun h5 => ?_) (fun h5 => ?_)
        · refine ef_iconst (v := (1 : Int32)) (q := 38) dX0_isIdle_37 (by decide) rfl ?_
          refine ef_goto (tgt := 42) dX0_isIdle_38 (by decide) ?_
          exact ef_zretc (x := (1 : Int32)) (by decide) rfl dX0_isIdle_42
        · refine ef_iconst (v := (0 : Int32)) (q := 42) dX0_isIdle_41 (by decide) rfl ?_
          exact ef_zretc (x := (0 : Int32)) (by decide) rfl dX0_isIdle_42
      · refine ef_aload_n (q := 44) 0 dX0_isIdle_43 rfl rfl rfl ?_
        refine ef_iload_n (q := 45) 1 dX0_isIdle_44 rfl rfl rfl ?_
        refine ef_invVI0 (k := 0) (As := [.int x1]) (rest := []) (q := 48) (okX0_canDo x1) rfl calX0_canDo ml0_93 (by decide) rfl rfl rfl (Nat.le_of_ble_eq_true rfl) dX0_isIdle_45 rfl (fun z6 => ?_)
        refine ef_if (pt := 65) (pf := 51) (fun _ _ => ev_if_eq (tgt := 65) dX0_isIdle_48 (by decide)) (fun h7 => ?_) (fun h7 => ?_)
        · refine ef_iconst (v := (1 : Int32)) (q := 66) dX0_isIdle_65 (by decide) rfl ?_
          refine ef_goto (tgt := 70) dX0_isIdle_66 (by decide) ?_
          exact ef_zretc (x := (1 : Int32)) (by decide) rfl dX0_isIdle_70
        · refine ef_aload_n (q := 52) 0 dX0_isIdle_51 rfl rfl rfl ?_
          refine ef_iload_n (q := 53) 1 dX0_isIdle_52 rfl rfl rfl ?_
          refine ef_iconst (v := (1 : Int32)) (q := 54) dX0_isIdle_53 (by decide) rfl ?_
          refine ef_isub (q := 55) dX0_isIdle_54 rfl ?_
          refine ef_aload_n (q := 56) 0 dX0_isIdle_55 rfl rfl rfl ?_
          refine ef_getI (x := z6.2.1 0 1) (q := 59) rfl fl0_15 rfl rfl dX0_isIdle_56 rfl ?_
          refine ef_invVI0 (k := 0) (As := [.int (x1 - (1 : Int32)), .int (z6.2.1 0 1)]) (rest := []) (q := 62) (okX0_wetAt (x1 - (1 : Int32)) (z6.2.1 0 1)) rfl calX0_wetAt ml0_78 (by decide) rfl rfl rfl (Nat.le_of_ble_eq_true rfl) dX0_isIdle_59 rfl (fun z8 => ?_)
          refine ef_if (pt := 65) (pf := 69) (fun _ _ kt kf => ev_if_ne (tgt := 69) dX0_isIdle_62 (by decide) kf kt) (fun h9 => ?_) (fun h9 => ?_)
          · refine ef_iconst (v := (1 : Int32)) (q := 66) dX0_isIdle_65 (by decide) rfl ?_
            refine ef_goto (tgt := 70) dX0_isIdle_66 (by decide) ?_
            exact ef_zretc (x := (1 : Int32)) (by decide) rfl dX0_isIdle_70
          · refine ef_iconst (v := (0 : Int32)) (q := 70) dX0_isIdle_69 (by decide) rfl ?_
            exact ef_zretc (x := (0 : Int32)) (by decide) rfl dX0_isIdle_70
    · refine ef_sub (lv' := [(1, .int x1)]) [1] rfl ?_
      exact okX0_isIdle_10 x1 s
theorem okX0_isIdle (x1 : Int32) : MtF 1 mX0_isIdle lyC rvI (fun _ pl => [.ref (pl 0), .int x1]) (fX0_isIdle x1) := by
  refine MtF.of (by decide +kernel) rfl (fun _ pl => Nat.le_of_ble_eq_true rfl) (fun G pl h0 s => ?_)
  refine ef_sub (lv := [(0, .ref (pl 0)), (1, .int x1)]) (lv' := [(0, .ref (pl 0)), (1, .int x1)]) [0, 1] rfl ?_
  exact okX0_isIdle_0  x1 s
-- X0_eat
theorem dX0_eat_0 : decode cX0_eat 0 = .ok (.iload_n 1, 1) := by decide +kernel
theorem dX0_eat_1 : decode cX0_eat 1 = .ok (.iconst 4, 1) := by decide +kernel
theorem dX0_eat_2 : decode cX0_eat 2 = .ok (.if_icmp .ne 46, 3) := by decide +kernel
theorem dX0_eat_5 : decode cX0_eat 5 = .ok (.aload_n 0, 1) := by decide +kernel
theorem dX0_eat_6 : decode cX0_eat 6 = .ok (.getfield 27, 3) := by decide +kernel
theorem dX0_eat_9 : decode cX0_eat 9 = .ok (.aload_n 0, 1) := by decide +kernel
theorem dX0_eat_10 : decode cX0_eat 10 = .ok (.getfield 58, 3) := by decide +kernel
theorem dX0_eat_13 : decode cX0_eat 13 = .ok (.aload_n 0, 1) := by decide +kernel
theorem dX0_eat_14 : decode cX0_eat 14 = .ok (.getfield 15, 3) := by decide +kernel
theorem dX0_eat_17 : decode cX0_eat 17 = .ok (.iaload, 1) := by decide +kernel
theorem dX0_eat_18 : decode cX0_eat 18 = .ok (.invokestatic 113, 3) := by decide +kernel
theorem dX0_eat_21 : decode cX0_eat 21 = .ok (.istore_n 2, 1) := by decide +kernel
theorem dX0_eat_22 : decode cX0_eat 22 = .ok (.aload_n 0, 1) := by decide +kernel
theorem dX0_eat_23 : decode cX0_eat 23 = .ok (.getfield 58, 3) := by decide +kernel
theorem dX0_eat_26 : decode cX0_eat 26 = .ok (.aload_n 0, 1) := by decide +kernel
theorem dX0_eat_27 : decode cX0_eat 27 = .ok (.getfield 15, 3) := by decide +kernel
theorem dX0_eat_30 : decode cX0_eat 30 = .ok (.dup2, 1) := by decide +kernel
theorem dX0_eat_31 : decode cX0_eat 31 = .ok (.iaload, 1) := by decide +kernel
theorem dX0_eat_32 : decode cX0_eat 32 = .ok (.iload_n 2, 1) := by decide +kernel
theorem dX0_eat_33 : decode cX0_eat 33 = .ok (.isub, 1) := by decide +kernel
theorem dX0_eat_34 : decode cX0_eat 34 = .ok (.iastore, 1) := by decide +kernel
theorem dX0_eat_35 : decode cX0_eat 35 = .ok (.aload_n 0, 1) := by decide +kernel
theorem dX0_eat_36 : decode cX0_eat 36 = .ok (.dup, 1) := by decide +kernel
theorem dX0_eat_37 : decode cX0_eat 37 = .ok (.getfield 39, 3) := by decide +kernel
theorem dX0_eat_40 : decode cX0_eat 40 = .ok (.iload_n 2, 1) := by decide +kernel
theorem dX0_eat_41 : decode cX0_eat 41 = .ok (.iadd, 1) := by decide +kernel
theorem dX0_eat_42 : decode cX0_eat 42 = .ok (.putfield 39, 3) := by decide +kernel
theorem dX0_eat_45 : decode cX0_eat 45 = .ok (.goto 49, 3) := by decide +kernel
theorem dX0_eat_48 : decode cX0_eat 48 = .ok (.iload_n 1, 1) := by decide +kernel
theorem dX0_eat_49 : decode cX0_eat 49 = .ok (.iconst 1, 1) := by decide +kernel
theorem dX0_eat_50 : decode cX0_eat 50 = .ok (.isub, 1) := by decide +kernel
theorem dX0_eat_51 : decode cX0_eat 51 = .ok (.bipush 8, 2) := by decide +kernel
theorem dX0_eat_53 : decode cX0_eat 53 = .ok (.imul, 1) := by decide +kernel
theorem dX0_eat_54 : decode cX0_eat 54 = .ok (.aload_n 0, 1) := by decide +kernel
theorem dX0_eat_55 : decode cX0_eat 55 = .ok (.getfield 15, 3) := by decide +kernel
theorem dX0_eat_58 : decode cX0_eat 58 = .ok (.iadd, 1) := by decide +kernel
theorem dX0_eat_59 : decode cX0_eat 59 = .ok (.istore_n 2, 1) := by decide +kernel
theorem dX0_eat_60 : decode cX0_eat 60 = .ok (.aload_n 0, 1) := by decide +kernel
theorem dX0_eat_61 : decode cX0_eat 61 = .ok (.getfield 27, 3) := by decide +kernel
theorem dX0_eat_64 : decode cX0_eat 64 = .ok (.aload_n 0, 1) := by decide +kernel
theorem dX0_eat_65 : decode cX0_eat 65 = .ok (.getfield 55, 3) := by decide +kernel
theorem dX0_eat_68 : decode cX0_eat 68 = .ok (.iload_n 2, 1) := by decide +kernel
theorem dX0_eat_69 : decode cX0_eat 69 = .ok (.iaload, 1) := by decide +kernel
theorem dX0_eat_70 : decode cX0_eat 70 = .ok (.invokestatic 113, 3) := by decide +kernel
theorem dX0_eat_73 : decode cX0_eat 73 = .ok (.istore_n 3, 1) := by decide +kernel
theorem dX0_eat_74 : decode cX0_eat 74 = .ok (.aload_n 0, 1) := by decide +kernel
theorem dX0_eat_75 : decode cX0_eat 75 = .ok (.getfield 55, 3) := by decide +kernel
theorem dX0_eat_78 : decode cX0_eat 78 = .ok (.iload_n 2, 1) := by decide +kernel
theorem dX0_eat_79 : decode cX0_eat 79 = .ok (.dup2, 1) := by decide +kernel
theorem dX0_eat_80 : decode cX0_eat 80 = .ok (.iaload, 1) := by decide +kernel
theorem dX0_eat_81 : decode cX0_eat 81 = .ok (.iload_n 3, 1) := by decide +kernel
theorem dX0_eat_82 : decode cX0_eat 82 = .ok (.isub, 1) := by decide +kernel
theorem dX0_eat_83 : decode cX0_eat 83 = .ok (.iastore, 1) := by decide +kernel
theorem dX0_eat_84 : decode cX0_eat 84 = .ok (.aload_n 0, 1) := by decide +kernel
theorem dX0_eat_85 : decode cX0_eat 85 = .ok (.dup, 1) := by decide +kernel
theorem dX0_eat_86 : decode cX0_eat 86 = .ok (.getfield 39, 3) := by decide +kernel
theorem dX0_eat_89 : decode cX0_eat 89 = .ok (.iload_n 3, 1) := by decide +kernel
theorem dX0_eat_90 : decode cX0_eat 90 = .ok (.iadd, 1) := by decide +kernel
theorem dX0_eat_91 : decode cX0_eat 91 = .ok (.putfield 39, 3) := by decide +kernel
theorem dX0_eat_94 : decode cX0_eat 94 = .ok (.return_, 1) := by decide +kernel
def fX0_eat_0 (x1 : Int32) (s : SS) : Option (Unit × SS) := if x1 = (4 : Int32) then (if ixB (s.1 0 1) 8 then (if ixB (s.1 0 1) 8 then (if ixB (s.1 0 1) 8 then (some ((), wrI (wrI s 4 ((s.1 0 1).toNatClampNeg) ((s.1 4 ((s.1 0 1).toNatClampNeg)) - (if (s.1 4 ((s.1 0 1).toNatClampNeg)) < (s.1 0 5) then (s.1 4 ((s.1 0 1).toNatClampNeg)) else (s.1 0 5)))) 0 9 ((s.1 0 9) + (if (s.1 4 ((s.1 0 1).toNatClampNeg)) < (s.1 0 5) then (s.1 4 ((s.1 0 1).toNatClampNeg)) else (s.1 0 5))))) else none) else none) else none) else (if ixB (((x1 - (1 : Int32)) * (8 : Int32)) + (s.1 0 1)) 24 then (if ixB (((x1 - (1 : Int32)) * (8 : Int32)) + (s.1 0 1)) 24 then (if ixB (((x1 - (1 : Int32)) * (8 : Int32)) + (s.1 0 1)) 24 then (some ((), wrI (wrI s 3 ((((x1 - (1 : Int32)) * (8 : Int32)) + (s.1 0 1)).toNatClampNeg) ((s.1 3 ((((x1 - (1 : Int32)) * (8 : Int32)) + (s.1 0 1)).toNatClampNeg)) - (if (s.1 3 ((((x1 - (1 : Int32)) * (8 : Int32)) + (s.1 0 1)).toNatClampNeg)) < (s.1 0 5) then (s.1 3 ((((x1 - (1 : Int32)) * (8 : Int32)) + (s.1 0 1)).toNatClampNeg)) else (s.1 0 5)))) 0 9 ((s.1 0 9) + (if (s.1 3 ((((x1 - (1 : Int32)) * (8 : Int32)) + (s.1 0 1)).toNatClampNeg)) < (s.1 0 5) then (s.1 3 ((((x1 - (1 : Int32)) * (8 : Int32)) + (s.1 0 1)).toNatClampNeg)) else (s.1 0 5))))) else none) else none) else none)
def fX0_eat (x1 : Int32) (s : SS) : Option (Unit × SS) := fX0_eat_0 x1 s
set_option maxRecDepth 100000 in
set_option maxHeartbeats 4000000 in
theorem okX0_eat_0 {G : GG} {pl : Nat → Nat} {h0 : PH} (x1 : Int32) (s : SS) : EvF G 1 mX0_eat lyC pl h0 rvU (fX0_eat_0 x1 s) 0 [(0, .ref (pl 0)), (1, .int x1)] [] s := by
  unfold fX0_eat_0
  refine ef_iload_n (q := 1) 1 dX0_eat_0 rfl rfl rfl ?_
  refine ef_iconst (v := (4 : Int32)) (q := 2) dX0_eat_1 (by decide) rfl ?_
  refine ef_if (pt := 5) (pf := 48) (fun _ _ kt kf => ev_icmp_ne (tgt := 48) dX0_eat_2 (by decide) kf kt) (fun h1 => ?_) (fun h1 => ?_)
  · refine ef_aload_n (q := 6) 0 dX0_eat_5 rfl rfl rfl ?_
    refine ef_getI (x := s.1 0 5) (q := 9) rfl fl0_27 rfl rfl dX0_eat_6 rfl ?_
    refine ef_aload_n (q := 10) 0 dX0_eat_9 rfl rfl rfl ?_
    refine ef_getR (t := 4) (q := 13) rfl fl0_58 rfl rfl dX0_eat_10 rfl ?_
    refine ef_aload_n (q := 14) 0 dX0_eat_13 rfl rfl rfl ?_
    refine ef_getI (x := s.1 0 1) (q := 17) rfl fl0_15 rfl rfl dX0_eat_14 rfl ?_
    refine ef_guard (fun g2 => ?_)
    refine ef_iaload (x := s.1 4 ((s.1 0 1).toNatClampNeg)) (q := 18) rfl g2 dX0_eat_17 rfl rfl ?_
    refine ef_mmin (q := 21) ml0_113 (by decide) (Nat.le_of_ble_eq_true rfl) dX0_eat_18 rfl ?_
    refine ef_istore_n (lv' := [(2, .int (if (s.1 4 ((s.1 0 1).toNatClampNeg)) < (s.1 0 5) then (s.1 4 ((s.1 0 1).toNatClampNeg)) else (s.1 0 5))), (0, .ref (pl 0)), (1, .int x1)]) (q := 22) dX0_eat_21 rfl (by decide) rfl rfl ?_
    refine ef_aload_n (q := 23) 1 dX0_eat_22 rfl rfl rfl ?_
    refine ef_getR (t := 4) (q := 26) rfl fl0_58 rfl rfl dX0_eat_23 rfl ?_
    refine ef_aload_n (q := 27) 1 dX0_eat_26 rfl rfl rfl ?_
    refine ef_getI (x := s.1 0 1) (q := 30) rfl fl0_15 rfl rfl dX0_eat_27 rfl ?_
    refine ef_dup2_11 (q := 31) dX0_eat_30 rfl rfl rfl ?_
    refine ef_guard (fun g3 => ?_)
    refine ef_iaload (x := s.1 4 ((s.1 0 1).toNatClampNeg)) (q := 32) rfl g3 dX0_eat_31 rfl rfl ?_
    refine ef_iload_n (q := 33) 0 dX0_eat_32 rfl rfl rfl ?_
    refine ef_isub (q := 34) dX0_eat_33 rfl ?_
    refine ef_guard (fun g4 => ?_)
    refine ef_iastore (j := (s.1 0 1).toNatClampNeg) (q := 35) rfl g4 dX0_eat_34 rfl rfl ?_
    refine ef_aload_n (q := 36) 1 dX0_eat_35 rfl rfl rfl ?_
    refine ef_dup (q := 37) dX0_eat_36 rfl rfl ?_
    refine ef_getI (x := s.1 0 9) (q := 40) rfl fl0_39 rfl rfl dX0_eat_37 rfl ?_
    refine ef_iload_n (q := 41) 0 dX0_eat_40 rfl rfl rfl ?_
    refine ef_iadd (q := 42) dX0_eat_41 rfl ?_
    refine ef_putI (q := 45) rfl fl0_39 rfl rfl dX0_eat_42 rfl ?_
    refine ef_goto (tgt := 94) dX0_eat_45 (by decide) ?_
    exact ef_vret rfl dX0_eat_94
  · refine ef_iload_n (q := 49) 1 dX0_eat_48 rfl rfl rfl ?_
    refine ef_iconst (v := (1 : Int32)) (q := 50) dX0_eat_49 (by decide) rfl ?_
    refine ef_isub (q := 51) dX0_eat_50 rfl ?_
    refine ef_bipush (v := (8 : Int32)) (q := 53) dX0_eat_51 (by decide) rfl ?_
    refine ef_imul (q := 54) dX0_eat_53 rfl ?_
    refine ef_aload_n (q := 55) 0 dX0_eat_54 rfl rfl rfl ?_
    refine ef_getI (x := s.1 0 1) (q := 58) rfl fl0_15 rfl rfl dX0_eat_55 rfl ?_
    refine ef_iadd (q := 59) dX0_eat_58 rfl ?_
    refine ef_istore_n (lv' := [(2, .int (((x1 - (1 : Int32)) * (8 : Int32)) + (s.1 0 1))), (0, .ref (pl 0)), (1, .int x1)]) (q := 60) dX0_eat_59 rfl (by decide) rfl rfl ?_
    refine ef_aload_n (q := 61) 1 dX0_eat_60 rfl rfl rfl ?_
    refine ef_getI (x := s.1 0 5) (q := 64) rfl fl0_27 rfl rfl dX0_eat_61 rfl ?_
    refine ef_aload_n (q := 65) 1 dX0_eat_64 rfl rfl rfl ?_
    refine ef_getR (t := 3) (q := 68) rfl fl0_55 rfl rfl dX0_eat_65 rfl ?_
    refine ef_iload_n (q := 69) 0 dX0_eat_68 rfl rfl rfl ?_
    refine ef_guard (fun g5 => ?_)
    refine ef_iaload (x := s.1 3 ((((x1 - (1 : Int32)) * (8 : Int32)) + (s.1 0 1)).toNatClampNeg)) (q := 70) rfl g5 dX0_eat_69 rfl rfl ?_
    refine ef_mmin (q := 73) ml0_113 (by decide) (Nat.le_of_ble_eq_true rfl) dX0_eat_70 rfl ?_
    refine ef_istore_n (lv' := [(3, .int (if (s.1 3 ((((x1 - (1 : Int32)) * (8 : Int32)) + (s.1 0 1)).toNatClampNeg)) < (s.1 0 5) then (s.1 3 ((((x1 - (1 : Int32)) * (8 : Int32)) + (s.1 0 1)).toNatClampNeg)) else (s.1 0 5))), (2, .int (((x1 - (1 : Int32)) * (8 : Int32)) + (s.1 0 1))), (0, .ref (pl 0)), (1, .int x1)]) (q := 74) dX0_eat_73 rfl (by decide) rfl rfl ?_
    refine ef_aload_n (q := 75) 2 dX0_eat_74 rfl rfl rfl ?_
    refine ef_getR (t := 3) (q := 78) rfl fl0_55 rfl rfl dX0_eat_75 rfl ?_
    refine ef_iload_n (q := 79) 1 dX0_eat_78 rfl rfl rfl ?_
    refine ef_dup2_11 (q := 80) dX0_eat_79 rfl rfl rfl ?_
    refine ef_guard (fun g6 => ?_)
    refine ef_iaload (x := s.1 3 ((((x1 - (1 : Int32)) * (8 : Int32)) + (s.1 0 1)).toNatClampNeg)) (q := 81) rfl g6 dX0_eat_80 rfl rfl ?_
    refine ef_iload_n (q := 82) 0 dX0_eat_81 rfl rfl rfl ?_
    refine ef_isub (q := 83) dX0_eat_82 rfl ?_
    refine ef_guard (fun g7 => ?_)
    refine ef_iastore (j := (((x1 - (1 : Int32)) * (8 : Int32)) + (s.1 0 1)).toNatClampNeg) (q := 84) rfl g7 dX0_eat_83 rfl rfl ?_
    refine ef_aload_n (q := 85) 2 dX0_eat_84 rfl rfl rfl ?_
    refine ef_dup (q := 86) dX0_eat_85 rfl rfl ?_
    refine ef_getI (x := s.1 0 9) (q := 89) rfl fl0_39 rfl rfl dX0_eat_86 rfl ?_
    refine ef_iload_n (q := 90) 0 dX0_eat_89 rfl rfl rfl ?_
    refine ef_iadd (q := 91) dX0_eat_90 rfl ?_
    refine ef_putI (q := 94) rfl fl0_39 rfl rfl dX0_eat_91 rfl ?_
    exact ef_vret rfl dX0_eat_94
theorem okX0_eat (x1 : Int32) : MtF 1 mX0_eat lyC rvU (fun _ pl => [.ref (pl 0), .int x1]) (fX0_eat x1) := by
  refine MtF.of (by decide +kernel) rfl (fun _ pl => Nat.le_of_ble_eq_true rfl) (fun G pl h0 s => ?_)
  refine ef_sub (lv := [(0, .ref (pl 0)), (1, .int x1)]) (lv' := [(0, .ref (pl 0)), (1, .int x1)]) [0, 1] rfl ?_
  exact okX0_eat_0  x1 s
-- X0_melt
theorem dX0_melt_0 : decode cX0_melt 0 = .ok (.iconst 0, 1) := by decide +kernel
theorem dX0_melt_1 : decode cX0_melt 1 = .ok (.istore_n 1, 1) := by decide +kernel
theorem dX0_melt_2 : decode cX0_melt 2 = .ok (.iload_n 1, 1) := by decide +kernel
theorem dX0_melt_3 : decode cX0_melt 3 = .ok (.aload_n 0, 1) := by decide +kernel
theorem dX0_melt_4 : decode cX0_melt 4 = .ok (.getfield 45, 3) := by decide +kernel
theorem dX0_melt_7 : decode cX0_melt 7 = .ok (.if_icmp .ge 99, 3) := by decide +kernel
theorem dX0_melt_10 : decode cX0_melt 10 = .ok (.aload_n 0, 1) := by decide +kernel
theorem dX0_melt_11 : decode cX0_melt 11 = .ok (.getfield 48, 3) := by decide +kernel
theorem dX0_melt_14 : decode cX0_melt 14 = .ok (.iload_n 1, 1) := by decide +kernel
theorem dX0_melt_15 : decode cX0_melt 15 = .ok (.iaload, 1) := by decide +kernel
theorem dX0_melt_16 : decode cX0_melt 16 = .ok (.iconst 2, 1) := by decide +kernel
theorem dX0_melt_17 : decode cX0_melt 17 = .ok (.idiv, 1) := by decide +kernel
theorem dX0_melt_18 : decode cX0_melt 18 = .ok (.istore_n 2, 1) := by decide +kernel
theorem dX0_melt_19 : decode cX0_melt 19 = .ok (.iconst 0, 1) := by decide +kernel
theorem dX0_melt_20 : decode cX0_melt 20 = .ok (.istore_n 3, 1) := by decide +kernel
theorem dX0_melt_21 : decode cX0_melt 21 = .ok (.iload_n 3, 1) := by decide +kernel
theorem dX0_melt_22 : decode cX0_melt 22 = .ok (.aload_n 0, 1) := by decide +kernel
theorem dX0_melt_23 : decode cX0_melt 23 = .ok (.getfield 9, 3) := by decide +kernel
theorem dX0_melt_26 : decode cX0_melt 26 = .ok (.if_icmp .ge 74, 3) := by decide +kernel
theorem dX0_melt_29 : decode cX0_melt 29 = .ok (.aload_n 0, 1) := by decide +kernel
theorem dX0_melt_30 : decode cX0_melt 30 = .ok (.getfield 52, 3) := by decide +kernel
theorem dX0_melt_33 : decode cX0_melt 33 = .ok (.iload_n 1, 1) := by decide +kernel
theorem dX0_melt_34 : decode cX0_melt 34 = .ok (.iaload, 1) := by decide +kernel
theorem dX0_melt_35 : decode cX0_melt 35 = .ok (.ifCond .le 65, 3) := by decide +kernel
theorem dX0_melt_38 : decode cX0_melt 38 = .ok (.aload_n 0, 1) := by decide +kernel
theorem dX0_melt_39 : decode cX0_melt 39 = .ok (.iload_n 3, 1) := by decide +kernel
theorem dX0_melt_40 : decode cX0_melt 40 = .ok (.invokevirtual 118, 3) := by decide +kernel
theorem dX0_melt_43 : decode cX0_melt 43 = .ok (.ifCond .eq 12, 3) := by decide +kernel
theorem dX0_melt_46 : decode cX0_melt 46 = .ok (.aload_n 0, 1) := by decide +kernel
theorem dX0_melt_47 : decode cX0_melt 47 = .ok (.getfield 48, 3) := by decide +kernel
theorem dX0_melt_50 : decode cX0_melt 50 = .ok (.iload_n 1, 1) := by decide +kernel
theorem dX0_melt_51 : decode cX0_melt 51 = .ok (.iaload, 1) := by decide +kernel
theorem dX0_melt_52 : decode cX0_melt 52 = .ok (.goto 4, 3) := by decide +kernel
theorem dX0_melt_55 : decode cX0_melt 55 = .ok (.iload_n 2, 1) := by decide +kernel
theorem dX0_melt_56 : decode cX0_melt 56 = .ok (.aload_n 0, 1) := by decide +kernel
theorem dX0_melt_57 : decode cX0_melt 57 = .ok (.getfield 52, 3) := by decide +kernel
theorem dX0_melt_60 : decode cX0_melt 60 = .ok (.iload_n 1, 1) := by decide +kernel
theorem dX0_melt_61 : decode cX0_melt 61 = .ok (.iaload, 1) := by decide +kernel
theorem dX0_melt_62 : decode cX0_melt 62 = .ok (.invokestatic 113, 3) := by decide +kernel
theorem dX0_melt_65 : decode cX0_melt 65 = .ok (.istore 4, 2) := by decide +kernel
theorem dX0_melt_67 : decode cX0_melt 67 = .ok (.aload_n 0, 1) := by decide +kernel
theorem dX0_melt_68 : decode cX0_melt 68 = .ok (.getfield 52, 3) := by decide +kernel
theorem dX0_melt_71 : decode cX0_melt 71 = .ok (.iload_n 1, 1) := by decide +kernel
theorem dX0_melt_72 : decode cX0_melt 72 = .ok (.dup2, 1) := by decide +kernel
theorem dX0_melt_73 : decode cX0_melt 73 = .ok (.iaload, 1) := by decide +kernel
theorem dX0_melt_74 : decode cX0_melt 74 = .ok (.iload 4, 2) := by decide +kernel
theorem dX0_melt_76 : decode cX0_melt 76 = .ok (.isub, 1) := by decide +kernel
theorem dX0_melt_77 : decode cX0_melt 77 = .ok (.iastore, 1) := by decide +kernel
theorem dX0_melt_78 : decode cX0_melt 78 = .ok (.aload_n 0, 1) := by decide +kernel
theorem dX0_melt_79 : decode cX0_melt 79 = .ok (.getfield 55, 3) := by decide +kernel
theorem dX0_melt_82 : decode cX0_melt 82 = .ok (.iload_n 1, 1) := by decide +kernel
theorem dX0_melt_83 : decode cX0_melt 83 = .ok (.bipush 8, 2) := by decide +kernel
theorem dX0_melt_85 : decode cX0_melt 85 = .ok (.imul, 1) := by decide +kernel
theorem dX0_melt_86 : decode cX0_melt 86 = .ok (.iload_n 3, 1) := by decide +kernel
theorem dX0_melt_87 : decode cX0_melt 87 = .ok (.iadd, 1) := by decide +kernel
theorem dX0_melt_88 : decode cX0_melt 88 = .ok (.dup2, 1) := by decide +kernel
theorem dX0_melt_89 : decode cX0_melt 89 = .ok (.iaload, 1) := by decide +kernel
theorem dX0_melt_90 : decode cX0_melt 90 = .ok (.iload 4, 2) := by decide +kernel
theorem dX0_melt_92 : decode cX0_melt 92 = .ok (.iadd, 1) := by decide +kernel
theorem dX0_melt_93 : decode cX0_melt 93 = .ok (.iastore, 1) := by decide +kernel
theorem dX0_melt_94 : decode cX0_melt 94 = .ok (.iinc 3 1, 3) := by decide +kernel
theorem dX0_melt_97 : decode cX0_melt 97 = .ok (.goto (-76), 3) := by decide +kernel
theorem dX0_melt_100 : decode cX0_melt 100 = .ok (.iinc 1 1, 3) := by decide +kernel
theorem dX0_melt_103 : decode cX0_melt 103 = .ok (.goto (-101), 3) := by decide +kernel
theorem dX0_melt_106 : decode cX0_melt 106 = .ok (.return_, 1) := by decide +kernel
def fX0_melt_56 (rec_2 : Int32 → SS → Option (Unit × SS)) (rec_21 : Int32 → Int32 → Int32 → SS → Option (Unit × SS)) (x1 : Int32) (x2 : Int32) (x3 : Int32) (y0 : Int32) (s : SS) : Option (Unit × SS) := if ixB x1 3 then (if ixB x1 3 then (if ixB x1 3 then (if ixB ((x1 * (8 : Int32)) + x3) 24 then (if ixB ((x1 * (8 : Int32)) + x3) 24 then (rec_21 x1 x2 (x3 + (1 : Int32)) (wrI (wrI s 2 x1.toNatClampNeg ((s.1 2 x1.toNatClampNeg) - (if (s.1 2 x1.toNatClampNeg) < y0 then (s.1 2 x1.toNatClampNeg) else y0))) 3 (((x1 * (8 : Int32)) + x3).toNatClampNeg) ((s.1 3 (((x1 * (8 : Int32)) + x3).toNatClampNeg)) + (if (s.1 2 x1.toNatClampNeg) < y0 then (s.1 2 x1.toNatClampNeg) else y0)))) else none) else none) else none) else none) else none
def fX0_melt_21 (rec_2 : Int32 → SS → Option (Unit × SS)) : Nat → Int32 → Int32 → Int32 → SS → Option (Unit × SS)
  | 0, _, _, _, _ => none
  | n + 1, x1, x2, x3, s => if (s.1 0 0) ≤ x3 then (rec_2 (x1 + (1 : Int32)) s) else (if ixB x1 3 then (if (s.1 2 x1.toNatClampNeg) ≤ 0 then (rec_2 (x1 + (1 : Int32)) s) else (((fX0_isSunny x3 s).bind fun z4 => if z4.1 = 0 then (fX0_melt_56 rec_2 (fX0_melt_21 rec_2 n) x1 x2 x3 x2 z4.2) else (if ixB x1 3 then (fX0_melt_56 rec_2 (fX0_melt_21 rec_2 n) x1 x2 x3 (z4.2.1 1 x1.toNatClampNeg) z4.2) else none)))) else none)
def fX0_melt_2 : Nat → Int32 → SS → Option (Unit × SS)
  | 0, _, _ => none
  | n + 1, x1, s => if (s.1 0 11) ≤ x1 then (some ((), s)) else (if ixB x1 3 then (fX0_melt_21 (fX0_melt_2 n) FU x1 ((s.1 1 x1.toNatClampNeg) / (2 : Int32)) (0 : Int32) s) else none)
def fX0_melt_0 (s : SS) : Option (Unit × SS) := fX0_melt_2 FU (0 : Int32) s
def fX0_melt (s : SS) : Option (Unit × SS) := fX0_melt_0 s
set_option maxRecDepth 100000 in
set_option maxHeartbeats 4000000 in
theorem okX0_melt_56 {G : GG} {pl : Nat → Nat} {h0 : PH} (rec_2 : Int32 → SS → Option (Unit × SS)) (hrec_2 : ∀ (x1 : Int32) (s : SS), EvF G 1 mX0_melt lyC pl h0 rvU (rec_2 x1 s) 2 [(0, .ref (pl 0)), (1, .int x1)] [] s) (rec_21 : Int32 → Int32 → Int32 → SS → Option (Unit × SS)) (hrec_21 : ∀ (x1 : Int32) (x2 : Int32) (x3 : Int32) (s : SS), EvF G 1 mX0_melt lyC pl h0 rvU (rec_21 x1 x2 x3 s) 21 [(0, .ref (pl 0)), (1, .int x1), (2, .int x2), (3, .int x3)] [] s) (x1 : Int32) (x2 : Int32) (x3 : Int32) (y0 : Int32) (s : SS) : EvF G 1 mX0_melt lyC pl h0 rvU (fX0_melt_56 rec_2 rec_21 x1 x2 x3 y0 s) 56 [(0, .ref (pl 0)), (1, .int x1), (2, .int x2), (3, .int x3)] [.int y0] s := by
  unfold fX0_melt_56
  refine ef_aload_n (q := 57) 0 dX0_melt_56 rfl rfl rfl ?_
  refine ef_getR (t := 2) (q := 60) rfl fl0_52 rfl rfl dX0_melt_57 rfl ?_
  refine ef_iload_n (q := 61) 1 dX0_melt_60 rfl rfl rfl ?_
  refine ef_guard (fun g1 => ?_)
  refine ef_iaload (x := s.1 2 x1.toNatClampNeg) (q := 62) rfl g1 dX0_melt_61 rfl rfl ?_
  refine ef_mmin (q := 65) ml0_113 (by decide) (Nat.le_of_ble_eq_true rfl) dX0_melt_62 rfl ?_
  refine ef_istore (lv' := [(4, .int (if (s.1 2 x1.toNatClampNeg) < y0 then (s.1 2 x1.toNatClampNeg) else y0)), (0, .ref (pl 0)), (1, .int x1), (2, .int x2), (3, .int x3)]) (q := 67) dX0_melt_65 (by decide) rfl rfl ?_
  refine ef_aload_n (q := 68) 1 dX0_melt_67 rfl rfl rfl ?_
  refine ef_getR (t := 2) (q := 71) rfl fl0_52 rfl rfl dX0_melt_68 rfl ?_
  refine ef_iload_n (q := 72) 2 dX0_melt_71 rfl rfl rfl ?_
  refine ef_dup2_11 (q := 73) dX0_melt_72 rfl rfl rfl ?_
  refine ef_guard (fun g2 => ?_)
  refine ef_iaload (x := s.1 2 x1.toNatClampNeg) (q := 74) rfl g2 dX0_melt_73 rfl rfl ?_
  refine ef_iload (q := 76) 0 dX0_melt_74 rfl rfl ?_
  refine ef_isub (q := 77) dX0_melt_76 rfl ?_
  refine ef_guard (fun g3 => ?_)
  refine ef_iastore (j := x1.toNatClampNeg) (q := 78) rfl g3 dX0_melt_77 rfl rfl ?_
  refine ef_aload_n (q := 79) 1 dX0_melt_78 rfl rfl rfl ?_
  refine ef_getR (t := 3) (q := 82) rfl fl0_55 rfl rfl dX0_melt_79 rfl ?_
  refine ef_iload_n (q := 83) 2 dX0_melt_82 rfl rfl rfl ?_
  refine ef_bipush (v := (8 : Int32)) (q := 85) dX0_melt_83 (by decide) rfl ?_
  refine ef_imul (q := 86) dX0_melt_85 rfl ?_
  refine ef_iload_n (q := 87) 4 dX0_melt_86 rfl rfl rfl ?_
  refine ef_iadd (q := 88) dX0_melt_87 rfl ?_
  refine ef_dup2_11 (q := 89) dX0_melt_88 rfl rfl rfl ?_
  refine ef_guard (fun g4 => ?_)
  refine ef_iaload (x := s.1 3 (((x1 * (8 : Int32)) + x3).toNatClampNeg)) (q := 90) rfl g4 dX0_melt_89 rfl rfl ?_
  refine ef_iload (q := 92) 0 dX0_melt_90 rfl rfl ?_
  refine ef_iadd (q := 93) dX0_melt_92 rfl ?_
  refine ef_guard (fun g5 => ?_)
  refine ef_iastore (j := ((x1 * (8 : Int32)) + x3).toNatClampNeg) (q := 94) rfl g5 dX0_melt_93 rfl rfl ?_
  refine ef_iinc (v := x3 + (1 : Int32)) (lv' := [(3, .int (x3 + (1 : Int32))), (4, .int (if (s.1 2 x1.toNatClampNeg) < y0 then (s.1 2 x1.toNatClampNeg) else y0)), (0, .ref (pl 0)), (1, .int x1), (2, .int x2)]) (q := 97) 4 dX0_melt_94 rfl rfl (by decide) rfl rfl ?_
  refine ef_goto (tgt := 21) dX0_melt_97 (by decide) ?_
  refine ef_sub (lv' := [(0, .ref (pl 0)), (1, .int x1), (2, .int x2), (3, .int (x3 + (1 : Int32)))]) [2, 3, 4, 0] rfl ?_
  exact hrec_21 x1 x2 (x3 + (1 : Int32)) (wrI (wrI s 2 x1.toNatClampNeg ((s.1 2 x1.toNatClampNeg) - (if (s.1 2 x1.toNatClampNeg) < y0 then (s.1 2 x1.toNatClampNeg) else y0))) 3 (((x1 * (8 : Int32)) + x3).toNatClampNeg) ((s.1 3 (((x1 * (8 : Int32)) + x3).toNatClampNeg)) + (if (s.1 2 x1.toNatClampNeg) < y0 then (s.1 2 x1.toNatClampNeg) else y0)))
set_option maxRecDepth 100000 in
set_option maxHeartbeats 4000000 in
theorem okX0_melt_21 {G : GG} {pl : Nat → Nat} {h0 : PH} (rec_2 : Int32 → SS → Option (Unit × SS)) (hrec_2 : ∀ (x1 : Int32) (s : SS), EvF G 1 mX0_melt lyC pl h0 rvU (rec_2 x1 s) 2 [(0, .ref (pl 0)), (1, .int x1)] [] s) : ∀ (n : Nat) (x1 : Int32) (x2 : Int32) (x3 : Int32) (s : SS), EvF G 1 mX0_melt lyC pl h0 rvU (fX0_melt_21 rec_2 n x1 x2 x3 s) 21 [(0, .ref (pl 0)), (1, .int x1), (2, .int x2), (3, .int x3)] [] s := by
  intro n
  induction n with
  | zero => intro x1 x2 x3 s; rw [fX0_melt_21]; exact ef_none
  | succ n ih =>
    intro x1 x2 x3 s
    rw [fX0_melt_21]
    refine ef_iload_n (q := 22) 3 dX0_melt_21 rfl rfl rfl ?_
    refine ef_aload_n (q := 23) 0 dX0_melt_22 rfl rfl rfl ?_
    refine ef_getI (x := s.1 0 0) (q := 26) rfl fl0_9 rfl rfl dX0_melt_23 rfl ?_
    refine ef_if (pt := 100) (pf := 29) (fun _ _ => ev_icmp_ge (tgt := 100) dX0_melt_26 (by decide)) (fun h1 => ?_) (fun h1 => ?_)
    · refine ef_iinc (v := x1 + (1 : Int32)) (lv' := [(1, .int (x1 + (1 : Int32))), (0, .ref (pl 0)), (2, .int x2), (3, .int x3)]) (q := 103) 1 dX0_melt_100 rfl rfl (by decide) rfl rfl ?_
      refine ef_goto (tgt := 2) dX0_melt_103 (by decide) ?_
      refine ef_sub (lv' := [(0, .ref (pl 0)), (1, .int (x1 + (1 : Int32)))]) [1, 0] rfl ?_
      exact hrec_2 (x1 + (1 : Int32)) s
    · refine ef_aload_n (q := 30) 0 dX0_melt_29 rfl rfl rfl ?_
      refine ef_getR (t := 2) (q := 33) rfl fl0_52 rfl rfl dX0_melt_30 rfl ?_
      refine ef_iload_n (q := 34) 1 dX0_melt_33 rfl rfl rfl ?_
      refine ef_guard (fun g2 => ?_)
      refine ef_iaload (x := s.1 2 x1.toNatClampNeg) (q := 35) rfl g2 dX0_melt_34 rfl rfl ?_
      refine ef_if (pt := 100) (pf := 38) (fun _ _ => ev_if_le (tgt := 100) dX0_melt_35 (by decide)) (fun h3 => ?_) (fun h3 => ?_)
      · refine ef_iinc (v := x1 + (1 : Int32)) (lv' := [(1, .int (x1 + (1 : Int32))), (0, .ref (pl 0)), (2, .int x2), (3, .int x3)]) (q := 103) 1 dX0_melt_100 rfl rfl (by decide) rfl rfl ?_
        refine ef_goto (tgt := 2) dX0_melt_103 (by decide) ?_
        refine ef_sub (lv' := [(0, .ref (pl 0)), (1, .int (x1 + (1 : Int32)))]) [1, 0] rfl ?_
        exact hrec_2 (x1 + (1 : Int32)) s
      · refine ef_aload_n (q := 39) 0 dX0_melt_38 rfl rfl rfl ?_
        refine ef_iload_n (q := 40) 3 dX0_melt_39 rfl rfl rfl ?_
        refine ef_invVI0 (k := 0) (As := [.int x3]) (rest := []) (q := 43) (okX0_isSunny x3) rfl calX0_isSunny ml0_118 (by decide) rfl rfl rfl (Nat.le_of_ble_eq_true rfl) dX0_melt_40 rfl (fun z4 => ?_)
        refine ef_if (pt := 55) (pf := 46) (fun _ _ => ev_if_eq (tgt := 55) dX0_melt_43 (by decide)) (fun h5 => ?_) (fun h5 => ?_)
        · refine ef_iload_n (q := 56) 2 dX0_melt_55 rfl rfl rfl ?_
          refine ef_sub (lv' := [(0, .ref (pl 0)), (1, .int x1), (2, .int x2), (3, .int x3)]) [0, 1, 2, 3] rfl ?_
          exact okX0_melt_56 rec_2 hrec_2 (fX0_melt_21 rec_2 n) ih x1 x2 x3 x2 z4.2
        · refine ef_aload_n (q := 47) 0 dX0_melt_46 rfl rfl rfl ?_
          refine ef_getR (t := 1) (q := 50) rfl fl0_48 rfl rfl dX0_melt_47 rfl ?_
          refine ef_iload_n (q := 51) 1 dX0_melt_50 rfl rfl rfl ?_
          refine ef_guard (fun g6 => ?_)
          refine ef_iaload (x := z4.2.1 1 x1.toNatClampNeg) (q := 52) rfl g6 dX0_melt_51 rfl rfl ?_
          refine ef_goto (tgt := 56) dX0_melt_52 (by decide) ?_
          refine ef_sub (lv' := [(0, .ref (pl 0)), (1, .int x1), (2, .int x2), (3, .int x3)]) [0, 1, 2, 3] rfl ?_
          exact okX0_melt_56 rec_2 hrec_2 (fX0_melt_21 rec_2 n) ih x1 x2 x3 (z4.2.1 1 x1.toNatClampNeg) z4.2
set_option maxRecDepth 100000 in
set_option maxHeartbeats 4000000 in
theorem okX0_melt_2 {G : GG} {pl : Nat → Nat} {h0 : PH} : ∀ (n : Nat) (x1 : Int32) (s : SS), EvF G 1 mX0_melt lyC pl h0 rvU (fX0_melt_2 n x1 s) 2 [(0, .ref (pl 0)), (1, .int x1)] [] s := by
  intro n
  induction n with
  | zero => intro x1 s; rw [fX0_melt_2]; exact ef_none
  | succ n ih =>
    intro x1 s
    rw [fX0_melt_2]
    refine ef_iload_n (q := 3) 1 dX0_melt_2 rfl rfl rfl ?_
    refine ef_aload_n (q := 4) 0 dX0_melt_3 rfl rfl rfl ?_
    refine ef_getI (x := s.1 0 11) (q := 7) rfl fl0_45 rfl rfl dX0_melt_4 rfl ?_
    refine ef_if (pt := 106) (pf := 10) (fun _ _ => ev_icmp_ge (tgt := 106) dX0_melt_7 (by decide)) (fun h1 => ?_) (fun h1 => ?_)
    · exact ef_vret rfl dX0_melt_106
    · refine ef_aload_n (q := 11) 0 dX0_melt_10 rfl rfl rfl ?_
      refine ef_getR (t := 1) (q := 14) rfl fl0_48 rfl rfl dX0_melt_11 rfl ?_
      refine ef_iload_n (q := 15) 1 dX0_melt_14 rfl rfl rfl ?_
      refine ef_guard (fun g2 => ?_)
      refine ef_iaload (x := s.1 1 x1.toNatClampNeg) (q := 16) rfl g2 dX0_melt_15 rfl rfl ?_
      refine ef_iconst (v := (2 : Int32)) (q := 17) dX0_melt_16 (by decide) rfl ?_
      refine ef_idiv (q := 18) dX0_melt_17 (by decide) rfl ?_
      refine ef_istore_n (lv' := [(2, .int ((s.1 1 x1.toNatClampNeg) / (2 : Int32))), (0, .ref (pl 0)), (1, .int x1)]) (q := 19) dX0_melt_18 rfl (by decide) rfl rfl ?_
      refine ef_iconst (v := (0 : Int32)) (q := 20) dX0_melt_19 (by decide) rfl ?_
      refine ef_istore_n (lv' := [(3, .int (0 : Int32)), (2, .int ((s.1 1 x1.toNatClampNeg) / (2 : Int32))), (0, .ref (pl 0)), (1, .int x1)]) (q := 21) dX0_melt_20 rfl (by decide) rfl rfl ?_
      refine ef_sub (lv' := [(0, .ref (pl 0)), (1, .int x1), (2, .int ((s.1 1 x1.toNatClampNeg) / (2 : Int32))), (3, .int (0 : Int32))]) [2, 3, 1, 0] rfl ?_
      exact okX0_melt_21 (fX0_melt_2 n) ih FU x1 ((s.1 1 x1.toNatClampNeg) / (2 : Int32)) (0 : Int32) s
set_option maxRecDepth 100000 in
set_option maxHeartbeats 4000000 in
theorem okX0_melt_0 {G : GG} {pl : Nat → Nat} {h0 : PH} (s : SS) : EvF G 1 mX0_melt lyC pl h0 rvU (fX0_melt_0 s) 0 [(0, .ref (pl 0))] [] s := by
  unfold fX0_melt_0
  refine ef_iconst (v := (0 : Int32)) (q := 1) dX0_melt_0 (by decide) rfl ?_
  refine ef_istore_n (lv' := [(1, .int (0 : Int32)), (0, .ref (pl 0))]) (q := 2) dX0_melt_1 rfl (by decide) rfl rfl ?_
  refine ef_sub (lv' := [(0, .ref (pl 0)), (1, .int (0 : Int32))]) [1, 0] rfl ?_
  exact okX0_melt_2 FU (0 : Int32) s
theorem okX0_melt : MtF 1 mX0_melt lyC rvU (fun _ pl => [.ref (pl 0)]) (fX0_melt) := by
  refine MtF.of (by decide +kernel) rfl (fun _ pl => Nat.le_of_ble_eq_true rfl) (fun G pl h0 s => ?_)
  refine ef_sub (lv := [(0, .ref (pl 0))]) (lv' := [(0, .ref (pl 0))]) [0] rfl ?_
  exact okX0_melt_0  s
-- X0_runDown
theorem dX0_runDown_0 : decode cX0_runDown 0 = .ok (.aload_n 0, 1) := by decide +kernel
theorem dX0_runDown_1 : decode cX0_runDown 1 = .ok (.getfield 45, 3) := by decide +kernel
theorem dX0_runDown_4 : decode cX0_runDown 4 = .ok (.iconst 1, 1) := by decide +kernel
theorem dX0_runDown_5 : decode cX0_runDown 5 = .ok (.isub, 1) := by decide +kernel
theorem dX0_runDown_6 : decode cX0_runDown 6 = .ok (.istore_n 1, 1) := by decide +kernel
theorem dX0_runDown_7 : decode cX0_runDown 7 = .ok (.iload_n 1, 1) := by decide +kernel
theorem dX0_runDown_8 : decode cX0_runDown 8 = .ok (.ifCond .lt 95, 3) := by decide +kernel
theorem dX0_runDown_11 : decode cX0_runDown 11 = .ok (.iconst 0, 1) := by decide +kernel
theorem dX0_runDown_12 : decode cX0_runDown 12 = .ok (.istore_n 2, 1) := by decide +kernel
theorem dX0_runDown_13 : decode cX0_runDown 13 = .ok (.iload_n 2, 1) := by decide +kernel
theorem dX0_runDown_14 : decode cX0_runDown 14 = .ok (.aload_n 0, 1) := by decide +kernel
theorem dX0_runDown_15 : decode cX0_runDown 15 = .ok (.getfield 9, 3) := by decide +kernel
theorem dX0_runDown_18 : decode cX0_runDown 18 = .ok (.if_icmp .ge 79, 3) := by decide +kernel
theorem dX0_runDown_21 : decode cX0_runDown 21 = .ok (.iload_n 1, 1) := by decide +kernel
theorem dX0_runDown_22 : decode cX0_runDown 22 = .ok (.bipush 8, 2) := by decide +kernel
theorem dX0_runDown_24 : decode cX0_runDown 24 = .ok (.imul, 1) := by decide +kernel
theorem dX0_runDown_25 : decode cX0_runDown 25 = .ok (.iload_n 2, 1) := by decide +kernel
theorem dX0_runDown_26 : decode cX0_runDown 26 = .ok (.iadd, 1) := by decide +kernel
theorem dX0_runDown_27 : decode cX0_runDown 27 = .ok (.istore_n 3, 1) := by decide +kernel
theorem dX0_runDown_28 : decode cX0_runDown 28 = .ok (.aload_n 0, 1) := by decide +kernel
theorem dX0_runDown_29 : decode cX0_runDown 29 = .ok (.getfield 55, 3) := by decide +kernel
theorem dX0_runDown_32 : decode cX0_runDown 32 = .ok (.iload_n 3, 1) := by decide +kernel
theorem dX0_runDown_33 : decode cX0_runDown 33 = .ok (.iaload, 1) := by decide +kernel
theorem dX0_runDown_34 : decode cX0_runDown 34 = .ok (.aload_n 0, 1) := by decide +kernel
theorem dX0_runDown_35 : decode cX0_runDown 35 = .ok (.getfield 21, 3) := by decide +kernel
theorem dX0_runDown_38 : decode cX0_runDown 38 = .ok (.isub, 1) := by decide +kernel
theorem dX0_runDown_39 : decode cX0_runDown 39 = .ok (.istore 4, 2) := by decide +kernel
theorem dX0_runDown_41 : decode cX0_runDown 41 = .ok (.iload 4, 2) := by decide +kernel
theorem dX0_runDown_43 : decode cX0_runDown 43 = .ok (.ifCond .gt 6, 3) := by decide +kernel
theorem dX0_runDown_46 : decode cX0_runDown 46 = .ok (.goto 45, 3) := by decide +kernel
theorem dX0_runDown_49 : decode cX0_runDown 49 = .ok (.aload_n 0, 1) := by decide +kernel
theorem dX0_runDown_50 : decode cX0_runDown 50 = .ok (.getfield 55, 3) := by decide +kernel
theorem dX0_runDown_53 : decode cX0_runDown 53 = .ok (.iload_n 3, 1) := by decide +kernel
theorem dX0_runDown_54 : decode cX0_runDown 54 = .ok (.aload_n 0, 1) := by decide +kernel
theorem dX0_runDown_55 : decode cX0_runDown 55 = .ok (.getfield 21, 3) := by decide +kernel
theorem dX0_runDown_58 : decode cX0_runDown 58 = .ok (.iastore, 1) := by decide +kernel
theorem dX0_runDown_59 : decode cX0_runDown 59 = .ok (.iload_n 1, 1) := by decide +kernel
theorem dX0_runDown_60 : decode cX0_runDown 60 = .ok (.ifCond .ne 17, 3) := by decide +kernel
theorem dX0_runDown_63 : decode cX0_runDown 63 = .ok (.aload_n 0, 1) := by decide +kernel
theorem dX0_runDown_64 : decode cX0_runDown 64 = .ok (.getfield 58, 3) := by decide +kernel
theorem dX0_runDown_67 : decode cX0_runDown 67 = .ok (.iload_n 2, 1) := by decide +kernel
theorem dX0_runDown_68 : decode cX0_runDown 68 = .ok (.dup2, 1) := by decide +kernel
theorem dX0_runDown_69 : decode cX0_runDown 69 = .ok (.iaload, 1) := by decide +kernel
theorem dX0_runDown_70 : decode cX0_runDown 70 = .ok (.iload 4, 2) := by decide +kernel
theorem dX0_runDown_72 : decode cX0_runDown 72 = .ok (.iadd, 1) := by decide +kernel
theorem dX0_runDown_73 : decode cX0_runDown 73 = .ok (.iastore, 1) := by decide +kernel
theorem dX0_runDown_74 : decode cX0_runDown 74 = .ok (.goto 17, 3) := by decide +kernel
theorem dX0_runDown_77 : decode cX0_runDown 77 = .ok (.aload_n 0, 1) := by decide +kernel
theorem dX0_runDown_78 : decode cX0_runDown 78 = .ok (.getfield 55, 3) := by decide +kernel
theorem dX0_runDown_81 : decode cX0_runDown 81 = .ok (.iload_n 3, 1) := by decide +kernel
theorem dX0_runDown_82 : decode cX0_runDown 82 = .ok (.bipush 8, 2) := by decide +kernel
theorem dX0_runDown_84 : decode cX0_runDown 84 = .ok (.isub, 1) := by decide +kernel
theorem dX0_runDown_85 : decode cX0_runDown 85 = .ok (.dup2, 1) := by decide +kernel
theorem dX0_runDown_86 : decode cX0_runDown 86 = .ok (.iaload, 1) := by decide +kernel
theorem dX0_runDown_87 : decode cX0_runDown 87 = .ok (.iload 4, 2) := by decide +kernel
theorem dX0_runDown_89 : decode cX0_runDown 89 = .ok (.iadd, 1) := by decide +kernel
theorem dX0_runDown_90 : decode cX0_runDown 90 = .ok (.iastore, 1) := by decide +kernel
theorem dX0_runDown_91 : decode cX0_runDown 91 = .ok (.iinc 2 1, 3) := by decide +kernel
theorem dX0_runDown_94 : decode cX0_runDown 94 = .ok (.goto (-81), 3) := by decide +kernel
theorem dX0_runDown_97 : decode cX0_runDown 97 = .ok (.iinc 1 (-1), 3) := by decide +kernel
theorem dX0_runDown_100 : decode cX0_runDown 100 = .ok (.goto (-93), 3) := by decide +kernel
theorem dX0_runDown_103 : decode cX0_runDown 103 = .ok (.return_, 1) := by decide +kernel
def fX0_runDown_13 (rec_7 : Int32 → SS → Option (Unit × SS)) : Nat → Int32 → Int32 → SS → Option (Unit × SS)
  | 0, _, _, _ => none
  | n + 1, x1, x2, s => if (s.1 0 0) ≤ x2 then (rec_7 (x1 + (-1 : Int32)) s) else (if ixB ((x1 * (8 : Int32)) + x2) 24 then (if 0 < ((s.1 3 (((x1 * (8 : Int32)) + x2).toNatClampNeg)) - (s.1 0 3)) then (if ixB ((x1 * (8 : Int32)) + x2) 24 then (if x1 = 0 then (if ixB x2 8 then (if ixB x2 8 then (fX0_runDown_13 rec_7 n x1 (x2 + (1 : Int32)) (wrI (wrI s 3 (((x1 * (8 : Int32)) + x2).toNatClampNeg) (s.1 0 3)) 4 x2.toNatClampNeg ((s.1 4 x2.toNatClampNeg) + ((s.1 3 (((x1 * (8 : Int32)) + x2).toNatClampNeg)) - (s.1 0 3))))) else none) else none) else (if ixB (((x1 * (8 : Int32)) + x2) - (8 : Int32)) 24 then (if ixB (((x1 * (8 : Int32)) + x2) - (8 : Int32)) 24 then (fX0_runDown_13 rec_7 n x1 (x2 + (1 : Int32)) (wrI (wrI s 3 (((x1 * (8 : Int32)) + x2).toNatClampNeg) (s.1 0 3)) 3 ((((x1 * (8 : Int32)) + x2) - (8 : Int32)).toNatClampNeg) (((wrI s 3 (((x1 * (8 : Int32)) + x2).toNatClampNeg) (s.1 0 3)).1 3 ((((x1 * (8 : Int32)) + x2) - (8 : Int32)).toNatClampNeg)) + ((s.1 3 (((x1 * (8 : Int32)) + x2).toNatClampNeg)) - (s.1 0 3))))) else none) else none)) else none) else (fX0_runDown_13 rec_7 n x1 (x2 + (1 : Int32)) s)) else none)
def fX0_runDown_7 : Nat → Int32 → SS → Option (Unit × SS)
  | 0, _, _ => none
  | n + 1, x1, s => if x1 < 0 then (some ((), s)) else (fX0_runDown_13 (fX0_runDown_7 n) FU x1 (0 : Int32) s)
def fX0_runDown_0 (s : SS) : Option (Unit × SS) := fX0_runDown_7 FU ((s.1 0 11) - (1 : Int32)) s
def fX0_runDown (s : SS) : Option (Unit × SS) := fX0_runDown_0 s
set_option maxRecDepth 100000 in
set_option maxHeartbeats 4000000 in
theorem okX0_runDown_13 {G : GG} {pl : Nat → Nat} {h0 : PH} (rec_7 : Int32 → SS → Option (Unit × SS)) (hrec_7 : ∀ (x1 : Int32) (s : SS), EvF G 0 mX0_runDown lyC pl h0 rvU (rec_7 x1 s) 7 [(0, .ref (pl 0)), (1, .int x1)] [] s) : ∀ (n : Nat) (x1 : Int32) (x2 : Int32) (s : SS), EvF G 0 mX0_runDown lyC pl h0 rvU (fX0_runDown_13 rec_7 n x1 x2 s) 13 [(0, .ref (pl 0)), (1, .int x1), (2, .int x2)] [] s := by
  intro n
  induction n with
  | zero => intro x1 x2 s; rw [fX0_runDown_13]; exact ef_none
  | succ n ih =>
    intro x1 x2 s
    rw [fX0_runDown_13]
    refine ef_iload_n (q := 14) 2 dX0_runDown_13 rfl rfl rfl ?_
    refine ef_aload_n (q := 15) 0 dX0_runDown_14 rfl rfl rfl ?_
    refine ef_getI (x := s.1 0 0) (q := 18) rfl fl0_9 rfl rfl dX0_runDown_15 rfl ?_
    refine ef_if (pt := 97) (pf := 21) (fun _ _ => ev_icmp_ge (tgt := 97) dX0_runDown_18 (by decide)) (fun h1 => ?_) (fun h1 => ?_)
    · refine ef_iinc (v := x1 + (-1 : Int32)) (lv' := [(1, .int (x1 + (-1 : Int32))), (0, .ref (pl 0)), (2, .int x2)]) (q := 100) 1 dX0_runDown_97 rfl rfl (by decide) rfl rfl ?_
      refine ef_goto (tgt := 7) dX0_runDown_100 (by decide) ?_
      refine ef_sub (lv' := [(0, .ref (pl 0)), (1, .int (x1 + (-1 : Int32)))]) [1, 0] rfl ?_
      exact hrec_7 (x1 + (-1 : Int32)) s
    · refine ef_iload_n (q := 22) 1 dX0_runDown_21 rfl rfl rfl ?_
      refine ef_bipush (v := (8 : Int32)) (q := 24) dX0_runDown_22 (by decide) rfl ?_
      refine ef_imul (q := 25) dX0_runDown_24 rfl ?_
      refine ef_iload_n (q := 26) 2 dX0_runDown_25 rfl rfl rfl ?_
      refine ef_iadd (q := 27) dX0_runDown_26 rfl ?_
      refine ef_istore_n (lv' := [(3, .int ((x1 * (8 : Int32)) + x2)), (0, .ref (pl 0)), (1, .int x1), (2, .int x2)]) (q := 28) dX0_runDown_27 rfl (by decide) rfl rfl ?_
      refine ef_aload_n (q := 29) 1 dX0_runDown_28 rfl rfl rfl ?_
      refine ef_getR (t := 3) (q := 32) rfl fl0_55 rfl rfl dX0_runDown_29 rfl ?_
      refine ef_iload_n (q := 33) 0 dX0_runDown_32 rfl rfl rfl ?_
      refine ef_guard (fun g2 => ?_)
      refine ef_iaload (x := s.1 3 (((x1 * (8 : Int32)) + x2).toNatClampNeg)) (q := 34) rfl g2 dX0_runDown_33 rfl rfl ?_
      refine ef_aload_n (q := 35) 1 dX0_runDown_34 rfl rfl rfl ?_
      refine ef_getI (x := s.1 0 3) (q := 38) rfl fl0_21 rfl rfl dX0_runDown_35 rfl ?_
      refine ef_isub (q := 39) dX0_runDown_38 rfl ?_
      refine ef_istore (lv' := [(4, .int ((s.1 3 (((x1 * (8 : Int32)) + x2).toNatClampNeg)) - (s.1 0 3))), (3, .int ((x1 * (8 : Int32)) + x2)), (0, .ref (pl 0)), (1, .int x1), (2, .int x2)]) (q := 41) dX0_runDown_39 (by decide) rfl rfl ?_
      refine ef_iload (q := 43) 0 dX0_runDown_41 rfl rfl ?_
      refine ef_if (pt := 49) (pf := 46) (fun _ _ => ev_if_gt (tgt := 49) dX0_runDown_43 (by decide)) (fun h3 => ?_) (fun h3 => ?_)
      · refine ef_aload_n (q := 50) 2 dX0_runDown_49 rfl rfl rfl ?_
        refine ef_getR (t := 3) (q := 53) rfl fl0_55 rfl rfl dX0_runDown_50 rfl ?_
        refine ef_iload_n (q := 54) 1 dX0_runDown_53 rfl rfl rfl ?_
        refine ef_aload_n (q := 55) 2 dX0_runDown_54 rfl rfl rfl ?_
        refine ef_getI (x := s.1 0 3) (q := 58) rfl fl0_21 rfl rfl dX0_runDown_55 rfl ?_
        refine ef_guard (fun g4 => ?_)
        refine ef_iastore (j := ((x1 * (8 : Int32)) + x2).toNatClampNeg) (q := 59) rfl g4 dX0_runDown_58 rfl rfl ?_
        refine ef_iload_n (q := 60) 3 dX0_runDown_59 rfl rfl rfl ?_
        refine ef_if (pt := 63) (pf := 77) (fun _ _ kt kf => ev_if_ne (tgt := 77) dX0_runDown_60 (by decide) kf kt) (fun h5 => ?_) (fun h5 => ?_)
        · refine ef_aload_n (q := 64) 2 dX0_runDown_63 rfl rfl rfl ?_
          refine ef_getR (t := 4) (q := 67) rfl fl0_58 rfl rfl dX0_runDown_64 rfl ?_
          refine ef_iload_n (q := 68) 4 dX0_runDown_67 rfl rfl rfl ?_
          refine ef_dup2_11 (q := 69) dX0_runDown_68 rfl rfl rfl ?_
          refine ef_guard (fun g6 => ?_)
          refine ef_iaload (x := s.1 4 x2.toNatClampNeg) (q := 70) rfl g6 dX0_runDown_69 rfl rfl ?_
          refine ef_iload (q := 72) 0 dX0_runDown_70 rfl rfl ?_
          refine ef_iadd (q := 73) dX0_runDown_72 rfl ?_
          refine ef_guard (fun g7 => ?_)
          refine ef_iastore (j := x2.toNatClampNeg) (q := 74) rfl g7 dX0_runDown_73 rfl rfl ?_
          refine ef_goto (tgt := 91) dX0_runDown_74 (by decide) ?_
          refine ef_iinc (v := x2 + (1 : Int32)) (lv' := [(2, .int (x2 + (1 : Int32))), (4, .int ((s.1 3 (((x1 * (8 : Int32)) + x2).toNatClampNeg)) - (s.1 0 3))), (3, .int ((x1 * (8 : Int32)) + x2)), (0, .ref (pl 0)), (1, .int x1)]) (q := 94) 4 dX0_runDown_91 rfl rfl (by decide) rfl rfl ?_
          refine ef_goto (tgt := 13) dX0_runDown_94 (by decide) ?_
          refine ef_sub (lv' := [(0, .ref (pl 0)), (1, .int x1), (2, .int (x2 + (1 : Int32)))]) [3, 4, 0] rfl ?_
          exact ih x1 (x2 + (1 : Int32)) (wrI (wrI s 3 (((x1 * (8 : Int32)) + x2).toNatClampNeg) (s.1 0 3)) 4 x2.toNatClampNeg ((s.1 4 x2.toNatClampNeg) + ((s.1 3 (((x1 * (8 : Int32)) + x2).toNatClampNeg)) - (s.1 0 3))))
        · refine ef_aload_n (q := 78) 2 dX0_runDown_77 rfl rfl rfl ?_
          refine ef_getR (t := 3) (q := 81) rfl fl0_55 rfl rfl dX0_runDown_78 rfl ?_
          refine ef_iload_n (q := 82) 1 dX0_runDown_81 rfl rfl rfl ?_
          refine ef_bipush (v := (8 : Int32)) (q := 84) dX0_runDown_82 (by decide) rfl ?_
          refine ef_isub (q := 85) dX0_runDown_84 rfl ?_
          refine ef_dup2_11 (q := 86) dX0_runDown_85 rfl rfl rfl ?_
          refine ef_guard (fun g8 => ?_)
          refine ef_iaload (x := (wrI s 3 (((x1 * (8 : Int32)) + x2).toNatClampNeg) (s.1 0 3)).1 3 ((((x1 * (8 : Int32)) + x2) - (8 : Int32)).toNatClampNeg)) (q := 87) rfl g8 dX0_runDown_86 rfl rfl ?_
          refine ef_iload (q := 89) 0 dX0_runDown_87 rfl rfl ?_
          refine ef_iadd (q := 90) dX0_runDown_89 rfl ?_
          refine ef_guard (fun g9 => ?_)
          refine ef_iastore (j := (((x1 * (8 : Int32)) + x2) - (8 : Int32)).toNatClampNeg) (q := 91) rfl g9 dX0_runDown_90 rfl rfl ?_
          refine ef_iinc (v := x2 + (1 : Int32)) (lv' := [(2, .int (x2 + (1 : Int32))), (4, .int ((s.1 3 (((x1 * (8 : Int32)) + x2).toNatClampNeg)) - (s.1 0 3))), (3, .int ((x1 * (8 : Int32)) + x2)), (0, .ref (pl 0)), (1, .int x1)]) (q := 94) 4 dX0_runDown_91 rfl rfl (by decide) rfl rfl ?_
          refine ef_goto (tgt := 13) dX0_runDown_94 (by decide) ?_
          refine ef_sub (lv' := [(0, .ref (pl 0)), (1, .int x1), (2, .int (x2 + (1 : Int32)))]) [3, 4, 0] rfl ?_
          exact ih x1 (x2 + (1 : Int32)) (wrI (wrI s 3 (((x1 * (8 : Int32)) + x2).toNatClampNeg) (s.1 0 3)) 3 ((((x1 * (8 : Int32)) + x2) - (8 : Int32)).toNatClampNeg) (((wrI s 3 (((x1 * (8 : Int32)) + x2).toNatClampNeg) (s.1 0 3)).1 3 ((((x1 * (8 : Int32)) + x2) - (8 : Int32)).toNatClampNeg)) + ((s.1 3 (((x1 * (8 : Int32)) + x2).toNatClampNeg)) - (s.1 0 3))))
      · refine ef_goto (tgt := 91) dX0_runDown_46 (by decide) ?_
        refine ef_iinc (v := x2 + (1 : Int32)) (lv' := [(2, .int (x2 + (1 : Int32))), (4, .int ((s.1 3 (((x1 * (8 : Int32)) + x2).toNatClampNeg)) - (s.1 0 3))), (3, .int ((x1 * (8 : Int32)) + x2)), (0, .ref (pl 0)), (1, .int x1)]) (q := 94) 4 dX0_runDown_91 rfl rfl (by decide) rfl rfl ?_
        refine ef_goto (tgt := 13) dX0_runDown_94 (by decide) ?_
        refine ef_sub (lv' := [(0, .ref (pl 0)), (1, .int x1), (2, .int (x2 + (1 : Int32)))]) [3, 4, 0] rfl ?_
        exact ih x1 (x2 + (1 : Int32)) s
set_option maxRecDepth 100000 in
set_option maxHeartbeats 4000000 in
theorem okX0_runDown_7 {G : GG} {pl : Nat → Nat} {h0 : PH} : ∀ (n : Nat) (x1 : Int32) (s : SS), EvF G 0 mX0_runDown lyC pl h0 rvU (fX0_runDown_7 n x1 s) 7 [(0, .ref (pl 0)), (1, .int x1)] [] s := by
  intro n
  induction n with
  | zero => intro x1 s; rw [fX0_runDown_7]; exact ef_none
  | succ n ih =>
    intro x1 s
    rw [fX0_runDown_7]
    refine ef_iload_n (q := 8) 1 dX0_runDown_7 rfl rfl rfl ?_
    refine ef_if (pt := 103) (pf := 11) (fun _ _ => ev_if_lt (tgt := 103) dX0_runDown_8 (by decide)) (fun h1 => ?_) (fun h1 => ?_)
    · exact ef_vret rfl dX0_runDown_103
    · refine ef_iconst (v := (0 : Int32)) (q := 12) dX0_runDown_11 (by decide) rfl ?_
      refine ef_istore_n (lv' := [(2, .int (0 : Int32)), (0, .ref (pl 0)), (1, .int x1)]) (q := 13) dX0_runDown_12 rfl (by decide) rfl rfl ?_
      refine ef_sub (lv' := [(0, .ref (pl 0)), (1, .int x1), (2, .int (0 : Int32))]) [1, 2, 0] rfl ?_
      exact okX0_runDown_13 (fX0_runDown_7 n) ih FU x1 (0 : Int32) s
set_option maxRecDepth 100000 in
set_option maxHeartbeats 4000000 in
theorem okX0_runDown_0 {G : GG} {pl : Nat → Nat} {h0 : PH} (s : SS) : EvF G 0 mX0_runDown lyC pl h0 rvU (fX0_runDown_0 s) 0 [(0, .ref (pl 0))] [] s := by
  unfold fX0_runDown_0
  refine ef_aload_n (q := 1) 0 dX0_runDown_0 rfl rfl rfl ?_
  refine ef_getI (x := s.1 0 11) (q := 4) rfl fl0_45 rfl rfl dX0_runDown_1 rfl ?_
  refine ef_iconst (v := (1 : Int32)) (q := 5) dX0_runDown_4 (by decide) rfl ?_
  refine ef_isub (q := 6) dX0_runDown_5 rfl ?_
  refine ef_istore_n (lv' := [(1, .int ((s.1 0 11) - (1 : Int32))), (0, .ref (pl 0))]) (q := 7) dX0_runDown_6 rfl (by decide) rfl rfl ?_
  refine ef_sub (lv' := [(0, .ref (pl 0)), (1, .int ((s.1 0 11) - (1 : Int32)))]) [1, 0] rfl ?_
  exact okX0_runDown_7 FU ((s.1 0 11) - (1 : Int32)) s
theorem okX0_runDown : MtF 0 mX0_runDown lyC rvU (fun _ pl => [.ref (pl 0)]) (fX0_runDown) := by
  refine MtF.of (by decide +kernel) rfl (fun _ pl => Nat.le_of_ble_eq_true rfl) (fun G pl h0 s => ?_)
  refine ef_sub (lv := [(0, .ref (pl 0))]) (lv' := [(0, .ref (pl 0))]) [0] rfl ?_
  exact okX0_runDown_0  s
-- X0_fallOff
theorem dX0_fallOff_0 : decode cX0_fallOff 0 = .ok (.iconst 0, 1) := by decide +kernel
theorem dX0_fallOff_1 : decode cX0_fallOff 1 = .ok (.istore_n 1, 1) := by decide +kernel
theorem dX0_fallOff_2 : decode cX0_fallOff 2 = .ok (.iload_n 1, 1) := by decide +kernel
theorem dX0_fallOff_3 : decode cX0_fallOff 3 = .ok (.aload_n 0, 1) := by decide +kernel
theorem dX0_fallOff_4 : decode cX0_fallOff 4 = .ok (.getfield 9, 3) := by decide +kernel
theorem dX0_fallOff_7 : decode cX0_fallOff 7 = .ok (.if_icmp .ge 71, 3) := by decide +kernel
theorem dX0_fallOff_10 : decode cX0_fallOff 10 = .ok (.aload_n 0, 1) := by decide +kernel
theorem dX0_fallOff_11 : decode cX0_fallOff 11 = .ok (.getfield 58, 3) := by decide +kernel
theorem dX0_fallOff_14 : decode cX0_fallOff 14 = .ok (.iload_n 1, 1) := by decide +kernel
theorem dX0_fallOff_15 : decode cX0_fallOff 15 = .ok (.iaload, 1) := by decide +kernel
theorem dX0_fallOff_16 : decode cX0_fallOff 16 = .ok (.aload_n 0, 1) := by decide +kernel
theorem dX0_fallOff_17 : decode cX0_fallOff 17 = .ok (.getfield 24, 3) := by decide +kernel
theorem dX0_fallOff_20 : decode cX0_fallOff 20 = .ok (.if_icmp .le 33, 3) := by decide +kernel
theorem dX0_fallOff_23 : decode cX0_fallOff 23 = .ok (.aload_n 0, 1) := by decide +kernel
theorem dX0_fallOff_24 : decode cX0_fallOff 24 = .ok (.dup, 1) := by decide +kernel
theorem dX0_fallOff_25 : decode cX0_fallOff 25 = .ok (.getfield 36, 3) := by decide +kernel
theorem dX0_fallOff_28 : decode cX0_fallOff 28 = .ok (.aload_n 0, 1) := by decide +kernel
theorem dX0_fallOff_29 : decode cX0_fallOff 29 = .ok (.getfield 58, 3) := by decide +kernel
theorem dX0_fallOff_32 : decode cX0_fallOff 32 = .ok (.iload_n 1, 1) := by decide +kernel
theorem dX0_fallOff_33 : decode cX0_fallOff 33 = .ok (.iaload, 1) := by decide +kernel
theorem dX0_fallOff_34 : decode cX0_fallOff 34 = .ok (.aload_n 0, 1) := by decide +kernel
theorem dX0_fallOff_35 : decode cX0_fallOff 35 = .ok (.getfield 24, 3) := by decide +kernel
theorem dX0_fallOff_38 : decode cX0_fallOff 38 = .ok (.isub, 1) := by decide +kernel
theorem dX0_fallOff_39 : decode cX0_fallOff 39 = .ok (.iadd, 1) := by decide +kernel
theorem dX0_fallOff_40 : decode cX0_fallOff 40 = .ok (.putfield 36, 3) := by decide +kernel
theorem dX0_fallOff_43 : decode cX0_fallOff 43 = .ok (.aload_n 0, 1) := by decide +kernel
theorem dX0_fallOff_44 : decode cX0_fallOff 44 = .ok (.getfield 58, 3) := by decide +kernel
theorem dX0_fallOff_47 : decode cX0_fallOff 47 = .ok (.iload_n 1, 1) := by decide +kernel
theorem dX0_fallOff_48 : decode cX0_fallOff 48 = .ok (.aload_n 0, 1) := by decide +kernel
theorem dX0_fallOff_49 : decode cX0_fallOff 49 = .ok (.getfield 24, 3) := by decide +kernel
theorem dX0_fallOff_52 : decode cX0_fallOff 52 = .ok (.iastore, 1) := by decide +kernel
theorem dX0_fallOff_53 : decode cX0_fallOff 53 = .ok (.aload_n 0, 1) := by decide +kernel
theorem dX0_fallOff_54 : decode cX0_fallOff 54 = .ok (.getfield 58, 3) := by decide +kernel
theorem dX0_fallOff_57 : decode cX0_fallOff 57 = .ok (.iload_n 1, 1) := by decide +kernel
theorem dX0_fallOff_58 : decode cX0_fallOff 58 = .ok (.iaload, 1) := by decide +kernel
theorem dX0_fallOff_59 : decode cX0_fallOff 59 = .ok (.ifCond .le 13, 3) := by decide +kernel
theorem dX0_fallOff_62 : decode cX0_fallOff 62 = .ok (.aload_n 0, 1) := by decide +kernel
theorem dX0_fallOff_63 : decode cX0_fallOff 63 = .ok (.dup, 1) := by decide +kernel
theorem dX0_fallOff_64 : decode cX0_fallOff 64 = .ok (.getfield 42, 3) := by decide +kernel
theorem dX0_fallOff_67 : decode cX0_fallOff 67 = .ok (.iconst 1, 1) := by decide +kernel
theorem dX0_fallOff_68 : decode cX0_fallOff 68 = .ok (.iadd, 1) := by decide +kernel
theorem dX0_fallOff_69 : decode cX0_fallOff 69 = .ok (.putfield 42, 3) := by decide +kernel
theorem dX0_fallOff_72 : decode cX0_fallOff 72 = .ok (.iinc 1 1, 3) := by decide +kernel
theorem dX0_fallOff_75 : decode cX0_fallOff 75 = .ok (.goto (-73), 3) := by decide +kernel
theorem dX0_fallOff_78 : decode cX0_fallOff 78 = .ok (.return_, 1) := by decide +kernel
def fX0_fallOff_53 (rec_2 : Int32 → SS → Option (Unit × SS)) (x1 : Int32) (s : SS) : Option (Unit × SS) := if ixB x1 8 then (if (s.1 4 x1.toNatClampNeg) ≤ 0 then (rec_2 (x1 + (1 : Int32)) s) else (rec_2 (x1 + (1 : Int32)) (wrI s 0 10 ((s.1 0 10) + (1 : Int32))))) else none
def fX0_fallOff_2 : Nat → Int32 → SS → Option (Unit × SS)
  | 0, _, _ => none
  | n + 1, x1, s => if (s.1 0 0) ≤ x1 then (some ((), s)) else (if ixB x1 8 then (if (s.1 4 x1.toNatClampNeg) ≤ (s.1 0 4) then (fX0_fallOff_53 (fX0_fallOff_2 n) x1 s) else (if ixB x1 8 then (if ixB x1 8 then (fX0_fallOff_53 (fX0_fallOff_2 n) x1 (wrI (wrI s 0 8 ((s.1 0 8) + ((s.1 4 x1.toNatClampNeg) - (s.1 0 4)))) 4 x1.toNatClampNeg (s.1 0 4))) else none) else none)) else none)
def fX0_fallOff_0 (s : SS) : Option (Unit × SS) := fX0_fallOff_2 FU (0 : Int32) s
def fX0_fallOff (s : SS) : Option (Unit × SS) := fX0_fallOff_0 s
set_option maxRecDepth 100000 in
set_option maxHeartbeats 4000000 in
theorem okX0_fallOff_53 {G : GG} {pl : Nat → Nat} {h0 : PH} (rec_2 : Int32 → SS → Option (Unit × SS)) (hrec_2 : ∀ (x1 : Int32) (s : SS), EvF G 0 mX0_fallOff lyC pl h0 rvU (rec_2 x1 s) 2 [(0, .ref (pl 0)), (1, .int x1)] [] s) (x1 : Int32) (s : SS) : EvF G 0 mX0_fallOff lyC pl h0 rvU (fX0_fallOff_53 rec_2 x1 s) 53 [(0, .ref (pl 0)), (1, .int x1)] [] s := by
  unfold fX0_fallOff_53
  refine ef_aload_n (q := 54) 0 dX0_fallOff_53 rfl rfl rfl ?_
  refine ef_getR (t := 4) (q := 57) rfl fl0_58 rfl rfl dX0_fallOff_54 rfl ?_
  refine ef_iload_n (q := 58) 1 dX0_fallOff_57 rfl rfl rfl ?_
  refine ef_guard (fun g1 => ?_)
  refine ef_iaload (x := s.1 4 x1.toNatClampNeg) (q := 59) rfl g1 dX0_fallOff_58 rfl rfl ?_
  refine ef_if (pt := 72) (pf := 62) (fun _ _ => ev_if_le (tgt := 72) dX0_fallOff_59 (by decide)) (fun h2 => ?_) (fun h2 => ?_)
  · refine ef_iinc (v := x1 + (1 : Int32)) (lv' := [(1, .int (x1 + (1 : Int32))), (0, .ref (pl 0))]) (q := 75) 1 dX0_fallOff_72 rfl rfl (by decide) rfl rfl ?_
    refine ef_goto (tgt := 2) dX0_fallOff_75 (by decide) ?_
    refine ef_sub (lv' := [(0, .ref (pl 0)), (1, .int (x1 + (1 : Int32)))]) [1, 0] rfl ?_
    exact hrec_2 (x1 + (1 : Int32)) s
  · refine ef_aload_n (q := 63) 0 dX0_fallOff_62 rfl rfl rfl ?_
    refine ef_dup (q := 64) dX0_fallOff_63 rfl rfl ?_
    refine ef_getI (x := s.1 0 10) (q := 67) rfl fl0_42 rfl rfl dX0_fallOff_64 rfl ?_
    refine ef_iconst (v := (1 : Int32)) (q := 68) dX0_fallOff_67 (by decide) rfl ?_
    refine ef_iadd (q := 69) dX0_fallOff_68 rfl ?_
    refine ef_putI (q := 72) rfl fl0_42 rfl rfl dX0_fallOff_69 rfl ?_
    refine ef_iinc (v := x1 + (1 : Int32)) (lv' := [(1, .int (x1 + (1 : Int32))), (0, .ref (pl 0))]) (q := 75) 1 dX0_fallOff_72 rfl rfl (by decide) rfl rfl ?_
    refine ef_goto (tgt := 2) dX0_fallOff_75 (by decide) ?_
    refine ef_sub (lv' := [(0, .ref (pl 0)), (1, .int (x1 + (1 : Int32)))]) [1, 0] rfl ?_
    exact hrec_2 (x1 + (1 : Int32)) (wrI s 0 10 ((s.1 0 10) + (1 : Int32)))
set_option maxRecDepth 100000 in
set_option maxHeartbeats 4000000 in
theorem okX0_fallOff_2 {G : GG} {pl : Nat → Nat} {h0 : PH} : ∀ (n : Nat) (x1 : Int32) (s : SS), EvF G 0 mX0_fallOff lyC pl h0 rvU (fX0_fallOff_2 n x1 s) 2 [(0, .ref (pl 0)), (1, .int x1)] [] s := by
  intro n
  induction n with
  | zero => intro x1 s; rw [fX0_fallOff_2]; exact ef_none
  | succ n ih =>
    intro x1 s
    rw [fX0_fallOff_2]
    refine ef_iload_n (q := 3) 1 dX0_fallOff_2 rfl rfl rfl ?_
    refine ef_aload_n (q := 4) 0 dX0_fallOff_3 rfl rfl rfl ?_
    refine ef_getI (x := s.1 0 0) (q := 7) rfl fl0_9 rfl rfl dX0_fallOff_4 rfl ?_
    refine ef_if (pt := 78) (pf := 10) (fun _ _ => ev_icmp_ge (tgt := 78) dX0_fallOff_7 (by decide)) (fun h1 => ?_) (fun h1 => ?_)
    · exact ef_vret rfl dX0_fallOff_78
    · refine ef_aload_n (q := 11) 0 dX0_fallOff_10 rfl rfl rfl ?_
      refine ef_getR (t := 4) (q := 14) rfl fl0_58 rfl rfl dX0_fallOff_11 rfl ?_
      refine ef_iload_n (q := 15) 1 dX0_fallOff_14 rfl rfl rfl ?_
      refine ef_guard (fun g2 => ?_)
      refine ef_iaload (x := s.1 4 x1.toNatClampNeg) (q := 16) rfl g2 dX0_fallOff_15 rfl rfl ?_
      refine ef_aload_n (q := 17) 0 dX0_fallOff_16 rfl rfl rfl ?_
      refine ef_getI (x := s.1 0 4) (q := 20) rfl fl0_24 rfl rfl dX0_fallOff_17 rfl ?_
      refine ef_if (pt := 53) (pf := 23) (fun _ _ => ev_icmp_le (tgt := 53) dX0_fallOff_20 (by decide)) (fun h3 => ?_) (fun h3 => ?_)
      · refine ef_sub (lv' := [(0, .ref (pl 0)), (1, .int x1)]) [0, 1] rfl ?_
        exact okX0_fallOff_53 (fX0_fallOff_2 n) ih x1 s
      · refine ef_aload_n (q := 24) 0 dX0_fallOff_23 rfl rfl rfl ?_
        refine ef_dup (q := 25) dX0_fallOff_24 rfl rfl ?_
        refine ef_getI (x := s.1 0 8) (q := 28) rfl fl0_36 rfl rfl dX0_fallOff_25 rfl ?_
        refine ef_aload_n (q := 29) 0 dX0_fallOff_28 rfl rfl rfl ?_
        refine ef_getR (t := 4) (q := 32) rfl fl0_58 rfl rfl dX0_fallOff_29 rfl ?_
        refine ef_iload_n (q := 33) 1 dX0_fallOff_32 rfl rfl rfl ?_
        refine ef_guard (fun g4 => ?_)
        refine ef_iaload (x := s.1 4 x1.toNatClampNeg) (q := 34) rfl g4 dX0_fallOff_33 rfl rfl ?_
        refine ef_aload_n (q := 35) 0 dX0_fallOff_34 rfl rfl rfl ?_
        refine ef_getI (x := s.1 0 4) (q := 38) rfl fl0_24 rfl rfl dX0_fallOff_35 rfl ?_
        refine ef_isub (q := 39) dX0_fallOff_38 rfl ?_
        refine ef_iadd (q := 40) dX0_fallOff_39 rfl ?_
        refine ef_putI (q := 43) rfl fl0_36 rfl rfl dX0_fallOff_40 rfl ?_
        refine ef_aload_n (q := 44) 0 dX0_fallOff_43 rfl rfl rfl ?_
        refine ef_getR (t := 4) (q := 47) rfl fl0_58 rfl rfl dX0_fallOff_44 rfl ?_
        refine ef_iload_n (q := 48) 1 dX0_fallOff_47 rfl rfl rfl ?_
        refine ef_aload_n (q := 49) 0 dX0_fallOff_48 rfl rfl rfl ?_
        refine ef_getI (x := s.1 0 4) (q := 52) rfl fl0_24 rfl rfl dX0_fallOff_49 rfl ?_
        refine ef_guard (fun g5 => ?_)
        refine ef_iastore (j := x1.toNatClampNeg) (q := 53) rfl g5 dX0_fallOff_52 rfl rfl ?_
        refine ef_sub (lv' := [(0, .ref (pl 0)), (1, .int x1)]) [0, 1] rfl ?_
        exact okX0_fallOff_53 (fX0_fallOff_2 n) ih x1 (wrI (wrI s 0 8 ((s.1 0 8) + ((s.1 4 x1.toNatClampNeg) - (s.1 0 4)))) 4 x1.toNatClampNeg (s.1 0 4))
set_option maxRecDepth 100000 in
set_option maxHeartbeats 4000000 in
theorem okX0_fallOff_0 {G : GG} {pl : Nat → Nat} {h0 : PH} (s : SS) : EvF G 0 mX0_fallOff lyC pl h0 rvU (fX0_fallOff_0 s) 0 [(0, .ref (pl 0))] [] s := by
  unfold fX0_fallOff_0
  refine ef_iconst (v := (0 : Int32)) (q := 1) dX0_fallOff_0 (by decide) rfl ?_
  refine ef_istore_n (lv' := [(1, .int (0 : Int32)), (0, .ref (pl 0))]) (q := 2) dX0_fallOff_1 rfl (by decide) rfl rfl ?_
  refine ef_sub (lv' := [(0, .ref (pl 0)), (1, .int (0 : Int32))]) [1, 0] rfl ?_
  exact okX0_fallOff_2 FU (0 : Int32) s
theorem okX0_fallOff : MtF 0 mX0_fallOff lyC rvU (fun _ pl => [.ref (pl 0)]) (fX0_fallOff) := by
  refine MtF.of (by decide +kernel) rfl (fun _ pl => Nat.le_of_ble_eq_true rfl) (fun G pl h0 s => ?_)
  refine ef_sub (lv := [(0, .ref (pl 0))]) (lv' := [(0, .ref (pl 0))]) [0] rfl ?_
  exact okX0_fallOff_0  s
-- X0_pass
theorem dX0_pass_0 : decode cX0_pass 0 = .ok (.iload_n 1, 1) := by decide +kernel
theorem dX0_pass_1 : decode cX0_pass 1 = .ok (.iconst 5, 1) := by decide +kernel
theorem dX0_pass_2 : decode cX0_pass 2 = .ok (.if_icmp .ne 33, 3) := by decide +kernel
theorem dX0_pass_5 : decode cX0_pass 5 = .ok (.aload_n 0, 1) := by decide +kernel
theorem dX0_pass_6 : decode cX0_pass 6 = .ok (.aload_n 0, 1) := by decide +kernel
theorem dX0_pass_7 : decode cX0_pass 7 = .ok (.getfield 15, 3) := by decide +kernel
theorem dX0_pass_10 : decode cX0_pass 10 = .ok (.iconst 1, 1) := by decide +kernel
theorem dX0_pass_11 : decode cX0_pass 11 = .ok (.iadd, 1) := by decide +kernel
theorem dX0_pass_12 : decode cX0_pass 12 = .ok (.aload_n 0, 1) := by decide +kernel
theorem dX0_pass_13 : decode cX0_pass 13 = .ok (.getfield 9, 3) := by decide +kernel
theorem dX0_pass_16 : decode cX0_pass 16 = .ok (.if_icmp .ge 12, 3) := by decide +kernel
theorem dX0_pass_19 : decode cX0_pass 19 = .ok (.aload_n 0, 1) := by decide +kernel
theorem dX0_pass_20 : decode cX0_pass 20 = .ok (.getfield 15, 3) := by decide +kernel
theorem dX0_pass_23 : decode cX0_pass 23 = .ok (.iconst 1, 1) := by decide +kernel
theorem dX0_pass_24 : decode cX0_pass 24 = .ok (.iadd, 1) := by decide +kernel
theorem dX0_pass_25 : decode cX0_pass 25 = .ok (.goto 4, 3) := by decide +kernel
theorem dX0_pass_28 : decode cX0_pass 28 = .ok (.iconst 0, 1) := by decide +kernel
theorem dX0_pass_29 : decode cX0_pass 29 = .ok (.putfield 15, 3) := by decide +kernel
theorem dX0_pass_32 : decode cX0_pass 32 = .ok (.goto 51, 3) := by decide +kernel
theorem dX0_pass_35 : decode cX0_pass 35 = .ok (.iload_n 1, 1) := by decide +kernel
theorem dX0_pass_36 : decode cX0_pass 36 = .ok (.bipush 6, 2) := by decide +kernel
theorem dX0_pass_38 : decode cX0_pass 38 = .ok (.if_icmp .ne 32, 3) := by decide +kernel
theorem dX0_pass_41 : decode cX0_pass 41 = .ok (.aload_n 0, 1) := by decide +kernel
theorem dX0_pass_42 : decode cX0_pass 42 = .ok (.aload_n 0, 1) := by decide +kernel
theorem dX0_pass_43 : decode cX0_pass 43 = .ok (.getfield 15, 3) := by decide +kernel
theorem dX0_pass_46 : decode cX0_pass 46 = .ok (.ifCond .le 12, 3) := by decide +kernel
theorem dX0_pass_49 : decode cX0_pass 49 = .ok (.aload_n 0, 1) := by decide +kernel
theorem dX0_pass_50 : decode cX0_pass 50 = .ok (.getfield 15, 3) := by decide +kernel
theorem dX0_pass_53 : decode cX0_pass 53 = .ok (.iconst 1, 1) := by decide +kernel
theorem dX0_pass_54 : decode cX0_pass 54 = .ok (.isub, 1) := by decide +kernel
theorem dX0_pass_55 : decode cX0_pass 55 = .ok (.goto 9, 3) := by decide +kernel
theorem dX0_pass_58 : decode cX0_pass 58 = .ok (.aload_n 0, 1) := by decide +kernel
theorem dX0_pass_59 : decode cX0_pass 59 = .ok (.getfield 9, 3) := by decide +kernel
theorem dX0_pass_62 : decode cX0_pass 62 = .ok (.iconst 1, 1) := by decide +kernel
theorem dX0_pass_63 : decode cX0_pass 63 = .ok (.isub, 1) := by decide +kernel
theorem dX0_pass_64 : decode cX0_pass 64 = .ok (.putfield 15, 3) := by decide +kernel
theorem dX0_pass_67 : decode cX0_pass 67 = .ok (.goto 16, 3) := by decide +kernel
theorem dX0_pass_70 : decode cX0_pass 70 = .ok (.aload_n 0, 1) := by decide +kernel
theorem dX0_pass_71 : decode cX0_pass 71 = .ok (.iload_n 1, 1) := by decide +kernel
theorem dX0_pass_72 : decode cX0_pass 72 = .ok (.invokevirtual 97, 3) := by decide +kernel
theorem dX0_pass_75 : decode cX0_pass 75 = .ok (.ifCond .ne 8, 3) := by decide +kernel
theorem dX0_pass_78 : decode cX0_pass 78 = .ok (.aload_n 0, 1) := by decide +kernel
theorem dX0_pass_79 : decode cX0_pass 79 = .ok (.iload_n 1, 1) := by decide +kernel
theorem dX0_pass_80 : decode cX0_pass 80 = .ok (.invokevirtual 100, 3) := by decide +kernel
theorem dX0_pass_83 : decode cX0_pass 83 = .ok (.aload_n 0, 1) := by decide +kernel
theorem dX0_pass_84 : decode cX0_pass 84 = .ok (.invokevirtual 104, 3) := by decide +kernel
theorem dX0_pass_87 : decode cX0_pass 87 = .ok (.aload_n 0, 1) := by decide +kernel
theorem dX0_pass_88 : decode cX0_pass 88 = .ok (.invokevirtual 107, 3) := by decide +kernel
theorem dX0_pass_91 : decode cX0_pass 91 = .ok (.aload_n 0, 1) := by decide +kernel
theorem dX0_pass_92 : decode cX0_pass 92 = .ok (.invokevirtual 110, 3) := by decide +kernel
theorem dX0_pass_95 : decode cX0_pass 95 = .ok (.aload_n 0, 1) := by decide +kernel
theorem dX0_pass_96 : decode cX0_pass 96 = .ok (.dup, 1) := by decide +kernel
theorem dX0_pass_97 : decode cX0_pass 97 = .ok (.getfield 33, 3) := by decide +kernel
theorem dX0_pass_100 : decode cX0_pass 100 = .ok (.iconst 1, 1) := by decide +kernel
theorem dX0_pass_101 : decode cX0_pass 101 = .ok (.iadd, 1) := by decide +kernel
theorem dX0_pass_102 : decode cX0_pass 102 = .ok (.putfield 33, 3) := by decide +kernel
theorem dX0_pass_105 : decode cX0_pass 105 = .ok (.return_, 1) := by decide +kernel
def fX0_pass_83 (s : SS) : Option (Unit × SS) := ((fX0_melt s).bind fun z1 => ((fX0_runDown z1.2).bind fun z2 => ((fX0_fallOff z2.2).bind fun z3 => some ((), wrI z3.2 0 7 ((z3.2.1 0 7) + (1 : Int32))))))
def fX0_pass_29 (y1 : Int32) (s : SS) : Option (Unit × SS) := fX0_pass_83 (wrI s 0 1 y1)
def fX0_pass_64 (y1 : Int32) (s : SS) : Option (Unit × SS) := fX0_pass_83 (wrI s 0 1 y1)
def fX0_pass_0 (x1 : Int32) (s : SS) : Option (Unit × SS) := if x1 = (5 : Int32) then (if (s.1 0 0) ≤ ((s.1 0 1) + (1 : Int32)) then (fX0_pass_29 (0 : Int32) s) else (fX0_pass_29 ((s.1 0 1) + (1 : Int32)) s)) else (if x1 = (6 : Int32) then (if (s.1 0 1) ≤ 0 then (fX0_pass_64 ((s.1 0 0) - (1 : Int32)) s) else (fX0_pass_64 ((s.1 0 1) - (1 : Int32)) s)) else (((fX0_isIdle x1 s).bind fun z5 => if z5.1 = 0 then (((fX0_eat x1 z5.2).bind fun z7 => fX0_pass_83 z7.2)) else (fX0_pass_83 z5.2))))
def fX0_pass (x1 : Int32) (s : SS) : Option (Unit × SS) := fX0_pass_0 x1 s
set_option maxRecDepth 100000 in
set_option maxHeartbeats 4000000 in
theorem okX0_pass_83 {G : GG} {pl : Nat → Nat} {h0 : PH} (s : SS) : EvF G 2 mX0_pass lyC pl h0 rvU (fX0_pass_83 s) 83 [(0, .ref (pl 0))] [] s := by
  unfold fX0_pass_83
  refine ef_aload_n (q := 84) 0 dX0_pass_83 rfl rfl rfl ?_
  refine ef_invVU0 (k := 0) (As := []) (rest := []) (q := 87) (okX0_melt) rfl calX0_melt ml0_104 (by decide) rfl rfl rfl (Nat.le_of_ble_eq_true rfl) dX0_pass_84 rfl (fun z1 => ?_)
  refine ef_aload_n (q := 88) 0 dX0_pass_87 rfl rfl rfl ?_
  refine ef_invVU0 (k := 0) (As := []) (rest := []) (q := 91) (okX0_runDown) rfl calX0_runDown ml0_107 (by decide) rfl rfl rfl (Nat.le_of_ble_eq_true rfl) dX0_pass_88 rfl (fun z2 => ?_)
  refine ef_aload_n (q := 92) 0 dX0_pass_91 rfl rfl rfl ?_
  refine ef_invVU0 (k := 0) (As := []) (rest := []) (q := 95) (okX0_fallOff) rfl calX0_fallOff ml0_110 (by decide) rfl rfl rfl (Nat.le_of_ble_eq_true rfl) dX0_pass_92 rfl (fun z3 => ?_)
  refine ef_aload_n (q := 96) 0 dX0_pass_95 rfl rfl rfl ?_
  refine ef_dup (q := 97) dX0_pass_96 rfl rfl ?_
  refine ef_getI (x := z3.2.1 0 7) (q := 100) rfl fl0_33 rfl rfl dX0_pass_97 rfl ?_
  refine ef_iconst (v := (1 : Int32)) (q := 101) dX0_pass_100 (by decide) rfl ?_
  refine ef_iadd (q := 102) dX0_pass_101 rfl ?_
  refine ef_putI (q := 105) rfl fl0_33 rfl rfl dX0_pass_102 rfl ?_
  exact ef_vret rfl dX0_pass_105
set_option maxRecDepth 100000 in
set_option maxHeartbeats 4000000 in
theorem okX0_pass_29 {G : GG} {pl : Nat → Nat} {h0 : PH} (y1 : Int32) (s : SS) : EvF G 2 mX0_pass lyC pl h0 rvU (fX0_pass_29 y1 s) 29 [(0, .ref (pl 0))] [.int y1, .ref (pl 0)] s := by
  unfold fX0_pass_29
  refine ef_putI (q := 32) rfl fl0_15 rfl rfl dX0_pass_29 rfl ?_
  refine ef_goto (tgt := 83) dX0_pass_32 (by decide) ?_
  refine ef_sub (lv' := [(0, .ref (pl 0))]) [0] rfl ?_
  exact okX0_pass_83 (wrI s 0 1 y1)
set_option maxRecDepth 100000 in
set_option maxHeartbeats 4000000 in
theorem okX0_pass_64 {G : GG} {pl : Nat → Nat} {h0 : PH} (y1 : Int32) (s : SS) : EvF G 2 mX0_pass lyC pl h0 rvU (fX0_pass_64 y1 s) 64 [(0, .ref (pl 0))] [.int y1, .ref (pl 0)] s := by
  unfold fX0_pass_64
  refine ef_putI (q := 67) rfl fl0_15 rfl rfl dX0_pass_64 rfl ?_
  refine ef_goto (tgt := 83) dX0_pass_67 (by decide) ?_
  refine ef_sub (lv' := [(0, .ref (pl 0))]) [0] rfl ?_
  exact okX0_pass_83 (wrI s 0 1 y1)
set_option maxRecDepth 100000 in
set_option maxHeartbeats 4000000 in
theorem okX0_pass_0 {G : GG} {pl : Nat → Nat} {h0 : PH} (x1 : Int32) (s : SS) : EvF G 2 mX0_pass lyC pl h0 rvU (fX0_pass_0 x1 s) 0 [(0, .ref (pl 0)), (1, .int x1)] [] s := by
  unfold fX0_pass_0
  refine ef_iload_n (q := 1) 1 dX0_pass_0 rfl rfl rfl ?_
  refine ef_iconst (v := (5 : Int32)) (q := 2) dX0_pass_1 (by decide) rfl ?_
  refine ef_if (pt := 5) (pf := 35) (fun _ _ kt kf => ev_icmp_ne (tgt := 35) dX0_pass_2 (by decide) kf kt) (fun h1 => ?_) (fun h1 => ?_)
  · refine ef_aload_n (q := 6) 0 dX0_pass_5 rfl rfl rfl ?_
    refine ef_aload_n (q := 7) 0 dX0_pass_6 rfl rfl rfl ?_
    refine ef_getI (x := s.1 0 1) (q := 10) rfl fl0_15 rfl rfl dX0_pass_7 rfl ?_
    refine ef_iconst (v := (1 : Int32)) (q := 11) dX0_pass_10 (by decide) rfl ?_
    refine ef_iadd (q := 12) dX0_pass_11 rfl ?_
    refine ef_aload_n (q := 13) 0 dX0_pass_12 rfl rfl rfl ?_
    refine ef_getI (x := s.1 0 0) (q := 16) rfl fl0_9 rfl rfl dX0_pass_13 rfl ?_
    refine ef_if (pt := 28) (pf := 19) (fun _ _ => ev_icmp_ge (tgt := 28) dX0_pass_16 (by decide)) (fun h2 => ?_) (fun h2 => ?_)
    · refine ef_iconst (v := (0 : Int32)) (q := 29) dX0_pass_28 (by decide) rfl ?_
      refine ef_sub (lv' := [(0, .ref (pl 0))]) [0] rfl ?_
      exact okX0_pass_29 (0 : Int32) s
    · refine ef_aload_n (q := 20) 0 dX0_pass_19 rfl rfl rfl ?_
      refine ef_getI (x := s.1 0 1) (q := 23) rfl fl0_15 rfl rfl dX0_pass_20 rfl ?_
      refine ef_iconst (v := (1 : Int32)) (q := 24) dX0_pass_23 (by decide) rfl ?_
      refine ef_iadd (q := 25) dX0_pass_24 rfl ?_
      refine ef_goto (tgt := 29) dX0_pass_25 (by decide) ?_
      refine ef_sub (lv' := [(0, .ref (pl 0))]) [0] rfl ?_
      exact okX0_pass_29 ((s.1 0 1) + (1 : Int32)) s
  · refine ef_iload_n (q := 36) 1 dX0_pass_35 rfl rfl rfl ?_
    refine ef_bipush (v := (6 : Int32)) (q := 38) dX0_pass_36 (by decide) rfl ?_
    refine ef_if (pt := 41) (pf := 70) (fun _ _ kt kf => ev_icmp_ne (tgt := 70) dX0_pass_38 (by decide) kf kt) (fun h3 => ?_) (fun h3 => ?_)
    · refine ef_aload_n (q := 42) 0 dX0_pass_41 rfl rfl rfl ?_
      refine ef_aload_n (q := 43) 0 dX0_pass_42 rfl rfl rfl ?_
      refine ef_getI (x := s.1 0 1) (q := 46) rfl fl0_15 rfl rfl dX0_pass_43 rfl ?_
      refine ef_if (pt := 58) (pf := 49) (fun _ _ => ev_if_le (tgt := 58) dX0_pass_46 (by decide)) (fun h4 => ?_) (fun h4 => ?_)
      · refine ef_aload_n (q := 59) 0 dX0_pass_58 rfl rfl rfl ?_
        refine ef_getI (x := s.1 0 0) (q := 62) rfl fl0_9 rfl rfl dX0_pass_59 rfl ?_
        refine ef_iconst (v := (1 : Int32)) (q := 63) dX0_pass_62 (by decide) rfl ?_
        refine ef_isub (q := 64) dX0_pass_63 rfl ?_
        refine ef_sub (lv' := [(0, .ref (pl 0))]) [0] rfl ?_
        exact okX0_pass_64 ((s.1 0 0) - (1 : Int32)) s
      · refine ef_aload_n (q := 50) 0 dX0_pass_49 rfl rfl rfl ?_
        refine ef_getI (x := s.1 0 1) (q := 53) rfl fl0_15 rfl rfl dX0_pass_50 rfl ?_
        refine ef_iconst (v := (1 : Int32)) (q := 54) dX0_pass_53 (by decide) rfl ?_
        refine ef_isub (q := 55) dX0_pass_54 rfl ?_
        refine ef_goto (tgt := 64) dX0_pass_55 (by decide) ?_
        refine ef_sub (lv' := [(0, .ref (pl 0))]) [0] rfl ?_
        exact okX0_pass_64 ((s.1 0 1) - (1 : Int32)) s
    · refine ef_aload_n (q := 71) 0 dX0_pass_70 rfl rfl rfl ?_
      refine ef_iload_n (q := 72) 1 dX0_pass_71 rfl rfl rfl ?_
      refine ef_invVI0 (k := 0) (As := [.int x1]) (rest := []) (q := 75) (okX0_isIdle x1) rfl calX0_isIdle ml0_97 (by decide) rfl rfl rfl (Nat.le_of_ble_eq_true rfl) dX0_pass_72 rfl (fun z5 => ?_)
      refine ef_if (pt := 78) (pf := 83) (fun _ _ kt kf => ev_if_ne (tgt := 83) dX0_pass_75 (by decide) kf kt) (fun h6 => ?_) (fun h6 => ?_)
      · refine ef_aload_n (q := 79) 0 dX0_pass_78 rfl rfl rfl ?_
        refine ef_iload_n (q := 80) 1 dX0_pass_79 rfl rfl rfl ?_
        refine ef_invVU0 (k := 0) (As := [.int x1]) (rest := []) (q := 83) (okX0_eat x1) rfl calX0_eat ml0_100 (by decide) rfl rfl rfl (Nat.le_of_ble_eq_true rfl) dX0_pass_80 rfl (fun z7 => ?_)
        refine ef_sub (lv' := [(0, .ref (pl 0))]) [0] rfl ?_
        exact okX0_pass_83 z7.2
      · refine ef_sub (lv' := [(0, .ref (pl 0))]) [0] rfl ?_
        exact okX0_pass_83 z5.2
theorem okX0_pass (x1 : Int32) : MtF 2 mX0_pass lyC rvU (fun _ pl => [.ref (pl 0), .int x1]) (fX0_pass x1) := by
  refine MtF.of (by decide +kernel) rfl (fun _ pl => Nat.le_of_ble_eq_true rfl) (fun G pl h0 s => ?_)
  refine ef_sub (lv := [(0, .ref (pl 0)), (1, .int x1)]) (lv' := [(0, .ref (pl 0)), (1, .int x1)]) [0, 1] rfl ?_
  exact okX0_pass_0  x1 s
