/-! SET AND ELEMENT; THE LOOP -/
def longV (xs : Nat → Int32) (I : Nat) : Int64 := ((xs (I + 3)).toInt64 <<< ((32 : Int32).toInt64 &&& 63)) ||| ((xs (I + 4)).toInt64 &&& 4294967295)
def longD (p : Nat) : Bool := argD p 3 && (okD (p + 5) .i2l 1 && (okD (p + 6) (.bipush 32) 2 && (okD (p + 8) .lshl 1 && (argD (p + 9) 4 && (okD (p + 14) .i2l 1 && (okD (p + 15) (.ldc2_w 18) 3 && (okD (p + 18) .land 1 && okD (p + 19) .lor 1)))))))
theorem kL_18 : Cond.constantLong R_law 18 (4294967295 : Int64) ∈ TT := TT_6 231 rfl rfl
def setD : Bool := okD 291 (.aload_n 1) 1 && (argsD 292 2 && (longD 302 && (okD 322 (.invokevirtual 20) 3 && (okD 325 (.aload_n 2) 1 && (argsD 326 2 && (longD 336 && (okD 356 (.invokevirtual 24) 3 && okD 359 (.if_icmp .eq 1290) 3)))))))
theorem setD_ok : setD = true := by decide +kernel
def eleD : Bool := okD 427 (.aload_n 1) 1 && (argsD 428 2 && (okD 438 (.invokevirtual 30) 3 && (okD 441 (.aload_n 2) 1 && (argsD 442 2 && (okD 452 (.invokevirtual 34) 3 && (okD 455 .lcmp 1 && okD 456 (.ifCond .eq 1193) 3))))))
theorem eleD_ok : eleD = true := by decide +kernel
theorem lgcmp_rf {r : Int64} : lg_cmp r r = 0 := by
  unfold lg_cmp
  simp
section LOOPS
variable {G : GG} {b n : Nat} {xs : Nat → Int32} {w : LW} {kc ks pc : Nat} {lv : List (Nat × Value)} {rest : List Value} {h : PH} {a br I : Nat} {ob : List Nat → Nat} {S : SS} {T : TF} {L : Int}
theorem lx_if_eq {x : Int32} {off : Int} {tgt : Nat} (X : LCw G b n xs w) (hdg : decode code pc = .ok (.ifCond .eq off, 3)) (ht : (pc : Int) + off = (tgt : Int)) (kt : x = 0 → Lv G b w kc ks tgt lv rest h) (kf : ¬ x = 0 → Lv G b w kc ks (pc + 3) lv rest h) : Lv G b w kc ks pc lv (.int x :: rest) h := fun H locs ls R L hl => lv_if_eq X.1 X.2.1 hdg ht (fun z => kt z H locs ls R L hl) (fun z => kf z H locs ls R L hl)
theorem lx_long (X : LCw G b n xs w) (hI : I + 6 ≤ n) (hn : n ≤ 3072) (hD : longD pc = true) (kk : Lv G b w kc ks (pc + 20) (lvL b a br (i32 I)) (.long (longV xs I) :: rest) h) : Lv G b w kc ks pc (lvL b a br (i32 I)) rest h := by
  unfold longD at hD
  simp only [Bool.and_eq_true] at hD
  obtain ⟨e1, e2, e3, e4, e5, e6, e7, e8, e9⟩ := hD
  refine lx_arg X (k := 3) (by omega) hn (by decide) e1 ?_
  refine lx_i2l X (okD_ok e2) rfl ?_
  refine lx_bipush (v := 32) X (okD_ok e3) (by decide) ?_
  refine lx_lshl X (okD_ok e4) rfl ?_
  refine lx_arg X (k := 4) (by omega) hn (by decide) e5 ?_
  refine lx_i2l X (okD_ok e6) rfl ?_
  refine lx_ldc2 X kL_18 (okD_ok e7) ?_
  refine lx_land X (okD_ok e8) ?_
  refine lx_lor X (okD_ok e9) ?_
  exact kk
theorem cL_1 : CaseG 291 := by
  intro G b n xs w h a br I ob S T L X hI hn J hR hL kk
  have hD := setD_ok
  unfold setD at hD
  simp only [Bool.and_eq_true] at hD
  obtain ⟨e1, e2, e3, e4, e5, e6, e7, e8, e9⟩ := hD
  obtain ⟨r, S', T', g5, g6, h4⟩ := Both.up (f := fX5_set (xs (I + 1)) (xs (I + 2)) (longV xs I)) (g := fX6_set (xs (I + 1)) (xs (I + 2)) (longV xs I)) (both_set hR)
  refine lx_aload_n X 1 (okD_ok e1) rfl rfl ?_
  refine lx_args X hI hn (k := 2) (by decide) e2 ?_
  refine lx_long (pc := 302) X hI hn e3 ?_
  refine lx_cls (As := [.int (xs (I + 1)), .int (xs (I + 2)), .long (longV xs I)]) (rest := []) X J (okX5_set (xs (I + 1)) (xs (I + 2)) (longV xs I)) g5 calX5_set (TT_2 26 rfl rfl) (by decide) rfl rfl (by decide) MCT_le MST_le (okD_ok e4) (fun h1 J1 => ?_)
  refine lx_aload_n (pc := 325) X 2 (okD_ok e5) rfl rfl ?_
  refine lx_args X hI hn (k := 2) (by decide) e6 ?_
  refine lx_long (pc := 336) X hI hn e7 ?_
  refine lx_ref (As := [.int (xs (I + 1)), .int (xs (I + 2)), .long (longV xs I)]) (rest := [.int r]) X J1 (RefC.loc (okX6_set (xs (I + 1)) (xs (I + 2)) (longV xs I))) g6 calX6_set (TT_5 48 rfl rfl) (by decide) rfl rfl (Nat.le_of_ble_eq_true rfl) (okD_ok e8) (fun ob' h2 J2 => ?_)
  exact lx_icmp_eq (pc := 359) X (okD_ok e9) (by decide) (fun _ => kk ob' S' T' h2 J2 (h4.mono (by omega) (by omega))) (fun z => absurd rfl z)
theorem cL_3 : CaseG 427 := by
  intro G b n xs w h a br I ob S T L X hI hn J hR hL kk
  have hD := eleD_ok
  unfold eleD at hD
  simp only [Bool.and_eq_true] at hD
  obtain ⟨e1, e2, e3, e4, e5, e6, e7, e8⟩ := hD
  obtain ⟨r, g5, g60⟩ := both_element (x := xs (I + 1)) (y := xs (I + 2)) hR
  have g6 : upT (fX6_element (xs (I + 1)) (xs (I + 2))) T = some (r, T) := by
    show (fX6_element (xs (I + 1)) (xs (I + 2)) (T.2 [])).bind _ = _
    rw [g60]
    show some (r, wrT T [] (T.2 [])) = _
    rw [wrT_id]
  refine lx_aload_n X 1 (okD_ok e1) rfl rfl ?_
  refine lx_args X hI hn (k := 2) (by decide) e2 ?_
  refine lx_cls (pc := 438) (As := [.int (xs (I + 1)), .int (xs (I + 2))]) (rest := []) X J (okX5_element (xs (I + 1)) (xs (I + 2))) g5 calX5_element (TT_2 53 rfl rfl) (by decide) rfl rfl (by decide) MCT_le MST_le (okD_ok e3) (fun h1 J1 => ?_)
  refine lx_aload_n (pc := 441) X 2 (okD_ok e4) rfl rfl ?_
  refine lx_args X hI hn (k := 2) (by decide) e5 ?_
  refine lx_ref (pc := 452) (As := [.int (xs (I + 1)), .int (xs (I + 2))]) (rest := [.long r]) X J1 (RefC.loc (okX6_element (xs (I + 1)) (xs (I + 2)))) g6 calX6_element (TT_5 63 rfl rfl) (by decide) rfl rfl (Nat.le_of_ble_eq_true rfl) (okD_ok e6) (fun ob' h2 J2 => ?_)
  refine lx_lcmp (pc := 455) X (okD_ok e7) ?_
  rw [lgcmp_rf]
  exact lx_if_eq (pc := 456) X (okD_ok e8) (by decide) (fun _ => kk ob' S T h2 J2 (hR.mono (by omega) (by omega))) (fun z => absurd rfl z)
theorem swD : decode code 33 = .ok (.tableswitch 1616 0 49 #[215, 258, 331, 394, 428, 451, 484, 517, 540, 573, 596, 629, 662, 685, 698, 711, 744, 777, 810, 833, 856, 869, 912, 935, 968, 991, 1014, 1037, 1080, 1103, 1136, 1169, 1192, 1205, 1218, 1231, 1244, 1277, 1320, 1353, 1376, 1409, 1432, 1465, 1498, 1531, 1544, 1567, 1580, 1593], 215) := by decide +kernel
/-- the switch -/
theorem law_switch {x : Int32} (X : LCw G b n xs w) (hI : I + 6 ≤ n) (hn : n ≤ 3072) (J : INV a br ob S T h) (hR : RR L S T) (hL : L + 600000 ≤ 1999000000)
    (kk : ∀ (ob' : List Nat → Nat) (S' : SS) (T' : TF) (h' : PH), INV a br ob' S' T' h' → RR (L + 300000) S' T' → Lv G b w (MCT T') (MST T') 1649 (lvL b a br (i32 I)) [] h') : Lv G b w (MCT T) (MST T) 33 (lvL b a br (i32 I)) [.int x] h := by
  by_cases hx : x.toInt < 0 ∨ 49 < x.toInt
  · exact lx_tableOut X swD hx (by decide) (kk ob S T h J (hR.mono (by omega) (by omega)))
  obtain ⟨v, hv⟩ : ∃ v : Nat, x.toInt = (v : Int) := ⟨x.toInt.toNat, by omega⟩
  have hv50 : v < 50 := by omega
  have go : ∀ {off : Int} {tgt : Nat}, (#[215, 258, 331, 394, 428, 451, 484, 517, 540, 573, 596, 629, 662, 685, 698, 711, 744, 777, 810, 833, 856, 869, 912, 935, 968, 991, 1014, 1037, 1080, 1103, 1136, 1169, 1192, 1205, 1218, 1231, 1244, 1277, 1320, 1353, 1376, 1409, 1432, 1465, 1498, 1531, 1544, 1567, 1580, 1593] : Array Int)[(x.toInt - 0).toNat]? = some off → ((33 : Nat) : Int) + off = (tgt : Int) → Lv G b w (MCT T) (MST T) tgt (lvL b a br (i32 I)) [] h → Lv G b w (MCT T) (MST T) 33 (lvL b a br (i32 I)) [.int x] h := fun ho ht q => lx_tableIn X swD (by omega) (by omega) ho ht q
  rcases (show v = 0 ∨ v = 1 ∨ v = 2 ∨ v = 3 ∨ v = 4 ∨ v = 5 ∨ v = 6 ∨ v = 7 ∨ v = 8 ∨ v = 9 ∨ v = 10 ∨ v = 11 ∨ v = 12 ∨ v = 13 ∨ v = 14 ∨ v = 15 ∨ v = 16 ∨ v = 17 ∨ v = 18 ∨ v = 19 ∨ v = 20 ∨ v = 21 ∨ v = 22 ∨ v = 23 ∨ v = 24 ∨ v = 25 ∨ v = 26 ∨ v = 27 ∨ v = 28 ∨ v = 29 ∨ v = 30 ∨ v = 31 ∨ v = 32 ∨ v = 33 ∨ v = 34 ∨ v = 35 ∨ v = 36 ∨ v = 37 ∨ v = 38 ∨ v = 39 ∨ v = 40 ∨ v = 41 ∨ v = 42 ∨ v = 43 ∨ v = 44 ∨ v = 45 ∨ v = 46 ∨ v = 47 ∨ v = 48 ∨ v = 49 by omega) with rfl | rfl | rfl | rfl | rfl | rfl | rfl | rfl | rfl | rfl | rfl | rfl | rfl | rfl | rfl | rfl | rfl | rfl | rfl | rfl | rfl | rfl | rfl | rfl | rfl | rfl | rfl | rfl | rfl | rfl | rfl | rfl | rfl | rfl | rfl | rfl | rfl | rfl | rfl | rfl | rfl | rfl | rfl | rfl | rfl | rfl | rfl | rfl | rfl | rfl
  · exact go (off := 215) (tgt := 248) (by rw [hv]; rfl) (by decide) (cL_0 X hI hn J hR hL kk)
  · exact go (off := 258) (tgt := 291) (by rw [hv]; rfl) (by decide) (cL_1 X hI hn J hR hL kk)
  · exact go (off := 331) (tgt := 364) (by rw [hv]; rfl) (by decide) (cL_2 X hI hn J hR hL kk)
  · exact go (off := 394) (tgt := 427) (by rw [hv]; rfl) (by decide) (cL_3 X hI hn J hR hL kk)
  · exact go (off := 428) (tgt := 461) (by rw [hv]; rfl) (by decide) (cL_4 X hI hn J hR hL kk)
  · exact go (off := 451) (tgt := 484) (by rw [hv]; rfl) (by decide) (cL_5 X hI hn J hR hL kk)
  · exact go (off := 484) (tgt := 517) (by rw [hv]; rfl) (by decide) (cL_6 X hI hn J hR hL kk)
  · exact go (off := 517) (tgt := 550) (by rw [hv]; rfl) (by decide) (cL_7 X hI hn J hR hL kk)
  · exact go (off := 540) (tgt := 573) (by rw [hv]; rfl) (by decide) (cL_8 X hI hn J hR hL kk)
  · exact go (off := 573) (tgt := 606) (by rw [hv]; rfl) (by decide) (cL_9 X hI hn J hR hL kk)
  · exact go (off := 596) (tgt := 629) (by rw [hv]; rfl) (by decide) (cL_10 X hI hn J hR hL kk)
  · exact go (off := 629) (tgt := 662) (by rw [hv]; rfl) (by decide) (cL_11 X hI hn J hR hL kk)
  · exact go (off := 662) (tgt := 695) (by rw [hv]; rfl) (by decide) (cL_12 X hI hn J hR hL kk)
  · exact go (off := 685) (tgt := 718) (by rw [hv]; rfl) (by decide) (cL_13 X hI hn J hR hL kk)
  · exact go (off := 698) (tgt := 731) (by rw [hv]; rfl) (by decide) (cL_14 X hI hn J hR hL kk)
  · exact go (off := 711) (tgt := 744) (by rw [hv]; rfl) (by decide) (cL_15 X hI hn J hR hL kk)
  · exact go (off := 744) (tgt := 777) (by rw [hv]; rfl) (by decide) (cL_16 X hI hn J hR hL kk)
  · exact go (off := 777) (tgt := 810) (by rw [hv]; rfl) (by decide) (cL_17 X hI hn J hR hL kk)
  · exact go (off := 810) (tgt := 843) (by rw [hv]; rfl) (by decide) (cL_18 X hI hn J hR hL kk)
  · exact go (off := 833) (tgt := 866) (by rw [hv]; rfl) (by decide) (cL_19 X hI hn J hR hL kk)
  · exact go (off := 856) (tgt := 889) (by rw [hv]; rfl) (by decide) (cL_20 X hI hn J hR hL kk)
  · exact go (off := 869) (tgt := 902) (by rw [hv]; rfl) (by decide) (cL_21 X hI hn J hR hL kk)
  · exact go (off := 912) (tgt := 945) (by rw [hv]; rfl) (by decide) (cL_22 X hI hn J hR hL kk)
  · exact go (off := 935) (tgt := 968) (by rw [hv]; rfl) (by decide) (cL_23 X hI hn J hR hL kk)
  · exact go (off := 968) (tgt := 1001) (by rw [hv]; rfl) (by decide) (cL_24 X hI hn J hR hL kk)
  · exact go (off := 991) (tgt := 1024) (by rw [hv]; rfl) (by decide) (cL_25 X hI hn J hR hL kk)
  · exact go (off := 1014) (tgt := 1047) (by rw [hv]; rfl) (by decide) (cL_26 X hI hn J hR hL kk)
  · exact go (off := 1037) (tgt := 1070) (by rw [hv]; rfl) (by decide) (cL_27 X hI hn J hR hL kk)
  · exact go (off := 1080) (tgt := 1113) (by rw [hv]; rfl) (by decide) (cL_28 X hI hn J hR hL kk)
  · exact go (off := 1103) (tgt := 1136) (by rw [hv]; rfl) (by decide) (cL_29 X hI hn J hR hL kk)
  · exact go (off := 1136) (tgt := 1169) (by rw [hv]; rfl) (by decide) (cL_30 X hI hn J hR hL kk)
  · exact go (off := 1169) (tgt := 1202) (by rw [hv]; rfl) (by decide) (cL_31 X hI hn J hR hL kk)
  · exact go (off := 1192) (tgt := 1225) (by rw [hv]; rfl) (by decide) (cL_32 X hI hn J hR hL kk)
  · exact go (off := 1205) (tgt := 1238) (by rw [hv]; rfl) (by decide) (cL_33 X hI hn J hR hL kk)
  · exact go (off := 1218) (tgt := 1251) (by rw [hv]; rfl) (by decide) (cL_34 X hI hn J hR hL kk)
  · exact go (off := 1231) (tgt := 1264) (by rw [hv]; rfl) (by decide) (cL_35 X hI hn J hR hL kk)
  · exact go (off := 1244) (tgt := 1277) (by rw [hv]; rfl) (by decide) (cL_36 X hI hn J hR hL kk)
  · exact go (off := 1277) (tgt := 1310) (by rw [hv]; rfl) (by decide) (cL_37 X hI hn J hR hL kk)
  · exact go (off := 1320) (tgt := 1353) (by rw [hv]; rfl) (by decide) (cL_38 X hI hn J hR hL kk)
  · exact go (off := 1353) (tgt := 1386) (by rw [hv]; rfl) (by decide) (cL_39 X hI hn J hR hL kk)
  · exact go (off := 1376) (tgt := 1409) (by rw [hv]; rfl) (by decide) (cL_40 X hI hn J hR hL kk)
  · exact go (off := 1409) (tgt := 1442) (by rw [hv]; rfl) (by decide) (cL_41 X hI hn J hR hL kk)
  · exact go (off := 1432) (tgt := 1465) (by rw [hv]; rfl) (by decide) (cL_42 X hI hn J hR hL kk)
  · exact go (off := 1465) (tgt := 1498) (by rw [hv]; rfl) (by decide) (cL_43 X hI hn J hR hL kk)
  · exact go (off := 1498) (tgt := 1531) (by rw [hv]; rfl) (by decide) (cL_44 X hI hn J hR hL kk)
  · exact go (off := 1531) (tgt := 1564) (by rw [hv]; rfl) (by decide) (cL_45 X hI hn J hR hL kk)
  · exact go (off := 1544) (tgt := 1577) (by rw [hv]; rfl) (by decide) (cL_46 X hI hn J hR hL kk)
  · exact go (off := 1567) (tgt := 1600) (by rw [hv]; rfl) (by decide) (cL_47 X hI hn J hR hL kk)
  · exact go (off := 1580) (tgt := 1613) (by rw [hv]; rfl) (by decide) (cL_48 X hI hn J hR hL kk)
  · exact go (off := 1593) (tgt := 1626) (by rw [hv]; rfl) (by decide) (cL_49 X hI hn J hR hL kk)
def loopD : Bool := okD 18 (.iload_n 3) 1 && (okD 19 (.aload_n 0) 1 && (okD 20 .arraylength 1 && (okD 21 (.bipush 6) 2 && (okD 23 .isub 1 && (okD 24 (.if_icmp .gt 1631) 3 && (okD 27 (.aload_n 0) 1 && (okD 28 (.iload_n 3) 1 && (okD 29 .iaload 1 && (okD 30 (.bipush 63) 2 && (okD 32 .iand 1 && (okD 1649 (.iinc 3 6) 3 && (okD 1652 (.goto (-1634)) 3 && (okD 1655 (.iconst 1) 1 && okD 1656 .ireturn 1)))))))))))))
theorem loopD_ok : loopD = true := by decide +kernel
theorem law_loop (X : LCw G b n xs w) (hn : n ≤ 3072) : ∀ (m i : Nat) (ob : List Nat → Nat) (S : SS) (T : TF) (h : PH), n ≤ 6 * (i + m) → 6 * i ≤ 3078 → INV a br ob S T h → RR ((300000 * i : Nat) : Int) S T → Lv G b w (MCT T) (MST T) 18 (lvL b a br (i32 (6 * i))) [] h := by
  have hD := loopD_ok
  unfold loopD at hD
  simp only [Bool.and_eq_true] at hD
  obtain ⟨e1, e2, e3, e4, e5, e6, e7, e8, e9, e10, e11, e12, e13, e14, e15⟩ := hD
  have hcond : ∀ i : Nat, 6 * i ≤ 3078 → (Int32.ofNat n - 6 < i32 (6 * i) ↔ n < 6 * i + 6) := by
    intro i hi
    have h1 : (Int32.ofNat n).toInt = (n : Int) := i32_toInt (n := n) (by unfold B31; omega)
    have h6 : (6 : Int32).toInt = 6 := by decide
    have h2 : (Int32.ofNat n - 6).toInt = (n : Int) - 6 := by
      rw [toInt_sub' (by rw [h1, h6]; omega) (by rw [h1, h6]; omega), h1, h6]
    rw [Int32.lt_iff_toInt_lt, h2, i32_toInt (by unfold B31; omega)]
    omega
  have stop : ∀ (i : Nat) (T : TF) (h : PH), Lv G b w (MCT T) (MST T) 1655 (lvL b a br (i32 (6 * i))) [] h := by
    intro i T h
    refine lx_iconst (v := 1) X (okD_ok e14) (by decide) ?_
    exact lx_ret X MCT_le MST_le (okD_ok e15)
  intro m
  induction m with
  | zero =>
    intro i ob S T h hm hi J hR
    refine lx_iload_n X 3 (okD_ok e1) rfl rfl ?_
    refine lx_aload_n X 0 (okD_ok e2) rfl rfl ?_
    refine lx_slen X (okD_ok e3) ?_
    refine lx_bipush (v := 6) X (okD_ok e4) (by decide) ?_
    refine lx_isub X (okD_ok e5) ?_
    exact lx_icmp_gt X (okD_ok e6) (tgt := 1655) (by decide) (fun _ => stop i T h) (fun z => absurd ((hcond i hi).mpr (by omega)) z)
  | succ m ih =>
    intro i ob S T h hm hi J hR
    refine lx_iload_n X 3 (okD_ok e1) rfl rfl ?_
    refine lx_aload_n X 0 (okD_ok e2) rfl rfl ?_
    refine lx_slen X (okD_ok e3) ?_
    refine lx_bipush (v := 6) X (okD_ok e4) (by decide) ?_
    refine lx_isub X (okD_ok e5) ?_
    refine lx_icmp_gt X (okD_ok e6) (tgt := 1655) (by decide) (fun _ => stop i T h) (fun z => ?_)
    have hI : 6 * i + 6 ≤ n := Nat.not_lt.mp (fun q => z ((hcond i hi).mpr q))
    refine lx_aload_n (pc := 27) X 0 (okD_ok e7) rfl rfl ?_
    refine lx_iload_n X 3 (okD_ok e8) rfl rfl ?_
    refine lx_sld X (vp_in_i32 (by omega) hn) (okD_ok e9) ?_
    refine lx_bipush (v := 63) X (okD_ok e10) (by decide) ?_
    refine lx_iand X (okD_ok e11) ?_
    refine law_switch X hI hn J hR (by omega) (fun ob' S' T' h' J' hR' => ?_)
    refine lx_iinc (v := i32 (6 * (i + 1))) X 3 (okD_ok e12) rfl (by rw [show Int32.ofInt 6 = i32 6 from by decide, i32_add, show 6 * i + 6 = 6 * (i + 1) by omega]) (by decide) rfl ?_
    refine lx_goto (tgt := 18) X (okD_ok e13) (by decide) ?_
    refine lx_sub [1, 2, 3, 0] rfl ?_
    refine ih (i + 1) ob' S' T' h' (by omega) (by omega) J' ?_
    rw [show ((300000 * (i + 1) : Nat) : Int) = ((300000 * i : Nat) : Int) + 300000 by omega]
    exact hR'
end LOOPS
