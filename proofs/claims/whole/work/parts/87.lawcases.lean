/-! THE CASES -/
/-- from q, in the loop's turn I, to the loop's step -/
abbrev CaseG (q : Nat) : Prop := ∀ {G : GG} {b n : Nat} {xs : Nat → Int32} {w : LW} {h : PH} {a br I : Nat} {ob : List Nat → Nat} {S : SS} {T : TF} {L : Int}, LCw G b n xs w → I + 6 ≤ n → n ≤ 3072 → INV a br ob S T h → RR L S T → L + 600000 ≤ 1999000000 →
  (∀ (ob' : List Nat → Nat) (S' : SS) (T' : TF) (h' : PH), INV a br ob' S' T' h' → RR (L + 300000) S' T' → Lv G b w (MCT T') (MST T') 1649 (lvL b a br (i32 I)) [] h') → Lv G b w (MCT T) (MST T) q (lvL b a br (i32 I)) [] h
theorem cL_0 : CaseG 248 := by
  intro G b n xs w h a br I ob S T L X hI hn J hR hL kk
  exact law_case (k := 3) (As := [.int (xs (I + 1)), .int (xs (I + 2)), .int (xs (I + 3))]) (f5 := fX5_row (xs (I + 1)) (xs (I + 2)) (xs (I + 3))) (f6 := upT (fX6_row (xs (I + 1)) (xs (I + 2)) (xs (I + 3)))) X hI hn (by decide) rfl dC_0 J (okX5_row (xs (I + 1)) (xs (I + 2)) (xs (I + 3))) (.loc (okX6_row (xs (I + 1)) (xs (I + 2)) (xs (I + 3)))) calX5_row calX6_row (TT_2 8 rfl rfl) (TT_5 34 rfl rfl) (by decide) (by decide) (Both.up (both_row hR)) (fun ob1 S1 T1 h1 J1 h4 => kk ob1 S1 T1 h1 J1 (h4.mono (by omega) (by omega)))
theorem cL_2 : CaseG 364 := by
  intro G b n xs w h a br I ob S T L X hI hn J hR hL kk
  exact law_case (k := 5) (As := [.int (xs (I + 1)), .int (xs (I + 2)), .int (xs (I + 3)), .int (xs (I + 4)), .int (xs (I + 5))]) (f5 := fX5_copy (xs (I + 1)) (xs (I + 2)) (xs (I + 3)) (xs (I + 4)) (xs (I + 5))) (f6 := upT (fX6_copy (xs (I + 1)) (xs (I + 2)) (xs (I + 3)) (xs (I + 4)) (xs (I + 5)))) X hI hn (by decide) rfl dC_2 J (okX5_copy (xs (I + 1)) (xs (I + 2)) (xs (I + 3)) (xs (I + 4)) (xs (I + 5))) (.loc (okX6_copy (xs (I + 1)) (xs (I + 2)) (xs (I + 3)) (xs (I + 4)) (xs (I + 5)))) calX5_copy calX6_copy (TT_2 42 rfl rfl) (TT_5 59 rfl rfl) (by decide) (by decide) (Both.up (both_copy hR)) (fun ob1 S1 T1 h1 J1 h4 => kk ob1 S1 T1 h1 J1 (h4.mono (by omega) (by omega)))
theorem cL_4 : CaseG 461 := by
  intro G b n xs w h a br I ob S T L X hI hn J hR hL kk
  exact law_case (k := 1) (As := [.int (xs (I + 1))]) (f5 := fX5_holds (xs (I + 1))) (f6 := upT (fX6_holds (xs (I + 1)))) X hI hn (by decide) rfl dC_4 J (okX5_holds (xs (I + 1))) (.loc (okX6_holds (xs (I + 1)))) calX5_holds calX6_holds (TT_2 57 rfl rfl) (TT_5 67 rfl rfl) (by decide) (by decide) (Both.up (both_holds hR)) (fun ob1 S1 T1 h1 J1 h4 => kk ob1 S1 T1 h1 J1 (h4.mono (by omega) (by omega)))
theorem cL_5 : CaseG 484 := by
  intro G b n xs w h a br I ob S T L X hI hn J hR hL kk
  exact law_case (k := 2) (As := [.int (xs (I + 1)), .int (xs (I + 2))]) (f5 := fX5_show (xs (I + 1)) (xs (I + 2))) (f6 := upT (fX6_show (xs (I + 1)) (xs (I + 2)))) X hI hn (by decide) rfl dC_5 J (okX5_show (xs (I + 1)) (xs (I + 2))) (.loc (okX6_show (xs (I + 1)) (xs (I + 2)))) calX5_show calX6_show (TT_2 61 rfl rfl) (TT_5 71 rfl rfl) (by decide) (by decide) (Both.up (both_show hR)) (fun ob1 S1 T1 h1 J1 h4 => kk ob1 S1 T1 h1 J1 (h4.mono (by omega) (by omega)))
theorem cL_6 : CaseG 517 := by
  intro G b n xs w h a br I ob S T L X hI hn J hR hL kk
  exact law_case (k := 2) (As := [.int (xs (I + 1)), .int (xs (I + 2))]) (f5 := fX5_says (xs (I + 1)) (xs (I + 2))) (f6 := fX6_says [] (xs (I + 1)) (xs (I + 2))) X hI hn (by decide) rfl dC_6 J (okX5_says (xs (I + 1)) (xs (I + 2))) (.late (okX6_says [] (xs (I + 1)) (xs (I + 2)))) calX5_says calX6_says (TT_2 77 rfl rfl) (TT_5 79 rfl rfl) (by decide) (by decide) (both_says hR (by omega)) (fun ob1 S1 T1 h1 J1 h4 => kk ob1 S1 T1 h1 J1 (h4.mono (by omega) (by omega)))
theorem cL_7 : CaseG 550 := by
  intro G b n xs w h a br I ob S T L X hI hn J hR hL kk
  exact law_case (k := 1) (As := [.int (xs (I + 1))]) (f5 := fX5_sides (xs (I + 1))) (f6 := upT (fX6_sides (xs (I + 1)))) X hI hn (by decide) rfl dC_7 J (okX5_sides (xs (I + 1))) (.loc (okX6_sides (xs (I + 1)))) calX5_sides calX6_sides (TT_2 179 rfl rfl) (TT_5 157 rfl rfl) (by decide) (by decide) (Both.up (both_sides hR)) (fun ob1 S1 T1 h1 J1 h4 => kk ob1 S1 T1 h1 J1 (h4.mono (by omega) (by omega)))
theorem cL_8 : CaseG 573 := by
  intro G b n xs w h a br I ob S T L X hI hn J hR hL kk
  exact law_case (k := 2) (As := [.int (xs (I + 1)), .int (xs (I + 2))]) (f5 := fX5_scoop (xs (I + 1)) (xs (I + 2))) (f6 := upT (fX6_scoop (xs (I + 1)) (xs (I + 2)))) X hI hn (by decide) rfl dC_8 J (okX5_scoop (xs (I + 1)) (xs (I + 2))) (.loc (okX6_scoop (xs (I + 1)) (xs (I + 2)))) calX5_scoop calX6_scoop (TT_2 191 rfl rfl) (TT_5 166 rfl rfl) (by decide) (by decide) (Both.up (both_scoop hR)) (fun ob1 S1 T1 h1 J1 h4 => kk ob1 S1 T1 h1 J1 (h4.mono (by omega) (by omega)))
theorem cL_9 : CaseG 606 := by
  intro G b n xs w h a br I ob S T L X hI hn J hR hL kk
  exact law_case (k := 1) (As := [.int (xs (I + 1))]) (f5 := fX5_sun (xs (I + 1))) (f6 := upT (fX6_sun (xs (I + 1)))) X hI hn (by decide) rfl dC_9 J (okX5_sun (xs (I + 1))) (.loc (okX6_sun (xs (I + 1)))) calX5_sun calX6_sun (TT_2 199 rfl rfl) (TT_5 176 rfl rfl) (by decide) (by decide) (Both.up (both_sun hR)) (fun ob1 S1 T1 h1 J1 h4 => kk ob1 S1 T1 h1 J1 (h4.mono (by omega) (by omega)))
theorem cL_10 : CaseG 629 := by
  intro G b n xs w h a br I ob S T L X hI hn J hR hL kk
  exact law_case (k := 2) (As := [.int (xs (I + 1)), .int (xs (I + 2))]) (f5 := fX5_ask (xs (I + 1)) (xs (I + 2))) (f6 := upT (fX6_ask (xs (I + 1)) (xs (I + 2)))) X hI hn (by decide) rfl dC_10 J (okX5_ask (xs (I + 1)) (xs (I + 2))) (.loc (okX6_ask (xs (I + 1)) (xs (I + 2)))) calX5_ask calX6_ask (TT_2 204 rfl rfl) (TT_5 180 rfl rfl) (by decide) (by decide) (Both.up (both_ask hR)) (fun ob1 S1 T1 h1 J1 h4 => kk ob1 S1 T1 h1 J1 (h4.mono (by omega) (by omega)))
theorem cL_11 : CaseG 662 := by
  intro G b n xs w h a br I ob S T L X hI hn J hR hL kk
  exact law_case (k := 2) (As := [.int (xs (I + 1)), .int (xs (I + 2))]) (f5 := fX5_licker (xs (I + 1)) (xs (I + 2))) (f6 := upT (fX6_licker (xs (I + 1)) (xs (I + 2)))) X hI hn (by decide) rfl dC_11 J (okX5_licker (xs (I + 1)) (xs (I + 2))) (.loc (okX6_licker (xs (I + 1)) (xs (I + 2)))) calX5_licker calX6_licker (TT_2 216 rfl rfl) (TT_5 194 rfl rfl) (by decide) (by decide) (Both.up (both_licker hR)) (fun ob1 S1 T1 h1 J1 h4 => kk ob1 S1 T1 h1 J1 (h4.mono (by omega) (by omega)))
theorem cL_12 : CaseG 695 := by
  intro G b n xs w h a br I ob S T L X hI hn J hR hL kk
  exact law_case (k := 1) (As := [.int (xs (I + 1))]) (f5 := fX5_feed (xs (I + 1))) (f6 := upT (fX6_feed (xs (I + 1)))) X hI hn (by decide) rfl dC_12 J (okX5_feed (xs (I + 1))) (.loc (okX6_feed (xs (I + 1)))) calX5_feed calX6_feed (TT_2 224 rfl rfl) (TT_5 202 rfl rfl) (by decide) (by decide) (Both.up (both_feed hR)) (fun ob1 S1 T1 h1 J1 h4 => kk ob1 S1 T1 h1 J1 (h4.mono (by omega) (by omega)))
theorem cL_13 : CaseG 718 := by
  intro G b n xs w h a br I ob S T L X hI hn J hR hL kk
  exact law_case (k := 0) (As := []) (f5 := fX5_wipe) (f6 := upT (fX6_wipe)) X hI hn (by decide) rfl dC_13 J (okX5_wipe) (.loc (okX6_wipe)) calX5_wipe calX6_wipe (TT_2 232 rfl rfl) (TT_5 207 rfl rfl) (by decide) (by decide) (Both.up (both_wipe hR)) (fun ob1 S1 T1 h1 J1 h4 => kk ob1 S1 T1 h1 J1 (h4.mono (by omega) (by omega)))
theorem cL_14 : CaseG 731 := by
  intro G b n xs w h a br I ob S T L X hI hn J hR hL kk
  exact law_case (k := 0) (As := []) (f5 := fX5_kerb) (f6 := fX6_kerb []) X hI hn (by decide) rfl dC_14 J (okX5_kerb) (.late (okX6_kerb [])) calX5_kerb calX6_kerb (TT_2 236 rfl rfl) (TT_5 211 rfl rfl) (by decide) (by decide) (both_kerb hR (by omega)) (fun ob1 S1 T1 h1 J1 h4 => kk ob1 S1 T1 h1 J1 h4)
theorem cL_15 : CaseG 744 := by
  intro G b n xs w h a br I ob S T L X hI hn J hR hL kk
  exact law_case (k := 2) (As := [.int (xs (I + 1)), .int (xs (I + 2))]) (f5 := fX5_scoopOf (xs (I + 1)) (xs (I + 2))) (f6 := upT (fX6_scoopOf (xs (I + 1)) (xs (I + 2)))) X hI hn (by decide) rfl dC_15 J (okX5_scoopOf (xs (I + 1)) (xs (I + 2))) (.loc (okX6_scoopOf (xs (I + 1)) (xs (I + 2)))) calX5_scoopOf calX6_scoopOf (TT_3 133 rfl rfl) (TT_6 30 rfl rfl) (by decide) (by decide) (Both.up (both_scoopOf hR)) (fun ob1 S1 T1 h1 J1 h4 => kk ob1 S1 T1 h1 J1 (h4.mono (by omega) (by omega)))
theorem cL_16 : CaseG 777 := by
  intro G b n xs w h a br I ob S T L X hI hn J hR hL kk
  exact law_case (k := 2) (As := [.int (xs (I + 1)), .int (xs (I + 2))]) (f5 := fX5_wet (xs (I + 1)) (xs (I + 2))) (f6 := upT (fX6_wet (xs (I + 1)) (xs (I + 2)))) X hI hn (by decide) rfl dC_16 J (okX5_wet (xs (I + 1)) (xs (I + 2))) (.loc (okX6_wet (xs (I + 1)) (xs (I + 2)))) calX5_wet calX6_wet (TT_3 145 rfl rfl) (TT_6 43 rfl rfl) (by decide) (by decide) (Both.up (both_wet hR)) (fun ob1 S1 T1 h1 J1 h4 => kk ob1 S1 T1 h1 J1 (h4.mono (by omega) (by omega)))
theorem cL_17 : CaseG 810 := by
  intro G b n xs w h a br I ob S T L X hI hn J hR hL kk
  exact law_case (k := 2) (As := [.int (xs (I + 1)), .int (xs (I + 2))]) (f5 := fX5_lickerOf (xs (I + 1)) (xs (I + 2))) (f6 := upT (fX6_lickerOf (xs (I + 1)) (xs (I + 2)))) X hI hn (by decide) rfl dC_17 J (okX5_lickerOf (xs (I + 1)) (xs (I + 2))) (.loc (okX6_lickerOf (xs (I + 1)) (xs (I + 2)))) calX5_lickerOf calX6_lickerOf (TT_3 150 rfl rfl) (TT_6 47 rfl rfl) (by decide) (by decide) (Both.up (both_lickerOf hR)) (fun ob1 S1 T1 h1 J1 h4 => kk ob1 S1 T1 h1 J1 (h4.mono (by omega) (by omega)))
theorem cL_18 : CaseG 843 := by
  intro G b n xs w h a br I ob S T L X hI hn J hR hL kk
  exact law_case (k := 1) (As := [.int (xs (I + 1))]) (f5 := fX5_sunny (xs (I + 1))) (f6 := upT (fX6_sunny (xs (I + 1)))) X hI hn (by decide) rfl dC_18 J (okX5_sunny (xs (I + 1))) (.loc (okX6_sunny (xs (I + 1)))) calX5_sunny calX6_sunny (TT_3 154 rfl rfl) (TT_6 51 rfl rfl) (by decide) (by decide) (Both.up (both_sunny hR)) (fun ob1 S1 T1 h1 J1 h4 => kk ob1 S1 T1 h1 J1 (h4.mono (by omega) (by omega)))
theorem cL_19 : CaseG 866 := by
  intro G b n xs w h a br I ob S T L X hI hn J hR hL kk
  exact law_case (k := 1) (As := [.int (xs (I + 1))]) (f5 := fX5_without (xs (I + 1))) (f6 := fX6_without [] (xs (I + 1))) X hI hn (by decide) rfl dC_19 J (okX5_without (xs (I + 1))) (.late (okX6_without [] (xs (I + 1)))) calX5_without calX6_without (TT_3 159 rfl rfl) (TT_6 64 rfl rfl) (by decide) (by decide) (both_without hR (by omega)) (fun ob1 S1 T1 h1 J1 h4 => kk ob1 S1 T1 h1 J1 (h4.mono (by omega) (by omega)))
theorem cL_20 : CaseG 889 := by
  intro G b n xs w h a br I ob S T L X hI hn J hR hL kk
  exact law_case (k := 0) (As := []) (f5 := fX5_spare) (f6 := fX6_spare []) X hI hn (by decide) rfl dC_20 J (okX5_spare) (.late (okX6_spare [])) calX5_spare calX6_spare (TT_3 172 rfl rfl) (TT_6 77 rfl rfl) (by decide) (by decide) (both_spare hR (by omega)) (fun ob1 S1 T1 h1 J1 h4 => kk ob1 S1 T1 h1 J1 (h4.mono (by omega) (by omega)))
theorem cL_21 : CaseG 902 := by
  intro G b n xs w h a br I ob S T L X hI hn J hR hL kk
  exact law_case (k := 3) (As := [.int (xs (I + 1)), .int (xs (I + 2)), .int (xs (I + 3))]) (f5 := fX5_run (xs (I + 1)) (xs (I + 2)) (xs (I + 3))) (f6 := fX6_run [] (xs (I + 1)) (xs (I + 2)) (xs (I + 3))) X hI hn (by decide) rfl dC_21 J (okX5_run (xs (I + 1)) (xs (I + 2)) (xs (I + 3))) (.late (okX6_run [] (xs (I + 1)) (xs (I + 2)) (xs (I + 3)))) calX5_run calX6_run (TT_3 176 rfl rfl) (TT_6 81 rfl rfl) (by decide) (by decide) (both_run hR (by omega)) (fun ob1 S1 T1 h1 J1 h4 => kk ob1 S1 T1 h1 J1 (h4.mono (by omega) (by omega)))
theorem cL_22 : CaseG 945 := by
  intro G b n xs w h a br I ob S T L X hI hn J hR hL kk
  exact law_case (k := 1) (As := [.int (xs (I + 1))]) (f5 := fX5_would (xs (I + 1))) (f6 := fX6_would [] (xs (I + 1))) X hI hn (by decide) rfl dC_22 J (okX5_would (xs (I + 1))) (.late (okX6_would [] (xs (I + 1)))) calX5_would calX6_would (TT_3 193 rfl rfl) (TT_6 55 rfl rfl) (by decide) (by decide) (both_would hR (by omega)) (fun ob1 S1 T1 h1 J1 h4 => kk ob1 S1 T1 h1 J1 (h4.mono (by omega) (by omega)))
theorem cL_23 : CaseG 968 := by
  intro G b n xs w h a br I ob S T L X hI hn J hR hL kk
  exact law_case (k := 2) (As := [.int (xs (I + 1)), .int (xs (I + 2))]) (f5 := fX5_plan (xs (I + 1)) (xs (I + 2))) (f6 := fX6_plan [] (xs (I + 1)) (xs (I + 2))) X hI hn (by decide) rfl dC_23 J (okX5_plan (xs (I + 1)) (xs (I + 2))) (.late (okX6_plan [] (xs (I + 1)) (xs (I + 2)))) calX5_plan calX6_plan (TT_3 197 rfl rfl) (TT_6 59 rfl rfl) (by decide) (by decide) (both_plan hR (by omega)) (fun ob1 S1 T1 h1 J1 h4 => kk ob1 S1 T1 h1 J1 (h4.mono (by omega) (by omega)))
theorem cL_24 : CaseG 1001 := by
  intro G b n xs w h a br I ob S T L X hI hn J hR hL kk
  exact law_case (k := 1) (As := [.int (xs (I + 1))]) (f5 := fX5_best (xs (I + 1))) (f6 := fX6_best [] (xs (I + 1))) X hI hn (by decide) rfl dC_24 J (okX5_best (xs (I + 1))) (.late (okX6_best [] (xs (I + 1)))) calX5_best calX6_best (TT_3 202 rfl rfl) (TT_6 97 rfl rfl) (by decide) (by decide) (both_best hR (by omega)) (fun ob1 S1 T1 h1 J1 h4 => kk ob1 S1 T1 h1 J1 (h4.mono (by omega) (by omega)))
theorem cL_25 : CaseG 1024 := by
  intro G b n xs w h a br I ob S T L X hI hn J hR hL kk
  exact law_case (k := 1) (As := [.int (xs (I + 1))]) (f5 := fX5_until (xs (I + 1))) (f6 := fX6_until [] (xs (I + 1))) X hI hn (by decide) rfl dC_25 J (okX5_until (xs (I + 1))) (.late (okX6_until [] (xs (I + 1)))) calX5_until calX6_until (TT_3 206 rfl rfl) (TT_6 101 rfl rfl) (by decide) (by decide) (both_until hR (by omega)) (fun ob1 S1 T1 h1 J1 h4 => kk ob1 S1 T1 h1 J1 (h4.mono (by omega) (by omega)))
theorem cL_26 : CaseG 1047 := by
  intro G b n xs w h a br I ob S T L X hI hn J hR hL kk
  exact law_case (k := 1) (As := [.int (xs (I + 1))]) (f5 := fX5_spareBy (xs (I + 1))) (f6 := fX6_spareBy [] (xs (I + 1))) X hI hn (by decide) rfl dC_26 J (okX5_spareBy (xs (I + 1))) (.late (okX6_spareBy [] (xs (I + 1)))) calX5_spareBy calX6_spareBy (TT_3 210 rfl rfl) (TT_6 105 rfl rfl) (by decide) (by decide) (both_spareBy hR (by omega)) (fun ob1 S1 T1 h1 J1 h4 => kk ob1 S1 T1 h1 J1 (h4.mono (by omega) (by omega)))
theorem cL_27 : CaseG 1070 := by
  intro G b n xs w h a br I ob S T L X hI hn J hR hL kk
  exact law_case (k := 3) (As := [.int (xs (I + 1)), .int (xs (I + 2)), .int (xs (I + 3))]) (f5 := fX5_both (xs (I + 1)) (xs (I + 2)) (xs (I + 3))) (f6 := fX6_both [] (xs (I + 1)) (xs (I + 2)) (xs (I + 3))) X hI hn (by decide) rfl dC_27 J (okX5_both (xs (I + 1)) (xs (I + 2)) (xs (I + 3))) (.late (okX6_both [] (xs (I + 1)) (xs (I + 2)) (xs (I + 3)))) calX5_both calX6_both (TT_3 214 rfl rfl) (TT_6 109 rfl rfl) (by decide) (by decide) (both_both hR (by omega)) (fun ob1 S1 T1 h1 J1 h4 => kk ob1 S1 T1 h1 J1 (h4.mono (by omega) (by omega)))
theorem cL_28 : CaseG 1113 := by
  intro G b n xs w h a br I ob S T L X hI hn J hR hL kk
  exact law_case (k := 1) (As := [.int (xs (I + 1))]) (f5 := fX5_holdFor (xs (I + 1))) (f6 := fX6_holdFor [] (xs (I + 1))) X hI hn (by decide) rfl dC_28 J (okX5_holdFor (xs (I + 1))) (.late (okX6_holdFor [] (xs (I + 1)))) calX5_holdFor calX6_holdFor (TT_3 218 rfl rfl) (TT_6 113 rfl rfl) (by decide) (by decide) (both_holdFor hR (by omega)) (fun ob1 S1 T1 h1 J1 h4 => kk ob1 S1 T1 h1 J1 (h4.mono (by omega) (by omega)))
theorem cL_29 : CaseG 1136 := by
  intro G b n xs w h a br I ob S T L X hI hn J hR hL kk
  exact law_case (k := 2) (As := [.int (xs (I + 1)), .int (xs (I + 2))]) (f5 := fX5_largest (xs (I + 1)) (xs (I + 2))) (f6 := fX6_largest [] (xs (I + 1)) (xs (I + 2))) X hI hn (by decide) rfl dC_29 J (okX5_largest (xs (I + 1)) (xs (I + 2))) (.late (okX6_largest [] (xs (I + 1)) (xs (I + 2)))) calX5_largest calX6_largest (TT_3 222 rfl rfl) (TT_6 117 rfl rfl) (by decide) (by decide) (both_largest hR (by omega)) (fun ob1 S1 T1 h1 J1 h4 => kk ob1 S1 T1 h1 J1 (h4.mono (by omega) (by omega)))
theorem cL_30 : CaseG 1169 := by
  intro G b n xs w h a br I ob S T L X hI hn J hR hL kk
  exact law_case (k := 2) (As := [.int (xs (I + 1)), .int (xs (I + 2))]) (f5 := fX5_order (xs (I + 1)) (xs (I + 2))) (f6 := fX6_order [] (xs (I + 1)) (xs (I + 2))) X hI hn (by decide) rfl dC_30 J (okX5_order (xs (I + 1)) (xs (I + 2))) (.late (okX6_order [] (xs (I + 1)) (xs (I + 2)))) calX5_order calX6_order (TT_3 230 rfl rfl) (TT_6 121 rfl rfl) (by decide) (by decide) (both_order hR (by omega)) (fun ob1 S1 T1 h1 J1 h4 => kk ob1 S1 T1 h1 J1 (h4.mono (by omega) (by omega)))
theorem cL_31 : CaseG 1202 := by
  intro G b n xs w h a br I ob S T L X hI hn J hR hL kk
  exact law_case (k := 1) (As := [.int (xs (I + 1))]) (f5 := fX5_shade (xs (I + 1))) (f6 := fX6_shade [] (xs (I + 1))) X hI hn (by decide) rfl dC_31 J (okX5_shade (xs (I + 1))) (.late (okX6_shade [] (xs (I + 1)))) calX5_shade calX6_shade (TT_4 9 rfl rfl) (TT_6 133 rfl rfl) (by decide) (by decide) (both_shade hR (by omega)) (fun ob1 S1 T1 h1 J1 h4 => kk ob1 S1 T1 h1 J1 (h4.mono (by omega) (by omega)))
theorem cL_32 : CaseG 1225 := by
  intro G b n xs w h a br I ob S T L X hI hn J hR hL kk
  exact law_case (k := 0) (As := []) (f5 := fX5_gives) (f6 := fX6_gives []) X hI hn (by decide) rfl dC_32 J (okX5_gives) (.late (okX6_gives [])) calX5_gives calX6_gives (TT_4 13 rfl rfl) (TT_6 137 rfl rfl) (by decide) (by decide) (both_gives hR (by omega)) (fun ob1 S1 T1 h1 J1 h4 => kk ob1 S1 T1 h1 J1 (h4.mono (by omega) (by omega)))
theorem cL_33 : CaseG 1238 := by
  intro G b n xs w h a br I ob S T L X hI hn J hR hL kk
  exact law_case (k := 0) (As := []) (f5 := fX5_wettest) (f6 := upT (fX6_wettest)) X hI hn (by decide) rfl dC_33 J (okX5_wettest) (.loc (okX6_wettest)) calX5_wettest calX6_wettest (TT_4 17 rfl rfl) (TT_6 141 rfl rfl) (by decide) (by decide) (Both.up (both_wettest hR)) (fun ob1 S1 T1 h1 J1 h4 => kk ob1 S1 T1 h1 J1 (h4.mono (by omega) (by omega)))
theorem cL_34 : CaseG 1251 := by
  intro G b n xs w h a br I ob S T L X hI hn J hR hL kk
  exact law_case (k := 0) (As := []) (f5 := fX5_largestScoop) (f6 := upT (fX6_largestScoop)) X hI hn (by decide) rfl dC_34 J (okX5_largestScoop) (.loc (okX6_largestScoop)) calX5_largestScoop calX6_largestScoop (TT_4 22 rfl rfl) (TT_6 145 rfl rfl) (by decide) (by decide) (Both.up (both_largestScoop hR)) (fun ob1 S1 T1 h1 J1 h4 => kk ob1 S1 T1 h1 J1 (h4.mono (by omega) (by omega)))
theorem cL_35 : CaseG 1264 := by
  intro G b n xs w h a br I ob S T L X hI hn J hR hL kk
  exact law_case (k := 0) (As := []) (f5 := fX5_melted) (f6 := fX6_melted []) X hI hn (by decide) rfl dC_35 J (okX5_melted) (.late (okX6_melted [])) calX5_melted calX6_melted (TT_4 26 rfl rfl) (TT_6 149 rfl rfl) (by decide) (by decide) (both_melted hR (by omega)) (fun ob1 S1 T1 h1 J1 h4 => kk ob1 S1 T1 h1 J1 (h4.mono (by omega) (by omega)))
theorem cL_36 : CaseG 1277 := by
  intro G b n xs w h a br I ob S T L X hI hn J hR hL kk
  exact law_case (k := 2) (As := [.int (xs (I + 1)), .int (xs (I + 2))]) (f5 := fX5_judge (xs (I + 1)) (xs (I + 2))) (f6 := upT (fX6_judge (xs (I + 1)) (xs (I + 2)))) X hI hn (by decide) rfl dC_36 J (okX5_judge (xs (I + 1)) (xs (I + 2))) (.loc (okX6_judge (xs (I + 1)) (xs (I + 2)))) calX5_judge calX6_judge (TT_4 34 rfl rfl) (TT_6 153 rfl rfl) (by decide) (by decide) (Both.up (both_judge hR)) (fun ob1 S1 T1 h1 J1 h4 => kk ob1 S1 T1 h1 J1 (h4.mono (by omega) (by omega)))
theorem cL_37 : CaseG 1310 := by
  intro G b n xs w h a br I ob S T L X hI hn J hR hL kk
  exact law_case (k := 3) (As := [.int (xs (I + 1)), .int (xs (I + 2)), .int (xs (I + 3))]) (f5 := fX5_behind (xs (I + 1)) (xs (I + 2)) (xs (I + 3))) (f6 := fX6_behind [] (xs (I + 1)) (xs (I + 2)) (xs (I + 3))) X hI hn (by decide) rfl dC_37 J (okX5_behind (xs (I + 1)) (xs (I + 2)) (xs (I + 3))) (.late (okX6_behind [] (xs (I + 1)) (xs (I + 2)) (xs (I + 3)))) calX5_behind calX6_behind (TT_4 48 rfl rfl) (TT_6 165 rfl rfl) (by decide) (by decide) (both_behind hR (by omega)) (fun ob1 S1 T1 h1 J1 h4 => kk ob1 S1 T1 h1 J1 (h4.mono (by omega) (by omega)))
theorem cL_38 : CaseG 1353 := by
  intro G b n xs w h a br I ob S T L X hI hn J hR hL kk
  exact law_case (k := 2) (As := [.int (xs (I + 1)), .int (xs (I + 2))]) (f5 := fX5_done (xs (I + 1)) (xs (I + 2))) (f6 := upT (fX6_done (xs (I + 1)) (xs (I + 2)))) X hI hn (by decide) rfl dC_38 J (okX5_done (xs (I + 1)) (xs (I + 2))) (.loc (okX6_done (xs (I + 1)) (xs (I + 2)))) calX5_done calX6_done (TT_4 52 rfl rfl) (TT_6 169 rfl rfl) (by decide) (by decide) (Both.up (both_done hR (by omega))) (fun ob1 S1 T1 h1 J1 h4 => kk ob1 S1 T1 h1 J1 h4)
theorem cL_39 : CaseG 1386 := by
  intro G b n xs w h a br I ob S T L X hI hn J hR hL kk
  exact law_case (k := 1) (As := [.int (xs (I + 1))]) (f5 := fX5_drop (xs (I + 1))) (f6 := upT (fX6_drop (xs (I + 1)))) X hI hn (by decide) rfl dC_39 J (okX5_drop (xs (I + 1))) (.loc (okX6_drop (xs (I + 1)))) calX5_drop calX6_drop (TT_4 57 rfl rfl) (TT_6 173 rfl rfl) (by decide) (by decide) (Both.up (both_drop hR)) (fun ob1 S1 T1 h1 J1 h4 => kk ob1 S1 T1 h1 J1 (h4.mono (by omega) (by omega)))
theorem cL_40 : CaseG 1409 := by
  intro G b n xs w h a br I ob S T L X hI hn J hR hL kk
  exact law_case (k := 2) (As := [.int (xs (I + 1)), .int (xs (I + 2))]) (f5 := fX5_went (xs (I + 1)) (xs (I + 2))) (f6 := upT (fX6_went (xs (I + 1)) (xs (I + 2)))) X hI hn (by decide) rfl dC_40 J (okX5_went (xs (I + 1)) (xs (I + 2))) (.loc (okX6_went (xs (I + 1)) (xs (I + 2)))) calX5_went calX6_went (TT_4 61 rfl rfl) (TT_6 177 rfl rfl) (by decide) (by decide) (Both.up (both_went hR)) (fun ob1 S1 T1 h1 J1 h4 => kk ob1 S1 T1 h1 J1 (h4.mono (by omega) (by omega)))
theorem cL_41 : CaseG 1442 := by
  intro G b n xs w h a br I ob S T L X hI hn J hR hL kk
  exact law_case (k := 1) (As := [.int (xs (I + 1))]) (f5 := fX5_act (xs (I + 1))) (f6 := upT (fX6_act (xs (I + 1)))) X hI hn (by decide) rfl dC_41 J (okX5_act (xs (I + 1))) (.loc (okX6_act (xs (I + 1)))) calX5_act calX6_act (TT_4 69 rfl rfl) (TT_6 181 rfl rfl) (by decide) (by decide) (Both.up (both_act hR (by omega))) (fun ob1 S1 T1 h1 J1 h4 => kk ob1 S1 T1 h1 J1 h4)
theorem cL_42 : CaseG 1465 := by
  intro G b n xs w h a br I ob S T L X hI hn J hR hL kk
  exact law_case (k := 2) (As := [.int (xs (I + 1)), .int (xs (I + 2))]) (f5 := fX5_licks (xs (I + 1)) (xs (I + 2))) (f6 := fX6_licks [] (xs (I + 1)) (xs (I + 2))) X hI hn (by decide) rfl dC_42 J (okX5_licks (xs (I + 1)) (xs (I + 2))) (.late (okX6_licks [] (xs (I + 1)) (xs (I + 2)))) calX5_licks calX6_licks (TT_4 73 rfl rfl) (TT_6 185 rfl rfl) (by decide) (by decide) (both_licks hR (by omega)) (fun ob1 S1 T1 h1 J1 h4 => kk ob1 S1 T1 h1 J1 h4)
theorem cL_43 : CaseG 1498 := by
  intro G b n xs w h a br I ob S T L X hI hn J hR hL kk
  exact law_case (k := 2) (As := [.int (xs (I + 1)), .int (xs (I + 2))]) (f5 := fX5_swap (xs (I + 1)) (xs (I + 2))) (f6 := fX6_swap [] (xs (I + 1)) (xs (I + 2))) X hI hn (by decide) rfl dC_43 J (okX5_swap (xs (I + 1)) (xs (I + 2))) (.late (okX6_swap [] (xs (I + 1)) (xs (I + 2)))) calX5_swap calX6_swap (TT_4 81 rfl rfl) (TT_6 194 rfl rfl) (by decide) (by decide) (both_swap hR) (fun ob1 S1 T1 h1 J1 h4 => kk ob1 S1 T1 h1 J1 (h4.mono (by omega) (by omega)))
theorem cL_44 : CaseG 1531 := by
  intro G b n xs w h a br I ob S T L X hI hn J hR hL kk
  exact law_case (k := 2) (As := [.int (xs (I + 1)), .int (xs (I + 2))]) (f5 := fX5_day (xs (I + 1)) (xs (I + 2))) (f6 := fX6_day [] (xs (I + 1)) (xs (I + 2))) X hI hn (by decide) rfl dC_44 J (okX5_day (xs (I + 1)) (xs (I + 2))) (.late (okX6_day [] (xs (I + 1)) (xs (I + 2)))) calX5_day calX6_day (TT_4 89 rfl rfl) (TT_6 198 rfl rfl) (by decide) (by decide) (both_day hR (by omega)) (fun ob1 S1 T1 h1 J1 h4 => kk ob1 S1 T1 h1 J1 h4)
theorem cL_45 : CaseG 1564 := by
  intro G b n xs w h a br I ob S T L X hI hn J hR hL kk
  exact law_case (k := 0) (As := []) (f5 := fX5_anew) (f6 := upT (fX6_anew)) X hI hn (by decide) rfl dC_45 J (okX5_anew) (.loc (okX6_anew)) calX5_anew calX6_anew (TT_4 98 rfl rfl) (TT_6 207 rfl rfl) (by decide) (by decide) (Both.up (both_anew hR)) (fun ob1 S1 T1 h1 J1 h4 => kk ob1 S1 T1 h1 J1 (h4.mono (by omega) (by omega)))
theorem cL_46 : CaseG 1577 := by
  intro G b n xs w h a br I ob S T L X hI hn J hR hL kk
  exact law_case (k := 1) (As := [.int (xs (I + 1))]) (f5 := fX5_seed (xs (I + 1))) (f6 := upT (fX6_seed (xs (I + 1)))) X hI hn (by decide) rfl dC_46 J (okX5_seed (xs (I + 1))) (.loc (okX6_seed (xs (I + 1)))) calX5_seed calX6_seed (TT_4 106 rfl rfl) (TT_6 211 rfl rfl) (by decide) (by decide) (Both.up (both_seed hR)) (fun ob1 S1 T1 h1 J1 h4 => kk ob1 S1 T1 h1 J1 (h4.mono (by omega) (by omega)))
theorem cL_47 : CaseG 1600 := by
  intro G b n xs w h a br I ob S T L X hI hn J hR hL kk
  exact law_case (k := 0) (As := []) (f5 := fX5_image) (f6 := fX6_image []) X hI hn (by decide) rfl dC_47 J (okX5_image) (.late (okX6_image [])) calX5_image calX6_image (TT_4 110 rfl rfl) (TT_6 215 rfl rfl) (by decide) (by decide) (both_image hR) (fun ob1 S1 T1 h1 J1 h4 => kk ob1 S1 T1 h1 J1 (h4.mono (by omega) (by omega)))
theorem cL_48 : CaseG 1613 := by
  intro G b n xs w h a br I ob S T L X hI hn J hR hL kk
  exact law_case (k := 0) (As := []) (f5 := fX5_back) (f6 := fX6_back []) X hI hn (by decide) rfl dC_48 J (okX5_back) (.late (okX6_back [])) calX5_back calX6_back (TT_4 114 rfl rfl) (TT_6 219 rfl rfl) (by decide) (by decide) (both_back hR) (fun ob1 S1 T1 h1 J1 h4 => kk ob1 S1 T1 h1 J1 (h4.mono (by omega) (by omega)))
theorem cL_49 : CaseG 1626 := by
  intro G b n xs w h a br I ob S T L X hI hn J hR hL kk
  exact law_case (k := 1) (As := [.int (xs (I + 1))]) (f5 := fX5_status (xs (I + 1))) (f6 := upT (fX6_status (xs (I + 1)))) X hI hn (by decide) rfl dC_49 J (okX5_status (xs (I + 1))) (.loc (okX6_status (xs (I + 1)))) calX5_status calX6_status (TT_4 118 rfl rfl) (TT_6 223 rfl rfl) (by decide) (by decide) (Both.up (both_status hR)) (fun ob1 S1 T1 h1 J1 h4 => kk ob1 S1 T1 h1 J1 (h4.mono (by omega) (by omega)))
