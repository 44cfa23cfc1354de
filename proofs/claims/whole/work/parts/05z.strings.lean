abbrev mJ0_length_8abf5 : MI := (RJ0, yJ0_length_8abf5, cJ0_length_8abf5, 1, (some .int))
theorem dJ0_length_8abf5_0 : decode cJ0_length_8abf5 0 = .ok (.aload_n 0, 1) := by decide +kernel
theorem dJ0_length_8abf5_1 : decode cJ0_length_8abf5 1 = .ok (.getfield 9, 3) := by decide +kernel
theorem dJ0_length_8abf5_4 : decode cJ0_length_8abf5 4 = .ok (.arraylength, 1) := by decide +kernel
theorem dJ0_length_8abf5_5 : decode cJ0_length_8abf5 5 = .ok (.aload_n 0, 1) := by decide +kernel
theorem dJ0_length_8abf5_6 : decode cJ0_length_8abf5 6 = .ok (.invokevirtual 335, 3) := by decide +kernel
theorem dJ0_length_8abf5_9 : decode cJ0_length_8abf5 9 = .ok (.ishr, 1) := by decide +kernel
theorem dJ0_length_8abf5_10 : decode cJ0_length_8abf5 10 = .ok (.ireturn, 1) := by decide +kernel
theorem tcJ0_length_8abf5 : Cond.code yJ0_length_8abf5 cJ0_length_8abf5 1 (some .int) ∈ TT ∧ Cond.initialized RJ0 ∈ TT := ⟨TT_3 40 rfl rfl, TT_1 10 rfl rfl⟩
theorem tiJ0_length_8abf5 : Cond.instanceMethod yJ0_length_8abf5 ∈ TT ∧ Cond.selects RJ0 yJ0_length_8abf5 yJ0_length_8abf5 ∈ TT := ⟨TT_3 38 rfl rfl, TT_3 39 rfl rfl⟩
abbrev mJ0_charAt_5068e : MI := (RJ0, yJ0_charAt_5068e, cJ0_charAt_5068e, 2, (some .char))
theorem dJ0_charAt_5068e_0 : decode cJ0_charAt_5068e 0 = .ok (.aload_n 0, 1) := by decide +kernel
theorem dJ0_charAt_5068e_1 : decode cJ0_charAt_5068e 1 = .ok (.invokevirtual 492, 3) := by decide +kernel
theorem dJ0_charAt_5068e_4 : decode cJ0_charAt_5068e 4 = .ok (.ifCond .eq 12, 3) := by decide +kernel
theorem dJ0_charAt_5068e_7 : decode cJ0_charAt_5068e 7 = .ok (.aload_n 0, 1) := by decide +kernel
theorem dJ0_charAt_5068e_8 : decode cJ0_charAt_5068e 8 = .ok (.getfield 9, 3) := by decide +kernel
theorem dJ0_charAt_5068e_11 : decode cJ0_charAt_5068e 11 = .ok (.iload_n 1, 1) := by decide +kernel
theorem dJ0_charAt_5068e_12 : decode cJ0_charAt_5068e 12 = .ok (.invokestatic 495, 3) := by decide +kernel
theorem dJ0_charAt_5068e_15 : decode cJ0_charAt_5068e 15 = .ok (.ireturn, 1) := by decide +kernel
theorem dJ0_charAt_5068e_16 : decode cJ0_charAt_5068e 16 = .ok (.aload_n 0, 1) := by decide +kernel
theorem dJ0_charAt_5068e_17 : decode cJ0_charAt_5068e 17 = .ok (.getfield 9, 3) := by decide +kernel
theorem dJ0_charAt_5068e_20 : decode cJ0_charAt_5068e 20 = .ok (.iload_n 1, 1) := by decide +kernel
theorem dJ0_charAt_5068e_21 : decode cJ0_charAt_5068e 21 = .ok (.invokestatic 498, 3) := by decide +kernel
theorem dJ0_charAt_5068e_24 : decode cJ0_charAt_5068e 24 = .ok (.ireturn, 1) := by decide +kernel
theorem tcJ0_charAt_5068e : Cond.code yJ0_charAt_5068e cJ0_charAt_5068e 2 (some .char) ∈ TT ∧ Cond.initialized RJ0 ∈ TT := ⟨TT_3 50 rfl rfl, TT_1 10 rfl rfl⟩
theorem tiJ0_charAt_5068e : Cond.instanceMethod yJ0_charAt_5068e ∈ TT ∧ Cond.selects RJ0 yJ0_charAt_5068e yJ0_charAt_5068e ∈ TT := ⟨TT_3 48 rfl rfl, TT_3 49 rfl rfl⟩
abbrev mJ0_coder_7d493 : MI := (RJ0, yJ0_coder_7d493, cJ0_coder_7d493, 1, (some .byte))
theorem dJ0_coder_7d493_0 : decode cJ0_coder_7d493 0 = .ok (.getstatic 38, 3) := by decide +kernel
theorem dJ0_coder_7d493_3 : decode cJ0_coder_7d493 3 = .ok (.ifCond .eq 10, 3) := by decide +kernel
theorem dJ0_coder_7d493_6 : decode cJ0_coder_7d493 6 = .ok (.aload_n 0, 1) := by decide +kernel
theorem dJ0_coder_7d493_7 : decode cJ0_coder_7d493 7 = .ok (.getfield 15, 3) := by decide +kernel
theorem dJ0_coder_7d493_10 : decode cJ0_coder_7d493 10 = .ok (.goto 4, 3) := by decide +kernel
theorem dJ0_coder_7d493_13 : decode cJ0_coder_7d493 13 = .ok (.iconst 1, 1) := by decide +kernel
theorem dJ0_coder_7d493_14 : decode cJ0_coder_7d493 14 = .ok (.ireturn, 1) := by decide +kernel
theorem tcJ0_coder_7d493 : Cond.code yJ0_coder_7d493 cJ0_coder_7d493 1 (some .byte) ∈ TT ∧ Cond.initialized RJ0 ∈ TT := ⟨TT_3 44 rfl rfl, TT_1 10 rfl rfl⟩
theorem tiJ0_coder_7d493 : Cond.instanceMethod yJ0_coder_7d493 ∈ TT ∧ Cond.selects RJ0 yJ0_coder_7d493 yJ0_coder_7d493 ∈ TT := ⟨TT_3 42 rfl rfl, TT_3 43 rfl rfl⟩
abbrev mJ0_isLatin1_aae02 : MI := (RJ0, yJ0_isLatin1_aae02, cJ0_isLatin1_aae02, 1, (some .boolean))
theorem dJ0_isLatin1_aae02_0 : decode cJ0_isLatin1_aae02 0 = .ok (.getstatic 38, 3) := by decide +kernel
theorem dJ0_isLatin1_aae02_3 : decode cJ0_isLatin1_aae02 3 = .ok (.ifCond .eq 14, 3) := by decide +kernel
theorem dJ0_isLatin1_aae02_6 : decode cJ0_isLatin1_aae02 6 = .ok (.aload_n 0, 1) := by decide +kernel
theorem dJ0_isLatin1_aae02_7 : decode cJ0_isLatin1_aae02 7 = .ok (.getfield 15, 3) := by decide +kernel
theorem dJ0_isLatin1_aae02_10 : decode cJ0_isLatin1_aae02 10 = .ok (.ifCond .ne 7, 3) := by decide +kernel
theorem dJ0_isLatin1_aae02_13 : decode cJ0_isLatin1_aae02 13 = .ok (.iconst 1, 1) := by decide +kernel
theorem dJ0_isLatin1_aae02_14 : decode cJ0_isLatin1_aae02 14 = .ok (.goto 4, 3) := by decide +kernel
theorem dJ0_isLatin1_aae02_17 : decode cJ0_isLatin1_aae02 17 = .ok (.iconst 0, 1) := by decide +kernel
theorem dJ0_isLatin1_aae02_18 : decode cJ0_isLatin1_aae02 18 = .ok (.ireturn, 1) := by decide +kernel
theorem tcJ0_isLatin1_aae02 : Cond.code yJ0_isLatin1_aae02 cJ0_isLatin1_aae02 1 (some .boolean) ∈ TT ∧ Cond.initialized RJ0 ∈ TT := ⟨TT_3 54 rfl rfl, TT_1 10 rfl rfl⟩
theorem tiJ0_isLatin1_aae02 : Cond.instanceMethod yJ0_isLatin1_aae02 ∈ TT ∧ Cond.selects RJ0 yJ0_isLatin1_aae02 yJ0_isLatin1_aae02 ∈ TT := ⟨TT_3 52 rfl rfl, TT_3 53 rfl rfl⟩
abbrev mJ0_checkIndex_df160 : MI := (RJ0, yJ0_checkIndex_df160, cJ0_checkIndex_df160, 2, none)
theorem dJ0_checkIndex_df160_0 : decode cJ0_checkIndex_df160 0 = .ok (.iload_n 0, 1) := by decide +kernel
theorem dJ0_checkIndex_df160_1 : decode cJ0_checkIndex_df160 1 = .ok (.iload_n 1, 1) := by decide +kernel
theorem dJ0_checkIndex_df160_2 : decode cJ0_checkIndex_df160 2 = .ok (.getstatic 1053, 3) := by decide +kernel
theorem dJ0_checkIndex_df160_5 : decode cJ0_checkIndex_df160 5 = .ok (.invokestatic 1059, 3) := by decide +kernel
theorem dJ0_checkIndex_df160_8 : decode cJ0_checkIndex_df160 8 = .ok (.pop, 1) := by decide +kernel
theorem dJ0_checkIndex_df160_9 : decode cJ0_checkIndex_df160 9 = .ok (.return_, 1) := by decide +kernel
theorem tcJ0_checkIndex_df160 : Cond.code yJ0_checkIndex_df160 cJ0_checkIndex_df160 2 none ∈ TT ∧ Cond.initialized RJ0 ∈ TT := ⟨TT_3 60 rfl rfl, TT_1 10 rfl rfl⟩
theorem tiJ0_checkIndex_df160 : Cond.static yJ0_checkIndex_df160 ∈ TT := TT_3 59 rfl rfl
abbrev mJ1_charAt_3b067 : MI := (RJ1, yJ1_charAt_3b067, cJ1_charAt_3b067, 2, (some .char))
theorem dJ1_charAt_3b067_0 : decode cJ1_charAt_3b067 0 = .ok (.iload_n 1, 1) := by decide +kernel
theorem dJ1_charAt_3b067_1 : decode cJ1_charAt_3b067 1 = .ok (.aload_n 0, 1) := by decide +kernel
theorem dJ1_charAt_3b067_2 : decode cJ1_charAt_3b067 2 = .ok (.arraylength, 1) := by decide +kernel
theorem dJ1_charAt_3b067_3 : decode cJ1_charAt_3b067 3 = .ok (.invokestatic 9, 3) := by decide +kernel
theorem dJ1_charAt_3b067_6 : decode cJ1_charAt_3b067 6 = .ok (.aload_n 0, 1) := by decide +kernel
theorem dJ1_charAt_3b067_7 : decode cJ1_charAt_3b067 7 = .ok (.iload_n 1, 1) := by decide +kernel
theorem dJ1_charAt_3b067_8 : decode cJ1_charAt_3b067 8 = .ok (.baload, 1) := by decide +kernel
theorem dJ1_charAt_3b067_9 : decode cJ1_charAt_3b067 9 = .ok (.sipush 255, 3) := by decide +kernel
theorem dJ1_charAt_3b067_12 : decode cJ1_charAt_3b067 12 = .ok (.iand, 1) := by decide +kernel
theorem dJ1_charAt_3b067_13 : decode cJ1_charAt_3b067 13 = .ok (.i2c, 1) := by decide +kernel
theorem dJ1_charAt_3b067_14 : decode cJ1_charAt_3b067 14 = .ok (.ireturn, 1) := by decide +kernel
theorem tcJ1_charAt_3b067 : Cond.code yJ1_charAt_3b067 cJ1_charAt_3b067 2 (some .char) ∈ TT ∧ Cond.initialized RJ1 ∈ TT := ⟨TT_3 57 rfl rfl, TT_1 11 rfl rfl⟩
theorem tiJ1_charAt_3b067 : Cond.static yJ1_charAt_3b067 ∈ TT := TT_3 56 rfl rfl
abbrev mJ3_checkIndex_8e157 : MI := (RJ3, yJ3_checkIndex_8e157, cJ3_checkIndex_8e157, 3, (some .int))
theorem dJ3_checkIndex_8e157_0 : decode cJ3_checkIndex_8e157 0 = .ok (.iload_n 0, 1) := by decide +kernel
theorem dJ3_checkIndex_8e157_1 : decode cJ3_checkIndex_8e157 1 = .ok (.ifCond .lt 8, 3) := by decide +kernel
theorem dJ3_checkIndex_8e157_4 : decode cJ3_checkIndex_8e157 4 = .ok (.iload_n 0, 1) := by decide +kernel
theorem dJ3_checkIndex_8e157_5 : decode cJ3_checkIndex_8e157 5 = .ok (.iload_n 1, 1) := by decide +kernel
theorem dJ3_checkIndex_8e157_6 : decode cJ3_checkIndex_8e157 6 = .ok (.if_icmp .lt 10, 3) := by decide +kernel
theorem dJ3_checkIndex_8e157_9 : decode cJ3_checkIndex_8e157 9 = .ok (.aload_n 2, 1) := by decide +kernel
theorem dJ3_checkIndex_8e157_10 : decode cJ3_checkIndex_8e157 10 = .ok (.iload_n 0, 1) := by decide +kernel
theorem dJ3_checkIndex_8e157_11 : decode cJ3_checkIndex_8e157 11 = .ok (.iload_n 1, 1) := by decide +kernel
theorem dJ3_checkIndex_8e157_12 : decode cJ3_checkIndex_8e157 12 = .ok (.invokestatic 95, 3) := by decide +kernel
theorem dJ3_checkIndex_8e157_15 : decode cJ3_checkIndex_8e157 15 = .ok (.athrow, 1) := by decide +kernel
theorem dJ3_checkIndex_8e157_16 : decode cJ3_checkIndex_8e157 16 = .ok (.iload_n 0, 1) := by decide +kernel
theorem dJ3_checkIndex_8e157_17 : decode cJ3_checkIndex_8e157 17 = .ok (.ireturn, 1) := by decide +kernel
theorem tcJ3_checkIndex_8e157 : Cond.code yJ3_checkIndex_8e157 cJ3_checkIndex_8e157 3 (some .int) ∈ TT ∧ Cond.initialized RJ3 ∈ TT := ⟨TT_3 65 rfl rfl, TT_1 12 rfl rfl⟩
theorem tiJ3_checkIndex_8e157 : Cond.static yJ3_checkIndex_8e157 ∈ TT := TT_3 64 rfl rfl
theorem tlRJ0_335 : Cond.methodLink RJ0 335 yJ0_coder_7d493 ∈ TT := TT_3 41 rfl rfl
theorem tlRJ0_492 : Cond.methodLink RJ0 492 yJ0_isLatin1_aae02 ∈ TT := TT_3 51 rfl rfl
theorem tlRJ0_495 : Cond.methodLink RJ0 495 yJ1_charAt_3b067 ∈ TT := TT_3 55 rfl rfl
theorem tlRJ1_9 : Cond.methodLink RJ1 9 yJ0_checkIndex_df160 ∈ TT := TT_3 58 rfl rfl
theorem tlRJ0_1059 : Cond.methodLink RJ0 1059 yJ3_checkIndex_8e157 ∈ TT := TT_3 63 rfl rfl
theorem tlRX1_124 : Cond.methodLink RX1 124 yJ0_length_8abf5 ∈ TT := TT_3 37 rfl rfl
theorem tlRX1_134 : Cond.methodLink RX1 134 yJ0_charAt_5068e ∈ TT := TT_3 47 rfl rfl
theorem tlRX6_187 : Cond.methodLink RX6 187 yJ0_length_8abf5 ∈ TT := TT_6 2 rfl rfl
theorem tlRX6_193 : Cond.methodLink RX6 193 yJ0_charAt_5068e ∈ TT := TT_6 3 rfl rfl
theorem tf_9 : Cond.fieldLink RJ0 9 "java/lang/String" "value" "[B" ∈ TT := TT_6 232 rfl rfl
theorem tf_15 : Cond.fieldLink RJ0 15 "java/lang/String" "coder" "B" ∈ TT := TT_6 233 rfl rfl
theorem tf_38 : Cond.fieldLink RJ0 38 "java/lang/String" "COMPACT_STRINGS" "Z" ∈ TT := TT_3 45 rfl rfl
theorem tf_1053 : Cond.fieldLink RJ0 1053 "jdk/internal/util/Preconditions" "SIOOBE_FORMATTER" "Ljava/util/function/BiFunction;" ∈ TT := TT_3 61 rfl rfl
section EST
variable {G : GG} {d : Nat} {M : MI} {mc ms : Nat} {Q : Option Value → PH → Prop} {kc ks pc : Nat} {lv : List (Nat × Value)} {rest : List Value} {h : PH}
theorem ev_i2c {x v : Int32} (hdg : decode (mbM M) pc = .ok (.i2c, 1)) (hv : (x.toUInt32 % 65536).toInt32 = v) (kk : Ev G d M mc ms Q kc ks (pc + 1) lv (.int v :: rest) h) : Ev G d M mc ms Q kc ks pc lv (.int x :: rest) h := fun p l e s m args below meth c H locs ls X R L hl => lv_i2c X.1 X.2.1 hdg hv (kk p l e s m args below meth c H locs ls X R L hl)
theorem ev_getsC {idx : Nat} (hlk : Cond.fieldLink (moM M) idx "java/lang/String" "COMPACT_STRINGS" "Z" ∈ TT) (hdg : decode (mbM M) pc = .ok (.getstatic idx, 3)) (kk : Ev G d M mc ms Q kc ks (pc + 3) lv (.int 1 :: rest) h) : Ev G d M mc ms Q kc ks pc lv rest h := by
  intro p l e s m args below meth c H locs ls X R L hl
  have hts : ∀ w ∈ TT, w.before args s = true := fun w hw => X.2.2.2.2.1 w (List.mem_cons_of_mem _ hw)
  obtain ⟨cf, kf, fi, f, a, cell, h1, h2, h3, h4, h5, h6, h7, h8⟩ := X.2.2.2.2.2.2.2.1.2.2.1.2.2.2.1
  exact W.gets X.1 X.2.1 X.2.2.2.1 (hts _ hlk) h1 h2 h3 h4 (by rw [R.2.2.1 a (Array.getElem?_eq_some_iff.mp h5).1]; exact h5) (fun e => by rw [e] at h6; cases h6) h7 rfl hdg (kk p l e s m args below meth c H locs ls X R L hl)
theorem ev_getsF {idx : Nat} (hlk : Cond.fieldLink (moM M) idx "jdk/internal/util/Preconditions" "SIOOBE_FORMATTER" "Ljava/util/function/BiFunction;" ∈ TT) (hdg : decode (mbM M) pc = .ok (.getstatic idx, 3)) (kk : ∀ v : Value, v.category = 1 → Ev G d M mc ms Q kc ks (pc + 3) lv (v :: rest) h) : Ev G d M mc ms Q kc ks pc lv rest h := by
  intro p l e s m args below meth c H locs ls X R L hl
  have hts : ∀ w ∈ TT, w.before args s = true := fun w hw => X.2.2.2.2.1 w (List.mem_cons_of_mem _ hw)
  rcases X.2.2.2.2.2.2.2.1.2.2.1.2.2.2.2 with ⟨cf, kf, fi, f, a, cell, h1, h2, h3, h4, h5, h6, h7, h8⟩ | ⟨t, cf, kf, fi, f, a, cell, h1, h2, h3, h4, h5, h6, h7, h8⟩
  · exact W.gets X.1 X.2.1 X.2.2.2.1 (hts _ hlk) h1 h2 h3 h4 (by rw [R.2.2.1 a (Array.getElem?_eq_some_iff.mp h5).1]; exact h5) (fun e => by rw [e] at h6; cases h6) h7 rfl hdg (kk _ rfl p l e s m args below meth c H locs ls X R L hl)
  · exact W.gets X.1 X.2.1 X.2.2.2.1 (hts _ hlk) h1 h2 h3 h4 (by rw [R.2.2.1 a (Array.getElem?_eq_some_iff.mp h5).1]; exact h5) (fun e => by rw [e] at h6; cases h6) h7 rfl hdg (kk _ rfl p l e s m args below meth c H locs ls X R L hl)
theorem ev_getOld {o n dd : String} {idx q : Nat} {v : Value} (hF : ∀ s : State, KK G s → va_OF o n dd v q (fun q => G.2.2.1.size ≤ q) s G.2.2.1) (hlk : Cond.fieldLink (moM M) idx o n dd ∈ TT) (hdg : decode (mbM M) pc = .ok (.getfield idx, 3)) (kk : Ev G d M mc ms Q kc ks (pc + 3) lv (v :: rest) h) : Ev G d M mc ms Q kc ks pc lv (.ref q :: rest) h := by
  intro p l e s m args below meth c H locs ls X R L hl
  have hts : ∀ w ∈ TT, w.before args s = true := fun w hw => X.2.2.2.2.1 w (List.mem_cons_of_mem _ hw)
  obtain ⟨cf, k, fi, f, cell, h1, h2, h3, h4, h5, h6⟩ := hF s X.2.2.2.2.2.2.2.1
  exact W.getf X.1 X.2.1 X.2.2.2.1 (hts _ hlk) h1 h2 (by rw [R.2.2.1 _ (Array.getElem?_eq_some_iff.mp h3).1]; exact h3) h4 (v := v) h5 rfl rfl hdg (kk p l e s m args below meth c H locs ls X R L hl)
theorem ev_baloadO {t N : Nat} {g : Nat → Value} {i : Int32} {v : Value} (hT : ∀ s : State, KK G s → va_T .byte t N g (fun q => G.2.2.1.size ≤ q) s G.2.2.1) (hin : vp_in i N) (hv : g i.toNatClampNeg = v) (hdg : decode (mbM M) pc = .ok (.baload, 1)) (kk : Ev G d M mc ms Q kc ks (pc + 1) lv (v :: rest) h) : Ev G d M mc ms Q kc ks pc lv (.int i :: .ref t :: rest) h := by
  intro p l e s m args below meth c H locs ls X R L hl
  obtain ⟨cell, h1, h2, h3, h4, h5, h6, h7⟩ := hT s X.2.2.2.2.2.2.2.1
  have hlt : i.toNatClampNeg < N := Nat.not_le.mp fun q => hin (Or.inr q)
  have hin' : ¬ (i < 0 ∨ cell.slots.size ≤ i.toNatClampNeg) := by
    intro q
    rcases q with q | q
    · exact hin (Or.inl q)
    · omega
  exact W.bald (v := v) X.1 X.2.1 (by rw [R.2.2.1 _ (Array.getElem?_eq_some_iff.mp h1).1]; exact h1) h2 h3 hin' (by rw [h6 _ hlt, hv]) rfl rfl hdg (kk p l e s m args below meth c H locs ls X R L hl)
theorem ev_alenO {t N : Nat} {g : Nat → Value} {v : Int32} (hT : ∀ s : State, KK G s → va_T .byte t N g (fun q => G.2.2.1.size ≤ q) s G.2.2.1) (hv : Int32.ofNat N = v) (hdg : decode (mbM M) pc = .ok (.arraylength, 1)) (kk : Ev G d M mc ms Q kc ks (pc + 1) lv (.int v :: rest) h) : Ev G d M mc ms Q kc ks pc lv (.ref t :: rest) h := by
  intro p l e s m args below meth c H locs ls X R L hl
  subst hv
  obtain ⟨cell, h1, h2, h3, h4, h5, h6, h7⟩ := hT s X.2.2.2.2.2.2.2.1
  exact W.alen (n := Int32.ofNat N) X.1 X.2.1 (by rw [R.2.2.1 _ (Array.getElem?_eq_some_iff.mp h1).1]; exact h1) h2 h5 rfl rfl hdg (kk p l e s m args below meth c H locs ls X R L hl)
/-- a call on a String constant -/
theorem ev_invVS {N : MI} {idx d' n w : Nat} {As st : List Value} {Q' : Option Value → PH → Prop} (hw : w < 7) (hM : MtG G d' N 0 0 (.ref (G.2.2.2.1 w) :: As) h Q') (hC : CalF N) (hi : Cond.instanceMethod (myM N) ∈ TT ∧ Cond.selects RJ0 (myM N) (myM N) ∈ TT) (hp : (parseMethodDescriptor (myM N).desc).map (fun z => z.parameters.length) = some n) (hlk : Cond.methodLink (moM M) idx (myM N) ∈ TT) (hd : d' + 1 ≤ d) (hst : st = As.reverse ++ .ref (G.2.2.2.1 w) :: rest) (hn : As.length = n) (hW : (rest.map fun v => v.category).sum ≤ 8) (h1 : kc ≤ mc) (h2 : ks ≤ ms) (hdg : decode (mbM M) pc = .ok (.invokevirtual idx, 3))
    (kk : ∀ (v : Option Value) (h' : PH), Q' v h' → Ev G d M mc ms Q kc ks (pc + 3) lv (v.toList ++ rest) h') : Ev G d M mc ms Q kc ks pc lv st h := by
  intro p l e s m args below meth c H locs ls X R L hl
  obtain ⟨c1, c2, c3, c4⟩ := hC
  have hts : ∀ w ∈ TT, w.before args s = true := fun w hw => X.2.2.2.2.1 w (List.mem_cons_of_mem _ hw)
  obtain ⟨cell, q1, q2, q3, -⟩ := (X.2.2.2.2.2.2.2.1.2.2.1.2.1.1 w hw).1
  refine ev_run (N := N) (idx := idx) (d' := d') (mc' := 0) (ms' := 0) (G := G) (Q' := Q') (va_runV (C := RJ0) (own := moM M) (index := idx) (y := myM N) (bytes := mbM N) (maxL := mlM N) (ret := mrM N) (ws := wsM N) (rm := rmD d' 0 0) (n := n) ⟨X.1, X.2.1, X.2.2.1, X.2.2.2.1, X.2.2.2.2.1⟩ (hM l) ⟨?_, hts _ hi.1, hts _ hi.2⟩ ⟨blindG, ⟨cell, by rw [R.2.2.1 _ (Array.getElem?_eq_some_iff.mp q1).1]; exact q1, q2, q3⟩, preG X.2.2.2.2.2.2.2.1 R _⟩ rfl hn hl.1 hst (lv_room hW) hdg ⟨h1, h2⟩) L (fun v h' H1 locs1 hq hR L1 => kk v h' hq p l e s m args below meth c H1 locs1 ls X hR L1 hl)
  refine callB_of (ws' := TT) n X.2.2.2.2.1 (wsM_good c1) rfl rfl rfl (hts _ c2) (hts _ hlk) ⟨c3.1, c3.2, hp⟩ ⟨hd, ?_⟩
  show 8 + (mlM N + 11) + 64 * d' ≤ 64 * d
  omega
theorem ev_nret {x : Int32} {ty : FieldType} (hr : mrM M = some ty) (hn : narrow ty (.int x) = .int x) (hq : Q (some (.int x)) h) (h1 : kc ≤ mc) (h2 : ks ≤ ms) (hdg : decode (mbM M) pc = .ok (.ireturn, 1)) : Ev G d M mc ms Q kc ks pc lv [.int x] h := by
  intro p l e s m args below meth c H locs ls X R L hl
  refine W.widen h1 h2 ?_
  exact W.zret X.1 X.2.1 (X.2.2.2.2.2.1.trans hr) hn (fun t ht _ => ⟨_, h, rfl, hq, by rw [ht]; exact R⟩) L hdg X.2.2.2.2.2.2.1
end EST
theorem kkS {G : GG} {w : Nat} (hw : w < 7) : (∀ s : State, KK G s → va_OF "java/lang/String" "coder" "B" (.int 0) (G.2.2.2.1 w) (fun q => G.2.2.1.size ≤ q) s G.2.2.1) ∧ (∀ s : State, KK G s → va_OF "java/lang/String" "value" "[B" (.ref (G.2.2.2.2 w)) (G.2.2.2.1 w) (fun q => G.2.2.1.size ≤ q) s G.2.2.1) ∧ (∀ s : State, KK G s → va_T .byte (G.2.2.2.2 w) (strLen.getD w 0) (fun j => .int ((strByt.getD w []).getD j 0)) (fun q => G.2.2.1.size ≤ q) s G.2.2.1) :=
  ⟨fun s h => (h.2.2.1.2.1.1 w hw).2.1, fun s h => (h.2.2.1.2.1.1 w hw).2.2.1, fun s h => (h.2.2.1.2.1.1 w hw).2.2.2⟩
theorem calF_J : CalF mJ0_length_8abf5 ∧ CalF mJ0_charAt_5068e ∧ CalF mJ0_coder_7d493 ∧ CalF mJ0_isLatin1_aae02 ∧ CalF mJ0_checkIndex_df160 ∧ CalF mJ1_charAt_3b067 ∧ CalF mJ3_checkIndex_8e157 :=
  ⟨⟨tcJ0_length_8abf5.1, tcJ0_length_8abf5.2, ⟨by decide +kernel, by decide +kernel⟩, by decide⟩, ⟨tcJ0_charAt_5068e.1, tcJ0_charAt_5068e.2, ⟨by decide +kernel, by decide +kernel⟩, by decide⟩, ⟨tcJ0_coder_7d493.1, tcJ0_coder_7d493.2, ⟨by decide +kernel, by decide +kernel⟩, by decide⟩, ⟨tcJ0_isLatin1_aae02.1, tcJ0_isLatin1_aae02.2, ⟨by decide +kernel, by decide +kernel⟩, by decide⟩, ⟨tcJ0_checkIndex_df160.1, tcJ0_checkIndex_df160.2, ⟨by decide +kernel, by decide +kernel⟩, by decide⟩, ⟨tcJ1_charAt_3b067.1, tcJ1_charAt_3b067.2, ⟨by decide +kernel, by decide +kernel⟩, by decide⟩, ⟨tcJ3_checkIndex_8e157.1, tcJ3_checkIndex_8e157.2, ⟨by decide +kernel, by decide +kernel⟩, by decide⟩⟩
def slen (w : Nat) : Int32 := Int32.ofNat (strLen.getD w 0)
def sch (w k : Nat) : Int32 := (strByt.getD w []).getD k 0 &&& 255
set_option maxRecDepth 100000 in
set_option maxHeartbeats 4000000 in
theorem ok_coder {G : GG} {w : Nat} (hw : w < 7) (h : PH) : MtG G 0 mJ0_coder_7d493 0 0 [.ref (G.2.2.2.1 w)] h (fun v h' => v = some (.int 0) ∧ h' = h) := by
  refine MtG.of (by decide +kernel) rfl (Nat.le_of_ble_eq_true rfl) ?_
  refine ev_sub (lv' := [(0, .ref (G.2.2.2.1 w))]) [0] rfl ?_
  refine ev_getsC tf_38 dJ0_coder_7d493_0 ?_
  refine ev_if_eq (tgt := 13) dJ0_coder_7d493_3 (by decide) (fun z => absurd z (by decide)) (fun _ => ?_)
  refine ev_aload_n 0 dJ0_coder_7d493_6 rfl rfl ?_
  refine ev_getOld (kkS hw).1 tf_15 dJ0_coder_7d493_7 ?_
  refine ev_goto (tgt := 14) dJ0_coder_7d493_10 (by decide) ?_
  exact ev_nret (ty := .byte) rfl rfl ⟨rfl, rfl⟩ (Nat.le_refl 0) (Nat.le_refl 0) dJ0_coder_7d493_14
set_option maxRecDepth 100000 in
set_option maxHeartbeats 4000000 in
theorem ok_isLatin1 {G : GG} {w : Nat} (hw : w < 7) (h : PH) : MtG G 0 mJ0_isLatin1_aae02 0 0 [.ref (G.2.2.2.1 w)] h (fun v h' => v = some (.int 1) ∧ h' = h) := by
  refine MtG.of (by decide +kernel) rfl (Nat.le_of_ble_eq_true rfl) ?_
  refine ev_sub (lv' := [(0, .ref (G.2.2.2.1 w))]) [0] rfl ?_
  refine ev_getsC tf_38 dJ0_isLatin1_aae02_0 ?_
  refine ev_if_eq (tgt := 17) dJ0_isLatin1_aae02_3 (by decide) (fun z => absurd z (by decide)) (fun _ => ?_)
  refine ev_aload_n 0 dJ0_isLatin1_aae02_6 rfl rfl ?_
  refine ev_getOld (kkS hw).1 tf_15 dJ0_isLatin1_aae02_7 ?_
  refine ev_if_ne (tgt := 17) dJ0_isLatin1_aae02_10 (by decide) (fun z => absurd rfl z) (fun _ => ?_)
  refine ev_iconst (v := 1) dJ0_isLatin1_aae02_13 (by decide) ?_
  refine ev_goto (tgt := 18) dJ0_isLatin1_aae02_14 (by decide) ?_
  exact ev_nret (ty := .boolean) rfl (by decide) ⟨rfl, rfl⟩ (Nat.le_refl 0) (Nat.le_refl 0) dJ0_isLatin1_aae02_18
set_option maxRecDepth 100000 in
set_option maxHeartbeats 4000000 in
theorem ok_pcheck {G : GG} {i n : Int32} {v : Value} (h0 : ¬ i < 0) (h1 : i < n) (hv : v.category = 1) (h : PH) : MtG G 0 mJ3_checkIndex_8e157 0 0 [.int i, .int n, v] h (fun r h' => r = some (.int i) ∧ h' = h) := by
  refine MtG.of (by decide +kernel) rfl ?_ ?_
  · cases v <;> first | exact Nat.le_of_ble_eq_true rfl | simp [Value.category] at hv
  refine ev_sub (lv' := [(0, .int i), (1, .int n)]) [0, 1] rfl ?_
  refine ev_iload_n 0 dJ3_checkIndex_8e157_0 rfl rfl ?_
  refine ev_if_lt (tgt := 9) dJ3_checkIndex_8e157_1 (by decide) (fun z => absurd z h0) (fun _ => ?_)
  refine ev_iload_n 0 dJ3_checkIndex_8e157_4 rfl rfl ?_
  refine ev_iload_n 1 dJ3_checkIndex_8e157_5 rfl rfl ?_
  refine ev_icmp_lt (tgt := 16) dJ3_checkIndex_8e157_6 (by decide) (fun _ => ?_) (fun z => absurd h1 z)
  refine ev_iload_n 0 dJ3_checkIndex_8e157_16 rfl rfl ?_
  exact ev_iret rfl ⟨rfl, rfl⟩ (Nat.le_refl 0) (Nat.le_refl 0) dJ3_checkIndex_8e157_17
set_option maxRecDepth 100000 in
set_option maxHeartbeats 4000000 in
theorem ok_scheck {G : GG} {i n : Int32} (h0 : ¬ i < 0) (h1 : i < n) (h : PH) : MtG G 1 mJ0_checkIndex_df160 0 0 [.int i, .int n] h (fun r h' => r = none ∧ h' = h) := by
  refine MtG.of (by decide +kernel) rfl (Nat.le_of_ble_eq_true rfl) ?_
  refine ev_sub (lv' := [(0, .int i), (1, .int n)]) [0, 1] rfl ?_
  refine ev_iload_n 0 dJ0_checkIndex_df160_0 rfl rfl ?_
  refine ev_iload_n 1 dJ0_checkIndex_df160_1 rfl rfl ?_
  refine ev_getsF tf_1053 dJ0_checkIndex_df160_2 (fun v hv => ?_)
  refine ev_invS (N := mJ3_checkIndex_8e157) (d' := 0) (mc' := 0) (ms' := 0) (n := 3) (As := [.int i, .int n, v]) (rest := []) (ok_pcheck h0 h1 hv h) ⟨calF_J.2.2.2.2.2.2, tiJ3_checkIndex_8e157, by decide +kernel⟩ tlRJ0_1059 (by decide) rfl rfl (by decide) (Nat.le_refl 0) (Nat.le_refl 0) dJ0_checkIndex_df160_5 (fun r h' q => ?_)
  obtain ⟨rfl, rfl⟩ := q
  refine ev_pop dJ0_checkIndex_df160_8 rfl ?_
  exact ev_vret rfl ⟨rfl, rfl⟩ (Nat.le_refl 0) (Nat.le_refl 0) dJ0_checkIndex_df160_9
theorem strLen_lt : ∀ w : Nat, w < 7 → strLen.getD w 0 < 100 := by decide
theorem str_lt {w : Nat} (hw : w < 7) {k : Int32} (hk : ixB k (strLen.getD w 0)) : ¬ k < 0 ∧ k < Int32.ofNat (strLen.getD w 0) := by
  have h1 := strLen_lt w hw
  refine ⟨fun z => hk (Or.inl z), ?_⟩
  have h2 := ixB_lt hk
  obtain ⟨j, hj, rfl⟩ := vp_in_of hk (by omega)
  exact nI_lt hj (by omega)
set_option maxRecDepth 100000 in
set_option maxHeartbeats 4000000 in
theorem ok_lcharAt {G : GG} {w : Nat} (hw : w < 7) {k : Int32} (hk : ixB k (strLen.getD w 0)) (h : PH) : MtG G 2 mJ1_charAt_3b067 0 0 [.ref (G.2.2.2.2 w), .int k] h (fun r h' => r = some (.int (sch w k.toNatClampNeg)) ∧ h' = h) := by
  refine MtG.of (by decide +kernel) rfl (Nat.le_of_ble_eq_true rfl) ?_
  refine ev_sub (lv' := [(0, .ref (G.2.2.2.2 w)), (1, .int k)]) [0, 1] rfl ?_
  refine ev_iload_n 1 dJ1_charAt_3b067_0 rfl rfl ?_
  refine ev_aload_n 0 dJ1_charAt_3b067_1 rfl rfl ?_
  refine ev_alenO (v := Int32.ofNat (strLen.getD w 0)) (kkS hw).2.2 rfl dJ1_charAt_3b067_2 ?_
  refine ev_invS (N := mJ0_checkIndex_df160) (d' := 1) (mc' := 0) (ms' := 0) (n := 2) (As := [.int k, .int (Int32.ofNat (strLen.getD w 0))]) (rest := []) (ok_scheck (str_lt hw hk).1 (str_lt hw hk).2 h) ⟨calF_J.2.2.2.2.1, tiJ0_checkIndex_df160, by decide +kernel⟩ tlRJ1_9 (by decide) rfl rfl (by decide) (Nat.le_refl 0) (Nat.le_refl 0) dJ1_charAt_3b067_3 (fun r h' q => ?_)
  obtain ⟨rfl, rfl⟩ := q
  refine ev_aload_n 0 dJ1_charAt_3b067_6 rfl rfl ?_
  refine ev_iload_n 1 dJ1_charAt_3b067_7 rfl rfl ?_
  refine ev_baloadO (v := .int ((strByt.getD w []).getD k.toNatClampNeg 0)) (kkS hw).2.2 hk rfl dJ1_charAt_3b067_8 ?_
  refine ev_sipush (v := 255) dJ1_charAt_3b067_9 (by decide) ?_
  refine ev_iand dJ1_charAt_3b067_12 ?_
  refine ev_i2c (v := sch w k.toNatClampNeg) dJ1_charAt_3b067_13 (sc_c2 _) ?_
  exact ev_nret (ty := .char) rfl (sc_nar _) ⟨rfl, rfl⟩ (Nat.le_refl 0) (Nat.le_refl 0) dJ1_charAt_3b067_14
set_option maxRecDepth 100000 in
set_option maxHeartbeats 4000000 in
theorem ok_charAt {G : GG} {w : Nat} (hw : w < 7) {k : Int32} (hk : ixB k (strLen.getD w 0)) (h : PH) : MtG G 3 mJ0_charAt_5068e 0 0 [.ref (G.2.2.2.1 w), .int k] h (fun r h' => r = some (.int (sch w k.toNatClampNeg)) ∧ h' = h) := by
  refine MtG.of (by decide +kernel) rfl (Nat.le_of_ble_eq_true rfl) ?_
  refine ev_sub (lv' := [(0, .ref (G.2.2.2.1 w)), (1, .int k)]) [0, 1] rfl ?_
  refine ev_aload_n 0 dJ0_charAt_5068e_0 rfl rfl ?_
  refine ev_invVS (N := mJ0_isLatin1_aae02) (d' := 0) (n := 0) (As := []) (rest := []) hw (ok_isLatin1 hw h) calF_J.2.2.2.1 tiJ0_isLatin1_aae02 (by decide +kernel) tlRJ0_492 (by decide) rfl rfl (by decide) (Nat.le_refl 0) (Nat.le_refl 0) dJ0_charAt_5068e_1 (fun r h' q => ?_)
  obtain ⟨rfl, rfl⟩ := q
  refine ev_if_eq (tgt := 16) dJ0_charAt_5068e_4 (by decide) (fun z => absurd z (by decide)) (fun _ => ?_)
  refine ev_aload_n 0 dJ0_charAt_5068e_7 rfl rfl ?_
  refine ev_getOld (kkS hw).2.1 tf_9 dJ0_charAt_5068e_8 ?_
  refine ev_iload_n 1 dJ0_charAt_5068e_11 rfl rfl ?_
  refine ev_invS (N := mJ1_charAt_3b067) (d' := 2) (mc' := 0) (ms' := 0) (n := 2) (As := [.ref (G.2.2.2.2 w), .int k]) (rest := []) (ok_lcharAt hw hk _) ⟨calF_J.2.2.2.2.2.1, tiJ1_charAt_3b067, by decide +kernel⟩ tlRJ0_495 (by decide) rfl rfl (by decide) (Nat.le_refl 0) (Nat.le_refl 0) dJ0_charAt_5068e_12 (fun r h' q => ?_)
  obtain ⟨rfl, rfl⟩ := q
  exact ev_nret (ty := .char) rfl (sc_nar _) ⟨rfl, rfl⟩ (Nat.le_refl 0) (Nat.le_refl 0) dJ0_charAt_5068e_15
set_option maxRecDepth 100000 in
set_option maxHeartbeats 4000000 in
theorem ok_length {G : GG} {w : Nat} (hw : w < 7) (h : PH) : MtG G 1 mJ0_length_8abf5 0 0 [.ref (G.2.2.2.1 w)] h (fun r h' => r = some (.int (slen w)) ∧ h' = h) := by
  refine MtG.of (by decide +kernel) rfl (Nat.le_of_ble_eq_true rfl) ?_
  refine ev_sub (lv' := [(0, .ref (G.2.2.2.1 w))]) [0] rfl ?_
  refine ev_aload_n 0 dJ0_length_8abf5_0 rfl rfl ?_
  refine ev_getOld (kkS hw).2.1 tf_9 dJ0_length_8abf5_1 ?_
  refine ev_alenO (v := slen w) (kkS hw).2.2 rfl dJ0_length_8abf5_4 ?_
  refine ev_aload_n 0 dJ0_length_8abf5_5 rfl rfl ?_
  refine ev_invVS (N := mJ0_coder_7d493) (d' := 0) (n := 0) (As := []) (rest := [.int (slen w)]) hw (ok_coder hw h) calF_J.2.2.1 tiJ0_coder_7d493 (by decide +kernel) tlRJ0_335 (by decide) rfl rfl (Nat.le_of_ble_eq_true rfl) (Nat.le_refl 0) (Nat.le_refl 0) dJ0_length_8abf5_6 (fun r h' q => ?_)
  obtain ⟨rfl, rfl⟩ := q
  refine ev_ishr dJ0_length_8abf5_9 ?_
  refine ev_iret rfl ⟨?_, rfl⟩ (Nat.le_refl 0) (Nat.le_refl 0) dJ0_length_8abf5_10
  rw [sb_shr0]
section EFS
variable {G : GG} {d : Nat} {M : MI} {ly : LY} {pl : Nat → Nat} {h0 : PH} {ρ : Type} {rv : ρ → Option Value} {f : Option (ρ × SS)} {pc : Nat} {lv : List (Nat × Value)} {rest : List Value} {s : SS}
theorem ef_strlen {q idx w : Nat} (hw : w < 7) (hlk : Cond.methodLink (moM M) idx yJ0_length_8abf5 ∈ TT) (hd : 2 ≤ d) (hW : (rest.map fun v => v.category).sum ≤ 8) (hdg : decode (mbM M) pc = .ok (.invokevirtual idx, 3)) (hq : pc + 3 = q) (kk : EvF G d M ly pl h0 rv f q lv (.int (slen w) :: rest) s) : EvF G d M ly pl h0 rv f pc lv (.ref (G.2.2.2.1 w) :: rest) s := fun H r s' hf => by
  subst hq
  refine ev_invVS (N := mJ0_length_8abf5) (d' := 1) (n := 0) (As := []) (rest := rest) hw (ok_length hw _) calF_J.1 tiJ0_length_8abf5 (by decide +kernel) hlk hd rfl rfl hW (Nat.le_refl 0) (Nat.le_refl 0) hdg (fun v h' q => ?_)
  obtain ⟨rfl, rfl⟩ := q
  exact kk H r s' hf
theorem ef_charAt {q idx w : Nat} {k : Int32} (hw : w < 7) (hk : ixB k (strLen.getD w 0)) (hlk : Cond.methodLink (moM M) idx yJ0_charAt_5068e ∈ TT) (hd : 4 ≤ d) (hW : (rest.map fun v => v.category).sum ≤ 8) (hdg : decode (mbM M) pc = .ok (.invokevirtual idx, 3)) (hq : pc + 3 = q) (kk : EvF G d M ly pl h0 rv f q lv (.int (sch w k.toNatClampNeg) :: rest) s) : EvF G d M ly pl h0 rv f pc lv (.int k :: .ref (G.2.2.2.1 w) :: rest) s := fun H r s' hf => by
  subst hq
  refine ev_invVS (N := mJ0_charAt_5068e) (d' := 3) (n := 1) (As := [.int k]) (rest := rest) hw (ok_charAt hw hk _) calF_J.2.1 tiJ0_charAt_5068e (by decide +kernel) hlk hd rfl rfl hW (Nat.le_refl 0) (Nat.le_refl 0) hdg (fun v h' q => ?_)
  obtain ⟨rfl, rfl⟩ := q
  exact kk H r s' hf
end EFS
