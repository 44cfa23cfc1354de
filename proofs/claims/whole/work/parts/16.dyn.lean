-- X6_fresh
theorem dX6_fresh_0 : decode cX6_fresh 0 = .ok (.aload_n 0, 1) := by decide +kernel
theorem dX6_fresh_1 : decode cX6_fresh 1 = .ok (.getfield 331, 3) := by decide +kernel
theorem dX6_fresh_4 : decode cX6_fresh 4 = .ok (.ifnonnull 14, 3) := by decide +kernel
theorem dX6_fresh_7 : decode cX6_fresh 7 = .ok (.aload_n 0, 1) := by decide +kernel
theorem dX6_fresh_8 : decode cX6_fresh 8 = .ok (.new 8, 3) := by decide +kernel
theorem dX6_fresh_11 : decode cX6_fresh 11 = .ok (.dup, 1) := by decide +kernel
theorem dX6_fresh_12 : decode cX6_fresh 12 = .ok (.invokespecial 316, 3) := by decide +kernel
theorem dX6_fresh_15 : decode cX6_fresh 15 = .ok (.putfield 331, 3) := by decide +kernel
theorem dX6_fresh_18 : decode cX6_fresh 18 = .ok (.aload_n 0, 1) := by decide +kernel
theorem dX6_fresh_19 : decode cX6_fresh 19 = .ok (.getfield 331, 3) := by decide +kernel
theorem dX6_fresh_22 : decode cX6_fresh 22 = .ok (.aload_n 0, 1) := by decide +kernel
theorem dX6_fresh_23 : decode cX6_fresh 23 = .ok (.invokevirtual 254, 3) := by decide +kernel
theorem dX6_fresh_26 : decode cX6_fresh 26 = .ok (.aload_n 0, 1) := by decide +kernel
theorem dX6_fresh_27 : decode cX6_fresh 27 = .ok (.getfield 331, 3) := by decide +kernel
theorem dX6_fresh_30 : decode cX6_fresh 30 = .ok (.areturn, 1) := by decide +kernel
def fX6_fresh_18 (p : List Nat) (t : TF) : Option (Unit × TF) := if t.1 (9 :: p) = true then (((fX6_takeFrom (prS (t.2 (9 :: p)) (t.2 p))).bind fun z2 => if (wrT (wrT t (9 :: p) z2.2) p (snS z2.2)).1 (9 :: p) = true then (some ((), wrT (wrT t (9 :: p) z2.2) p (snS z2.2))) else none)) else none
def fX6_fresh_0 (p : List Nat) (t : TF) : Option (Unit × TF) := if t.1 (9 :: p) = true then (fX6_fresh_18 p t) else (if 9 :: p ∈ UF then (fX6_fresh_18 p (mkT t (9 :: p) S0R)) else none)
def fX6_fresh (p : List Nat) (t : TF) : Option (Unit × TF) := fX6_fresh_0 p t
set_option maxRecDepth 100000 in
set_option maxHeartbeats 4000000 in
theorem okX6_fresh_18 {G : GG} {X : Nat → Prop} {ob0 : List Nat → Nat} {t0 : TF} {h00 : PH} (p : List Nat) (t : TF) (ob : List Nat → Nat) (a0 : Nat) (e0 : AtF ob t (p) a0) : EvP G 3 mX6_fresh X ob0 t0 h00 (rwA (9 :: p)) (fX6_fresh_18 p t) 18 [(0, .ref a0)] [] t ob := by
  unfold fX6_fresh_18
  refine ep_aload_n (q := 19) 0 dX6_fresh_18 rfl rfl rfl ?_
  refine ep_getZ (z := (9, 0, 29)) (q := 22) e0 (by decide) rfl fl6_331 rfl dX6_fresh_19 rfl ?_
  refine ep_lz (fun g1 => ?_)
  refine ep_aload_n (q := 23) 0 dX6_fresh_22 rfl rfl rfl ?_
  refine ep_invVU2 (As := [.ref a0]) (rest := []) (q := 26) (⟨g1, rfl⟩) e0 cne (okX6_takeFrom) rfl calX6_takeFrom ml6_254 (by decide) rfl rfl (Nat.le_of_ble_eq_true rfl) dX6_fresh_23 rfl (fun z2 => ?_)
  refine ep_aload_n (q := 27) 0 dX6_fresh_26 rfl rfl rfl ?_
  refine ep_getZ (z := (9, 0, 29)) (q := 30) e0 (by decide) rfl fl6_331 rfl dX6_fresh_27 rfl ?_
  refine ep_lz (fun g3 => ?_)
  exact ep_aret (⟨g3, rfl⟩) rfl dX6_fresh_30
set_option maxRecDepth 100000 in
set_option maxHeartbeats 4000000 in
theorem okX6_fresh_0 {G : GG} {X : Nat → Prop} {ob0 : List Nat → Nat} {t0 : TF} {h00 : PH} (p : List Nat) (t : TF) (ob : List Nat → Nat) (a0 : Nat) (e0 : AtF ob t (p) a0) : EvP G 3 mX6_fresh X ob0 t0 h00 (rwA (9 :: p)) (fX6_fresh_0 p t) 0 [(0, .ref a0)] [] t ob := by
  unfold fX6_fresh_0
  refine ep_aload_n (q := 1) 0 dX6_fresh_0 rfl rfl rfl ?_
  refine ep_getZ (z := (9, 0, 29)) (q := 4) e0 (by decide) rfl fl6_331 rfl dX6_fresh_1 rfl ?_
  refine ep_ifnonnull (tgt := 18) (q := 7) dX6_fresh_4 (by decide) rfl (fun h1 => ?_) (fun h1 => ?_)
  · refine ep_sub (lv' := [(0, .ref a0)]) [0] rfl ?_
    exact okX6_fresh_18 p t ob a0 e0
  · refine ep_aload_n (q := 8) 0 dX6_fresh_7 rfl rfl rfl ?_
    refine ep_guard (fun g2 => ?_)
    refine ep_newP newOK (z := (9, 0, 29)) (q := 18) e0 (by decide) rfl g2 h1 rfl (by decide) fl6_331 rfl rfl (by decide) dX6_fresh_8 dX6_fresh_11 dX6_fresh_12 dX6_fresh_15 rfl (fun obz3 mvz3 => ?_)
    refine ep_sub (lv' := [(0, .ref a0)]) [0] rfl ?_
    exact okX6_fresh_18 p (mkT t (9 :: p) S0R) obz3 a0 (mvz3 _ _ e0)
theorem okX6_fresh (p : List Nat) : MtP 3 mX6_fresh (rwA (9 :: p)) p (fun a => [.ref a]) (fX6_fresh p) := by
  refine MtP.of (by decide +kernel) rfl (fun _ => Nat.le_of_ble_eq_true rfl) (fun G X ob t h a e => ?_)
  refine ep_sub (lv := [(0, .ref a)]) (lv' := [(0, .ref a)]) [0] rfl ?_
  exact okX6_fresh_0 p t ob a e
theorem fresh_in18 {p : List Nat} {t t' : TF} (hf : fX6_fresh_18 p t = some ((), t')) : t'.1 (9 :: p) = true := by
  unfold fX6_fresh_18 at hf
  split at hf
  · obtain ⟨z, -, h2⟩ := Option.bind_eq_some_iff.mp hf
    split at h2
    · rename_i g
      cases h2
      exact g
    · cases h2
  · cases hf
theorem fresh_in {p : List Nat} {t t' : TF} (hf : fX6_fresh p t = some ((), t')) : t'.1 (9 :: p) = true := by
  unfold fX6_fresh fX6_fresh_0 at hf
  split at hf
  · exact fresh_in18 hf
  · split at hf
    · exact fresh_in18 hf
    · cases hf
theorem okX6_fresh_f (p : List Nat) : MtPf 3 mX6_fresh p (9 :: p) (fun a => [.ref a]) (fX6_fresh p) := ⟨fun _ _ hf => fresh_in hf, okX6_fresh p⟩
-- X6_findPlan
theorem dX6_findPlan_0 : decode cX6_findPlan 0 = .ok (.iload_n 1, 1) := by decide +kernel
theorem dX6_findPlan_1 : decode cX6_findPlan 1 = .ok (.ifCond .ne 20, 3) := by decide +kernel
theorem dX6_findPlan_4 : decode cX6_findPlan 4 = .ok (.aload_n 0, 1) := by decide +kernel
theorem dX6_findPlan_5 : decode cX6_findPlan 5 = .ok (.aload_n 0, 1) := by decide +kernel
theorem dX6_findPlan_6 : decode cX6_findPlan 6 = .ok (.getfield 283, 3) := by decide +kernel
theorem dX6_findPlan_9 : decode cX6_findPlan 9 = .ok (.putfield 310, 3) := by decide +kernel
theorem dX6_findPlan_12 : decode cX6_findPlan 12 = .ok (.aload_n 0, 1) := by decide +kernel
theorem dX6_findPlan_13 : decode cX6_findPlan 13 = .ok (.aload_n 0, 1) := by decide +kernel
theorem dX6_findPlan_14 : decode cX6_findPlan 14 = .ok (.getfield 274, 3) := by decide +kernel
theorem dX6_findPlan_17 : decode cX6_findPlan 17 = .ok (.putfield 313, 3) := by decide +kernel
theorem dX6_findPlan_20 : decode cX6_findPlan 20 = .ok (.return_, 1) := by decide +kernel
theorem dX6_findPlan_21 : decode cX6_findPlan 21 = .ok (.aload_n 0, 1) := by decide +kernel
theorem dX6_findPlan_22 : decode cX6_findPlan 22 = .ok (.getfield 70, 3) := by decide +kernel
theorem dX6_findPlan_25 : decode cX6_findPlan 25 = .ok (.iload_n 1, 1) := by decide +kernel
theorem dX6_findPlan_26 : decode cX6_findPlan 26 = .ok (.aaload, 1) := by decide +kernel
theorem dX6_findPlan_27 : decode cX6_findPlan 27 = .ok (.ifnonnull 16, 3) := by decide +kernel
theorem dX6_findPlan_30 : decode cX6_findPlan 30 = .ok (.aload_n 0, 1) := by decide +kernel
theorem dX6_findPlan_31 : decode cX6_findPlan 31 = .ok (.getfield 70, 3) := by decide +kernel
theorem dX6_findPlan_34 : decode cX6_findPlan 34 = .ok (.iload_n 1, 1) := by decide +kernel
theorem dX6_findPlan_35 : decode cX6_findPlan 35 = .ok (.new 8, 3) := by decide +kernel
theorem dX6_findPlan_38 : decode cX6_findPlan 38 = .ok (.dup, 1) := by decide +kernel
theorem dX6_findPlan_39 : decode cX6_findPlan 39 = .ok (.invokespecial 316, 3) := by decide +kernel
theorem dX6_findPlan_42 : decode cX6_findPlan 42 = .ok (.aastore, 1) := by decide +kernel
theorem dX6_findPlan_43 : decode cX6_findPlan 43 = .ok (.aload_n 0, 1) := by decide +kernel
theorem dX6_findPlan_44 : decode cX6_findPlan 44 = .ok (.getfield 70, 3) := by decide +kernel
theorem dX6_findPlan_47 : decode cX6_findPlan 47 = .ok (.iload_n 1, 1) := by decide +kernel
theorem dX6_findPlan_48 : decode cX6_findPlan 48 = .ok (.aaload, 1) := by decide +kernel
theorem dX6_findPlan_49 : decode cX6_findPlan 49 = .ok (.astore_n 2, 1) := by decide +kernel
theorem dX6_findPlan_50 : decode cX6_findPlan 50 = .ok (.aload_n 0, 1) := by decide +kernel
theorem dX6_findPlan_51 : decode cX6_findPlan 51 = .ok (.iconst (-1), 1) := by decide +kernel
theorem dX6_findPlan_52 : decode cX6_findPlan 52 = .ok (.putfield 317, 3) := by decide +kernel
theorem dX6_findPlan_55 : decode cX6_findPlan 55 = .ok (.iconst 0, 1) := by decide +kernel
theorem dX6_findPlan_56 : decode cX6_findPlan 56 = .ok (.istore_n 3, 1) := by decide +kernel
theorem dX6_findPlan_57 : decode cX6_findPlan 57 = .ok (.iload_n 3, 1) := by decide +kernel
theorem dX6_findPlan_58 : decode cX6_findPlan 58 = .ok (.bipush 6, 2) := by decide +kernel
theorem dX6_findPlan_60 : decode cX6_findPlan 60 = .ok (.if_icmp .gt 148, 3) := by decide +kernel
theorem dX6_findPlan_63 : decode cX6_findPlan 63 = .ok (.aload_n 0, 1) := by decide +kernel
theorem dX6_findPlan_64 : decode cX6_findPlan 64 = .ok (.iload_n 3, 1) := by decide +kernel
theorem dX6_findPlan_65 : decode cX6_findPlan 65 = .ok (.i2l, 1) := by decide +kernel
theorem dX6_findPlan_66 : decode cX6_findPlan 66 = .ok (.invokevirtual 208, 3) := by decide +kernel
theorem dX6_findPlan_69 : decode cX6_findPlan 69 = .ok (.ifCond .eq 133, 3) := by decide +kernel
theorem dX6_findPlan_72 : decode cX6_findPlan 72 = .ok (.aload_n 2, 1) := by decide +kernel
theorem dX6_findPlan_73 : decode cX6_findPlan 73 = .ok (.aload_n 0, 1) := by decide +kernel
theorem dX6_findPlan_74 : decode cX6_findPlan 74 = .ok (.invokevirtual 254, 3) := by decide +kernel
theorem dX6_findPlan_77 : decode cX6_findPlan 77 = .ok (.aload_n 2, 1) := by decide +kernel
theorem dX6_findPlan_78 : decode cX6_findPlan 78 = .ok (.iload_n 3, 1) := by decide +kernel
theorem dX6_findPlan_79 : decode cX6_findPlan 79 = .ok (.iconst 0, 1) := by decide +kernel
theorem dX6_findPlan_80 : decode cX6_findPlan 80 = .ok (.invokevirtual 212, 3) := by decide +kernel
theorem dX6_findPlan_83 : decode cX6_findPlan 83 = .ok (.aload_n 2, 1) := by decide +kernel
theorem dX6_findPlan_84 : decode cX6_findPlan 84 = .ok (.iload_n 1, 1) := by decide +kernel
theorem dX6_findPlan_85 : decode cX6_findPlan 85 = .ok (.iconst 1, 1) := by decide +kernel
theorem dX6_findPlan_86 : decode cX6_findPlan 86 = .ok (.isub, 1) := by decide +kernel
theorem dX6_findPlan_87 : decode cX6_findPlan 87 = .ok (.invokevirtual 320, 3) := by decide +kernel
theorem dX6_findPlan_90 : decode cX6_findPlan 90 = .ok (.aload_n 0, 1) := by decide +kernel
theorem dX6_findPlan_91 : decode cX6_findPlan 91 = .ok (.getfield 317, 3) := by decide +kernel
theorem dX6_findPlan_94 : decode cX6_findPlan 94 = .ok (.iconst (-1), 1) := by decide +kernel
theorem dX6_findPlan_95 : decode cX6_findPlan 95 = .ok (.if_icmp .eq 14, 3) := by decide +kernel
theorem dX6_findPlan_98 : decode cX6_findPlan 98 = .ok (.aload_n 2, 1) := by decide +kernel
theorem dX6_findPlan_99 : decode cX6_findPlan 99 = .ok (.getfield 310, 3) := by decide +kernel
theorem dX6_findPlan_102 : decode cX6_findPlan 102 = .ok (.aload_n 0, 1) := by decide +kernel
theorem dX6_findPlan_103 : decode cX6_findPlan 103 = .ok (.getfield 310, 3) := by decide +kernel
theorem dX6_findPlan_106 : decode cX6_findPlan 106 = .ok (.if_icmp .ge 7, 3) := by decide +kernel
theorem dX6_findPlan_109 : decode cX6_findPlan 109 = .ok (.iconst 1, 1) := by decide +kernel
theorem dX6_findPlan_110 : decode cX6_findPlan 110 = .ok (.goto 4, 3) := by decide +kernel
theorem dX6_findPlan_113 : decode cX6_findPlan 113 = .ok (.iconst 0, 1) := by decide +kernel
theorem dX6_findPlan_114 : decode cX6_findPlan 114 = .ok (.istore 4, 2) := by decide +kernel
theorem dX6_findPlan_116 : decode cX6_findPlan 116 = .ok (.iload 4, 2) := by decide +kernel
theorem dX6_findPlan_118 : decode cX6_findPlan 118 = .ok (.ifCond .ne 25, 3) := by decide +kernel
theorem dX6_findPlan_121 : decode cX6_findPlan 121 = .ok (.aload_n 2, 1) := by decide +kernel
theorem dX6_findPlan_122 : decode cX6_findPlan 122 = .ok (.getfield 310, 3) := by decide +kernel
theorem dX6_findPlan_125 : decode cX6_findPlan 125 = .ok (.aload_n 0, 1) := by decide +kernel
theorem dX6_findPlan_126 : decode cX6_findPlan 126 = .ok (.getfield 310, 3) := by decide +kernel
theorem dX6_findPlan_129 : decode cX6_findPlan 129 = .ok (.if_icmp .ne 73, 3) := by decide +kernel
theorem dX6_findPlan_132 : decode cX6_findPlan 132 = .ok (.aload_n 2, 1) := by decide +kernel
theorem dX6_findPlan_133 : decode cX6_findPlan 133 = .ok (.getfield 313, 3) := by decide +kernel
theorem dX6_findPlan_136 : decode cX6_findPlan 136 = .ok (.aload_n 0, 1) := by decide +kernel
theorem dX6_findPlan_137 : decode cX6_findPlan 137 = .ok (.getfield 313, 3) := by decide +kernel
theorem dX6_findPlan_140 : decode cX6_findPlan 140 = .ok (.if_icmp .le 62, 3) := by decide +kernel
theorem dX6_findPlan_143 : decode cX6_findPlan 143 = .ok (.aload_n 0, 1) := by decide +kernel
theorem dX6_findPlan_144 : decode cX6_findPlan 144 = .ok (.iload_n 3, 1) := by decide +kernel
theorem dX6_findPlan_145 : decode cX6_findPlan 145 = .ok (.putfield 317, 3) := by decide +kernel
theorem dX6_findPlan_148 : decode cX6_findPlan 148 = .ok (.aload_n 0, 1) := by decide +kernel
theorem dX6_findPlan_149 : decode cX6_findPlan 149 = .ok (.aload_n 2, 1) := by decide +kernel
theorem dX6_findPlan_150 : decode cX6_findPlan 150 = .ok (.getfield 310, 3) := by decide +kernel
theorem dX6_findPlan_153 : decode cX6_findPlan 153 = .ok (.putfield 310, 3) := by decide +kernel
theorem dX6_findPlan_156 : decode cX6_findPlan 156 = .ok (.aload_n 0, 1) := by decide +kernel
theorem dX6_findPlan_157 : decode cX6_findPlan 157 = .ok (.aload_n 2, 1) := by decide +kernel
theorem dX6_findPlan_158 : decode cX6_findPlan 158 = .ok (.getfield 313, 3) := by decide +kernel
theorem dX6_findPlan_161 : decode cX6_findPlan 161 = .ok (.putfield 313, 3) := by decide +kernel
theorem dX6_findPlan_164 : decode cX6_findPlan 164 = .ok (.aload_n 0, 1) := by decide +kernel
theorem dX6_findPlan_165 : decode cX6_findPlan 165 = .ok (.getfield 77, 3) := by decide +kernel
theorem dX6_findPlan_168 : decode cX6_findPlan 168 = .ok (.iconst 0, 1) := by decide +kernel
theorem dX6_findPlan_169 : decode cX6_findPlan 169 = .ok (.iload_n 3, 1) := by decide +kernel
theorem dX6_findPlan_170 : decode cX6_findPlan 170 = .ok (.iastore, 1) := by decide +kernel
theorem dX6_findPlan_171 : decode cX6_findPlan 171 = .ok (.iconst 1, 1) := by decide +kernel
theorem dX6_findPlan_172 : decode cX6_findPlan 172 = .ok (.istore 5, 2) := by decide +kernel
theorem dX6_findPlan_174 : decode cX6_findPlan 174 = .ok (.iload 5, 2) := by decide +kernel
theorem dX6_findPlan_176 : decode cX6_findPlan 176 = .ok (.iload_n 1, 1) := by decide +kernel
theorem dX6_findPlan_177 : decode cX6_findPlan 177 = .ok (.if_icmp .ge 25, 3) := by decide +kernel
theorem dX6_findPlan_180 : decode cX6_findPlan 180 = .ok (.aload_n 0, 1) := by decide +kernel
theorem dX6_findPlan_181 : decode cX6_findPlan 181 = .ok (.getfield 77, 3) := by decide +kernel
theorem dX6_findPlan_184 : decode cX6_findPlan 184 = .ok (.iload 5, 2) := by decide +kernel
theorem dX6_findPlan_186 : decode cX6_findPlan 186 = .ok (.aload_n 2, 1) := by decide +kernel
theorem dX6_findPlan_187 : decode cX6_findPlan 187 = .ok (.getfield 77, 3) := by decide +kernel
theorem dX6_findPlan_190 : decode cX6_findPlan 190 = .ok (.iload 5, 2) := by decide +kernel
theorem dX6_findPlan_192 : decode cX6_findPlan 192 = .ok (.iconst 1, 1) := by decide +kernel
theorem dX6_findPlan_193 : decode cX6_findPlan 193 = .ok (.isub, 1) := by decide +kernel
theorem dX6_findPlan_194 : decode cX6_findPlan 194 = .ok (.iaload, 1) := by decide +kernel
theorem dX6_findPlan_195 : decode cX6_findPlan 195 = .ok (.iastore, 1) := by decide +kernel
theorem dX6_findPlan_196 : decode cX6_findPlan 196 = .ok (.iinc 5 1, 3) := by decide +kernel
theorem dX6_findPlan_199 : decode cX6_findPlan 199 = .ok (.goto (-25), 3) := by decide +kernel
theorem dX6_findPlan_202 : decode cX6_findPlan 202 = .ok (.iinc 3 1, 3) := by decide +kernel
theorem dX6_findPlan_205 : decode cX6_findPlan 205 = .ok (.goto (-148), 3) := by decide +kernel
theorem dX6_findPlan_208 : decode cX6_findPlan 208 = .ok (.return_, 1) := by decide +kernel
def fX6_findPlan_174 (p : List Nat) (self : List Nat → Int32 → TF → Option (Unit × TF)) (rec_57 : Int32 → Int32 → TF → Option (Unit × TF)) : Nat → Int32 → Int32 → Int32 → TF → Option (Unit × TF)
  | 0, _, _, _, _ => none
  | n + 1, x1, x3, x5, t => if x1 ≤ x5 then (rec_57 x1 (x3 + (1 : Int32)) t) else (if ixB (x5 - (1 : Int32)) 3 then (if ixB x5 3 then (fX6_findPlan_174 p self rec_57 n x1 x3 (x5 + (1 : Int32)) (wTI t p 30 x5.toNatClampNeg ((t.2 (x1.toNatClampNeg :: p)).1 30 ((x5 - (1 : Int32)).toNatClampNeg)))) else none) else none)
def fX6_findPlan_143 (p : List Nat) (self : List Nat → Int32 → TF → Option (Unit × TF)) (rec_57 : Int32 → Int32 → TF → Option (Unit × TF)) (x1 : Int32) (x3 : Int32) (t : TF) : Option (Unit × TF) := fX6_findPlan_174 p self rec_57 FU x1 x3 (1 : Int32) (wTI (wTI (wTI (wTI t p 0 38 x3) p 0 39 (((wTI t p 0 38 x3).2 (x1.toNatClampNeg :: p)).1 0 39)) p 0 40 (((wTI (wTI t p 0 38 x3) p 0 39 (((wTI t p 0 38 x3).2 (x1.toNatClampNeg :: p)).1 0 39)).2 (x1.toNatClampNeg :: p)).1 0 40)) p 30 0 x3)
def fX6_findPlan_114 (p : List Nat) (self : List Nat → Int32 → TF → Option (Unit × TF)) (rec_57 : Int32 → Int32 → TF → Option (Unit × TF)) (x1 : Int32) (x3 : Int32) (y0 : Int32) (t : TF) : Option (Unit × TF) := if y0 = 0 then (if ((t.2 (x1.toNatClampNeg :: p)).1 0 39) = ((t.2 p).1 0 39) then (if ((t.2 (x1.toNatClampNeg :: p)).1 0 40) ≤ ((t.2 p).1 0 40) then (rec_57 x1 (x3 + (1 : Int32)) t) else (fX6_findPlan_143 p self rec_57 x1 x3 t)) else (rec_57 x1 (x3 + (1 : Int32)) t)) else (fX6_findPlan_143 p self rec_57 x1 x3 t)
def fX6_findPlan_109 (p : List Nat) (self : List Nat → Int32 → TF → Option (Unit × TF)) (rec_57 : Int32 → Int32 → TF → Option (Unit × TF)) (x1 : Int32) (x3 : Int32) (t : TF) : Option (Unit × TF) := fX6_findPlan_114 p self rec_57 x1 x3 (1 : Int32) t
def fX6_findPlan_57 (p : List Nat) (self : List Nat → Int32 → TF → Option (Unit × TF)) : Nat → Int32 → Int32 → TF → Option (Unit × TF)
  | 0, _, _, _ => none
  | n + 1, x1, x3, t => if (6 : Int32) < x3 then (some ((), t)) else (((fX6_canAct x3.toInt64 (t.2 p)).bind fun z2 => if z2.1 = 0 then (fX6_findPlan_57 p self n x1 (x3 + (1 : Int32)) (wrT t p z2.2)) else (((fX6_takeFrom (prS ((wrT t p z2.2).2 (x1.toNatClampNeg :: p)) ((wrT t p z2.2).2 p))).bind fun z4 => ((fX6_goes x3 (0 : Int32) ((wrT (wrT (wrT t p z2.2) (x1.toNatClampNeg :: p) z4.2) p (snS z4.2)).2 (x1.toNatClampNeg :: p))).bind fun z5 => ((self (x1.toNatClampNeg :: p) (x1 - (1 : Int32)) (wrT (wrT (wrT (wrT t p z2.2) (x1.toNatClampNeg :: p) z4.2) p (snS z4.2)) (x1.toNatClampNeg :: p) z5.2)).bind fun z6 => if ((z6.2.2 p).1 0 38) = (-1 : Int32) then (fX6_findPlan_109 p self (fX6_findPlan_57 p self n) x1 x3 z6.2) else (if ((z6.2.2 p).1 0 39) ≤ ((z6.2.2 (x1.toNatClampNeg :: p)).1 0 39) then (fX6_findPlan_114 p self (fX6_findPlan_57 p self n) x1 x3 (0 : Int32) z6.2) else (fX6_findPlan_109 p self (fX6_findPlan_57 p self n) x1 x3 z6.2))))))))
def fX6_findPlan_43 (p : List Nat) (self : List Nat → Int32 → TF → Option (Unit × TF)) (x1 : Int32) (t : TF) : Option (Unit × TF) := if ixB x1 4 then (if t.1 (x1.toNatClampNeg :: p) = true then (fX6_findPlan_57 p self FU x1 (0 : Int32) (wTI t p 0 38 (-1 : Int32))) else none) else none
def fX6_findPlan_0 (p : List Nat) (self : List Nat → Int32 → TF → Option (Unit × TF)) (x1 : Int32) (t : TF) : Option (Unit × TF) := if x1 = 0 then (some ((), wTI (wTI t p 0 39 ((t.2 p).1 0 19)) p 0 40 (((wTI t p 0 39 ((t.2 p).1 0 19)).2 p).1 0 20))) else (if ixB x1 4 then (if t.1 (x1.toNatClampNeg :: p) = true then (fX6_findPlan_43 p self x1 t) else (if x1.toNatClampNeg :: p ∈ UF then (if ixB x1 4 then (fX6_findPlan_43 p self x1 (mkT t (x1.toNatClampNeg :: p) S0R)) else none) else none)) else none)
def fX6_findPlan_b (self : List Nat → Int32 → TF → Option (Unit × TF)) (p : List Nat) (x1 : Int32) (t : TF) : Option (Unit × TF) := fX6_findPlan_0 p self x1 t
set_option maxRecDepth 100000 in
set_option maxHeartbeats 4000000 in
theorem okX6_findPlan_174 {G : GG} {X : Nat → Prop} {ob0 : List Nat → Nat} {t0 : TF} {h00 : PH} (p : List Nat) {d dself : Nat} (hd1 : dself + 1 ≤ d) (hd2 : 3 ≤ d) (self : List Nat → Int32 → TF → Option (Unit × TF)) (hself : ∀ (p : List Nat) (x1 : Int32), MtP dself mX6_findPlan rwU p (fun a => [.ref a, .int x1]) (self p x1)) (rec_57 : Int32 → Int32 → TF → Option (Unit × TF)) (hrec_57 : ∀ (x1 : Int32) (x3 : Int32) (t : TF) (ob : List Nat → Nat) (a0 : Nat) (e0 : AtF ob t (p) a0) (a1 : Nat) (e1 : AtF ob t (x1.toNatClampNeg :: p) a1), EvP G d mX6_findPlan X ob0 t0 h00 rwU (rec_57 x1 x3 t) 57 [(0, .ref a0), (1, .int x1), (2, .ref a1), (3, .int x3)] [] t ob) : ∀ (n : Nat) (x1 : Int32) (x3 : Int32) (x5 : Int32) (t : TF) (ob : List Nat → Nat) (a0 : Nat) (e0 : AtF ob t (p) a0) (a1 : Nat) (e1 : AtF ob t (x1.toNatClampNeg :: p) a1), EvP G d mX6_findPlan X ob0 t0 h00 rwU (fX6_findPlan_174 p self rec_57 n x1 x3 x5 t) 174 [(0, .ref a0), (1, .int x1), (2, .ref a1), (3, .int x3), (5, .int x5)] [] t ob := by
  intro n
  induction n with
  | zero => intro x1 x3 x5 t ob a0 e0 a1 e1; rw [fX6_findPlan_174]; exact ep_none
  | succ n ih =>
    intro x1 x3 x5 t ob a0 e0 a1 e1
    rw [fX6_findPlan_174]
    refine ep_iload (q := 176) 4 dX6_findPlan_174 rfl rfl ?_
    refine ep_iload_n (q := 177) 1 dX6_findPlan_176 rfl rfl rfl ?_
    refine ep_if (pt := 202) (pf := 180) (fun _ _ _ _ _ _ => ev_icmp_ge (tgt := 202) dX6_findPlan_177 (by decide)) (fun h1 => ?_) (fun h1 => ?_)
    · refine ep_iinc (v := x3 + (1 : Int32)) (lv' := [(3, .int (x3 + (1 : Int32))), (0, .ref a0), (1, .int x1), (2, .ref a1), (5, .int x5)]) (q := 205) 3 dX6_findPlan_202 rfl rfl (by decide) rfl rfl ?_
      refine ep_goto (tgt := 57) dX6_findPlan_205 (by decide) ?_
      refine ep_sub (lv' := [(0, .ref a0), (1, .int x1), (2, .ref a1), (3, .int (x3 + (1 : Int32)))]) [1, 2, 3, 0] rfl ?_
      exact hrec_57 x1 (x3 + (1 : Int32)) t ob a0 e0 a1 e1
    · refine ep_aload_n (q := 181) 0 dX6_findPlan_180 rfl rfl rfl ?_
      refine ep_getR (k := 30) (q := 184) e0 fl6_77 rfl rfl rfl dX6_findPlan_181 rfl ?_
      refine ep_iload (q := 186) 4 dX6_findPlan_184 rfl rfl ?_
      refine ep_aload_n (q := 187) 2 dX6_findPlan_186 rfl rfl rfl ?_
      refine ep_getR (k := 30) (q := 190) e1 fl6_77 rfl rfl rfl dX6_findPlan_187 rfl ?_
      refine ep_iload (q := 192) 4 dX6_findPlan_190 rfl rfl ?_
      refine ep_iconst (v := (1 : Int32)) (q := 193) dX6_findPlan_192 (by decide) rfl ?_
      refine ep_isub (q := 194) dX6_findPlan_193 rfl ?_
      refine ep_guard (fun g2 => ?_)
      refine ep_iaload (x := (t.2 (x1.toNatClampNeg :: p)).1 30 ((x5 - (1 : Int32)).toNatClampNeg)) (q := 195) e1 rfl g2 dX6_findPlan_194 rfl rfl ?_
      refine ep_guard (fun g3 => ?_)
      refine ep_iastore (j := x5.toNatClampNeg) (q := 196) e0 rfl g3 dX6_findPlan_195 rfl rfl ?_
      refine ep_iinc (v := x5 + (1 : Int32)) (lv' := [(5, .int (x5 + (1 : Int32))), (0, .ref a0), (1, .int x1), (2, .ref a1), (3, .int x3)]) (q := 199) 4 dX6_findPlan_196 rfl rfl (by decide) rfl rfl ?_
      refine ep_goto (tgt := 174) dX6_findPlan_199 (by decide) ?_
      refine ep_sub (lv' := [(0, .ref a0), (1, .int x1), (2, .ref a1), (3, .int x3), (5, .int (x5 + (1 : Int32)))]) [1, 2, 3, 4, 0] rfl ?_
      exact ih x1 x3 (x5 + (1 : Int32)) (wTI t p 30 x5.toNatClampNeg ((t.2 (x1.toNatClampNeg :: p)).1 30 ((x5 - (1 : Int32)).toNatClampNeg))) ob a0 e0 a1 e1
set_option maxRecDepth 100000 in
set_option maxHeartbeats 4000000 in
theorem okX6_findPlan_143 {G : GG} {X : Nat → Prop} {ob0 : List Nat → Nat} {t0 : TF} {h00 : PH} (p : List Nat) {d dself : Nat} (hd1 : dself + 1 ≤ d) (hd2 : 3 ≤ d) (self : List Nat → Int32 → TF → Option (Unit × TF)) (hself : ∀ (p : List Nat) (x1 : Int32), MtP dself mX6_findPlan rwU p (fun a => [.ref a, .int x1]) (self p x1)) (rec_57 : Int32 → Int32 → TF → Option (Unit × TF)) (hrec_57 : ∀ (x1 : Int32) (x3 : Int32) (t : TF) (ob : List Nat → Nat) (a0 : Nat) (e0 : AtF ob t (p) a0) (a1 : Nat) (e1 : AtF ob t (x1.toNatClampNeg :: p) a1), EvP G d mX6_findPlan X ob0 t0 h00 rwU (rec_57 x1 x3 t) 57 [(0, .ref a0), (1, .int x1), (2, .ref a1), (3, .int x3)] [] t ob) (x1 : Int32) (x3 : Int32) (t : TF) (ob : List Nat → Nat) (a0 : Nat) (e0 : AtF ob t (p) a0) (a1 : Nat) (e1 : AtF ob t (x1.toNatClampNeg :: p) a1) : EvP G d mX6_findPlan X ob0 t0 h00 rwU (fX6_findPlan_143 p self rec_57 x1 x3 t) 143 [(0, .ref a0), (1, .int x1), (2, .ref a1), (3, .int x3)] [] t ob := by
  unfold fX6_findPlan_143
  refine ep_aload_n (q := 144) 0 dX6_findPlan_143 rfl rfl rfl ?_
  refine ep_iload_n (q := 145) 3 dX6_findPlan_144 rfl rfl rfl ?_
  refine ep_putI (q := 148) e0 fl6_317 rfl rfl dX6_findPlan_145 rfl ?_
  refine ep_aload_n (q := 149) 0 dX6_findPlan_148 rfl rfl rfl ?_
  refine ep_aload_n (q := 150) 2 dX6_findPlan_149 rfl rfl rfl ?_
  refine ep_getI (x := ((wTI t p 0 38 x3).2 (x1.toNatClampNeg :: p)).1 0 39) (q := 153) e1 fl6_310 rfl rfl dX6_findPlan_150 rfl ?_
  refine ep_putI (q := 156) e0 fl6_310 rfl rfl dX6_findPlan_153 rfl ?_
  refine ep_aload_n (q := 157) 0 dX6_findPlan_156 rfl rfl rfl ?_
  refine ep_aload_n (q := 158) 2 dX6_findPlan_157 rfl rfl rfl ?_
  refine ep_getI (x := ((wTI (wTI t p 0 38 x3) p 0 39 (((wTI t p 0 38 x3).2 (x1.toNatClampNeg :: p)).1 0 39)).2 (x1.toNatClampNeg :: p)).1 0 40) (q := 161) e1 fl6_313 rfl rfl dX6_findPlan_158 rfl ?_
  refine ep_putI (q := 164) e0 fl6_313 rfl rfl dX6_findPlan_161 rfl ?_
  refine ep_aload_n (q := 165) 0 dX6_findPlan_164 rfl rfl rfl ?_
  refine ep_getR (k := 30) (q := 168) e0 fl6_77 rfl rfl rfl dX6_findPlan_165 rfl ?_
  refine ep_iconst (v := (0 : Int32)) (q := 169) dX6_findPlan_168 (by decide) rfl ?_
  refine ep_iload_n (q := 170) 3 dX6_findPlan_169 rfl rfl rfl ?_
  refine ep_iastore (j := 0) (q := 171) e0 rfl (by decide) dX6_findPlan_170 rfl rfl ?_
  refine ep_iconst (v := (1 : Int32)) (q := 172) dX6_findPlan_171 (by decide) rfl ?_
  refine ep_istore (lv' := [(5, .int (1 : Int32)), (0, .ref a0), (1, .int x1), (2, .ref a1), (3, .int x3)]) (q := 174) dX6_findPlan_172 (by decide) rfl rfl ?_
  refine ep_sub (lv' := [(0, .ref a0), (1, .int x1), (2, .ref a1), (3, .int x3), (5, .int (1 : Int32))]) [1, 2, 3, 4, 0] rfl ?_
  exact okX6_findPlan_174 p hd1 hd2 self hself rec_57 hrec_57 FU x1 x3 (1 : Int32) (wTI (wTI (wTI (wTI t p 0 38 x3) p 0 39 (((wTI t p 0 38 x3).2 (x1.toNatClampNeg :: p)).1 0 39)) p 0 40 (((wTI (wTI t p 0 38 x3) p 0 39 (((wTI t p 0 38 x3).2 (x1.toNatClampNeg :: p)).1 0 39)).2 (x1.toNatClampNeg :: p)).1 0 40)) p 30 0 x3) ob a0 e0 a1 e1
set_option maxRecDepth 100000 in
set_option maxHeartbeats 4000000 in
theorem okX6_findPlan_114 {G : GG} {X : Nat → Prop} {ob0 : List Nat → Nat} {t0 : TF} {h00 : PH} (p : List Nat) {d dself : Nat} (hd1 : dself + 1 ≤ d) (hd2 : 3 ≤ d) (self : List Nat → Int32 → TF → Option (Unit × TF)) (hself : ∀ (p : List Nat) (x1 : Int32), MtP dself mX6_findPlan rwU p (fun a => [.ref a, .int x1]) (self p x1)) (rec_57 : Int32 → Int32 → TF → Option (Unit × TF)) (hrec_57 : ∀ (x1 : Int32) (x3 : Int32) (t : TF) (ob : List Nat → Nat) (a0 : Nat) (e0 : AtF ob t (p) a0) (a1 : Nat) (e1 : AtF ob t (x1.toNatClampNeg :: p) a1), EvP G d mX6_findPlan X ob0 t0 h00 rwU (rec_57 x1 x3 t) 57 [(0, .ref a0), (1, .int x1), (2, .ref a1), (3, .int x3)] [] t ob) (x1 : Int32) (x3 : Int32) (y0 : Int32) (t : TF) (ob : List Nat → Nat) (a0 : Nat) (e0 : AtF ob t (p) a0) (a1 : Nat) (e1 : AtF ob t (x1.toNatClampNeg :: p) a1) : EvP G d mX6_findPlan X ob0 t0 h00 rwU (fX6_findPlan_114 p self rec_57 x1 x3 y0 t) 114 [(0, .ref a0), (1, .int x1), (2, .ref a1), (3, .int x3)] [.int y0] t ob := by
  unfold fX6_findPlan_114
  refine ep_istore (lv' := [(4, .int y0), (0, .ref a0), (1, .int x1), (2, .ref a1), (3, .int x3)]) (q := 116) dX6_findPlan_114 (by decide) rfl rfl ?_
  refine ep_iload (q := 118) 0 dX6_findPlan_116 rfl rfl ?_
  refine ep_if (pt := 121) (pf := 143) (fun _ _ _ _ _ _ kt kf => ev_if_ne (tgt := 143) dX6_findPlan_118 (by decide) kf kt) (fun h1 => ?_) (fun h1 => ?_)
  · refine ep_aload_n (q := 122) 3 dX6_findPlan_121 rfl rfl rfl ?_
    refine ep_getI (x := (t.2 (x1.toNatClampNeg :: p)).1 0 39) (q := 125) e1 fl6_310 rfl rfl dX6_findPlan_122 rfl ?_
    refine ep_aload_n (q := 126) 1 dX6_findPlan_125 rfl rfl rfl ?_
    refine ep_getI (x := (t.2 p).1 0 39) (q := 129) e0 fl6_310 rfl rfl dX6_findPlan_126 rfl ?_
    refine ep_if (pt := 132) (pf := 202) (fun _ _ _ _ _ _ kt kf => ev_icmp_ne (tgt := 202) dX6_findPlan_129 (by decide) kf kt) (fun h2 => ?_) (fun h2 => ?_)
    · refine ep_aload_n (q := 133) 3 dX6_findPlan_132 rfl rfl rfl ?_
      refine ep_getI (x := (t.2 (x1.toNatClampNeg :: p)).1 0 40) (q := 136) e1 fl6_313 rfl rfl dX6_findPlan_133 rfl ?_
      refine ep_aload_n (q := 137) 1 dX6_findPlan_136 rfl rfl rfl ?_
      refine ep_getI (x := (t.2 p).1 0 40) (q := 140) e0 fl6_313 rfl rfl dX6_findPlan_137 rfl ?_
      refine ep_if (pt := 202) (pf := 143) (fun _ _ _ _ _ _ => ev_icmp_le (tgt := 202) dX6_findPlan_140 (by decide)) (fun h3 => ?_) (fun h3 => ?_)
      · refine ep_iinc (v := x3 + (1 : Int32)) (lv' := [(3, .int (x3 + (1 : Int32))), (4, .int y0), (0, .ref a0), (1, .int x1), (2, .ref a1)]) (q := 205) 4 dX6_findPlan_202 rfl rfl (by decide) rfl rfl ?_
        refine ep_goto (tgt := 57) dX6_findPlan_205 (by decide) ?_
        refine ep_sub (lv' := [(0, .ref a0), (1, .int x1), (2, .ref a1), (3, .int (x3 + (1 : Int32)))]) [2, 3, 4, 0] rfl ?_
        exact hrec_57 x1 (x3 + (1 : Int32)) t ob a0 e0 a1 e1
      · refine ep_sub (lv' := [(0, .ref a0), (1, .int x1), (2, .ref a1), (3, .int x3)]) [1, 2, 3, 4] rfl ?_
        exact okX6_findPlan_143 p hd1 hd2 self hself rec_57 hrec_57 x1 x3 t ob a0 e0 a1 e1
    · refine ep_iinc (v := x3 + (1 : Int32)) (lv' := [(3, .int (x3 + (1 : Int32))), (4, .int y0), (0, .ref a0), (1, .int x1), (2, .ref a1)]) (q := 205) 4 dX6_findPlan_202 rfl rfl (by decide) rfl rfl ?_
      refine ep_goto (tgt := 57) dX6_findPlan_205 (by decide) ?_
      refine ep_sub (lv' := [(0, .ref a0), (1, .int x1), (2, .ref a1), (3, .int (x3 + (1 : Int32)))]) [2, 3, 4, 0] rfl ?_
      exact hrec_57 x1 (x3 + (1 : Int32)) t ob a0 e0 a1 e1
  · refine ep_sub (lv' := [(0, .ref a0), (1, .int x1), (2, .ref a1), (3, .int x3)]) [1, 2, 3, 4] rfl ?_
    exact okX6_findPlan_143 p hd1 hd2 self hself rec_57 hrec_57 x1 x3 t ob a0 e0 a1 e1
set_option maxRecDepth 100000 in
set_option maxHeartbeats 4000000 in
theorem okX6_findPlan_109 {G : GG} {X : Nat → Prop} {ob0 : List Nat → Nat} {t0 : TF} {h00 : PH} (p : List Nat) {d dself : Nat} (hd1 : dself + 1 ≤ d) (hd2 : 3 ≤ d) (self : List Nat → Int32 → TF → Option (Unit × TF)) (hself : ∀ (p : List Nat) (x1 : Int32), MtP dself mX6_findPlan rwU p (fun a => [.ref a, .int x1]) (self p x1)) (rec_57 : Int32 → Int32 → TF → Option (Unit × TF)) (hrec_57 : ∀ (x1 : Int32) (x3 : Int32) (t : TF) (ob : List Nat → Nat) (a0 : Nat) (e0 : AtF ob t (p) a0) (a1 : Nat) (e1 : AtF ob t (x1.toNatClampNeg :: p) a1), EvP G d mX6_findPlan X ob0 t0 h00 rwU (rec_57 x1 x3 t) 57 [(0, .ref a0), (1, .int x1), (2, .ref a1), (3, .int x3)] [] t ob) (x1 : Int32) (x3 : Int32) (t : TF) (ob : List Nat → Nat) (a0 : Nat) (e0 : AtF ob t (p) a0) (a1 : Nat) (e1 : AtF ob t (x1.toNatClampNeg :: p) a1) : EvP G d mX6_findPlan X ob0 t0 h00 rwU (fX6_findPlan_109 p self rec_57 x1 x3 t) 109 [(0, .ref a0), (1, .int x1), (2, .ref a1), (3, .int x3)] [] t ob := by
  unfold fX6_findPlan_109
  refine ep_iconst (v := (1 : Int32)) (q := 110) dX6_findPlan_109 (by decide) rfl ?_
  refine ep_goto (tgt := 114) dX6_findPlan_110 (by decide) ?_
  refine ep_sub (lv' := [(0, .ref a0), (1, .int x1), (2, .ref a1), (3, .int x3)]) [0, 1, 2, 3] rfl ?_
  exact okX6_findPlan_114 p hd1 hd2 self hself rec_57 hrec_57 x1 x3 (1 : Int32) t ob a0 e0 a1 e1
set_option maxRecDepth 100000 in
set_option maxHeartbeats 4000000 in
theorem okX6_findPlan_57 {G : GG} {X : Nat → Prop} {ob0 : List Nat → Nat} {t0 : TF} {h00 : PH} (p : List Nat) {d dself : Nat} (hd1 : dself + 1 ≤ d) (hd2 : 3 ≤ d) (self : List Nat → Int32 → TF → Option (Unit × TF)) (hself : ∀ (p : List Nat) (x1 : Int32), MtP dself mX6_findPlan rwU p (fun a => [.ref a, .int x1]) (self p x1)) : ∀ (n : Nat) (x1 : Int32) (x3 : Int32) (t : TF) (ob : List Nat → Nat) (a0 : Nat) (e0 : AtF ob t (p) a0) (a1 : Nat) (e1 : AtF ob t (x1.toNatClampNeg :: p) a1), EvP G d mX6_findPlan X ob0 t0 h00 rwU (fX6_findPlan_57 p self n x1 x3 t) 57 [(0, .ref a0), (1, .int x1), (2, .ref a1), (3, .int x3)] [] t ob := by
  intro n
  induction n with
  | zero => intro x1 x3 t ob a0 e0 a1 e1; rw [fX6_findPlan_57]; exact ep_none
  | succ n ih =>
    intro x1 x3 t ob a0 e0 a1 e1
    rw [fX6_findPlan_57]
    refine ep_iload_n (q := 58) 3 dX6_findPlan_57 rfl rfl rfl ?_
    refine ep_bipush (v := (6 : Int32)) (q := 60) dX6_findPlan_58 (by decide) rfl ?_
    refine ep_if (pt := 208) (pf := 63) (fun _ _ _ _ _ _ => ev_icmp_gt (tgt := 208) dX6_findPlan_60 (by decide)) (fun h1 => ?_) (fun h1 => ?_)
    · exact ep_vret rfl dX6_findPlan_208
    · refine ep_aload_n (q := 64) 0 dX6_findPlan_63 rfl rfl rfl ?_
      refine ep_iload_n (q := 65) 3 dX6_findPlan_64 rfl rfl rfl ?_
      refine ep_i2l (v := x3.toInt64) (q := 66) dX6_findPlan_65 rfl rfl ?_
      refine ep_invVI1 (As := [.long x3.toInt64]) (rest := []) (q := 69) e0 (okX6_canAct x3.toInt64) rfl calX6_canAct ml6_208 (by omega) rfl rfl (Nat.le_of_ble_eq_true rfl) dX6_findPlan_66 rfl (fun z2 => ?_)
      refine ep_if (pt := 202) (pf := 72) (fun _ _ _ _ _ _ => ev_if_eq (tgt := 202) dX6_findPlan_69 (by decide)) (fun h3 => ?_) (fun h3 => ?_)
      · refine ep_iinc (v := x3 + (1 : Int32)) (lv' := [(3, .int (x3 + (1 : Int32))), (0, .ref a0), (1, .int x1), (2, .ref a1)]) (q := 205) 3 dX6_findPlan_202 rfl rfl (by decide) rfl rfl ?_
        refine ep_goto (tgt := 57) dX6_findPlan_205 (by decide) ?_
        refine ep_sub (lv' := [(0, .ref a0), (1, .int x1), (2, .ref a1), (3, .int (x3 + (1 : Int32)))]) [1, 2, 3, 0] rfl ?_
        exact ih x1 (x3 + (1 : Int32)) (wrT t p z2.2) ob a0 e0 a1 e1
      · refine ep_aload_n (q := 73) 2 dX6_findPlan_72 rfl rfl rfl ?_
        refine ep_aload_n (q := 74) 0 dX6_findPlan_73 rfl rfl rfl ?_
        refine ep_invVU2 (As := [.ref a0]) (rest := []) (q := 77) e1 e0 cne (okX6_takeFrom) rfl calX6_takeFrom ml6_254 (by omega) rfl rfl (Nat.le_of_ble_eq_true rfl) dX6_findPlan_74 rfl (fun z4 => ?_)
        refine ep_aload_n (q := 78) 2 dX6_findPlan_77 rfl rfl rfl ?_
        refine ep_iload_n (q := 79) 3 dX6_findPlan_78 rfl rfl rfl ?_
        refine ep_iconst (v := (0 : Int32)) (q := 80) dX6_findPlan_79 (by decide) rfl ?_
        refine ep_invVU1 (As := [.int x3, .int (0 : Int32)]) (rest := []) (q := 83) e1 (okX6_goes x3 (0 : Int32)) rfl calX6_goes ml6_212 (by omega) rfl rfl (Nat.le_of_ble_eq_true rfl) dX6_findPlan_80 rfl (fun z5 => ?_)
        refine ep_aload_n (q := 84) 2 dX6_findPlan_83 rfl rfl rfl ?_
        refine ep_iload_n (q := 85) 1 dX6_findPlan_84 rfl rfl rfl ?_
        refine ep_iconst (v := (1 : Int32)) (q := 86) dX6_findPlan_85 (by decide) rfl ?_
        refine ep_isub (q := 87) dX6_findPlan_86 rfl ?_
        refine ep_invVUP (As := [.int (x1 - (1 : Int32))]) (rest := []) (q := 90) e1 (hself (x1.toNatClampNeg :: p) (x1 - (1 : Int32))) rfl calX6_findPlan ml6_320 hd1 rfl rfl (Nat.le_of_ble_eq_true rfl) dX6_findPlan_87 rfl (fun z6 obz6 _ mvz6 => ?_)
        refine ep_aload_n (q := 91) 0 dX6_findPlan_90 rfl rfl rfl ?_
        refine ep_getI (x := (z6.2.2 p).1 0 38) (q := 94) (mvz6 _ _ e0) fl6_317 rfl rfl dX6_findPlan_91 rfl ?_
        refine ep_iconst (v := (-1 : Int32)) (q := 95) dX6_findPlan_94 (by decide) rfl ?_
        refine ep_if (pt := 109) (pf := 98) (fun _ _ _ _ _ _ => ev_icmp_eq (tgt := 109) dX6_findPlan_95 (by decide)) (fun h7 => ?_) (fun h7 => ?_)
        · refine ep_sub (lv' := [(0, .ref a0), (1, .int x1), (2, .ref a1), (3, .int x3)]) [0, 1, 2, 3] rfl ?_
          exact okX6_findPlan_109 p hd1 hd2 self hself (fX6_findPlan_57 p self n) ih x1 x3 z6.2 obz6 a0 (mvz6 _ _ e0) a1 (mvz6 _ _ e1)
        · refine ep_aload_n (q := 99) 2 dX6_findPlan_98 rfl rfl rfl ?_
          refine ep_getI (x := (z6.2.2 (x1.toNatClampNeg :: p)).1 0 39) (q := 102) (mvz6 _ _ e1) fl6_310 rfl rfl dX6_findPlan_99 rfl ?_
          refine ep_aload_n (q := 103) 0 dX6_findPlan_102 rfl rfl rfl ?_
          refine ep_getI (x := (z6.2.2 p).1 0 39) (q := 106) (mvz6 _ _ e0) fl6_310 rfl rfl dX6_findPlan_103 rfl ?_
          refine ep_if (pt := 113) (pf := 109) (fun _ _ _ _ _ _ => ev_icmp_ge (tgt := 113) dX6_findPlan_106 (by decide)) (fun h8 => ?_) (fun h8 => ?_)
          · refine ep_iconst (v := (0 : Int32)) (q := 114) dX6_findPlan_113 (by decide) rfl ?_
            refine ep_sub (lv' := [(0, .ref a0), (1, .int x1), (2, .ref a1), (3, .int x3)]) [0, 1, 2, 3] rfl ?_
            exact okX6_findPlan_114 p hd1 hd2 self hself (fX6_findPlan_57 p self n) ih x1 x3 (0 : Int32) z6.2 obz6 a0 (mvz6 _ _ e0) a1 (mvz6 _ _ e1)
          · refine ep_sub (lv' := [(0, .ref a0), (1, .int x1), (2, .ref a1), (3, .int x3)]) [0, 1, 2, 3] rfl ?_
            exact okX6_findPlan_109 p hd1 hd2 self hself (fX6_findPlan_57 p self n) ih x1 x3 z6.2 obz6 a0 (mvz6 _ _ e0) a1 (mvz6 _ _ e1)
set_option maxRecDepth 100000 in
set_option maxHeartbeats 4000000 in
theorem okX6_findPlan_43 {G : GG} {X : Nat → Prop} {ob0 : List Nat → Nat} {t0 : TF} {h00 : PH} (p : List Nat) {d dself : Nat} (hd1 : dself + 1 ≤ d) (hd2 : 3 ≤ d) (self : List Nat → Int32 → TF → Option (Unit × TF)) (hself : ∀ (p : List Nat) (x1 : Int32), MtP dself mX6_findPlan rwU p (fun a => [.ref a, .int x1]) (self p x1)) (x1 : Int32) (t : TF) (ob : List Nat → Nat) (a0 : Nat) (e0 : AtF ob t (p) a0) : EvP G d mX6_findPlan X ob0 t0 h00 rwU (fX6_findPlan_43 p self x1 t) 43 [(0, .ref a0), (1, .int x1)] [] t ob := by
  unfold fX6_findPlan_43
  refine ep_aload_n (q := 44) 0 dX6_findPlan_43 rfl rfl rfl ?_
  refine ep_getR (k := 28) (q := 47) e0 fl6_70 rfl rfl rfl dX6_findPlan_44 rfl ?_
  refine ep_iload_n (q := 48) 1 dX6_findPlan_47 rfl rfl rfl ?_
  refine ep_guard (fun g1 => ?_)
  refine ep_aaZ (q := 49) e0 g1 dX6_findPlan_48 rfl ?_
  refine ep_lz (fun g2 => ?_)
  refine ep_astore_n (lv' := [(2, .ref (ob (x1.toNatClampNeg :: p))), (0, .ref a0), (1, .int x1)]) (q := 50) dX6_findPlan_49 rfl (by decide) rfl rfl ?_
  refine ep_aload_n (q := 51) 1 dX6_findPlan_50 rfl rfl rfl ?_
  refine ep_iconst (v := (-1 : Int32)) (q := 52) dX6_findPlan_51 (by decide) rfl ?_
  refine ep_putI (q := 55) e0 fl6_317 rfl rfl dX6_findPlan_52 rfl ?_
  refine ep_iconst (v := (0 : Int32)) (q := 56) dX6_findPlan_55 (by decide) rfl ?_
  refine ep_istore_n (lv' := [(3, .int (0 : Int32)), (2, .ref (ob (x1.toNatClampNeg :: p))), (0, .ref a0), (1, .int x1)]) (q := 57) dX6_findPlan_56 rfl (by decide) rfl rfl ?_
  refine ep_sub (lv' := [(0, .ref a0), (1, .int x1), (2, .ref (ob (x1.toNatClampNeg :: p))), (3, .int (0 : Int32))]) [2, 3, 1, 0] rfl ?_
  exact okX6_findPlan_57 p hd1 hd2 self hself FU x1 (0 : Int32) (wTI t p 0 38 (-1 : Int32)) ob a0 e0 (ob (x1.toNatClampNeg :: p)) (⟨g2, rfl⟩)
set_option maxRecDepth 100000 in
set_option maxHeartbeats 4000000 in
theorem okX6_findPlan_0 {G : GG} {X : Nat → Prop} {ob0 : List Nat → Nat} {t0 : TF} {h00 : PH} (p : List Nat) {d dself : Nat} (hd1 : dself + 1 ≤ d) (hd2 : 3 ≤ d) (self : List Nat → Int32 → TF → Option (Unit × TF)) (hself : ∀ (p : List Nat) (x1 : Int32), MtP dself mX6_findPlan rwU p (fun a => [.ref a, .int x1]) (self p x1)) (x1 : Int32) (t : TF) (ob : List Nat → Nat) (a0 : Nat) (e0 : AtF ob t (p) a0) : EvP G d mX6_findPlan X ob0 t0 h00 rwU (fX6_findPlan_0 p self x1 t) 0 [(0, .ref a0), (1, .int x1)] [] t ob := by
  unfold fX6_findPlan_0
  refine ep_iload_n (q := 1) 1 dX6_findPlan_0 rfl rfl rfl ?_
  refine ep_if (pt := 4) (pf := 21) (fun _ _ _ _ _ _ kt kf => ev_if_ne (tgt := 21) dX6_findPlan_1 (by decide) kf kt) (fun h1 => ?_) (fun h1 => ?_)
  · refine ep_aload_n (q := 5) 0 dX6_findPlan_4 rfl rfl rfl ?_
    refine ep_aload_n (q := 6) 0 dX6_findPlan_5 rfl rfl rfl ?_
    refine ep_getI (x := (t.2 p).1 0 19) (q := 9) e0 fl6_283 rfl rfl dX6_findPlan_6 rfl ?_
    refine ep_putI (q := 12) e0 fl6_310 rfl rfl dX6_findPlan_9 rfl ?_
    refine ep_aload_n (q := 13) 0 dX6_findPlan_12 rfl rfl rfl ?_
    refine ep_aload_n (q := 14) 0 dX6_findPlan_13 rfl rfl rfl ?_
    refine ep_getI (x := ((wTI t p 0 39 ((t.2 p).1 0 19)).2 p).1 0 20) (q := 17) e0 fl6_274 rfl rfl dX6_findPlan_14 rfl ?_
    refine ep_putI (q := 20) e0 fl6_313 rfl rfl dX6_findPlan_17 rfl ?_
    exact ep_vret rfl dX6_findPlan_20
  · refine ep_aload_n (q := 22) 0 dX6_findPlan_21 rfl rfl rfl ?_
    refine ep_getR (k := 28) (q := 25) e0 fl6_70 rfl rfl rfl dX6_findPlan_22 rfl ?_
    refine ep_iload_n (q := 26) 1 dX6_findPlan_25 rfl rfl rfl ?_
    refine ep_guard (fun g2 => ?_)
    refine ep_aaZ (q := 27) e0 g2 dX6_findPlan_26 rfl ?_
    refine ep_ifnonnull (tgt := 43) (q := 30) dX6_findPlan_27 (by decide) rfl (fun h3 => ?_) (fun h3 => ?_)
    · refine ep_sub (lv' := [(0, .ref a0), (1, .int x1)]) [0, 1] rfl ?_
      exact okX6_findPlan_43 p hd1 hd2 self hself x1 t ob a0 e0
    · refine ep_aload_n (q := 31) 0 dX6_findPlan_30 rfl rfl rfl ?_
      refine ep_getR (k := 28) (q := 34) e0 fl6_70 rfl rfl rfl dX6_findPlan_31 rfl ?_
      refine ep_iload_n (q := 35) 1 dX6_findPlan_34 rfl rfl rfl ?_
      refine ep_guard (fun g4 => ?_)
      refine ep_guard (fun g6 => ?_)
      refine ep_newA newOK (q := 43) e0 g6 g4 h3 rfl (by omega) (by decide) dX6_findPlan_35 dX6_findPlan_38 dX6_findPlan_39 dX6_findPlan_42 rfl (fun obz5 mvz5 => ?_)
      refine ep_sub (lv' := [(0, .ref a0), (1, .int x1)]) [0, 1] rfl ?_
      exact okX6_findPlan_43 p hd1 hd2 self hself x1 (mkT t (x1.toNatClampNeg :: p) S0R) obz5 a0 (mvz5 _ _ e0)
theorem okX6_findPlan_b (p : List Nat) {d dself : Nat} (hd1 : dself + 1 ≤ d) (hd2 : 3 ≤ d) (self : List Nat → Int32 → TF → Option (Unit × TF)) (hself : ∀ (p : List Nat) (x1 : Int32), MtP dself mX6_findPlan rwU p (fun a => [.ref a, .int x1]) (self p x1)) (x1 : Int32) : MtP d mX6_findPlan rwU p (fun a => [.ref a, .int x1]) (fX6_findPlan_b self p x1) := by
  refine MtP.of (by decide +kernel) rfl (fun _ => Nat.le_of_ble_eq_true rfl) (fun G X ob t h a e => ?_)
  refine ep_sub (lv := [(0, .ref a), (1, .int x1)]) (lv' := [(0, .ref a), (1, .int x1)]) [0, 1] rfl ?_
  exact okX6_findPlan_0 p hd1 hd2 self hself x1 t ob a e
def fX6_findPlan_r : Nat → List Nat → Int32 → TF → Option (Unit × TF)
  | 0 => fun _ _ _ => none
  | n + 1 => fX6_findPlan_b (fX6_findPlan_r n)
theorem okX6_findPlan_r : ∀ (n : Nat) (p : List Nat) (x1 : Int32), MtP (3 + n) mX6_findPlan rwU p (fun a => [.ref a, .int x1]) (fX6_findPlan_r n p x1)
  | 0, _, _ => ⟨fun _ _ _ _ hf => (by cases hf), fun _ _ _ _ _ _ _ _ _ hf => (by cases hf)⟩
  | n + 1, p, x1 => okX6_findPlan_b p (d := 3 + (n + 1)) (dself := 3 + n) (by omega) (by omega) (fX6_findPlan_r n) (fun p x1 => okX6_findPlan_r n p x1) x1
def fX6_findPlan : List Nat → Int32 → TF → Option (Unit × TF) := fX6_findPlan_r 5
theorem okX6_findPlan (p : List Nat) (x1 : Int32) : MtP 8 mX6_findPlan rwU p (fun a => [.ref a, .int x1]) (fX6_findPlan p x1) := okX6_findPlan_r 5 p x1
-- X6_image
theorem dX6_image_0 : decode cX6_image 0 = .ok (.aload_n 0, 1) := by decide +kernel
theorem dX6_image_1 : decode cX6_image 1 = .ok (.getfield 385, 3) := by decide +kernel
theorem dX6_image_4 : decode cX6_image 4 = .ok (.ifnonnull 14, 3) := by decide +kernel
theorem dX6_image_7 : decode cX6_image 7 = .ok (.aload_n 0, 1) := by decide +kernel
theorem dX6_image_8 : decode cX6_image 8 = .ok (.new 8, 3) := by decide +kernel
theorem dX6_image_11 : decode cX6_image 11 = .ok (.dup, 1) := by decide +kernel
theorem dX6_image_12 : decode cX6_image 12 = .ok (.invokespecial 316, 3) := by decide +kernel
theorem dX6_image_15 : decode cX6_image 15 = .ok (.putfield 385, 3) := by decide +kernel
theorem dX6_image_18 : decode cX6_image 18 = .ok (.aload_n 0, 1) := by decide +kernel
theorem dX6_image_19 : decode cX6_image 19 = .ok (.getfield 385, 3) := by decide +kernel
theorem dX6_image_22 : decode cX6_image 22 = .ok (.aload_n 0, 1) := by decide +kernel
theorem dX6_image_23 : decode cX6_image 23 = .ok (.invokevirtual 254, 3) := by decide +kernel
theorem dX6_image_26 : decode cX6_image 26 = .ok (.iconst 1, 1) := by decide +kernel
theorem dX6_image_27 : decode cX6_image 27 = .ok (.ireturn, 1) := by decide +kernel
def fX6_image_18 (p : List Nat) (t : TF) : Option (Int32 × TF) := if t.1 (8 :: p) = true then (((fX6_takeFrom (prS (t.2 (8 :: p)) (t.2 p))).bind fun z2 => some ((1 : Int32), wrT (wrT t (8 :: p) z2.2) p (snS z2.2)))) else none
def fX6_image_0 (p : List Nat) (t : TF) : Option (Int32 × TF) := if t.1 (8 :: p) = true then (fX6_image_18 p t) else (if 8 :: p ∈ UF then (fX6_image_18 p (mkT t (8 :: p) S0R)) else none)
def fX6_image (p : List Nat) (t : TF) : Option (Int32 × TF) := fX6_image_0 p t
set_option maxRecDepth 100000 in
set_option maxHeartbeats 4000000 in
theorem okX6_image_18 {G : GG} {X : Nat → Prop} {ob0 : List Nat → Nat} {t0 : TF} {h00 : PH} (p : List Nat) (t : TF) (ob : List Nat → Nat) (a0 : Nat) (e0 : AtF ob t (p) a0) : EvP G 3 mX6_image X ob0 t0 h00 rwI (fX6_image_18 p t) 18 [(0, .ref a0)] [] t ob := by
  unfold fX6_image_18
  refine ep_aload_n (q := 19) 0 dX6_image_18 rfl rfl rfl ?_
  refine ep_getZ (z := (8, 0, 28)) (q := 22) e0 (by decide) rfl fl6_385 rfl dX6_image_19 rfl ?_
  refine ep_lz (fun g1 => ?_)
  refine ep_aload_n (q := 23) 0 dX6_image_22 rfl rfl rfl ?_
  refine ep_invVU2 (As := [.ref a0]) (rest := []) (q := 26) (⟨g1, rfl⟩) e0 cne (okX6_takeFrom) rfl calX6_takeFrom ml6_254 (by decide) rfl rfl (Nat.le_of_ble_eq_true rfl) dX6_image_23 rfl (fun z2 => ?_)
  refine ep_iconst (v := (1 : Int32)) (q := 27) dX6_image_26 (by decide) rfl ?_
  exact ep_iret rfl dX6_image_27
set_option maxRecDepth 100000 in
set_option maxHeartbeats 4000000 in
theorem okX6_image_0 {G : GG} {X : Nat → Prop} {ob0 : List Nat → Nat} {t0 : TF} {h00 : PH} (p : List Nat) (t : TF) (ob : List Nat → Nat) (a0 : Nat) (e0 : AtF ob t (p) a0) : EvP G 3 mX6_image X ob0 t0 h00 rwI (fX6_image_0 p t) 0 [(0, .ref a0)] [] t ob := by
  unfold fX6_image_0
  refine ep_aload_n (q := 1) 0 dX6_image_0 rfl rfl rfl ?_
  refine ep_getZ (z := (8, 0, 28)) (q := 4) e0 (by decide) rfl fl6_385 rfl dX6_image_1 rfl ?_
  refine ep_ifnonnull (tgt := 18) (q := 7) dX6_image_4 (by decide) rfl (fun h1 => ?_) (fun h1 => ?_)
  · refine ep_sub (lv' := [(0, .ref a0)]) [0] rfl ?_
    exact okX6_image_18 p t ob a0 e0
  · refine ep_aload_n (q := 8) 0 dX6_image_7 rfl rfl rfl ?_
    refine ep_guard (fun g2 => ?_)
    refine ep_newP newOK (z := (8, 0, 28)) (q := 18) e0 (by decide) rfl g2 h1 rfl (by decide) fl6_385 rfl rfl (by decide) dX6_image_8 dX6_image_11 dX6_image_12 dX6_image_15 rfl (fun obz3 mvz3 => ?_)
    refine ep_sub (lv' := [(0, .ref a0)]) [0] rfl ?_
    exact okX6_image_18 p (mkT t (8 :: p) S0R) obz3 a0 (mvz3 _ _ e0)
theorem okX6_image (p : List Nat) : MtP 3 mX6_image rwI p (fun a => [.ref a]) (fX6_image p) := by
  refine MtP.of (by decide +kernel) rfl (fun _ => Nat.le_of_ble_eq_true rfl) (fun G X ob t h a e => ?_)
  refine ep_sub (lv := [(0, .ref a)]) (lv' := [(0, .ref a)]) [0] rfl ?_
  exact okX6_image_0 p t ob a e
-- X6_wouldBe
theorem dX6_wouldBe_0 : decode cX6_wouldBe 0 = .ok (.aload_n 0, 1) := by decide +kernel
theorem dX6_wouldBe_1 : decode cX6_wouldBe 1 = .ok (.getfield 93, 3) := by decide +kernel
theorem dX6_wouldBe_4 : decode cX6_wouldBe 4 = .ok (.ifCond .ne 5, 3) := by decide +kernel
theorem dX6_wouldBe_7 : decode cX6_wouldBe 7 = .ok (.iconst 0, 1) := by decide +kernel
theorem dX6_wouldBe_8 : decode cX6_wouldBe 8 = .ok (.ireturn, 1) := by decide +kernel
theorem dX6_wouldBe_9 : decode cX6_wouldBe 9 = .ok (.aload_n 0, 1) := by decide +kernel
theorem dX6_wouldBe_10 : decode cX6_wouldBe 10 = .ok (.getfield 58, 3) := by decide +kernel
theorem dX6_wouldBe_13 : decode cX6_wouldBe 13 = .ok (.iload_n 1, 1) := by decide +kernel
theorem dX6_wouldBe_14 : decode cX6_wouldBe 14 = .ok (.iaload, 1) := by decide +kernel
theorem dX6_wouldBe_15 : decode cX6_wouldBe 15 = .ok (.tableswitch 92 1 5 #[33, 63, 68, 38, 73], 33) := by decide +kernel
theorem dX6_wouldBe_48 : decode cX6_wouldBe 48 = .ok (.aload_n 0, 1) := by decide +kernel
theorem dX6_wouldBe_49 : decode cX6_wouldBe 49 = .ok (.invokevirtual 307, 3) := by decide +kernel
theorem dX6_wouldBe_52 : decode cX6_wouldBe 52 = .ok (.ireturn, 1) := by decide +kernel
theorem dX6_wouldBe_53 : decode cX6_wouldBe 53 = .ok (.aload_n 0, 1) := by decide +kernel
theorem dX6_wouldBe_54 : decode cX6_wouldBe 54 = .ok (.getfield 289, 3) := by decide +kernel
theorem dX6_wouldBe_57 : decode cX6_wouldBe 57 = .ok (.aload_n 0, 1) := by decide +kernel
theorem dX6_wouldBe_58 : decode cX6_wouldBe 58 = .ok (.getfield 61, 3) := by decide +kernel
theorem dX6_wouldBe_61 : decode cX6_wouldBe 61 = .ok (.iload_n 1, 1) := by decide +kernel
theorem dX6_wouldBe_62 : decode cX6_wouldBe 62 = .ok (.iaload, 1) := by decide +kernel
theorem dX6_wouldBe_63 : decode cX6_wouldBe 63 = .ok (.iconst 2, 1) := by decide +kernel
theorem dX6_wouldBe_64 : decode cX6_wouldBe 64 = .ok (.iadd, 1) := by decide +kernel
theorem dX6_wouldBe_65 : decode cX6_wouldBe 65 = .ok (.irem, 1) := by decide +kernel
theorem dX6_wouldBe_66 : decode cX6_wouldBe 66 = .ok (.ifCond .eq 7, 3) := by decide +kernel
theorem dX6_wouldBe_69 : decode cX6_wouldBe 69 = .ok (.iconst 0, 1) := by decide +kernel
theorem dX6_wouldBe_70 : decode cX6_wouldBe 70 = .ok (.goto 7, 3) := by decide +kernel
theorem dX6_wouldBe_73 : decode cX6_wouldBe 73 = .ok (.aload_n 0, 1) := by decide +kernel
theorem dX6_wouldBe_74 : decode cX6_wouldBe 74 = .ok (.invokevirtual 307, 3) := by decide +kernel
theorem dX6_wouldBe_77 : decode cX6_wouldBe 77 = .ok (.ireturn, 1) := by decide +kernel
theorem dX6_wouldBe_78 : decode cX6_wouldBe 78 = .ok (.aload_n 0, 1) := by decide +kernel
theorem dX6_wouldBe_79 : decode cX6_wouldBe 79 = .ok (.invokevirtual 323, 3) := by decide +kernel
theorem dX6_wouldBe_82 : decode cX6_wouldBe 82 = .ok (.ireturn, 1) := by decide +kernel
theorem dX6_wouldBe_83 : decode cX6_wouldBe 83 = .ok (.aload_n 0, 1) := by decide +kernel
theorem dX6_wouldBe_84 : decode cX6_wouldBe 84 = .ok (.invokevirtual 326, 3) := by decide +kernel
theorem dX6_wouldBe_87 : decode cX6_wouldBe 87 = .ok (.ireturn, 1) := by decide +kernel
theorem dX6_wouldBe_88 : decode cX6_wouldBe 88 = .ok (.aload_n 0, 1) := by decide +kernel
theorem dX6_wouldBe_89 : decode cX6_wouldBe 89 = .ok (.aload_n 0, 1) := by decide +kernel
theorem dX6_wouldBe_90 : decode cX6_wouldBe 90 = .ok (.getfield 61, 3) := by decide +kernel
theorem dX6_wouldBe_93 : decode cX6_wouldBe 93 = .ok (.iload_n 1, 1) := by decide +kernel
theorem dX6_wouldBe_94 : decode cX6_wouldBe 94 = .ok (.iaload, 1) := by decide +kernel
theorem dX6_wouldBe_95 : decode cX6_wouldBe 95 = .ok (.iconst 3, 1) := by decide +kernel
theorem dX6_wouldBe_96 : decode cX6_wouldBe 96 = .ok (.irem, 1) := by decide +kernel
theorem dX6_wouldBe_97 : decode cX6_wouldBe 97 = .ok (.iconst 1, 1) := by decide +kernel
theorem dX6_wouldBe_98 : decode cX6_wouldBe 98 = .ok (.iadd, 1) := by decide +kernel
theorem dX6_wouldBe_99 : decode cX6_wouldBe 99 = .ok (.invokevirtual 320, 3) := by decide +kernel
theorem dX6_wouldBe_102 : decode cX6_wouldBe 102 = .ok (.aload_n 0, 1) := by decide +kernel
theorem dX6_wouldBe_103 : decode cX6_wouldBe 103 = .ok (.getfield 317, 3) := by decide +kernel
theorem dX6_wouldBe_106 : decode cX6_wouldBe 106 = .ok (.ireturn, 1) := by decide +kernel
theorem dX6_wouldBe_107 : decode cX6_wouldBe 107 = .ok (.iconst 1, 1) := by decide +kernel
theorem dX6_wouldBe_108 : decode cX6_wouldBe 108 = .ok (.ireturn, 1) := by decide +kernel
def fX6_wouldBe_0 (p : List Nat) (x1 : Int32) (t : TF) : Option (Int32 × TF) := if ((t.2 p).1 0 10) = 0 then (some ((0 : Int32), t)) else (if ixB x1 4 then (if ((t.2 p).1 25 x1.toNatClampNeg) = (1 : Int32) then (((fX6_roundAct (t.2 p)).bind fun z4 => some (z4.1, wrT t p z4.2))) else (if ((t.2 p).1 25 x1.toNatClampNeg) = (2 : Int32) then (((fX6_wettestAct (t.2 p)).bind fun z6 => some (z6.1, wrT t p z6.2))) else (if ((t.2 p).1 25 x1.toNatClampNeg) = (3 : Int32) then (((fX6_lowestAct (t.2 p)).bind fun z8 => some (z8.1, wrT t p z8.2))) else (if ((t.2 p).1 25 x1.toNatClampNeg) = (4 : Int32) then (if ixB x1 4 then (if ¬ (((t.2 p).1 26 x1.toNatClampNeg) + (2 : Int32)) = 0 then (if (((t.2 p).1 0 18) - ((t.2 p).1 0 18) / (((t.2 p).1 26 x1.toNatClampNeg) + (2 : Int32)) * (((t.2 p).1 26 x1.toNatClampNeg) + (2 : Int32))) = 0 then (((fX6_roundAct (t.2 p)).bind fun z13 => some (z13.1, wrT t p z13.2))) else (some ((0 : Int32), t))) else none) else none) else (if ((t.2 p).1 25 x1.toNatClampNeg) = (5 : Int32) then (if ixB x1 4 then (((fX6_findPlan p ((((t.2 p).1 26 x1.toNatClampNeg) - ((t.2 p).1 26 x1.toNatClampNeg) / (3 : Int32) * (3 : Int32)) + (1 : Int32)) t).bind fun z16 => some ((z16.2.2 p).1 0 38, z16.2))) else none) else (some ((1 : Int32), t))))))) else none)
def fX6_wouldBe (p : List Nat) (x1 : Int32) (t : TF) : Option (Int32 × TF) := fX6_wouldBe_0 p x1 t
set_option maxRecDepth 100000 in
set_option maxHeartbeats 4000000 in
theorem okX6_wouldBe_0 {G : GG} {X : Nat → Prop} {ob0 : List Nat → Nat} {t0 : TF} {h00 : PH} (p : List Nat) (x1 : Int32) (t : TF) (ob : List Nat → Nat) (a0 : Nat) (e0 : AtF ob t (p) a0) : EvP G 9 mX6_wouldBe X ob0 t0 h00 rwI (fX6_wouldBe_0 p x1 t) 0 [(0, .ref a0), (1, .int x1)] [] t ob := by
  unfold fX6_wouldBe_0
  refine ep_aload_n (q := 1) 0 dX6_wouldBe_0 rfl rfl rfl ?_
  refine ep_getI (x := (t.2 p).1 0 10) (q := 4) e0 fl6_93 rfl rfl dX6_wouldBe_1 rfl ?_
  refine ep_if (pt := 7) (pf := 9) (fun _ _ _ _ _ _ kt kf => ev_if_ne (tgt := 9) dX6_wouldBe_4 (by decide) kf kt) (fun h1 => ?_) (fun h1 => ?_)
  · refine ep_iconst (v := (0 : Int32)) (q := 8) dX6_wouldBe_7 (by decide) rfl ?_
    exact ep_iret rfl dX6_wouldBe_8
  · refine ep_aload_n (q := 10) 0 dX6_wouldBe_9 rfl rfl rfl ?_
    refine ep_getR (k := 25) (q := 13) e0 fl6_58 rfl rfl rfl dX6_wouldBe_10 rfl ?_
    refine ep_iload_n (q := 14) 1 dX6_wouldBe_13 rfl rfl rfl ?_
    refine ep_guard (fun g2 => ?_)
    refine ep_iaload (x := (t.2 p).1 25 x1.toNatClampNeg) (q := 15) e0 rfl g2 dX6_wouldBe_14 rfl rfl ?_
    refine ep_dec (fun h3 => ?_) (fun h3 => ?_)
    · refine ep_of (fun _ _ _ _ _ _ => ev_tableIn (tgt := 48) dX6_wouldBe_15 (by rw [h3]; decide) (by rw [h3]; decide) (off := 33) (by rw [h3]; rfl) (by decide)) ?_
      refine ep_aload_n (q := 49) 0 dX6_wouldBe_48 rfl rfl rfl ?_
      refine ep_invVI1 (As := []) (rest := []) (q := 52) e0 (okX6_roundAct) rfl calX6_roundAct ml6_307 (by decide) rfl rfl (Nat.le_of_ble_eq_true rfl) dX6_wouldBe_49 rfl (fun z4 => ?_)
      exact ep_iret rfl dX6_wouldBe_52
    refine ep_dec (fun h5 => ?_) (fun h5 => ?_)
    · refine ep_of (fun _ _ _ _ _ _ => ev_tableIn (tgt := 78) dX6_wouldBe_15 (by rw [h5]; decide) (by rw [h5]; decide) (off := 63) (by rw [h5]; rfl) (by decide)) ?_
      refine ep_aload_n (q := 79) 0 dX6_wouldBe_78 rfl rfl rfl ?_
      refine ep_invVI1 (As := []) (rest := []) (q := 82) e0 (okX6_wettestAct) rfl calX6_wettestAct ml6_323 (by decide) rfl rfl (Nat.le_of_ble_eq_true rfl) dX6_wouldBe_79 rfl (fun z6 => ?_)
      exact ep_iret rfl dX6_wouldBe_82
    refine ep_dec (fun h7 => ?_) (fun h7 => ?_)
    · refine ep_of (fun _ _ _ _ _ _ => ev_tableIn (tgt := 83) dX6_wouldBe_15 (by rw [h7]; decide) (by rw [h7]; decide) (off := 68) (by rw [h7]; rfl) (by decide)) ?_
      refine ep_aload_n (q := 84) 0 dX6_wouldBe_83 rfl rfl rfl ?_
      refine ep_invVI1 (As := []) (rest := []) (q := 87) e0 (okX6_lowestAct) rfl calX6_lowestAct ml6_326 (by decide) rfl rfl (Nat.le_of_ble_eq_true rfl) dX6_wouldBe_84 rfl (fun z8 => ?_)
      exact ep_iret rfl dX6_wouldBe_87
    refine ep_dec (fun h9 => ?_) (fun h9 => ?_)
    · refine ep_of (fun _ _ _ _ _ _ => ev_tableIn (tgt := 53) dX6_wouldBe_15 (by rw [h9]; decide) (by rw [h9]; decide) (off := 38) (by rw [h9]; rfl) (by decide)) ?_
      refine ep_aload_n (q := 54) 0 dX6_wouldBe_53 rfl rfl rfl ?_
      refine ep_getI (x := (t.2 p).1 0 18) (q := 57) e0 fl6_289 rfl rfl dX6_wouldBe_54 rfl ?_
      refine ep_aload_n (q := 58) 0 dX6_wouldBe_57 rfl rfl rfl ?_
      refine ep_getR (k := 26) (q := 61) e0 fl6_61 rfl rfl rfl dX6_wouldBe_58 rfl ?_
      refine ep_iload_n (q := 62) 1 dX6_wouldBe_61 rfl rfl rfl ?_
      refine ep_guard (fun g10 => ?_)
      refine ep_iaload (x := (t.2 p).1 26 x1.toNatClampNeg) (q := 63) e0 rfl g10 dX6_wouldBe_62 rfl rfl ?_
      refine ep_iconst (v := (2 : Int32)) (q := 64) dX6_wouldBe_63 (by decide) rfl ?_
      refine ep_iadd (q := 65) dX6_wouldBe_64 rfl ?_
      refine ep_guard (fun g11 => ?_)
      refine ep_irem (q := 66) dX6_wouldBe_65 g11 rfl ?_
      refine ep_if (pt := 73) (pf := 69) (fun _ _ _ _ _ _ => ev_if_eq (tgt := 73) dX6_wouldBe_66 (by decide)) (fun h12 => ?_) (fun h12 => ?_)
      · refine ep_aload_n (q := 74) 0 dX6_wouldBe_73 rfl rfl rfl ?_
        refine ep_invVI1 (As := []) (rest := []) (q := 77) e0 (okX6_roundAct) rfl calX6_roundAct ml6_307 (by decide) rfl rfl (Nat.le_of_ble_eq_true rfl) dX6_wouldBe_74 rfl (fun z13 => ?_)
        exact ep_iret rfl dX6_wouldBe_77
      · refine ep_iconst (v := (0 : Int32)) (q := 70) dX6_wouldBe_69 (by decide) rfl ?_
        refine ep_goto (tgt := 77) dX6_wouldBe_70 (by decide) ?_
        exact ep_iret rfl dX6_wouldBe_77
    refine ep_dec (fun h14 => ?_) (fun h14 => ?_)
    · refine ep_of (fun _ _ _ _ _ _ => ev_tableIn (tgt := 88) dX6_wouldBe_15 (by rw [h14]; decide) (by rw [h14]; decide) (off := 73) (by rw [h14]; rfl) (by decide)) ?_
      refine ep_aload_n (q := 89) 0 dX6_wouldBe_88 rfl rfl rfl ?_
      refine ep_aload_n (q := 90) 0 dX6_wouldBe_89 rfl rfl rfl ?_
      refine ep_getR (k := 26) (q := 93) e0 fl6_61 rfl rfl rfl dX6_wouldBe_90 rfl ?_
      refine ep_iload_n (q := 94) 1 dX6_wouldBe_93 rfl rfl rfl ?_
      refine ep_guard (fun g15 => ?_)
      refine ep_iaload (x := (t.2 p).1 26 x1.toNatClampNeg) (q := 95) e0 rfl g15 dX6_wouldBe_94 rfl rfl ?_
      refine ep_iconst (v := (3 : Int32)) (q := 96) dX6_wouldBe_95 (by decide) rfl ?_
      refine ep_irem (q := 97) dX6_wouldBe_96 (by decide) rfl ?_
      refine ep_iconst (v := (1 : Int32)) (q := 98) dX6_wouldBe_97 (by decide) rfl ?_
      refine ep_iadd (q := 99) dX6_wouldBe_98 rfl ?_
      refine ep_invVUP (As := [.int ((((t.2 p).1 26 x1.toNatClampNeg) - ((t.2 p).1 26 x1.toNatClampNeg) / (3 : Int32) * (3 : Int32)) + (1 : Int32))]) (rest := []) (q := 102) e0 (okX6_findPlan p ((((t.2 p).1 26 x1.toNatClampNeg) - ((t.2 p).1 26 x1.toNatClampNeg) / (3 : Int32) * (3 : Int32)) + (1 : Int32))) rfl calX6_findPlan ml6_320 (by decide) rfl rfl (Nat.le_of_ble_eq_true rfl) dX6_wouldBe_99 rfl (fun z16 obz16 _ mvz16 => ?_)
      refine ep_aload_n (q := 103) 0 dX6_wouldBe_102 rfl rfl rfl ?_
      refine ep_getI (x := (z16.2.2 p).1 0 38) (q := 106) (mvz16 _ _ e0) fl6_317 rfl rfl dX6_wouldBe_103 rfl ?_
      exact ep_iret rfl dX6_wouldBe_106
    have hsw : ((t.2 p).1 25 x1.toNatClampNeg : Int32).toInt < 1 ∨ 5 < ((t.2 p).1 25 x1.toNatClampNeg : Int32).toInt := by
      have th3 := ne_toI (k := 1) h3 (by decide)
      have th5 := ne_toI (k := 2) h5 (by decide)
      have th7 := ne_toI (k := 3) h7 (by decide)
      have th9 := ne_toI (k := 4) h9 (by decide)
      have th14 := ne_toI (k := 5) h14 (by decide)
      omega
    refine ep_of (fun _ _ _ _ _ _ => ev_tableOut (tgt := 107) dX6_wouldBe_15 hsw (by decide)) ?_
    refine ep_iconst (v := (1 : Int32)) (q := 108) dX6_wouldBe_107 (by decide) rfl ?_
    exact ep_iret rfl dX6_wouldBe_108
theorem okX6_wouldBe (p : List Nat) (x1 : Int32) : MtP 9 mX6_wouldBe rwI p (fun a => [.ref a, .int x1]) (fX6_wouldBe p x1) := by
  refine MtP.of (by decide +kernel) rfl (fun _ => Nat.le_of_ble_eq_true rfl) (fun G X ob t h a e => ?_)
  refine ep_sub (lv := [(0, .ref a), (1, .int x1)]) (lv' := [(0, .ref a), (1, .int x1)]) [0, 1] rfl ?_
  exact okX6_wouldBe_0 p x1 t ob a e
-- X6_says
theorem dX6_says_0 : decode cX6_says 0 = .ok (.iload_n 1, 1) := by decide +kernel
theorem dX6_says_1 : decode cX6_says 1 = .ok (.i2l, 1) := by decide +kernel
theorem dX6_says_2 : decode cX6_says 2 = .ok (.lconst 0, 1) := by decide +kernel
theorem dX6_says_3 : decode cX6_says 3 = .ok (.ldc2_w 96, 3) := by decide +kernel
theorem dX6_says_6 : decode cX6_says 6 = .ok (.invokestatic 89, 3) := by decide +kernel
theorem dX6_says_9 : decode cX6_says 9 = .ok (.ifCond .eq 15, 3) := by decide +kernel
theorem dX6_says_12 : decode cX6_says 12 = .ok (.iload_n 2, 1) := by decide +kernel
theorem dX6_says_13 : decode cX6_says 13 = .ok (.i2l, 1) := by decide +kernel
theorem dX6_says_14 : decode cX6_says 14 = .ok (.lconst 0, 1) := by decide +kernel
theorem dX6_says_15 : decode cX6_says 15 = .ok (.ldc2_w 117, 3) := by decide +kernel
theorem dX6_says_18 : decode cX6_says 18 = .ok (.invokestatic 89, 3) := by decide +kernel
theorem dX6_says_21 : decode cX6_says 21 = .ok (.ifCond .ne 10, 3) := by decide +kernel
theorem dX6_says_24 : decode cX6_says 24 = .ok (.aload_n 0, 1) := by decide +kernel
theorem dX6_says_25 : decode cX6_says 25 = .ok (.bipush (-2), 2) := by decide +kernel
theorem dX6_says_27 : decode cX6_says 27 = .ok (.invokevirtual 102, 3) := by decide +kernel
theorem dX6_says_30 : decode cX6_says 30 = .ok (.ireturn, 1) := by decide +kernel
theorem dX6_says_31 : decode cX6_says 31 = .ok (.aload_n 0, 1) := by decide +kernel
theorem dX6_says_32 : decode cX6_says 32 = .ok (.getfield 7, 3) := by decide +kernel
theorem dX6_says_35 : decode cX6_says 35 = .ok (.iload_n 1, 1) := by decide +kernel
theorem dX6_says_36 : decode cX6_says 36 = .ok (.iaload, 1) := by decide +kernel
theorem dX6_says_37 : decode cX6_says 37 = .ok (.iconst 1, 1) := by decide +kernel
theorem dX6_says_38 : decode cX6_says 38 = .ok (.if_icmp .eq 31, 3) := by decide +kernel
theorem dX6_says_41 : decode cX6_says 41 = .ok (.aload_n 0, 1) := by decide +kernel
theorem dX6_says_42 : decode cX6_says 42 = .ok (.getfield 7, 3) := by decide +kernel
theorem dX6_says_45 : decode cX6_says 45 = .ok (.iload_n 1, 1) := by decide +kernel
theorem dX6_says_46 : decode cX6_says 46 = .ok (.iaload, 1) := by decide +kernel
theorem dX6_says_47 : decode cX6_says 47 = .ok (.iconst 2, 1) := by decide +kernel
theorem dX6_says_48 : decode cX6_says 48 = .ok (.if_icmp .ne 28, 3) := by decide +kernel
theorem dX6_says_51 : decode cX6_says 51 = .ok (.aload_n 0, 1) := by decide +kernel
theorem dX6_says_52 : decode cX6_says 52 = .ok (.getfield 58, 3) := by decide +kernel
theorem dX6_says_55 : decode cX6_says 55 = .ok (.aload_n 0, 1) := by decide +kernel
theorem dX6_says_56 : decode cX6_says 56 = .ok (.getfield 28, 3) := by decide +kernel
theorem dX6_says_59 : decode cX6_says 59 = .ok (.iload_n 1, 1) := by decide +kernel
theorem dX6_says_60 : decode cX6_says 60 = .ok (.iaload, 1) := by decide +kernel
theorem dX6_says_61 : decode cX6_says 61 = .ok (.iaload, 1) := by decide +kernel
theorem dX6_says_62 : decode cX6_says 62 = .ok (.iload_n 2, 1) := by decide +kernel
theorem dX6_says_63 : decode cX6_says 63 = .ok (.invokestatic 119, 3) := by decide +kernel
theorem dX6_says_66 : decode cX6_says 66 = .ok (.ifCond .ne 10, 3) := by decide +kernel
theorem dX6_says_69 : decode cX6_says 69 = .ok (.aload_n 0, 1) := by decide +kernel
theorem dX6_says_70 : decode cX6_says 70 = .ok (.bipush (-3), 2) := by decide +kernel
theorem dX6_says_72 : decode cX6_says 72 = .ok (.invokevirtual 102, 3) := by decide +kernel
theorem dX6_says_75 : decode cX6_says 75 = .ok (.ireturn, 1) := by decide +kernel
theorem dX6_says_76 : decode cX6_says 76 = .ok (.aload_n 0, 1) := by decide +kernel
theorem dX6_says_77 : decode cX6_says 77 = .ok (.getfield 7, 3) := by decide +kernel
theorem dX6_says_80 : decode cX6_says 80 = .ok (.iload_n 1, 1) := by decide +kernel
theorem dX6_says_81 : decode cX6_says 81 = .ok (.iaload, 1) := by decide +kernel
theorem dX6_says_82 : decode cX6_says 82 = .ok (.ifCond .ne 10, 3) := by decide +kernel
theorem dX6_says_85 : decode cX6_says 85 = .ok (.aload_n 0, 1) := by decide +kernel
theorem dX6_says_86 : decode cX6_says 86 = .ok (.bipush (-4), 2) := by decide +kernel
theorem dX6_says_88 : decode cX6_says 88 = .ok (.invokevirtual 102, 3) := by decide +kernel
theorem dX6_says_91 : decode cX6_says 91 = .ok (.ireturn, 1) := by decide +kernel
theorem dX6_says_92 : decode cX6_says 92 = .ok (.iload_n 2, 1) := by decide +kernel
theorem dX6_says_93 : decode cX6_says 93 = .ok (.ifCond .ne 17, 3) := by decide +kernel
theorem dX6_says_96 : decode cX6_says 96 = .ok (.aload_n 0, 1) := by decide +kernel
theorem dX6_says_97 : decode cX6_says 97 = .ok (.getfield 61, 3) := by decide +kernel
theorem dX6_says_100 : decode cX6_says 100 = .ok (.aload_n 0, 1) := by decide +kernel
theorem dX6_says_101 : decode cX6_says 101 = .ok (.getfield 28, 3) := by decide +kernel
theorem dX6_says_104 : decode cX6_says 104 = .ok (.iload_n 1, 1) := by decide +kernel
theorem dX6_says_105 : decode cX6_says 105 = .ok (.iaload, 1) := by decide +kernel
theorem dX6_says_106 : decode cX6_says 106 = .ok (.iaload, 1) := by decide +kernel
theorem dX6_says_107 : decode cX6_says 107 = .ok (.goto 13, 3) := by decide +kernel
theorem dX6_says_110 : decode cX6_says 110 = .ok (.aload_n 0, 1) := by decide +kernel
theorem dX6_says_111 : decode cX6_says 111 = .ok (.aload_n 0, 1) := by decide +kernel
theorem dX6_says_112 : decode cX6_says 112 = .ok (.getfield 28, 3) := by decide +kernel
theorem dX6_says_115 : decode cX6_says 115 = .ok (.iload_n 1, 1) := by decide +kernel
theorem dX6_says_116 : decode cX6_says 116 = .ok (.iaload, 1) := by decide +kernel
theorem dX6_says_117 : decode cX6_says 117 = .ok (.invokevirtual 123, 3) := by decide +kernel
theorem dX6_says_120 : decode cX6_says 120 = .ok (.ireturn, 1) := by decide +kernel
def fX6_says_24 (p : List Nat) (t : TF) : Option (Int32 × TF) := ((fX6_refuse (-2 : Int32) (t.2 p)).bind fun z1 => some (z1.1, wrT t p z1.2))
def fX6_says_69 (p : List Nat) (t : TF) : Option (Int32 × TF) := ((fX6_refuse (-3 : Int32) (t.2 p)).bind fun z1 => some (z1.1, wrT t p z1.2))
def fX6_says_76 (p : List Nat) (x1 : Int32) (x2 : Int32) (t : TF) : Option (Int32 × TF) := if ixB x1 8 then (if ((t.2 p).1 1 x1.toNatClampNeg) = 0 then (((fX6_refuse (-4 : Int32) (t.2 p)).bind fun z3 => some (z3.1, wrT t p z3.2))) else (if x2 = 0 then (if ixB x1 8 then (if ixB ((t.2 p).1 14 x1.toNatClampNeg) 4 then (some ((t.2 p).1 26 (((t.2 p).1 14 x1.toNatClampNeg).toNatClampNeg), t)) else none) else none) else (if ixB x1 8 then (((fX6_wouldBe p ((t.2 p).1 14 x1.toNatClampNeg) t).bind fun z8 => some (z8.1, z8.2))) else none))) else none
def fX6_says_0 (p : List Nat) (x1 : Int32) (x2 : Int32) (t : TF) : Option (Int32 × TF) := ((fX6_in x1.toInt64 (0 : Int64) (7 : Int64) (t.2 p)).bind fun z1 => if z1.1 = 0 then (fX6_says_24 p t) else (((fX6_in x2.toInt64 (0 : Int64) (5 : Int64) (t.2 p)).bind fun z3 => if z3.1 = 0 then (fX6_says_24 p t) else (if ixB x1 8 then (if ((t.2 p).1 1 x1.toNatClampNeg) = (1 : Int32) then (fX6_says_69 p t) else (if ixB x1 8 then (if ((t.2 p).1 1 x1.toNatClampNeg) = (2 : Int32) then (if ixB x1 8 then (if ixB ((t.2 p).1 14 x1.toNatClampNeg) 4 then (((fX6_isUnder ((t.2 p).1 25 (((t.2 p).1 14 x1.toNatClampNeg).toNatClampNeg)) x2 (t.2 p)).bind fun z11 => if z11.1 = 0 then (fX6_says_69 p t) else (fX6_says_76 p x1 x2 t))) else none) else none) else (fX6_says_76 p x1 x2 t)) else none)) else none))))
def fX6_says (p : List Nat) (x1 : Int32) (x2 : Int32) (t : TF) : Option (Int32 × TF) := fX6_says_0 p x1 x2 t
set_option maxRecDepth 100000 in
set_option maxHeartbeats 4000000 in
theorem okX6_says_24 {G : GG} {X : Nat → Prop} {ob0 : List Nat → Nat} {t0 : TF} {h00 : PH} (p : List Nat) (t : TF) (ob : List Nat → Nat) (a0 : Nat) (e0 : AtF ob t (p) a0) : EvP G 10 mX6_says X ob0 t0 h00 rwI (fX6_says_24 p t) 24 [(0, .ref a0)] [] t ob := by
  unfold fX6_says_24
  refine ep_aload_n (q := 25) 0 dX6_says_24 rfl rfl rfl ?_
  refine ep_bipush (v := (-2 : Int32)) (q := 27) dX6_says_25 (by decide) rfl ?_
  refine ep_invVI1 (As := [.int (-2 : Int32)]) (rest := []) (q := 30) e0 (okX6_refuse (-2 : Int32)) rfl calX6_refuse ml6_102 (by decide) rfl rfl (Nat.le_of_ble_eq_true rfl) dX6_says_27 rfl (fun z1 => ?_)
  exact ep_iret rfl dX6_says_30
set_option maxRecDepth 100000 in
set_option maxHeartbeats 4000000 in
theorem okX6_says_69 {G : GG} {X : Nat → Prop} {ob0 : List Nat → Nat} {t0 : TF} {h00 : PH} (p : List Nat) (t : TF) (ob : List Nat → Nat) (a0 : Nat) (e0 : AtF ob t (p) a0) : EvP G 10 mX6_says X ob0 t0 h00 rwI (fX6_says_69 p t) 69 [(0, .ref a0)] [] t ob := by
  unfold fX6_says_69
  refine ep_aload_n (q := 70) 0 dX6_says_69 rfl rfl rfl ?_
  refine ep_bipush (v := (-3 : Int32)) (q := 72) dX6_says_70 (by decide) rfl ?_
  refine ep_invVI1 (As := [.int (-3 : Int32)]) (rest := []) (q := 75) e0 (okX6_refuse (-3 : Int32)) rfl calX6_refuse ml6_102 (by decide) rfl rfl (Nat.le_of_ble_eq_true rfl) dX6_says_72 rfl (fun z1 => ?_)
  exact ep_iret rfl dX6_says_75
set_option maxRecDepth 100000 in
set_option maxHeartbeats 4000000 in
theorem okX6_says_76 {G : GG} {X : Nat → Prop} {ob0 : List Nat → Nat} {t0 : TF} {h00 : PH} (p : List Nat) (x1 : Int32) (x2 : Int32) (t : TF) (ob : List Nat → Nat) (a0 : Nat) (e0 : AtF ob t (p) a0) : EvP G 10 mX6_says X ob0 t0 h00 rwI (fX6_says_76 p x1 x2 t) 76 [(0, .ref a0), (1, .int x1), (2, .int x2)] [] t ob := by
  unfold fX6_says_76
  refine ep_aload_n (q := 77) 0 dX6_says_76 rfl rfl rfl ?_
  refine ep_getR (k := 1) (q := 80) e0 fl6_7 rfl rfl rfl dX6_says_77 rfl ?_
  refine ep_iload_n (q := 81) 1 dX6_says_80 rfl rfl rfl ?_
  refine ep_guard (fun g1 => ?_)
  refine ep_iaload (x := (t.2 p).1 1 x1.toNatClampNeg) (q := 82) e0 rfl g1 dX6_says_81 rfl rfl ?_
  refine ep_if (pt := 85) (pf := 92) (fun _ _ _ _ _ _ kt kf => ev_if_ne (tgt := 92) dX6_says_82 (by decide) kf kt) (fun h2 => ?_) (fun h2 => ?_)
  · refine ep_aload_n (q := 86) 0 dX6_says_85 rfl rfl rfl ?_
    refine ep_bipush (v := (-4 : Int32)) (q := 88) dX6_says_86 (by decide) rfl ?_
    refine ep_invVI1 (As := [.int (-4 : Int32)]) (rest := []) (q := 91) e0 (okX6_refuse (-4 : Int32)) rfl calX6_refuse ml6_102 (by decide) rfl rfl (Nat.le_of_ble_eq_true rfl) dX6_says_88 rfl (fun z3 => ?_)
    exact ep_iret rfl dX6_says_91
  · refine ep_iload_n (q := 93) 2 dX6_says_92 rfl rfl rfl ?_
    refine ep_if (pt := 96) (pf := 110) (fun _ _ _ _ _ _ kt kf => ev_if_ne (tgt := 110) dX6_says_93 (by decide) kf kt) (fun h4 => ?_) (fun h4 => ?_)
    · refine ep_aload_n (q := 97) 0 dX6_says_96 rfl rfl rfl ?_
      refine ep_getR (k := 26) (q := 100) e0 fl6_61 rfl rfl rfl dX6_says_97 rfl ?_
      refine ep_aload_n (q := 101) 0 dX6_says_100 rfl rfl rfl ?_
      refine ep_getR (k := 14) (q := 104) e0 fl6_28 rfl rfl rfl dX6_says_101 rfl ?_
      refine ep_iload_n (q := 105) 1 dX6_says_104 rfl rfl rfl ?_
      refine ep_guard (fun g5 => ?_)
      refine ep_iaload (x := (t.2 p).1 14 x1.toNatClampNeg) (q := 106) e0 rfl g5 dX6_says_105 rfl rfl ?_
      refine ep_guard (fun g6 => ?_)
      refine ep_iaload (x := (t.2 p).1 26 (((t.2 p).1 14 x1.toNatClampNeg).toNatClampNeg)) (q := 107) e0 rfl g6 dX6_says_106 rfl rfl ?_
      refine ep_goto (tgt := 120) dX6_says_107 (by decide) ?_
      exact ep_iret rfl dX6_says_120
    · refine ep_aload_n (q := 111) 0 dX6_says_110 rfl rfl rfl ?_
      refine ep_aload_n (q := 112) 0 dX6_says_111 rfl rfl rfl ?_
      refine ep_getR (k := 14) (q := 115) e0 fl6_28 rfl rfl rfl dX6_says_112 rfl ?_
      refine ep_iload_n (q := 116) 1 dX6_says_115 rfl rfl rfl ?_
      refine ep_guard (fun g7 => ?_)
      refine ep_iaload (x := (t.2 p).1 14 x1.toNatClampNeg) (q := 117) e0 rfl g7 dX6_says_116 rfl rfl ?_
      refine ep_invVIP (As := [.int ((t.2 p).1 14 x1.toNatClampNeg)]) (rest := []) (q := 120) e0 (okX6_wouldBe p ((t.2 p).1 14 x1.toNatClampNeg)) rfl calX6_wouldBe ml6_123 (by decide) rfl rfl (Nat.le_of_ble_eq_true rfl) dX6_says_117 rfl (fun z8 obz8 _ mvz8 => ?_)
      exact ep_iret rfl dX6_says_120
set_option maxRecDepth 100000 in
set_option maxHeartbeats 4000000 in
theorem okX6_says_0 {G : GG} {X : Nat → Prop} {ob0 : List Nat → Nat} {t0 : TF} {h00 : PH} (p : List Nat) (x1 : Int32) (x2 : Int32) (t : TF) (ob : List Nat → Nat) (a0 : Nat) (e0 : AtF ob t (p) a0) : EvP G 10 mX6_says X ob0 t0 h00 rwI (fX6_says_0 p x1 x2 t) 0 [(0, .ref a0), (1, .int x1), (2, .int x2)] [] t ob := by
  unfold fX6_says_0
  refine ep_iload_n (q := 1) 1 dX6_says_0 rfl rfl rfl ?_
  refine ep_i2l (v := x1.toInt64) (q := 2) dX6_says_1 rfl rfl ?_
  refine ep_lconst (v := (0 : Int64)) (q := 3) dX6_says_2 (by decide) rfl ?_
  refine ep_ldc2 (v := (7 : Int64)) (q := 6) k6_96 dX6_says_3 rfl ?_
  refine ep_invPI (s := t.2 p) (As := [.long x1.toInt64, .long (0 : Int64), .long (7 : Int64)]) (rest := []) (q := 9) (okX6_in x1.toInt64 (0 : Int64) (7 : Int64)) rfl calX6_in ml6_89 (by decide) rfl rfl (Nat.le_of_ble_eq_true rfl) dX6_says_6 rfl (fun z1 => ?_)
  refine ep_if (pt := 24) (pf := 12) (fun _ _ _ _ _ _ => ev_if_eq (tgt := 24) dX6_says_9 (by decide)) (fun h2 => ?_) (fun h2 => ?_)
  · refine ep_sub (lv' := [(0, .ref a0)]) [0] rfl ?_
    exact okX6_says_24 p t ob a0 e0
  · refine ep_iload_n (q := 13) 2 dX6_says_12 rfl rfl rfl ?_
    refine ep_i2l (v := x2.toInt64) (q := 14) dX6_says_13 rfl rfl ?_
    refine ep_lconst (v := (0 : Int64)) (q := 15) dX6_says_14 (by decide) rfl ?_
    refine ep_ldc2 (v := (5 : Int64)) (q := 18) k6_117 dX6_says_15 rfl ?_
    refine ep_invPI (s := t.2 p) (As := [.long x2.toInt64, .long (0 : Int64), .long (5 : Int64)]) (rest := []) (q := 21) (okX6_in x2.toInt64 (0 : Int64) (5 : Int64)) rfl calX6_in ml6_89 (by decide) rfl rfl (Nat.le_of_ble_eq_true rfl) dX6_says_18 rfl (fun z3 => ?_)
    refine ep_if (pt := 24) (pf := 31) (fun _ _ _ _ _ _ kt kf => ev_if_ne (tgt := 31) dX6_says_21 (by decide) kf kt) (fun h4 => ?_) (fun h4 => ?_)
    · refine ep_sub (lv' := [(0, .ref a0)]) [0] rfl ?_
      exact okX6_says_24 p t ob a0 e0
    · refine ep_aload_n (q := 32) 0 dX6_says_31 rfl rfl rfl ?_
      refine ep_getR (k := 1) (q := 35) e0 fl6_7 rfl rfl rfl dX6_says_32 rfl ?_
      refine ep_iload_n (q := 36) 1 dX6_says_35 rfl rfl rfl ?_
      refine ep_guard (fun g5 => ?_)
      refine ep_iaload (x := (t.2 p).1 1 x1.toNatClampNeg) (q := 37) e0 rfl g5 dX6_says_36 rfl rfl ?_
      refine ep_iconst (v := (1 : Int32)) (q := 38) dX6_says_37 (by decide) rfl ?_
      refine ep_if (pt := 69) (pf := 41) (fun _ _ _ _ _ _ => ev_icmp_eq (tgt := 69) dX6_says_38 (by decide)) (fun h6 => ?_) (fun h6 => ?_)
      · refine ep_sub (lv' := [(0, .ref a0)]) [0] rfl ?_
        exact okX6_says_69 p t ob a0 e0
      · refine ep_aload_n (q := 42) 0 dX6_says_41 rfl rfl rfl ?_
        refine ep_getR (k := 1) (q := 45) e0 fl6_7 rfl rfl rfl dX6_says_42 rfl ?_
        refine ep_iload_n (q := 46) 1 dX6_says_45 rfl rfl rfl ?_
        refine ep_guard (fun g7 => ?_)
        refine ep_iaload (x := (t.2 p).1 1 x1.toNatClampNeg) (q := 47) e0 rfl g7 dX6_says_46 rfl rfl ?_
        refine ep_iconst (v := (2 : Int32)) (q := 48) dX6_says_47 (by decide) rfl ?_
        refine ep_if (pt := 51) (pf := 76) (fun _ _ _ _ _ _ kt kf => ev_icmp_ne (tgt := 76) dX6_says_48 (by decide) kf kt) (fun h8 => ?_) (fun h8 => ?_)
        · refine ep_aload_n (q := 52) 0 dX6_says_51 rfl rfl rfl ?_
          refine ep_getR (k := 25) (q := 55) e0 fl6_58 rfl rfl rfl dX6_says_52 rfl ?_
          refine ep_aload_n (q := 56) 0 dX6_says_55 rfl rfl rfl ?_
          refine ep_getR (k := 14) (q := 59) e0 fl6_28 rfl rfl rfl dX6_says_56 rfl ?_
          refine ep_iload_n (q := 60) 1 dX6_says_59 rfl rfl rfl ?_
          refine ep_guard (fun g9 => ?_)
          refine ep_iaload (x := (t.2 p).1 14 x1.toNatClampNeg) (q := 61) e0 rfl g9 dX6_says_60 rfl rfl ?_
          refine ep_guard (fun g10 => ?_)
          refine ep_iaload (x := (t.2 p).1 25 (((t.2 p).1 14 x1.toNatClampNeg).toNatClampNeg)) (q := 62) e0 rfl g10 dX6_says_61 rfl rfl ?_
          refine ep_iload_n (q := 63) 2 dX6_says_62 rfl rfl rfl ?_
          refine ep_invPI (s := t.2 p) (As := [.int ((t.2 p).1 25 (((t.2 p).1 14 x1.toNatClampNeg).toNatClampNeg)), .int x2]) (rest := []) (q := 66) (okX6_isUnder ((t.2 p).1 25 (((t.2 p).1 14 x1.toNatClampNeg).toNatClampNeg)) x2) rfl calX6_isUnder ml6_119 (by decide) rfl rfl (Nat.le_of_ble_eq_true rfl) dX6_says_63 rfl (fun z11 => ?_)
          refine ep_if (pt := 69) (pf := 76) (fun _ _ _ _ _ _ kt kf => ev_if_ne (tgt := 76) dX6_says_66 (by decide) kf kt) (fun h12 => ?_) (fun h12 => ?_)
          · refine ep_sub (lv' := [(0, .ref a0)]) [0] rfl ?_
            exact okX6_says_69 p t ob a0 e0
          · refine ep_sub (lv' := [(0, .ref a0), (1, .int x1), (2, .int x2)]) [0, 1, 2] rfl ?_
            exact okX6_says_76 p x1 x2 t ob a0 e0
        · refine ep_sub (lv' := [(0, .ref a0), (1, .int x1), (2, .int x2)]) [0, 1, 2] rfl ?_
          exact okX6_says_76 p x1 x2 t ob a0 e0
theorem okX6_says (p : List Nat) (x1 : Int32) (x2 : Int32) : MtP 10 mX6_says rwI p (fun a => [.ref a, .int x1, .int x2]) (fX6_says p x1 x2) := by
  refine MtP.of (by decide +kernel) rfl (fun _ => Nat.le_of_ble_eq_true rfl) (fun G X ob t h a e => ?_)
  refine ep_sub (lv := [(0, .ref a), (1, .int x1), (2, .int x2)]) (lv' := [(0, .ref a), (1, .int x1), (2, .int x2)]) [0, 1, 2] rfl ?_
  exact okX6_says_0 p x1 x2 t ob a e
-- X6_kerb
theorem dX6_kerb_0 : decode cX6_kerb 0 = .ok (.aload_n 0, 1) := by decide +kernel
theorem dX6_kerb_1 : decode cX6_kerb 1 = .ok (.invokevirtual 247, 3) := by decide +kernel
theorem dX6_kerb_4 : decode cX6_kerb 4 = .ok (.astore_n 1, 1) := by decide +kernel
theorem dX6_kerb_5 : decode cX6_kerb 5 = .ok (.aload_n 0, 1) := by decide +kernel
theorem dX6_kerb_6 : decode cX6_kerb 6 = .ok (.invokevirtual 251, 3) := by decide +kernel
theorem dX6_kerb_9 : decode cX6_kerb 9 = .ok (.istore_n 2, 1) := by decide +kernel
theorem dX6_kerb_10 : decode cX6_kerb 10 = .ok (.aload_n 0, 1) := by decide +kernel
theorem dX6_kerb_11 : decode cX6_kerb 11 = .ok (.iconst 0, 1) := by decide +kernel
theorem dX6_kerb_12 : decode cX6_kerb 12 = .ok (.putfield 163, 3) := by decide +kernel
theorem dX6_kerb_15 : decode cX6_kerb 15 = .ok (.iload_n 2, 1) := by decide +kernel
theorem dX6_kerb_16 : decode cX6_kerb 16 = .ok (.ifCond .ne 23, 3) := by decide +kernel
theorem dX6_kerb_19 : decode cX6_kerb 19 = .ok (.aload_n 0, 1) := by decide +kernel
theorem dX6_kerb_20 : decode cX6_kerb 20 = .ok (.aload_n 1, 1) := by decide +kernel
theorem dX6_kerb_21 : decode cX6_kerb 21 = .ok (.invokevirtual 254, 3) := by decide +kernel
theorem dX6_kerb_24 : decode cX6_kerb 24 = .ok (.aload_n 0, 1) := by decide +kernel
theorem dX6_kerb_25 : decode cX6_kerb 25 = .ok (.bipush (-2), 2) := by decide +kernel
theorem dX6_kerb_27 : decode cX6_kerb 27 = .ok (.invokevirtual 102, 3) := by decide +kernel
theorem dX6_kerb_30 : decode cX6_kerb 30 = .ok (.pop, 1) := by decide +kernel
theorem dX6_kerb_31 : decode cX6_kerb 31 = .ok (.bipush (-20), 2) := by decide +kernel
theorem dX6_kerb_33 : decode cX6_kerb 33 = .ok (.aload_n 0, 1) := by decide +kernel
theorem dX6_kerb_34 : decode cX6_kerb 34 = .ok (.getfield 184, 3) := by decide +kernel
theorem dX6_kerb_37 : decode cX6_kerb 37 = .ok (.isub, 1) := by decide +kernel
theorem dX6_kerb_38 : decode cX6_kerb 38 = .ok (.ireturn, 1) := by decide +kernel
theorem dX6_kerb_39 : decode cX6_kerb 39 = .ok (.aload_n 0, 1) := by decide +kernel
theorem dX6_kerb_40 : decode cX6_kerb 40 = .ok (.getfield 241, 3) := by decide +kernel
theorem dX6_kerb_43 : decode cX6_kerb 43 = .ok (.ireturn, 1) := by decide +kernel
def fX6_kerb_0 (p : List Nat) (t : TF) : Option (Int32 × TF) := ((fX6_fresh p t).bind fun z1 => ((fX6_readAll (z1.2.2 p)).bind fun z2 => if z2.1 = 0 then (((fX6_takeFrom (prS ((wTI (wrT z1.2 p z2.2) p 0 7 (0 : Int32)).2 p) ((wTI (wrT z1.2 p z2.2) p 0 7 (0 : Int32)).2 (9 :: p)))).bind fun z4 => ((fX6_refuse (-2 : Int32) ((wrT (wrT (wTI (wrT z1.2 p z2.2) p 0 7 (0 : Int32)) p z4.2) (9 :: p) (snS z4.2)).2 p)).bind fun z5 => some ((-20 : Int32) - (((wrT (wrT (wrT (wTI (wrT z1.2 p z2.2) p 0 7 (0 : Int32)) p z4.2) (9 :: p) (snS z4.2)) p z5.2).2 p).1 0 35), wrT (wrT (wrT (wTI (wrT z1.2 p z2.2) p 0 7 (0 : Int32)) p z4.2) (9 :: p) (snS z4.2)) p z5.2)))) else (some (((wTI (wrT z1.2 p z2.2) p 0 7 (0 : Int32)).2 p).1 0 37, wTI (wrT z1.2 p z2.2) p 0 7 (0 : Int32)))))
def fX6_kerb (p : List Nat) (t : TF) : Option (Int32 × TF) := fX6_kerb_0 p t
set_option maxRecDepth 100000 in
set_option maxHeartbeats 4000000 in
theorem okX6_kerb_0 {G : GG} {X : Nat → Prop} {ob0 : List Nat → Nat} {t0 : TF} {h00 : PH} (p : List Nat) (t : TF) (ob : List Nat → Nat) (a0 : Nat) (e0 : AtF ob t (p) a0) : EvP G 7 mX6_kerb X ob0 t0 h00 rwI (fX6_kerb_0 p t) 0 [(0, .ref a0)] [] t ob := by
  unfold fX6_kerb_0
  refine ep_aload_n (q := 1) 0 dX6_kerb_0 rfl rfl rfl ?_
  refine ep_fresh (rest := []) (q := 4) e0 (okX6_fresh_f p) rfl calX6_fresh ml6_247 (by decide) rfl (Nat.le_of_ble_eq_true rfl) dX6_kerb_1 rfl (fun z1 obz1 yz1 _ mvz1 ez1 => ?_)
  refine ep_astore_n (lv' := [(1, .ref yz1), (0, .ref a0)]) (q := 5) dX6_kerb_4 rfl (by decide) rfl rfl ?_
  refine ep_aload_n (q := 6) 1 dX6_kerb_5 rfl rfl rfl ?_
  refine ep_invVI1 (As := []) (rest := []) (q := 9) (mvz1 _ _ e0) (okX6_readAll) rfl calX6_readAll ml6_251 (by decide) rfl rfl (Nat.le_of_ble_eq_true rfl) dX6_kerb_6 rfl (fun z2 => ?_)
  refine ep_istore_n (lv' := [(2, .int z2.1), (1, .ref yz1), (0, .ref a0)]) (q := 10) dX6_kerb_9 rfl (by decide) rfl rfl ?_
  refine ep_aload_n (q := 11) 2 dX6_kerb_10 rfl rfl rfl ?_
  refine ep_iconst (v := (0 : Int32)) (q := 12) dX6_kerb_11 (by decide) rfl ?_
  refine ep_putI (q := 15) (mvz1 _ _ e0) fl6_163 rfl rfl dX6_kerb_12 rfl ?_
  refine ep_iload_n (q := 16) 0 dX6_kerb_15 rfl rfl rfl ?_
  refine ep_if (pt := 19) (pf := 39) (fun _ _ _ _ _ _ kt kf => ev_if_ne (tgt := 39) dX6_kerb_16 (by decide) kf kt) (fun h3 => ?_) (fun h3 => ?_)
  · refine ep_aload_n (q := 20) 2 dX6_kerb_19 rfl rfl rfl ?_
    refine ep_aload_n (q := 21) 1 dX6_kerb_20 rfl rfl rfl ?_
    refine ep_invVU2 (As := [.ref yz1]) (rest := []) (q := 24) (mvz1 _ _ e0) ez1 cne' (okX6_takeFrom) rfl calX6_takeFrom ml6_254 (by decide) rfl rfl (Nat.le_of_ble_eq_true rfl) dX6_kerb_21 rfl (fun z4 => ?_)
    refine ep_aload_n (q := 25) 2 dX6_kerb_24 rfl rfl rfl ?_
    refine ep_bipush (v := (-2 : Int32)) (q := 27) dX6_kerb_25 (by decide) rfl ?_
    refine ep_invVI1 (As := [.int (-2 : Int32)]) (rest := []) (q := 30) (mvz1 _ _ e0) (okX6_refuse (-2 : Int32)) rfl calX6_refuse ml6_102 (by decide) rfl rfl (Nat.le_of_ble_eq_true rfl) dX6_kerb_27 rfl (fun z5 => ?_)
    refine ep_pop (q := 31) dX6_kerb_30 rfl rfl ?_
    refine ep_bipush (v := (-20 : Int32)) (q := 33) dX6_kerb_31 (by decide) rfl ?_
    refine ep_aload_n (q := 34) 2 dX6_kerb_33 rfl rfl rfl ?_
    refine ep_getI (x := ((wrT (wrT (wrT (wTI (wrT z1.2 p z2.2) p 0 7 (0 : Int32)) p z4.2) (9 :: p) (snS z4.2)) p z5.2).2 p).1 0 35) (q := 37) (mvz1 _ _ e0) fl6_184 rfl rfl dX6_kerb_34 rfl ?_
    refine ep_isub (q := 38) dX6_kerb_37 rfl ?_
    exact ep_iret rfl dX6_kerb_38
  · refine ep_aload_n (q := 40) 2 dX6_kerb_39 rfl rfl rfl ?_
    refine ep_getI (x := ((wTI (wrT z1.2 p z2.2) p 0 7 (0 : Int32)).2 p).1 0 37) (q := 43) (mvz1 _ _ e0) fl6_241 rfl rfl dX6_kerb_40 rfl ?_
    exact ep_iret rfl dX6_kerb_43
theorem okX6_kerb (p : List Nat) : MtP 7 mX6_kerb rwI p (fun a => [.ref a]) (fX6_kerb p) := by
  refine MtP.of (by decide +kernel) rfl (fun _ => Nat.le_of_ble_eq_true rfl) (fun G X ob t h a e => ?_)
  refine ep_sub (lv := [(0, .ref a)]) (lv' := [(0, .ref a)]) [0] rfl ?_
  exact okX6_kerb_0 p t ob a e
-- X6_would
theorem dX6_would_0 : decode cX6_would 0 = .ok (.aload_n 0, 1) := by decide +kernel
theorem dX6_would_1 : decode cX6_would 1 = .ok (.iload_n 1, 1) := by decide +kernel
theorem dX6_would_2 : decode cX6_would 2 = .ok (.invokevirtual 113, 3) := by decide +kernel
theorem dX6_would_5 : decode cX6_would 5 = .ok (.ifCond .eq 11, 3) := by decide +kernel
theorem dX6_would_8 : decode cX6_would 8 = .ok (.aload_n 0, 1) := by decide +kernel
theorem dX6_would_9 : decode cX6_would 9 = .ok (.iload_n 1, 1) := by decide +kernel
theorem dX6_would_10 : decode cX6_would 10 = .ok (.invokevirtual 123, 3) := by decide +kernel
theorem dX6_would_13 : decode cX6_would 13 = .ok (.goto 9, 3) := by decide +kernel
theorem dX6_would_16 : decode cX6_would 16 = .ok (.aload_n 0, 1) := by decide +kernel
theorem dX6_would_17 : decode cX6_would 17 = .ok (.bipush (-2), 2) := by decide +kernel
theorem dX6_would_19 : decode cX6_would 19 = .ok (.invokevirtual 102, 3) := by decide +kernel
theorem dX6_would_22 : decode cX6_would 22 = .ok (.ireturn, 1) := by decide +kernel
def fX6_would_0 (p : List Nat) (x1 : Int32) (t : TF) : Option (Int32 × TF) := ((fX6_isLicker x1 (t.2 p)).bind fun z1 => if z1.1 = 0 then (((fX6_refuse (-2 : Int32) ((wrT t p z1.2).2 p)).bind fun z3 => some (z3.1, wrT (wrT t p z1.2) p z3.2))) else (((fX6_wouldBe p x1 (wrT t p z1.2)).bind fun z4 => some (z4.1, z4.2))))
def fX6_would (p : List Nat) (x1 : Int32) (t : TF) : Option (Int32 × TF) := fX6_would_0 p x1 t
set_option maxRecDepth 100000 in
set_option maxHeartbeats 4000000 in
theorem okX6_would_0 {G : GG} {X : Nat → Prop} {ob0 : List Nat → Nat} {t0 : TF} {h00 : PH} (p : List Nat) (x1 : Int32) (t : TF) (ob : List Nat → Nat) (a0 : Nat) (e0 : AtF ob t (p) a0) : EvP G 10 mX6_would X ob0 t0 h00 rwI (fX6_would_0 p x1 t) 0 [(0, .ref a0), (1, .int x1)] [] t ob := by
  unfold fX6_would_0
  refine ep_aload_n (q := 1) 0 dX6_would_0 rfl rfl rfl ?_
  refine ep_iload_n (q := 2) 1 dX6_would_1 rfl rfl rfl ?_
  refine ep_invVI1 (As := [.int x1]) (rest := []) (q := 5) e0 (okX6_isLicker x1) rfl calX6_isLicker ml6_113 (by decide) rfl rfl (Nat.le_of_ble_eq_true rfl) dX6_would_2 rfl (fun z1 => ?_)
  refine ep_if (pt := 16) (pf := 8) (fun _ _ _ _ _ _ => ev_if_eq (tgt := 16) dX6_would_5 (by decide)) (fun h2 => ?_) (fun h2 => ?_)
  · refine ep_aload_n (q := 17) 0 dX6_would_16 rfl rfl rfl ?_
    refine ep_bipush (v := (-2 : Int32)) (q := 19) dX6_would_17 (by decide) rfl ?_
    refine ep_invVI1 (As := [.int (-2 : Int32)]) (rest := []) (q := 22) e0 (okX6_refuse (-2 : Int32)) rfl calX6_refuse ml6_102 (by decide) rfl rfl (Nat.le_of_ble_eq_true rfl) dX6_would_19 rfl (fun z3 => ?_)
    exact ep_iret rfl dX6_would_22
  · refine ep_aload_n (q := 9) 0 dX6_would_8 rfl rfl rfl ?_
    refine ep_iload_n (q := 10) 1 dX6_would_9 rfl rfl rfl ?_
    refine ep_invVIP (As := [.int x1]) (rest := []) (q := 13) e0 (okX6_wouldBe p x1) rfl calX6_wouldBe ml6_123 (by decide) rfl rfl (Nat.le_of_ble_eq_true rfl) dX6_would_10 rfl (fun z4 obz4 _ mvz4 => ?_)
    refine ep_goto (tgt := 22) dX6_would_13 (by decide) ?_
    exact ep_iret rfl dX6_would_22
theorem okX6_would (p : List Nat) (x1 : Int32) : MtP 10 mX6_would rwI p (fun a => [.ref a, .int x1]) (fX6_would p x1) := by
  refine MtP.of (by decide +kernel) rfl (fun _ => Nat.le_of_ble_eq_true rfl) (fun G X ob t h a e => ?_)
  refine ep_sub (lv := [(0, .ref a), (1, .int x1)]) (lv' := [(0, .ref a), (1, .int x1)]) [0, 1] rfl ?_
  exact okX6_would_0 p x1 t ob a e
-- X6_plan
theorem dX6_plan_0 : decode cX6_plan 0 = .ok (.iload_n 1, 1) := by decide +kernel
theorem dX6_plan_1 : decode cX6_plan 1 = .ok (.i2l, 1) := by decide +kernel
theorem dX6_plan_2 : decode cX6_plan 2 = .ok (.lconst 1, 1) := by decide +kernel
theorem dX6_plan_3 : decode cX6_plan 3 = .ok (.ldc2_w 132, 3) := by decide +kernel
theorem dX6_plan_6 : decode cX6_plan 6 = .ok (.invokestatic 89, 3) := by decide +kernel
theorem dX6_plan_9 : decode cX6_plan 9 = .ok (.ifCond .eq 18, 3) := by decide +kernel
theorem dX6_plan_12 : decode cX6_plan 12 = .ok (.iload_n 2, 1) := by decide +kernel
theorem dX6_plan_13 : decode cX6_plan 13 = .ok (.i2l, 1) := by decide +kernel
theorem dX6_plan_14 : decode cX6_plan 14 = .ok (.ldc2_w 329, 3) := by decide +kernel
theorem dX6_plan_17 : decode cX6_plan 17 = .ok (.iload_n 1, 1) := by decide +kernel
theorem dX6_plan_18 : decode cX6_plan 18 = .ok (.iconst 1, 1) := by decide +kernel
theorem dX6_plan_19 : decode cX6_plan 19 = .ok (.isub, 1) := by decide +kernel
theorem dX6_plan_20 : decode cX6_plan 20 = .ok (.i2l, 1) := by decide +kernel
theorem dX6_plan_21 : decode cX6_plan 21 = .ok (.invokestatic 89, 3) := by decide +kernel
theorem dX6_plan_24 : decode cX6_plan 24 = .ok (.ifCond .ne 10, 3) := by decide +kernel
theorem dX6_plan_27 : decode cX6_plan 27 = .ok (.aload_n 0, 1) := by decide +kernel
theorem dX6_plan_28 : decode cX6_plan 28 = .ok (.bipush (-2), 2) := by decide +kernel
theorem dX6_plan_30 : decode cX6_plan 30 = .ok (.invokevirtual 102, 3) := by decide +kernel
theorem dX6_plan_33 : decode cX6_plan 33 = .ok (.ireturn, 1) := by decide +kernel
theorem dX6_plan_34 : decode cX6_plan 34 = .ok (.aload_n 0, 1) := by decide +kernel
theorem dX6_plan_35 : decode cX6_plan 35 = .ok (.iload_n 1, 1) := by decide +kernel
theorem dX6_plan_36 : decode cX6_plan 36 = .ok (.invokevirtual 320, 3) := by decide +kernel
theorem dX6_plan_39 : decode cX6_plan 39 = .ok (.iload_n 2, 1) := by decide +kernel
theorem dX6_plan_40 : decode cX6_plan 40 = .ok (.iconst (-1), 1) := by decide +kernel
theorem dX6_plan_41 : decode cX6_plan 41 = .ok (.if_icmp .ne 15, 3) := by decide +kernel
theorem dX6_plan_44 : decode cX6_plan 44 = .ok (.aload_n 0, 1) := by decide +kernel
theorem dX6_plan_45 : decode cX6_plan 45 = .ok (.getfield 310, 3) := by decide +kernel
theorem dX6_plan_48 : decode cX6_plan 48 = .ok (.aload_n 0, 1) := by decide +kernel
theorem dX6_plan_49 : decode cX6_plan 49 = .ok (.getfield 283, 3) := by decide +kernel
theorem dX6_plan_52 : decode cX6_plan 52 = .ok (.isub, 1) := by decide +kernel
theorem dX6_plan_53 : decode cX6_plan 53 = .ok (.goto 9, 3) := by decide +kernel
theorem dX6_plan_56 : decode cX6_plan 56 = .ok (.aload_n 0, 1) := by decide +kernel
theorem dX6_plan_57 : decode cX6_plan 57 = .ok (.getfield 77, 3) := by decide +kernel
theorem dX6_plan_60 : decode cX6_plan 60 = .ok (.iload_n 2, 1) := by decide +kernel
theorem dX6_plan_61 : decode cX6_plan 61 = .ok (.iaload, 1) := by decide +kernel
theorem dX6_plan_62 : decode cX6_plan 62 = .ok (.ireturn, 1) := by decide +kernel
def fX6_plan_27 (p : List Nat) (t : TF) : Option (Int32 × TF) := ((fX6_refuse (-2 : Int32) (t.2 p)).bind fun z1 => some (z1.1, wrT t p z1.2))
def fX6_plan_0 (p : List Nat) (x1 : Int32) (x2 : Int32) (t : TF) : Option (Int32 × TF) := ((fX6_in x1.toInt64 (1 : Int64) (3 : Int64) (t.2 p)).bind fun z1 => if z1.1 = 0 then (fX6_plan_27 p t) else (((fX6_in x2.toInt64 (-1 : Int64) ((x1 - (1 : Int32)).toInt64) (t.2 p)).bind fun z3 => if z3.1 = 0 then (fX6_plan_27 p t) else (((fX6_findPlan p x1 t).bind fun z5 => if x2 = (-1 : Int32) then (some (((z5.2.2 p).1 0 39) - ((z5.2.2 p).1 0 19), z5.2)) else (if ixB x2 3 then (some ((z5.2.2 p).1 30 x2.toNatClampNeg, z5.2)) else none))))))
def fX6_plan (p : List Nat) (x1 : Int32) (x2 : Int32) (t : TF) : Option (Int32 × TF) := fX6_plan_0 p x1 x2 t
set_option maxRecDepth 100000 in
set_option maxHeartbeats 4000000 in
theorem okX6_plan_27 {G : GG} {X : Nat → Prop} {ob0 : List Nat → Nat} {t0 : TF} {h00 : PH} (p : List Nat) (t : TF) (ob : List Nat → Nat) (a0 : Nat) (e0 : AtF ob t (p) a0) : EvP G 9 mX6_plan X ob0 t0 h00 rwI (fX6_plan_27 p t) 27 [(0, .ref a0)] [] t ob := by
  unfold fX6_plan_27
  refine ep_aload_n (q := 28) 0 dX6_plan_27 rfl rfl rfl ?_
  refine ep_bipush (v := (-2 : Int32)) (q := 30) dX6_plan_28 (by decide) rfl ?_
  refine ep_invVI1 (As := [.int (-2 : Int32)]) (rest := []) (q := 33) e0 (okX6_refuse (-2 : Int32)) rfl calX6_refuse ml6_102 (by decide) rfl rfl (Nat.le_of_ble_eq_true rfl) dX6_plan_30 rfl (fun z1 => ?_)
  exact ep_iret rfl dX6_plan_33
set_option maxRecDepth 100000 in
set_option maxHeartbeats 4000000 in
theorem okX6_plan_0 {G : GG} {X : Nat → Prop} {ob0 : List Nat → Nat} {t0 : TF} {h00 : PH} (p : List Nat) (x1 : Int32) (x2 : Int32) (t : TF) (ob : List Nat → Nat) (a0 : Nat) (e0 : AtF ob t (p) a0) : EvP G 9 mX6_plan X ob0 t0 h00 rwI (fX6_plan_0 p x1 x2 t) 0 [(0, .ref a0), (1, .int x1), (2, .int x2)] [] t ob := by
  unfold fX6_plan_0
  refine ep_iload_n (q := 1) 1 dX6_plan_0 rfl rfl rfl ?_
  refine ep_i2l (v := x1.toInt64) (q := 2) dX6_plan_1 rfl rfl ?_
  refine ep_lconst (v := (1 : Int64)) (q := 3) dX6_plan_2 (by decide) rfl ?_
  refine ep_ldc2 (v := (3 : Int64)) (q := 6) k6_132 dX6_plan_3 rfl ?_
  refine ep_invPI (s := t.2 p) (As := [.long x1.toInt64, .long (1 : Int64), .long (3 : Int64)]) (rest := []) (q := 9) (okX6_in x1.toInt64 (1 : Int64) (3 : Int64)) rfl calX6_in ml6_89 (by decide) rfl rfl (Nat.le_of_ble_eq_true rfl) dX6_plan_6 rfl (fun z1 => ?_)
  refine ep_if (pt := 27) (pf := 12) (fun _ _ _ _ _ _ => ev_if_eq (tgt := 27) dX6_plan_9 (by decide)) (fun h2 => ?_) (fun h2 => ?_)
  · refine ep_sub (lv' := [(0, .ref a0)]) [0] rfl ?_
    exact okX6_plan_27 p t ob a0 e0
  · refine ep_iload_n (q := 13) 2 dX6_plan_12 rfl rfl rfl ?_
    refine ep_i2l (v := x2.toInt64) (q := 14) dX6_plan_13 rfl rfl ?_
    refine ep_ldc2 (v := (-1 : Int64)) (q := 17) k6_329 dX6_plan_14 rfl ?_
    refine ep_iload_n (q := 18) 1 dX6_plan_17 rfl rfl rfl ?_
    refine ep_iconst (v := (1 : Int32)) (q := 19) dX6_plan_18 (by decide) rfl ?_
    refine ep_isub (q := 20) dX6_plan_19 rfl ?_
    refine ep_i2l (v := (x1 - (1 : Int32)).toInt64) (q := 21) dX6_plan_20 rfl rfl ?_
    refine ep_invPI (s := t.2 p) (As := [.long x2.toInt64, .long (-1 : Int64), .long ((x1 - (1 : Int32)).toInt64)]) (rest := []) (q := 24) (okX6_in x2.toInt64 (-1 : Int64) ((x1 - (1 : Int32)).toInt64)) rfl calX6_in ml6_89 (by decide) rfl rfl (Nat.le_of_ble_eq_true rfl) dX6_plan_21 rfl (fun z3 => ?_)
    refine ep_if (pt := 27) (pf := 34) (fun _ _ _ _ _ _ kt kf => ev_if_ne (tgt := 34) dX6_plan_24 (by decide) kf kt) (fun h4 => ?_) (fun h4 => ?_)
    · refine ep_sub (lv' := [(0, .ref a0)]) [0] rfl ?_
      exact okX6_plan_27 p t ob a0 e0
    · refine ep_aload_n (q := 35) 0 dX6_plan_34 rfl rfl rfl ?_
      refine ep_iload_n (q := 36) 1 dX6_plan_35 rfl rfl rfl ?_
      refine ep_invVUP (As := [.int x1]) (rest := []) (q := 39) e0 (okX6_findPlan p x1) rfl calX6_findPlan ml6_320 (by decide) rfl rfl (Nat.le_of_ble_eq_true rfl) dX6_plan_36 rfl (fun z5 obz5 _ mvz5 => ?_)
      refine ep_iload_n (q := 40) 2 dX6_plan_39 rfl rfl rfl ?_
      refine ep_iconst (v := (-1 : Int32)) (q := 41) dX6_plan_40 (by decide) rfl ?_
      refine ep_if (pt := 44) (pf := 56) (fun _ _ _ _ _ _ kt kf => ev_icmp_ne (tgt := 56) dX6_plan_41 (by decide) kf kt) (fun h6 => ?_) (fun h6 => ?_)
      · refine ep_aload_n (q := 45) 0 dX6_plan_44 rfl rfl rfl ?_
        refine ep_getI (x := (z5.2.2 p).1 0 39) (q := 48) (mvz5 _ _ e0) fl6_310 rfl rfl dX6_plan_45 rfl ?_
        refine ep_aload_n (q := 49) 0 dX6_plan_48 rfl rfl rfl ?_
        refine ep_getI (x := (z5.2.2 p).1 0 19) (q := 52) (mvz5 _ _ e0) fl6_283 rfl rfl dX6_plan_49 rfl ?_
        refine ep_isub (q := 53) dX6_plan_52 rfl ?_
        refine ep_goto (tgt := 62) dX6_plan_53 (by decide) ?_
        exact ep_iret rfl dX6_plan_62
      · refine ep_aload_n (q := 57) 0 dX6_plan_56 rfl rfl rfl ?_
        refine ep_getR (k := 30) (q := 60) (mvz5 _ _ e0) fl6_77 rfl rfl rfl dX6_plan_57 rfl ?_
        refine ep_iload_n (q := 61) 2 dX6_plan_60 rfl rfl rfl ?_
        refine ep_guard (fun g7 => ?_)
        refine ep_iaload (x := (z5.2.2 p).1 30 x2.toNatClampNeg) (q := 62) (mvz5 _ _ e0) rfl g7 dX6_plan_61 rfl rfl ?_
        exact ep_iret rfl dX6_plan_62
theorem okX6_plan (p : List Nat) (x1 : Int32) (x2 : Int32) : MtP 9 mX6_plan rwI p (fun a => [.ref a, .int x1, .int x2]) (fX6_plan p x1 x2) := by
  refine MtP.of (by decide +kernel) rfl (fun _ => Nat.le_of_ble_eq_true rfl) (fun G X ob t h a e => ?_)
  refine ep_sub (lv := [(0, .ref a), (1, .int x1), (2, .int x2)]) (lv' := [(0, .ref a), (1, .int x1), (2, .int x2)]) [0, 1, 2] rfl ?_
  exact okX6_plan_0 p x1 x2 t ob a e
-- X6_lickedBy
theorem dX6_lickedBy_0 : decode cX6_lickedBy 0 = .ok (.iconst 0, 1) := by decide +kernel
theorem dX6_lickedBy_1 : decode cX6_lickedBy 1 = .ok (.istore_n 3, 1) := by decide +kernel
theorem dX6_lickedBy_2 : decode cX6_lickedBy 2 = .ok (.iload_n 3, 1) := by decide +kernel
theorem dX6_lickedBy_3 : decode cX6_lickedBy 3 = .ok (.iload_n 2, 1) := by decide +kernel
theorem dX6_lickedBy_4 : decode cX6_lickedBy 4 = .ok (.if_icmp .ge 19, 3) := by decide +kernel
theorem dX6_lickedBy_7 : decode cX6_lickedBy 7 = .ok (.aload_n 0, 1) := by decide +kernel
theorem dX6_lickedBy_8 : decode cX6_lickedBy 8 = .ok (.aload_n 0, 1) := by decide +kernel
theorem dX6_lickedBy_9 : decode cX6_lickedBy 9 = .ok (.iload_n 1, 1) := by decide +kernel
theorem dX6_lickedBy_10 : decode cX6_lickedBy 10 = .ok (.invokevirtual 123, 3) := by decide +kernel
theorem dX6_lickedBy_13 : decode cX6_lickedBy 13 = .ok (.iconst 0, 1) := by decide +kernel
theorem dX6_lickedBy_14 : decode cX6_lickedBy 14 = .ok (.invokevirtual 212, 3) := by decide +kernel
theorem dX6_lickedBy_17 : decode cX6_lickedBy 17 = .ok (.iinc 3 1, 3) := by decide +kernel
theorem dX6_lickedBy_20 : decode cX6_lickedBy 20 = .ok (.goto (-18), 3) := by decide +kernel
theorem dX6_lickedBy_23 : decode cX6_lickedBy 23 = .ok (.return_, 1) := by decide +kernel
def fX6_lickedBy_2 (p : List Nat) : Nat → Int32 → Int32 → Int32 → TF → Option (Unit × TF)
  | 0, _, _, _, _ => none
  | n + 1, x1, x2, x3, t => if x2 ≤ x3 then (some ((), t)) else (((fX6_wouldBe p x1 t).bind fun z2 => ((fX6_goes z2.1 (0 : Int32) (z2.2.2 p)).bind fun z3 => fX6_lickedBy_2 p n x1 x2 (x3 + (1 : Int32)) (wrT z2.2 p z3.2))))
def fX6_lickedBy_0 (p : List Nat) (x1 : Int32) (x2 : Int32) (t : TF) : Option (Unit × TF) := fX6_lickedBy_2 p FU x1 x2 (0 : Int32) t
def fX6_lickedBy (p : List Nat) (x1 : Int32) (x2 : Int32) (t : TF) : Option (Unit × TF) := fX6_lickedBy_0 p x1 x2 t
set_option maxRecDepth 100000 in
set_option maxHeartbeats 4000000 in
theorem okX6_lickedBy_2 {G : GG} {X : Nat → Prop} {ob0 : List Nat → Nat} {t0 : TF} {h00 : PH} (p : List Nat) : ∀ (n : Nat) (x1 : Int32) (x2 : Int32) (x3 : Int32) (t : TF) (ob : List Nat → Nat) (a0 : Nat) (e0 : AtF ob t (p) a0), EvP G 10 mX6_lickedBy X ob0 t0 h00 rwU (fX6_lickedBy_2 p n x1 x2 x3 t) 2 [(0, .ref a0), (1, .int x1), (2, .int x2), (3, .int x3)] [] t ob := by
  intro n
  induction n with
  | zero => intro x1 x2 x3 t ob a0 e0; rw [fX6_lickedBy_2]; exact ep_none
  | succ n ih =>
    intro x1 x2 x3 t ob a0 e0
    rw [fX6_lickedBy_2]
    refine ep_iload_n (q := 3) 3 dX6_lickedBy_2 rfl rfl rfl ?_
    refine ep_iload_n (q := 4) 2 dX6_lickedBy_3 rfl rfl rfl ?_
    refine ep_if (pt := 23) (pf := 7) (fun _ _ _ _ _ _ => ev_icmp_ge (tgt := 23) dX6_lickedBy_4 (by decide)) (fun h1 => ?_) (fun h1 => ?_)
    · exact ep_vret rfl dX6_lickedBy_23
    · refine ep_aload_n (q := 8) 0 dX6_lickedBy_7 rfl rfl rfl ?_
      refine ep_aload_n (q := 9) 0 dX6_lickedBy_8 rfl rfl rfl ?_
      refine ep_iload_n (q := 10) 1 dX6_lickedBy_9 rfl rfl rfl ?_
      refine ep_invVIP (As := [.int x1]) (rest := [.ref a0]) (q := 13) e0 (okX6_wouldBe p x1) rfl calX6_wouldBe ml6_123 (by decide) rfl rfl (Nat.le_of_ble_eq_true rfl) dX6_lickedBy_10 rfl (fun z2 obz2 _ mvz2 => ?_)
      refine ep_iconst (v := (0 : Int32)) (q := 14) dX6_lickedBy_13 (by decide) rfl ?_
      refine ep_invVU1 (As := [.int z2.1, .int (0 : Int32)]) (rest := []) (q := 17) (mvz2 _ _ e0) (okX6_goes z2.1 (0 : Int32)) rfl calX6_goes ml6_212 (by decide) rfl rfl (Nat.le_of_ble_eq_true rfl) dX6_lickedBy_14 rfl (fun z3 => ?_)
      refine ep_iinc (v := x3 + (1 : Int32)) (lv' := [(3, .int (x3 + (1 : Int32))), (0, .ref a0), (1, .int x1), (2, .int x2)]) (q := 20) 3 dX6_lickedBy_17 rfl rfl (by decide) rfl rfl ?_
      refine ep_goto (tgt := 2) dX6_lickedBy_20 (by decide) ?_
      refine ep_sub (lv' := [(0, .ref a0), (1, .int x1), (2, .int x2), (3, .int (x3 + (1 : Int32)))]) [1, 2, 3, 0] rfl ?_
      exact ih x1 x2 (x3 + (1 : Int32)) (wrT z2.2 p z3.2) obz2 a0 (mvz2 _ _ e0)
set_option maxRecDepth 100000 in
set_option maxHeartbeats 4000000 in
theorem okX6_lickedBy_0 {G : GG} {X : Nat → Prop} {ob0 : List Nat → Nat} {t0 : TF} {h00 : PH} (p : List Nat) (x1 : Int32) (x2 : Int32) (t : TF) (ob : List Nat → Nat) (a0 : Nat) (e0 : AtF ob t (p) a0) : EvP G 10 mX6_lickedBy X ob0 t0 h00 rwU (fX6_lickedBy_0 p x1 x2 t) 0 [(0, .ref a0), (1, .int x1), (2, .int x2)] [] t ob := by
  unfold fX6_lickedBy_0
  refine ep_iconst (v := (0 : Int32)) (q := 1) dX6_lickedBy_0 (by decide) rfl ?_
  refine ep_istore_n (lv' := [(3, .int (0 : Int32)), (0, .ref a0), (1, .int x1), (2, .int x2)]) (q := 2) dX6_lickedBy_1 rfl (by decide) rfl rfl ?_
  refine ep_sub (lv' := [(0, .ref a0), (1, .int x1), (2, .int x2), (3, .int (0 : Int32))]) [1, 2, 3, 0] rfl ?_
  exact okX6_lickedBy_2 p FU x1 x2 (0 : Int32) t ob a0 e0
theorem okX6_lickedBy (p : List Nat) (x1 : Int32) (x2 : Int32) : MtP 10 mX6_lickedBy rwU p (fun a => [.ref a, .int x1, .int x2]) (fX6_lickedBy p x1 x2) := by
  refine MtP.of (by decide +kernel) rfl (fun _ => Nat.le_of_ble_eq_true rfl) (fun G X ob t h a e => ?_)
  refine ep_sub (lv := [(0, .ref a), (1, .int x1), (2, .int x2)]) (lv' := [(0, .ref a), (1, .int x1), (2, .int x2)]) [0, 1, 2] rfl ?_
  exact okX6_lickedBy_0 p x1 x2 t ob a e
-- X6_withoutNow
theorem dX6_withoutNow_0 : decode cX6_withoutNow 0 = .ok (.aload_n 0, 1) := by decide +kernel
theorem dX6_withoutNow_1 : decode cX6_withoutNow 1 = .ok (.invokevirtual 247, 3) := by decide +kernel
theorem dX6_withoutNow_4 : decode cX6_withoutNow 4 = .ok (.astore_n 2, 1) := by decide +kernel
theorem dX6_withoutNow_5 : decode cX6_withoutNow 5 = .ok (.aload_n 2, 1) := by decide +kernel
theorem dX6_withoutNow_6 : decode cX6_withoutNow 6 = .ok (.iload_n 1, 1) := by decide +kernel
theorem dX6_withoutNow_7 : decode cX6_withoutNow 7 = .ok (.invokevirtual 335, 3) := by decide +kernel
theorem dX6_withoutNow_10 : decode cX6_withoutNow 10 = .ok (.aload_n 2, 1) := by decide +kernel
theorem dX6_withoutNow_11 : decode cX6_withoutNow 11 = .ok (.getfield 283, 3) := by decide +kernel
theorem dX6_withoutNow_14 : decode cX6_withoutNow 14 = .ok (.aload_n 0, 1) := by decide +kernel
theorem dX6_withoutNow_15 : decode cX6_withoutNow 15 = .ok (.getfield 283, 3) := by decide +kernel
theorem dX6_withoutNow_18 : decode cX6_withoutNow 18 = .ok (.isub, 1) := by decide +kernel
theorem dX6_withoutNow_19 : decode cX6_withoutNow 19 = .ok (.ireturn, 1) := by decide +kernel
def fX6_withoutNow_0 (p : List Nat) (x1 : Int32) (t : TF) : Option (Int32 × TF) := ((fX6_fresh p t).bind fun z1 => ((fX6_stands x1 (z1.2.2 (9 :: p))).bind fun z2 => some ((((wrT z1.2 (9 :: p) z2.2).2 (9 :: p)).1 0 19) - (((wrT z1.2 (9 :: p) z2.2).2 p).1 0 19), wrT z1.2 (9 :: p) z2.2)))
def fX6_withoutNow (p : List Nat) (x1 : Int32) (t : TF) : Option (Int32 × TF) := fX6_withoutNow_0 p x1 t
set_option maxRecDepth 100000 in
set_option maxHeartbeats 4000000 in
theorem okX6_withoutNow_0 {G : GG} {X : Nat → Prop} {ob0 : List Nat → Nat} {t0 : TF} {h00 : PH} (p : List Nat) (x1 : Int32) (t : TF) (ob : List Nat → Nat) (a0 : Nat) (e0 : AtF ob t (p) a0) : EvP G 4 mX6_withoutNow X ob0 t0 h00 rwI (fX6_withoutNow_0 p x1 t) 0 [(0, .ref a0), (1, .int x1)] [] t ob := by
  unfold fX6_withoutNow_0
  refine ep_aload_n (q := 1) 0 dX6_withoutNow_0 rfl rfl rfl ?_
  refine ep_fresh (rest := []) (q := 4) e0 (okX6_fresh_f p) rfl calX6_fresh ml6_247 (by decide) rfl (Nat.le_of_ble_eq_true rfl) dX6_withoutNow_1 rfl (fun z1 obz1 yz1 _ mvz1 ez1 => ?_)
  refine ep_astore_n (lv' := [(2, .ref yz1), (0, .ref a0), (1, .int x1)]) (q := 5) dX6_withoutNow_4 rfl (by decide) rfl rfl ?_
  refine ep_aload_n (q := 6) 0 dX6_withoutNow_5 rfl rfl rfl ?_
  refine ep_iload_n (q := 7) 2 dX6_withoutNow_6 rfl rfl rfl ?_
  refine ep_invVU1 (As := [.int x1]) (rest := []) (q := 10) ez1 (okX6_stands x1) rfl calX6_stands ml6_335 (by decide) rfl rfl (Nat.le_of_ble_eq_true rfl) dX6_withoutNow_7 rfl (fun z2 => ?_)
  refine ep_aload_n (q := 11) 0 dX6_withoutNow_10 rfl rfl rfl ?_
  refine ep_getI (x := ((wrT z1.2 (9 :: p) z2.2).2 (9 :: p)).1 0 19) (q := 14) ez1 fl6_283 rfl rfl dX6_withoutNow_11 rfl ?_
  refine ep_aload_n (q := 15) 1 dX6_withoutNow_14 rfl rfl rfl ?_
  refine ep_getI (x := ((wrT z1.2 (9 :: p) z2.2).2 p).1 0 19) (q := 18) (mvz1 _ _ e0) fl6_283 rfl rfl dX6_withoutNow_15 rfl ?_
  refine ep_isub (q := 19) dX6_withoutNow_18 rfl ?_
  exact ep_iret rfl dX6_withoutNow_19
theorem okX6_withoutNow (p : List Nat) (x1 : Int32) : MtP 4 mX6_withoutNow rwI p (fun a => [.ref a, .int x1]) (fX6_withoutNow p x1) := by
  refine MtP.of (by decide +kernel) rfl (fun _ => Nat.le_of_ble_eq_true rfl) (fun G X ob t h a e => ?_)
  refine ep_sub (lv := [(0, .ref a), (1, .int x1)]) (lv' := [(0, .ref a), (1, .int x1)]) [0, 1] rfl ?_
  exact okX6_withoutNow_0 p x1 t ob a e
-- X6_without
theorem dX6_without_0 : decode cX6_without 0 = .ok (.iload_n 1, 1) := by decide +kernel
theorem dX6_without_1 : decode cX6_without 1 = .ok (.i2l, 1) := by decide +kernel
theorem dX6_without_2 : decode cX6_without 2 = .ok (.lconst 0, 1) := by decide +kernel
theorem dX6_without_3 : decode cX6_without 3 = .ok (.ldc2_w 338, 3) := by decide +kernel
theorem dX6_without_6 : decode cX6_without 6 = .ok (.invokestatic 89, 3) := by decide +kernel
theorem dX6_without_9 : decode cX6_without 9 = .ok (.ifCond .eq 11, 3) := by decide +kernel
theorem dX6_without_12 : decode cX6_without 12 = .ok (.aload_n 0, 1) := by decide +kernel
theorem dX6_without_13 : decode cX6_without 13 = .ok (.iload_n 1, 1) := by decide +kernel
theorem dX6_without_14 : decode cX6_without 14 = .ok (.invokevirtual 340, 3) := by decide +kernel
theorem dX6_without_17 : decode cX6_without 17 = .ok (.goto 9, 3) := by decide +kernel
theorem dX6_without_20 : decode cX6_without 20 = .ok (.aload_n 0, 1) := by decide +kernel
theorem dX6_without_21 : decode cX6_without 21 = .ok (.bipush (-2), 2) := by decide +kernel
theorem dX6_without_23 : decode cX6_without 23 = .ok (.invokevirtual 102, 3) := by decide +kernel
theorem dX6_without_26 : decode cX6_without 26 = .ok (.ireturn, 1) := by decide +kernel
def fX6_without_0 (p : List Nat) (x1 : Int32) (t : TF) : Option (Int32 × TF) := ((fX6_in x1.toInt64 (0 : Int64) (200 : Int64) (t.2 p)).bind fun z1 => if z1.1 = 0 then (((fX6_refuse (-2 : Int32) (t.2 p)).bind fun z3 => some (z3.1, wrT t p z3.2))) else (((fX6_withoutNow p x1 t).bind fun z4 => some (z4.1, z4.2))))
def fX6_without (p : List Nat) (x1 : Int32) (t : TF) : Option (Int32 × TF) := fX6_without_0 p x1 t
set_option maxRecDepth 100000 in
set_option maxHeartbeats 4000000 in
theorem okX6_without_0 {G : GG} {X : Nat → Prop} {ob0 : List Nat → Nat} {t0 : TF} {h00 : PH} (p : List Nat) (x1 : Int32) (t : TF) (ob : List Nat → Nat) (a0 : Nat) (e0 : AtF ob t (p) a0) : EvP G 5 mX6_without X ob0 t0 h00 rwI (fX6_without_0 p x1 t) 0 [(0, .ref a0), (1, .int x1)] [] t ob := by
  unfold fX6_without_0
  refine ep_iload_n (q := 1) 1 dX6_without_0 rfl rfl rfl ?_
  refine ep_i2l (v := x1.toInt64) (q := 2) dX6_without_1 rfl rfl ?_
  refine ep_lconst (v := (0 : Int64)) (q := 3) dX6_without_2 (by decide) rfl ?_
  refine ep_ldc2 (v := (200 : Int64)) (q := 6) k6_338 dX6_without_3 rfl ?_
  refine ep_invPI (s := t.2 p) (As := [.long x1.toInt64, .long (0 : Int64), .long (200 : Int64)]) (rest := []) (q := 9) (okX6_in x1.toInt64 (0 : Int64) (200 : Int64)) rfl calX6_in ml6_89 (by decide) rfl rfl (Nat.le_of_ble_eq_true rfl) dX6_without_6 rfl (fun z1 => ?_)
  refine ep_if (pt := 20) (pf := 12) (fun _ _ _ _ _ _ => ev_if_eq (tgt := 20) dX6_without_9 (by decide)) (fun h2 => ?_) (fun h2 => ?_)
  · refine ep_aload_n (q := 21) 0 dX6_without_20 rfl rfl rfl ?_
    refine ep_bipush (v := (-2 : Int32)) (q := 23) dX6_without_21 (by decide) rfl ?_
    refine ep_invVI1 (As := [.int (-2 : Int32)]) (rest := []) (q := 26) e0 (okX6_refuse (-2 : Int32)) rfl calX6_refuse ml6_102 (by decide) rfl rfl (Nat.le_of_ble_eq_true rfl) dX6_without_23 rfl (fun z3 => ?_)
    exact ep_iret rfl dX6_without_26
  · refine ep_aload_n (q := 13) 0 dX6_without_12 rfl rfl rfl ?_
    refine ep_iload_n (q := 14) 1 dX6_without_13 rfl rfl rfl ?_
    refine ep_invVIP (As := [.int x1]) (rest := []) (q := 17) e0 (okX6_withoutNow p x1) rfl calX6_withoutNow ml6_340 (by decide) rfl rfl (Nat.le_of_ble_eq_true rfl) dX6_without_14 rfl (fun z4 obz4 _ mvz4 => ?_)
    refine ep_goto (tgt := 26) dX6_without_17 (by decide) ?_
    exact ep_iret rfl dX6_without_26
theorem okX6_without (p : List Nat) (x1 : Int32) : MtP 5 mX6_without rwI p (fun a => [.ref a, .int x1]) (fX6_without p x1) := by
  refine MtP.of (by decide +kernel) rfl (fun _ => Nat.le_of_ble_eq_true rfl) (fun G X ob t h a e => ?_)
  refine ep_sub (lv := [(0, .ref a), (1, .int x1)]) (lv' := [(0, .ref a), (1, .int x1)]) [0, 1] rfl ?_
  exact okX6_without_0 p x1 t ob a e
-- X6_spare
theorem dX6_spare_0 : decode cX6_spare 0 = .ok (.aload_n 0, 1) := by decide +kernel
theorem dX6_spare_1 : decode cX6_spare 1 = .ok (.invokevirtual 247, 3) := by decide +kernel
theorem dX6_spare_4 : decode cX6_spare 4 = .ok (.astore_n 1, 1) := by decide +kernel
theorem dX6_spare_5 : decode cX6_spare 5 = .ok (.iconst 0, 1) := by decide +kernel
theorem dX6_spare_6 : decode cX6_spare 6 = .ok (.istore_n 2, 1) := by decide +kernel
theorem dX6_spare_7 : decode cX6_spare 7 = .ok (.iload_n 2, 1) := by decide +kernel
theorem dX6_spare_8 : decode cX6_spare 8 = .ok (.sipush 200, 3) := by decide +kernel
theorem dX6_spare_11 : decode cX6_spare 11 = .ok (.if_icmp .ge 28, 3) := by decide +kernel
theorem dX6_spare_14 : decode cX6_spare 14 = .ok (.aload_n 1, 1) := by decide +kernel
theorem dX6_spare_15 : decode cX6_spare 15 = .ok (.iconst 0, 1) := by decide +kernel
theorem dX6_spare_16 : decode cX6_spare 16 = .ok (.iconst 0, 1) := by decide +kernel
theorem dX6_spare_17 : decode cX6_spare 17 = .ok (.invokevirtual 212, 3) := by decide +kernel
theorem dX6_spare_20 : decode cX6_spare 20 = .ok (.aload_n 1, 1) := by decide +kernel
theorem dX6_spare_21 : decode cX6_spare 21 = .ok (.getfield 283, 3) := by decide +kernel
theorem dX6_spare_24 : decode cX6_spare 24 = .ok (.aload_n 0, 1) := by decide +kernel
theorem dX6_spare_25 : decode cX6_spare 25 = .ok (.getfield 283, 3) := by decide +kernel
theorem dX6_spare_28 : decode cX6_spare 28 = .ok (.if_icmp .le 5, 3) := by decide +kernel
theorem dX6_spare_31 : decode cX6_spare 31 = .ok (.iload_n 2, 1) := by decide +kernel
theorem dX6_spare_32 : decode cX6_spare 32 = .ok (.ireturn, 1) := by decide +kernel
theorem dX6_spare_33 : decode cX6_spare 33 = .ok (.iinc 2 1, 3) := by decide +kernel
theorem dX6_spare_36 : decode cX6_spare 36 = .ok (.goto (-29), 3) := by decide +kernel
theorem dX6_spare_39 : decode cX6_spare 39 = .ok (.iload_n 2, 1) := by decide +kernel
theorem dX6_spare_40 : decode cX6_spare 40 = .ok (.ireturn, 1) := by decide +kernel
def fX6_spare_7 (p : List Nat) : Nat → Int32 → TF → Option (Int32 × TF)
  | 0, _, _ => none
  | n + 1, x2, t => if (200 : Int32) ≤ x2 then (some (x2, t)) else (((fX6_goes (0 : Int32) (0 : Int32) (t.2 (9 :: p))).bind fun z2 => if (((wrT t (9 :: p) z2.2).2 (9 :: p)).1 0 19) ≤ (((wrT t (9 :: p) z2.2).2 p).1 0 19) then (fX6_spare_7 p n (x2 + (1 : Int32)) (wrT t (9 :: p) z2.2)) else (some (x2, wrT t (9 :: p) z2.2))))
def fX6_spare_0 (p : List Nat) (t : TF) : Option (Int32 × TF) := ((fX6_fresh p t).bind fun z1 => fX6_spare_7 p FU (0 : Int32) z1.2)
def fX6_spare (p : List Nat) (t : TF) : Option (Int32 × TF) := fX6_spare_0 p t
set_option maxRecDepth 100000 in
set_option maxHeartbeats 4000000 in
theorem okX6_spare_7 {G : GG} {X : Nat → Prop} {ob0 : List Nat → Nat} {t0 : TF} {h00 : PH} (p : List Nat) : ∀ (n : Nat) (x2 : Int32) (t : TF) (ob : List Nat → Nat) (a0 : Nat) (e0 : AtF ob t (p) a0) (a1 : Nat) (e1 : AtF ob t (9 :: p) a1), EvP G 4 mX6_spare X ob0 t0 h00 rwI (fX6_spare_7 p n x2 t) 7 [(0, .ref a0), (1, .ref a1), (2, .int x2)] [] t ob := by
  intro n
  induction n with
  | zero => intro x2 t ob a0 e0 a1 e1; rw [fX6_spare_7]; exact ep_none
  | succ n ih =>
    intro x2 t ob a0 e0 a1 e1
    rw [fX6_spare_7]
    refine ep_iload_n (q := 8) 2 dX6_spare_7 rfl rfl rfl ?_
    refine ep_sipush (v := (200 : Int32)) (q := 11) dX6_spare_8 (by decide) rfl ?_
    refine ep_if (pt := 39) (pf := 14) (fun _ _ _ _ _ _ => ev_icmp_ge (tgt := 39) dX6_spare_11 (by decide)) (fun h1 => ?_) (fun h1 => ?_)
    · refine ep_iload_n (q := 40) 2 dX6_spare_39 rfl rfl rfl ?_
      exact ep_iret rfl dX6_spare_40
    · refine ep_aload_n (q := 15) 1 dX6_spare_14 rfl rfl rfl ?_
      refine ep_iconst (v := (0 : Int32)) (q := 16) dX6_spare_15 (by decide) rfl ?_
      refine ep_iconst (v := (0 : Int32)) (q := 17) dX6_spare_16 (by decide) rfl ?_
      refine ep_invVU1 (As := [.int (0 : Int32), .int (0 : Int32)]) (rest := []) (q := 20) e1 (okX6_goes (0 : Int32) (0 : Int32)) rfl calX6_goes ml6_212 (by decide) rfl rfl (Nat.le_of_ble_eq_true rfl) dX6_spare_17 rfl (fun z2 => ?_)
      refine ep_aload_n (q := 21) 1 dX6_spare_20 rfl rfl rfl ?_
      refine ep_getI (x := ((wrT t (9 :: p) z2.2).2 (9 :: p)).1 0 19) (q := 24) e1 fl6_283 rfl rfl dX6_spare_21 rfl ?_
      refine ep_aload_n (q := 25) 0 dX6_spare_24 rfl rfl rfl ?_
      refine ep_getI (x := ((wrT t (9 :: p) z2.2).2 p).1 0 19) (q := 28) e0 fl6_283 rfl rfl dX6_spare_25 rfl ?_
      refine ep_if (pt := 33) (pf := 31) (fun _ _ _ _ _ _ => ev_icmp_le (tgt := 33) dX6_spare_28 (by decide)) (fun h3 => ?_) (fun h3 => ?_)
      · refine ep_iinc (v := x2 + (1 : Int32)) (lv' := [(2, .int (x2 + (1 : Int32))), (0, .ref a0), (1, .ref a1)]) (q := 36) 2 dX6_spare_33 rfl rfl (by decide) rfl rfl ?_
        refine ep_goto (tgt := 7) dX6_spare_36 (by decide) ?_
        refine ep_sub (lv' := [(0, .ref a0), (1, .ref a1), (2, .int (x2 + (1 : Int32)))]) [1, 2, 0] rfl ?_
        exact ih (x2 + (1 : Int32)) (wrT t (9 :: p) z2.2) ob a0 e0 a1 e1
      · refine ep_iload_n (q := 32) 2 dX6_spare_31 rfl rfl rfl ?_
        exact ep_iret rfl dX6_spare_32
set_option maxRecDepth 100000 in
set_option maxHeartbeats 4000000 in
theorem okX6_spare_0 {G : GG} {X : Nat → Prop} {ob0 : List Nat → Nat} {t0 : TF} {h00 : PH} (p : List Nat) (t : TF) (ob : List Nat → Nat) (a0 : Nat) (e0 : AtF ob t (p) a0) : EvP G 4 mX6_spare X ob0 t0 h00 rwI (fX6_spare_0 p t) 0 [(0, .ref a0)] [] t ob := by
  unfold fX6_spare_0
  refine ep_aload_n (q := 1) 0 dX6_spare_0 rfl rfl rfl ?_
  refine ep_fresh (rest := []) (q := 4) e0 (okX6_fresh_f p) rfl calX6_fresh ml6_247 (by decide) rfl (Nat.le_of_ble_eq_true rfl) dX6_spare_1 rfl (fun z1 obz1 yz1 _ mvz1 ez1 => ?_)
  refine ep_astore_n (lv' := [(1, .ref yz1), (0, .ref a0)]) (q := 5) dX6_spare_4 rfl (by decide) rfl rfl ?_
  refine ep_iconst (v := (0 : Int32)) (q := 6) dX6_spare_5 (by decide) rfl ?_
  refine ep_istore_n (lv' := [(2, .int (0 : Int32)), (1, .ref yz1), (0, .ref a0)]) (q := 7) dX6_spare_6 rfl (by decide) rfl rfl ?_
  refine ep_sub (lv' := [(0, .ref a0), (1, .ref yz1), (2, .int (0 : Int32))]) [2, 1, 0] rfl ?_
  exact okX6_spare_7 p FU (0 : Int32) z1.2 obz1 a0 (mvz1 _ _ e0) yz1 ez1
theorem okX6_spare (p : List Nat) : MtP 4 mX6_spare rwI p (fun a => [.ref a]) (fX6_spare p) := by
  refine MtP.of (by decide +kernel) rfl (fun _ => Nat.le_of_ble_eq_true rfl) (fun G X ob t h a e => ?_)
  refine ep_sub (lv := [(0, .ref a)]) (lv' := [(0, .ref a)]) [0] rfl ?_
  exact okX6_spare_0 p t ob a e
-- X6_run
theorem dX6_run_0 : decode cX6_run 0 = .ok (.aload_n 0, 1) := by decide +kernel
theorem dX6_run_1 : decode cX6_run 1 = .ok (.iload_n 1, 1) := by decide +kernel
theorem dX6_run_2 : decode cX6_run 2 = .ok (.invokevirtual 113, 3) := by decide +kernel
theorem dX6_run_5 : decode cX6_run 5 = .ok (.ifCond .eq 27, 3) := by decide +kernel
theorem dX6_run_8 : decode cX6_run 8 = .ok (.iload_n 2, 1) := by decide +kernel
theorem dX6_run_9 : decode cX6_run 9 = .ok (.i2l, 1) := by decide +kernel
theorem dX6_run_10 : decode cX6_run 10 = .ok (.lconst 0, 1) := by decide +kernel
theorem dX6_run_11 : decode cX6_run 11 = .ok (.ldc2_w 338, 3) := by decide +kernel
theorem dX6_run_14 : decode cX6_run 14 = .ok (.invokestatic 89, 3) := by decide +kernel
theorem dX6_run_17 : decode cX6_run 17 = .ok (.ifCond .eq 15, 3) := by decide +kernel
theorem dX6_run_20 : decode cX6_run 20 = .ok (.iload_n 3, 1) := by decide +kernel
theorem dX6_run_21 : decode cX6_run 21 = .ok (.i2l, 1) := by decide +kernel
theorem dX6_run_22 : decode cX6_run 22 = .ok (.lconst 0, 1) := by decide +kernel
theorem dX6_run_23 : decode cX6_run 23 = .ok (.ldc2_w 132, 3) := by decide +kernel
theorem dX6_run_26 : decode cX6_run 26 = .ok (.invokestatic 89, 3) := by decide +kernel
theorem dX6_run_29 : decode cX6_run 29 = .ok (.ifCond .ne 10, 3) := by decide +kernel
theorem dX6_run_32 : decode cX6_run 32 = .ok (.aload_n 0, 1) := by decide +kernel
theorem dX6_run_33 : decode cX6_run 33 = .ok (.bipush (-2), 2) := by decide +kernel
theorem dX6_run_35 : decode cX6_run 35 = .ok (.invokevirtual 102, 3) := by decide +kernel
theorem dX6_run_38 : decode cX6_run 38 = .ok (.ireturn, 1) := by decide +kernel
theorem dX6_run_39 : decode cX6_run 39 = .ok (.aload_n 0, 1) := by decide +kernel
theorem dX6_run_40 : decode cX6_run 40 = .ok (.invokevirtual 247, 3) := by decide +kernel
theorem dX6_run_43 : decode cX6_run 43 = .ok (.astore 4, 2) := by decide +kernel
theorem dX6_run_45 : decode cX6_run 45 = .ok (.aload 4, 2) := by decide +kernel
theorem dX6_run_47 : decode cX6_run 47 = .ok (.iload_n 1, 1) := by decide +kernel
theorem dX6_run_48 : decode cX6_run 48 = .ok (.iload_n 2, 1) := by decide +kernel
theorem dX6_run_49 : decode cX6_run 49 = .ok (.invokevirtual 346, 3) := by decide +kernel
theorem dX6_run_52 : decode cX6_run 52 = .ok (.aload_n 0, 1) := by decide +kernel
theorem dX6_run_53 : decode cX6_run 53 = .ok (.aload 4, 2) := by decide +kernel
theorem dX6_run_55 : decode cX6_run 55 = .ok (.iload_n 3, 1) := by decide +kernel
theorem dX6_run_56 : decode cX6_run 56 = .ok (.invokevirtual 349, 3) := by decide +kernel
theorem dX6_run_59 : decode cX6_run 59 = .ok (.ireturn, 1) := by decide +kernel
def fX6_run_32 (p : List Nat) (t : TF) : Option (Int32 × TF) := ((fX6_refuse (-2 : Int32) (t.2 p)).bind fun z1 => some (z1.1, wrT t p z1.2))
def fX6_run_0 (p : List Nat) (x1 : Int32) (x2 : Int32) (x3 : Int32) (t : TF) : Option (Int32 × TF) := ((fX6_isLicker x1 (t.2 p)).bind fun z1 => if z1.1 = 0 then (fX6_run_32 p (wrT t p z1.2)) else (((fX6_in x2.toInt64 (0 : Int64) (200 : Int64) ((wrT t p z1.2).2 p)).bind fun z3 => if z3.1 = 0 then (fX6_run_32 p (wrT t p z1.2)) else (((fX6_in x3.toInt64 (0 : Int64) (3 : Int64) ((wrT t p z1.2).2 p)).bind fun z5 => if z5.1 = 0 then (fX6_run_32 p (wrT t p z1.2)) else (((fX6_fresh p (wrT t p z1.2)).bind fun z7 => ((fX6_lickedBy (9 :: p) x1 x2 z7.2).bind fun z8 => ((fX6_toldOf x3 (prS (z8.2.2 p) (z8.2.2 (9 :: p)))).bind fun z9 => some (z9.1, wrT (wrT z8.2 p z9.2) (9 :: p) (snS z9.2)))))))))))
def fX6_run (p : List Nat) (x1 : Int32) (x2 : Int32) (x3 : Int32) (t : TF) : Option (Int32 × TF) := fX6_run_0 p x1 x2 x3 t
set_option maxRecDepth 100000 in
set_option maxHeartbeats 4000000 in
theorem okX6_run_32 {G : GG} {X : Nat → Prop} {ob0 : List Nat → Nat} {t0 : TF} {h00 : PH} (p : List Nat) (t : TF) (ob : List Nat → Nat) (a0 : Nat) (e0 : AtF ob t (p) a0) : EvP G 11 mX6_run X ob0 t0 h00 rwI (fX6_run_32 p t) 32 [(0, .ref a0)] [] t ob := by
  unfold fX6_run_32
  refine ep_aload_n (q := 33) 0 dX6_run_32 rfl rfl rfl ?_
  refine ep_bipush (v := (-2 : Int32)) (q := 35) dX6_run_33 (by decide) rfl ?_
  refine ep_invVI1 (As := [.int (-2 : Int32)]) (rest := []) (q := 38) e0 (okX6_refuse (-2 : Int32)) rfl calX6_refuse ml6_102 (by decide) rfl rfl (Nat.le_of_ble_eq_true rfl) dX6_run_35 rfl (fun z1 => ?_)
  exact ep_iret rfl dX6_run_38
set_option maxRecDepth 100000 in
set_option maxHeartbeats 4000000 in
theorem okX6_run_0 {G : GG} {X : Nat → Prop} {ob0 : List Nat → Nat} {t0 : TF} {h00 : PH} (p : List Nat) (x1 : Int32) (x2 : Int32) (x3 : Int32) (t : TF) (ob : List Nat → Nat) (a0 : Nat) (e0 : AtF ob t (p) a0) : EvP G 11 mX6_run X ob0 t0 h00 rwI (fX6_run_0 p x1 x2 x3 t) 0 [(0, .ref a0), (1, .int x1), (2, .int x2), (3, .int x3)] [] t ob := by
  unfold fX6_run_0
  refine ep_aload_n (q := 1) 0 dX6_run_0 rfl rfl rfl ?_
  refine ep_iload_n (q := 2) 1 dX6_run_1 rfl rfl rfl ?_
  refine ep_invVI1 (As := [.int x1]) (rest := []) (q := 5) e0 (okX6_isLicker x1) rfl calX6_isLicker ml6_113 (by decide) rfl rfl (Nat.le_of_ble_eq_true rfl) dX6_run_2 rfl (fun z1 => ?_)
  refine ep_if (pt := 32) (pf := 8) (fun _ _ _ _ _ _ => ev_if_eq (tgt := 32) dX6_run_5 (by decide)) (fun h2 => ?_) (fun h2 => ?_)
  · refine ep_sub (lv' := [(0, .ref a0)]) [0] rfl ?_
    exact okX6_run_32 p (wrT t p z1.2) ob a0 e0
  · refine ep_iload_n (q := 9) 2 dX6_run_8 rfl rfl rfl ?_
    refine ep_i2l (v := x2.toInt64) (q := 10) dX6_run_9 rfl rfl ?_
    refine ep_lconst (v := (0 : Int64)) (q := 11) dX6_run_10 (by decide) rfl ?_
    refine ep_ldc2 (v := (200 : Int64)) (q := 14) k6_338 dX6_run_11 rfl ?_
    refine ep_invPI (s := (wrT t p z1.2).2 p) (As := [.long x2.toInt64, .long (0 : Int64), .long (200 : Int64)]) (rest := []) (q := 17) (okX6_in x2.toInt64 (0 : Int64) (200 : Int64)) rfl calX6_in ml6_89 (by decide) rfl rfl (Nat.le_of_ble_eq_true rfl) dX6_run_14 rfl (fun z3 => ?_)
    refine ep_if (pt := 32) (pf := 20) (fun _ _ _ _ _ _ => ev_if_eq (tgt := 32) dX6_run_17 (by decide)) (fun h4 => ?_) (fun h4 => ?_)
    · refine ep_sub (lv' := [(0, .ref a0)]) [0] rfl ?_
      exact okX6_run_32 p (wrT t p z1.2) ob a0 e0
    · refine ep_iload_n (q := 21) 3 dX6_run_20 rfl rfl rfl ?_
      refine ep_i2l (v := x3.toInt64) (q := 22) dX6_run_21 rfl rfl ?_
      refine ep_lconst (v := (0 : Int64)) (q := 23) dX6_run_22 (by decide) rfl ?_
      refine ep_ldc2 (v := (3 : Int64)) (q := 26) k6_132 dX6_run_23 rfl ?_
      refine ep_invPI (s := (wrT t p z1.2).2 p) (As := [.long x3.toInt64, .long (0 : Int64), .long (3 : Int64)]) (rest := []) (q := 29) (okX6_in x3.toInt64 (0 : Int64) (3 : Int64)) rfl calX6_in ml6_89 (by decide) rfl rfl (Nat.le_of_ble_eq_true rfl) dX6_run_26 rfl (fun z5 => ?_)
      refine ep_if (pt := 32) (pf := 39) (fun _ _ _ _ _ _ kt kf => ev_if_ne (tgt := 39) dX6_run_29 (by decide) kf kt) (fun h6 => ?_) (fun h6 => ?_)
      · refine ep_sub (lv' := [(0, .ref a0)]) [0] rfl ?_
        exact okX6_run_32 p (wrT t p z1.2) ob a0 e0
      · refine ep_aload_n (q := 40) 0 dX6_run_39 rfl rfl rfl ?_
        refine ep_fresh (rest := []) (q := 43) e0 (okX6_fresh_f p) rfl calX6_fresh ml6_247 (by decide) rfl (Nat.le_of_ble_eq_true rfl) dX6_run_40 rfl (fun z7 obz7 yz7 _ mvz7 ez7 => ?_)
        refine ep_astore (lv' := [(4, .ref yz7), (0, .ref a0), (1, .int x1), (2, .int x2), (3, .int x3)]) (q := 45) dX6_run_43 (by decide) rfl rfl ?_
        refine ep_aload (q := 47) 0 dX6_run_45 rfl rfl ?_
        refine ep_iload_n (q := 48) 2 dX6_run_47 rfl rfl rfl ?_
        refine ep_iload_n (q := 49) 3 dX6_run_48 rfl rfl rfl ?_
        refine ep_invVUP (As := [.int x1, .int x2]) (rest := []) (q := 52) ez7 (okX6_lickedBy (9 :: p) x1 x2) rfl calX6_lickedBy ml6_346 (by decide) rfl rfl (Nat.le_of_ble_eq_true rfl) dX6_run_49 rfl (fun z8 obz8 _ mvz8 => ?_)
        refine ep_aload_n (q := 53) 1 dX6_run_52 rfl rfl rfl ?_
        refine ep_aload (q := 55) 0 dX6_run_53 rfl rfl ?_
        refine ep_iload_n (q := 56) 4 dX6_run_55 rfl rfl rfl ?_
        refine ep_invVI2 (As := [.ref yz7, .int x3]) (rest := []) (q := 59) (mvz8 _ _ (mvz7 _ _ e0)) (mvz8 _ _ ez7) cne' (okX6_toldOf x3) rfl calX6_toldOf ml6_349 (by decide) rfl rfl (Nat.le_of_ble_eq_true rfl) dX6_run_56 rfl (fun z9 => ?_)
        exact ep_iret rfl dX6_run_59
theorem okX6_run (p : List Nat) (x1 : Int32) (x2 : Int32) (x3 : Int32) : MtP 11 mX6_run rwI p (fun a => [.ref a, .int x1, .int x2, .int x3]) (fX6_run p x1 x2 x3) := by
  refine MtP.of (by decide +kernel) rfl (fun _ => Nat.le_of_ble_eq_true rfl) (fun G X ob t h a e => ?_)
  refine ep_sub (lv := [(0, .ref a), (1, .int x1), (2, .int x2), (3, .int x3)]) (lv' := [(0, .ref a), (1, .int x1), (2, .int x2), (3, .int x3)]) [0, 1, 2, 3] rfl ?_
  exact okX6_run_0 p x1 x2 x3 t ob a e
-- X6_best
theorem dX6_best_0 : decode cX6_best 0 = .ok (.iload_n 1, 1) := by decide +kernel
theorem dX6_best_1 : decode cX6_best 1 = .ok (.i2l, 1) := by decide +kernel
theorem dX6_best_2 : decode cX6_best 2 = .ok (.lconst 0, 1) := by decide +kernel
theorem dX6_best_3 : decode cX6_best 3 = .ok (.ldc2_w 338, 3) := by decide +kernel
theorem dX6_best_6 : decode cX6_best 6 = .ok (.invokestatic 89, 3) := by decide +kernel
theorem dX6_best_9 : decode cX6_best 9 = .ok (.ifCond .ne 10, 3) := by decide +kernel
theorem dX6_best_12 : decode cX6_best 12 = .ok (.aload_n 0, 1) := by decide +kernel
theorem dX6_best_13 : decode cX6_best 13 = .ok (.bipush (-2), 2) := by decide +kernel
theorem dX6_best_15 : decode cX6_best 15 = .ok (.invokevirtual 102, 3) := by decide +kernel
theorem dX6_best_18 : decode cX6_best 18 = .ok (.ireturn, 1) := by decide +kernel
theorem dX6_best_19 : decode cX6_best 19 = .ok (.aload_n 0, 1) := by decide +kernel
theorem dX6_best_20 : decode cX6_best 20 = .ok (.getfield 86, 3) := by decide +kernel
theorem dX6_best_23 : decode cX6_best 23 = .ok (.ifCond .ne 10, 3) := by decide +kernel
theorem dX6_best_26 : decode cX6_best 26 = .ok (.aload_n 0, 1) := by decide +kernel
theorem dX6_best_27 : decode cX6_best 27 = .ok (.bipush (-5), 2) := by decide +kernel
theorem dX6_best_29 : decode cX6_best 29 = .ok (.invokevirtual 102, 3) := by decide +kernel
theorem dX6_best_32 : decode cX6_best 32 = .ok (.ireturn, 1) := by decide +kernel
theorem dX6_best_33 : decode cX6_best 33 = .ok (.iconst (-1), 1) := by decide +kernel
theorem dX6_best_34 : decode cX6_best 34 = .ok (.istore_n 2, 1) := by decide +kernel
theorem dX6_best_35 : decode cX6_best 35 = .ok (.iconst 0, 1) := by decide +kernel
theorem dX6_best_36 : decode cX6_best 36 = .ok (.istore_n 3, 1) := by decide +kernel
theorem dX6_best_37 : decode cX6_best 37 = .ok (.iconst 0, 1) := by decide +kernel
theorem dX6_best_38 : decode cX6_best 38 = .ok (.istore 4, 2) := by decide +kernel
theorem dX6_best_40 : decode cX6_best 40 = .ok (.iconst 0, 1) := by decide +kernel
theorem dX6_best_41 : decode cX6_best 41 = .ok (.istore 5, 2) := by decide +kernel
theorem dX6_best_43 : decode cX6_best 43 = .ok (.iload 5, 2) := by decide +kernel
theorem dX6_best_45 : decode cX6_best 45 = .ok (.aload_n 0, 1) := by decide +kernel
theorem dX6_best_46 : decode cX6_best 46 = .ok (.getfield 86, 3) := by decide +kernel
theorem dX6_best_49 : decode cX6_best 49 = .ok (.if_icmp .ge 72, 3) := by decide +kernel
theorem dX6_best_52 : decode cX6_best 52 = .ok (.aload_n 0, 1) := by decide +kernel
theorem dX6_best_53 : decode cX6_best 53 = .ok (.invokevirtual 247, 3) := by decide +kernel
theorem dX6_best_56 : decode cX6_best 56 = .ok (.astore 6, 2) := by decide +kernel
theorem dX6_best_58 : decode cX6_best 58 = .ok (.aload 6, 2) := by decide +kernel
theorem dX6_best_60 : decode cX6_best 60 = .ok (.iload 5, 2) := by decide +kernel
theorem dX6_best_62 : decode cX6_best 62 = .ok (.iload_n 1, 1) := by decide +kernel
theorem dX6_best_63 : decode cX6_best 63 = .ok (.invokevirtual 346, 3) := by decide +kernel
theorem dX6_best_66 : decode cX6_best 66 = .ok (.iload_n 2, 1) := by decide +kernel
theorem dX6_best_67 : decode cX6_best 67 = .ok (.iconst (-1), 1) := by decide +kernel
theorem dX6_best_68 : decode cX6_best 68 = .ok (.if_icmp .eq 31, 3) := by decide +kernel
theorem dX6_best_71 : decode cX6_best 71 = .ok (.aload 6, 2) := by decide +kernel
theorem dX6_best_73 : decode cX6_best 73 = .ok (.getfield 283, 3) := by decide +kernel
theorem dX6_best_76 : decode cX6_best 76 = .ok (.iload_n 3, 1) := by decide +kernel
theorem dX6_best_77 : decode cX6_best 77 = .ok (.if_icmp .lt 22, 3) := by decide +kernel
theorem dX6_best_80 : decode cX6_best 80 = .ok (.aload 6, 2) := by decide +kernel
theorem dX6_best_82 : decode cX6_best 82 = .ok (.getfield 283, 3) := by decide +kernel
theorem dX6_best_85 : decode cX6_best 85 = .ok (.iload_n 3, 1) := by decide +kernel
theorem dX6_best_86 : decode cX6_best 86 = .ok (.if_icmp .ne 29, 3) := by decide +kernel
theorem dX6_best_89 : decode cX6_best 89 = .ok (.aload 6, 2) := by decide +kernel
theorem dX6_best_91 : decode cX6_best 91 = .ok (.getfield 274, 3) := by decide +kernel
theorem dX6_best_94 : decode cX6_best 94 = .ok (.iload 4, 2) := by decide +kernel
theorem dX6_best_96 : decode cX6_best 96 = .ok (.if_icmp .le 19, 3) := by decide +kernel
theorem dX6_best_99 : decode cX6_best 99 = .ok (.iload 5, 2) := by decide +kernel
theorem dX6_best_101 : decode cX6_best 101 = .ok (.istore_n 2, 1) := by decide +kernel
theorem dX6_best_102 : decode cX6_best 102 = .ok (.aload 6, 2) := by decide +kernel
theorem dX6_best_104 : decode cX6_best 104 = .ok (.getfield 283, 3) := by decide +kernel
theorem dX6_best_107 : decode cX6_best 107 = .ok (.istore_n 3, 1) := by decide +kernel
theorem dX6_best_108 : decode cX6_best 108 = .ok (.aload 6, 2) := by decide +kernel
theorem dX6_best_110 : decode cX6_best 110 = .ok (.getfield 274, 3) := by decide +kernel
theorem dX6_best_113 : decode cX6_best 113 = .ok (.istore 4, 2) := by decide +kernel
theorem dX6_best_115 : decode cX6_best 115 = .ok (.iinc 5 1, 3) := by decide +kernel
theorem dX6_best_118 : decode cX6_best 118 = .ok (.goto (-75), 3) := by decide +kernel
theorem dX6_best_121 : decode cX6_best 121 = .ok (.iload_n 2, 1) := by decide +kernel
theorem dX6_best_122 : decode cX6_best 122 = .ok (.ireturn, 1) := by decide +kernel
def fX6_best_99 (p : List Nat) (rec_43 : Int32 → Int32 → Int32 → Int32 → Int32 → TF → Option (Int32 × TF)) (x1 : Int32) (x5 : Int32) (t : TF) : Option (Int32 × TF) := rec_43 x1 x5 ((t.2 (9 :: p)).1 0 19) ((t.2 (9 :: p)).1 0 20) (x5 + (1 : Int32)) t
def fX6_best_43 (p : List Nat) : Nat → Int32 → Int32 → Int32 → Int32 → Int32 → TF → Option (Int32 × TF)
  | 0, _, _, _, _, _, _ => none
  | n + 1, x1, x2, x3, x4, x5, t => if ((t.2 p).1 0 22) ≤ x5 then (some (x2, t)) else (((fX6_fresh p t).bind fun z2 => ((fX6_lickedBy (9 :: p) x5 x1 z2.2).bind fun z3 => if x2 = (-1 : Int32) then (fX6_best_99 p (fX6_best_43 p n) x1 x5 z3.2) else (if ((z3.2.2 (9 :: p)).1 0 19) < x3 then (fX6_best_99 p (fX6_best_43 p n) x1 x5 z3.2) else (if ((z3.2.2 (9 :: p)).1 0 19) = x3 then (if ((z3.2.2 (9 :: p)).1 0 20) ≤ x4 then (fX6_best_43 p n x1 x2 x3 x4 (x5 + (1 : Int32)) z3.2) else (fX6_best_99 p (fX6_best_43 p n) x1 x5 z3.2)) else (fX6_best_43 p n x1 x2 x3 x4 (x5 + (1 : Int32)) z3.2))))))
def fX6_best_0 (p : List Nat) (x1 : Int32) (t : TF) : Option (Int32 × TF) := ((fX6_in x1.toInt64 (0 : Int64) (200 : Int64) (t.2 p)).bind fun z1 => if z1.1 = 0 then (((fX6_refuse (-2 : Int32) (t.2 p)).bind fun z3 => some (z3.1, wrT t p z3.2))) else (if ((t.2 p).1 0 22) = 0 then (((fX6_refuse (-5 : Int32) (t.2 p)).bind fun z5 => some (z5.1, wrT t p z5.2))) else (fX6_best_43 p FU x1 (-1 : Int32) (0 : Int32) (0 : Int32) (0 : Int32) t)))
def fX6_best (p : List Nat) (x1 : Int32) (t : TF) : Option (Int32 × TF) := fX6_best_0 p x1 t
set_option maxRecDepth 100000 in
set_option maxHeartbeats 4000000 in
theorem okX6_best_99 {G : GG} {X : Nat → Prop} {ob0 : List Nat → Nat} {t0 : TF} {h00 : PH} (p : List Nat) (rec_43 : Int32 → Int32 → Int32 → Int32 → Int32 → TF → Option (Int32 × TF)) (hrec_43 : ∀ (x1 : Int32) (x2 : Int32) (x3 : Int32) (x4 : Int32) (x5 : Int32) (t : TF) (ob : List Nat → Nat) (a0 : Nat) (e0 : AtF ob t (p) a0), EvP G 11 mX6_best X ob0 t0 h00 rwI (rec_43 x1 x2 x3 x4 x5 t) 43 [(0, .ref a0), (1, .int x1), (2, .int x2), (3, .int x3), (4, .int x4), (5, .int x5)] [] t ob) (x1 : Int32) (x5 : Int32) (t : TF) (ob : List Nat → Nat) (a0 : Nat) (e0 : AtF ob t (p) a0) (a1 : Nat) (e1 : AtF ob t (9 :: p) a1) : EvP G 11 mX6_best X ob0 t0 h00 rwI (fX6_best_99 p rec_43 x1 x5 t) 99 [(0, .ref a0), (1, .int x1), (5, .int x5), (6, .ref a1)] [] t ob := by
  unfold fX6_best_99
  refine ep_iload (q := 101) 2 dX6_best_99 rfl rfl ?_
  refine ep_istore_n (lv' := [(2, .int x5), (0, .ref a0), (1, .int x1), (5, .int x5), (6, .ref a1)]) (q := 102) dX6_best_101 rfl (by decide) rfl rfl ?_
  refine ep_aload (q := 104) 4 dX6_best_102 rfl rfl ?_
  refine ep_getI (x := (t.2 (9 :: p)).1 0 19) (q := 107) e1 fl6_283 rfl rfl dX6_best_104 rfl ?_
  refine ep_istore_n (lv' := [(3, .int ((t.2 (9 :: p)).1 0 19)), (2, .int x5), (0, .ref a0), (1, .int x1), (5, .int x5), (6, .ref a1)]) (q := 108) dX6_best_107 rfl (by decide) rfl rfl ?_
  refine ep_aload (q := 110) 5 dX6_best_108 rfl rfl ?_
  refine ep_getI (x := (t.2 (9 :: p)).1 0 20) (q := 113) e1 fl6_274 rfl rfl dX6_best_110 rfl ?_
  refine ep_istore (lv' := [(4, .int ((t.2 (9 :: p)).1 0 20)), (3, .int ((t.2 (9 :: p)).1 0 19)), (2, .int x5), (0, .ref a0), (1, .int x1), (5, .int x5), (6, .ref a1)]) (q := 115) dX6_best_113 (by decide) rfl rfl ?_
  refine ep_iinc (v := x5 + (1 : Int32)) (lv' := [(5, .int (x5 + (1 : Int32))), (4, .int ((t.2 (9 :: p)).1 0 20)), (3, .int ((t.2 (9 :: p)).1 0 19)), (2, .int x5), (0, .ref a0), (1, .int x1), (6, .ref a1)]) (q := 118) 5 dX6_best_115 rfl rfl (by decide) rfl rfl ?_
  refine ep_goto (tgt := 43) dX6_best_118 (by decide) ?_
  refine ep_sub (lv' := [(0, .ref a0), (1, .int x1), (2, .int x5), (3, .int ((t.2 (9 :: p)).1 0 19)), (4, .int ((t.2 (9 :: p)).1 0 20)), (5, .int (x5 + (1 : Int32)))]) [4, 5, 3, 2, 1, 0] rfl ?_
  exact hrec_43 x1 x5 ((t.2 (9 :: p)).1 0 19) ((t.2 (9 :: p)).1 0 20) (x5 + (1 : Int32)) t ob a0 e0
set_option maxRecDepth 100000 in
set_option maxHeartbeats 4000000 in
theorem okX6_best_43 {G : GG} {X : Nat → Prop} {ob0 : List Nat → Nat} {t0 : TF} {h00 : PH} (p : List Nat) : ∀ (n : Nat) (x1 : Int32) (x2 : Int32) (x3 : Int32) (x4 : Int32) (x5 : Int32) (t : TF) (ob : List Nat → Nat) (a0 : Nat) (e0 : AtF ob t (p) a0), EvP G 11 mX6_best X ob0 t0 h00 rwI (fX6_best_43 p n x1 x2 x3 x4 x5 t) 43 [(0, .ref a0), (1, .int x1), (2, .int x2), (3, .int x3), (4, .int x4), (5, .int x5)] [] t ob := by
  intro n
  induction n with
  | zero => intro x1 x2 x3 x4 x5 t ob a0 e0; rw [fX6_best_43]; exact ep_none
  | succ n ih =>
    intro x1 x2 x3 x4 x5 t ob a0 e0
    rw [fX6_best_43]
    refine ep_iload (q := 45) 5 dX6_best_43 rfl rfl ?_
    refine ep_aload_n (q := 46) 0 dX6_best_45 rfl rfl rfl ?_
    refine ep_getI (x := (t.2 p).1 0 22) (q := 49) e0 fl6_86 rfl rfl dX6_best_46 rfl ?_
    refine ep_if (pt := 121) (pf := 52) (fun _ _ _ _ _ _ => ev_icmp_ge (tgt := 121) dX6_best_49 (by decide)) (fun h1 => ?_) (fun h1 => ?_)
    · refine ep_iload_n (q := 122) 2 dX6_best_121 rfl rfl rfl ?_
      exact ep_iret rfl dX6_best_122
    · refine ep_aload_n (q := 53) 0 dX6_best_52 rfl rfl rfl ?_
      refine ep_fresh (rest := []) (q := 56) e0 (okX6_fresh_f p) rfl calX6_fresh ml6_247 (by decide) rfl (Nat.le_of_ble_eq_true rfl) dX6_best_53 rfl (fun z2 obz2 yz2 _ mvz2 ez2 => ?_)
      refine ep_astore (lv' := [(6, .ref yz2), (0, .ref a0), (1, .int x1), (2, .int x2), (3, .int x3), (4, .int x4), (5, .int x5)]) (q := 58) dX6_best_56 (by decide) rfl rfl ?_
      refine ep_aload (q := 60) 0 dX6_best_58 rfl rfl ?_
      refine ep_iload (q := 62) 6 dX6_best_60 rfl rfl ?_
      refine ep_iload_n (q := 63) 2 dX6_best_62 rfl rfl rfl ?_
      refine ep_invVUP (As := [.int x5, .int x1]) (rest := []) (q := 66) ez2 (okX6_lickedBy (9 :: p) x5 x1) rfl calX6_lickedBy ml6_346 (by decide) rfl rfl (Nat.le_of_ble_eq_true rfl) dX6_best_63 rfl (fun z3 obz3 _ mvz3 => ?_)
      refine ep_iload_n (q := 67) 3 dX6_best_66 rfl rfl rfl ?_
      refine ep_iconst (v := (-1 : Int32)) (q := 68) dX6_best_67 (by decide) rfl ?_
      refine ep_if (pt := 99) (pf := 71) (fun _ _ _ _ _ _ => ev_icmp_eq (tgt := 99) dX6_best_68 (by decide)) (fun h4 => ?_) (fun h4 => ?_)
      · refine ep_sub (lv' := [(0, .ref a0), (1, .int x1), (5, .int x5), (6, .ref yz2)]) [1, 2, 6, 0] rfl ?_
        exact okX6_best_99 p (fX6_best_43 p n) ih x1 x5 z3.2 obz3 a0 (mvz3 _ _ (mvz2 _ _ e0)) yz2 (mvz3 _ _ ez2)
      · refine ep_aload (q := 73) 0 dX6_best_71 rfl rfl ?_
        refine ep_getI (x := (z3.2.2 (9 :: p)).1 0 19) (q := 76) (mvz3 _ _ ez2) fl6_283 rfl rfl dX6_best_73 rfl ?_
        refine ep_iload_n (q := 77) 4 dX6_best_76 rfl rfl rfl ?_
        refine ep_if (pt := 99) (pf := 80) (fun _ _ _ _ _ _ => ev_icmp_lt (tgt := 99) dX6_best_77 (by decide)) (fun h5 => ?_) (fun h5 => ?_)
        · refine ep_sub (lv' := [(0, .ref a0), (1, .int x1), (5, .int x5), (6, .ref yz2)]) [1, 2, 6, 0] rfl ?_
          exact okX6_best_99 p (fX6_best_43 p n) ih x1 x5 z3.2 obz3 a0 (mvz3 _ _ (mvz2 _ _ e0)) yz2 (mvz3 _ _ ez2)
        · refine ep_aload (q := 82) 0 dX6_best_80 rfl rfl ?_
          refine ep_getI (x := (z3.2.2 (9 :: p)).1 0 19) (q := 85) (mvz3 _ _ ez2) fl6_283 rfl rfl dX6_best_82 rfl ?_
          refine ep_iload_n (q := 86) 4 dX6_best_85 rfl rfl rfl ?_
          refine ep_if (pt := 89) (pf := 115) (fun _ _ _ _ _ _ kt kf => ev_icmp_ne (tgt := 115) dX6_best_86 (by decide) kf kt) (fun h6 => ?_) (fun h6 => ?_)
          · refine ep_aload (q := 91) 0 dX6_best_89 rfl rfl ?_
            refine ep_getI (x := (z3.2.2 (9 :: p)).1 0 20) (q := 94) (mvz3 _ _ ez2) fl6_274 rfl rfl dX6_best_91 rfl ?_
            refine ep_iload (q := 96) 5 dX6_best_94 rfl rfl ?_
            refine ep_if (pt := 115) (pf := 99) (fun _ _ _ _ _ _ => ev_icmp_le (tgt := 115) dX6_best_96 (by decide)) (fun h7 => ?_) (fun h7 => ?_)
            · refine ep_iinc (v := x5 + (1 : Int32)) (lv' := [(5, .int (x5 + (1 : Int32))), (6, .ref yz2), (0, .ref a0), (1, .int x1), (2, .int x2), (3, .int x3), (4, .int x4)]) (q := 118) 6 dX6_best_115 rfl rfl (by decide) rfl rfl ?_
              refine ep_goto (tgt := 43) dX6_best_118 (by decide) ?_
              refine ep_sub (lv' := [(0, .ref a0), (1, .int x1), (2, .int x2), (3, .int x3), (4, .int x4), (5, .int (x5 + (1 : Int32)))]) [2, 3, 4, 5, 6, 0] rfl ?_
              exact ih x1 x2 x3 x4 (x5 + (1 : Int32)) z3.2 obz3 a0 (mvz3 _ _ (mvz2 _ _ e0))
            · refine ep_sub (lv' := [(0, .ref a0), (1, .int x1), (5, .int x5), (6, .ref yz2)]) [1, 2, 6, 0] rfl ?_
              exact okX6_best_99 p (fX6_best_43 p n) ih x1 x5 z3.2 obz3 a0 (mvz3 _ _ (mvz2 _ _ e0)) yz2 (mvz3 _ _ ez2)
          · refine ep_iinc (v := x5 + (1 : Int32)) (lv' := [(5, .int (x5 + (1 : Int32))), (6, .ref yz2), (0, .ref a0), (1, .int x1), (2, .int x2), (3, .int x3), (4, .int x4)]) (q := 118) 6 dX6_best_115 rfl rfl (by decide) rfl rfl ?_
            refine ep_goto (tgt := 43) dX6_best_118 (by decide) ?_
            refine ep_sub (lv' := [(0, .ref a0), (1, .int x1), (2, .int x2), (3, .int x3), (4, .int x4), (5, .int (x5 + (1 : Int32)))]) [2, 3, 4, 5, 6, 0] rfl ?_
            exact ih x1 x2 x3 x4 (x5 + (1 : Int32)) z3.2 obz3 a0 (mvz3 _ _ (mvz2 _ _ e0))
set_option maxRecDepth 100000 in
set_option maxHeartbeats 4000000 in
theorem okX6_best_0 {G : GG} {X : Nat → Prop} {ob0 : List Nat → Nat} {t0 : TF} {h00 : PH} (p : List Nat) (x1 : Int32) (t : TF) (ob : List Nat → Nat) (a0 : Nat) (e0 : AtF ob t (p) a0) : EvP G 11 mX6_best X ob0 t0 h00 rwI (fX6_best_0 p x1 t) 0 [(0, .ref a0), (1, .int x1)] [] t ob := by
  unfold fX6_best_0
  refine ep_iload_n (q := 1) 1 dX6_best_0 rfl rfl rfl ?_
  refine ep_i2l (v := x1.toInt64) (q := 2) dX6_best_1 rfl rfl ?_
  refine ep_lconst (v := (0 : Int64)) (q := 3) dX6_best_2 (by decide) rfl ?_
  refine ep_ldc2 (v := (200 : Int64)) (q := 6) k6_338 dX6_best_3 rfl ?_
  refine ep_invPI (s := t.2 p) (As := [.long x1.toInt64, .long (0 : Int64), .long (200 : Int64)]) (rest := []) (q := 9) (okX6_in x1.toInt64 (0 : Int64) (200 : Int64)) rfl calX6_in ml6_89 (by decide) rfl rfl (Nat.le_of_ble_eq_true rfl) dX6_best_6 rfl (fun z1 => ?_)
  refine ep_if (pt := 12) (pf := 19) (fun _ _ _ _ _ _ kt kf => ev_if_ne (tgt := 19) dX6_best_9 (by decide) kf kt) (fun h2 => ?_) (fun h2 => ?_)
  · refine ep_aload_n (q := 13) 0 dX6_best_12 rfl rfl rfl ?_
    refine ep_bipush (v := (-2 : Int32)) (q := 15) dX6_best_13 (by decide) rfl ?_
    refine ep_invVI1 (As := [.int (-2 : Int32)]) (rest := []) (q := 18) e0 (okX6_refuse (-2 : Int32)) rfl calX6_refuse ml6_102 (by decide) rfl rfl (Nat.le_of_ble_eq_true rfl) dX6_best_15 rfl (fun z3 => ?_)
    exact ep_iret rfl dX6_best_18
  · refine ep_aload_n (q := 20) 0 dX6_best_19 rfl rfl rfl ?_
    refine ep_getI (x := (t.2 p).1 0 22) (q := 23) e0 fl6_86 rfl rfl dX6_best_20 rfl ?_
    refine ep_if (pt := 26) (pf := 33) (fun _ _ _ _ _ _ kt kf => ev_if_ne (tgt := 33) dX6_best_23 (by decide) kf kt) (fun h4 => ?_) (fun h4 => ?_)
    · refine ep_aload_n (q := 27) 0 dX6_best_26 rfl rfl rfl ?_
      refine ep_bipush (v := (-5 : Int32)) (q := 29) dX6_best_27 (by decide) rfl ?_
      refine ep_invVI1 (As := [.int (-5 : Int32)]) (rest := []) (q := 32) e0 (okX6_refuse (-5 : Int32)) rfl calX6_refuse ml6_102 (by decide) rfl rfl (Nat.le_of_ble_eq_true rfl) dX6_best_29 rfl (fun z5 => ?_)
      exact ep_iret rfl dX6_best_32
    · refine ep_iconst (v := (-1 : Int32)) (q := 34) dX6_best_33 (by decide) rfl ?_
      refine ep_istore_n (lv' := [(2, .int (-1 : Int32)), (0, .ref a0), (1, .int x1)]) (q := 35) dX6_best_34 rfl (by decide) rfl rfl ?_
      refine ep_iconst (v := (0 : Int32)) (q := 36) dX6_best_35 (by decide) rfl ?_
      refine ep_istore_n (lv' := [(3, .int (0 : Int32)), (2, .int (-1 : Int32)), (0, .ref a0), (1, .int x1)]) (q := 37) dX6_best_36 rfl (by decide) rfl rfl ?_
      refine ep_iconst (v := (0 : Int32)) (q := 38) dX6_best_37 (by decide) rfl ?_
      refine ep_istore (lv' := [(4, .int (0 : Int32)), (3, .int (0 : Int32)), (2, .int (-1 : Int32)), (0, .ref a0), (1, .int x1)]) (q := 40) dX6_best_38 (by decide) rfl rfl ?_
      refine ep_iconst (v := (0 : Int32)) (q := 41) dX6_best_40 (by decide) rfl ?_
      refine ep_istore (lv' := [(5, .int (0 : Int32)), (4, .int (0 : Int32)), (3, .int (0 : Int32)), (2, .int (-1 : Int32)), (0, .ref a0), (1, .int x1)]) (q := 43) dX6_best_41 (by decide) rfl rfl ?_
      refine ep_sub (lv' := [(0, .ref a0), (1, .int x1), (2, .int (-1 : Int32)), (3, .int (0 : Int32)), (4, .int (0 : Int32)), (5, .int (0 : Int32))]) [4, 5, 3, 2, 1, 0] rfl ?_
      exact okX6_best_43 p FU x1 (-1 : Int32) (0 : Int32) (0 : Int32) (0 : Int32) t ob a0 e0
theorem okX6_best (p : List Nat) (x1 : Int32) : MtP 11 mX6_best rwI p (fun a => [.ref a, .int x1]) (fX6_best p x1) := by
  refine MtP.of (by decide +kernel) rfl (fun _ => Nat.le_of_ble_eq_true rfl) (fun G X ob t h a e => ?_)
  refine ep_sub (lv := [(0, .ref a), (1, .int x1)]) (lv' := [(0, .ref a), (1, .int x1)]) [0, 1] rfl ?_
  exact okX6_best_0 p x1 t ob a e
-- X6_until
theorem dX6_until_0 : decode cX6_until 0 = .ok (.aload_n 0, 1) := by decide +kernel
theorem dX6_until_1 : decode cX6_until 1 = .ok (.iload_n 1, 1) := by decide +kernel
theorem dX6_until_2 : decode cX6_until 2 = .ok (.invokevirtual 113, 3) := by decide +kernel
theorem dX6_until_5 : decode cX6_until 5 = .ok (.ifCond .ne 10, 3) := by decide +kernel
theorem dX6_until_8 : decode cX6_until 8 = .ok (.aload_n 0, 1) := by decide +kernel
theorem dX6_until_9 : decode cX6_until 9 = .ok (.bipush (-2), 2) := by decide +kernel
theorem dX6_until_11 : decode cX6_until 11 = .ok (.invokevirtual 102, 3) := by decide +kernel
theorem dX6_until_14 : decode cX6_until 14 = .ok (.ireturn, 1) := by decide +kernel
theorem dX6_until_15 : decode cX6_until 15 = .ok (.aload_n 0, 1) := by decide +kernel
theorem dX6_until_16 : decode cX6_until 16 = .ok (.invokevirtual 247, 3) := by decide +kernel
theorem dX6_until_19 : decode cX6_until 19 = .ok (.astore_n 2, 1) := by decide +kernel
theorem dX6_until_20 : decode cX6_until 20 = .ok (.iconst 0, 1) := by decide +kernel
theorem dX6_until_21 : decode cX6_until 21 = .ok (.istore_n 3, 1) := by decide +kernel
theorem dX6_until_22 : decode cX6_until 22 = .ok (.iload_n 3, 1) := by decide +kernel
theorem dX6_until_23 : decode cX6_until 23 = .ok (.sipush 200, 3) := by decide +kernel
theorem dX6_until_26 : decode cX6_until 26 = .ok (.if_icmp .gt 24, 3) := by decide +kernel
theorem dX6_until_29 : decode cX6_until 29 = .ok (.aload_n 2, 1) := by decide +kernel
theorem dX6_until_30 : decode cX6_until 30 = .ok (.invokevirtual 343, 3) := by decide +kernel
theorem dX6_until_33 : decode cX6_until 33 = .ok (.ifCond .ne 5, 3) := by decide +kernel
theorem dX6_until_36 : decode cX6_until 36 = .ok (.iload_n 3, 1) := by decide +kernel
theorem dX6_until_37 : decode cX6_until 37 = .ok (.ireturn, 1) := by decide +kernel
theorem dX6_until_38 : decode cX6_until 38 = .ok (.aload_n 2, 1) := by decide +kernel
theorem dX6_until_39 : decode cX6_until 39 = .ok (.iload_n 1, 1) := by decide +kernel
theorem dX6_until_40 : decode cX6_until 40 = .ok (.iconst 1, 1) := by decide +kernel
theorem dX6_until_41 : decode cX6_until 41 = .ok (.invokevirtual 346, 3) := by decide +kernel
theorem dX6_until_44 : decode cX6_until 44 = .ok (.iinc 3 1, 3) := by decide +kernel
theorem dX6_until_47 : decode cX6_until 47 = .ok (.goto (-25), 3) := by decide +kernel
theorem dX6_until_50 : decode cX6_until 50 = .ok (.iconst (-1), 1) := by decide +kernel
theorem dX6_until_51 : decode cX6_until 51 = .ok (.ireturn, 1) := by decide +kernel
def fX6_until_22 (p : List Nat) : Nat → Int32 → Int32 → TF → Option (Int32 × TF)
  | 0, _, _, _ => none
  | n + 1, x1, x3, t => if (200 : Int32) < x3 then (some ((-1 : Int32), t)) else (((fX6_leftNow (t.2 (9 :: p))).bind fun z2 => if z2.1 = 0 then (some (x3, wrT t (9 :: p) z2.2)) else (((fX6_lickedBy (9 :: p) x1 (1 : Int32) (wrT t (9 :: p) z2.2)).bind fun z4 => fX6_until_22 p n x1 (x3 + (1 : Int32)) z4.2))))
def fX6_until_0 (p : List Nat) (x1 : Int32) (t : TF) : Option (Int32 × TF) := ((fX6_isLicker x1 (t.2 p)).bind fun z1 => if z1.1 = 0 then (((fX6_refuse (-2 : Int32) ((wrT t p z1.2).2 p)).bind fun z3 => some (z3.1, wrT (wrT t p z1.2) p z3.2))) else (((fX6_fresh p (wrT t p z1.2)).bind fun z4 => fX6_until_22 p FU x1 (0 : Int32) z4.2)))
def fX6_until (p : List Nat) (x1 : Int32) (t : TF) : Option (Int32 × TF) := fX6_until_0 p x1 t
set_option maxRecDepth 100000 in
set_option maxHeartbeats 4000000 in
theorem okX6_until_22 {G : GG} {X : Nat → Prop} {ob0 : List Nat → Nat} {t0 : TF} {h00 : PH} (p : List Nat) : ∀ (n : Nat) (x1 : Int32) (x3 : Int32) (t : TF) (ob : List Nat → Nat) (a0 : Nat) (e0 : AtF ob t (9 :: p) a0), EvP G 11 mX6_until X ob0 t0 h00 rwI (fX6_until_22 p n x1 x3 t) 22 [(1, .int x1), (2, .ref a0), (3, .int x3)] [] t ob := by
  intro n
  induction n with
  | zero => intro x1 x3 t ob a0 e0; rw [fX6_until_22]; exact ep_none
  | succ n ih =>
    intro x1 x3 t ob a0 e0
    rw [fX6_until_22]
    refine ep_iload_n (q := 23) 2 dX6_until_22 rfl rfl rfl ?_
    refine ep_sipush (v := (200 : Int32)) (q := 26) dX6_until_23 (by decide) rfl ?_
    refine ep_if (pt := 50) (pf := 29) (fun _ _ _ _ _ _ => ev_icmp_gt (tgt := 50) dX6_until_26 (by decide)) (fun h1 => ?_) (fun h1 => ?_)
    · refine ep_iconst (v := (-1 : Int32)) (q := 51) dX6_until_50 (by decide) rfl ?_
      exact ep_iret rfl dX6_until_51
    · refine ep_aload_n (q := 30) 1 dX6_until_29 rfl rfl rfl ?_
      refine ep_invVI1 (As := []) (rest := []) (q := 33) e0 (okX6_leftNow) rfl calX6_leftNow ml6_343 (by decide) rfl rfl (Nat.le_of_ble_eq_true rfl) dX6_until_30 rfl (fun z2 => ?_)
      refine ep_if (pt := 36) (pf := 38) (fun _ _ _ _ _ _ kt kf => ev_if_ne (tgt := 38) dX6_until_33 (by decide) kf kt) (fun h3 => ?_) (fun h3 => ?_)
      · refine ep_iload_n (q := 37) 2 dX6_until_36 rfl rfl rfl ?_
        exact ep_iret rfl dX6_until_37
      · refine ep_aload_n (q := 39) 1 dX6_until_38 rfl rfl rfl ?_
        refine ep_iload_n (q := 40) 0 dX6_until_39 rfl rfl rfl ?_
        refine ep_iconst (v := (1 : Int32)) (q := 41) dX6_until_40 (by decide) rfl ?_
        refine ep_invVUP (As := [.int x1, .int (1 : Int32)]) (rest := []) (q := 44) e0 (okX6_lickedBy (9 :: p) x1 (1 : Int32)) rfl calX6_lickedBy ml6_346 (by decide) rfl rfl (Nat.le_of_ble_eq_true rfl) dX6_until_41 rfl (fun z4 obz4 _ mvz4 => ?_)
        refine ep_iinc (v := x3 + (1 : Int32)) (lv' := [(3, .int (x3 + (1 : Int32))), (1, .int x1), (2, .ref a0)]) (q := 47) 2 dX6_until_44 rfl rfl (by decide) rfl rfl ?_
        refine ep_goto (tgt := 22) dX6_until_47 (by decide) ?_
        refine ep_sub (lv' := [(1, .int x1), (2, .ref a0), (3, .int (x3 + (1 : Int32)))]) [1, 2, 0] rfl ?_
        exact ih x1 (x3 + (1 : Int32)) z4.2 obz4 a0 (mvz4 _ _ e0)
set_option maxRecDepth 100000 in
set_option maxHeartbeats 4000000 in
theorem okX6_until_0 {G : GG} {X : Nat → Prop} {ob0 : List Nat → Nat} {t0 : TF} {h00 : PH} (p : List Nat) (x1 : Int32) (t : TF) (ob : List Nat → Nat) (a0 : Nat) (e0 : AtF ob t (p) a0) : EvP G 11 mX6_until X ob0 t0 h00 rwI (fX6_until_0 p x1 t) 0 [(0, .ref a0), (1, .int x1)] [] t ob := by
  unfold fX6_until_0
  refine ep_aload_n (q := 1) 0 dX6_until_0 rfl rfl rfl ?_
  refine ep_iload_n (q := 2) 1 dX6_until_1 rfl rfl rfl ?_
  refine ep_invVI1 (As := [.int x1]) (rest := []) (q := 5) e0 (okX6_isLicker x1) rfl calX6_isLicker ml6_113 (by decide) rfl rfl (Nat.le_of_ble_eq_true rfl) dX6_until_2 rfl (fun z1 => ?_)
  refine ep_if (pt := 8) (pf := 15) (fun _ _ _ _ _ _ kt kf => ev_if_ne (tgt := 15) dX6_until_5 (by decide) kf kt) (fun h2 => ?_) (fun h2 => ?_)
  · refine ep_aload_n (q := 9) 0 dX6_until_8 rfl rfl rfl ?_
    refine ep_bipush (v := (-2 : Int32)) (q := 11) dX6_until_9 (by decide) rfl ?_
    refine ep_invVI1 (As := [.int (-2 : Int32)]) (rest := []) (q := 14) e0 (okX6_refuse (-2 : Int32)) rfl calX6_refuse ml6_102 (by decide) rfl rfl (Nat.le_of_ble_eq_true rfl) dX6_until_11 rfl (fun z3 => ?_)
    exact ep_iret rfl dX6_until_14
  · refine ep_aload_n (q := 16) 0 dX6_until_15 rfl rfl rfl ?_
    refine ep_fresh (rest := []) (q := 19) e0 (okX6_fresh_f p) rfl calX6_fresh ml6_247 (by decide) rfl (Nat.le_of_ble_eq_true rfl) dX6_until_16 rfl (fun z4 obz4 yz4 _ mvz4 ez4 => ?_)
    refine ep_astore_n (lv' := [(2, .ref yz4), (0, .ref a0), (1, .int x1)]) (q := 20) dX6_until_19 rfl (by decide) rfl rfl ?_
    refine ep_iconst (v := (0 : Int32)) (q := 21) dX6_until_20 (by decide) rfl ?_
    refine ep_istore_n (lv' := [(3, .int (0 : Int32)), (2, .ref yz4), (0, .ref a0), (1, .int x1)]) (q := 22) dX6_until_21 rfl (by decide) rfl rfl ?_
    refine ep_sub (lv' := [(1, .int x1), (2, .ref yz4), (3, .int (0 : Int32))]) [3, 1, 0] rfl ?_
    exact okX6_until_22 p FU x1 (0 : Int32) z4.2 obz4 yz4 ez4
theorem okX6_until (p : List Nat) (x1 : Int32) : MtP 11 mX6_until rwI p (fun a => [.ref a, .int x1]) (fX6_until p x1) := by
  refine MtP.of (by decide +kernel) rfl (fun _ => Nat.le_of_ble_eq_true rfl) (fun G X ob t h a e => ?_)
  refine ep_sub (lv := [(0, .ref a), (1, .int x1)]) (lv' := [(0, .ref a), (1, .int x1)]) [0, 1] rfl ?_
  exact okX6_until_0 p x1 t ob a e
-- X6_spareBy
theorem dX6_spareBy_0 : decode cX6_spareBy 0 = .ok (.aload_n 0, 1) := by decide +kernel
theorem dX6_spareBy_1 : decode cX6_spareBy 1 = .ok (.iload_n 1, 1) := by decide +kernel
theorem dX6_spareBy_2 : decode cX6_spareBy 2 = .ok (.invokevirtual 113, 3) := by decide +kernel
theorem dX6_spareBy_5 : decode cX6_spareBy 5 = .ok (.ifCond .ne 10, 3) := by decide +kernel
theorem dX6_spareBy_8 : decode cX6_spareBy 8 = .ok (.aload_n 0, 1) := by decide +kernel
theorem dX6_spareBy_9 : decode cX6_spareBy 9 = .ok (.bipush (-2), 2) := by decide +kernel
theorem dX6_spareBy_11 : decode cX6_spareBy 11 = .ok (.invokevirtual 102, 3) := by decide +kernel
theorem dX6_spareBy_14 : decode cX6_spareBy 14 = .ok (.ireturn, 1) := by decide +kernel
theorem dX6_spareBy_15 : decode cX6_spareBy 15 = .ok (.aload_n 0, 1) := by decide +kernel
theorem dX6_spareBy_16 : decode cX6_spareBy 16 = .ok (.invokevirtual 247, 3) := by decide +kernel
theorem dX6_spareBy_19 : decode cX6_spareBy 19 = .ok (.astore_n 2, 1) := by decide +kernel
theorem dX6_spareBy_20 : decode cX6_spareBy 20 = .ok (.iconst 0, 1) := by decide +kernel
theorem dX6_spareBy_21 : decode cX6_spareBy 21 = .ok (.istore_n 3, 1) := by decide +kernel
theorem dX6_spareBy_22 : decode cX6_spareBy 22 = .ok (.iload_n 3, 1) := by decide +kernel
theorem dX6_spareBy_23 : decode cX6_spareBy 23 = .ok (.sipush 200, 3) := by decide +kernel
theorem dX6_spareBy_26 : decode cX6_spareBy 26 = .ok (.if_icmp .ge 28, 3) := by decide +kernel
theorem dX6_spareBy_29 : decode cX6_spareBy 29 = .ok (.aload_n 2, 1) := by decide +kernel
theorem dX6_spareBy_30 : decode cX6_spareBy 30 = .ok (.iload_n 1, 1) := by decide +kernel
theorem dX6_spareBy_31 : decode cX6_spareBy 31 = .ok (.iconst 1, 1) := by decide +kernel
theorem dX6_spareBy_32 : decode cX6_spareBy 32 = .ok (.invokevirtual 346, 3) := by decide +kernel
theorem dX6_spareBy_35 : decode cX6_spareBy 35 = .ok (.aload_n 2, 1) := by decide +kernel
theorem dX6_spareBy_36 : decode cX6_spareBy 36 = .ok (.getfield 283, 3) := by decide +kernel
theorem dX6_spareBy_39 : decode cX6_spareBy 39 = .ok (.aload_n 0, 1) := by decide +kernel
theorem dX6_spareBy_40 : decode cX6_spareBy 40 = .ok (.getfield 283, 3) := by decide +kernel
theorem dX6_spareBy_43 : decode cX6_spareBy 43 = .ok (.if_icmp .le 5, 3) := by decide +kernel
theorem dX6_spareBy_46 : decode cX6_spareBy 46 = .ok (.iload_n 3, 1) := by decide +kernel
theorem dX6_spareBy_47 : decode cX6_spareBy 47 = .ok (.ireturn, 1) := by decide +kernel
theorem dX6_spareBy_48 : decode cX6_spareBy 48 = .ok (.iinc 3 1, 3) := by decide +kernel
theorem dX6_spareBy_51 : decode cX6_spareBy 51 = .ok (.goto (-29), 3) := by decide +kernel
theorem dX6_spareBy_54 : decode cX6_spareBy 54 = .ok (.iload_n 3, 1) := by decide +kernel
theorem dX6_spareBy_55 : decode cX6_spareBy 55 = .ok (.ireturn, 1) := by decide +kernel
def fX6_spareBy_22 (p : List Nat) : Nat → Int32 → Int32 → TF → Option (Int32 × TF)
  | 0, _, _, _ => none
  | n + 1, x1, x3, t => if (200 : Int32) ≤ x3 then (some (x3, t)) else (((fX6_lickedBy (9 :: p) x1 (1 : Int32) t).bind fun z2 => if ((z2.2.2 (9 :: p)).1 0 19) ≤ ((z2.2.2 p).1 0 19) then (fX6_spareBy_22 p n x1 (x3 + (1 : Int32)) z2.2) else (some (x3, z2.2))))
def fX6_spareBy_0 (p : List Nat) (x1 : Int32) (t : TF) : Option (Int32 × TF) := ((fX6_isLicker x1 (t.2 p)).bind fun z1 => if z1.1 = 0 then (((fX6_refuse (-2 : Int32) ((wrT t p z1.2).2 p)).bind fun z3 => some (z3.1, wrT (wrT t p z1.2) p z3.2))) else (((fX6_fresh p (wrT t p z1.2)).bind fun z4 => fX6_spareBy_22 p FU x1 (0 : Int32) z4.2)))
def fX6_spareBy (p : List Nat) (x1 : Int32) (t : TF) : Option (Int32 × TF) := fX6_spareBy_0 p x1 t
set_option maxRecDepth 100000 in
set_option maxHeartbeats 4000000 in
theorem okX6_spareBy_22 {G : GG} {X : Nat → Prop} {ob0 : List Nat → Nat} {t0 : TF} {h00 : PH} (p : List Nat) : ∀ (n : Nat) (x1 : Int32) (x3 : Int32) (t : TF) (ob : List Nat → Nat) (a0 : Nat) (e0 : AtF ob t (p) a0) (a1 : Nat) (e1 : AtF ob t (9 :: p) a1), EvP G 11 mX6_spareBy X ob0 t0 h00 rwI (fX6_spareBy_22 p n x1 x3 t) 22 [(0, .ref a0), (1, .int x1), (2, .ref a1), (3, .int x3)] [] t ob := by
  intro n
  induction n with
  | zero => intro x1 x3 t ob a0 e0 a1 e1; rw [fX6_spareBy_22]; exact ep_none
  | succ n ih =>
    intro x1 x3 t ob a0 e0 a1 e1
    rw [fX6_spareBy_22]
    refine ep_iload_n (q := 23) 3 dX6_spareBy_22 rfl rfl rfl ?_
    refine ep_sipush (v := (200 : Int32)) (q := 26) dX6_spareBy_23 (by decide) rfl ?_
    refine ep_if (pt := 54) (pf := 29) (fun _ _ _ _ _ _ => ev_icmp_ge (tgt := 54) dX6_spareBy_26 (by decide)) (fun h1 => ?_) (fun h1 => ?_)
    · refine ep_iload_n (q := 55) 3 dX6_spareBy_54 rfl rfl rfl ?_
      exact ep_iret rfl dX6_spareBy_55
    · refine ep_aload_n (q := 30) 2 dX6_spareBy_29 rfl rfl rfl ?_
      refine ep_iload_n (q := 31) 1 dX6_spareBy_30 rfl rfl rfl ?_
      refine ep_iconst (v := (1 : Int32)) (q := 32) dX6_spareBy_31 (by decide) rfl ?_
      refine ep_invVUP (As := [.int x1, .int (1 : Int32)]) (rest := []) (q := 35) e1 (okX6_lickedBy (9 :: p) x1 (1 : Int32)) rfl calX6_lickedBy ml6_346 (by decide) rfl rfl (Nat.le_of_ble_eq_true rfl) dX6_spareBy_32 rfl (fun z2 obz2 _ mvz2 => ?_)
      refine ep_aload_n (q := 36) 2 dX6_spareBy_35 rfl rfl rfl ?_
      refine ep_getI (x := (z2.2.2 (9 :: p)).1 0 19) (q := 39) (mvz2 _ _ e1) fl6_283 rfl rfl dX6_spareBy_36 rfl ?_
      refine ep_aload_n (q := 40) 0 dX6_spareBy_39 rfl rfl rfl ?_
      refine ep_getI (x := (z2.2.2 p).1 0 19) (q := 43) (mvz2 _ _ e0) fl6_283 rfl rfl dX6_spareBy_40 rfl ?_
      refine ep_if (pt := 48) (pf := 46) (fun _ _ _ _ _ _ => ev_icmp_le (tgt := 48) dX6_spareBy_43 (by decide)) (fun h3 => ?_) (fun h3 => ?_)
      · refine ep_iinc (v := x3 + (1 : Int32)) (lv' := [(3, .int (x3 + (1 : Int32))), (0, .ref a0), (1, .int x1), (2, .ref a1)]) (q := 51) 3 dX6_spareBy_48 rfl rfl (by decide) rfl rfl ?_
        refine ep_goto (tgt := 22) dX6_spareBy_51 (by decide) ?_
        refine ep_sub (lv' := [(0, .ref a0), (1, .int x1), (2, .ref a1), (3, .int (x3 + (1 : Int32)))]) [1, 2, 3, 0] rfl ?_
        exact ih x1 (x3 + (1 : Int32)) z2.2 obz2 a0 (mvz2 _ _ e0) a1 (mvz2 _ _ e1)
      · refine ep_iload_n (q := 47) 3 dX6_spareBy_46 rfl rfl rfl ?_
        exact ep_iret rfl dX6_spareBy_47
set_option maxRecDepth 100000 in
set_option maxHeartbeats 4000000 in
theorem okX6_spareBy_0 {G : GG} {X : Nat → Prop} {ob0 : List Nat → Nat} {t0 : TF} {h00 : PH} (p : List Nat) (x1 : Int32) (t : TF) (ob : List Nat → Nat) (a0 : Nat) (e0 : AtF ob t (p) a0) : EvP G 11 mX6_spareBy X ob0 t0 h00 rwI (fX6_spareBy_0 p x1 t) 0 [(0, .ref a0), (1, .int x1)] [] t ob := by
  unfold fX6_spareBy_0
  refine ep_aload_n (q := 1) 0 dX6_spareBy_0 rfl rfl rfl ?_
  refine ep_iload_n (q := 2) 1 dX6_spareBy_1 rfl rfl rfl ?_
  refine ep_invVI1 (As := [.int x1]) (rest := []) (q := 5) e0 (okX6_isLicker x1) rfl calX6_isLicker ml6_113 (by decide) rfl rfl (Nat.le_of_ble_eq_true rfl) dX6_spareBy_2 rfl (fun z1 => ?_)
  refine ep_if (pt := 8) (pf := 15) (fun _ _ _ _ _ _ kt kf => ev_if_ne (tgt := 15) dX6_spareBy_5 (by decide) kf kt) (fun h2 => ?_) (fun h2 => ?_)
  · refine ep_aload_n (q := 9) 0 dX6_spareBy_8 rfl rfl rfl ?_
    refine ep_bipush (v := (-2 : Int32)) (q := 11) dX6_spareBy_9 (by decide) rfl ?_
    refine ep_invVI1 (As := [.int (-2 : Int32)]) (rest := []) (q := 14) e0 (okX6_refuse (-2 : Int32)) rfl calX6_refuse ml6_102 (by decide) rfl rfl (Nat.le_of_ble_eq_true rfl) dX6_spareBy_11 rfl (fun z3 => ?_)
    exact ep_iret rfl dX6_spareBy_14
  · refine ep_aload_n (q := 16) 0 dX6_spareBy_15 rfl rfl rfl ?_
    refine ep_fresh (rest := []) (q := 19) e0 (okX6_fresh_f p) rfl calX6_fresh ml6_247 (by decide) rfl (Nat.le_of_ble_eq_true rfl) dX6_spareBy_16 rfl (fun z4 obz4 yz4 _ mvz4 ez4 => ?_)
    refine ep_astore_n (lv' := [(2, .ref yz4), (0, .ref a0), (1, .int x1)]) (q := 20) dX6_spareBy_19 rfl (by decide) rfl rfl ?_
    refine ep_iconst (v := (0 : Int32)) (q := 21) dX6_spareBy_20 (by decide) rfl ?_
    refine ep_istore_n (lv' := [(3, .int (0 : Int32)), (2, .ref yz4), (0, .ref a0), (1, .int x1)]) (q := 22) dX6_spareBy_21 rfl (by decide) rfl rfl ?_
    refine ep_sub (lv' := [(0, .ref a0), (1, .int x1), (2, .ref yz4), (3, .int (0 : Int32))]) [2, 3, 1, 0] rfl ?_
    exact okX6_spareBy_22 p FU x1 (0 : Int32) z4.2 obz4 a0 (mvz4 _ _ e0) yz4 ez4
theorem okX6_spareBy (p : List Nat) (x1 : Int32) : MtP 11 mX6_spareBy rwI p (fun a => [.ref a, .int x1]) (fX6_spareBy p x1) := by
  refine MtP.of (by decide +kernel) rfl (fun _ => Nat.le_of_ble_eq_true rfl) (fun G X ob t h a e => ?_)
  refine ep_sub (lv := [(0, .ref a), (1, .int x1)]) (lv' := [(0, .ref a), (1, .int x1)]) [0, 1] rfl ?_
  exact okX6_spareBy_0 p x1 t ob a e
-- X6_both
theorem dX6_both_0 : decode cX6_both 0 = .ok (.aload_n 0, 1) := by decide +kernel
theorem dX6_both_1 : decode cX6_both 1 = .ok (.iload_n 1, 1) := by decide +kernel
theorem dX6_both_2 : decode cX6_both 2 = .ok (.invokevirtual 113, 3) := by decide +kernel
theorem dX6_both_5 : decode cX6_both 5 = .ok (.ifCond .eq 23, 3) := by decide +kernel
theorem dX6_both_8 : decode cX6_both 8 = .ok (.aload_n 0, 1) := by decide +kernel
theorem dX6_both_9 : decode cX6_both 9 = .ok (.iload_n 2, 1) := by decide +kernel
theorem dX6_both_10 : decode cX6_both 10 = .ok (.invokevirtual 113, 3) := by decide +kernel
theorem dX6_both_13 : decode cX6_both 13 = .ok (.ifCond .eq 15, 3) := by decide +kernel
theorem dX6_both_16 : decode cX6_both 16 = .ok (.iload_n 3, 1) := by decide +kernel
theorem dX6_both_17 : decode cX6_both 17 = .ok (.i2l, 1) := by decide +kernel
theorem dX6_both_18 : decode cX6_both 18 = .ok (.lconst 0, 1) := by decide +kernel
theorem dX6_both_19 : decode cX6_both 19 = .ok (.ldc2_w 338, 3) := by decide +kernel
theorem dX6_both_22 : decode cX6_both 22 = .ok (.invokestatic 89, 3) := by decide +kernel
theorem dX6_both_25 : decode cX6_both 25 = .ok (.ifCond .ne 10, 3) := by decide +kernel
theorem dX6_both_28 : decode cX6_both 28 = .ok (.aload_n 0, 1) := by decide +kernel
theorem dX6_both_29 : decode cX6_both 29 = .ok (.bipush (-2), 2) := by decide +kernel
theorem dX6_both_31 : decode cX6_both 31 = .ok (.invokevirtual 102, 3) := by decide +kernel
theorem dX6_both_34 : decode cX6_both 34 = .ok (.ireturn, 1) := by decide +kernel
theorem dX6_both_35 : decode cX6_both 35 = .ok (.aload_n 0, 1) := by decide +kernel
theorem dX6_both_36 : decode cX6_both 36 = .ok (.invokevirtual 247, 3) := by decide +kernel
theorem dX6_both_39 : decode cX6_both 39 = .ok (.astore 4, 2) := by decide +kernel
theorem dX6_both_41 : decode cX6_both 41 = .ok (.iconst 0, 1) := by decide +kernel
theorem dX6_both_42 : decode cX6_both 42 = .ok (.istore 5, 2) := by decide +kernel
theorem dX6_both_44 : decode cX6_both 44 = .ok (.iload 5, 2) := by decide +kernel
theorem dX6_both_46 : decode cX6_both 46 = .ok (.iload_n 3, 1) := by decide +kernel
theorem dX6_both_47 : decode cX6_both 47 = .ok (.if_icmp .ge 27, 3) := by decide +kernel
theorem dX6_both_50 : decode cX6_both 50 = .ok (.aload 4, 2) := by decide +kernel
theorem dX6_both_52 : decode cX6_both 52 = .ok (.iload 5, 2) := by decide +kernel
theorem dX6_both_54 : decode cX6_both 54 = .ok (.iconst 2, 1) := by decide +kernel
theorem dX6_both_55 : decode cX6_both 55 = .ok (.irem, 1) := by decide +kernel
theorem dX6_both_56 : decode cX6_both 56 = .ok (.ifCond .ne 7, 3) := by decide +kernel
theorem dX6_both_59 : decode cX6_both 59 = .ok (.iload_n 1, 1) := by decide +kernel
theorem dX6_both_60 : decode cX6_both 60 = .ok (.goto 4, 3) := by decide +kernel
theorem dX6_both_63 : decode cX6_both 63 = .ok (.iload_n 2, 1) := by decide +kernel
theorem dX6_both_64 : decode cX6_both 64 = .ok (.iconst 1, 1) := by decide +kernel
theorem dX6_both_65 : decode cX6_both 65 = .ok (.invokevirtual 346, 3) := by decide +kernel
theorem dX6_both_68 : decode cX6_both 68 = .ok (.iinc 5 1, 3) := by decide +kernel
theorem dX6_both_71 : decode cX6_both 71 = .ok (.goto (-27), 3) := by decide +kernel
theorem dX6_both_74 : decode cX6_both 74 = .ok (.aload 4, 2) := by decide +kernel
theorem dX6_both_76 : decode cX6_both 76 = .ok (.getfield 283, 3) := by decide +kernel
theorem dX6_both_79 : decode cX6_both 79 = .ok (.aload_n 0, 1) := by decide +kernel
theorem dX6_both_80 : decode cX6_both 80 = .ok (.getfield 283, 3) := by decide +kernel
theorem dX6_both_83 : decode cX6_both 83 = .ok (.isub, 1) := by decide +kernel
theorem dX6_both_84 : decode cX6_both 84 = .ok (.ireturn, 1) := by decide +kernel
def fX6_both_28 (p : List Nat) (t : TF) : Option (Int32 × TF) := ((fX6_refuse (-2 : Int32) (t.2 p)).bind fun z1 => some (z1.1, wrT t p z1.2))
def fX6_both_64 (p : List Nat) (rec_44 : Int32 → Int32 → Int32 → Int32 → TF → Option (Int32 × TF)) (x1 : Int32) (x2 : Int32) (x3 : Int32) (x5 : Int32) (y1 : Int32) (t : TF) : Option (Int32 × TF) := ((fX6_lickedBy (9 :: p) y1 (1 : Int32) t).bind fun z1 => rec_44 x1 x2 x3 (x5 + (1 : Int32)) z1.2)
def fX6_both_44 (p : List Nat) : Nat → Int32 → Int32 → Int32 → Int32 → TF → Option (Int32 × TF)
  | 0, _, _, _, _, _ => none
  | n + 1, x1, x2, x3, x5, t => if x3 ≤ x5 then (some (((t.2 (9 :: p)).1 0 19) - ((t.2 p).1 0 19), t)) else (if (x5 - x5 / (2 : Int32) * (2 : Int32)) = 0 then (fX6_both_64 p (fX6_both_44 p n) x1 x2 x3 x5 x1 t) else (fX6_both_64 p (fX6_both_44 p n) x1 x2 x3 x5 x2 t))
def fX6_both_0 (p : List Nat) (x1 : Int32) (x2 : Int32) (x3 : Int32) (t : TF) : Option (Int32 × TF) := ((fX6_isLicker x1 (t.2 p)).bind fun z1 => if z1.1 = 0 then (fX6_both_28 p (wrT t p z1.2)) else (((fX6_isLicker x2 ((wrT t p z1.2).2 p)).bind fun z3 => if z3.1 = 0 then (fX6_both_28 p (wrT (wrT t p z1.2) p z3.2)) else (((fX6_in x3.toInt64 (0 : Int64) (200 : Int64) ((wrT (wrT t p z1.2) p z3.2).2 p)).bind fun z5 => if z5.1 = 0 then (fX6_both_28 p (wrT (wrT t p z1.2) p z3.2)) else (((fX6_fresh p (wrT (wrT t p z1.2) p z3.2)).bind fun z7 => fX6_both_44 p FU x1 x2 x3 (0 : Int32) z7.2)))))))
def fX6_both (p : List Nat) (x1 : Int32) (x2 : Int32) (x3 : Int32) (t : TF) : Option (Int32 × TF) := fX6_both_0 p x1 x2 x3 t
set_option maxRecDepth 100000 in
set_option maxHeartbeats 4000000 in
theorem okX6_both_28 {G : GG} {X : Nat → Prop} {ob0 : List Nat → Nat} {t0 : TF} {h00 : PH} (p : List Nat) (t : TF) (ob : List Nat → Nat) (a0 : Nat) (e0 : AtF ob t (p) a0) : EvP G 11 mX6_both X ob0 t0 h00 rwI (fX6_both_28 p t) 28 [(0, .ref a0)] [] t ob := by
  unfold fX6_both_28
  refine ep_aload_n (q := 29) 0 dX6_both_28 rfl rfl rfl ?_
  refine ep_bipush (v := (-2 : Int32)) (q := 31) dX6_both_29 (by decide) rfl ?_
  refine ep_invVI1 (As := [.int (-2 : Int32)]) (rest := []) (q := 34) e0 (okX6_refuse (-2 : Int32)) rfl calX6_refuse ml6_102 (by decide) rfl rfl (Nat.le_of_ble_eq_true rfl) dX6_both_31 rfl (fun z1 => ?_)
  exact ep_iret rfl dX6_both_34
set_option maxRecDepth 100000 in
set_option maxHeartbeats 4000000 in
theorem okX6_both_64 {G : GG} {X : Nat → Prop} {ob0 : List Nat → Nat} {t0 : TF} {h00 : PH} (p : List Nat) (rec_44 : Int32 → Int32 → Int32 → Int32 → TF → Option (Int32 × TF)) (hrec_44 : ∀ (x1 : Int32) (x2 : Int32) (x3 : Int32) (x5 : Int32) (t : TF) (ob : List Nat → Nat) (a0 : Nat) (e0 : AtF ob t (p) a0) (a1 : Nat) (e1 : AtF ob t (9 :: p) a1), EvP G 11 mX6_both X ob0 t0 h00 rwI (rec_44 x1 x2 x3 x5 t) 44 [(0, .ref a0), (1, .int x1), (2, .int x2), (3, .int x3), (4, .ref a1), (5, .int x5)] [] t ob) (x1 : Int32) (x2 : Int32) (x3 : Int32) (x5 : Int32) (y1 : Int32) (t : TF) (ob : List Nat → Nat) (a0 : Nat) (e0 : AtF ob t (p) a0) (a1 : Nat) (e1 : AtF ob t (9 :: p) a1) : EvP G 11 mX6_both X ob0 t0 h00 rwI (fX6_both_64 p rec_44 x1 x2 x3 x5 y1 t) 64 [(0, .ref a0), (1, .int x1), (2, .int x2), (3, .int x3), (4, .ref a1), (5, .int x5)] [.int y1, .ref a1] t ob := by
  unfold fX6_both_64
  refine ep_iconst (v := (1 : Int32)) (q := 65) dX6_both_64 (by decide) rfl ?_
  refine ep_invVUP (As := [.int y1, .int (1 : Int32)]) (rest := []) (q := 68) e1 (okX6_lickedBy (9 :: p) y1 (1 : Int32)) rfl calX6_lickedBy ml6_346 (by decide) rfl rfl (Nat.le_of_ble_eq_true rfl) dX6_both_65 rfl (fun z1 obz1 _ mvz1 => ?_)
  refine ep_iinc (v := x5 + (1 : Int32)) (lv' := [(5, .int (x5 + (1 : Int32))), (0, .ref a0), (1, .int x1), (2, .int x2), (3, .int x3), (4, .ref a1)]) (q := 71) 5 dX6_both_68 rfl rfl (by decide) rfl rfl ?_
  refine ep_goto (tgt := 44) dX6_both_71 (by decide) ?_
  refine ep_sub (lv' := [(0, .ref a0), (1, .int x1), (2, .int x2), (3, .int x3), (4, .ref a1), (5, .int (x5 + (1 : Int32)))]) [1, 2, 3, 4, 5, 0] rfl ?_
  exact hrec_44 x1 x2 x3 (x5 + (1 : Int32)) z1.2 obz1 a0 (mvz1 _ _ e0) a1 (mvz1 _ _ e1)
set_option maxRecDepth 100000 in
set_option maxHeartbeats 4000000 in
theorem okX6_both_44 {G : GG} {X : Nat → Prop} {ob0 : List Nat → Nat} {t0 : TF} {h00 : PH} (p : List Nat) : ∀ (n : Nat) (x1 : Int32) (x2 : Int32) (x3 : Int32) (x5 : Int32) (t : TF) (ob : List Nat → Nat) (a0 : Nat) (e0 : AtF ob t (p) a0) (a1 : Nat) (e1 : AtF ob t (9 :: p) a1), EvP G 11 mX6_both X ob0 t0 h00 rwI (fX6_both_44 p n x1 x2 x3 x5 t) 44 [(0, .ref a0), (1, .int x1), (2, .int x2), (3, .int x3), (4, .ref a1), (5, .int x5)] [] t ob := by
  intro n
  induction n with
  | zero => intro x1 x2 x3 x5 t ob a0 e0 a1 e1; rw [fX6_both_44]; exact ep_none
  | succ n ih =>
    intro x1 x2 x3 x5 t ob a0 e0 a1 e1
    rw [fX6_both_44]
    refine ep_iload (q := 46) 5 dX6_both_44 rfl rfl ?_
    refine ep_iload_n (q := 47) 3 dX6_both_46 rfl rfl rfl ?_
    refine ep_if (pt := 74) (pf := 50) (fun _ _ _ _ _ _ => ev_icmp_ge (tgt := 74) dX6_both_47 (by decide)) (fun h1 => ?_) (fun h1 => ?_)
    · refine ep_aload (q := 76) 4 dX6_both_74 rfl rfl ?_
      refine ep_getI (x := (t.2 (9 :: p)).1 0 19) (q := 79) e1 fl6_283 rfl rfl dX6_both_76 rfl ?_
      refine ep_aload_n (q := 80) 0 dX6_both_79 rfl rfl rfl ?_
      refine ep_getI (x := (t.2 p).1 0 19) (q := 83) e0 fl6_283 rfl rfl dX6_both_80 rfl ?_
      refine ep_isub (q := 84) dX6_both_83 rfl ?_
      exact ep_iret rfl dX6_both_84
    · refine ep_aload (q := 52) 4 dX6_both_50 rfl rfl ?_
      refine ep_iload (q := 54) 5 dX6_both_52 rfl rfl ?_
      refine ep_iconst (v := (2 : Int32)) (q := 55) dX6_both_54 (by decide) rfl ?_
      refine ep_irem (q := 56) dX6_both_55 (by decide) rfl ?_
      refine ep_if (pt := 59) (pf := 63) (fun _ _ _ _ _ _ kt kf => ev_if_ne (tgt := 63) dX6_both_56 (by decide) kf kt) (fun h2 => ?_) (fun h2 => ?_)
      · refine ep_iload_n (q := 60) 1 dX6_both_59 rfl rfl rfl ?_
        refine ep_goto (tgt := 64) dX6_both_60 (by decide) ?_
        refine ep_sub (lv' := [(0, .ref a0), (1, .int x1), (2, .int x2), (3, .int x3), (4, .ref a1), (5, .int x5)]) [0, 1, 2, 3, 4, 5] rfl ?_
        exact okX6_both_64 p (fX6_both_44 p n) ih x1 x2 x3 x5 x1 t ob a0 e0 a1 e1
      · refine ep_iload_n (q := 64) 2 dX6_both_63 rfl rfl rfl ?_
        refine ep_sub (lv' := [(0, .ref a0), (1, .int x1), (2, .int x2), (3, .int x3), (4, .ref a1), (5, .int x5)]) [0, 1, 2, 3, 4, 5] rfl ?_
        exact okX6_both_64 p (fX6_both_44 p n) ih x1 x2 x3 x5 x2 t ob a0 e0 a1 e1
set_option maxRecDepth 100000 in
set_option maxHeartbeats 4000000 in
theorem okX6_both_0 {G : GG} {X : Nat → Prop} {ob0 : List Nat → Nat} {t0 : TF} {h00 : PH} (p : List Nat) (x1 : Int32) (x2 : Int32) (x3 : Int32) (t : TF) (ob : List Nat → Nat) (a0 : Nat) (e0 : AtF ob t (p) a0) : EvP G 11 mX6_both X ob0 t0 h00 rwI (fX6_both_0 p x1 x2 x3 t) 0 [(0, .ref a0), (1, .int x1), (2, .int x2), (3, .int x3)] [] t ob := by
  unfold fX6_both_0
  refine ep_aload_n (q := 1) 0 dX6_both_0 rfl rfl rfl ?_
  refine ep_iload_n (q := 2) 1 dX6_both_1 rfl rfl rfl ?_
  refine ep_invVI1 (As := [.int x1]) (rest := []) (q := 5) e0 (okX6_isLicker x1) rfl calX6_isLicker ml6_113 (by decide) rfl rfl (Nat.le_of_ble_eq_true rfl) dX6_both_2 rfl (fun z1 => ?_)
  refine ep_if (pt := 28) (pf := 8) (fun _ _ _ _ _ _ => ev_if_eq (tgt := 28) dX6_both_5 (by decide)) (fun h2 => ?_) (fun h2 => ?_)
  · refine ep_sub (lv' := [(0, .ref a0)]) [0] rfl ?_
    exact okX6_both_28 p (wrT t p z1.2) ob a0 e0
  · refine ep_aload_n (q := 9) 0 dX6_both_8 rfl rfl rfl ?_
    refine ep_iload_n (q := 10) 2 dX6_both_9 rfl rfl rfl ?_
    refine ep_invVI1 (As := [.int x2]) (rest := []) (q := 13) e0 (okX6_isLicker x2) rfl calX6_isLicker ml6_113 (by decide) rfl rfl (Nat.le_of_ble_eq_true rfl) dX6_both_10 rfl (fun z3 => ?_)
    refine ep_if (pt := 28) (pf := 16) (fun _ _ _ _ _ _ => ev_if_eq (tgt := 28) dX6_both_13 (by decide)) (fun h4 => ?_) (fun h4 => ?_)
    · refine ep_sub (lv' := [(0, .ref a0)]) [0] rfl ?_
      exact okX6_both_28 p (wrT (wrT t p z1.2) p z3.2) ob a0 e0
    · refine ep_iload_n (q := 17) 3 dX6_both_16 rfl rfl rfl ?_
      refine ep_i2l (v := x3.toInt64) (q := 18) dX6_both_17 rfl rfl ?_
      refine ep_lconst (v := (0 : Int64)) (q := 19) dX6_both_18 (by decide) rfl ?_
      refine ep_ldc2 (v := (200 : Int64)) (q := 22) k6_338 dX6_both_19 rfl ?_
      refine ep_invPI (s := (wrT (wrT t p z1.2) p z3.2).2 p) (As := [.long x3.toInt64, .long (0 : Int64), .long (200 : Int64)]) (rest := []) (q := 25) (okX6_in x3.toInt64 (0 : Int64) (200 : Int64)) rfl calX6_in ml6_89 (by decide) rfl rfl (Nat.le_of_ble_eq_true rfl) dX6_both_22 rfl (fun z5 => ?_)
      refine ep_if (pt := 28) (pf := 35) (fun _ _ _ _ _ _ kt kf => ev_if_ne (tgt := 35) dX6_both_25 (by decide) kf kt) (fun h6 => ?_) (fun h6 => ?_)
      · refine ep_sub (lv' := [(0, .ref a0)]) [0] rfl ?_
        exact okX6_both_28 p (wrT (wrT t p z1.2) p z3.2) ob a0 e0
      · refine ep_aload_n (q := 36) 0 dX6_both_35 rfl rfl rfl ?_
        refine ep_fresh (rest := []) (q := 39) e0 (okX6_fresh_f p) rfl calX6_fresh ml6_247 (by decide) rfl (Nat.le_of_ble_eq_true rfl) dX6_both_36 rfl (fun z7 obz7 yz7 _ mvz7 ez7 => ?_)
        refine ep_astore (lv' := [(4, .ref yz7), (0, .ref a0), (1, .int x1), (2, .int x2), (3, .int x3)]) (q := 41) dX6_both_39 (by decide) rfl rfl ?_
        refine ep_iconst (v := (0 : Int32)) (q := 42) dX6_both_41 (by decide) rfl ?_
        refine ep_istore (lv' := [(5, .int (0 : Int32)), (4, .ref yz7), (0, .ref a0), (1, .int x1), (2, .int x2), (3, .int x3)]) (q := 44) dX6_both_42 (by decide) rfl rfl ?_
        refine ep_sub (lv' := [(0, .ref a0), (1, .int x1), (2, .int x2), (3, .int x3), (4, .ref yz7), (5, .int (0 : Int32))]) [2, 3, 4, 5, 1, 0] rfl ?_
        exact okX6_both_44 p FU x1 x2 x3 (0 : Int32) z7.2 obz7 a0 (mvz7 _ _ e0) yz7 ez7
theorem okX6_both (p : List Nat) (x1 : Int32) (x2 : Int32) (x3 : Int32) : MtP 11 mX6_both rwI p (fun a => [.ref a, .int x1, .int x2, .int x3]) (fX6_both p x1 x2 x3) := by
  refine MtP.of (by decide +kernel) rfl (fun _ => Nat.le_of_ble_eq_true rfl) (fun G X ob t h a e => ?_)
  refine ep_sub (lv := [(0, .ref a), (1, .int x1), (2, .int x2), (3, .int x3)]) (lv' := [(0, .ref a), (1, .int x1), (2, .int x2), (3, .int x3)]) [0, 1, 2, 3] rfl ?_
  exact okX6_both_0 p x1 x2 x3 t ob a e
-- X6_holdFor
theorem dX6_holdFor_0 : decode cX6_holdFor 0 = .ok (.iload_n 1, 1) := by decide +kernel
theorem dX6_holdFor_1 : decode cX6_holdFor 1 = .ok (.i2l, 1) := by decide +kernel
theorem dX6_holdFor_2 : decode cX6_holdFor 2 = .ok (.lconst 0, 1) := by decide +kernel
theorem dX6_holdFor_3 : decode cX6_holdFor 3 = .ok (.ldc2_w 338, 3) := by decide +kernel
theorem dX6_holdFor_6 : decode cX6_holdFor 6 = .ok (.invokestatic 89, 3) := by decide +kernel
theorem dX6_holdFor_9 : decode cX6_holdFor 9 = .ok (.ifCond .ne 10, 3) := by decide +kernel
theorem dX6_holdFor_12 : decode cX6_holdFor 12 = .ok (.aload_n 0, 1) := by decide +kernel
theorem dX6_holdFor_13 : decode cX6_holdFor 13 = .ok (.bipush (-2), 2) := by decide +kernel
theorem dX6_holdFor_15 : decode cX6_holdFor 15 = .ok (.invokevirtual 102, 3) := by decide +kernel
theorem dX6_holdFor_18 : decode cX6_holdFor 18 = .ok (.ireturn, 1) := by decide +kernel
theorem dX6_holdFor_19 : decode cX6_holdFor 19 = .ok (.iconst 0, 1) := by decide +kernel
theorem dX6_holdFor_20 : decode cX6_holdFor 20 = .ok (.istore_n 2, 1) := by decide +kernel
theorem dX6_holdFor_21 : decode cX6_holdFor 21 = .ok (.iload_n 2, 1) := by decide +kernel
theorem dX6_holdFor_22 : decode cX6_holdFor 22 = .ok (.bipush 20, 2) := by decide +kernel
theorem dX6_holdFor_24 : decode cX6_holdFor 24 = .ok (.if_icmp .gt 39, 3) := by decide +kernel
theorem dX6_holdFor_27 : decode cX6_holdFor 27 = .ok (.aload_n 0, 1) := by decide +kernel
theorem dX6_holdFor_28 : decode cX6_holdFor 28 = .ok (.invokevirtual 247, 3) := by decide +kernel
theorem dX6_holdFor_31 : decode cX6_holdFor 31 = .ok (.astore_n 3, 1) := by decide +kernel
theorem dX6_holdFor_32 : decode cX6_holdFor 32 = .ok (.aload_n 3, 1) := by decide +kernel
theorem dX6_holdFor_33 : decode cX6_holdFor 33 = .ok (.getfield 55, 3) := by decide +kernel
theorem dX6_holdFor_36 : decode cX6_holdFor 36 = .ok (.iconst 0, 1) := by decide +kernel
theorem dX6_holdFor_37 : decode cX6_holdFor 37 = .ok (.iload_n 2, 1) := by decide +kernel
theorem dX6_holdFor_38 : decode cX6_holdFor 38 = .ok (.iastore, 1) := by decide +kernel
theorem dX6_holdFor_39 : decode cX6_holdFor 39 = .ok (.aload_n 3, 1) := by decide +kernel
theorem dX6_holdFor_40 : decode cX6_holdFor 40 = .ok (.iload_n 1, 1) := by decide +kernel
theorem dX6_holdFor_41 : decode cX6_holdFor 41 = .ok (.invokevirtual 335, 3) := by decide +kernel
theorem dX6_holdFor_44 : decode cX6_holdFor 44 = .ok (.aload_n 3, 1) := by decide +kernel
theorem dX6_holdFor_45 : decode cX6_holdFor 45 = .ok (.getfield 283, 3) := by decide +kernel
theorem dX6_holdFor_48 : decode cX6_holdFor 48 = .ok (.aload_n 0, 1) := by decide +kernel
theorem dX6_holdFor_49 : decode cX6_holdFor 49 = .ok (.getfield 283, 3) := by decide +kernel
theorem dX6_holdFor_52 : decode cX6_holdFor 52 = .ok (.if_icmp .ne 5, 3) := by decide +kernel
theorem dX6_holdFor_55 : decode cX6_holdFor 55 = .ok (.iload_n 2, 1) := by decide +kernel
theorem dX6_holdFor_56 : decode cX6_holdFor 56 = .ok (.ireturn, 1) := by decide +kernel
theorem dX6_holdFor_57 : decode cX6_holdFor 57 = .ok (.iinc 2 1, 3) := by decide +kernel
theorem dX6_holdFor_60 : decode cX6_holdFor 60 = .ok (.goto (-39), 3) := by decide +kernel
theorem dX6_holdFor_63 : decode cX6_holdFor 63 = .ok (.iconst (-1), 1) := by decide +kernel
theorem dX6_holdFor_64 : decode cX6_holdFor 64 = .ok (.ireturn, 1) := by decide +kernel
def fX6_holdFor_21 (p : List Nat) : Nat → Int32 → Int32 → TF → Option (Int32 × TF)
  | 0, _, _, _ => none
  | n + 1, x1, x2, t => if (20 : Int32) < x2 then (some ((-1 : Int32), t)) else (((fX6_fresh p t).bind fun z2 => ((fX6_stands x1 ((wTI z2.2 (9 :: p) 24 0 x2).2 (9 :: p))).bind fun z3 => if (((wrT (wTI z2.2 (9 :: p) 24 0 x2) (9 :: p) z3.2).2 (9 :: p)).1 0 19) = (((wrT (wTI z2.2 (9 :: p) 24 0 x2) (9 :: p) z3.2).2 p).1 0 19) then (some (x2, wrT (wTI z2.2 (9 :: p) 24 0 x2) (9 :: p) z3.2)) else (fX6_holdFor_21 p n x1 (x2 + (1 : Int32)) (wrT (wTI z2.2 (9 :: p) 24 0 x2) (9 :: p) z3.2)))))
def fX6_holdFor_0 (p : List Nat) (x1 : Int32) (t : TF) : Option (Int32 × TF) := ((fX6_in x1.toInt64 (0 : Int64) (200 : Int64) (t.2 p)).bind fun z1 => if z1.1 = 0 then (((fX6_refuse (-2 : Int32) (t.2 p)).bind fun z3 => some (z3.1, wrT t p z3.2))) else (fX6_holdFor_21 p FU x1 (0 : Int32) t))
def fX6_holdFor (p : List Nat) (x1 : Int32) (t : TF) : Option (Int32 × TF) := fX6_holdFor_0 p x1 t
set_option maxRecDepth 100000 in
set_option maxHeartbeats 4000000 in
theorem okX6_holdFor_21 {G : GG} {X : Nat → Prop} {ob0 : List Nat → Nat} {t0 : TF} {h00 : PH} (p : List Nat) : ∀ (n : Nat) (x1 : Int32) (x2 : Int32) (t : TF) (ob : List Nat → Nat) (a0 : Nat) (e0 : AtF ob t (p) a0), EvP G 4 mX6_holdFor X ob0 t0 h00 rwI (fX6_holdFor_21 p n x1 x2 t) 21 [(0, .ref a0), (1, .int x1), (2, .int x2)] [] t ob := by
  intro n
  induction n with
  | zero => intro x1 x2 t ob a0 e0; rw [fX6_holdFor_21]; exact ep_none
  | succ n ih =>
    intro x1 x2 t ob a0 e0
    rw [fX6_holdFor_21]
    refine ep_iload_n (q := 22) 2 dX6_holdFor_21 rfl rfl rfl ?_
    refine ep_bipush (v := (20 : Int32)) (q := 24) dX6_holdFor_22 (by decide) rfl ?_
    refine ep_if (pt := 63) (pf := 27) (fun _ _ _ _ _ _ => ev_icmp_gt (tgt := 63) dX6_holdFor_24 (by decide)) (fun h1 => ?_) (fun h1 => ?_)
    · refine ep_iconst (v := (-1 : Int32)) (q := 64) dX6_holdFor_63 (by decide) rfl ?_
      exact ep_iret rfl dX6_holdFor_64
    · refine ep_aload_n (q := 28) 0 dX6_holdFor_27 rfl rfl rfl ?_
      refine ep_fresh (rest := []) (q := 31) e0 (okX6_fresh_f p) rfl calX6_fresh ml6_247 (by decide) rfl (Nat.le_of_ble_eq_true rfl) dX6_holdFor_28 rfl (fun z2 obz2 yz2 _ mvz2 ez2 => ?_)
      refine ep_astore_n (lv' := [(3, .ref yz2), (0, .ref a0), (1, .int x1), (2, .int x2)]) (q := 32) dX6_holdFor_31 rfl (by decide) rfl rfl ?_
      refine ep_aload_n (q := 33) 0 dX6_holdFor_32 rfl rfl rfl ?_
      refine ep_getR (k := 24) (q := 36) ez2 fl6_55 rfl rfl rfl dX6_holdFor_33 rfl ?_
      refine ep_iconst (v := (0 : Int32)) (q := 37) dX6_holdFor_36 (by decide) rfl ?_
      refine ep_iload_n (q := 38) 3 dX6_holdFor_37 rfl rfl rfl ?_
      refine ep_iastore (j := 0) (q := 39) ez2 rfl (by decide) dX6_holdFor_38 rfl rfl ?_
      refine ep_aload_n (q := 40) 0 dX6_holdFor_39 rfl rfl rfl ?_
      refine ep_iload_n (q := 41) 2 dX6_holdFor_40 rfl rfl rfl ?_
      refine ep_invVU1 (As := [.int x1]) (rest := []) (q := 44) ez2 (okX6_stands x1) rfl calX6_stands ml6_335 (by decide) rfl rfl (Nat.le_of_ble_eq_true rfl) dX6_holdFor_41 rfl (fun z3 => ?_)
      refine ep_aload_n (q := 45) 0 dX6_holdFor_44 rfl rfl rfl ?_
      refine ep_getI (x := ((wrT (wTI z2.2 (9 :: p) 24 0 x2) (9 :: p) z3.2).2 (9 :: p)).1 0 19) (q := 48) ez2 fl6_283 rfl rfl dX6_holdFor_45 rfl ?_
      refine ep_aload_n (q := 49) 1 dX6_holdFor_48 rfl rfl rfl ?_
      refine ep_getI (x := ((wrT (wTI z2.2 (9 :: p) 24 0 x2) (9 :: p) z3.2).2 p).1 0 19) (q := 52) (mvz2 _ _ e0) fl6_283 rfl rfl dX6_holdFor_49 rfl ?_
      refine ep_if (pt := 55) (pf := 57) (fun _ _ _ _ _ _ kt kf => ev_icmp_ne (tgt := 57) dX6_holdFor_52 (by decide) kf kt) (fun h4 => ?_) (fun h4 => ?_)
      · refine ep_iload_n (q := 56) 3 dX6_holdFor_55 rfl rfl rfl ?_
        exact ep_iret rfl dX6_holdFor_56
      · refine ep_iinc (v := x2 + (1 : Int32)) (lv' := [(2, .int (x2 + (1 : Int32))), (3, .ref yz2), (0, .ref a0), (1, .int x1)]) (q := 60) 3 dX6_holdFor_57 rfl rfl (by decide) rfl rfl ?_
        refine ep_goto (tgt := 21) dX6_holdFor_60 (by decide) ?_
        refine ep_sub (lv' := [(0, .ref a0), (1, .int x1), (2, .int (x2 + (1 : Int32)))]) [2, 3, 0] rfl ?_
        exact ih x1 (x2 + (1 : Int32)) (wrT (wTI z2.2 (9 :: p) 24 0 x2) (9 :: p) z3.2) obz2 a0 (mvz2 _ _ e0)
set_option maxRecDepth 100000 in
set_option maxHeartbeats 4000000 in
theorem okX6_holdFor_0 {G : GG} {X : Nat → Prop} {ob0 : List Nat → Nat} {t0 : TF} {h00 : PH} (p : List Nat) (x1 : Int32) (t : TF) (ob : List Nat → Nat) (a0 : Nat) (e0 : AtF ob t (p) a0) : EvP G 4 mX6_holdFor X ob0 t0 h00 rwI (fX6_holdFor_0 p x1 t) 0 [(0, .ref a0), (1, .int x1)] [] t ob := by
  unfold fX6_holdFor_0
  refine ep_iload_n (q := 1) 1 dX6_holdFor_0 rfl rfl rfl ?_
  refine ep_i2l (v := x1.toInt64) (q := 2) dX6_holdFor_1 rfl rfl ?_
  refine ep_lconst (v := (0 : Int64)) (q := 3) dX6_holdFor_2 (by decide) rfl ?_
  refine ep_ldc2 (v := (200 : Int64)) (q := 6) k6_338 dX6_holdFor_3 rfl ?_
  refine ep_invPI (s := t.2 p) (As := [.long x1.toInt64, .long (0 : Int64), .long (200 : Int64)]) (rest := []) (q := 9) (okX6_in x1.toInt64 (0 : Int64) (200 : Int64)) rfl calX6_in ml6_89 (by decide) rfl rfl (Nat.le_of_ble_eq_true rfl) dX6_holdFor_6 rfl (fun z1 => ?_)
  refine ep_if (pt := 12) (pf := 19) (fun _ _ _ _ _ _ kt kf => ev_if_ne (tgt := 19) dX6_holdFor_9 (by decide) kf kt) (fun h2 => ?_) (fun h2 => ?_)
  · refine ep_aload_n (q := 13) 0 dX6_holdFor_12 rfl rfl rfl ?_
    refine ep_bipush (v := (-2 : Int32)) (q := 15) dX6_holdFor_13 (by decide) rfl ?_
    refine ep_invVI1 (As := [.int (-2 : Int32)]) (rest := []) (q := 18) e0 (okX6_refuse (-2 : Int32)) rfl calX6_refuse ml6_102 (by decide) rfl rfl (Nat.le_of_ble_eq_true rfl) dX6_holdFor_15 rfl (fun z3 => ?_)
    exact ep_iret rfl dX6_holdFor_18
  · refine ep_iconst (v := (0 : Int32)) (q := 20) dX6_holdFor_19 (by decide) rfl ?_
    refine ep_istore_n (lv' := [(2, .int (0 : Int32)), (0, .ref a0), (1, .int x1)]) (q := 21) dX6_holdFor_20 rfl (by decide) rfl rfl ?_
    refine ep_sub (lv' := [(0, .ref a0), (1, .int x1), (2, .int (0 : Int32))]) [1, 2, 0] rfl ?_
    exact okX6_holdFor_21 p FU x1 (0 : Int32) t ob a0 e0
theorem okX6_holdFor (p : List Nat) (x1 : Int32) : MtP 4 mX6_holdFor rwI p (fun a => [.ref a, .int x1]) (fX6_holdFor p x1) := by
  refine MtP.of (by decide +kernel) rfl (fun _ => Nat.le_of_ble_eq_true rfl) (fun G X ob t h a e => ?_)
  refine ep_sub (lv := [(0, .ref a), (1, .int x1)]) (lv' := [(0, .ref a), (1, .int x1)]) [0, 1] rfl ?_
  exact okX6_holdFor_0 p x1 t ob a e
-- X6_largest
theorem dX6_largest_0 : decode cX6_largest 0 = .ok (.iload_n 1, 1) := by decide +kernel
theorem dX6_largest_1 : decode cX6_largest 1 = .ok (.i2l, 1) := by decide +kernel
theorem dX6_largest_2 : decode cX6_largest 2 = .ok (.lconst 0, 1) := by decide +kernel
theorem dX6_largest_3 : decode cX6_largest 3 = .ok (.ldc2_w 140, 3) := by decide +kernel
theorem dX6_largest_6 : decode cX6_largest 6 = .ok (.invokestatic 89, 3) := by decide +kernel
theorem dX6_largest_9 : decode cX6_largest 9 = .ok (.ifCond .eq 15, 3) := by decide +kernel
theorem dX6_largest_12 : decode cX6_largest 12 = .ok (.iload_n 2, 1) := by decide +kernel
theorem dX6_largest_13 : decode cX6_largest 13 = .ok (.i2l, 1) := by decide +kernel
theorem dX6_largest_14 : decode cX6_largest 14 = .ok (.lconst 0, 1) := by decide +kernel
theorem dX6_largest_15 : decode cX6_largest 15 = .ok (.ldc2_w 338, 3) := by decide +kernel
theorem dX6_largest_18 : decode cX6_largest 18 = .ok (.invokestatic 89, 3) := by decide +kernel
theorem dX6_largest_21 : decode cX6_largest 21 = .ok (.ifCond .ne 10, 3) := by decide +kernel
theorem dX6_largest_24 : decode cX6_largest 24 = .ok (.aload_n 0, 1) := by decide +kernel
theorem dX6_largest_25 : decode cX6_largest 25 = .ok (.bipush (-2), 2) := by decide +kernel
theorem dX6_largest_27 : decode cX6_largest 27 = .ok (.invokevirtual 102, 3) := by decide +kernel
theorem dX6_largest_30 : decode cX6_largest 30 = .ok (.ireturn, 1) := by decide +kernel
theorem dX6_largest_31 : decode cX6_largest 31 = .ok (.aload_n 0, 1) := by decide +kernel
theorem dX6_largest_32 : decode cX6_largest 32 = .ok (.getfield 93, 3) := by decide +kernel
theorem dX6_largest_35 : decode cX6_largest 35 = .ok (.iconst 3, 1) := by decide +kernel
theorem dX6_largest_36 : decode cX6_largest 36 = .ok (.if_icmp .ne 10, 3) := by decide +kernel
theorem dX6_largest_39 : decode cX6_largest 39 = .ok (.aload_n 0, 1) := by decide +kernel
theorem dX6_largest_40 : decode cX6_largest 40 = .ok (.bipush (-6), 2) := by decide +kernel
theorem dX6_largest_42 : decode cX6_largest 42 = .ok (.invokevirtual 102, 3) := by decide +kernel
theorem dX6_largest_45 : decode cX6_largest 45 = .ok (.ireturn, 1) := by decide +kernel
theorem dX6_largest_46 : decode cX6_largest 46 = .ok (.aload_n 0, 1) := by decide +kernel
theorem dX6_largest_47 : decode cX6_largest 47 = .ok (.iload_n 2, 1) := by decide +kernel
theorem dX6_largest_48 : decode cX6_largest 48 = .ok (.invokevirtual 340, 3) := by decide +kernel
theorem dX6_largest_51 : decode cX6_largest 51 = .ok (.istore_n 3, 1) := by decide +kernel
theorem dX6_largest_52 : decode cX6_largest 52 = .ok (.bipush 99, 2) := by decide +kernel
theorem dX6_largest_54 : decode cX6_largest 54 = .ok (.istore 4, 2) := by decide +kernel
theorem dX6_largest_56 : decode cX6_largest 56 = .ok (.iload 4, 2) := by decide +kernel
theorem dX6_largest_58 : decode cX6_largest 58 = .ok (.ifCond .le 46, 3) := by decide +kernel
theorem dX6_largest_61 : decode cX6_largest 61 = .ok (.aload_n 0, 1) := by decide +kernel
theorem dX6_largest_62 : decode cX6_largest 62 = .ok (.invokevirtual 247, 3) := by decide +kernel
theorem dX6_largest_65 : decode cX6_largest 65 = .ok (.astore 5, 2) := by decide +kernel
theorem dX6_largest_67 : decode cX6_largest 67 = .ok (.aload 5, 2) := by decide +kernel
theorem dX6_largest_69 : decode cX6_largest 69 = .ok (.iload_n 1, 1) := by decide +kernel
theorem dX6_largest_70 : decode cX6_largest 70 = .ok (.iload 4, 2) := by decide +kernel
theorem dX6_largest_72 : decode cX6_largest 72 = .ok (.invokevirtual 144, 3) := by decide +kernel
theorem dX6_largest_75 : decode cX6_largest 75 = .ok (.aload 5, 2) := by decide +kernel
theorem dX6_largest_77 : decode cX6_largest 77 = .ok (.iload_n 2, 1) := by decide +kernel
theorem dX6_largest_78 : decode cX6_largest 78 = .ok (.invokevirtual 335, 3) := by decide +kernel
theorem dX6_largest_81 : decode cX6_largest 81 = .ok (.aload 5, 2) := by decide +kernel
theorem dX6_largest_83 : decode cX6_largest 83 = .ok (.getfield 283, 3) := by decide +kernel
theorem dX6_largest_86 : decode cX6_largest 86 = .ok (.aload_n 0, 1) := by decide +kernel
theorem dX6_largest_87 : decode cX6_largest 87 = .ok (.getfield 283, 3) := by decide +kernel
theorem dX6_largest_90 : decode cX6_largest 90 = .ok (.isub, 1) := by decide +kernel
theorem dX6_largest_91 : decode cX6_largest 91 = .ok (.iload_n 3, 1) := by decide +kernel
theorem dX6_largest_92 : decode cX6_largest 92 = .ok (.if_icmp .gt 6, 3) := by decide +kernel
theorem dX6_largest_95 : decode cX6_largest 95 = .ok (.iload 4, 2) := by decide +kernel
theorem dX6_largest_97 : decode cX6_largest 97 = .ok (.ireturn, 1) := by decide +kernel
theorem dX6_largest_98 : decode cX6_largest 98 = .ok (.iinc 4 (-1), 3) := by decide +kernel
theorem dX6_largest_101 : decode cX6_largest 101 = .ok (.goto (-45), 3) := by decide +kernel
theorem dX6_largest_104 : decode cX6_largest 104 = .ok (.iconst 0, 1) := by decide +kernel
theorem dX6_largest_105 : decode cX6_largest 105 = .ok (.ireturn, 1) := by decide +kernel
def fX6_largest_24 (p : List Nat) (t : TF) : Option (Int32 × TF) := ((fX6_refuse (-2 : Int32) (t.2 p)).bind fun z1 => some (z1.1, wrT t p z1.2))
def fX6_largest_56 (p : List Nat) : Nat → Int32 → Int32 → Int32 → Int32 → TF → Option (Int32 × TF)
  | 0, _, _, _, _, _ => none
  | n + 1, x1, x2, x3, x4, t => if x4 ≤ 0 then (some ((0 : Int32), t)) else (((fX6_fresh p t).bind fun z2 => ((fX6_addScoop x1 x4 (z2.2.2 (9 :: p))).bind fun z3 => ((fX6_stands x2 ((wrT z2.2 (9 :: p) z3.2).2 (9 :: p))).bind fun z4 => if x3 < ((((wrT (wrT z2.2 (9 :: p) z3.2) (9 :: p) z4.2).2 (9 :: p)).1 0 19) - (((wrT (wrT z2.2 (9 :: p) z3.2) (9 :: p) z4.2).2 p).1 0 19)) then (fX6_largest_56 p n x1 x2 x3 (x4 + (-1 : Int32)) (wrT (wrT z2.2 (9 :: p) z3.2) (9 :: p) z4.2)) else (some (x4, wrT (wrT z2.2 (9 :: p) z3.2) (9 :: p) z4.2))))))
def fX6_largest_0 (p : List Nat) (x1 : Int32) (x2 : Int32) (t : TF) : Option (Int32 × TF) := ((fX6_in x1.toInt64 (0 : Int64) (9 : Int64) (t.2 p)).bind fun z1 => if z1.1 = 0 then (fX6_largest_24 p t) else (((fX6_in x2.toInt64 (0 : Int64) (200 : Int64) (t.2 p)).bind fun z3 => if z3.1 = 0 then (fX6_largest_24 p t) else (if ((t.2 p).1 0 10) = (3 : Int32) then (((fX6_refuse (-6 : Int32) (t.2 p)).bind fun z6 => some (z6.1, wrT t p z6.2))) else (((fX6_withoutNow p x2 t).bind fun z7 => fX6_largest_56 p FU x1 x2 z7.1 (99 : Int32) z7.2))))))
def fX6_largest (p : List Nat) (x1 : Int32) (x2 : Int32) (t : TF) : Option (Int32 × TF) := fX6_largest_0 p x1 x2 t
set_option maxRecDepth 100000 in
set_option maxHeartbeats 4000000 in
theorem okX6_largest_24 {G : GG} {X : Nat → Prop} {ob0 : List Nat → Nat} {t0 : TF} {h00 : PH} (p : List Nat) (t : TF) (ob : List Nat → Nat) (a0 : Nat) (e0 : AtF ob t (p) a0) : EvP G 5 mX6_largest X ob0 t0 h00 rwI (fX6_largest_24 p t) 24 [(0, .ref a0)] [] t ob := by
  unfold fX6_largest_24
  refine ep_aload_n (q := 25) 0 dX6_largest_24 rfl rfl rfl ?_
  refine ep_bipush (v := (-2 : Int32)) (q := 27) dX6_largest_25 (by decide) rfl ?_
  refine ep_invVI1 (As := [.int (-2 : Int32)]) (rest := []) (q := 30) e0 (okX6_refuse (-2 : Int32)) rfl calX6_refuse ml6_102 (by decide) rfl rfl (Nat.le_of_ble_eq_true rfl) dX6_largest_27 rfl (fun z1 => ?_)
  exact ep_iret rfl dX6_largest_30
set_option maxRecDepth 100000 in
set_option maxHeartbeats 4000000 in
theorem okX6_largest_56 {G : GG} {X : Nat → Prop} {ob0 : List Nat → Nat} {t0 : TF} {h00 : PH} (p : List Nat) : ∀ (n : Nat) (x1 : Int32) (x2 : Int32) (x3 : Int32) (x4 : Int32) (t : TF) (ob : List Nat → Nat) (a0 : Nat) (e0 : AtF ob t (p) a0), EvP G 5 mX6_largest X ob0 t0 h00 rwI (fX6_largest_56 p n x1 x2 x3 x4 t) 56 [(0, .ref a0), (1, .int x1), (2, .int x2), (3, .int x3), (4, .int x4)] [] t ob := by
  intro n
  induction n with
  | zero => intro x1 x2 x3 x4 t ob a0 e0; rw [fX6_largest_56]; exact ep_none
  | succ n ih =>
    intro x1 x2 x3 x4 t ob a0 e0
    rw [fX6_largest_56]
    refine ep_iload (q := 58) 4 dX6_largest_56 rfl rfl ?_
    refine ep_if (pt := 104) (pf := 61) (fun _ _ _ _ _ _ => ev_if_le (tgt := 104) dX6_largest_58 (by decide)) (fun h1 => ?_) (fun h1 => ?_)
    · refine ep_iconst (v := (0 : Int32)) (q := 105) dX6_largest_104 (by decide) rfl ?_
      exact ep_iret rfl dX6_largest_105
    · refine ep_aload_n (q := 62) 0 dX6_largest_61 rfl rfl rfl ?_
      refine ep_fresh (rest := []) (q := 65) e0 (okX6_fresh_f p) rfl calX6_fresh ml6_247 (by decide) rfl (Nat.le_of_ble_eq_true rfl) dX6_largest_62 rfl (fun z2 obz2 yz2 _ mvz2 ez2 => ?_)
      refine ep_astore (lv' := [(5, .ref yz2), (0, .ref a0), (1, .int x1), (2, .int x2), (3, .int x3), (4, .int x4)]) (q := 67) dX6_largest_65 (by decide) rfl rfl ?_
      refine ep_aload (q := 69) 0 dX6_largest_67 rfl rfl ?_
      refine ep_iload_n (q := 70) 2 dX6_largest_69 rfl rfl rfl ?_
      refine ep_iload (q := 72) 5 dX6_largest_70 rfl rfl ?_
      refine ep_invVU1 (As := [.int x1, .int x4]) (rest := []) (q := 75) ez2 (okX6_addScoop x1 x4) rfl calX6_addScoop ml6_144 (by decide) rfl rfl (Nat.le_of_ble_eq_true rfl) dX6_largest_72 rfl (fun z3 => ?_)
      refine ep_aload (q := 77) 0 dX6_largest_75 rfl rfl ?_
      refine ep_iload_n (q := 78) 3 dX6_largest_77 rfl rfl rfl ?_
      refine ep_invVU1 (As := [.int x2]) (rest := []) (q := 81) ez2 (okX6_stands x2) rfl calX6_stands ml6_335 (by decide) rfl rfl (Nat.le_of_ble_eq_true rfl) dX6_largest_78 rfl (fun z4 => ?_)
      refine ep_aload (q := 83) 0 dX6_largest_81 rfl rfl ?_
      refine ep_getI (x := ((wrT (wrT z2.2 (9 :: p) z3.2) (9 :: p) z4.2).2 (9 :: p)).1 0 19) (q := 86) ez2 fl6_283 rfl rfl dX6_largest_83 rfl ?_
      refine ep_aload_n (q := 87) 1 dX6_largest_86 rfl rfl rfl ?_
      refine ep_getI (x := ((wrT (wrT z2.2 (9 :: p) z3.2) (9 :: p) z4.2).2 p).1 0 19) (q := 90) (mvz2 _ _ e0) fl6_283 rfl rfl dX6_largest_87 rfl ?_
      refine ep_isub (q := 91) dX6_largest_90 rfl ?_
      refine ep_iload_n (q := 92) 4 dX6_largest_91 rfl rfl rfl ?_
      refine ep_if (pt := 98) (pf := 95) (fun _ _ _ _ _ _ => ev_icmp_gt (tgt := 98) dX6_largest_92 (by decide)) (fun h5 => ?_) (fun h5 => ?_)
      · refine ep_iinc (v := x4 + (-1 : Int32)) (lv' := [(4, .int (x4 + (-1 : Int32))), (5, .ref yz2), (0, .ref a0), (1, .int x1), (2, .int x2), (3, .int x3)]) (q := 101) 5 dX6_largest_98 rfl rfl (by decide) rfl rfl ?_
        refine ep_goto (tgt := 56) dX6_largest_101 (by decide) ?_
        refine ep_sub (lv' := [(0, .ref a0), (1, .int x1), (2, .int x2), (3, .int x3), (4, .int (x4 + (-1 : Int32)))]) [2, 3, 4, 5, 0] rfl ?_
        exact ih x1 x2 x3 (x4 + (-1 : Int32)) (wrT (wrT z2.2 (9 :: p) z3.2) (9 :: p) z4.2) obz2 a0 (mvz2 _ _ e0)
      · refine ep_iload (q := 97) 5 dX6_largest_95 rfl rfl ?_
        exact ep_iret rfl dX6_largest_97
set_option maxRecDepth 100000 in
set_option maxHeartbeats 4000000 in
theorem okX6_largest_0 {G : GG} {X : Nat → Prop} {ob0 : List Nat → Nat} {t0 : TF} {h00 : PH} (p : List Nat) (x1 : Int32) (x2 : Int32) (t : TF) (ob : List Nat → Nat) (a0 : Nat) (e0 : AtF ob t (p) a0) : EvP G 5 mX6_largest X ob0 t0 h00 rwI (fX6_largest_0 p x1 x2 t) 0 [(0, .ref a0), (1, .int x1), (2, .int x2)] [] t ob := by
  unfold fX6_largest_0
  refine ep_iload_n (q := 1) 1 dX6_largest_0 rfl rfl rfl ?_
  refine ep_i2l (v := x1.toInt64) (q := 2) dX6_largest_1 rfl rfl ?_
  refine ep_lconst (v := (0 : Int64)) (q := 3) dX6_largest_2 (by decide) rfl ?_
  refine ep_ldc2 (v := (9 : Int64)) (q := 6) k6_140 dX6_largest_3 rfl ?_
  refine ep_invPI (s := t.2 p) (As := [.long x1.toInt64, .long (0 : Int64), .long (9 : Int64)]) (rest := []) (q := 9) (okX6_in x1.toInt64 (0 : Int64) (9 : Int64)) rfl calX6_in ml6_89 (by decide) rfl rfl (Nat.le_of_ble_eq_true rfl) dX6_largest_6 rfl (fun z1 => ?_)
  refine ep_if (pt := 24) (pf := 12) (fun _ _ _ _ _ _ => ev_if_eq (tgt := 24) dX6_largest_9 (by decide)) (fun h2 => ?_) (fun h2 => ?_)
  · refine ep_sub (lv' := [(0, .ref a0)]) [0] rfl ?_
    exact okX6_largest_24 p t ob a0 e0
  · refine ep_iload_n (q := 13) 2 dX6_largest_12 rfl rfl rfl ?_
    refine ep_i2l (v := x2.toInt64) (q := 14) dX6_largest_13 rfl rfl ?_
    refine ep_lconst (v := (0 : Int64)) (q := 15) dX6_largest_14 (by decide) rfl ?_
    refine ep_ldc2 (v := (200 : Int64)) (q := 18) k6_338 dX6_largest_15 rfl ?_
    refine ep_invPI (s := t.2 p) (As := [.long x2.toInt64, .long (0 : Int64), .long (200 : Int64)]) (rest := []) (q := 21) (okX6_in x2.toInt64 (0 : Int64) (200 : Int64)) rfl calX6_in ml6_89 (by decide) rfl rfl (Nat.le_of_ble_eq_true rfl) dX6_largest_18 rfl (fun z3 => ?_)
    refine ep_if (pt := 24) (pf := 31) (fun _ _ _ _ _ _ kt kf => ev_if_ne (tgt := 31) dX6_largest_21 (by decide) kf kt) (fun h4 => ?_) (fun h4 => ?_)
    · refine ep_sub (lv' := [(0, .ref a0)]) [0] rfl ?_
      exact okX6_largest_24 p t ob a0 e0
    · refine ep_aload_n (q := 32) 0 dX6_largest_31 rfl rfl rfl ?_
      refine ep_getI (x := (t.2 p).1 0 10) (q := 35) e0 fl6_93 rfl rfl dX6_largest_32 rfl ?_
      refine ep_iconst (v := (3 : Int32)) (q := 36) dX6_largest_35 (by decide) rfl ?_
      refine ep_if (pt := 39) (pf := 46) (fun _ _ _ _ _ _ kt kf => ev_icmp_ne (tgt := 46) dX6_largest_36 (by decide) kf kt) (fun h5 => ?_) (fun h5 => ?_)
      · refine ep_aload_n (q := 40) 0 dX6_largest_39 rfl rfl rfl ?_
        refine ep_bipush (v := (-6 : Int32)) (q := 42) dX6_largest_40 (by decide) rfl ?_
        refine ep_invVI1 (As := [.int (-6 : Int32)]) (rest := []) (q := 45) e0 (okX6_refuse (-6 : Int32)) rfl calX6_refuse ml6_102 (by decide) rfl rfl (Nat.le_of_ble_eq_true rfl) dX6_largest_42 rfl (fun z6 => ?_)
        exact ep_iret rfl dX6_largest_45
      · refine ep_aload_n (q := 47) 0 dX6_largest_46 rfl rfl rfl ?_
        refine ep_iload_n (q := 48) 2 dX6_largest_47 rfl rfl rfl ?_
        refine ep_invVIP (As := [.int x2]) (rest := []) (q := 51) e0 (okX6_withoutNow p x2) rfl calX6_withoutNow ml6_340 (by decide) rfl rfl (Nat.le_of_ble_eq_true rfl) dX6_largest_48 rfl (fun z7 obz7 _ mvz7 => ?_)
        refine ep_istore_n (lv' := [(3, .int z7.1), (0, .ref a0), (1, .int x1), (2, .int x2)]) (q := 52) dX6_largest_51 rfl (by decide) rfl rfl ?_
        refine ep_bipush (v := (99 : Int32)) (q := 54) dX6_largest_52 (by decide) rfl ?_
        refine ep_istore (lv' := [(4, .int (99 : Int32)), (3, .int z7.1), (0, .ref a0), (1, .int x1), (2, .int x2)]) (q := 56) dX6_largest_54 (by decide) rfl rfl ?_
        refine ep_sub (lv' := [(0, .ref a0), (1, .int x1), (2, .int x2), (3, .int z7.1), (4, .int (99 : Int32))]) [2, 3, 4, 1, 0] rfl ?_
        exact okX6_largest_56 p FU x1 x2 z7.1 (99 : Int32) z7.2 obz7 a0 (mvz7 _ _ e0)
theorem okX6_largest (p : List Nat) (x1 : Int32) (x2 : Int32) : MtP 5 mX6_largest rwI p (fun a => [.ref a, .int x1, .int x2]) (fX6_largest p x1 x2) := by
  refine MtP.of (by decide +kernel) rfl (fun _ => Nat.le_of_ble_eq_true rfl) (fun G X ob t h a e => ?_)
  refine ep_sub (lv := [(0, .ref a), (1, .int x1), (2, .int x2)]) (lv' := [(0, .ref a), (1, .int x1), (2, .int x2)]) [0, 1, 2] rfl ?_
  exact okX6_largest_0 p x1 x2 t ob a e
-- X6_seekOrder
theorem dX6_seekOrder_0 : decode cX6_seekOrder 0 = .ok (.iload_n 1, 1) := by decide +kernel
theorem dX6_seekOrder_1 : decode cX6_seekOrder 1 = .ok (.aload_n 0, 1) := by decide +kernel
theorem dX6_seekOrder_2 : decode cX6_seekOrder 2 = .ok (.getfield 93, 3) := by decide +kernel
theorem dX6_seekOrder_5 : decode cX6_seekOrder 5 = .ok (.if_icmp .ne 96, 3) := by decide +kernel
theorem dX6_seekOrder_8 : decode cX6_seekOrder 8 = .ok (.aload_n 0, 1) := by decide +kernel
theorem dX6_seekOrder_9 : decode cX6_seekOrder 9 = .ok (.invokevirtual 247, 3) := by decide +kernel
theorem dX6_seekOrder_12 : decode cX6_seekOrder 12 = .ok (.astore 4, 2) := by decide +kernel
theorem dX6_seekOrder_14 : decode cX6_seekOrder 14 = .ok (.iconst 0, 1) := by decide +kernel
theorem dX6_seekOrder_15 : decode cX6_seekOrder 15 = .ok (.istore 5, 2) := by decide +kernel
theorem dX6_seekOrder_17 : decode cX6_seekOrder 17 = .ok (.iload 5, 2) := by decide +kernel
theorem dX6_seekOrder_19 : decode cX6_seekOrder 19 = .ok (.iload_n 1, 1) := by decide +kernel
theorem dX6_seekOrder_20 : decode cX6_seekOrder 20 = .ok (.if_icmp .ge 24, 3) := by decide +kernel
theorem dX6_seekOrder_23 : decode cX6_seekOrder 23 = .ok (.aload 4, 2) := by decide +kernel
theorem dX6_seekOrder_25 : decode cX6_seekOrder 25 = .ok (.aload_n 0, 1) := by decide +kernel
theorem dX6_seekOrder_26 : decode cX6_seekOrder 26 = .ok (.iload 5, 2) := by decide +kernel
theorem dX6_seekOrder_28 : decode cX6_seekOrder 28 = .ok (.aload_n 0, 1) := by decide +kernel
theorem dX6_seekOrder_29 : decode cX6_seekOrder 29 = .ok (.getfield 80, 3) := by decide +kernel
theorem dX6_seekOrder_32 : decode cX6_seekOrder 32 = .ok (.iload 5, 2) := by decide +kernel
theorem dX6_seekOrder_34 : decode cX6_seekOrder 34 = .ok (.iaload, 1) := by decide +kernel
theorem dX6_seekOrder_35 : decode cX6_seekOrder 35 = .ok (.invokevirtual 357, 3) := by decide +kernel
theorem dX6_seekOrder_38 : decode cX6_seekOrder 38 = .ok (.iinc 5 1, 3) := by decide +kernel
theorem dX6_seekOrder_41 : decode cX6_seekOrder 41 = .ok (.goto (-24), 3) := by decide +kernel
theorem dX6_seekOrder_44 : decode cX6_seekOrder 44 = .ok (.aload 4, 2) := by decide +kernel
theorem dX6_seekOrder_46 : decode cX6_seekOrder 46 = .ok (.iload_n 3, 1) := by decide +kernel
theorem dX6_seekOrder_47 : decode cX6_seekOrder 47 = .ok (.invokevirtual 335, 3) := by decide +kernel
theorem dX6_seekOrder_50 : decode cX6_seekOrder 50 = .ok (.aload_n 0, 1) := by decide +kernel
theorem dX6_seekOrder_51 : decode cX6_seekOrder 51 = .ok (.getfield 361, 3) := by decide +kernel
theorem dX6_seekOrder_54 : decode cX6_seekOrder 54 = .ok (.iconst (-1), 1) := by decide +kernel
theorem dX6_seekOrder_55 : decode cX6_seekOrder 55 = .ok (.if_icmp .eq 20, 3) := by decide +kernel
theorem dX6_seekOrder_58 : decode cX6_seekOrder 58 = .ok (.aload 4, 2) := by decide +kernel
theorem dX6_seekOrder_60 : decode cX6_seekOrder 60 = .ok (.getfield 283, 3) := by decide +kernel
theorem dX6_seekOrder_63 : decode cX6_seekOrder 63 = .ok (.aload_n 0, 1) := by decide +kernel
theorem dX6_seekOrder_64 : decode cX6_seekOrder 64 = .ok (.getfield 283, 3) := by decide +kernel
theorem dX6_seekOrder_67 : decode cX6_seekOrder 67 = .ok (.isub, 1) := by decide +kernel
theorem dX6_seekOrder_68 : decode cX6_seekOrder 68 = .ok (.aload_n 0, 1) := by decide +kernel
theorem dX6_seekOrder_69 : decode cX6_seekOrder 69 = .ok (.getfield 361, 3) := by decide +kernel
theorem dX6_seekOrder_72 : decode cX6_seekOrder 72 = .ok (.if_icmp .ge 28, 3) := by decide +kernel
theorem dX6_seekOrder_75 : decode cX6_seekOrder 75 = .ok (.aload_n 0, 1) := by decide +kernel
theorem dX6_seekOrder_76 : decode cX6_seekOrder 76 = .ok (.aload 4, 2) := by decide +kernel
theorem dX6_seekOrder_78 : decode cX6_seekOrder 78 = .ok (.getfield 283, 3) := by decide +kernel
theorem dX6_seekOrder_81 : decode cX6_seekOrder 81 = .ok (.aload_n 0, 1) := by decide +kernel
theorem dX6_seekOrder_82 : decode cX6_seekOrder 82 = .ok (.getfield 283, 3) := by decide +kernel
theorem dX6_seekOrder_85 : decode cX6_seekOrder 85 = .ok (.isub, 1) := by decide +kernel
theorem dX6_seekOrder_86 : decode cX6_seekOrder 86 = .ok (.putfield 361, 3) := by decide +kernel
theorem dX6_seekOrder_89 : decode cX6_seekOrder 89 = .ok (.aload_n 0, 1) := by decide +kernel
theorem dX6_seekOrder_90 : decode cX6_seekOrder 90 = .ok (.getfield 80, 3) := by decide +kernel
theorem dX6_seekOrder_93 : decode cX6_seekOrder 93 = .ok (.aload_n 0, 1) := by decide +kernel
theorem dX6_seekOrder_94 : decode cX6_seekOrder 94 = .ok (.getfield 83, 3) := by decide +kernel
theorem dX6_seekOrder_97 : decode cX6_seekOrder 97 = .ok (.invokestatic 353, 3) := by decide +kernel
theorem dX6_seekOrder_100 : decode cX6_seekOrder 100 = .ok (.return_, 1) := by decide +kernel
theorem dX6_seekOrder_101 : decode cX6_seekOrder 101 = .ok (.iconst 0, 1) := by decide +kernel
theorem dX6_seekOrder_102 : decode cX6_seekOrder 102 = .ok (.istore 4, 2) := by decide +kernel
theorem dX6_seekOrder_104 : decode cX6_seekOrder 104 = .ok (.iload 4, 2) := by decide +kernel
theorem dX6_seekOrder_106 : decode cX6_seekOrder 106 = .ok (.aload_n 0, 1) := by decide +kernel
theorem dX6_seekOrder_107 : decode cX6_seekOrder 107 = .ok (.getfield 93, 3) := by decide +kernel
theorem dX6_seekOrder_110 : decode cX6_seekOrder 110 = .ok (.if_icmp .ge 40, 3) := by decide +kernel
theorem dX6_seekOrder_113 : decode cX6_seekOrder 113 = .ok (.iload_n 2, 1) := by decide +kernel
theorem dX6_seekOrder_114 : decode cX6_seekOrder 114 = .ok (.iload 4, 2) := by decide +kernel
theorem dX6_seekOrder_116 : decode cX6_seekOrder 116 = .ok (.ishr, 1) := by decide +kernel
theorem dX6_seekOrder_117 : decode cX6_seekOrder 117 = .ok (.iconst 1, 1) := by decide +kernel
theorem dX6_seekOrder_118 : decode cX6_seekOrder 118 = .ok (.iand, 1) := by decide +kernel
theorem dX6_seekOrder_119 : decode cX6_seekOrder 119 = .ok (.ifCond .ne 25, 3) := by decide +kernel
theorem dX6_seekOrder_122 : decode cX6_seekOrder 122 = .ok (.aload_n 0, 1) := by decide +kernel
theorem dX6_seekOrder_123 : decode cX6_seekOrder 123 = .ok (.getfield 80, 3) := by decide +kernel
theorem dX6_seekOrder_126 : decode cX6_seekOrder 126 = .ok (.iload_n 1, 1) := by decide +kernel
theorem dX6_seekOrder_127 : decode cX6_seekOrder 127 = .ok (.iload 4, 2) := by decide +kernel
theorem dX6_seekOrder_129 : decode cX6_seekOrder 129 = .ok (.iastore, 1) := by decide +kernel
theorem dX6_seekOrder_130 : decode cX6_seekOrder 130 = .ok (.aload_n 0, 1) := by decide +kernel
theorem dX6_seekOrder_131 : decode cX6_seekOrder 131 = .ok (.iload_n 1, 1) := by decide +kernel
theorem dX6_seekOrder_132 : decode cX6_seekOrder 132 = .ok (.iconst 1, 1) := by decide +kernel
theorem dX6_seekOrder_133 : decode cX6_seekOrder 133 = .ok (.iadd, 1) := by decide +kernel
theorem dX6_seekOrder_134 : decode cX6_seekOrder 134 = .ok (.iload_n 2, 1) := by decide +kernel
theorem dX6_seekOrder_135 : decode cX6_seekOrder 135 = .ok (.iconst 1, 1) := by decide +kernel
theorem dX6_seekOrder_136 : decode cX6_seekOrder 136 = .ok (.iload 4, 2) := by decide +kernel
theorem dX6_seekOrder_138 : decode cX6_seekOrder 138 = .ok (.ishl, 1) := by decide +kernel
theorem dX6_seekOrder_139 : decode cX6_seekOrder 139 = .ok (.ior, 1) := by decide +kernel
theorem dX6_seekOrder_140 : decode cX6_seekOrder 140 = .ok (.iload_n 3, 1) := by decide +kernel
theorem dX6_seekOrder_141 : decode cX6_seekOrder 141 = .ok (.invokevirtual 364, 3) := by decide +kernel
theorem dX6_seekOrder_144 : decode cX6_seekOrder 144 = .ok (.iinc 4 1, 3) := by decide +kernel
theorem dX6_seekOrder_147 : decode cX6_seekOrder 147 = .ok (.goto (-43), 3) := by decide +kernel
theorem dX6_seekOrder_150 : decode cX6_seekOrder 150 = .ok (.return_, 1) := by decide +kernel
def fX6_seekOrder_75 (p : List Nat) (self : List Nat → Int32 → Int32 → Int32 → TF → Option (Unit × TF)) (t : TF) : Option (Unit × TF) := ((fX6_copied3 (selS (fun k => if k < 1 then 31 + k else 32 + (k - 1)) ((wTI t p 0 44 (((t.2 (9 :: p)).1 0 19) - ((t.2 p).1 0 19))).2 p))).bind fun z1 => some ((), wrT (wTI t p 0 44 (((t.2 (9 :: p)).1 0 19) - ((t.2 p).1 0 19))) p (mrgS (fun k => if k < 1 then 31 + k else 32 + (k - 1)) 2 ((wTI t p 0 44 (((t.2 (9 :: p)).1 0 19) - ((t.2 p).1 0 19))).2 p) z1.2)))
def fX6_seekOrder_17 (p : List Nat) (self : List Nat → Int32 → Int32 → Int32 → TF → Option (Unit × TF)) : Nat → Int32 → Int32 → Int32 → TF → Option (Unit × TF)
  | 0, _, _, _, _ => none
  | n + 1, x1, x3, x5, t => if x1 ≤ x5 then (((fX6_stands x3 (t.2 (9 :: p))).bind fun z2 => if (((wrT t (9 :: p) z2.2).2 p).1 0 44) = (-1 : Int32) then (fX6_seekOrder_75 p self (wrT t (9 :: p) z2.2)) else (if (((wrT t (9 :: p) z2.2).2 p).1 0 44) ≤ ((((wrT t (9 :: p) z2.2).2 (9 :: p)).1 0 19) - (((wrT t (9 :: p) z2.2).2 p).1 0 19)) then (some ((), wrT t (9 :: p) z2.2)) else (fX6_seekOrder_75 p self (wrT t (9 :: p) z2.2))))) else (if ixB x5 3 then (((fX6_putFrom x5 ((t.2 p).1 31 x5.toNatClampNeg) (prS (t.2 (9 :: p)) (t.2 p))).bind fun z6 => fX6_seekOrder_17 p self n x1 x3 (x5 + (1 : Int32)) (wrT (wrT t (9 :: p) z6.2) p (snS z6.2)))) else none)
def fX6_seekOrder_104 (p : List Nat) (self : List Nat → Int32 → Int32 → Int32 → TF → Option (Unit × TF)) : Nat → Int32 → Int32 → Int32 → Int32 → TF → Option (Unit × TF)
  | 0, _, _, _, _, _ => none
  | n + 1, x1, x2, x3, x4, t => if ((t.2 p).1 0 10) ≤ x4 then (some ((), t)) else (if ((x2 >>> (x4 &&& 31)) &&& (1 : Int32)) = 0 then (if ixB x1 3 then (((self p (x1 + (1 : Int32)) (x2 ||| ((1 : Int32) <<< (x4 &&& 31))) x3 (wTI t p 31 x1.toNatClampNeg x4)).bind fun z4 => fX6_seekOrder_104 p self n x1 x2 x3 (x4 + (1 : Int32)) z4.2)) else none) else (fX6_seekOrder_104 p self n x1 x2 x3 (x4 + (1 : Int32)) t))
def fX6_seekOrder_0 (p : List Nat) (self : List Nat → Int32 → Int32 → Int32 → TF → Option (Unit × TF)) (x1 : Int32) (x2 : Int32) (x3 : Int32) (t : TF) : Option (Unit × TF) := if x1 = ((t.2 p).1 0 10) then (((fX6_fresh p t).bind fun z2 => fX6_seekOrder_17 p self FU x1 x3 (0 : Int32) z2.2)) else (fX6_seekOrder_104 p self FU x1 x2 x3 (0 : Int32) t)
def fX6_seekOrder_b (self : List Nat → Int32 → Int32 → Int32 → TF → Option (Unit × TF)) (p : List Nat) (x1 : Int32) (x2 : Int32) (x3 : Int32) (t : TF) : Option (Unit × TF) := fX6_seekOrder_0 p self x1 x2 x3 t
set_option maxRecDepth 100000 in
set_option maxHeartbeats 4000000 in
theorem okX6_seekOrder_75 {G : GG} {X : Nat → Prop} {ob0 : List Nat → Nat} {t0 : TF} {h00 : PH} (p : List Nat) {d dself : Nat} (hd1 : dself + 1 ≤ d) (hd2 : 4 ≤ d) (self : List Nat → Int32 → Int32 → Int32 → TF → Option (Unit × TF)) (hself : ∀ (p : List Nat) (x1 : Int32) (x2 : Int32) (x3 : Int32), MtP dself mX6_seekOrder rwU p (fun a => [.ref a, .int x1, .int x2, .int x3]) (self p x1 x2 x3)) (t : TF) (ob : List Nat → Nat) (a0 : Nat) (e0 : AtF ob t (p) a0) (a1 : Nat) (e1 : AtF ob t (9 :: p) a1) : EvP G d mX6_seekOrder X ob0 t0 h00 rwU (fX6_seekOrder_75 p self t) 75 [(0, .ref a0), (4, .ref a1)] [] t ob := by
  unfold fX6_seekOrder_75
  refine ep_aload_n (q := 76) 0 dX6_seekOrder_75 rfl rfl rfl ?_
  refine ep_aload (q := 78) 1 dX6_seekOrder_76 rfl rfl ?_
  refine ep_getI (x := (t.2 (9 :: p)).1 0 19) (q := 81) e1 fl6_283 rfl rfl dX6_seekOrder_78 rfl ?_
  refine ep_aload_n (q := 82) 0 dX6_seekOrder_81 rfl rfl rfl ?_
  refine ep_getI (x := (t.2 p).1 0 19) (q := 85) e0 fl6_283 rfl rfl dX6_seekOrder_82 rfl ?_
  refine ep_isub (q := 86) dX6_seekOrder_85 rfl ?_
  refine ep_putI (q := 89) e0 fl6_361 rfl rfl dX6_seekOrder_86 rfl ?_
  refine ep_aload_n (q := 90) 0 dX6_seekOrder_89 rfl rfl rfl ?_
  refine ep_getR (k := 31) (q := 93) e0 fl6_80 rfl rfl rfl dX6_seekOrder_90 rfl ?_
  refine ep_aload_n (q := 94) 0 dX6_seekOrder_93 rfl rfl rfl ?_
  refine ep_getR (k := 32) (q := 97) e0 fl6_83 rfl rfl rfl dX6_seekOrder_94 rfl ?_
  refine ep_invSU (π := (fun k => if k < 1 then 31 + k else 32 + (k - 1))) (nn := 2) (As := [.ref (a0 + 31), .ref (a0 + 32)]) (rest := []) (q := 100) e0 (okX6_copied3) (by decide +kernel) rfl calX6_copied ml6_353 (by omega) rfl rfl (Nat.le_of_ble_eq_true rfl) dX6_seekOrder_97 rfl rfl (fun z1 => ?_)
  exact ep_vret rfl dX6_seekOrder_100
set_option maxRecDepth 100000 in
set_option maxHeartbeats 4000000 in
theorem okX6_seekOrder_17 {G : GG} {X : Nat → Prop} {ob0 : List Nat → Nat} {t0 : TF} {h00 : PH} (p : List Nat) {d dself : Nat} (hd1 : dself + 1 ≤ d) (hd2 : 4 ≤ d) (self : List Nat → Int32 → Int32 → Int32 → TF → Option (Unit × TF)) (hself : ∀ (p : List Nat) (x1 : Int32) (x2 : Int32) (x3 : Int32), MtP dself mX6_seekOrder rwU p (fun a => [.ref a, .int x1, .int x2, .int x3]) (self p x1 x2 x3)) : ∀ (n : Nat) (x1 : Int32) (x3 : Int32) (x5 : Int32) (t : TF) (ob : List Nat → Nat) (a0 : Nat) (e0 : AtF ob t (p) a0) (a1 : Nat) (e1 : AtF ob t (9 :: p) a1), EvP G d mX6_seekOrder X ob0 t0 h00 rwU (fX6_seekOrder_17 p self n x1 x3 x5 t) 17 [(0, .ref a0), (1, .int x1), (3, .int x3), (4, .ref a1), (5, .int x5)] [] t ob := by
  intro n
  induction n with
  | zero => intro x1 x3 x5 t ob a0 e0 a1 e1; rw [fX6_seekOrder_17]; exact ep_none
  | succ n ih =>
    intro x1 x3 x5 t ob a0 e0 a1 e1
    rw [fX6_seekOrder_17]
    refine ep_iload (q := 19) 4 dX6_seekOrder_17 rfl rfl ?_
    refine ep_iload_n (q := 20) 1 dX6_seekOrder_19 rfl rfl rfl ?_
    refine ep_if (pt := 44) (pf := 23) (fun _ _ _ _ _ _ => ev_icmp_ge (tgt := 44) dX6_seekOrder_20 (by decide)) (fun h1 => ?_) (fun h1 => ?_)
    · refine ep_aload (q := 46) 3 dX6_seekOrder_44 rfl rfl ?_
      refine ep_iload_n (q := 47) 2 dX6_seekOrder_46 rfl rfl rfl ?_
      refine ep_invVU1 (As := [.int x3]) (rest := []) (q := 50) e1 (okX6_stands x3) rfl calX6_stands ml6_335 (by omega) rfl rfl (Nat.le_of_ble_eq_true rfl) dX6_seekOrder_47 rfl (fun z2 => ?_)
      refine ep_aload_n (q := 51) 0 dX6_seekOrder_50 rfl rfl rfl ?_
      refine ep_getI (x := ((wrT t (9 :: p) z2.2).2 p).1 0 44) (q := 54) e0 fl6_361 rfl rfl dX6_seekOrder_51 rfl ?_
      refine ep_iconst (v := (-1 : Int32)) (q := 55) dX6_seekOrder_54 (by decide) rfl ?_
      refine ep_if (pt := 75) (pf := 58) (fun _ _ _ _ _ _ => ev_icmp_eq (tgt := 75) dX6_seekOrder_55 (by decide)) (fun h3 => ?_) (fun h3 => ?_)
      · refine ep_sub (lv' := [(0, .ref a0), (4, .ref a1)]) [0, 3] rfl ?_
        exact okX6_seekOrder_75 p hd1 hd2 self hself (wrT t (9 :: p) z2.2) ob a0 e0 a1 e1
      · refine ep_aload (q := 60) 3 dX6_seekOrder_58 rfl rfl ?_
        refine ep_getI (x := ((wrT t (9 :: p) z2.2).2 (9 :: p)).1 0 19) (q := 63) e1 fl6_283 rfl rfl dX6_seekOrder_60 rfl ?_
        refine ep_aload_n (q := 64) 0 dX6_seekOrder_63 rfl rfl rfl ?_
        refine ep_getI (x := ((wrT t (9 :: p) z2.2).2 p).1 0 19) (q := 67) e0 fl6_283 rfl rfl dX6_seekOrder_64 rfl ?_
        refine ep_isub (q := 68) dX6_seekOrder_67 rfl ?_
        refine ep_aload_n (q := 69) 0 dX6_seekOrder_68 rfl rfl rfl ?_
        refine ep_getI (x := ((wrT t (9 :: p) z2.2).2 p).1 0 44) (q := 72) e0 fl6_361 rfl rfl dX6_seekOrder_69 rfl ?_
        refine ep_if (pt := 100) (pf := 75) (fun _ _ _ _ _ _ => ev_icmp_ge (tgt := 100) dX6_seekOrder_72 (by decide)) (fun h4 => ?_) (fun h4 => ?_)
        · exact ep_vret rfl dX6_seekOrder_100
        · refine ep_sub (lv' := [(0, .ref a0), (4, .ref a1)]) [0, 3] rfl ?_
          exact okX6_seekOrder_75 p hd1 hd2 self hself (wrT t (9 :: p) z2.2) ob a0 e0 a1 e1
    · refine ep_aload (q := 25) 3 dX6_seekOrder_23 rfl rfl ?_
      refine ep_aload_n (q := 26) 0 dX6_seekOrder_25 rfl rfl rfl ?_
      refine ep_iload (q := 28) 4 dX6_seekOrder_26 rfl rfl ?_
      refine ep_aload_n (q := 29) 0 dX6_seekOrder_28 rfl rfl rfl ?_
      refine ep_getR (k := 31) (q := 32) e0 fl6_80 rfl rfl rfl dX6_seekOrder_29 rfl ?_
      refine ep_iload (q := 34) 4 dX6_seekOrder_32 rfl rfl ?_
      refine ep_guard (fun g5 => ?_)
      refine ep_iaload (x := (t.2 p).1 31 x5.toNatClampNeg) (q := 35) e0 rfl g5 dX6_seekOrder_34 rfl rfl ?_
      refine ep_invVU2 (As := [.ref a0, .int x5, .int ((t.2 p).1 31 x5.toNatClampNeg)]) (rest := []) (q := 38) e1 e0 cne (okX6_putFrom x5 ((t.2 p).1 31 x5.toNatClampNeg)) rfl calX6_putFrom ml6_357 (by omega) rfl rfl (Nat.le_of_ble_eq_true rfl) dX6_seekOrder_35 rfl (fun z6 => ?_)
      refine ep_iinc (v := x5 + (1 : Int32)) (lv' := [(5, .int (x5 + (1 : Int32))), (0, .ref a0), (1, .int x1), (3, .int x3), (4, .ref a1)]) (q := 41) 4 dX6_seekOrder_38 rfl rfl (by decide) rfl rfl ?_
      refine ep_goto (tgt := 17) dX6_seekOrder_41 (by decide) ?_
      refine ep_sub (lv' := [(0, .ref a0), (1, .int x1), (3, .int x3), (4, .ref a1), (5, .int (x5 + (1 : Int32)))]) [1, 2, 3, 4, 0] rfl ?_
      exact ih x1 x3 (x5 + (1 : Int32)) (wrT (wrT t (9 :: p) z6.2) p (snS z6.2)) ob a0 e0 a1 e1
set_option maxRecDepth 100000 in
set_option maxHeartbeats 4000000 in
theorem okX6_seekOrder_104 {G : GG} {X : Nat → Prop} {ob0 : List Nat → Nat} {t0 : TF} {h00 : PH} (p : List Nat) {d dself : Nat} (hd1 : dself + 1 ≤ d) (hd2 : 4 ≤ d) (self : List Nat → Int32 → Int32 → Int32 → TF → Option (Unit × TF)) (hself : ∀ (p : List Nat) (x1 : Int32) (x2 : Int32) (x3 : Int32), MtP dself mX6_seekOrder rwU p (fun a => [.ref a, .int x1, .int x2, .int x3]) (self p x1 x2 x3)) : ∀ (n : Nat) (x1 : Int32) (x2 : Int32) (x3 : Int32) (x4 : Int32) (t : TF) (ob : List Nat → Nat) (a0 : Nat) (e0 : AtF ob t (p) a0), EvP G d mX6_seekOrder X ob0 t0 h00 rwU (fX6_seekOrder_104 p self n x1 x2 x3 x4 t) 104 [(0, .ref a0), (1, .int x1), (2, .int x2), (3, .int x3), (4, .int x4)] [] t ob := by
  intro n
  induction n with
  | zero => intro x1 x2 x3 x4 t ob a0 e0; rw [fX6_seekOrder_104]; exact ep_none
  | succ n ih =>
    intro x1 x2 x3 x4 t ob a0 e0
    rw [fX6_seekOrder_104]
    refine ep_iload (q := 106) 4 dX6_seekOrder_104 rfl rfl ?_
    refine ep_aload_n (q := 107) 0 dX6_seekOrder_106 rfl rfl rfl ?_
    refine ep_getI (x := (t.2 p).1 0 10) (q := 110) e0 fl6_93 rfl rfl dX6_seekOrder_107 rfl ?_
    refine ep_if (pt := 150) (pf := 113) (fun _ _ _ _ _ _ => ev_icmp_ge (tgt := 150) dX6_seekOrder_110 (by decide)) (fun h1 => ?_) (fun h1 => ?_)
    · exact ep_vret rfl dX6_seekOrder_150
    · refine ep_iload_n (q := 114) 2 dX6_seekOrder_113 rfl rfl rfl ?_
      refine ep_iload (q := 116) 4 dX6_seekOrder_114 rfl rfl ?_
      refine ep_ishr (q := 117) dX6_seekOrder_116 rfl ?_
      refine ep_iconst (v := (1 : Int32)) (q := 118) dX6_seekOrder_117 (by decide) rfl ?_
      refine ep_iand (q := 119) dX6_seekOrder_118 rfl ?_
      refine ep_if (pt := 122) (pf := 144) (fun _ _ _ _ _ _ kt kf => ev_if_ne (tgt := 144) dX6_seekOrder_119 (by decide) kf kt) (fun h2 => ?_) (fun h2 => ?_)
      · refine ep_aload_n (q := 123) 0 dX6_seekOrder_122 rfl rfl rfl ?_
        refine ep_getR (k := 31) (q := 126) e0 fl6_80 rfl rfl rfl dX6_seekOrder_123 rfl ?_
        refine ep_iload_n (q := 127) 1 dX6_seekOrder_126 rfl rfl rfl ?_
        refine ep_iload (q := 129) 4 dX6_seekOrder_127 rfl rfl ?_
        refine ep_guard (fun g3 => ?_)
        refine ep_iastore (j := x1.toNatClampNeg) (q := 130) e0 rfl g3 dX6_seekOrder_129 rfl rfl ?_
        refine ep_aload_n (q := 131) 0 dX6_seekOrder_130 rfl rfl rfl ?_
        refine ep_iload_n (q := 132) 1 dX6_seekOrder_131 rfl rfl rfl ?_
        refine ep_iconst (v := (1 : Int32)) (q := 133) dX6_seekOrder_132 (by decide) rfl ?_
        refine ep_iadd (q := 134) dX6_seekOrder_133 rfl ?_
        refine ep_iload_n (q := 135) 2 dX6_seekOrder_134 rfl rfl rfl ?_
        refine ep_iconst (v := (1 : Int32)) (q := 136) dX6_seekOrder_135 (by decide) rfl ?_
        refine ep_iload (q := 138) 4 dX6_seekOrder_136 rfl rfl ?_
        refine ep_ishl (q := 139) dX6_seekOrder_138 rfl ?_
        refine ep_ior (q := 140) dX6_seekOrder_139 rfl ?_
        refine ep_iload_n (q := 141) 3 dX6_seekOrder_140 rfl rfl rfl ?_
        refine ep_invVUP (As := [.int (x1 + (1 : Int32)), .int (x2 ||| ((1 : Int32) <<< (x4 &&& 31))), .int x3]) (rest := []) (q := 144) e0 (hself p (x1 + (1 : Int32)) (x2 ||| ((1 : Int32) <<< (x4 &&& 31))) x3) rfl calX6_seekOrder ml6_364 hd1 rfl rfl (Nat.le_of_ble_eq_true rfl) dX6_seekOrder_141 rfl (fun z4 obz4 _ mvz4 => ?_)
        refine ep_iinc (v := x4 + (1 : Int32)) (lv' := [(4, .int (x4 + (1 : Int32))), (0, .ref a0), (1, .int x1), (2, .int x2), (3, .int x3)]) (q := 147) 4 dX6_seekOrder_144 rfl rfl (by decide) rfl rfl ?_
        refine ep_goto (tgt := 104) dX6_seekOrder_147 (by decide) ?_
        refine ep_sub (lv' := [(0, .ref a0), (1, .int x1), (2, .int x2), (3, .int x3), (4, .int (x4 + (1 : Int32)))]) [1, 2, 3, 4, 0] rfl ?_
        exact ih x1 x2 x3 (x4 + (1 : Int32)) z4.2 obz4 a0 (mvz4 _ _ e0)
      · refine ep_iinc (v := x4 + (1 : Int32)) (lv' := [(4, .int (x4 + (1 : Int32))), (0, .ref a0), (1, .int x1), (2, .int x2), (3, .int x3)]) (q := 147) 4 dX6_seekOrder_144 rfl rfl (by decide) rfl rfl ?_
        refine ep_goto (tgt := 104) dX6_seekOrder_147 (by decide) ?_
        refine ep_sub (lv' := [(0, .ref a0), (1, .int x1), (2, .int x2), (3, .int x3), (4, .int (x4 + (1 : Int32)))]) [1, 2, 3, 4, 0] rfl ?_
        exact ih x1 x2 x3 (x4 + (1 : Int32)) t ob a0 e0
set_option maxRecDepth 100000 in
set_option maxHeartbeats 4000000 in
theorem okX6_seekOrder_0 {G : GG} {X : Nat → Prop} {ob0 : List Nat → Nat} {t0 : TF} {h00 : PH} (p : List Nat) {d dself : Nat} (hd1 : dself + 1 ≤ d) (hd2 : 4 ≤ d) (self : List Nat → Int32 → Int32 → Int32 → TF → Option (Unit × TF)) (hself : ∀ (p : List Nat) (x1 : Int32) (x2 : Int32) (x3 : Int32), MtP dself mX6_seekOrder rwU p (fun a => [.ref a, .int x1, .int x2, .int x3]) (self p x1 x2 x3)) (x1 : Int32) (x2 : Int32) (x3 : Int32) (t : TF) (ob : List Nat → Nat) (a0 : Nat) (e0 : AtF ob t (p) a0) : EvP G d mX6_seekOrder X ob0 t0 h00 rwU (fX6_seekOrder_0 p self x1 x2 x3 t) 0 [(0, .ref a0), (1, .int x1), (2, .int x2), (3, .int x3)] [] t ob := by
  unfold fX6_seekOrder_0
  refine ep_iload_n (q := 1) 1 dX6_seekOrder_0 rfl rfl rfl ?_
  refine ep_aload_n (q := 2) 0 dX6_seekOrder_1 rfl rfl rfl ?_
  refine ep_getI (x := (t.2 p).1 0 10) (q := 5) e0 fl6_93 rfl rfl dX6_seekOrder_2 rfl ?_
  refine ep_if (pt := 8) (pf := 101) (fun _ _ _ _ _ _ kt kf => ev_icmp_ne (tgt := 101) dX6_seekOrder_5 (by decide) kf kt) (fun h1 => ?_) (fun h1 => ?_)
  · refine ep_aload_n (q := 9) 0 dX6_seekOrder_8 rfl rfl rfl ?_
    refine ep_fresh (rest := []) (q := 12) e0 (okX6_fresh_f p) rfl calX6_fresh ml6_247 (by omega) rfl (Nat.le_of_ble_eq_true rfl) dX6_seekOrder_9 rfl (fun z2 obz2 yz2 _ mvz2 ez2 => ?_)
    refine ep_astore (lv' := [(4, .ref yz2), (0, .ref a0), (1, .int x1), (2, .int x2), (3, .int x3)]) (q := 14) dX6_seekOrder_12 (by decide) rfl rfl ?_
    refine ep_iconst (v := (0 : Int32)) (q := 15) dX6_seekOrder_14 (by decide) rfl ?_
    refine ep_istore (lv' := [(5, .int (0 : Int32)), (4, .ref yz2), (0, .ref a0), (1, .int x1), (2, .int x2), (3, .int x3)]) (q := 17) dX6_seekOrder_15 (by decide) rfl rfl ?_
    refine ep_sub (lv' := [(0, .ref a0), (1, .int x1), (3, .int x3), (4, .ref yz2), (5, .int (0 : Int32))]) [2, 3, 5, 1, 0] rfl ?_
    exact okX6_seekOrder_17 p hd1 hd2 self hself FU x1 x3 (0 : Int32) z2.2 obz2 a0 (mvz2 _ _ e0) yz2 ez2
  · refine ep_iconst (v := (0 : Int32)) (q := 102) dX6_seekOrder_101 (by decide) rfl ?_
    refine ep_istore (lv' := [(4, .int (0 : Int32)), (0, .ref a0), (1, .int x1), (2, .int x2), (3, .int x3)]) (q := 104) dX6_seekOrder_102 (by decide) rfl rfl ?_
    refine ep_sub (lv' := [(0, .ref a0), (1, .int x1), (2, .int x2), (3, .int x3), (4, .int (0 : Int32))]) [1, 2, 3, 4, 0] rfl ?_
    exact okX6_seekOrder_104 p hd1 hd2 self hself FU x1 x2 x3 (0 : Int32) t ob a0 e0
theorem okX6_seekOrder_b (p : List Nat) {d dself : Nat} (hd1 : dself + 1 ≤ d) (hd2 : 4 ≤ d) (self : List Nat → Int32 → Int32 → Int32 → TF → Option (Unit × TF)) (hself : ∀ (p : List Nat) (x1 : Int32) (x2 : Int32) (x3 : Int32), MtP dself mX6_seekOrder rwU p (fun a => [.ref a, .int x1, .int x2, .int x3]) (self p x1 x2 x3)) (x1 : Int32) (x2 : Int32) (x3 : Int32) : MtP d mX6_seekOrder rwU p (fun a => [.ref a, .int x1, .int x2, .int x3]) (fX6_seekOrder_b self p x1 x2 x3) := by
  refine MtP.of (by decide +kernel) rfl (fun _ => Nat.le_of_ble_eq_true rfl) (fun G X ob t h a e => ?_)
  refine ep_sub (lv := [(0, .ref a), (1, .int x1), (2, .int x2), (3, .int x3)]) (lv' := [(0, .ref a), (1, .int x1), (2, .int x2), (3, .int x3)]) [0, 1, 2, 3] rfl ?_
  exact okX6_seekOrder_0 p hd1 hd2 self hself x1 x2 x3 t ob a e
def fX6_seekOrder_r : Nat → List Nat → Int32 → Int32 → Int32 → TF → Option (Unit × TF)
  | 0 => fun _ _ _ _ _ => none
  | n + 1 => fX6_seekOrder_b (fX6_seekOrder_r n)
theorem okX6_seekOrder_r : ∀ (n : Nat) (p : List Nat) (x1 : Int32) (x2 : Int32) (x3 : Int32), MtP (4 + n) mX6_seekOrder rwU p (fun a => [.ref a, .int x1, .int x2, .int x3]) (fX6_seekOrder_r n p x1 x2 x3)
  | 0, _, _, _, _ => ⟨fun _ _ _ _ hf => (by cases hf), fun _ _ _ _ _ _ _ _ _ hf => (by cases hf)⟩
  | n + 1, p, x1, x2, x3 => okX6_seekOrder_b p (d := 4 + (n + 1)) (dself := 4 + n) (by omega) (by omega) (fX6_seekOrder_r n) (fun p x1 x2 x3 => okX6_seekOrder_r n p x1 x2 x3) x1 x2 x3
def fX6_seekOrder : List Nat → Int32 → Int32 → Int32 → TF → Option (Unit × TF) := fX6_seekOrder_r 5
theorem okX6_seekOrder (p : List Nat) (x1 : Int32) (x2 : Int32) (x3 : Int32) : MtP 9 mX6_seekOrder rwU p (fun a => [.ref a, .int x1, .int x2, .int x3]) (fX6_seekOrder p x1 x2 x3) := okX6_seekOrder_r 5 p x1 x2 x3
-- X6_order
theorem dX6_order_0 : decode cX6_order 0 = .ok (.iload_n 1, 1) := by decide +kernel
theorem dX6_order_1 : decode cX6_order 1 = .ok (.i2l, 1) := by decide +kernel
theorem dX6_order_2 : decode cX6_order 2 = .ok (.lconst 0, 1) := by decide +kernel
theorem dX6_order_3 : decode cX6_order 3 = .ok (.ldc2_w 338, 3) := by decide +kernel
theorem dX6_order_6 : decode cX6_order 6 = .ok (.invokestatic 89, 3) := by decide +kernel
theorem dX6_order_9 : decode cX6_order 9 = .ok (.ifCond .eq 8, 3) := by decide +kernel
theorem dX6_order_12 : decode cX6_order 12 = .ok (.iload_n 2, 1) := by decide +kernel
theorem dX6_order_13 : decode cX6_order 13 = .ok (.iconst (-1), 1) := by decide +kernel
theorem dX6_order_14 : decode cX6_order 14 = .ok (.if_icmp .ge 10, 3) := by decide +kernel
theorem dX6_order_17 : decode cX6_order 17 = .ok (.aload_n 0, 1) := by decide +kernel
theorem dX6_order_18 : decode cX6_order 18 = .ok (.bipush (-2), 2) := by decide +kernel
theorem dX6_order_20 : decode cX6_order 20 = .ok (.invokevirtual 102, 3) := by decide +kernel
theorem dX6_order_23 : decode cX6_order 23 = .ok (.ireturn, 1) := by decide +kernel
theorem dX6_order_24 : decode cX6_order 24 = .ok (.iload_n 2, 1) := by decide +kernel
theorem dX6_order_25 : decode cX6_order 25 = .ok (.aload_n 0, 1) := by decide +kernel
theorem dX6_order_26 : decode cX6_order 26 = .ok (.getfield 93, 3) := by decide +kernel
theorem dX6_order_29 : decode cX6_order 29 = .ok (.if_icmp .lt 10, 3) := by decide +kernel
theorem dX6_order_32 : decode cX6_order 32 = .ok (.aload_n 0, 1) := by decide +kernel
theorem dX6_order_33 : decode cX6_order 33 = .ok (.bipush (-5), 2) := by decide +kernel
theorem dX6_order_35 : decode cX6_order 35 = .ok (.invokevirtual 102, 3) := by decide +kernel
theorem dX6_order_38 : decode cX6_order 38 = .ok (.ireturn, 1) := by decide +kernel
theorem dX6_order_39 : decode cX6_order 39 = .ok (.aload_n 0, 1) := by decide +kernel
theorem dX6_order_40 : decode cX6_order 40 = .ok (.iconst (-1), 1) := by decide +kernel
theorem dX6_order_41 : decode cX6_order 41 = .ok (.putfield 361, 3) := by decide +kernel
theorem dX6_order_44 : decode cX6_order 44 = .ok (.aload_n 0, 1) := by decide +kernel
theorem dX6_order_45 : decode cX6_order 45 = .ok (.iconst 0, 1) := by decide +kernel
theorem dX6_order_46 : decode cX6_order 46 = .ok (.iconst 0, 1) := by decide +kernel
theorem dX6_order_47 : decode cX6_order 47 = .ok (.iload_n 1, 1) := by decide +kernel
theorem dX6_order_48 : decode cX6_order 48 = .ok (.invokevirtual 364, 3) := by decide +kernel
theorem dX6_order_51 : decode cX6_order 51 = .ok (.iload_n 2, 1) := by decide +kernel
theorem dX6_order_52 : decode cX6_order 52 = .ok (.iconst (-1), 1) := by decide +kernel
theorem dX6_order_53 : decode cX6_order 53 = .ok (.if_icmp .ne 10, 3) := by decide +kernel
theorem dX6_order_56 : decode cX6_order 56 = .ok (.aload_n 0, 1) := by decide +kernel
theorem dX6_order_57 : decode cX6_order 57 = .ok (.getfield 361, 3) := by decide +kernel
theorem dX6_order_60 : decode cX6_order 60 = .ok (.goto 9, 3) := by decide +kernel
theorem dX6_order_63 : decode cX6_order 63 = .ok (.aload_n 0, 1) := by decide +kernel
theorem dX6_order_64 : decode cX6_order 64 = .ok (.getfield 83, 3) := by decide +kernel
theorem dX6_order_67 : decode cX6_order 67 = .ok (.iload_n 2, 1) := by decide +kernel
theorem dX6_order_68 : decode cX6_order 68 = .ok (.iaload, 1) := by decide +kernel
theorem dX6_order_69 : decode cX6_order 69 = .ok (.ireturn, 1) := by decide +kernel
def fX6_order_17 (p : List Nat) (t : TF) : Option (Int32 × TF) := ((fX6_refuse (-2 : Int32) (t.2 p)).bind fun z1 => some (z1.1, wrT t p z1.2))
def fX6_order_0 (p : List Nat) (x1 : Int32) (x2 : Int32) (t : TF) : Option (Int32 × TF) := ((fX6_in x1.toInt64 (0 : Int64) (200 : Int64) (t.2 p)).bind fun z1 => if z1.1 = 0 then (fX6_order_17 p t) else (if (-1 : Int32) ≤ x2 then (if x2 < ((t.2 p).1 0 10) then (((fX6_seekOrder p (0 : Int32) (0 : Int32) x1 (wTI t p 0 44 (-1 : Int32))).bind fun z5 => if x2 = (-1 : Int32) then (some ((z5.2.2 p).1 0 44, z5.2)) else (if ixB x2 3 then (some ((z5.2.2 p).1 32 x2.toNatClampNeg, z5.2)) else none))) else (((fX6_refuse (-5 : Int32) (t.2 p)).bind fun z8 => some (z8.1, wrT t p z8.2)))) else (fX6_order_17 p t)))
def fX6_order (p : List Nat) (x1 : Int32) (x2 : Int32) (t : TF) : Option (Int32 × TF) := fX6_order_0 p x1 x2 t
set_option maxRecDepth 100000 in
set_option maxHeartbeats 4000000 in
theorem okX6_order_17 {G : GG} {X : Nat → Prop} {ob0 : List Nat → Nat} {t0 : TF} {h00 : PH} (p : List Nat) (t : TF) (ob : List Nat → Nat) (a0 : Nat) (e0 : AtF ob t (p) a0) : EvP G 10 mX6_order X ob0 t0 h00 rwI (fX6_order_17 p t) 17 [(0, .ref a0)] [] t ob := by
  unfold fX6_order_17
  refine ep_aload_n (q := 18) 0 dX6_order_17 rfl rfl rfl ?_
  refine ep_bipush (v := (-2 : Int32)) (q := 20) dX6_order_18 (by decide) rfl ?_
  refine ep_invVI1 (As := [.int (-2 : Int32)]) (rest := []) (q := 23) e0 (okX6_refuse (-2 : Int32)) rfl calX6_refuse ml6_102 (by decide) rfl rfl (Nat.le_of_ble_eq_true rfl) dX6_order_20 rfl (fun z1 => ?_)
  exact ep_iret rfl dX6_order_23
set_option maxRecDepth 100000 in
set_option maxHeartbeats 4000000 in
theorem okX6_order_0 {G : GG} {X : Nat → Prop} {ob0 : List Nat → Nat} {t0 : TF} {h00 : PH} (p : List Nat) (x1 : Int32) (x2 : Int32) (t : TF) (ob : List Nat → Nat) (a0 : Nat) (e0 : AtF ob t (p) a0) : EvP G 10 mX6_order X ob0 t0 h00 rwI (fX6_order_0 p x1 x2 t) 0 [(0, .ref a0), (1, .int x1), (2, .int x2)] [] t ob := by
  unfold fX6_order_0
  refine ep_iload_n (q := 1) 1 dX6_order_0 rfl rfl rfl ?_
  refine ep_i2l (v := x1.toInt64) (q := 2) dX6_order_1 rfl rfl ?_
  refine ep_lconst (v := (0 : Int64)) (q := 3) dX6_order_2 (by decide) rfl ?_
  refine ep_ldc2 (v := (200 : Int64)) (q := 6) k6_338 dX6_order_3 rfl ?_
  refine ep_invPI (s := t.2 p) (As := [.long x1.toInt64, .long (0 : Int64), .long (200 : Int64)]) (rest := []) (q := 9) (okX6_in x1.toInt64 (0 : Int64) (200 : Int64)) rfl calX6_in ml6_89 (by decide) rfl rfl (Nat.le_of_ble_eq_true rfl) dX6_order_6 rfl (fun z1 => ?_)
  refine ep_if (pt := 17) (pf := 12) (fun _ _ _ _ _ _ => ev_if_eq (tgt := 17) dX6_order_9 (by decide)) (fun h2 => ?_) (fun h2 => ?_)
  · refine ep_sub (lv' := [(0, .ref a0)]) [0] rfl ?_
    exact okX6_order_17 p t ob a0 e0
  · refine ep_iload_n (q := 13) 2 dX6_order_12 rfl rfl rfl ?_
    refine ep_iconst (v := (-1 : Int32)) (q := 14) dX6_order_13 (by decide) rfl ?_
    refine ep_if (pt := 24) (pf := 17) (fun _ _ _ _ _ _ => ev_icmp_ge (tgt := 24) dX6_order_14 (by decide)) (fun h3 => ?_) (fun h3 => ?_)
    · refine ep_iload_n (q := 25) 2 dX6_order_24 rfl rfl rfl ?_
      refine ep_aload_n (q := 26) 0 dX6_order_25 rfl rfl rfl ?_
      refine ep_getI (x := (t.2 p).1 0 10) (q := 29) e0 fl6_93 rfl rfl dX6_order_26 rfl ?_
      refine ep_if (pt := 39) (pf := 32) (fun _ _ _ _ _ _ => ev_icmp_lt (tgt := 39) dX6_order_29 (by decide)) (fun h4 => ?_) (fun h4 => ?_)
      · refine ep_aload_n (q := 40) 0 dX6_order_39 rfl rfl rfl ?_
        refine ep_iconst (v := (-1 : Int32)) (q := 41) dX6_order_40 (by decide) rfl ?_
        refine ep_putI (q := 44) e0 fl6_361 rfl rfl dX6_order_41 rfl ?_
        refine ep_aload_n (q := 45) 0 dX6_order_44 rfl rfl rfl ?_
        refine ep_iconst (v := (0 : Int32)) (q := 46) dX6_order_45 (by decide) rfl ?_
        refine ep_iconst (v := (0 : Int32)) (q := 47) dX6_order_46 (by decide) rfl ?_
        refine ep_iload_n (q := 48) 1 dX6_order_47 rfl rfl rfl ?_
        refine ep_invVUP (As := [.int (0 : Int32), .int (0 : Int32), .int x1]) (rest := []) (q := 51) e0 (okX6_seekOrder p (0 : Int32) (0 : Int32) x1) rfl calX6_seekOrder ml6_364 (by decide) rfl rfl (Nat.le_of_ble_eq_true rfl) dX6_order_48 rfl (fun z5 obz5 _ mvz5 => ?_)
        refine ep_iload_n (q := 52) 2 dX6_order_51 rfl rfl rfl ?_
        refine ep_iconst (v := (-1 : Int32)) (q := 53) dX6_order_52 (by decide) rfl ?_
        refine ep_if (pt := 56) (pf := 63) (fun _ _ _ _ _ _ kt kf => ev_icmp_ne (tgt := 63) dX6_order_53 (by decide) kf kt) (fun h6 => ?_) (fun h6 => ?_)
        · refine ep_aload_n (q := 57) 0 dX6_order_56 rfl rfl rfl ?_
          refine ep_getI (x := (z5.2.2 p).1 0 44) (q := 60) (mvz5 _ _ e0) fl6_361 rfl rfl dX6_order_57 rfl ?_
          refine ep_goto (tgt := 69) dX6_order_60 (by decide) ?_
          exact ep_iret rfl dX6_order_69
        · refine ep_aload_n (q := 64) 0 dX6_order_63 rfl rfl rfl ?_
          refine ep_getR (k := 32) (q := 67) (mvz5 _ _ e0) fl6_83 rfl rfl rfl dX6_order_64 rfl ?_
          refine ep_iload_n (q := 68) 2 dX6_order_67 rfl rfl rfl ?_
          refine ep_guard (fun g7 => ?_)
          refine ep_iaload (x := (z5.2.2 p).1 32 x2.toNatClampNeg) (q := 69) (mvz5 _ _ e0) rfl g7 dX6_order_68 rfl rfl ?_
          exact ep_iret rfl dX6_order_69
      · refine ep_aload_n (q := 33) 0 dX6_order_32 rfl rfl rfl ?_
        refine ep_bipush (v := (-5 : Int32)) (q := 35) dX6_order_33 (by decide) rfl ?_
        refine ep_invVI1 (As := [.int (-5 : Int32)]) (rest := []) (q := 38) e0 (okX6_refuse (-5 : Int32)) rfl calX6_refuse ml6_102 (by decide) rfl rfl (Nat.le_of_ble_eq_true rfl) dX6_order_35 rfl (fun z8 => ?_)
        exact ep_iret rfl dX6_order_38
    · refine ep_sub (lv' := [(0, .ref a0)]) [0] rfl ?_
      exact okX6_order_17 p t ob a0 e0
theorem okX6_order (p : List Nat) (x1 : Int32) (x2 : Int32) : MtP 10 mX6_order rwI p (fun a => [.ref a, .int x1, .int x2]) (fX6_order p x1 x2) := by
  refine MtP.of (by decide +kernel) rfl (fun _ => Nat.le_of_ble_eq_true rfl) (fun G X ob t h a e => ?_)
  refine ep_sub (lv := [(0, .ref a), (1, .int x1), (2, .int x2)]) (lv' := [(0, .ref a), (1, .int x1), (2, .int x2)]) [0, 1, 2] rfl ?_
  exact okX6_order_0 p x1 x2 t ob a e
-- X6_shade
theorem dX6_shade_0 : decode cX6_shade 0 = .ok (.iload_n 1, 1) := by decide +kernel
theorem dX6_shade_1 : decode cX6_shade 1 = .ok (.i2l, 1) := by decide +kernel
theorem dX6_shade_2 : decode cX6_shade 2 = .ok (.lconst 0, 1) := by decide +kernel
theorem dX6_shade_3 : decode cX6_shade 3 = .ok (.ldc2_w 338, 3) := by decide +kernel
theorem dX6_shade_6 : decode cX6_shade 6 = .ok (.invokestatic 89, 3) := by decide +kernel
theorem dX6_shade_9 : decode cX6_shade 9 = .ok (.ifCond .ne 10, 3) := by decide +kernel
theorem dX6_shade_12 : decode cX6_shade 12 = .ok (.aload_n 0, 1) := by decide +kernel
theorem dX6_shade_13 : decode cX6_shade 13 = .ok (.bipush (-2), 2) := by decide +kernel
theorem dX6_shade_15 : decode cX6_shade 15 = .ok (.invokevirtual 102, 3) := by decide +kernel
theorem dX6_shade_18 : decode cX6_shade 18 = .ok (.ireturn, 1) := by decide +kernel
theorem dX6_shade_19 : decode cX6_shade 19 = .ok (.iconst (-1), 1) := by decide +kernel
theorem dX6_shade_20 : decode cX6_shade 20 = .ok (.istore_n 2, 1) := by decide +kernel
theorem dX6_shade_21 : decode cX6_shade 21 = .ok (.iconst 0, 1) := by decide +kernel
theorem dX6_shade_22 : decode cX6_shade 22 = .ok (.istore_n 3, 1) := by decide +kernel
theorem dX6_shade_23 : decode cX6_shade 23 = .ok (.iconst 0, 1) := by decide +kernel
theorem dX6_shade_24 : decode cX6_shade 24 = .ok (.istore 4, 2) := by decide +kernel
theorem dX6_shade_26 : decode cX6_shade 26 = .ok (.iload 4, 2) := by decide +kernel
theorem dX6_shade_28 : decode cX6_shade 28 = .ok (.aload_n 0, 1) := by decide +kernel
theorem dX6_shade_29 : decode cX6_shade 29 = .ok (.getfield 37, 3) := by decide +kernel
theorem dX6_shade_32 : decode cX6_shade 32 = .ok (.if_icmp .ge 51, 3) := by decide +kernel
theorem dX6_shade_35 : decode cX6_shade 35 = .ok (.aload_n 0, 1) := by decide +kernel
theorem dX6_shade_36 : decode cX6_shade 36 = .ok (.invokevirtual 247, 3) := by decide +kernel
theorem dX6_shade_39 : decode cX6_shade 39 = .ok (.astore 5, 2) := by decide +kernel
theorem dX6_shade_41 : decode cX6_shade 41 = .ok (.aload 5, 2) := by decide +kernel
theorem dX6_shade_43 : decode cX6_shade 43 = .ok (.iload 4, 2) := by decide +kernel
theorem dX6_shade_45 : decode cX6_shade 45 = .ok (.putfield 126, 3) := by decide +kernel
theorem dX6_shade_48 : decode cX6_shade 48 = .ok (.aload 5, 2) := by decide +kernel
theorem dX6_shade_50 : decode cX6_shade 50 = .ok (.iload_n 1, 1) := by decide +kernel
theorem dX6_shade_51 : decode cX6_shade 51 = .ok (.invokevirtual 335, 3) := by decide +kernel
theorem dX6_shade_54 : decode cX6_shade 54 = .ok (.iload_n 2, 1) := by decide +kernel
theorem dX6_shade_55 : decode cX6_shade 55 = .ok (.iconst (-1), 1) := by decide +kernel
theorem dX6_shade_56 : decode cX6_shade 56 = .ok (.if_icmp .eq 12, 3) := by decide +kernel
theorem dX6_shade_59 : decode cX6_shade 59 = .ok (.aload 5, 2) := by decide +kernel
theorem dX6_shade_61 : decode cX6_shade 61 = .ok (.getfield 283, 3) := by decide +kernel
theorem dX6_shade_64 : decode cX6_shade 64 = .ok (.iload_n 3, 1) := by decide +kernel
theorem dX6_shade_65 : decode cX6_shade 65 = .ok (.if_icmp .ge 12, 3) := by decide +kernel
theorem dX6_shade_68 : decode cX6_shade 68 = .ok (.iload 4, 2) := by decide +kernel
theorem dX6_shade_70 : decode cX6_shade 70 = .ok (.istore_n 2, 1) := by decide +kernel
theorem dX6_shade_71 : decode cX6_shade 71 = .ok (.aload 5, 2) := by decide +kernel
theorem dX6_shade_73 : decode cX6_shade 73 = .ok (.getfield 283, 3) := by decide +kernel
theorem dX6_shade_76 : decode cX6_shade 76 = .ok (.istore_n 3, 1) := by decide +kernel
theorem dX6_shade_77 : decode cX6_shade 77 = .ok (.iinc 4 1, 3) := by decide +kernel
theorem dX6_shade_80 : decode cX6_shade 80 = .ok (.goto (-54), 3) := by decide +kernel
theorem dX6_shade_83 : decode cX6_shade 83 = .ok (.iload_n 2, 1) := by decide +kernel
theorem dX6_shade_84 : decode cX6_shade 84 = .ok (.ireturn, 1) := by decide +kernel
def fX6_shade_68 (p : List Nat) (rec_26 : Int32 → Int32 → Int32 → Int32 → TF → Option (Int32 × TF)) (x1 : Int32) (x4 : Int32) (t : TF) : Option (Int32 × TF) := rec_26 x1 x4 ((t.2 (9 :: p)).1 0 19) (x4 + (1 : Int32)) t
def fX6_shade_26 (p : List Nat) : Nat → Int32 → Int32 → Int32 → Int32 → TF → Option (Int32 × TF)
  | 0, _, _, _, _, _ => none
  | n + 1, x1, x2, x3, x4, t => if ((t.2 p).1 0 9) ≤ x4 then (some (x2, t)) else (((fX6_fresh p t).bind fun z2 => ((fX6_stands x1 ((wTI z2.2 (9 :: p) 0 15 x4).2 (9 :: p))).bind fun z3 => if x2 = (-1 : Int32) then (fX6_shade_68 p (fX6_shade_26 p n) x1 x4 (wrT (wTI z2.2 (9 :: p) 0 15 x4) (9 :: p) z3.2)) else (if x3 ≤ (((wrT (wTI z2.2 (9 :: p) 0 15 x4) (9 :: p) z3.2).2 (9 :: p)).1 0 19) then (fX6_shade_26 p n x1 x2 x3 (x4 + (1 : Int32)) (wrT (wTI z2.2 (9 :: p) 0 15 x4) (9 :: p) z3.2)) else (fX6_shade_68 p (fX6_shade_26 p n) x1 x4 (wrT (wTI z2.2 (9 :: p) 0 15 x4) (9 :: p) z3.2))))))
def fX6_shade_0 (p : List Nat) (x1 : Int32) (t : TF) : Option (Int32 × TF) := ((fX6_in x1.toInt64 (0 : Int64) (200 : Int64) (t.2 p)).bind fun z1 => if z1.1 = 0 then (((fX6_refuse (-2 : Int32) (t.2 p)).bind fun z3 => some (z3.1, wrT t p z3.2))) else (fX6_shade_26 p FU x1 (-1 : Int32) (0 : Int32) (0 : Int32) t))
def fX6_shade (p : List Nat) (x1 : Int32) (t : TF) : Option (Int32 × TF) := fX6_shade_0 p x1 t
set_option maxRecDepth 100000 in
set_option maxHeartbeats 4000000 in
theorem okX6_shade_68 {G : GG} {X : Nat → Prop} {ob0 : List Nat → Nat} {t0 : TF} {h00 : PH} (p : List Nat) (rec_26 : Int32 → Int32 → Int32 → Int32 → TF → Option (Int32 × TF)) (hrec_26 : ∀ (x1 : Int32) (x2 : Int32) (x3 : Int32) (x4 : Int32) (t : TF) (ob : List Nat → Nat) (a0 : Nat) (e0 : AtF ob t (p) a0), EvP G 4 mX6_shade X ob0 t0 h00 rwI (rec_26 x1 x2 x3 x4 t) 26 [(0, .ref a0), (1, .int x1), (2, .int x2), (3, .int x3), (4, .int x4)] [] t ob) (x1 : Int32) (x4 : Int32) (t : TF) (ob : List Nat → Nat) (a0 : Nat) (e0 : AtF ob t (p) a0) (a1 : Nat) (e1 : AtF ob t (9 :: p) a1) : EvP G 4 mX6_shade X ob0 t0 h00 rwI (fX6_shade_68 p rec_26 x1 x4 t) 68 [(0, .ref a0), (1, .int x1), (4, .int x4), (5, .ref a1)] [] t ob := by
  unfold fX6_shade_68
  refine ep_iload (q := 70) 2 dX6_shade_68 rfl rfl ?_
  refine ep_istore_n (lv' := [(2, .int x4), (0, .ref a0), (1, .int x1), (4, .int x4), (5, .ref a1)]) (q := 71) dX6_shade_70 rfl (by decide) rfl rfl ?_
  refine ep_aload (q := 73) 4 dX6_shade_71 rfl rfl ?_
  refine ep_getI (x := (t.2 (9 :: p)).1 0 19) (q := 76) e1 fl6_283 rfl rfl dX6_shade_73 rfl ?_
  refine ep_istore_n (lv' := [(3, .int ((t.2 (9 :: p)).1 0 19)), (2, .int x4), (0, .ref a0), (1, .int x1), (4, .int x4), (5, .ref a1)]) (q := 77) dX6_shade_76 rfl (by decide) rfl rfl ?_
  refine ep_iinc (v := x4 + (1 : Int32)) (lv' := [(4, .int (x4 + (1 : Int32))), (3, .int ((t.2 (9 :: p)).1 0 19)), (2, .int x4), (0, .ref a0), (1, .int x1), (5, .ref a1)]) (q := 80) 4 dX6_shade_77 rfl rfl (by decide) rfl rfl ?_
  refine ep_goto (tgt := 26) dX6_shade_80 (by decide) ?_
  refine ep_sub (lv' := [(0, .ref a0), (1, .int x1), (2, .int x4), (3, .int ((t.2 (9 :: p)).1 0 19)), (4, .int (x4 + (1 : Int32)))]) [3, 4, 2, 1, 0] rfl ?_
  exact hrec_26 x1 x4 ((t.2 (9 :: p)).1 0 19) (x4 + (1 : Int32)) t ob a0 e0
set_option maxRecDepth 100000 in
set_option maxHeartbeats 4000000 in
theorem okX6_shade_26 {G : GG} {X : Nat → Prop} {ob0 : List Nat → Nat} {t0 : TF} {h00 : PH} (p : List Nat) : ∀ (n : Nat) (x1 : Int32) (x2 : Int32) (x3 : Int32) (x4 : Int32) (t : TF) (ob : List Nat → Nat) (a0 : Nat) (e0 : AtF ob t (p) a0), EvP G 4 mX6_shade X ob0 t0 h00 rwI (fX6_shade_26 p n x1 x2 x3 x4 t) 26 [(0, .ref a0), (1, .int x1), (2, .int x2), (3, .int x3), (4, .int x4)] [] t ob := by
  intro n
  induction n with
  | zero => intro x1 x2 x3 x4 t ob a0 e0; rw [fX6_shade_26]; exact ep_none
  | succ n ih =>
    intro x1 x2 x3 x4 t ob a0 e0
    rw [fX6_shade_26]
    refine ep_iload (q := 28) 4 dX6_shade_26 rfl rfl ?_
    refine ep_aload_n (q := 29) 0 dX6_shade_28 rfl rfl rfl ?_
    refine ep_getI (x := (t.2 p).1 0 9) (q := 32) e0 fl6_37 rfl rfl dX6_shade_29 rfl ?_
    refine ep_if (pt := 83) (pf := 35) (fun _ _ _ _ _ _ => ev_icmp_ge (tgt := 83) dX6_shade_32 (by decide)) (fun h1 => ?_) (fun h1 => ?_)
    · refine ep_iload_n (q := 84) 2 dX6_shade_83 rfl rfl rfl ?_
      exact ep_iret rfl dX6_shade_84
    · refine ep_aload_n (q := 36) 0 dX6_shade_35 rfl rfl rfl ?_
      refine ep_fresh (rest := []) (q := 39) e0 (okX6_fresh_f p) rfl calX6_fresh ml6_247 (by decide) rfl (Nat.le_of_ble_eq_true rfl) dX6_shade_36 rfl (fun z2 obz2 yz2 _ mvz2 ez2 => ?_)
      refine ep_astore (lv' := [(5, .ref yz2), (0, .ref a0), (1, .int x1), (2, .int x2), (3, .int x3), (4, .int x4)]) (q := 41) dX6_shade_39 (by decide) rfl rfl ?_
      refine ep_aload (q := 43) 0 dX6_shade_41 rfl rfl ?_
      refine ep_iload (q := 45) 5 dX6_shade_43 rfl rfl ?_
      refine ep_putI (q := 48) ez2 fl6_126 rfl rfl dX6_shade_45 rfl ?_
      refine ep_aload (q := 50) 0 dX6_shade_48 rfl rfl ?_
      refine ep_iload_n (q := 51) 2 dX6_shade_50 rfl rfl rfl ?_
      refine ep_invVU1 (As := [.int x1]) (rest := []) (q := 54) ez2 (okX6_stands x1) rfl calX6_stands ml6_335 (by decide) rfl rfl (Nat.le_of_ble_eq_true rfl) dX6_shade_51 rfl (fun z3 => ?_)
      refine ep_iload_n (q := 55) 3 dX6_shade_54 rfl rfl rfl ?_
      refine ep_iconst (v := (-1 : Int32)) (q := 56) dX6_shade_55 (by decide) rfl ?_
      refine ep_if (pt := 68) (pf := 59) (fun _ _ _ _ _ _ => ev_icmp_eq (tgt := 68) dX6_shade_56 (by decide)) (fun h4 => ?_) (fun h4 => ?_)
      · refine ep_sub (lv' := [(0, .ref a0), (1, .int x1), (4, .int x4), (5, .ref yz2)]) [1, 2, 5, 0] rfl ?_
        exact okX6_shade_68 p (fX6_shade_26 p n) ih x1 x4 (wrT (wTI z2.2 (9 :: p) 0 15 x4) (9 :: p) z3.2) obz2 a0 (mvz2 _ _ e0) yz2 ez2
      · refine ep_aload (q := 61) 0 dX6_shade_59 rfl rfl ?_
        refine ep_getI (x := ((wrT (wTI z2.2 (9 :: p) 0 15 x4) (9 :: p) z3.2).2 (9 :: p)).1 0 19) (q := 64) ez2 fl6_283 rfl rfl dX6_shade_61 rfl ?_
        refine ep_iload_n (q := 65) 4 dX6_shade_64 rfl rfl rfl ?_
        refine ep_if (pt := 77) (pf := 68) (fun _ _ _ _ _ _ => ev_icmp_ge (tgt := 77) dX6_shade_65 (by decide)) (fun h5 => ?_) (fun h5 => ?_)
        · refine ep_iinc (v := x4 + (1 : Int32)) (lv' := [(4, .int (x4 + (1 : Int32))), (5, .ref yz2), (0, .ref a0), (1, .int x1), (2, .int x2), (3, .int x3)]) (q := 80) 5 dX6_shade_77 rfl rfl (by decide) rfl rfl ?_
          refine ep_goto (tgt := 26) dX6_shade_80 (by decide) ?_
          refine ep_sub (lv' := [(0, .ref a0), (1, .int x1), (2, .int x2), (3, .int x3), (4, .int (x4 + (1 : Int32)))]) [2, 3, 4, 5, 0] rfl ?_
          exact ih x1 x2 x3 (x4 + (1 : Int32)) (wrT (wTI z2.2 (9 :: p) 0 15 x4) (9 :: p) z3.2) obz2 a0 (mvz2 _ _ e0)
        · refine ep_sub (lv' := [(0, .ref a0), (1, .int x1), (4, .int x4), (5, .ref yz2)]) [1, 2, 5, 0] rfl ?_
          exact okX6_shade_68 p (fX6_shade_26 p n) ih x1 x4 (wrT (wTI z2.2 (9 :: p) 0 15 x4) (9 :: p) z3.2) obz2 a0 (mvz2 _ _ e0) yz2 ez2
set_option maxRecDepth 100000 in
set_option maxHeartbeats 4000000 in
theorem okX6_shade_0 {G : GG} {X : Nat → Prop} {ob0 : List Nat → Nat} {t0 : TF} {h00 : PH} (p : List Nat) (x1 : Int32) (t : TF) (ob : List Nat → Nat) (a0 : Nat) (e0 : AtF ob t (p) a0) : EvP G 4 mX6_shade X ob0 t0 h00 rwI (fX6_shade_0 p x1 t) 0 [(0, .ref a0), (1, .int x1)] [] t ob := by
  unfold fX6_shade_0
  refine ep_iload_n (q := 1) 1 dX6_shade_0 rfl rfl rfl ?_
  refine ep_i2l (v := x1.toInt64) (q := 2) dX6_shade_1 rfl rfl ?_
  refine ep_lconst (v := (0 : Int64)) (q := 3) dX6_shade_2 (by decide) rfl ?_
  refine ep_ldc2 (v := (200 : Int64)) (q := 6) k6_338 dX6_shade_3 rfl ?_
  refine ep_invPI (s := t.2 p) (As := [.long x1.toInt64, .long (0 : Int64), .long (200 : Int64)]) (rest := []) (q := 9) (okX6_in x1.toInt64 (0 : Int64) (200 : Int64)) rfl calX6_in ml6_89 (by decide) rfl rfl (Nat.le_of_ble_eq_true rfl) dX6_shade_6 rfl (fun z1 => ?_)
  refine ep_if (pt := 12) (pf := 19) (fun _ _ _ _ _ _ kt kf => ev_if_ne (tgt := 19) dX6_shade_9 (by decide) kf kt) (fun h2 => ?_) (fun h2 => ?_)
  · refine ep_aload_n (q := 13) 0 dX6_shade_12 rfl rfl rfl ?_
    refine ep_bipush (v := (-2 : Int32)) (q := 15) dX6_shade_13 (by decide) rfl ?_
    refine ep_invVI1 (As := [.int (-2 : Int32)]) (rest := []) (q := 18) e0 (okX6_refuse (-2 : Int32)) rfl calX6_refuse ml6_102 (by decide) rfl rfl (Nat.le_of_ble_eq_true rfl) dX6_shade_15 rfl (fun z3 => ?_)
    exact ep_iret rfl dX6_shade_18
  · refine ep_iconst (v := (-1 : Int32)) (q := 20) dX6_shade_19 (by decide) rfl ?_
    refine ep_istore_n (lv' := [(2, .int (-1 : Int32)), (0, .ref a0), (1, .int x1)]) (q := 21) dX6_shade_20 rfl (by decide) rfl rfl ?_
    refine ep_iconst (v := (0 : Int32)) (q := 22) dX6_shade_21 (by decide) rfl ?_
    refine ep_istore_n (lv' := [(3, .int (0 : Int32)), (2, .int (-1 : Int32)), (0, .ref a0), (1, .int x1)]) (q := 23) dX6_shade_22 rfl (by decide) rfl rfl ?_
    refine ep_iconst (v := (0 : Int32)) (q := 24) dX6_shade_23 (by decide) rfl ?_
    refine ep_istore (lv' := [(4, .int (0 : Int32)), (3, .int (0 : Int32)), (2, .int (-1 : Int32)), (0, .ref a0), (1, .int x1)]) (q := 26) dX6_shade_24 (by decide) rfl rfl ?_
    refine ep_sub (lv' := [(0, .ref a0), (1, .int x1), (2, .int (-1 : Int32)), (3, .int (0 : Int32)), (4, .int (0 : Int32))]) [3, 4, 2, 1, 0] rfl ?_
    exact okX6_shade_26 p FU x1 (-1 : Int32) (0 : Int32) (0 : Int32) t ob a0 e0
theorem okX6_shade (p : List Nat) (x1 : Int32) : MtP 4 mX6_shade rwI p (fun a => [.ref a, .int x1]) (fX6_shade p x1) := by
  refine MtP.of (by decide +kernel) rfl (fun _ => Nat.le_of_ble_eq_true rfl) (fun G X ob t h a e => ?_)
  refine ep_sub (lv := [(0, .ref a), (1, .int x1)]) (lv' := [(0, .ref a), (1, .int x1)]) [0, 1] rfl ?_
  exact okX6_shade_0 p x1 t ob a e
-- X6_gives
theorem dX6_gives_0 : decode cX6_gives 0 = .ok (.aload_n 0, 1) := by decide +kernel
theorem dX6_gives_1 : decode cX6_gives 1 = .ok (.invokevirtual 247, 3) := by decide +kernel
theorem dX6_gives_4 : decode cX6_gives 4 = .ok (.astore_n 1, 1) := by decide +kernel
theorem dX6_gives_5 : decode cX6_gives 5 = .ok (.iconst 0, 1) := by decide +kernel
theorem dX6_gives_6 : decode cX6_gives 6 = .ok (.istore_n 2, 1) := by decide +kernel
theorem dX6_gives_7 : decode cX6_gives 7 = .ok (.iload_n 2, 1) := by decide +kernel
theorem dX6_gives_8 : decode cX6_gives 8 = .ok (.sipush 200, 3) := by decide +kernel
theorem dX6_gives_11 : decode cX6_gives 11 = .ok (.if_icmp .gt 30, 3) := by decide +kernel
theorem dX6_gives_14 : decode cX6_gives 14 = .ok (.aload_n 1, 1) := by decide +kernel
theorem dX6_gives_15 : decode cX6_gives 15 = .ok (.getfield 286, 3) := by decide +kernel
theorem dX6_gives_18 : decode cX6_gives 18 = .ok (.aload_n 0, 1) := by decide +kernel
theorem dX6_gives_19 : decode cX6_gives 19 = .ok (.getfield 55, 3) := by decide +kernel
theorem dX6_gives_22 : decode cX6_gives 22 = .ok (.iconst 3, 1) := by decide +kernel
theorem dX6_gives_23 : decode cX6_gives 23 = .ok (.iaload, 1) := by decide +kernel
theorem dX6_gives_24 : decode cX6_gives 24 = .ok (.if_icmp .lt 5, 3) := by decide +kernel
theorem dX6_gives_27 : decode cX6_gives 27 = .ok (.iload_n 2, 1) := by decide +kernel
theorem dX6_gives_28 : decode cX6_gives 28 = .ok (.ireturn, 1) := by decide +kernel
theorem dX6_gives_29 : decode cX6_gives 29 = .ok (.aload_n 1, 1) := by decide +kernel
theorem dX6_gives_30 : decode cX6_gives 30 = .ok (.iconst 0, 1) := by decide +kernel
theorem dX6_gives_31 : decode cX6_gives 31 = .ok (.iconst 0, 1) := by decide +kernel
theorem dX6_gives_32 : decode cX6_gives 32 = .ok (.invokevirtual 212, 3) := by decide +kernel
theorem dX6_gives_35 : decode cX6_gives 35 = .ok (.iinc 2 1, 3) := by decide +kernel
theorem dX6_gives_38 : decode cX6_gives 38 = .ok (.goto (-31), 3) := by decide +kernel
theorem dX6_gives_41 : decode cX6_gives 41 = .ok (.iconst (-1), 1) := by decide +kernel
theorem dX6_gives_42 : decode cX6_gives 42 = .ok (.ireturn, 1) := by decide +kernel
def fX6_gives_7 (p : List Nat) : Nat → Int32 → TF → Option (Int32 × TF)
  | 0, _, _ => none
  | n + 1, x2, t => if (200 : Int32) < x2 then (some ((-1 : Int32), t)) else (if ((t.2 (9 :: p)).1 0 21) < ((t.2 p).1 24 3) then (((fX6_goes (0 : Int32) (0 : Int32) (t.2 (9 :: p))).bind fun z3 => fX6_gives_7 p n (x2 + (1 : Int32)) (wrT t (9 :: p) z3.2))) else (some (x2, t)))
def fX6_gives_0 (p : List Nat) (t : TF) : Option (Int32 × TF) := ((fX6_fresh p t).bind fun z1 => fX6_gives_7 p FU (0 : Int32) z1.2)
def fX6_gives (p : List Nat) (t : TF) : Option (Int32 × TF) := fX6_gives_0 p t
set_option maxRecDepth 100000 in
set_option maxHeartbeats 4000000 in
theorem okX6_gives_7 {G : GG} {X : Nat → Prop} {ob0 : List Nat → Nat} {t0 : TF} {h00 : PH} (p : List Nat) : ∀ (n : Nat) (x2 : Int32) (t : TF) (ob : List Nat → Nat) (a0 : Nat) (e0 : AtF ob t (p) a0) (a1 : Nat) (e1 : AtF ob t (9 :: p) a1), EvP G 4 mX6_gives X ob0 t0 h00 rwI (fX6_gives_7 p n x2 t) 7 [(0, .ref a0), (1, .ref a1), (2, .int x2)] [] t ob := by
  intro n
  induction n with
  | zero => intro x2 t ob a0 e0 a1 e1; rw [fX6_gives_7]; exact ep_none
  | succ n ih =>
    intro x2 t ob a0 e0 a1 e1
    rw [fX6_gives_7]
    refine ep_iload_n (q := 8) 2 dX6_gives_7 rfl rfl rfl ?_
    refine ep_sipush (v := (200 : Int32)) (q := 11) dX6_gives_8 (by decide) rfl ?_
    refine ep_if (pt := 41) (pf := 14) (fun _ _ _ _ _ _ => ev_icmp_gt (tgt := 41) dX6_gives_11 (by decide)) (fun h1 => ?_) (fun h1 => ?_)
    · refine ep_iconst (v := (-1 : Int32)) (q := 42) dX6_gives_41 (by decide) rfl ?_
      exact ep_iret rfl dX6_gives_42
    · refine ep_aload_n (q := 15) 1 dX6_gives_14 rfl rfl rfl ?_
      refine ep_getI (x := (t.2 (9 :: p)).1 0 21) (q := 18) e1 fl6_286 rfl rfl dX6_gives_15 rfl ?_
      refine ep_aload_n (q := 19) 0 dX6_gives_18 rfl rfl rfl ?_
      refine ep_getR (k := 24) (q := 22) e0 fl6_55 rfl rfl rfl dX6_gives_19 rfl ?_
      refine ep_iconst (v := (3 : Int32)) (q := 23) dX6_gives_22 (by decide) rfl ?_
      refine ep_iaload (x := (t.2 p).1 24 3) (q := 24) e0 rfl (by decide) dX6_gives_23 rfl rfl ?_
      refine ep_if (pt := 29) (pf := 27) (fun _ _ _ _ _ _ => ev_icmp_lt (tgt := 29) dX6_gives_24 (by decide)) (fun h2 => ?_) (fun h2 => ?_)
      · refine ep_aload_n (q := 30) 1 dX6_gives_29 rfl rfl rfl ?_
        refine ep_iconst (v := (0 : Int32)) (q := 31) dX6_gives_30 (by decide) rfl ?_
        refine ep_iconst (v := (0 : Int32)) (q := 32) dX6_gives_31 (by decide) rfl ?_
        refine ep_invVU1 (As := [.int (0 : Int32), .int (0 : Int32)]) (rest := []) (q := 35) e1 (okX6_goes (0 : Int32) (0 : Int32)) rfl calX6_goes ml6_212 (by decide) rfl rfl (Nat.le_of_ble_eq_true rfl) dX6_gives_32 rfl (fun z3 => ?_)
        refine ep_iinc (v := x2 + (1 : Int32)) (lv' := [(2, .int (x2 + (1 : Int32))), (0, .ref a0), (1, .ref a1)]) (q := 38) 2 dX6_gives_35 rfl rfl (by decide) rfl rfl ?_
        refine ep_goto (tgt := 7) dX6_gives_38 (by decide) ?_
        refine ep_sub (lv' := [(0, .ref a0), (1, .ref a1), (2, .int (x2 + (1 : Int32)))]) [1, 2, 0] rfl ?_
        exact ih (x2 + (1 : Int32)) (wrT t (9 :: p) z3.2) ob a0 e0 a1 e1
      · refine ep_iload_n (q := 28) 2 dX6_gives_27 rfl rfl rfl ?_
        exact ep_iret rfl dX6_gives_28
set_option maxRecDepth 100000 in
set_option maxHeartbeats 4000000 in
theorem okX6_gives_0 {G : GG} {X : Nat → Prop} {ob0 : List Nat → Nat} {t0 : TF} {h00 : PH} (p : List Nat) (t : TF) (ob : List Nat → Nat) (a0 : Nat) (e0 : AtF ob t (p) a0) : EvP G 4 mX6_gives X ob0 t0 h00 rwI (fX6_gives_0 p t) 0 [(0, .ref a0)] [] t ob := by
  unfold fX6_gives_0
  refine ep_aload_n (q := 1) 0 dX6_gives_0 rfl rfl rfl ?_
  refine ep_fresh (rest := []) (q := 4) e0 (okX6_fresh_f p) rfl calX6_fresh ml6_247 (by decide) rfl (Nat.le_of_ble_eq_true rfl) dX6_gives_1 rfl (fun z1 obz1 yz1 _ mvz1 ez1 => ?_)
  refine ep_astore_n (lv' := [(1, .ref yz1), (0, .ref a0)]) (q := 5) dX6_gives_4 rfl (by decide) rfl rfl ?_
  refine ep_iconst (v := (0 : Int32)) (q := 6) dX6_gives_5 (by decide) rfl ?_
  refine ep_istore_n (lv' := [(2, .int (0 : Int32)), (1, .ref yz1), (0, .ref a0)]) (q := 7) dX6_gives_6 rfl (by decide) rfl rfl ?_
  refine ep_sub (lv' := [(0, .ref a0), (1, .ref yz1), (2, .int (0 : Int32))]) [2, 1, 0] rfl ?_
  exact okX6_gives_7 p FU (0 : Int32) z1.2 obz1 a0 (mvz1 _ _ e0) yz1 ez1
theorem okX6_gives (p : List Nat) : MtP 4 mX6_gives rwI p (fun a => [.ref a]) (fX6_gives p) := by
  refine MtP.of (by decide +kernel) rfl (fun _ => Nat.le_of_ble_eq_true rfl) (fun G X ob t h a e => ?_)
  refine ep_sub (lv := [(0, .ref a)]) (lv' := [(0, .ref a)]) [0] rfl ?_
  exact okX6_gives_0 p t ob a e
-- X6_melted
theorem dX6_melted_0 : decode cX6_melted 0 = .ok (.aload_n 0, 1) := by decide +kernel
theorem dX6_melted_1 : decode cX6_melted 1 = .ok (.invokevirtual 247, 3) := by decide +kernel
theorem dX6_melted_4 : decode cX6_melted 4 = .ok (.astore_n 1, 1) := by decide +kernel
theorem dX6_melted_5 : decode cX6_melted 5 = .ok (.iconst 0, 1) := by decide +kernel
theorem dX6_melted_6 : decode cX6_melted 6 = .ok (.istore_n 2, 1) := by decide +kernel
theorem dX6_melted_7 : decode cX6_melted 7 = .ok (.iload_n 2, 1) := by decide +kernel
theorem dX6_melted_8 : decode cX6_melted 8 = .ok (.sipush 200, 3) := by decide +kernel
theorem dX6_melted_11 : decode cX6_melted 11 = .ok (.if_icmp .gt 42, 3) := by decide +kernel
theorem dX6_melted_14 : decode cX6_melted 14 = .ok (.iconst 0, 1) := by decide +kernel
theorem dX6_melted_15 : decode cX6_melted 15 = .ok (.istore_n 3, 1) := by decide +kernel
theorem dX6_melted_16 : decode cX6_melted 16 = .ok (.iload_n 3, 1) := by decide +kernel
theorem dX6_melted_17 : decode cX6_melted 17 = .ok (.aload_n 0, 1) := by decide +kernel
theorem dX6_melted_18 : decode cX6_melted 18 = .ok (.getfield 93, 3) := by decide +kernel
theorem dX6_melted_21 : decode cX6_melted 21 = .ok (.if_icmp .ge 20, 3) := by decide +kernel
theorem dX6_melted_24 : decode cX6_melted 24 = .ok (.aload_n 1, 1) := by decide +kernel
theorem dX6_melted_25 : decode cX6_melted 25 = .ok (.getfield 44, 3) := by decide +kernel
theorem dX6_melted_28 : decode cX6_melted 28 = .ok (.iload_n 3, 1) := by decide +kernel
theorem dX6_melted_29 : decode cX6_melted 29 = .ok (.iaload, 1) := by decide +kernel
theorem dX6_melted_30 : decode cX6_melted 30 = .ok (.ifCond .ne 5, 3) := by decide +kernel
theorem dX6_melted_33 : decode cX6_melted 33 = .ok (.iload_n 2, 1) := by decide +kernel
theorem dX6_melted_34 : decode cX6_melted 34 = .ok (.ireturn, 1) := by decide +kernel
theorem dX6_melted_35 : decode cX6_melted 35 = .ok (.iinc 3 1, 3) := by decide +kernel
theorem dX6_melted_38 : decode cX6_melted 38 = .ok (.goto (-22), 3) := by decide +kernel
theorem dX6_melted_41 : decode cX6_melted 41 = .ok (.aload_n 1, 1) := by decide +kernel
theorem dX6_melted_42 : decode cX6_melted 42 = .ok (.iconst 0, 1) := by decide +kernel
theorem dX6_melted_43 : decode cX6_melted 43 = .ok (.iconst 0, 1) := by decide +kernel
theorem dX6_melted_44 : decode cX6_melted 44 = .ok (.invokevirtual 212, 3) := by decide +kernel
theorem dX6_melted_47 : decode cX6_melted 47 = .ok (.iinc 2 1, 3) := by decide +kernel
theorem dX6_melted_50 : decode cX6_melted 50 = .ok (.goto (-43), 3) := by decide +kernel
theorem dX6_melted_53 : decode cX6_melted 53 = .ok (.iconst (-1), 1) := by decide +kernel
theorem dX6_melted_54 : decode cX6_melted 54 = .ok (.ireturn, 1) := by decide +kernel
def fX6_melted_16 (p : List Nat) (rec_7 : Int32 → TF → Option (Int32 × TF)) : Nat → Int32 → Int32 → TF → Option (Int32 × TF)
  | 0, _, _, _ => none
  | n + 1, x2, x3, t => if ((t.2 p).1 0 10) ≤ x3 then (((fX6_goes (0 : Int32) (0 : Int32) (t.2 (9 :: p))).bind fun z2 => rec_7 (x2 + (1 : Int32)) (wrT t (9 :: p) z2.2))) else (if ixB x3 3 then (if ((t.2 (9 :: p)).1 18 x3.toNatClampNeg) = 0 then (some (x2, t)) else (fX6_melted_16 p rec_7 n x2 (x3 + (1 : Int32)) t)) else none)
def fX6_melted_7 (p : List Nat) : Nat → Int32 → TF → Option (Int32 × TF)
  | 0, _, _ => none
  | n + 1, x2, t => if (200 : Int32) < x2 then (some ((-1 : Int32), t)) else (fX6_melted_16 p (fX6_melted_7 p n) FU x2 (0 : Int32) t)
def fX6_melted_0 (p : List Nat) (t : TF) : Option (Int32 × TF) := ((fX6_fresh p t).bind fun z1 => fX6_melted_7 p FU (0 : Int32) z1.2)
def fX6_melted (p : List Nat) (t : TF) : Option (Int32 × TF) := fX6_melted_0 p t
set_option maxRecDepth 100000 in
set_option maxHeartbeats 4000000 in
theorem okX6_melted_16 {G : GG} {X : Nat → Prop} {ob0 : List Nat → Nat} {t0 : TF} {h00 : PH} (p : List Nat) (rec_7 : Int32 → TF → Option (Int32 × TF)) (hrec_7 : ∀ (x2 : Int32) (t : TF) (ob : List Nat → Nat) (a0 : Nat) (e0 : AtF ob t (p) a0) (a1 : Nat) (e1 : AtF ob t (9 :: p) a1), EvP G 4 mX6_melted X ob0 t0 h00 rwI (rec_7 x2 t) 7 [(0, .ref a0), (1, .ref a1), (2, .int x2)] [] t ob) : ∀ (n : Nat) (x2 : Int32) (x3 : Int32) (t : TF) (ob : List Nat → Nat) (a0 : Nat) (e0 : AtF ob t (p) a0) (a1 : Nat) (e1 : AtF ob t (9 :: p) a1), EvP G 4 mX6_melted X ob0 t0 h00 rwI (fX6_melted_16 p rec_7 n x2 x3 t) 16 [(0, .ref a0), (1, .ref a1), (2, .int x2), (3, .int x3)] [] t ob := by
  intro n
  induction n with
  | zero => intro x2 x3 t ob a0 e0 a1 e1; rw [fX6_melted_16]; exact ep_none
  | succ n ih =>
    intro x2 x3 t ob a0 e0 a1 e1
    rw [fX6_melted_16]
    refine ep_iload_n (q := 17) 3 dX6_melted_16 rfl rfl rfl ?_
    refine ep_aload_n (q := 18) 0 dX6_melted_17 rfl rfl rfl ?_
    refine ep_getI (x := (t.2 p).1 0 10) (q := 21) e0 fl6_93 rfl rfl dX6_melted_18 rfl ?_
    refine ep_if (pt := 41) (pf := 24) (fun _ _ _ _ _ _ => ev_icmp_ge (tgt := 41) dX6_melted_21 (by decide)) (fun h1 => ?_) (fun h1 => ?_)
    · refine ep_aload_n (q := 42) 1 dX6_melted_41 rfl rfl rfl ?_
      refine ep_iconst (v := (0 : Int32)) (q := 43) dX6_melted_42 (by decide) rfl ?_
      refine ep_iconst (v := (0 : Int32)) (q := 44) dX6_melted_43 (by decide) rfl ?_
      refine ep_invVU1 (As := [.int (0 : Int32), .int (0 : Int32)]) (rest := []) (q := 47) e1 (okX6_goes (0 : Int32) (0 : Int32)) rfl calX6_goes ml6_212 (by decide) rfl rfl (Nat.le_of_ble_eq_true rfl) dX6_melted_44 rfl (fun z2 => ?_)
      refine ep_iinc (v := x2 + (1 : Int32)) (lv' := [(2, .int (x2 + (1 : Int32))), (0, .ref a0), (1, .ref a1), (3, .int x3)]) (q := 50) 2 dX6_melted_47 rfl rfl (by decide) rfl rfl ?_
      refine ep_goto (tgt := 7) dX6_melted_50 (by decide) ?_
      refine ep_sub (lv' := [(0, .ref a0), (1, .ref a1), (2, .int (x2 + (1 : Int32)))]) [1, 2, 0] rfl ?_
      exact hrec_7 (x2 + (1 : Int32)) (wrT t (9 :: p) z2.2) ob a0 e0 a1 e1
    · refine ep_aload_n (q := 25) 1 dX6_melted_24 rfl rfl rfl ?_
      refine ep_getR (k := 18) (q := 28) e1 fl6_44 rfl rfl rfl dX6_melted_25 rfl ?_
      refine ep_iload_n (q := 29) 3 dX6_melted_28 rfl rfl rfl ?_
      refine ep_guard (fun g3 => ?_)
      refine ep_iaload (x := (t.2 (9 :: p)).1 18 x3.toNatClampNeg) (q := 30) e1 rfl g3 dX6_melted_29 rfl rfl ?_
      refine ep_if (pt := 33) (pf := 35) (fun _ _ _ _ _ _ kt kf => ev_if_ne (tgt := 35) dX6_melted_30 (by decide) kf kt) (fun h4 => ?_) (fun h4 => ?_)
      · refine ep_iload_n (q := 34) 2 dX6_melted_33 rfl rfl rfl ?_
        exact ep_iret rfl dX6_melted_34
      · refine ep_iinc (v := x3 + (1 : Int32)) (lv' := [(3, .int (x3 + (1 : Int32))), (0, .ref a0), (1, .ref a1), (2, .int x2)]) (q := 38) 3 dX6_melted_35 rfl rfl (by decide) rfl rfl ?_
        refine ep_goto (tgt := 16) dX6_melted_38 (by decide) ?_
        refine ep_sub (lv' := [(0, .ref a0), (1, .ref a1), (2, .int x2), (3, .int (x3 + (1 : Int32)))]) [1, 2, 3, 0] rfl ?_
        exact ih x2 (x3 + (1 : Int32)) t ob a0 e0 a1 e1
set_option maxRecDepth 100000 in
set_option maxHeartbeats 4000000 in
theorem okX6_melted_7 {G : GG} {X : Nat → Prop} {ob0 : List Nat → Nat} {t0 : TF} {h00 : PH} (p : List Nat) : ∀ (n : Nat) (x2 : Int32) (t : TF) (ob : List Nat → Nat) (a0 : Nat) (e0 : AtF ob t (p) a0) (a1 : Nat) (e1 : AtF ob t (9 :: p) a1), EvP G 4 mX6_melted X ob0 t0 h00 rwI (fX6_melted_7 p n x2 t) 7 [(0, .ref a0), (1, .ref a1), (2, .int x2)] [] t ob := by
  intro n
  induction n with
  | zero => intro x2 t ob a0 e0 a1 e1; rw [fX6_melted_7]; exact ep_none
  | succ n ih =>
    intro x2 t ob a0 e0 a1 e1
    rw [fX6_melted_7]
    refine ep_iload_n (q := 8) 2 dX6_melted_7 rfl rfl rfl ?_
    refine ep_sipush (v := (200 : Int32)) (q := 11) dX6_melted_8 (by decide) rfl ?_
    refine ep_if (pt := 53) (pf := 14) (fun _ _ _ _ _ _ => ev_icmp_gt (tgt := 53) dX6_melted_11 (by decide)) (fun h1 => ?_) (fun h1 => ?_)
    · refine ep_iconst (v := (-1 : Int32)) (q := 54) dX6_melted_53 (by decide) rfl ?_
      exact ep_iret rfl dX6_melted_54
    · refine ep_iconst (v := (0 : Int32)) (q := 15) dX6_melted_14 (by decide) rfl ?_
      refine ep_istore_n (lv' := [(3, .int (0 : Int32)), (0, .ref a0), (1, .ref a1), (2, .int x2)]) (q := 16) dX6_melted_15 rfl (by decide) rfl rfl ?_
      refine ep_sub (lv' := [(0, .ref a0), (1, .ref a1), (2, .int x2), (3, .int (0 : Int32))]) [1, 2, 3, 0] rfl ?_
      exact okX6_melted_16 p (fX6_melted_7 p n) ih FU x2 (0 : Int32) t ob a0 e0 a1 e1
set_option maxRecDepth 100000 in
set_option maxHeartbeats 4000000 in
theorem okX6_melted_0 {G : GG} {X : Nat → Prop} {ob0 : List Nat → Nat} {t0 : TF} {h00 : PH} (p : List Nat) (t : TF) (ob : List Nat → Nat) (a0 : Nat) (e0 : AtF ob t (p) a0) : EvP G 4 mX6_melted X ob0 t0 h00 rwI (fX6_melted_0 p t) 0 [(0, .ref a0)] [] t ob := by
  unfold fX6_melted_0
  refine ep_aload_n (q := 1) 0 dX6_melted_0 rfl rfl rfl ?_
  refine ep_fresh (rest := []) (q := 4) e0 (okX6_fresh_f p) rfl calX6_fresh ml6_247 (by decide) rfl (Nat.le_of_ble_eq_true rfl) dX6_melted_1 rfl (fun z1 obz1 yz1 _ mvz1 ez1 => ?_)
  refine ep_astore_n (lv' := [(1, .ref yz1), (0, .ref a0)]) (q := 5) dX6_melted_4 rfl (by decide) rfl rfl ?_
  refine ep_iconst (v := (0 : Int32)) (q := 6) dX6_melted_5 (by decide) rfl ?_
  refine ep_istore_n (lv' := [(2, .int (0 : Int32)), (1, .ref yz1), (0, .ref a0)]) (q := 7) dX6_melted_6 rfl (by decide) rfl rfl ?_
  refine ep_sub (lv' := [(0, .ref a0), (1, .ref yz1), (2, .int (0 : Int32))]) [2, 1, 0] rfl ?_
  exact okX6_melted_7 p FU (0 : Int32) z1.2 obz1 a0 (mvz1 _ _ e0) yz1 ez1
theorem okX6_melted (p : List Nat) : MtP 4 mX6_melted rwI p (fun a => [.ref a]) (fX6_melted p) := by
  refine MtP.of (by decide +kernel) rfl (fun _ => Nat.le_of_ble_eq_true rfl) (fun G X ob t h a e => ?_)
  refine ep_sub (lv := [(0, .ref a)]) (lv' := [(0, .ref a)]) [0] rfl ?_
  exact okX6_melted_0 p t ob a e
-- X6_behind
theorem dX6_behind_0 : decode cX6_behind 0 = .ok (.iload_n 1, 1) := by decide +kernel
theorem dX6_behind_1 : decode cX6_behind 1 = .ok (.i2l, 1) := by decide +kernel
theorem dX6_behind_2 : decode cX6_behind 2 = .ok (.lconst 0, 1) := by decide +kernel
theorem dX6_behind_3 : decode cX6_behind 3 = .ok (.ldc2_w 96, 3) := by decide +kernel
theorem dX6_behind_6 : decode cX6_behind 6 = .ok (.invokestatic 89, 3) := by decide +kernel
theorem dX6_behind_9 : decode cX6_behind 9 = .ok (.ifCond .eq 27, 3) := by decide +kernel
theorem dX6_behind_12 : decode cX6_behind 12 = .ok (.iload_n 2, 1) := by decide +kernel
theorem dX6_behind_13 : decode cX6_behind 13 = .ok (.i2l, 1) := by decide +kernel
theorem dX6_behind_14 : decode cX6_behind 14 = .ok (.lconst 0, 1) := by decide +kernel
theorem dX6_behind_15 : decode cX6_behind 15 = .ok (.ldc2_w 100, 3) := by decide +kernel
theorem dX6_behind_18 : decode cX6_behind 18 = .ok (.invokestatic 89, 3) := by decide +kernel
theorem dX6_behind_21 : decode cX6_behind 21 = .ok (.ifCond .eq 15, 3) := by decide +kernel
theorem dX6_behind_24 : decode cX6_behind 24 = .ok (.iload_n 3, 1) := by decide +kernel
theorem dX6_behind_25 : decode cX6_behind 25 = .ok (.i2l, 1) := by decide +kernel
theorem dX6_behind_26 : decode cX6_behind 26 = .ok (.lconst 0, 1) := by decide +kernel
theorem dX6_behind_27 : decode cX6_behind 27 = .ok (.ldc2_w 132, 3) := by decide +kernel
theorem dX6_behind_30 : decode cX6_behind 30 = .ok (.invokestatic 89, 3) := by decide +kernel
theorem dX6_behind_33 : decode cX6_behind 33 = .ok (.ifCond .ne 10, 3) := by decide +kernel
theorem dX6_behind_36 : decode cX6_behind 36 = .ok (.aload_n 0, 1) := by decide +kernel
theorem dX6_behind_37 : decode cX6_behind 37 = .ok (.bipush (-2), 2) := by decide +kernel
theorem dX6_behind_39 : decode cX6_behind 39 = .ok (.invokevirtual 102, 3) := by decide +kernel
theorem dX6_behind_42 : decode cX6_behind 42 = .ok (.ireturn, 1) := by decide +kernel
theorem dX6_behind_43 : decode cX6_behind 43 = .ok (.aload_n 0, 1) := by decide +kernel
theorem dX6_behind_44 : decode cX6_behind 44 = .ok (.iload_n 1, 1) := by decide +kernel
theorem dX6_behind_45 : decode cX6_behind 45 = .ok (.iload_n 2, 1) := by decide +kernel
theorem dX6_behind_46 : decode cX6_behind 46 = .ok (.invokevirtual 368, 3) := by decide +kernel
theorem dX6_behind_49 : decode cX6_behind 49 = .ok (.istore 4, 2) := by decide +kernel
theorem dX6_behind_51 : decode cX6_behind 51 = .ok (.iload 4, 2) := by decide +kernel
theorem dX6_behind_53 : decode cX6_behind 53 = .ok (.ifCond .eq 6, 3) := by decide +kernel
theorem dX6_behind_56 : decode cX6_behind 56 = .ok (.iload 4, 2) := by decide +kernel
theorem dX6_behind_58 : decode cX6_behind 58 = .ok (.ireturn, 1) := by decide +kernel
theorem dX6_behind_59 : decode cX6_behind 59 = .ok (.aload_n 0, 1) := by decide +kernel
theorem dX6_behind_60 : decode cX6_behind 60 = .ok (.aload_n 0, 1) := by decide +kernel
theorem dX6_behind_61 : decode cX6_behind 61 = .ok (.getfield 21, 3) := by decide +kernel
theorem dX6_behind_64 : decode cX6_behind 64 = .ok (.iload_n 1, 1) := by decide +kernel
theorem dX6_behind_65 : decode cX6_behind 65 = .ok (.aaload, 1) := by decide +kernel
theorem dX6_behind_66 : decode cX6_behind 66 = .ok (.iload_n 2, 1) := by decide +kernel
theorem dX6_behind_67 : decode cX6_behind 67 = .ok (.invokevirtual 372, 3) := by decide +kernel
theorem dX6_behind_70 : decode cX6_behind 70 = .ok (.iconst (-1), 1) := by decide +kernel
theorem dX6_behind_71 : decode cX6_behind 71 = .ok (.if_icmp .eq 10, 3) := by decide +kernel
theorem dX6_behind_74 : decode cX6_behind 74 = .ok (.aload_n 0, 1) := by decide +kernel
theorem dX6_behind_75 : decode cX6_behind 75 = .ok (.bipush (-5), 2) := by decide +kernel
theorem dX6_behind_77 : decode cX6_behind 77 = .ok (.invokevirtual 102, 3) := by decide +kernel
theorem dX6_behind_80 : decode cX6_behind 80 = .ok (.ireturn, 1) := by decide +kernel
theorem dX6_behind_81 : decode cX6_behind 81 = .ok (.aload_n 0, 1) := by decide +kernel
theorem dX6_behind_82 : decode cX6_behind 82 = .ok (.invokevirtual 247, 3) := by decide +kernel
theorem dX6_behind_85 : decode cX6_behind 85 = .ok (.astore 5, 2) := by decide +kernel
theorem dX6_behind_87 : decode cX6_behind 87 = .ok (.iconst 0, 1) := by decide +kernel
theorem dX6_behind_88 : decode cX6_behind 88 = .ok (.istore 6, 2) := by decide +kernel
theorem dX6_behind_90 : decode cX6_behind 90 = .ok (.iload 6, 2) := by decide +kernel
theorem dX6_behind_92 : decode cX6_behind 92 = .ok (.iload_n 2, 1) := by decide +kernel
theorem dX6_behind_93 : decode cX6_behind 93 = .ok (.if_icmp .ge 25, 3) := by decide +kernel
theorem dX6_behind_96 : decode cX6_behind 96 = .ok (.aload 5, 2) := by decide +kernel
theorem dX6_behind_98 : decode cX6_behind 98 = .ok (.aload_n 0, 1) := by decide +kernel
theorem dX6_behind_99 : decode cX6_behind 99 = .ok (.getfield 21, 3) := by decide +kernel
theorem dX6_behind_102 : decode cX6_behind 102 = .ok (.iload_n 1, 1) := by decide +kernel
theorem dX6_behind_103 : decode cX6_behind 103 = .ok (.aaload, 1) := by decide +kernel
theorem dX6_behind_104 : decode cX6_behind 104 = .ok (.iload 6, 2) := by decide +kernel
theorem dX6_behind_106 : decode cX6_behind 106 = .ok (.laload, 1) := by decide +kernel
theorem dX6_behind_107 : decode cX6_behind 107 = .ok (.l2i, 1) := by decide +kernel
theorem dX6_behind_108 : decode cX6_behind 108 = .ok (.iconst 0, 1) := by decide +kernel
theorem dX6_behind_109 : decode cX6_behind 109 = .ok (.invokevirtual 212, 3) := by decide +kernel
theorem dX6_behind_112 : decode cX6_behind 112 = .ok (.iinc 6 1, 3) := by decide +kernel
theorem dX6_behind_115 : decode cX6_behind 115 = .ok (.goto (-25), 3) := by decide +kernel
theorem dX6_behind_118 : decode cX6_behind 118 = .ok (.aload_n 0, 1) := by decide +kernel
theorem dX6_behind_119 : decode cX6_behind 119 = .ok (.aload 5, 2) := by decide +kernel
theorem dX6_behind_121 : decode cX6_behind 121 = .ok (.iload_n 3, 1) := by decide +kernel
theorem dX6_behind_122 : decode cX6_behind 122 = .ok (.invokevirtual 349, 3) := by decide +kernel
theorem dX6_behind_125 : decode cX6_behind 125 = .ok (.ireturn, 1) := by decide +kernel
def fX6_behind_36 (p : List Nat) (t : TF) : Option (Int32 × TF) := ((fX6_refuse (-2 : Int32) (t.2 p)).bind fun z1 => some (z1.1, wrT t p z1.2))
def fX6_behind_90 (p : List Nat) : Nat → Int32 → Int32 → Int32 → Int32 → TF → Option (Int32 × TF)
  | 0, _, _, _, _, _ => none
  | n + 1, x1, x2, x3, x6, t => if x2 ≤ x6 then (((fX6_toldOf x3 (prS (t.2 p) (t.2 (9 :: p)))).bind fun z2 => some (z2.1, wrT (wrT t p z2.2) (9 :: p) (snS z2.2)))) else (if ixB x1 8 then (if ixB x6 40 then (((fX6_goes (((t.2 p).2 (5 + x1.toNatClampNeg) x6.toNatClampNeg).toInt32) (0 : Int32) (t.2 (9 :: p))).bind fun z5 => fX6_behind_90 p n x1 x2 x3 (x6 + (1 : Int32)) (wrT t (9 :: p) z5.2))) else none) else none)
def fX6_behind_0 (p : List Nat) (x1 : Int32) (x2 : Int32) (x3 : Int32) (t : TF) : Option (Int32 × TF) := ((fX6_in x1.toInt64 (0 : Int64) (7 : Int64) (t.2 p)).bind fun z1 => if z1.1 = 0 then (fX6_behind_36 p t) else (((fX6_in x2.toInt64 (0 : Int64) (40 : Int64) (t.2 p)).bind fun z3 => if z3.1 = 0 then (fX6_behind_36 p t) else (((fX6_in x3.toInt64 (0 : Int64) (3 : Int64) (t.2 p)).bind fun z5 => if z5.1 = 0 then (fX6_behind_36 p t) else (((fX6_noActs x1 x2 (t.2 p)).bind fun z7 => if z7.1 = 0 then (if ixB x1 8 then (((fX6_wrongIn x1.toNatClampNeg x2 ((wrT t p z7.2).2 p)).bind fun z10 => if z10.1 = (-1 : Int32) then (((fX6_fresh p (wrT (wrT t p z7.2) p z10.2)).bind fun z12 => fX6_behind_90 p FU x1 x2 x3 (0 : Int32) z12.2)) else (((fX6_refuse (-5 : Int32) ((wrT (wrT t p z7.2) p z10.2).2 p)).bind fun z13 => some (z13.1, wrT (wrT (wrT t p z7.2) p z10.2) p z13.2))))) else none) else (some (z7.1, wrT t p z7.2)))))))))
def fX6_behind (p : List Nat) (x1 : Int32) (x2 : Int32) (x3 : Int32) (t : TF) : Option (Int32 × TF) := fX6_behind_0 p x1 x2 x3 t
set_option maxRecDepth 100000 in
set_option maxHeartbeats 4000000 in
theorem okX6_behind_36 {G : GG} {X : Nat → Prop} {ob0 : List Nat → Nat} {t0 : TF} {h00 : PH} (p : List Nat) (t : TF) (ob : List Nat → Nat) (a0 : Nat) (e0 : AtF ob t (p) a0) : EvP G 4 mX6_behind X ob0 t0 h00 rwI (fX6_behind_36 p t) 36 [(0, .ref a0)] [] t ob := by
  unfold fX6_behind_36
  refine ep_aload_n (q := 37) 0 dX6_behind_36 rfl rfl rfl ?_
  refine ep_bipush (v := (-2 : Int32)) (q := 39) dX6_behind_37 (by decide) rfl ?_
  refine ep_invVI1 (As := [.int (-2 : Int32)]) (rest := []) (q := 42) e0 (okX6_refuse (-2 : Int32)) rfl calX6_refuse ml6_102 (by decide) rfl rfl (Nat.le_of_ble_eq_true rfl) dX6_behind_39 rfl (fun z1 => ?_)
  exact ep_iret rfl dX6_behind_42
set_option maxRecDepth 100000 in
set_option maxHeartbeats 4000000 in
theorem okX6_behind_90 {G : GG} {X : Nat → Prop} {ob0 : List Nat → Nat} {t0 : TF} {h00 : PH} (p : List Nat) : ∀ (n : Nat) (x1 : Int32) (x2 : Int32) (x3 : Int32) (x6 : Int32) (t : TF) (ob : List Nat → Nat) (a0 : Nat) (e0 : AtF ob t (p) a0) (a1 : Nat) (e1 : AtF ob t (9 :: p) a1), EvP G 4 mX6_behind X ob0 t0 h00 rwI (fX6_behind_90 p n x1 x2 x3 x6 t) 90 [(0, .ref a0), (1, .int x1), (2, .int x2), (3, .int x3), (5, .ref a1), (6, .int x6)] [] t ob := by
  intro n
  induction n with
  | zero => intro x1 x2 x3 x6 t ob a0 e0 a1 e1; rw [fX6_behind_90]; exact ep_none
  | succ n ih =>
    intro x1 x2 x3 x6 t ob a0 e0 a1 e1
    rw [fX6_behind_90]
    refine ep_iload (q := 92) 5 dX6_behind_90 rfl rfl ?_
    refine ep_iload_n (q := 93) 2 dX6_behind_92 rfl rfl rfl ?_
    refine ep_if (pt := 118) (pf := 96) (fun _ _ _ _ _ _ => ev_icmp_ge (tgt := 118) dX6_behind_93 (by decide)) (fun h1 => ?_) (fun h1 => ?_)
    · refine ep_aload_n (q := 119) 0 dX6_behind_118 rfl rfl rfl ?_
      refine ep_aload (q := 121) 4 dX6_behind_119 rfl rfl ?_
      refine ep_iload_n (q := 122) 3 dX6_behind_121 rfl rfl rfl ?_
      refine ep_invVI2 (As := [.ref a1, .int x3]) (rest := []) (q := 125) e0 e1 cne' (okX6_toldOf x3) rfl calX6_toldOf ml6_349 (by decide) rfl rfl (Nat.le_of_ble_eq_true rfl) dX6_behind_122 rfl (fun z2 => ?_)
      exact ep_iret rfl dX6_behind_125
    · refine ep_aload (q := 98) 4 dX6_behind_96 rfl rfl ?_
      refine ep_aload_n (q := 99) 0 dX6_behind_98 rfl rfl rfl ?_
      refine ep_getR (k := 4) (q := 102) e0 fl6_21 rfl rfl rfl dX6_behind_99 rfl ?_
      refine ep_iload_n (q := 103) 1 dX6_behind_102 rfl rfl rfl ?_
      refine ep_guard (fun g3 => ?_)
      refine ep_aaload (z := 5 + x1.toNatClampNeg) (q := 104) e0 rfl (by decide) lyR_t4 g3 dX6_behind_103 rfl rfl ?_
      refine ep_iload (q := 106) 5 dX6_behind_104 rfl rfl ?_
      refine ep_guard (fun g4 => ?_)
      refine ep_laload (x := (t.2 p).2 (5 + x1.toNatClampNeg) x6.toNatClampNeg) (q := 107) e0 (lyR_f4_0 _ (ixB_lt g3)) g4 dX6_behind_106 rfl rfl ?_
      refine ep_l2i (v := ((t.2 p).2 (5 + x1.toNatClampNeg) x6.toNatClampNeg).toInt32) (q := 108) dX6_behind_107 rfl rfl ?_
      refine ep_iconst (v := (0 : Int32)) (q := 109) dX6_behind_108 (by decide) rfl ?_
      refine ep_invVU1 (As := [.int (((t.2 p).2 (5 + x1.toNatClampNeg) x6.toNatClampNeg).toInt32), .int (0 : Int32)]) (rest := []) (q := 112) e1 (okX6_goes (((t.2 p).2 (5 + x1.toNatClampNeg) x6.toNatClampNeg).toInt32) (0 : Int32)) rfl calX6_goes ml6_212 (by decide) rfl rfl (Nat.le_of_ble_eq_true rfl) dX6_behind_109 rfl (fun z5 => ?_)
      refine ep_iinc (v := x6 + (1 : Int32)) (lv' := [(6, .int (x6 + (1 : Int32))), (0, .ref a0), (1, .int x1), (2, .int x2), (3, .int x3), (5, .ref a1)]) (q := 115) 5 dX6_behind_112 rfl rfl (by decide) rfl rfl ?_
      refine ep_goto (tgt := 90) dX6_behind_115 (by decide) ?_
      refine ep_sub (lv' := [(0, .ref a0), (1, .int x1), (2, .int x2), (3, .int x3), (5, .ref a1), (6, .int (x6 + (1 : Int32)))]) [1, 2, 3, 4, 5, 0] rfl ?_
      exact ih x1 x2 x3 (x6 + (1 : Int32)) (wrT t (9 :: p) z5.2) ob a0 e0 a1 e1
set_option maxRecDepth 100000 in
set_option maxHeartbeats 4000000 in
theorem okX6_behind_0 {G : GG} {X : Nat → Prop} {ob0 : List Nat → Nat} {t0 : TF} {h00 : PH} (p : List Nat) (x1 : Int32) (x2 : Int32) (x3 : Int32) (t : TF) (ob : List Nat → Nat) (a0 : Nat) (e0 : AtF ob t (p) a0) : EvP G 4 mX6_behind X ob0 t0 h00 rwI (fX6_behind_0 p x1 x2 x3 t) 0 [(0, .ref a0), (1, .int x1), (2, .int x2), (3, .int x3)] [] t ob := by
  unfold fX6_behind_0
  refine ep_iload_n (q := 1) 1 dX6_behind_0 rfl rfl rfl ?_
  refine ep_i2l (v := x1.toInt64) (q := 2) dX6_behind_1 rfl rfl ?_
  refine ep_lconst (v := (0 : Int64)) (q := 3) dX6_behind_2 (by decide) rfl ?_
  refine ep_ldc2 (v := (7 : Int64)) (q := 6) k6_96 dX6_behind_3 rfl ?_
  refine ep_invPI (s := t.2 p) (As := [.long x1.toInt64, .long (0 : Int64), .long (7 : Int64)]) (rest := []) (q := 9) (okX6_in x1.toInt64 (0 : Int64) (7 : Int64)) rfl calX6_in ml6_89 (by decide) rfl rfl (Nat.le_of_ble_eq_true rfl) dX6_behind_6 rfl (fun z1 => ?_)
  refine ep_if (pt := 36) (pf := 12) (fun _ _ _ _ _ _ => ev_if_eq (tgt := 36) dX6_behind_9 (by decide)) (fun h2 => ?_) (fun h2 => ?_)
  · refine ep_sub (lv' := [(0, .ref a0)]) [0] rfl ?_
    exact okX6_behind_36 p t ob a0 e0
  · refine ep_iload_n (q := 13) 2 dX6_behind_12 rfl rfl rfl ?_
    refine ep_i2l (v := x2.toInt64) (q := 14) dX6_behind_13 rfl rfl ?_
    refine ep_lconst (v := (0 : Int64)) (q := 15) dX6_behind_14 (by decide) rfl ?_
    refine ep_ldc2 (v := (40 : Int64)) (q := 18) k6_100 dX6_behind_15 rfl ?_
    refine ep_invPI (s := t.2 p) (As := [.long x2.toInt64, .long (0 : Int64), .long (40 : Int64)]) (rest := []) (q := 21) (okX6_in x2.toInt64 (0 : Int64) (40 : Int64)) rfl calX6_in ml6_89 (by decide) rfl rfl (Nat.le_of_ble_eq_true rfl) dX6_behind_18 rfl (fun z3 => ?_)
    refine ep_if (pt := 36) (pf := 24) (fun _ _ _ _ _ _ => ev_if_eq (tgt := 36) dX6_behind_21 (by decide)) (fun h4 => ?_) (fun h4 => ?_)
    · refine ep_sub (lv' := [(0, .ref a0)]) [0] rfl ?_
      exact okX6_behind_36 p t ob a0 e0
    · refine ep_iload_n (q := 25) 3 dX6_behind_24 rfl rfl rfl ?_
      refine ep_i2l (v := x3.toInt64) (q := 26) dX6_behind_25 rfl rfl ?_
      refine ep_lconst (v := (0 : Int64)) (q := 27) dX6_behind_26 (by decide) rfl ?_
      refine ep_ldc2 (v := (3 : Int64)) (q := 30) k6_132 dX6_behind_27 rfl ?_
      refine ep_invPI (s := t.2 p) (As := [.long x3.toInt64, .long (0 : Int64), .long (3 : Int64)]) (rest := []) (q := 33) (okX6_in x3.toInt64 (0 : Int64) (3 : Int64)) rfl calX6_in ml6_89 (by decide) rfl rfl (Nat.le_of_ble_eq_true rfl) dX6_behind_30 rfl (fun z5 => ?_)
      refine ep_if (pt := 36) (pf := 43) (fun _ _ _ _ _ _ kt kf => ev_if_ne (tgt := 43) dX6_behind_33 (by decide) kf kt) (fun h6 => ?_) (fun h6 => ?_)
      · refine ep_sub (lv' := [(0, .ref a0)]) [0] rfl ?_
        exact okX6_behind_36 p t ob a0 e0
      · refine ep_aload_n (q := 44) 0 dX6_behind_43 rfl rfl rfl ?_
        refine ep_iload_n (q := 45) 1 dX6_behind_44 rfl rfl rfl ?_
        refine ep_iload_n (q := 46) 2 dX6_behind_45 rfl rfl rfl ?_
        refine ep_invVI1 (As := [.int x1, .int x2]) (rest := []) (q := 49) e0 (okX6_noActs x1 x2) rfl calX6_noActs ml6_368 (by decide) rfl rfl (Nat.le_of_ble_eq_true rfl) dX6_behind_46 rfl (fun z7 => ?_)
        refine ep_istore (lv' := [(4, .int z7.1), (0, .ref a0), (1, .int x1), (2, .int x2), (3, .int x3)]) (q := 51) dX6_behind_49 (by decide) rfl rfl ?_
        refine ep_iload (q := 53) 0 dX6_behind_51 rfl rfl ?_
        refine ep_if (pt := 59) (pf := 56) (fun _ _ _ _ _ _ => ev_if_eq (tgt := 59) dX6_behind_53 (by decide)) (fun h8 => ?_) (fun h8 => ?_)
        · refine ep_aload_n (q := 60) 1 dX6_behind_59 rfl rfl rfl ?_
          refine ep_aload_n (q := 61) 1 dX6_behind_60 rfl rfl rfl ?_
          refine ep_getR (k := 4) (q := 64) e0 fl6_21 rfl rfl rfl dX6_behind_61 rfl ?_
          refine ep_iload_n (q := 65) 2 dX6_behind_64 rfl rfl rfl ?_
          refine ep_guard (fun g9 => ?_)
          refine ep_aaload (z := 5 + x1.toNatClampNeg) (q := 66) e0 rfl (by decide) lyR_t4 g9 dX6_behind_65 rfl rfl ?_
          refine ep_iload_n (q := 67) 3 dX6_behind_66 rfl rfl rfl ?_
          refine ep_invVI1 (As := [.ref (a0 + (5 + x1.toNatClampNeg)), .int x2]) (rest := []) (q := 70) e0 (okX6_wrongIn x1.toNatClampNeg x2) rfl calX6_wrongIn ml6_372 (by decide) rfl rfl (Nat.le_of_ble_eq_true rfl) dX6_behind_67 rfl (fun z10 => ?_)
          refine ep_iconst (v := (-1 : Int32)) (q := 71) dX6_behind_70 (by decide) rfl ?_
          refine ep_if (pt := 81) (pf := 74) (fun _ _ _ _ _ _ => ev_icmp_eq (tgt := 81) dX6_behind_71 (by decide)) (fun h11 => ?_) (fun h11 => ?_)
          · refine ep_aload_n (q := 82) 1 dX6_behind_81 rfl rfl rfl ?_
            refine ep_fresh (rest := []) (q := 85) e0 (okX6_fresh_f p) rfl calX6_fresh ml6_247 (by decide) rfl (Nat.le_of_ble_eq_true rfl) dX6_behind_82 rfl (fun z12 obz12 yz12 _ mvz12 ez12 => ?_)
            refine ep_astore (lv' := [(5, .ref yz12), (4, .int z7.1), (0, .ref a0), (1, .int x1), (2, .int x2), (3, .int x3)]) (q := 87) dX6_behind_85 (by decide) rfl rfl ?_
            refine ep_iconst (v := (0 : Int32)) (q := 88) dX6_behind_87 (by decide) rfl ?_
            refine ep_istore (lv' := [(6, .int (0 : Int32)), (5, .ref yz12), (4, .int z7.1), (0, .ref a0), (1, .int x1), (2, .int x2), (3, .int x3)]) (q := 90) dX6_behind_88 (by decide) rfl rfl ?_
            refine ep_sub (lv' := [(0, .ref a0), (1, .int x1), (2, .int x2), (3, .int x3), (5, .ref yz12), (6, .int (0 : Int32))]) [3, 4, 5, 6, 1, 0] rfl ?_
            exact okX6_behind_90 p FU x1 x2 x3 (0 : Int32) z12.2 obz12 a0 (mvz12 _ _ e0) yz12 ez12
          · refine ep_aload_n (q := 75) 1 dX6_behind_74 rfl rfl rfl ?_
            refine ep_bipush (v := (-5 : Int32)) (q := 77) dX6_behind_75 (by decide) rfl ?_
            refine ep_invVI1 (As := [.int (-5 : Int32)]) (rest := []) (q := 80) e0 (okX6_refuse (-5 : Int32)) rfl calX6_refuse ml6_102 (by decide) rfl rfl (Nat.le_of_ble_eq_true rfl) dX6_behind_77 rfl (fun z13 => ?_)
            exact ep_iret rfl dX6_behind_80
        · refine ep_iload (q := 58) 0 dX6_behind_56 rfl rfl ?_
          exact ep_iret rfl dX6_behind_58
theorem okX6_behind (p : List Nat) (x1 : Int32) (x2 : Int32) (x3 : Int32) : MtP 4 mX6_behind rwI p (fun a => [.ref a, .int x1, .int x2, .int x3]) (fX6_behind p x1 x2 x3) := by
  refine MtP.of (by decide +kernel) rfl (fun _ => Nat.le_of_ble_eq_true rfl) (fun G X ob t h a e => ?_)
  refine ep_sub (lv := [(0, .ref a), (1, .int x1), (2, .int x2), (3, .int x3)]) (lv' := [(0, .ref a), (1, .int x1), (2, .int x2), (3, .int x3)]) [0, 1, 2, 3] rfl ?_
  exact okX6_behind_0 p x1 x2 x3 t ob a e
-- X6_licksTruly
theorem dX6_licksTruly_0 : decode cX6_licksTruly 0 = .ok (.iconst 0, 1) := by decide +kernel
theorem dX6_licksTruly_1 : decode cX6_licksTruly 1 = .ok (.istore_n 3, 1) := by decide +kernel
theorem dX6_licksTruly_2 : decode cX6_licksTruly 2 = .ok (.iload_n 3, 1) := by decide +kernel
theorem dX6_licksTruly_3 : decode cX6_licksTruly 3 = .ok (.iload_n 2, 1) := by decide +kernel
theorem dX6_licksTruly_4 : decode cX6_licksTruly 4 = .ok (.if_icmp .ge 19, 3) := by decide +kernel
theorem dX6_licksTruly_7 : decode cX6_licksTruly 7 = .ok (.aload_n 0, 1) := by decide +kernel
theorem dX6_licksTruly_8 : decode cX6_licksTruly 8 = .ok (.aload_n 0, 1) := by decide +kernel
theorem dX6_licksTruly_9 : decode cX6_licksTruly 9 = .ok (.iload_n 1, 1) := by decide +kernel
theorem dX6_licksTruly_10 : decode cX6_licksTruly 10 = .ok (.invokevirtual 123, 3) := by decide +kernel
theorem dX6_licksTruly_13 : decode cX6_licksTruly 13 = .ok (.iconst 1, 1) := by decide +kernel
theorem dX6_licksTruly_14 : decode cX6_licksTruly 14 = .ok (.invokevirtual 212, 3) := by decide +kernel
theorem dX6_licksTruly_17 : decode cX6_licksTruly 17 = .ok (.iinc 3 1, 3) := by decide +kernel
theorem dX6_licksTruly_20 : decode cX6_licksTruly 20 = .ok (.goto (-18), 3) := by decide +kernel
theorem dX6_licksTruly_23 : decode cX6_licksTruly 23 = .ok (.return_, 1) := by decide +kernel
def fX6_licksTruly_2 (p : List Nat) : Nat → Int32 → Int32 → Int32 → TF → Option (Unit × TF)
  | 0, _, _, _, _ => none
  | n + 1, x1, x2, x3, t => if x2 ≤ x3 then (some ((), t)) else (((fX6_wouldBe p x1 t).bind fun z2 => ((fX6_goes z2.1 (1 : Int32) (z2.2.2 p)).bind fun z3 => fX6_licksTruly_2 p n x1 x2 (x3 + (1 : Int32)) (wrT z2.2 p z3.2))))
def fX6_licksTruly_0 (p : List Nat) (x1 : Int32) (x2 : Int32) (t : TF) : Option (Unit × TF) := fX6_licksTruly_2 p FU x1 x2 (0 : Int32) t
def fX6_licksTruly (p : List Nat) (x1 : Int32) (x2 : Int32) (t : TF) : Option (Unit × TF) := fX6_licksTruly_0 p x1 x2 t
set_option maxRecDepth 100000 in
set_option maxHeartbeats 4000000 in
theorem okX6_licksTruly_2 {G : GG} {X : Nat → Prop} {ob0 : List Nat → Nat} {t0 : TF} {h00 : PH} (p : List Nat) : ∀ (n : Nat) (x1 : Int32) (x2 : Int32) (x3 : Int32) (t : TF) (ob : List Nat → Nat) (a0 : Nat) (e0 : AtF ob t (p) a0), EvP G 10 mX6_licksTruly X ob0 t0 h00 rwU (fX6_licksTruly_2 p n x1 x2 x3 t) 2 [(0, .ref a0), (1, .int x1), (2, .int x2), (3, .int x3)] [] t ob := by
  intro n
  induction n with
  | zero => intro x1 x2 x3 t ob a0 e0; rw [fX6_licksTruly_2]; exact ep_none
  | succ n ih =>
    intro x1 x2 x3 t ob a0 e0
    rw [fX6_licksTruly_2]
    refine ep_iload_n (q := 3) 3 dX6_licksTruly_2 rfl rfl rfl ?_
    refine ep_iload_n (q := 4) 2 dX6_licksTruly_3 rfl rfl rfl ?_
    refine ep_if (pt := 23) (pf := 7) (fun _ _ _ _ _ _ => ev_icmp_ge (tgt := 23) dX6_licksTruly_4 (by decide)) (fun h1 => ?_) (fun h1 => ?_)
    · exact ep_vret rfl dX6_licksTruly_23
    · refine ep_aload_n (q := 8) 0 dX6_licksTruly_7 rfl rfl rfl ?_
      refine ep_aload_n (q := 9) 0 dX6_licksTruly_8 rfl rfl rfl ?_
      refine ep_iload_n (q := 10) 1 dX6_licksTruly_9 rfl rfl rfl ?_
      refine ep_invVIP (As := [.int x1]) (rest := [.ref a0]) (q := 13) e0 (okX6_wouldBe p x1) rfl calX6_wouldBe ml6_123 (by decide) rfl rfl (Nat.le_of_ble_eq_true rfl) dX6_licksTruly_10 rfl (fun z2 obz2 _ mvz2 => ?_)
      refine ep_iconst (v := (1 : Int32)) (q := 14) dX6_licksTruly_13 (by decide) rfl ?_
      refine ep_invVU1 (As := [.int z2.1, .int (1 : Int32)]) (rest := []) (q := 17) (mvz2 _ _ e0) (okX6_goes z2.1 (1 : Int32)) rfl calX6_goes ml6_212 (by decide) rfl rfl (Nat.le_of_ble_eq_true rfl) dX6_licksTruly_14 rfl (fun z3 => ?_)
      refine ep_iinc (v := x3 + (1 : Int32)) (lv' := [(3, .int (x3 + (1 : Int32))), (0, .ref a0), (1, .int x1), (2, .int x2)]) (q := 20) 3 dX6_licksTruly_17 rfl rfl (by decide) rfl rfl ?_
      refine ep_goto (tgt := 2) dX6_licksTruly_20 (by decide) ?_
      refine ep_sub (lv' := [(0, .ref a0), (1, .int x1), (2, .int x2), (3, .int (x3 + (1 : Int32)))]) [1, 2, 3, 0] rfl ?_
      exact ih x1 x2 (x3 + (1 : Int32)) (wrT z2.2 p z3.2) obz2 a0 (mvz2 _ _ e0)
set_option maxRecDepth 100000 in
set_option maxHeartbeats 4000000 in
theorem okX6_licksTruly_0 {G : GG} {X : Nat → Prop} {ob0 : List Nat → Nat} {t0 : TF} {h00 : PH} (p : List Nat) (x1 : Int32) (x2 : Int32) (t : TF) (ob : List Nat → Nat) (a0 : Nat) (e0 : AtF ob t (p) a0) : EvP G 10 mX6_licksTruly X ob0 t0 h00 rwU (fX6_licksTruly_0 p x1 x2 t) 0 [(0, .ref a0), (1, .int x1), (2, .int x2)] [] t ob := by
  unfold fX6_licksTruly_0
  refine ep_iconst (v := (0 : Int32)) (q := 1) dX6_licksTruly_0 (by decide) rfl ?_
  refine ep_istore_n (lv' := [(3, .int (0 : Int32)), (0, .ref a0), (1, .int x1), (2, .int x2)]) (q := 2) dX6_licksTruly_1 rfl (by decide) rfl rfl ?_
  refine ep_sub (lv' := [(0, .ref a0), (1, .int x1), (2, .int x2), (3, .int (0 : Int32))]) [1, 2, 3, 0] rfl ?_
  exact okX6_licksTruly_2 p FU x1 x2 (0 : Int32) t ob a0 e0
theorem okX6_licksTruly (p : List Nat) (x1 : Int32) (x2 : Int32) : MtP 10 mX6_licksTruly rwU p (fun a => [.ref a, .int x1, .int x2]) (fX6_licksTruly p x1 x2) := by
  refine MtP.of (by decide +kernel) rfl (fun _ => Nat.le_of_ble_eq_true rfl) (fun G X ob t h a e => ?_)
  refine ep_sub (lv := [(0, .ref a), (1, .int x1), (2, .int x2)]) (lv' := [(0, .ref a), (1, .int x1), (2, .int x2)]) [0, 1, 2] rfl ?_
  exact okX6_licksTruly_0 p x1 x2 t ob a e
-- X6_licks
theorem dX6_licks_0 : decode cX6_licks 0 = .ok (.aload_n 0, 1) := by decide +kernel
theorem dX6_licks_1 : decode cX6_licks 1 = .ok (.iload_n 1, 1) := by decide +kernel
theorem dX6_licks_2 : decode cX6_licks 2 = .ok (.invokevirtual 113, 3) := by decide +kernel
theorem dX6_licks_5 : decode cX6_licks 5 = .ok (.ifCond .eq 15, 3) := by decide +kernel
theorem dX6_licks_8 : decode cX6_licks 8 = .ok (.iload_n 2, 1) := by decide +kernel
theorem dX6_licks_9 : decode cX6_licks 9 = .ok (.i2l, 1) := by decide +kernel
theorem dX6_licks_10 : decode cX6_licks 10 = .ok (.lconst 1, 1) := by decide +kernel
theorem dX6_licks_11 : decode cX6_licks 11 = .ok (.ldc2_w 376, 3) := by decide +kernel
theorem dX6_licks_14 : decode cX6_licks 14 = .ok (.invokestatic 89, 3) := by decide +kernel
theorem dX6_licks_17 : decode cX6_licks 17 = .ok (.ifCond .ne 10, 3) := by decide +kernel
theorem dX6_licks_20 : decode cX6_licks 20 = .ok (.aload_n 0, 1) := by decide +kernel
theorem dX6_licks_21 : decode cX6_licks 21 = .ok (.bipush (-2), 2) := by decide +kernel
theorem dX6_licks_23 : decode cX6_licks 23 = .ok (.invokevirtual 102, 3) := by decide +kernel
theorem dX6_licks_26 : decode cX6_licks 26 = .ok (.ireturn, 1) := by decide +kernel
theorem dX6_licks_27 : decode cX6_licks 27 = .ok (.aload_n 0, 1) := by decide +kernel
theorem dX6_licks_28 : decode cX6_licks 28 = .ok (.getfield 274, 3) := by decide +kernel
theorem dX6_licks_31 : decode cX6_licks 31 = .ok (.istore_n 3, 1) := by decide +kernel
theorem dX6_licks_32 : decode cX6_licks 32 = .ok (.aload_n 0, 1) := by decide +kernel
theorem dX6_licks_33 : decode cX6_licks 33 = .ok (.iload_n 1, 1) := by decide +kernel
theorem dX6_licks_34 : decode cX6_licks 34 = .ok (.iload_n 2, 1) := by decide +kernel
theorem dX6_licks_35 : decode cX6_licks 35 = .ok (.invokevirtual 378, 3) := by decide +kernel
theorem dX6_licks_38 : decode cX6_licks 38 = .ok (.aload_n 0, 1) := by decide +kernel
theorem dX6_licks_39 : decode cX6_licks 39 = .ok (.getfield 274, 3) := by decide +kernel
theorem dX6_licks_42 : decode cX6_licks 42 = .ok (.iload_n 3, 1) := by decide +kernel
theorem dX6_licks_43 : decode cX6_licks 43 = .ok (.isub, 1) := by decide +kernel
theorem dX6_licks_44 : decode cX6_licks 44 = .ok (.ireturn, 1) := by decide +kernel
def fX6_licks_20 (p : List Nat) (t : TF) : Option (Int32 × TF) := ((fX6_refuse (-2 : Int32) (t.2 p)).bind fun z1 => some (z1.1, wrT t p z1.2))
def fX6_licks_0 (p : List Nat) (x1 : Int32) (x2 : Int32) (t : TF) : Option (Int32 × TF) := ((fX6_isLicker x1 (t.2 p)).bind fun z1 => if z1.1 = 0 then (fX6_licks_20 p (wrT t p z1.2)) else (((fX6_in x2.toInt64 (1 : Int64) (60 : Int64) ((wrT t p z1.2).2 p)).bind fun z3 => if z3.1 = 0 then (fX6_licks_20 p (wrT t p z1.2)) else (((fX6_licksTruly p x1 x2 (wrT t p z1.2)).bind fun z5 => some (((z5.2.2 p).1 0 20) - (((wrT t p z1.2).2 p).1 0 20), z5.2))))))
def fX6_licks (p : List Nat) (x1 : Int32) (x2 : Int32) (t : TF) : Option (Int32 × TF) := fX6_licks_0 p x1 x2 t
set_option maxRecDepth 100000 in
set_option maxHeartbeats 4000000 in
theorem okX6_licks_20 {G : GG} {X : Nat → Prop} {ob0 : List Nat → Nat} {t0 : TF} {h00 : PH} (p : List Nat) (t : TF) (ob : List Nat → Nat) (a0 : Nat) (e0 : AtF ob t (p) a0) : EvP G 11 mX6_licks X ob0 t0 h00 rwI (fX6_licks_20 p t) 20 [(0, .ref a0)] [] t ob := by
  unfold fX6_licks_20
  refine ep_aload_n (q := 21) 0 dX6_licks_20 rfl rfl rfl ?_
  refine ep_bipush (v := (-2 : Int32)) (q := 23) dX6_licks_21 (by decide) rfl ?_
  refine ep_invVI1 (As := [.int (-2 : Int32)]) (rest := []) (q := 26) e0 (okX6_refuse (-2 : Int32)) rfl calX6_refuse ml6_102 (by decide) rfl rfl (Nat.le_of_ble_eq_true rfl) dX6_licks_23 rfl (fun z1 => ?_)
  exact ep_iret rfl dX6_licks_26
set_option maxRecDepth 100000 in
set_option maxHeartbeats 4000000 in
theorem okX6_licks_0 {G : GG} {X : Nat → Prop} {ob0 : List Nat → Nat} {t0 : TF} {h00 : PH} (p : List Nat) (x1 : Int32) (x2 : Int32) (t : TF) (ob : List Nat → Nat) (a0 : Nat) (e0 : AtF ob t (p) a0) : EvP G 11 mX6_licks X ob0 t0 h00 rwI (fX6_licks_0 p x1 x2 t) 0 [(0, .ref a0), (1, .int x1), (2, .int x2)] [] t ob := by
  unfold fX6_licks_0
  refine ep_aload_n (q := 1) 0 dX6_licks_0 rfl rfl rfl ?_
  refine ep_iload_n (q := 2) 1 dX6_licks_1 rfl rfl rfl ?_
  refine ep_invVI1 (As := [.int x1]) (rest := []) (q := 5) e0 (okX6_isLicker x1) rfl calX6_isLicker ml6_113 (by decide) rfl rfl (Nat.le_of_ble_eq_true rfl) dX6_licks_2 rfl (fun z1 => ?_)
  refine ep_if (pt := 20) (pf := 8) (fun _ _ _ _ _ _ => ev_if_eq (tgt := 20) dX6_licks_5 (by decide)) (fun h2 => ?_) (fun h2 => ?_)
  · refine ep_sub (lv' := [(0, .ref a0)]) [0] rfl ?_
    exact okX6_licks_20 p (wrT t p z1.2) ob a0 e0
  · refine ep_iload_n (q := 9) 2 dX6_licks_8 rfl rfl rfl ?_
    refine ep_i2l (v := x2.toInt64) (q := 10) dX6_licks_9 rfl rfl ?_
    refine ep_lconst (v := (1 : Int64)) (q := 11) dX6_licks_10 (by decide) rfl ?_
    refine ep_ldc2 (v := (60 : Int64)) (q := 14) k6_376 dX6_licks_11 rfl ?_
    refine ep_invPI (s := (wrT t p z1.2).2 p) (As := [.long x2.toInt64, .long (1 : Int64), .long (60 : Int64)]) (rest := []) (q := 17) (okX6_in x2.toInt64 (1 : Int64) (60 : Int64)) rfl calX6_in ml6_89 (by decide) rfl rfl (Nat.le_of_ble_eq_true rfl) dX6_licks_14 rfl (fun z3 => ?_)
    refine ep_if (pt := 20) (pf := 27) (fun _ _ _ _ _ _ kt kf => ev_if_ne (tgt := 27) dX6_licks_17 (by decide) kf kt) (fun h4 => ?_) (fun h4 => ?_)
    · refine ep_sub (lv' := [(0, .ref a0)]) [0] rfl ?_
      exact okX6_licks_20 p (wrT t p z1.2) ob a0 e0
    · refine ep_aload_n (q := 28) 0 dX6_licks_27 rfl rfl rfl ?_
      refine ep_getI (x := ((wrT t p z1.2).2 p).1 0 20) (q := 31) e0 fl6_274 rfl rfl dX6_licks_28 rfl ?_
      refine ep_istore_n (lv' := [(3, .int (((wrT t p z1.2).2 p).1 0 20)), (0, .ref a0), (1, .int x1), (2, .int x2)]) (q := 32) dX6_licks_31 rfl (by decide) rfl rfl ?_
      refine ep_aload_n (q := 33) 1 dX6_licks_32 rfl rfl rfl ?_
      refine ep_iload_n (q := 34) 2 dX6_licks_33 rfl rfl rfl ?_
      refine ep_iload_n (q := 35) 3 dX6_licks_34 rfl rfl rfl ?_
      refine ep_invVUP (As := [.int x1, .int x2]) (rest := []) (q := 38) e0 (okX6_licksTruly p x1 x2) rfl calX6_licksTruly ml6_378 (by decide) rfl rfl (Nat.le_of_ble_eq_true rfl) dX6_licks_35 rfl (fun z5 obz5 _ mvz5 => ?_)
      refine ep_aload_n (q := 39) 1 dX6_licks_38 rfl rfl rfl ?_
      refine ep_getI (x := (z5.2.2 p).1 0 20) (q := 42) (mvz5 _ _ e0) fl6_274 rfl rfl dX6_licks_39 rfl ?_
      refine ep_iload_n (q := 43) 0 dX6_licks_42 rfl rfl rfl ?_
      refine ep_isub (q := 44) dX6_licks_43 rfl ?_
      exact ep_iret rfl dX6_licks_44
theorem okX6_licks (p : List Nat) (x1 : Int32) (x2 : Int32) : MtP 11 mX6_licks rwI p (fun a => [.ref a, .int x1, .int x2]) (fX6_licks p x1 x2) := by
  refine MtP.of (by decide +kernel) rfl (fun _ => Nat.le_of_ble_eq_true rfl) (fun G X ob t h a e => ?_)
  refine ep_sub (lv := [(0, .ref a), (1, .int x1), (2, .int x2)]) (lv' := [(0, .ref a), (1, .int x1), (2, .int x2)]) [0, 1, 2] rfl ?_
  exact okX6_licks_0 p x1 x2 t ob a e
-- X6_swap
theorem dX6_swap_0 : decode cX6_swap 0 = .ok (.aload_n 0, 1) := by decide +kernel
theorem dX6_swap_1 : decode cX6_swap 1 = .ok (.iload_n 1, 1) := by decide +kernel
theorem dX6_swap_2 : decode cX6_swap 2 = .ok (.invokevirtual 258, 3) := by decide +kernel
theorem dX6_swap_5 : decode cX6_swap 5 = .ok (.ifCond .eq 11, 3) := by decide +kernel
theorem dX6_swap_8 : decode cX6_swap 8 = .ok (.aload_n 0, 1) := by decide +kernel
theorem dX6_swap_9 : decode cX6_swap 9 = .ok (.iload_n 2, 1) := by decide +kernel
theorem dX6_swap_10 : decode cX6_swap 10 = .ok (.invokevirtual 258, 3) := by decide +kernel
theorem dX6_swap_13 : decode cX6_swap 13 = .ok (.ifCond .ne 10, 3) := by decide +kernel
theorem dX6_swap_16 : decode cX6_swap 16 = .ok (.aload_n 0, 1) := by decide +kernel
theorem dX6_swap_17 : decode cX6_swap 17 = .ok (.bipush (-2), 2) := by decide +kernel
theorem dX6_swap_19 : decode cX6_swap 19 = .ok (.invokevirtual 102, 3) := by decide +kernel
theorem dX6_swap_22 : decode cX6_swap 22 = .ok (.ireturn, 1) := by decide +kernel
theorem dX6_swap_23 : decode cX6_swap 23 = .ok (.iload_n 1, 1) := by decide +kernel
theorem dX6_swap_24 : decode cX6_swap 24 = .ok (.iload_n 2, 1) := by decide +kernel
theorem dX6_swap_25 : decode cX6_swap 25 = .ok (.if_icmp .ne 5, 3) := by decide +kernel
theorem dX6_swap_28 : decode cX6_swap 28 = .ok (.iconst 0, 1) := by decide +kernel
theorem dX6_swap_29 : decode cX6_swap 29 = .ok (.ireturn, 1) := by decide +kernel
theorem dX6_swap_30 : decode cX6_swap 30 = .ok (.aload_n 0, 1) := by decide +kernel
theorem dX6_swap_31 : decode cX6_swap 31 = .ok (.invokevirtual 247, 3) := by decide +kernel
theorem dX6_swap_34 : decode cX6_swap 34 = .ok (.astore_n 3, 1) := by decide +kernel
theorem dX6_swap_35 : decode cX6_swap 35 = .ok (.aload_n 0, 1) := by decide +kernel
theorem dX6_swap_36 : decode cX6_swap 36 = .ok (.aload_n 3, 1) := by decide +kernel
theorem dX6_swap_37 : decode cX6_swap 37 = .ok (.iload_n 1, 1) := by decide +kernel
theorem dX6_swap_38 : decode cX6_swap 38 = .ok (.iload_n 2, 1) := by decide +kernel
theorem dX6_swap_39 : decode cX6_swap 39 = .ok (.invokevirtual 357, 3) := by decide +kernel
theorem dX6_swap_42 : decode cX6_swap 42 = .ok (.aload_n 0, 1) := by decide +kernel
theorem dX6_swap_43 : decode cX6_swap 43 = .ok (.aload_n 3, 1) := by decide +kernel
theorem dX6_swap_44 : decode cX6_swap 44 = .ok (.iload_n 2, 1) := by decide +kernel
theorem dX6_swap_45 : decode cX6_swap 45 = .ok (.iload_n 1, 1) := by decide +kernel
theorem dX6_swap_46 : decode cX6_swap 46 = .ok (.invokevirtual 357, 3) := by decide +kernel
theorem dX6_swap_49 : decode cX6_swap 49 = .ok (.iconst 1, 1) := by decide +kernel
theorem dX6_swap_50 : decode cX6_swap 50 = .ok (.ireturn, 1) := by decide +kernel
def fX6_swap_16 (p : List Nat) (t : TF) : Option (Int32 × TF) := ((fX6_refuse (-2 : Int32) (t.2 p)).bind fun z1 => some (z1.1, wrT t p z1.2))
def fX6_swap_0 (p : List Nat) (x1 : Int32) (x2 : Int32) (t : TF) : Option (Int32 × TF) := ((fX6_isScoop x1 (t.2 p)).bind fun z1 => if z1.1 = 0 then (fX6_swap_16 p (wrT t p z1.2)) else (((fX6_isScoop x2 ((wrT t p z1.2).2 p)).bind fun z3 => if z3.1 = 0 then (fX6_swap_16 p (wrT (wrT t p z1.2) p z3.2)) else (if x1 = x2 then (some ((0 : Int32), wrT (wrT t p z1.2) p z3.2)) else (((fX6_fresh p (wrT (wrT t p z1.2) p z3.2)).bind fun z6 => ((fX6_putFrom x1 x2 (prS (z6.2.2 p) (z6.2.2 (9 :: p)))).bind fun z7 => ((fX6_putFrom x2 x1 (prS ((wrT (wrT z6.2 p z7.2) (9 :: p) (snS z7.2)).2 p) ((wrT (wrT z6.2 p z7.2) (9 :: p) (snS z7.2)).2 (9 :: p)))).bind fun z8 => some ((1 : Int32), wrT (wrT (wrT (wrT z6.2 p z7.2) (9 :: p) (snS z7.2)) p z8.2) (9 :: p) (snS z8.2))))))))))
def fX6_swap (p : List Nat) (x1 : Int32) (x2 : Int32) (t : TF) : Option (Int32 × TF) := fX6_swap_0 p x1 x2 t
set_option maxRecDepth 100000 in
set_option maxHeartbeats 4000000 in
theorem okX6_swap_16 {G : GG} {X : Nat → Prop} {ob0 : List Nat → Nat} {t0 : TF} {h00 : PH} (p : List Nat) (t : TF) (ob : List Nat → Nat) (a0 : Nat) (e0 : AtF ob t (p) a0) : EvP G 4 mX6_swap X ob0 t0 h00 rwI (fX6_swap_16 p t) 16 [(0, .ref a0)] [] t ob := by
  unfold fX6_swap_16
  refine ep_aload_n (q := 17) 0 dX6_swap_16 rfl rfl rfl ?_
  refine ep_bipush (v := (-2 : Int32)) (q := 19) dX6_swap_17 (by decide) rfl ?_
  refine ep_invVI1 (As := [.int (-2 : Int32)]) (rest := []) (q := 22) e0 (okX6_refuse (-2 : Int32)) rfl calX6_refuse ml6_102 (by decide) rfl rfl (Nat.le_of_ble_eq_true rfl) dX6_swap_19 rfl (fun z1 => ?_)
  exact ep_iret rfl dX6_swap_22
set_option maxRecDepth 100000 in
set_option maxHeartbeats 4000000 in
theorem okX6_swap_0 {G : GG} {X : Nat → Prop} {ob0 : List Nat → Nat} {t0 : TF} {h00 : PH} (p : List Nat) (x1 : Int32) (x2 : Int32) (t : TF) (ob : List Nat → Nat) (a0 : Nat) (e0 : AtF ob t (p) a0) : EvP G 4 mX6_swap X ob0 t0 h00 rwI (fX6_swap_0 p x1 x2 t) 0 [(0, .ref a0), (1, .int x1), (2, .int x2)] [] t ob := by
  unfold fX6_swap_0
  refine ep_aload_n (q := 1) 0 dX6_swap_0 rfl rfl rfl ?_
  refine ep_iload_n (q := 2) 1 dX6_swap_1 rfl rfl rfl ?_
  refine ep_invVI1 (As := [.int x1]) (rest := []) (q := 5) e0 (okX6_isScoop x1) rfl calX6_isScoop ml6_258 (by decide) rfl rfl (Nat.le_of_ble_eq_true rfl) dX6_swap_2 rfl (fun z1 => ?_)
  refine ep_if (pt := 16) (pf := 8) (fun _ _ _ _ _ _ => ev_if_eq (tgt := 16) dX6_swap_5 (by decide)) (fun h2 => ?_) (fun h2 => ?_)
  · refine ep_sub (lv' := [(0, .ref a0)]) [0] rfl ?_
    exact okX6_swap_16 p (wrT t p z1.2) ob a0 e0
  · refine ep_aload_n (q := 9) 0 dX6_swap_8 rfl rfl rfl ?_
    refine ep_iload_n (q := 10) 2 dX6_swap_9 rfl rfl rfl ?_
    refine ep_invVI1 (As := [.int x2]) (rest := []) (q := 13) e0 (okX6_isScoop x2) rfl calX6_isScoop ml6_258 (by decide) rfl rfl (Nat.le_of_ble_eq_true rfl) dX6_swap_10 rfl (fun z3 => ?_)
    refine ep_if (pt := 16) (pf := 23) (fun _ _ _ _ _ _ kt kf => ev_if_ne (tgt := 23) dX6_swap_13 (by decide) kf kt) (fun h4 => ?_) (fun h4 => ?_)
    · refine ep_sub (lv' := [(0, .ref a0)]) [0] rfl ?_
      exact okX6_swap_16 p (wrT (wrT t p z1.2) p z3.2) ob a0 e0
    · refine ep_iload_n (q := 24) 1 dX6_swap_23 rfl rfl rfl ?_
      refine ep_iload_n (q := 25) 2 dX6_swap_24 rfl rfl rfl ?_
      refine ep_if (pt := 28) (pf := 30) (fun _ _ _ _ _ _ kt kf => ev_icmp_ne (tgt := 30) dX6_swap_25 (by decide) kf kt) (fun h5 => ?_) (fun h5 => ?_)
      · refine ep_iconst (v := (0 : Int32)) (q := 29) dX6_swap_28 (by decide) rfl ?_
        exact ep_iret rfl dX6_swap_29
      · refine ep_aload_n (q := 31) 0 dX6_swap_30 rfl rfl rfl ?_
        refine ep_fresh (rest := []) (q := 34) e0 (okX6_fresh_f p) rfl calX6_fresh ml6_247 (by decide) rfl (Nat.le_of_ble_eq_true rfl) dX6_swap_31 rfl (fun z6 obz6 yz6 _ mvz6 ez6 => ?_)
        refine ep_astore_n (lv' := [(3, .ref yz6), (0, .ref a0), (1, .int x1), (2, .int x2)]) (q := 35) dX6_swap_34 rfl (by decide) rfl rfl ?_
        refine ep_aload_n (q := 36) 1 dX6_swap_35 rfl rfl rfl ?_
        refine ep_aload_n (q := 37) 0 dX6_swap_36 rfl rfl rfl ?_
        refine ep_iload_n (q := 38) 2 dX6_swap_37 rfl rfl rfl ?_
        refine ep_iload_n (q := 39) 3 dX6_swap_38 rfl rfl rfl ?_
        refine ep_invVU2 (As := [.ref yz6, .int x1, .int x2]) (rest := []) (q := 42) (mvz6 _ _ e0) ez6 cne' (okX6_putFrom x1 x2) rfl calX6_putFrom ml6_357 (by decide) rfl rfl (Nat.le_of_ble_eq_true rfl) dX6_swap_39 rfl (fun z7 => ?_)
        refine ep_aload_n (q := 43) 1 dX6_swap_42 rfl rfl rfl ?_
        refine ep_aload_n (q := 44) 0 dX6_swap_43 rfl rfl rfl ?_
        refine ep_iload_n (q := 45) 3 dX6_swap_44 rfl rfl rfl ?_
        refine ep_iload_n (q := 46) 2 dX6_swap_45 rfl rfl rfl ?_
        refine ep_invVU2 (As := [.ref yz6, .int x2, .int x1]) (rest := []) (q := 49) (mvz6 _ _ e0) ez6 cne' (okX6_putFrom x2 x1) rfl calX6_putFrom ml6_357 (by decide) rfl rfl (Nat.le_of_ble_eq_true rfl) dX6_swap_46 rfl (fun z8 => ?_)
        refine ep_iconst (v := (1 : Int32)) (q := 50) dX6_swap_49 (by decide) rfl ?_
        exact ep_iret rfl dX6_swap_50
theorem okX6_swap (p : List Nat) (x1 : Int32) (x2 : Int32) : MtP 4 mX6_swap rwI p (fun a => [.ref a, .int x1, .int x2]) (fX6_swap p x1 x2) := by
  refine MtP.of (by decide +kernel) rfl (fun _ => Nat.le_of_ble_eq_true rfl) (fun G X ob t h a e => ?_)
  refine ep_sub (lv := [(0, .ref a), (1, .int x1), (2, .int x2)]) (lv' := [(0, .ref a), (1, .int x1), (2, .int x2)]) [0, 1, 2] rfl ?_
  exact okX6_swap_0 p x1 x2 t ob a e
-- X6_day
theorem dX6_day_0 : decode cX6_day 0 = .ok (.aload_n 0, 1) := by decide +kernel
theorem dX6_day_1 : decode cX6_day 1 = .ok (.iload_n 1, 1) := by decide +kernel
theorem dX6_day_2 : decode cX6_day 2 = .ok (.invokevirtual 113, 3) := by decide +kernel
theorem dX6_day_5 : decode cX6_day 5 = .ok (.ifCond .eq 15, 3) := by decide +kernel
theorem dX6_day_8 : decode cX6_day 8 = .ok (.iload_n 2, 1) := by decide +kernel
theorem dX6_day_9 : decode cX6_day 9 = .ok (.i2l, 1) := by decide +kernel
theorem dX6_day_10 : decode cX6_day 10 = .ok (.lconst 1, 1) := by decide +kernel
theorem dX6_day_11 : decode cX6_day 11 = .ok (.ldc2_w 376, 3) := by decide +kernel
theorem dX6_day_14 : decode cX6_day 14 = .ok (.invokestatic 89, 3) := by decide +kernel
theorem dX6_day_17 : decode cX6_day 17 = .ok (.ifCond .ne 10, 3) := by decide +kernel
theorem dX6_day_20 : decode cX6_day 20 = .ok (.aload_n 0, 1) := by decide +kernel
theorem dX6_day_21 : decode cX6_day 21 = .ok (.bipush (-2), 2) := by decide +kernel
theorem dX6_day_23 : decode cX6_day 23 = .ok (.invokevirtual 102, 3) := by decide +kernel
theorem dX6_day_26 : decode cX6_day 26 = .ok (.ireturn, 1) := by decide +kernel
theorem dX6_day_27 : decode cX6_day 27 = .ok (.aload_n 0, 1) := by decide +kernel
theorem dX6_day_28 : decode cX6_day 28 = .ok (.getfield 283, 3) := by decide +kernel
theorem dX6_day_31 : decode cX6_day 31 = .ok (.istore_n 3, 1) := by decide +kernel
theorem dX6_day_32 : decode cX6_day 32 = .ok (.aload_n 0, 1) := by decide +kernel
theorem dX6_day_33 : decode cX6_day 33 = .ok (.aload_n 0, 1) := by decide +kernel
theorem dX6_day_34 : decode cX6_day 34 = .ok (.sipush 256, 3) := by decide +kernel
theorem dX6_day_37 : decode cX6_day 37 = .ok (.invokevirtual 382, 3) := by decide +kernel
theorem dX6_day_40 : decode cX6_day 40 = .ok (.iconst 1, 1) := by decide +kernel
theorem dX6_day_41 : decode cX6_day 41 = .ok (.aload_n 0, 1) := by decide +kernel
theorem dX6_day_42 : decode cX6_day 42 = .ok (.getfield 37, 3) := by decide +kernel
theorem dX6_day_45 : decode cX6_day 45 = .ok (.ishl, 1) := by decide +kernel
theorem dX6_day_46 : decode cX6_day 46 = .ok (.iconst 1, 1) := by decide +kernel
theorem dX6_day_47 : decode cX6_day 47 = .ok (.isub, 1) := by decide +kernel
theorem dX6_day_48 : decode cX6_day 48 = .ok (.iand, 1) := by decide +kernel
theorem dX6_day_49 : decode cX6_day 49 = .ok (.putfield 129, 3) := by decide +kernel
theorem dX6_day_52 : decode cX6_day 52 = .ok (.aload_n 0, 1) := by decide +kernel
theorem dX6_day_53 : decode cX6_day 53 = .ok (.iload_n 1, 1) := by decide +kernel
theorem dX6_day_54 : decode cX6_day 54 = .ok (.iload_n 2, 1) := by decide +kernel
theorem dX6_day_55 : decode cX6_day 55 = .ok (.invokevirtual 378, 3) := by decide +kernel
theorem dX6_day_58 : decode cX6_day 58 = .ok (.aload_n 0, 1) := by decide +kernel
theorem dX6_day_59 : decode cX6_day 59 = .ok (.getfield 283, 3) := by decide +kernel
theorem dX6_day_62 : decode cX6_day 62 = .ok (.iload_n 3, 1) := by decide +kernel
theorem dX6_day_63 : decode cX6_day 63 = .ok (.isub, 1) := by decide +kernel
theorem dX6_day_64 : decode cX6_day 64 = .ok (.ireturn, 1) := by decide +kernel
def fX6_day_20 (p : List Nat) (t : TF) : Option (Int32 × TF) := ((fX6_refuse (-2 : Int32) (t.2 p)).bind fun z1 => some (z1.1, wrT t p z1.2))
def fX6_day_0 (p : List Nat) (x1 : Int32) (x2 : Int32) (t : TF) : Option (Int32 × TF) := ((fX6_isLicker x1 (t.2 p)).bind fun z1 => if z1.1 = 0 then (fX6_day_20 p (wrT t p z1.2)) else (((fX6_in x2.toInt64 (1 : Int64) (60 : Int64) ((wrT t p z1.2).2 p)).bind fun z3 => if z3.1 = 0 then (fX6_day_20 p (wrT t p z1.2)) else (((fX6_below (256 : Int32) ((wrT t p z1.2).2 p)).bind fun z5 => ((fX6_licksTruly p x1 x2 (wTI (wrT (wrT t p z1.2) p z5.2) p 0 16 (z5.1 &&& (((1 : Int32) <<< ((((wrT (wrT t p z1.2) p z5.2).2 p).1 0 9) &&& 31)) - (1 : Int32))))).bind fun z6 => some (((z6.2.2 p).1 0 19) - (((wrT t p z1.2).2 p).1 0 19), z6.2)))))))
def fX6_day (p : List Nat) (x1 : Int32) (x2 : Int32) (t : TF) : Option (Int32 × TF) := fX6_day_0 p x1 x2 t
set_option maxRecDepth 100000 in
set_option maxHeartbeats 4000000 in
theorem okX6_day_20 {G : GG} {X : Nat → Prop} {ob0 : List Nat → Nat} {t0 : TF} {h00 : PH} (p : List Nat) (t : TF) (ob : List Nat → Nat) (a0 : Nat) (e0 : AtF ob t (p) a0) : EvP G 11 mX6_day X ob0 t0 h00 rwI (fX6_day_20 p t) 20 [(0, .ref a0)] [] t ob := by
  unfold fX6_day_20
  refine ep_aload_n (q := 21) 0 dX6_day_20 rfl rfl rfl ?_
  refine ep_bipush (v := (-2 : Int32)) (q := 23) dX6_day_21 (by decide) rfl ?_
  refine ep_invVI1 (As := [.int (-2 : Int32)]) (rest := []) (q := 26) e0 (okX6_refuse (-2 : Int32)) rfl calX6_refuse ml6_102 (by decide) rfl rfl (Nat.le_of_ble_eq_true rfl) dX6_day_23 rfl (fun z1 => ?_)
  exact ep_iret rfl dX6_day_26
set_option maxRecDepth 100000 in
set_option maxHeartbeats 4000000 in
theorem okX6_day_0 {G : GG} {X : Nat → Prop} {ob0 : List Nat → Nat} {t0 : TF} {h00 : PH} (p : List Nat) (x1 : Int32) (x2 : Int32) (t : TF) (ob : List Nat → Nat) (a0 : Nat) (e0 : AtF ob t (p) a0) : EvP G 11 mX6_day X ob0 t0 h00 rwI (fX6_day_0 p x1 x2 t) 0 [(0, .ref a0), (1, .int x1), (2, .int x2)] [] t ob := by
  unfold fX6_day_0
  refine ep_aload_n (q := 1) 0 dX6_day_0 rfl rfl rfl ?_
  refine ep_iload_n (q := 2) 1 dX6_day_1 rfl rfl rfl ?_
  refine ep_invVI1 (As := [.int x1]) (rest := []) (q := 5) e0 (okX6_isLicker x1) rfl calX6_isLicker ml6_113 (by decide) rfl rfl (Nat.le_of_ble_eq_true rfl) dX6_day_2 rfl (fun z1 => ?_)
  refine ep_if (pt := 20) (pf := 8) (fun _ _ _ _ _ _ => ev_if_eq (tgt := 20) dX6_day_5 (by decide)) (fun h2 => ?_) (fun h2 => ?_)
  · refine ep_sub (lv' := [(0, .ref a0)]) [0] rfl ?_
    exact okX6_day_20 p (wrT t p z1.2) ob a0 e0
  · refine ep_iload_n (q := 9) 2 dX6_day_8 rfl rfl rfl ?_
    refine ep_i2l (v := x2.toInt64) (q := 10) dX6_day_9 rfl rfl ?_
    refine ep_lconst (v := (1 : Int64)) (q := 11) dX6_day_10 (by decide) rfl ?_
    refine ep_ldc2 (v := (60 : Int64)) (q := 14) k6_376 dX6_day_11 rfl ?_
    refine ep_invPI (s := (wrT t p z1.2).2 p) (As := [.long x2.toInt64, .long (1 : Int64), .long (60 : Int64)]) (rest := []) (q := 17) (okX6_in x2.toInt64 (1 : Int64) (60 : Int64)) rfl calX6_in ml6_89 (by decide) rfl rfl (Nat.le_of_ble_eq_true rfl) dX6_day_14 rfl (fun z3 => ?_)
    refine ep_if (pt := 20) (pf := 27) (fun _ _ _ _ _ _ kt kf => ev_if_ne (tgt := 27) dX6_day_17 (by decide) kf kt) (fun h4 => ?_) (fun h4 => ?_)
    · refine ep_sub (lv' := [(0, .ref a0)]) [0] rfl ?_
      exact okX6_day_20 p (wrT t p z1.2) ob a0 e0
    · refine ep_aload_n (q := 28) 0 dX6_day_27 rfl rfl rfl ?_
      refine ep_getI (x := ((wrT t p z1.2).2 p).1 0 19) (q := 31) e0 fl6_283 rfl rfl dX6_day_28 rfl ?_
      refine ep_istore_n (lv' := [(3, .int (((wrT t p z1.2).2 p).1 0 19)), (0, .ref a0), (1, .int x1), (2, .int x2)]) (q := 32) dX6_day_31 rfl (by decide) rfl rfl ?_
      refine ep_aload_n (q := 33) 1 dX6_day_32 rfl rfl rfl ?_
      refine ep_aload_n (q := 34) 1 dX6_day_33 rfl rfl rfl ?_
      refine ep_sipush (v := (256 : Int32)) (q := 37) dX6_day_34 (by decide) rfl ?_
      refine ep_invVI1 (As := [.int (256 : Int32)]) (rest := [.ref a0]) (q := 40) e0 (okX6_below (256 : Int32)) rfl calX6_below ml6_382 (by decide) rfl rfl (Nat.le_of_ble_eq_true rfl) dX6_day_37 rfl (fun z5 => ?_)
      refine ep_iconst (v := (1 : Int32)) (q := 41) dX6_day_40 (by decide) rfl ?_
      refine ep_aload_n (q := 42) 1 dX6_day_41 rfl rfl rfl ?_
      refine ep_getI (x := ((wrT (wrT t p z1.2) p z5.2).2 p).1 0 9) (q := 45) e0 fl6_37 rfl rfl dX6_day_42 rfl ?_
      refine ep_ishl (q := 46) dX6_day_45 rfl ?_
      refine ep_iconst (v := (1 : Int32)) (q := 47) dX6_day_46 (by decide) rfl ?_
      refine ep_isub (q := 48) dX6_day_47 rfl ?_
      refine ep_iand (q := 49) dX6_day_48 rfl ?_
      refine ep_putI (q := 52) e0 fl6_129 rfl rfl dX6_day_49 rfl ?_
      refine ep_aload_n (q := 53) 1 dX6_day_52 rfl rfl rfl ?_
      refine ep_iload_n (q := 54) 2 dX6_day_53 rfl rfl rfl ?_
      refine ep_iload_n (q := 55) 3 dX6_day_54 rfl rfl rfl ?_
      refine ep_invVUP (As := [.int x1, .int x2]) (rest := []) (q := 58) e0 (okX6_licksTruly p x1 x2) rfl calX6_licksTruly ml6_378 (by decide) rfl rfl (Nat.le_of_ble_eq_true rfl) dX6_day_55 rfl (fun z6 obz6 _ mvz6 => ?_)
      refine ep_aload_n (q := 59) 1 dX6_day_58 rfl rfl rfl ?_
      refine ep_getI (x := (z6.2.2 p).1 0 19) (q := 62) (mvz6 _ _ e0) fl6_283 rfl rfl dX6_day_59 rfl ?_
      refine ep_iload_n (q := 63) 0 dX6_day_62 rfl rfl rfl ?_
      refine ep_isub (q := 64) dX6_day_63 rfl ?_
      exact ep_iret rfl dX6_day_64
theorem okX6_day (p : List Nat) (x1 : Int32) (x2 : Int32) : MtP 11 mX6_day rwI p (fun a => [.ref a, .int x1, .int x2]) (fX6_day p x1 x2) := by
  refine MtP.of (by decide +kernel) rfl (fun _ => Nat.le_of_ble_eq_true rfl) (fun G X ob t h a e => ?_)
  refine ep_sub (lv := [(0, .ref a), (1, .int x1), (2, .int x2)]) (lv' := [(0, .ref a), (1, .int x1), (2, .int x2)]) [0, 1, 2] rfl ?_
  exact okX6_day_0 p x1 x2 t ob a e
