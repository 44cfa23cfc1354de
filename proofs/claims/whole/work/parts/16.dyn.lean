-- X6_fresh
theorem dX6_fresh_0 : decode cX6_fresh 0 = .ok (.aload_n 0, 1) := by decide +kernel
theorem dX6_fresh_1 : decode cX6_fresh 1 = .ok (.getfield 331, 3) := by decide +kernel
theorem dX6_fresh_4 : decode cX6_fresh 4 = .ok (.ifnonnull 14, 3) := by decide +kernel
theorem dX6_fresh_7 : decode cX6_fresh 7 = .ok (.aload_n 0, 1) := by decide +kernel
theorem dX6_fresh_8 : decode cX6_fresh 8 = .ok (.new 8, 3) := by decide +kernel
theorem dX6_fresh_11 : decode cX6_fresh 11 = .ok (.dup, 1) := by decide +kernel
theorem dX6_fresh_12 : decode cX6_fresh 12 = .ok (.invokespecial 316, 3) := by decide +kernel
theorem dX6_fresh_15 : decode cX6_fresh 15 = .ok (.putfield 331, 3) := by decide +kernel
theorem dX6_fresh_18 : decode cX6_fresh 18 = .ok (.aload_n 0, 1) := by decide +kernel
theorem dX6_fresh_19 : decode cX6_fresh 19 = .ok (.getfield 331, 3) := by decide +kernel
theorem dX6_fresh_22 : decode cX6_fresh 22 = .ok (.aload_n 0, 1) := by decide +kernel
theorem dX6_fresh_23 : decode cX6_fresh 23 = .ok (.invokevirtual 254, 3) := by decide +kernel
theorem dX6_fresh_26 : decode cX6_fresh 26 = .ok (.aload_n 0, 1) := by decide +kernel
theorem dX6_fresh_27 : decode cX6_fresh 27 = .ok (.getfield 331, 3) := by decide +kernel
theorem dX6_fresh_30 : decode cX6_fresh 30 = .ok (.areturn, 1) := by decide +kernel
def fX6_fresh_18 (p : List Nat) (t : TF) : Option (Unit × TF) := if t.1 (9 :: p) = true then (((fX6_takeFrom (prS (t.2 (9 :: p)) (t.2 p))).bind fun z2 => if (wrT (wrT t (9 :: p) z2.2) p (snS z2.2)).1 (9 :: p) = true then (some ((), wrT (wrT t (9 :: p) z2.2) p (snS z2.2))) else none)) else none
def fX6_fresh_0 (p : List Nat) (t : TF) : Option (Unit × TF) := if t.1 (9 :: p) = true then (fX6_fresh_18 p t) else (if 9 :: p ∈ UF then (fX6_fresh_18 p (mkT t (9 :: p) S0R)) else none)
def fX6_fresh (p : List Nat) (t : TF) : Option (Unit × TF) := fX6_fresh_0 p t
set_option maxRecDepth 100000 in
set_option maxHeartbeats 4000000 in
theorem okX6_fresh_18 (hNew : NewOK) {G : GG} {X : Nat → Prop} {ob0 : List Nat → Nat} {t0 : TF} {h00 : PH} (p : List Nat) (t : TF) (ob : List Nat → Nat) (a0 : Nat) (e0 : AtF ob t (p) a0) : EvP G 3 mX6_fresh X ob0 t0 h00 (rwA (9 :: p)) (fX6_fresh_18 p t) 18 [(0, .ref a0)] [] t ob := by
  unfold fX6_fresh_18
  refine ep_aload_n (q := 19) 0 dX6_fresh_18 rfl rfl rfl ?_
  refine ep_getZ (z := (9, 0, 29)) (q := 22) e0 (by decide) rfl fl6_331 rfl dX6_fresh_19 rfl ?_
  refine ep_lz (fun g1 => ?_)
  refine ep_aload_n (q := 23) 0 dX6_fresh_22 rfl rfl rfl ?_
  refine ep_invVU2 (As := [.ref a0]) (rest := []) (q := 26) (⟨g1, rfl⟩) e0 cne (okX6_takeFrom) rfl calX6_takeFrom ml6_254 (by decide) rfl rfl (Nat.le_of_ble_eq_true rfl) dX6_fresh_23 rfl (fun z2 => ?_)
  refine ep_aload_n (q := 27) 0 dX6_fresh_26 rfl rfl rfl ?_
  refine ep_getZ (z := (9, 0, 29)) (q := 30) e0 (by decide) rfl fl6_331 rfl dX6_fresh_27 rfl ?_
  refine ep_lz (fun g3 => ?_)
  exact ep_aret (⟨g3, rfl⟩) rfl dX6_fresh_30
set_option maxRecDepth 100000 in
set_option maxHeartbeats 4000000 in
theorem okX6_fresh_0 (hNew : NewOK) {G : GG} {X : Nat → Prop} {ob0 : List Nat → Nat} {t0 : TF} {h00 : PH} (p : List Nat) (t : TF) (ob : List Nat → Nat) (a0 : Nat) (e0 : AtF ob t (p) a0) : EvP G 3 mX6_fresh X ob0 t0 h00 (rwA (9 :: p)) (fX6_fresh_0 p t) 0 [(0, .ref a0)] [] t ob := by
  unfold fX6_fresh_0
  refine ep_aload_n (q := 1) 0 dX6_fresh_0 rfl rfl rfl ?_
  refine ep_getZ (z := (9, 0, 29)) (q := 4) e0 (by decide) rfl fl6_331 rfl dX6_fresh_1 rfl ?_
  refine ep_ifnonnull (tgt := 18) (q := 7) dX6_fresh_4 (by decide) rfl (fun h1 => ?_) (fun h1 => ?_)
  · refine ep_sub (lv' := [(0, .ref a0)]) [0] rfl ?_
    exact okX6_fresh_18 hNew p t ob a0 e0
  · refine ep_aload_n (q := 8) 0 dX6_fresh_7 rfl rfl rfl ?_
    refine ep_guard (fun g2 => ?_)
    refine ep_newP hNew (z := (9, 0, 29)) (q := 18) e0 (by decide) rfl g2 h1 rfl (by decide) fl6_331 rfl rfl (by decide) dX6_fresh_8 dX6_fresh_11 dX6_fresh_12 dX6_fresh_15 rfl (fun obz3 mvz3 => ?_)
    refine ep_sub (lv' := [(0, .ref a0)]) [0] rfl ?_
    exact okX6_fresh_18 hNew p (mkT t (9 :: p) S0R) obz3 a0 (mvz3 _ _ e0)
theorem okX6_fresh (hNew : NewOK) (p : List Nat) : MtP 3 mX6_fresh (rwA (9 :: p)) p (fun a => [.ref a]) (fX6_fresh p) := by
  refine MtP.of (by decide +kernel) rfl (fun _ => Nat.le_of_ble_eq_true rfl) (fun G X ob t h a e => ?_)
  refine ep_sub (lv := [(0, .ref a)]) (lv' := [(0, .ref a)]) [0] rfl ?_
  exact okX6_fresh_0 hNew p t ob a e
theorem fresh_in18 {p : List Nat} {t t' : TF} (hf : fX6_fresh_18 p t = some ((), t')) : t'.1 (9 :: p) = true := by
  unfold fX6_fresh_18 at hf
  split at hf
  · obtain ⟨z, -, h2⟩ := Option.bind_eq_some_iff.mp hf
    split at h2
    · rename_i g
      cases h2
      exact g
    · cases h2
  · cases hf
theorem fresh_in {p : List Nat} {t t' : TF} (hf : fX6_fresh p t = some ((), t')) : t'.1 (9 :: p) = true := by
  unfold fX6_fresh fX6_fresh_0 at hf
  split at hf
  · exact fresh_in18 hf
  · split at hf
    · exact fresh_in18 hf
    · cases hf
theorem okX6_fresh_f (hNew : NewOK) (p : List Nat) : MtPf 3 mX6_fresh p (9 :: p) (fun a => [.ref a]) (fX6_fresh p) := ⟨fun _ _ hf => fresh_in hf, okX6_fresh hNew p⟩
-- X6_findPlan
theorem dX6_findPlan_0 : decode cX6_findPlan 0 = .ok (.iload_n 1, 1) := by decide +kernel
theorem dX6_findPlan_1 : decode cX6_findPlan 1 = .ok (.ifCond .ne 20, 3) := by decide +kernel
theorem dX6_findPlan_4 : decode cX6_findPlan 4 = .ok (.aload_n 0, 1) := by decide +kernel
theorem dX6_findPlan_5 : decode cX6_findPlan 5 = .ok (.aload_n 0, 1) := by decide +kernel
theorem dX6_findPlan_6 : decode cX6_findPlan 6 = .ok (.getfield 283, 3) := by decide +kernel
theorem dX6_findPlan_9 : decode cX6_findPlan 9 = .ok (.putfield 310, 3) := by decide +kernel
theorem dX6_findPlan_12 : decode cX6_findPlan 12 = .ok (.aload_n 0, 1) := by decide +kernel
theorem dX6_findPlan_13 : decode cX6_findPlan 13 = .ok (.aload_n 0, 1) := by decide +kernel
theorem dX6_findPlan_14 : decode cX6_findPlan 14 = .ok (.getfield 274, 3) := by decide +kernel
theorem dX6_findPlan_17 : decode cX6_findPlan 17 = .ok (.putfield 313, 3) := by decide +kernel
theorem dX6_findPlan_20 : decode cX6_findPlan 20 = .ok (.return_, 1) := by decide +kernel
theorem dX6_findPlan_21 : decode cX6_findPlan 21 = .ok (.aload_n 0, 1) := by decide +kernel
theorem dX6_findPlan_22 : decode cX6_findPlan 22 = .ok (.getfield 70, 3) := by decide +kernel
theorem dX6_findPlan_25 : decode cX6_findPlan 25 = .ok (.iload_n 1, 1) := by decide +kernel
theorem dX6_findPlan_26 : decode cX6_findPlan 26 = .ok (.aaload, 1) := by decide +kernel
theorem dX6_findPlan_27 : decode cX6_findPlan 27 = .ok (.ifnonnull 16, 3) := by decide +kernel
theorem dX6_findPlan_30 : decode cX6_findPlan 30 = .ok (.aload_n 0, 1) := by decide +kernel
theorem dX6_findPlan_31 : decode cX6_findPlan 31 = .ok (.getfield 70, 3) := by decide +kernel
theorem dX6_findPlan_34 : decode cX6_findPlan 34 = .ok (.iload_n 1, 1) := by decide +kernel
theorem dX6_findPlan_35 : decode cX6_findPlan 35 = .ok (.new 8, 3) := by decide +kernel
theorem dX6_findPlan_38 : decode cX6_findPlan 38 = .ok (.dup, 1) := by decide +kernel
theorem dX6_findPlan_39 : decode cX6_findPlan 39 = .ok (.invokespecial 316, 3) := by decide +kernel
theorem dX6_findPlan_42 : decode cX6_findPlan 42 = .ok (.aastore, 1) := by decide +kernel
theorem dX6_findPlan_43 : decode cX6_findPlan 43 = .ok (.aload_n 0, 1) := by decide +kernel
theorem dX6_findPlan_44 : decode cX6_findPlan 44 = .ok (.getfield 70, 3) := by decide +kernel
theorem dX6_findPlan_47 : decode cX6_findPlan 47 = .ok (.iload_n 1, 1) := by decide +kernel
theorem dX6_findPlan_48 : decode cX6_findPlan 48 = .ok (.aaload, 1) := by decide +kernel
theorem dX6_findPlan_49 : decode cX6_findPlan 49 = .ok (.astore_n 2, 1) := by decide +kernel
theorem dX6_findPlan_50 : decode cX6_findPlan 50 = .ok (.aload_n 0, 1) := by decide +kernel
theorem dX6_findPlan_51 : decode cX6_findPlan 51 = .ok (.iconst (-1), 1) := by decide +kernel
theorem dX6_findPlan_52 : decode cX6_findPlan 52 = .ok (.putfield 317, 3) := by decide +kernel
theorem dX6_findPlan_55 : decode cX6_findPlan 55 = .ok (.iconst 0, 1) := by decide +kernel
theorem dX6_findPlan_56 : decode cX6_findPlan 56 = .ok (.istore_n 3, 1) := by decide +kernel
theorem dX6_findPlan_57 : decode cX6_findPlan 57 = .ok (.iload_n 3, 1) := by decide +kernel
theorem dX6_findPlan_58 : decode cX6_findPlan 58 = .ok (.bipush 6, 2) := by decide +kernel
theorem dX6_findPlan_60 : decode cX6_findPlan 60 = .ok (.if_icmp .gt 148, 3) := by decide +kernel
theorem dX6_findPlan_63 : decode cX6_findPlan 63 = .ok (.aload_n 0, 1) := by decide +kernel
theorem dX6_findPlan_64 : decode cX6_findPlan 64 = .ok (.iload_n 3, 1) := by decide +kernel
theorem dX6_findPlan_65 : decode cX6_findPlan 65 = .ok (.i2l, 1) := by decide +kernel
theorem dX6_findPlan_66 : decode cX6_findPlan 66 = .ok (.invokevirtual 208, 3) := by decide +kernel
theorem dX6_findPlan_69 : decode cX6_findPlan 69 = .ok (.ifCond .eq 133, 3) := by decide +kernel
theorem dX6_findPlan_72 : decode cX6_findPlan 72 = .ok (.aload_n 2, 1) := by decide +kernel
theorem dX6_findPlan_73 : decode cX6_findPlan 73 = .ok (.aload_n 0, 1) := by decide +kernel
theorem dX6_findPlan_74 : decode cX6_findPlan 74 = .ok (.invokevirtual 254, 3) := by decide +kernel
theorem dX6_findPlan_77 : decode cX6_findPlan 77 = .ok (.aload_n 2, 1) := by decide +kernel
theorem dX6_findPlan_78 : decode cX6_findPlan 78 = .ok (.iload_n 3, 1) := by decide +kernel
theorem dX6_findPlan_79 : decode cX6_findPlan 79 = .ok (.iconst 0, 1) := by decide +kernel
theorem dX6_findPlan_80 : decode cX6_findPlan 80 = .ok (.invokevirtual 212, 3) := by decide +kernel
theorem dX6_findPlan_83 : decode cX6_findPlan 83 = .ok (.aload_n 2, 1) := by decide +kernel
theorem dX6_findPlan_84 : decode cX6_findPlan 84 = .ok (.iload_n 1, 1) := by decide +kernel
theorem dX6_findPlan_85 : decode cX6_findPlan 85 = .ok (.iconst 1, 1) := by decide +kernel
theorem dX6_findPlan_86 : decode cX6_findPlan 86 = .ok (.isub, 1) := by decide +kernel
theorem dX6_findPlan_87 : decode cX6_findPlan 87 = .ok (.invokevirtual 320, 3) := by decide +kernel
theorem dX6_findPlan_90 : decode cX6_findPlan 90 = .ok (.aload_n 0, 1) := by decide +kernel
theorem dX6_findPlan_91 : decode cX6_findPlan 91 = .ok (.getfield 317, 3) := by decide +kernel
theorem dX6_findPlan_94 : decode cX6_findPlan 94 = .ok (.iconst (-1), 1) := by decide +kernel
theorem dX6_findPlan_95 : decode cX6_findPlan 95 = .ok (.if_icmp .eq 14, 3) := by decide +kernel
theorem dX6_findPlan_98 : decode cX6_findPlan 98 = .ok (.aload_n 2, 1) := by decide +kernel
theorem dX6_findPlan_99 : decode cX6_findPlan 99 = .ok (.getfield 310, 3) := by decide +kernel
theorem dX6_findPlan_102 : decode cX6_findPlan 102 = .ok (.aload_n 0, 1) := by decide +kernel
theorem dX6_findPlan_103 : decode cX6_findPlan 103 = .ok (.getfield 310, 3) := by decide +kernel
theorem dX6_findPlan_106 : decode cX6_findPlan 106 = .ok (.if_icmp .ge 7, 3) := by decide +kernel
theorem dX6_findPlan_109 : decode cX6_findPlan 109 = .ok (.iconst 1, 1) := by decide +kernel
theorem dX6_findPlan_110 : decode cX6_findPlan 110 = .ok (.goto 4, 3) := by decide +kernel
theorem dX6_findPlan_113 : decode cX6_findPlan 113 = .ok (.iconst 0, 1) := by decide +kernel
theorem dX6_findPlan_114 : decode cX6_findPlan 114 = .ok (.istore 4, 2) := by decide +kernel
theorem dX6_findPlan_116 : decode cX6_findPlan 116 = .ok (.iload 4, 2) := by decide +kernel
theorem dX6_findPlan_118 : decode cX6_findPlan 118 = .ok (.ifCond .ne 25, 3) := by decide +kernel
theorem dX6_findPlan_121 : decode cX6_findPlan 121 = .ok (.aload_n 2, 1) := by decide +kernel
theorem dX6_findPlan_122 : decode cX6_findPlan 122 = .ok (.getfield 310, 3) := by decide +kernel
theorem dX6_findPlan_125 : decode cX6_findPlan 125 = .ok (.aload_n 0, 1) := by decide +kernel
theorem dX6_findPlan_126 : decode cX6_findPlan 126 = .ok (.getfield 310, 3) := by decide +kernel
theorem dX6_findPlan_129 : decode cX6_findPlan 129 = .ok (.if_icmp .ne 73, 3) := by decide +kernel
theorem dX6_findPlan_132 : decode cX6_findPlan 132 = .ok (.aload_n 2, 1) := by decide +kernel
theorem dX6_findPlan_133 : decode cX6_findPlan 133 = .ok (.getfield 313, 3) := by decide +kernel
theorem dX6_findPlan_136 : decode cX6_findPlan 136 = .ok (.aload_n 0, 1) := by decide +kernel
theorem dX6_findPlan_137 : decode cX6_findPlan 137 = .ok (.getfield 313, 3) := by decide +kernel
theorem dX6_findPlan_140 : decode cX6_findPlan 140 = .ok (.if_icmp .le 62, 3) := by decide +kernel
theorem dX6_findPlan_143 : decode cX6_findPlan 143 = .ok (.aload_n 0, 1) := by decide +kernel
theorem dX6_findPlan_144 : decode cX6_findPlan 144 = .ok (.iload_n 3, 1) := by decide +kernel
theorem dX6_findPlan_145 : decode cX6_findPlan 145 = .ok (.putfield 317, 3) := by decide +kernel
theorem dX6_findPlan_148 : decode cX6_findPlan 148 = .ok (.aload_n 0, 1) := by decide +kernel
theorem dX6_findPlan_149 : decode cX6_findPlan 149 = .ok (.aload_n 2, 1) := by decide +kernel
theorem dX6_findPlan_150 : decode cX6_findPlan 150 = .ok (.getfield 310, 3) := by decide +kernel
theorem dX6_findPlan_153 : decode cX6_findPlan 153 = .ok (.putfield 310, 3) := by decide +kernel
theorem dX6_findPlan_156 : decode cX6_findPlan 156 = .ok (.aload_n 0, 1) := by decide +kernel
theorem dX6_findPlan_157 : decode cX6_findPlan 157 = .ok (.aload_n 2, 1) := by decide +kernel
theorem dX6_findPlan_158 : decode cX6_findPlan 158 = .ok (.getfield 313, 3) := by decide +kernel
theorem dX6_findPlan_161 : decode cX6_findPlan 161 = .ok (.putfield 313, 3) := by decide +kernel
theorem dX6_findPlan_164 : decode cX6_findPlan 164 = .ok (.aload_n 0, 1) := by decide +kernel
theorem dX6_findPlan_165 : decode cX6_findPlan 165 = .ok (.getfield 77, 3) := by decide +kernel
theorem dX6_findPlan_168 : decode cX6_findPlan 168 = .ok (.iconst 0, 1) := by decide +kernel
theorem dX6_findPlan_169 : decode cX6_findPlan 169 = .ok (.iload_n 3, 1) := by decide +kernel
theorem dX6_findPlan_170 : decode cX6_findPlan 170 = .ok (.iastore, 1) := by decide +kernel
theorem dX6_findPlan_171 : decode cX6_findPlan 171 = .ok (.iconst 1, 1) := by decide +kernel
theorem dX6_findPlan_172 : decode cX6_findPlan 172 = .ok (.istore 5, 2) := by decide +kernel
theorem dX6_findPlan_174 : decode cX6_findPlan 174 = .ok (.iload 5, 2) := by decide +kernel
theorem dX6_findPlan_176 : decode cX6_findPlan 176 = .ok (.iload_n 1, 1) := by decide +kernel
theorem dX6_findPlan_177 : decode cX6_findPlan 177 = .ok (.if_icmp .ge 25, 3) := by decide +kernel
theorem dX6_findPlan_180 : decode cX6_findPlan 180 = .ok (.aload_n 0, 1) := by decide +kernel
theorem dX6_findPlan_181 : decode cX6_findPlan 181 = .ok (.getfield 77, 3) := by decide +kernel
theorem dX6_findPlan_184 : decode cX6_findPlan 184 = .ok (.iload 5, 2) := by decide +kernel
theorem dX6_findPlan_186 : decode cX6_findPlan 186 = .ok (.aload_n 2, 1) := by decide +kernel
theorem dX6_findPlan_187 : decode cX6_findPlan 187 = .ok (.getfield 77, 3) := by decide +kernel
theorem dX6_findPlan_190 : decode cX6_findPlan 190 = .ok (.iload 5, 2) := by decide +kernel
theorem dX6_findPlan_192 : decode cX6_findPlan 192 = .ok (.iconst 1, 1) := by decide +kernel
theorem dX6_findPlan_193 : decode cX6_findPlan 193 = .ok (.isub, 1) := by decide +kernel
theorem dX6_findPlan_194 : decode cX6_findPlan 194 = .ok (.iaload, 1) := by decide +kernel
theorem dX6_findPlan_195 : decode cX6_findPlan 195 = .ok (.iastore, 1) := by decide +kernel
theorem dX6_findPlan_196 : decode cX6_findPlan 196 = .ok (.iinc 5 1, 3) := by decide +kernel
theorem dX6_findPlan_199 : decode cX6_findPlan 199 = .ok (.goto (-25), 3) := by decide +kernel
theorem dX6_findPlan_202 : decode cX6_findPlan 202 = .ok (.iinc 3 1, 3) := by decide +kernel
theorem dX6_findPlan_205 : decode cX6_findPlan 205 = .ok (.goto (-148), 3) := by decide +kernel
theorem dX6_findPlan_208 : decode cX6_findPlan 208 = .ok (.return_, 1) := by decide +kernel
def fX6_findPlan_174 (p : List Nat) (self : List Nat → Int32 → TF → Option (Unit × TF)) (rec_57 : Int32 → Int32 → TF → Option (Unit × TF)) : Nat → Int32 → Int32 → Int32 → TF → Option (Unit × TF)
  | 0, _, _, _, _ => none
  | n + 1, x1, x3, x5, t => if x1 ≤ x5 then (rec_57 x1 (x3 + (1 : Int32)) t) else (if ixB (x5 - (1 : Int32)) 3 then (if ixB x5 3 then (fX6_findPlan_174 p self rec_57 n x1 x3 (x5 + (1 : Int32)) (wTI t p 30 x5.toNatClampNeg ((t.2 (x1.toNatClampNeg :: p)).1 30 ((x5 - (1 : Int32)).toNatClampNeg)))) else none) else none)
def fX6_findPlan_143 (p : List Nat) (self : List Nat → Int32 → TF → Option (Unit × TF)) (rec_57 : Int32 → Int32 → TF → Option (Unit × TF)) (x1 : Int32) (x3 : Int32) (t : TF) : Option (Unit × TF) := fX6_findPlan_174 p self rec_57 FU x1 x3 (1 : Int32) (wTI (wTI (wTI (wTI t p 0 38 x3) p 0 39 (((wTI t p 0 38 x3).2 (x1.toNatClampNeg :: p)).1 0 39)) p 0 40 (((wTI (wTI t p 0 38 x3) p 0 39 (((wTI t p 0 38 x3).2 (x1.toNatClampNeg :: p)).1 0 39)).2 (x1.toNatClampNeg :: p)).1 0 40)) p 30 0 x3)
def fX6_findPlan_114 (p : List Nat) (self : List Nat → Int32 → TF → Option (Unit × TF)) (rec_57 : Int32 → Int32 → TF → Option (Unit × TF)) (x1 : Int32) (x3 : Int32) (y0 : Int32) (t : TF) : Option (Unit × TF) := if y0 = 0 then (if ((t.2 (x1.toNatClampNeg :: p)).1 0 39) = ((t.2 p).1 0 39) then (if ((t.2 (x1.toNatClampNeg :: p)).1 0 40) ≤ ((t.2 p).1 0 40) then (rec_57 x1 (x3 + (1 : Int32)) t) else (fX6_findPlan_143 p self rec_57 x1 x3 t)) else (rec_57 x1 (x3 + (1 : Int32)) t)) else (fX6_findPlan_143 p self rec_57 x1 x3 t)
def fX6_findPlan_109 (p : List Nat) (self : List Nat → Int32 → TF → Option (Unit × TF)) (rec_57 : Int32 → Int32 → TF → Option (Unit × TF)) (x1 : Int32) (x3 : Int32) (t : TF) : Option (Unit × TF) := fX6_findPlan_114 p self rec_57 x1 x3 (1 : Int32) t
def fX6_findPlan_57 (p : List Nat) (self : List Nat → Int32 → TF → Option (Unit × TF)) : Nat → Int32 → Int32 → TF → Option (Unit × TF)
  | 0, _, _, _ => none
  | n + 1, x1, x3, t => if (6 : Int32) < x3 then (some ((), t)) else (((fX6_canAct x3.toInt64 (t.2 p)).bind fun z2 => if z2.1 = 0 then (fX6_findPlan_57 p self n x1 (x3 + (1 : Int32)) (wrT t p z2.2)) else (((fX6_takeFrom (prS ((wrT t p z2.2).2 (x1.toNatClampNeg :: p)) ((wrT t p z2.2).2 p))).bind fun z4 => ((fX6_goes x3 (0 : Int32) ((wrT (wrT (wrT t p z2.2) (x1.toNatClampNeg :: p) z4.2) p (snS z4.2)).2 (x1.toNatClampNeg :: p))).bind fun z5 => ((self (x1.toNatClampNeg :: p) (x1 - (1 : Int32)) (wrT (wrT (wrT (wrT t p z2.2) (x1.toNatClampNeg :: p) z4.2) p (snS z4.2)) (x1.toNatClampNeg :: p) z5.2)).bind fun z6 => if ((z6.2.2 p).1 0 38) = (-1 : Int32) then (fX6_findPlan_109 p self (fX6_findPlan_57 p self n) x1 x3 z6.2) else (if ((z6.2.2 p).1 0 39) ≤ ((z6.2.2 (x1.toNatClampNeg :: p)).1 0 39) then (fX6_findPlan_114 p self (fX6_findPlan_57 p self n) x1 x3 (0 : Int32) z6.2) else (fX6_findPlan_109 p self (fX6_findPlan_57 p self n) x1 x3 z6.2))))))))
def fX6_findPlan_43 (p : List Nat) (self : List Nat → Int32 → TF → Option (Unit × TF)) (x1 : Int32) (t : TF) : Option (Unit × TF) := if ixB x1 4 then (if t.1 (x1.toNatClampNeg :: p) = true then (fX6_findPlan_57 p self FU x1 (0 : Int32) (wTI t p 0 38 (-1 : Int32))) else none) else none
def fX6_findPlan_0 (p : List Nat) (self : List Nat → Int32 → TF → Option (Unit × TF)) (x1 : Int32) (t : TF) : Option (Unit × TF) := if x1 = 0 then (some ((), wTI (wTI t p 0 39 ((t.2 p).1 0 19)) p 0 40 (((wTI t p 0 39 ((t.2 p).1 0 19)).2 p).1 0 20))) else (if ixB x1 4 then (if t.1 (x1.toNatClampNeg :: p) = true then (fX6_findPlan_43 p self x1 t) else (if x1.toNatClampNeg :: p ∈ UF then (if ixB x1 4 then (fX6_findPlan_43 p self x1 (mkT t (x1.toNatClampNeg :: p) S0R)) else none) else none)) else none)
def fX6_findPlan_b (self : List Nat → Int32 → TF → Option (Unit × TF)) (p : List Nat) (x1 : Int32) (t : TF) : Option (Unit × TF) := fX6_findPlan_0 p self x1 t
set_option maxRecDepth 100000 in
set_option maxHeartbeats 4000000 in
theorem okX6_findPlan_174 (hNew : NewOK) {G : GG} {X : Nat → Prop} {ob0 : List Nat → Nat} {t0 : TF} {h00 : PH} (p : List Nat) {d dself : Nat} (hd1 : dself + 1 ≤ d) (hd2 : 3 ≤ d) (self : List Nat → Int32 → TF → Option (Unit × TF)) (hself : ∀ (p : List Nat) (x1 : Int32), MtP dself mX6_findPlan rwU p (fun a => [.ref a, .int x1]) (self p x1)) (rec_57 : Int32 → Int32 → TF → Option (Unit × TF)) (hrec_57 : ∀ (x1 : Int32) (x3 : Int32) (t : TF) (ob : List Nat → Nat) (a0 : Nat) (e0 : AtF ob t (p) a0) (a1 : Nat) (e1 : AtF ob t (x1.toNatClampNeg :: p) a1), EvP G d mX6_findPlan X ob0 t0 h00 rwU (rec_57 x1 x3 t) 57 [(0, .ref a0), (1, .int x1), (2, .ref a1), (3, .int x3)] [] t ob) : ∀ (n : Nat) (x1 : Int32) (x3 : Int32) (x5 : Int32) (t : TF) (ob : List Nat → Nat) (a0 : Nat) (e0 : AtF ob t (p) a0) (a1 : Nat) (e1 : AtF ob t (x1.toNatClampNeg :: p) a1), EvP G d mX6_findPlan X ob0 t0 h00 rwU (fX6_findPlan_174 p self rec_57 n x1 x3 x5 t) 174 [(0, .ref a0), (1, .int x1), (2, .ref a1), (3, .int x3), (5, .int x5)] [] t ob := by
  intro n
  induction n with
  | zero => intro x1 x3 x5 t ob a0 e0 a1 e1; rw [fX6_findPlan_174]; exact ep_none
  | succ n ih =>
    intro x1 x3 x5 t ob a0 e0 a1 e1
    rw [fX6_findPlan_174]
    refine ep_iload (q := 176) 4 dX6_findPlan_174 rfl rfl ?_
    refine ep_iload_n (q := 177) 1 dX6_findPlan_176 rfl rfl rfl ?_
    refine ep_if (pt := 202) (pf := 180) (fun _ _ _ _ _ _ => ev_icmp_ge (tgt := 202) dX6_findPlan_177 (by decide)) (fun h1 => ?_) (fun h1 => ?_)
    · refine ep_iinc (v := x3 + (1 : Int32)) (lv' := [(3, .int (x3 + (1 : Int32))), (0, .ref a0), (1, .int x1), (2, .ref a1), (5, .int x5)]) (q := 205) 3 dX6_findPlan_202 rfl rfl (by decide) rfl rfl ?_
      refine ep_goto (tgt := 57) dX6_findPlan_205 (by decide) ?_
      refine ep_sub (lv' := [(0, .ref a0), (1, .int x1), (2, .ref a1), (3, .int (x3 + (1 : Int32)))]) [1, 2, 3, 0] rfl ?_
      exact hrec_57 x1 (x3 + (1 : Int32)) t ob a0 e0 a1 e1
    · refine ep_aload_n (q := 181) 0 dX6_findPlan_180 rfl rfl rfl ?_
      refine ep_getR (k := 30) (q := 184) e0 fl6_77 rfl rfl rfl dX6_findPlan_181 rfl ?_
      refine ep_iload (q := 186) 4 dX6_findPlan_184 rfl rfl ?_
      refine ep_aload_n (q := 187) 2 dX6_findPlan_186 rfl rfl rfl ?_
      refine ep_getR (k := 30) (q := 190) e1 fl6_77 rfl rfl rfl dX6_findPlan_187 rfl ?_
      refine ep_iload (q := 192) 4 dX6_findPlan_190 rfl rfl ?_
      refine ep_iconst (v := (1 : Int32)) (q := 193) dX6_findPlan_192 (by decide) rfl ?_
      refine ep_isub (q := 194) dX6_findPlan_193 rfl ?_
      refine ep_guard (fun g2 => ?_)
      refine ep_iaload (x := (t.2 (x1.toNatClampNeg :: p)).1 30 ((x5 - (1 : Int32)).toNatClampNeg)) (q := 195) e1 rfl g2 dX6_findPlan_194 rfl rfl ?_
      refine ep_guard (fun g3 => ?_)
      refine ep_iastore (j := x5.toNatClampNeg) (q := 196) e0 rfl g3 dX6_findPlan_195 rfl rfl ?_
      refine ep_iinc (v := x5 + (1 : Int32)) (lv' := [(5, .int (x5 + (1 : Int32))), (0, .ref a0), (1, .int x1), (2, .ref a1), (3, .int x3)]) (q := 199) 4 dX6_findPlan_196 rfl rfl (by decide) rfl rfl ?_
      refine ep_goto (tgt := 174) dX6_findPlan_199 (by decide) ?_
      refine ep_sub (lv' := [(0, .ref a0), (1, .int x1), (2, .ref a1), (3, .int x3), (5, .int (x5 + (1 : Int32)))]) [1, 2, 3, 4, 0] rfl ?_
      exact ih x1 x3 (x5 + (1 : Int32)) (wTI t p 30 x5.toNatClampNeg ((t.2 (x1.toNatClampNeg :: p)).1 30 ((x5 - (1 : Int32)).toNatClampNeg))) ob a0 e0 a1 e1
set_option maxRecDepth 100000 in
set_option maxHeartbeats 4000000 in
theorem okX6_findPlan_143 (hNew : NewOK) {G : GG} {X : Nat → Prop} {ob0 : List Nat → Nat} {t0 : TF} {h00 : PH} (p : List Nat) {d dself : Nat} (hd1 : dself + 1 ≤ d) (hd2 : 3 ≤ d) (self : List Nat → Int32 → TF → Option (Unit × TF)) (hself : ∀ (p : List Nat) (x1 : Int32), MtP dself mX6_findPlan rwU p (fun a => [.ref a, .int x1]) (self p x1)) (rec_57 : Int32 → Int32 → TF → Option (Unit × TF)) (hrec_57 : ∀ (x1 : Int32) (x3 : Int32) (t : TF) (ob : List Nat → Nat) (a0 : Nat) (e0 : AtF ob t (p) a0) (a1 : Nat) (e1 : AtF ob t (x1.toNatClampNeg :: p) a1), EvP G d mX6_findPlan X ob0 t0 h00 rwU (rec_57 x1 x3 t) 57 [(0, .ref a0), (1, .int x1), (2, .ref a1), (3, .int x3)] [] t ob) (x1 : Int32) (x3 : Int32) (t : TF) (ob : List Nat → Nat) (a0 : Nat) (e0 : AtF ob t (p) a0) (a1 : Nat) (e1 : AtF ob t (x1.toNatClampNeg :: p) a1) : EvP G d mX6_findPlan X ob0 t0 h00 rwU (fX6_findPlan_143 p self rec_57 x1 x3 t) 143 [(0, .ref a0), (1, .int x1), (2, .ref a1), (3, .int x3)] [] t ob := by
  unfold fX6_findPlan_143
  refine ep_aload_n (q := 144) 0 dX6_findPlan_143 rfl rfl rfl ?_
  refine ep_iload_n (q := 145) 3 dX6_findPlan_144 rfl rfl rfl ?_
  refine ep_putI (q := 148) e0 fl6_317 rfl rfl dX6_findPlan_145 rfl ?_
  refine ep_aload_n (q := 149) 0 dX6_findPlan_148 rfl rfl rfl ?_
  refine ep_aload_n (q := 150) 2 dX6_findPlan_149 rfl rfl rfl ?_
  refine ep_getI (x := ((wTI t p 0 38 x3).2 (x1.toNatClampNeg :: p)).1 0 39) (q := 153) e1 fl6_310 rfl rfl dX6_findPlan_150 rfl ?_
  refine ep_putI (q := 156) e0 fl6_310 rfl rfl dX6_findPlan_153 rfl ?_
  refine ep_aload_n (q := 157) 0 dX6_findPlan_156 rfl rfl rfl ?_
  refine ep_aload_n (q := 158) 2 dX6_findPlan_157 rfl rfl rfl ?_
  refine ep_getI (x := ((wTI (wTI t p 0 38 x3) p 0 39 (((wTI t p 0 38 x3).2 (x1.toNatClampNeg :: p)).1 0 39)).2 (x1.toNatClampNeg :: p)).1 0 40) (q := 161) e1 fl6_313 rfl rfl dX6_findPlan_158 rfl ?_
  refine ep_putI (q := 164) e0 fl6_313 rfl rfl dX6_findPlan_161 rfl ?_
  refine ep_aload_n (q := 165) 0 dX6_findPlan_164 rfl rfl rfl ?_
  refine ep_getR (k := 30) (q := 168) e0 fl6_77 rfl rfl rfl dX6_findPlan_165 rfl ?_
  refine ep_iconst (v := (0 : Int32)) (q := 169) dX6_findPlan_168 (by decide) rfl ?_
  refine ep_iload_n (q := 170) 3 dX6_findPlan_169 rfl rfl rfl ?_
  refine ep_iastore (j := 0) (q := 171) e0 rfl (by decide) dX6_findPlan_170 rfl rfl ?_
  refine ep_iconst (v := (1 : Int32)) (q := 172) dX6_findPlan_171 (by decide) rfl ?_
  refine ep_istore (lv' := [(5, .int (1 : Int32)), (0, .ref a0), (1, .int x1), (2, .ref a1), (3, .int x3)]) (q := 174) dX6_findPlan_172 (by decide) rfl rfl ?_
  refine ep_sub (lv' := [(0, .ref a0), (1, .int x1), (2, .ref a1), (3, .int x3), (5, .int (1 : Int32))]) [1, 2, 3, 4, 0] rfl ?_
  exact okX6_findPlan_174 hNew p hd1 hd2 self hself rec_57 hrec_57 FU x1 x3 (1 : Int32) (wTI (wTI (wTI (wTI t p 0 38 x3) p 0 39 (((wTI t p 0 38 x3).2 (x1.toNatClampNeg :: p)).1 0 39)) p 0 40 (((wTI (wTI t p 0 38 x3) p 0 39 (((wTI t p 0 38 x3).2 (x1.toNatClampNeg :: p)).1 0 39)).2 (x1.toNatClampNeg :: p)).1 0 40)) p 30 0 x3) ob a0 e0 a1 e1
set_option maxRecDepth 100000 in
set_option maxHeartbeats 4000000 in
theorem okX6_findPlan_114 (hNew : NewOK) {G : GG} {X : Nat → Prop} {ob0 : List Nat → Nat} {t0 : TF} {h00 : PH} (p : List Nat) {d dself : Nat} (hd1 : dself + 1 ≤ d) (hd2 : 3 ≤ d) (self : List Nat → Int32 → TF → Option (Unit × TF)) (hself : ∀ (p : List Nat) (x1 : Int32), MtP dself mX6_findPlan rwU p (fun a => [.ref a, .int x1]) (self p x1)) (rec_57 : Int32 → Int32 → TF → Option (Unit × TF)) (hrec_57 : ∀ (x1 : Int32) (x3 : Int32) (t : TF) (ob : List Nat → Nat) (a0 : Nat) (e0 : AtF ob t (p) a0) (a1 : Nat) (e1 : AtF ob t (x1.toNatClampNeg :: p) a1), EvP G d mX6_findPlan X ob0 t0 h00 rwU (rec_57 x1 x3 t) 57 [(0, .ref a0), (1, .int x1), (2, .ref a1), (3, .int x3)] [] t ob) (x1 : Int32) (x3 : Int32) (y0 : Int32) (t : TF) (ob : List Nat → Nat) (a0 : Nat) (e0 : AtF ob t (p) a0) (a1 : Nat) (e1 : AtF ob t (x1.toNatClampNeg :: p) a1) : EvP G d mX6_findPlan X ob0 t0 h00 rwU (fX6_findPlan_114 p self rec_57 x1 x3 y0 t) 114 [(0, .ref a0), (1, .int x1), (2, .ref a1), (3, .int x3)] [.int y0] t ob := by
  unfold fX6_findPlan_114
  refine ep_istore (lv' := [(4, .int y0), (0, .ref a0), (1, .int x1), (2, .ref a1), (3, .int x3)]) (q := 116) dX6_findPlan_114 (by decide) rfl rfl ?_
  refine ep_iload (q := 118) 0 dX6_findPlan_116 rfl rfl ?_
  refine ep_if (pt := 121) (pf := 143) (fun _ _ _ _ _ _ kt kf => ev_if_ne (tgt := 143) dX6_findPlan_118 (by decide) kf kt) (fun h1 => ?_) (fun h1 => ?_)
  · refine ep_aload_n (q := 122) 3 dX6_findPlan_121 rfl rfl rfl ?_
    refine ep_getI (x := (t.2 (x1.toNatClampNeg :: p)).1 0 39) (q := 125) e1 fl6_310 rfl rfl dX6_findPlan_122 rfl ?_
    refine ep_aload_n (q := 126) 1 dX6_findPlan_125 rfl rfl rfl ?_
    refine ep_getI (x := (t.2 p).1 0 39) (q := 129) e0 fl6_310 rfl rfl dX6_findPlan_126 rfl ?_
    refine ep_if (pt := 132) (pf := 202) (fun _ _ _ _ _ _ kt kf => ev_icmp_ne (tgt := 202) dX6_findPlan_129 (by decide) kf kt) (fun h2 => ?_) (fun h2 => ?_)
    · refine ep_aload_n (q := 133) 3 dX6_findPlan_132 rfl rfl rfl ?_
      refine ep_getI (x := (t.2 (x1.toNatClampNeg :: p)).1 0 40) (q := 136) e1 fl6_313 rfl rfl dX6_findPlan_133 rfl ?_
      refine ep_aload_n (q := 137) 1 dX6_findPlan_136 rfl rfl rfl ?_
      refine ep_getI (x := (t.2 p).1 0 40) (q := 140) e0 fl6_313 rfl rfl dX6_findPlan_137 rfl ?_
      refine ep_if (pt := 202) (pf := 143) (fun _ _ _ _ _ _ => ev_icmp_le (tgt := 202) dX6_findPlan_140 (by decide)) (fun h3 => ?_) (fun h3 => ?_)
      · refine ep_iinc (v := x3 + (1 : Int32)) (lv' := [(3, .int (x3 + (1 : Int32))), (4, .int y0), (0, .ref a0), (1, .int x1), (2, .ref a1)]) (q := 205) 4 dX6_findPlan_202 rfl rfl (by decide) rfl rfl ?_
        refine ep_goto (tgt := 57) dX6_findPlan_205 (by decide) ?_
        refine ep_sub (lv' := [(0, .ref a0), (1, .int x1), (2, .ref a1), (3, .int (x3 + (1 : Int32)))]) [2, 3, 4, 0] rfl ?_
        exact hrec_57 x1 (x3 + (1 : Int32)) t ob a0 e0 a1 e1
      · refine ep_sub (lv' := [(0, .ref a0), (1, .int x1), (2, .ref a1), (3, .int x3)]) [1, 2, 3, 4] rfl ?_
        exact okX6_findPlan_143 hNew p hd1 hd2 self hself rec_57 hrec_57 x1 x3 t ob a0 e0 a1 e1
    · refine ep_iinc (v := x3 + (1 : Int32)) (lv' := [(3, .int (x3 + (1 : Int32))), (4, .int y0), (0, .ref a0), (1, .int x1), (2, .ref a1)]) (q := 205) 4 dX6_findPlan_202 rfl rfl (by decide) rfl rfl ?_
      refine ep_goto (tgt := 57) dX6_findPlan_205 (by decide) ?_
      refine ep_sub (lv' := [(0, .ref a0), (1, .int x1), (2, .ref a1), (3, .int (x3 + (1 : Int32)))]) [2, 3, 4, 0] rfl ?_
      exact hrec_57 x1 (x3 + (1 : Int32)) t ob a0 e0 a1 e1
  · refine ep_sub (lv' := [(0, .ref a0), (1, .int x1), (2, .ref a1), (3, .int x3)]) [1, 2, 3, 4] rfl ?_
    exact okX6_findPlan_143 hNew p hd1 hd2 self hself rec_57 hrec_57 x1 x3 t ob a0 e0 a1 e1
set_option maxRecDepth 100000 in
set_option maxHeartbeats 4000000 in
theorem okX6_findPlan_109 (hNew : NewOK) {G : GG} {X : Nat → Prop} {ob0 : List Nat → Nat} {t0 : TF} {h00 : PH} (p : List Nat) {d dself : Nat} (hd1 : dself + 1 ≤ d) (hd2 : 3 ≤ d) (self : List Nat → Int32 → TF → Option (Unit × TF)) (hself : ∀ (p : List Nat) (x1 : Int32), MtP dself mX6_findPlan rwU p (fun a => [.ref a, .int x1]) (self p x1)) (rec_57 : Int32 → Int32 → TF → Option (Unit × TF)) (hrec_57 : ∀ (x1 : Int32) (x3 : Int32) (t : TF) (ob : List Nat → Nat) (a0 : Nat) (e0 : AtF ob t (p) a0) (a1 : Nat) (e1 : AtF ob t (x1.toNatClampNeg :: p) a1), EvP G d mX6_findPlan X ob0 t0 h00 rwU (rec_57 x1 x3 t) 57 [(0, .ref a0), (1, .int x1), (2, .ref a1), (3, .int x3)] [] t ob) (x1 : Int32) (x3 : Int32) (t : TF) (ob : List Nat → Nat) (a0 : Nat) (e0 : AtF ob t (p) a0) (a1 : Nat) (e1 : AtF ob t (x1.toNatClampNeg :: p) a1) : EvP G d mX6_findPlan X ob0 t0 h00 rwU (fX6_findPlan_109 p self rec_57 x1 x3 t) 109 [(0, .ref a0), (1, .int x1), (2, .ref a1), (3, .int x3)] [] t ob := by
  unfold fX6_findPlan_109
  refine ep_iconst (v := (1 : Int32)) (q := 110) dX6_findPlan_109 (by decide) rfl ?_
  refine ep_goto (tgt := 114) dX6_findPlan_110 (by decide) ?_
  refine ep_sub (lv' := [(0, .ref a0), (1, .int x1), (2, .ref a1), (3, .int x3)]) [0, 1, 2, 3] rfl ?_
  exact okX6_findPlan_114 hNew p hd1 hd2 self hself rec_57 hrec_57 x1 x3 (1 : Int32) t ob a0 e0 a1 e1
set_option maxRecDepth 100000 in
set_option maxHeartbeats 4000000 in
theorem okX6_findPlan_57 (hNew : NewOK) {G : GG} {X : Nat → Prop} {ob0 : List Nat → Nat} {t0 : TF} {h00 : PH} (p : List Nat) {d dself : Nat} (hd1 : dself + 1 ≤ d) (hd2 : 3 ≤ d) (self : List Nat → Int32 → TF → Option (Unit × TF)) (hself : ∀ (p : List Nat) (x1 : Int32), MtP dself mX6_findPlan rwU p (fun a => [.ref a, .int x1]) (self p x1)) : ∀ (n : Nat) (x1 : Int32) (x3 : Int32) (t : TF) (ob : List Nat → Nat) (a0 : Nat) (e0 : AtF ob t (p) a0) (a1 : Nat) (e1 : AtF ob t (x1.toNatClampNeg :: p) a1), EvP G d mX6_findPlan X ob0 t0 h00 rwU (fX6_findPlan_57 p self n x1 x3 t) 57 [(0, .ref a0), (1, .int x1), (2, .ref a1), (3, .int x3)] [] t ob := by
  intro n
  induction n with
  | zero => intro x1 x3 t ob a0 e0 a1 e1; rw [fX6_findPlan_57]; exact ep_none
  | succ n ih =>
    intro x1 x3 t ob a0 e0 a1 e1
    rw [fX6_findPlan_57]
    refine ep_iload_n (q := 58) 3 dX6_findPlan_57 rfl rfl rfl ?_
    refine ep_bipush (v := (6 : Int32)) (q := 60) dX6_findPlan_58 (by decide) rfl ?_
    refine ep_if (pt := 208) (pf := 63) (fun _ _ _ _ _ _ => ev_icmp_gt (tgt := 208) dX6_findPlan_60 (by decide)) (fun h1 => ?_) (fun h1 => ?_)
    · exact ep_vret rfl dX6_findPlan_208
    · refine ep_aload_n (q := 64) 0 dX6_findPlan_63 rfl rfl rfl ?_
      refine ep_iload_n (q := 65) 3 dX6_findPlan_64 rfl rfl rfl ?_
      refine ep_i2l (v := x3.toInt64) (q := 66) dX6_findPlan_65 rfl rfl ?_
      refine ep_invVI1 (As := [.long x3.toInt64]) (rest := []) (q := 69) e0 (okX6_canAct x3.toInt64) rfl calX6_canAct ml6_208 (by omega) rfl rfl (Nat.le_of_ble_eq_true rfl) dX6_findPlan_66 rfl (fun z2 => ?_)
      refine ep_if (pt := 202) (pf := 72) (fun _ _ _ _ _ _ => ev_if_eq (tgt := 202) dX6_findPlan_69 (by decide)) (fun h3 => ?_) (fun h3 => ?_)
      · refine ep_iinc (v := x3 + (1 : Int32)) (lv' := [(3, .int (x3 + (1 : Int32))), (0, .ref a0), (1, .int x1), (2, .ref a1)]) (q := 205) 3 dX6_findPlan_202 rfl rfl (by decide) rfl rfl ?_
        refine ep_goto (tgt := 57) dX6_findPlan_205 (by decide) ?_
        refine ep_sub (lv' := [(0, .ref a0), (1, .int x1), (2, .ref a1), (3, .int (x3 + (1 : Int32)))]) [1, 2, 3, 0] rfl ?_
        exact ih x1 (x3 + (1 : Int32)) (wrT t p z2.2) ob a0 e0 a1 e1
      · refine ep_aload_n (q := 73) 2 dX6_findPlan_72 rfl rfl rfl ?_
        refine ep_aload_n (q := 74) 0 dX6_findPlan_73 rfl rfl rfl ?_
        refine ep_invVU2 (As := [.ref a0]) (rest := []) (q := 77) e1 e0 cne (okX6_takeFrom) rfl calX6_takeFrom ml6_254 (by omega) rfl rfl (Nat.le_of_ble_eq_true rfl) dX6_findPlan_74 rfl (fun z4 => ?_)
        refine ep_aload_n (q := 78) 2 dX6_findPlan_77 rfl rfl rfl ?_
        refine ep_iload_n (q := 79) 3 dX6_findPlan_78 rfl rfl rfl ?_
        refine ep_iconst (v := (0 : Int32)) (q := 80) dX6_findPlan_79 (by decide) rfl ?_
        refine ep_invVU1 (As := [.int x3, .int (0 : Int32)]) (rest := []) (q := 83) e1 (okX6_goes x3 (0 : Int32)) rfl calX6_goes ml6_212 (by omega) rfl rfl (Nat.le_of_ble_eq_true rfl) dX6_findPlan_80 rfl (fun z5 => ?_)
        refine ep_aload_n (q := 84) 2 dX6_findPlan_83 rfl rfl rfl ?_
        refine ep_iload_n (q := 85) 1 dX6_findPlan_84 rfl rfl rfl ?_
        refine ep_iconst (v := (1 : Int32)) (q := 86) dX6_findPlan_85 (by decide) rfl ?_
        refine ep_isub (q := 87) dX6_findPlan_86 rfl ?_
        refine ep_invVUP (As := [.int (x1 - (1 : Int32))]) (rest := []) (q := 90) e1 (hself (x1.toNatClampNeg :: p) (x1 - (1 : Int32))) rfl calX6_findPlan ml6_320 hd1 rfl rfl (Nat.le_of_ble_eq_true rfl) dX6_findPlan_87 rfl (fun z6 obz6 _ mvz6 => ?_)
        refine ep_aload_n (q := 91) 0 dX6_findPlan_90 rfl rfl rfl ?_
        refine ep_getI (x := (z6.2.2 p).1 0 38) (q := 94) (mvz6 _ _ e0) fl6_317 rfl rfl dX6_findPlan_91 rfl ?_
        refine ep_iconst (v := (-1 : Int32)) (q := 95) dX6_findPlan_94 (by decide) rfl ?_
        refine ep_if (pt := 109) (pf := 98) (fun _ _ _ _ _ _ => ev_icmp_eq (tgt := 109) dX6_findPlan_95 (by decide)) (fun h7 => ?_) (fun h7 => ?_)
        · refine ep_sub (lv' := [(0, .ref a0), (1, .int x1), (2, .ref a1), (3, .int x3)]) [0, 1, 2, 3] rfl ?_
          exact okX6_findPlan_109 hNew p hd1 hd2 self hself (fX6_findPlan_57 p self n) ih x1 x3 z6.2 obz6 a0 (mvz6 _ _ e0) a1 (mvz6 _ _ e1)
        · refine ep_aload_n (q := 99) 2 dX6_findPlan_98 rfl rfl rfl ?_
          refine ep_getI (x := (z6.2.2 (x1.toNatClampNeg :: p)).1 0 39) (q := 102) (mvz6 _ _ e1) fl6_310 rfl rfl dX6_findPlan_99 rfl ?_
          refine ep_aload_n (q := 103) 0 dX6_findPlan_102 rfl rfl rfl ?_
          refine ep_getI (x := (z6.2.2 p).1 0 39) (q := 106) (mvz6 _ _ e0) fl6_310 rfl rfl dX6_findPlan_103 rfl ?_
          refine ep_if (pt := 113) (pf := 109) (fun _ _ _ _ _ _ => ev_icmp_ge (tgt := 113) dX6_findPlan_106 (by decide)) (fun h8 => ?_) (fun h8 => ?_)
          · refine ep_iconst (v := (0 : Int32)) (q := 114) dX6_findPlan_113 (by decide) rfl ?_
            refine ep_sub (lv' := [(0, .ref a0), (1, .int x1), (2, .ref a1), (3, .int x3)]) [0, 1, 2, 3] rfl ?_
            exact okX6_findPlan_114 hNew p hd1 hd2 self hself (fX6_findPlan_57 p self n) ih x1 x3 (0 : Int32) z6.2 obz6 a0 (mvz6 _ _ e0) a1 (mvz6 _ _ e1)
          · refine ep_sub (lv' := [(0, .ref a0), (1, .int x1), (2, .ref a1), (3, .int x3)]) [0, 1, 2, 3] rfl ?_
            exact okX6_findPlan_109 hNew p hd1 hd2 self hself (fX6_findPlan_57 p self n) ih x1 x3 z6.2 obz6 a0 (mvz6 _ _ e0) a1 (mvz6 _ _ e1)
set_option maxRecDepth 100000 in
set_option maxHeartbeats 4000000 in
theorem okX6_findPlan_43 (hNew : NewOK) {G : GG} {X : Nat → Prop} {ob0 : List Nat → Nat} {t0 : TF} {h00 : PH} (p : List Nat) {d dself : Nat} (hd1 : dself + 1 ≤ d) (hd2 : 3 ≤ d) (self : List Nat → Int32 → TF → Option (Unit × TF)) (hself : ∀ (p : List Nat) (x1 : Int32), MtP dself mX6_findPlan rwU p (fun a => [.ref a, .int x1]) (self p x1)) (x1 : Int32) (t : TF) (ob : List Nat → Nat) (a0 : Nat) (e0 : AtF ob t (p) a0) : EvP G d mX6_findPlan X ob0 t0 h00 rwU (fX6_findPlan_43 p self x1 t) 43 [(0, .ref a0), (1, .int x1)] [] t ob := by
  unfold fX6_findPlan_43
  refine ep_aload_n (q := 44) 0 dX6_findPlan_43 rfl rfl rfl ?_
  refine ep_getR (k := 28) (q := 47) e0 fl6_70 rfl rfl rfl dX6_findPlan_44 rfl ?_
  refine ep_iload_n (q := 48) 1 dX6_findPlan_47 rfl rfl rfl ?_
  refine ep_guard (fun g1 => ?_)
  refine ep_aaZ (q := 49) e0 g1 dX6_findPlan_48 rfl ?_
  refine ep_lz (fun g2 => ?_)
  refine ep_astore_n (lv' := [(2, .ref (ob (x1.toNatClampNeg :: p))), (0, .ref a0), (1, .int x1)]) (q := 50) dX6_findPlan_49 rfl (by decide) rfl rfl ?_
  refine ep_aload_n (q := 51) 1 dX6_findPlan_50 rfl rfl rfl ?_
  refine ep_iconst (v := (-1 : Int32)) (q := 52) dX6_findPlan_51 (by decide) rfl ?_
  refine ep_putI (q := 55) e0 fl6_317 rfl rfl dX6_findPlan_52 rfl ?_
  refine ep_iconst (v := (0 : Int32)) (q := 56) dX6_findPlan_55 (by decide) rfl ?_
  refine ep_istore_n (lv' := [(3, .int (0 : Int32)), (2, .ref (ob (x1.toNatClampNeg :: p))), (0, .ref a0), (1, .int x1)]) (q := 57) dX6_findPlan_56 rfl (by decide) rfl rfl ?_
  refine ep_sub (lv' := [(0, .ref a0), (1, .int x1), (2, .ref (ob (x1.toNatClampNeg :: p))), (3, .int (0 : Int32))]) [2, 3, 1, 0] rfl ?_
  exact okX6_findPlan_57 hNew p hd1 hd2 self hself FU x1 (0 : Int32) (wTI t p 0 38 (-1 : Int32)) ob a0 e0 (ob (x1.toNatClampNeg :: p)) (⟨g2, rfl⟩)
set_option maxRecDepth 100000 in
set_option maxHeartbeats 4000000 in
theorem okX6_findPlan_0 (hNew : NewOK) {G : GG} {X : Nat → Prop} {ob0 : List Nat → Nat} {t0 : TF} {h00 : PH} (p : List Nat) {d dself : Nat} (hd1 : dself + 1 ≤ d) (hd2 : 3 ≤ d) (self : List Nat → Int32 → TF → Option (Unit × TF)) (hself : ∀ (p : List Nat) (x1 : Int32), MtP dself mX6_findPlan rwU p (fun a => [.ref a, .int x1]) (self p x1)) (x1 : Int32) (t : TF) (ob : List Nat → Nat) (a0 : Nat) (e0 : AtF ob t (p) a0) : EvP G d mX6_findPlan X ob0 t0 h00 rwU (fX6_findPlan_0 p self x1 t) 0 [(0, .ref a0), (1, .int x1)] [] t ob := by
  unfold fX6_findPlan_0
  refine ep_iload_n (q := 1) 1 dX6_findPlan_0 rfl rfl rfl ?_
  refine ep_if (pt := 4) (pf := 21) (fun _ _ _ _ _ _ kt kf => ev_if_ne (tgt := 21) dX6_findPlan_1 (by decide) kf kt) (fun h1 => ?_) (fun h1 => ?_)
  · refine ep_aload_n (q := 5) 0 dX6_findPlan_4 rfl rfl rfl ?_
    refine ep_aload_n (q := 6) 0 dX6_findPlan_5 rfl rfl rfl ?_
    refine ep_getI (x := (t.2 p).1 0 19) (q := 9) e0 fl6_283 rfl rfl dX6_findPlan_6 rfl ?_
    refine ep_putI (q := 12) e0 fl6_310 rfl rfl dX6_findPlan_9 rfl ?_
    refine ep_aload_n (q := 13) 0 dX6_findPlan_12 rfl rfl rfl ?_
    refine ep_aload_n (q := 14) 0 dX6_findPlan_13 rfl rfl rfl ?_
    refine ep_getI (x := ((wTI t p 0 39 ((t.2 p).1 0 19)).2 p).1 0 20) (q := 17) e0 fl6_274 rfl rfl dX6_findPlan_14 rfl ?_
    refine ep_putI (q := 20) e0 fl6_313 rfl rfl dX6_findPlan_17 rfl ?_
    exact ep_vret rfl dX6_findPlan_20
  · refine ep_aload_n (q := 22) 0 dX6_findPlan_21 rfl rfl rfl ?_
    refine ep_getR (k := 28) (q := 25) e0 fl6_70 rfl rfl rfl dX6_findPlan_22 rfl ?_
    refine ep_iload_n (q := 26) 1 dX6_findPlan_25 rfl rfl rfl ?_
    refine ep_guard (fun g2 => ?_)
    refine ep_aaZ (q := 27) e0 g2 dX6_findPlan_26 rfl ?_
    refine ep_ifnonnull (tgt := 43) (q := 30) dX6_findPlan_27 (by decide) rfl (fun h3 => ?_) (fun h3 => ?_)
    · refine ep_sub (lv' := [(0, .ref a0), (1, .int x1)]) [0, 1] rfl ?_
      exact okX6_findPlan_43 hNew p hd1 hd2 self hself x1 t ob a0 e0
    · refine ep_aload_n (q := 31) 0 dX6_findPlan_30 rfl rfl rfl ?_
      refine ep_getR (k := 28) (q := 34) e0 fl6_70 rfl rfl rfl dX6_findPlan_31 rfl ?_
      refine ep_iload_n (q := 35) 1 dX6_findPlan_34 rfl rfl rfl ?_
      refine ep_guard (fun g4 => ?_)
      refine ep_guard (fun g6 => ?_)
      refine ep_newA hNew (q := 43) e0 g6 g4 h3 rfl (by omega) (by decide) dX6_findPlan_35 dX6_findPlan_38 dX6_findPlan_39 dX6_findPlan_42 rfl (fun obz5 mvz5 => ?_)
      refine ep_sub (lv' := [(0, .ref a0), (1, .int x1)]) [0, 1] rfl ?_
      exact okX6_findPlan_43 hNew p hd1 hd2 self hself x1 (mkT t (x1.toNatClampNeg :: p) S0R) obz5 a0 (mvz5 _ _ e0)
theorem okX6_findPlan_b (hNew : NewOK) (p : List Nat) {d dself : Nat} (hd1 : dself + 1 ≤ d) (hd2 : 3 ≤ d) (self : List Nat → Int32 → TF → Option (Unit × TF)) (hself : ∀ (p : List Nat) (x1 : Int32), MtP dself mX6_findPlan rwU p (fun a => [.ref a, .int x1]) (self p x1)) (x1 : Int32) : MtP d mX6_findPlan rwU p (fun a => [.ref a, .int x1]) (fX6_findPlan_b self p x1) := by
  refine MtP.of (by decide +kernel) rfl (fun _ => Nat.le_of_ble_eq_true rfl) (fun G X ob t h a e => ?_)
  refine ep_sub (lv := [(0, .ref a), (1, .int x1)]) (lv' := [(0, .ref a), (1, .int x1)]) [0, 1] rfl ?_
  exact okX6_findPlan_0 hNew p hd1 hd2 self hself x1 t ob a e
def fX6_findPlan_r : Nat → List Nat → Int32 → TF → Option (Unit × TF)
  | 0 => fun _ _ _ => none
  | n + 1 => fX6_findPlan_b (fX6_findPlan_r n)
theorem okX6_findPlan_r (hNew : NewOK) : ∀ (n : Nat) (p : List Nat) (x1 : Int32), MtP (3 + n) mX6_findPlan rwU p (fun a => [.ref a, .int x1]) (fX6_findPlan_r n p x1)
  | 0, _, _ => ⟨fun _ _ _ _ hf => (by cases hf), fun _ _ _ _ _ _ _ _ _ hf => (by cases hf)⟩
  | n + 1, p, x1 => okX6_findPlan_b hNew p (d := 3 + (n + 1)) (dself := 3 + n) (by omega) (by omega) (fX6_findPlan_r n) (fun p x1 => okX6_findPlan_r hNew n p x1) x1
def fX6_findPlan : List Nat → Int32 → TF → Option (Unit × TF) := fX6_findPlan_r 5
theorem okX6_findPlan (hNew : NewOK) (p : List Nat) (x1 : Int32) : MtP 8 mX6_findPlan rwU p (fun a => [.ref a, .int x1]) (fX6_findPlan p x1) := okX6_findPlan_r hNew 5 p x1
-- X6_image
theorem dX6_image_0 : decode cX6_image 0 = .ok (.aload_n 0, 1) := by decide +kernel
theorem dX6_image_1 : decode cX6_image 1 = .ok (.getfield 385, 3) := by decide +kernel
theorem dX6_image_4 : decode cX6_image 4 = .ok (.ifnonnull 14, 3) := by decide +kernel
theorem dX6_image_7 : decode cX6_image 7 = .ok (.aload_n 0, 1) := by decide +kernel
theorem dX6_image_8 : decode cX6_image 8 = .ok (.new 8, 3) := by decide +kernel
theorem dX6_image_11 : decode cX6_image 11 = .ok (.dup, 1) := by decide +kernel
theorem dX6_image_12 : decode cX6_image 12 = .ok (.invokespecial 316, 3) := by decide +kernel
theorem dX6_image_15 : decode cX6_image 15 = .ok (.putfield 385, 3) := by decide +kernel
theorem dX6_image_18 : decode cX6_image 18 = .ok (.aload_n 0, 1) := by decide +kernel
theorem dX6_image_19 : decode cX6_image 19 = .ok (.getfield 385, 3) := by decide +kernel
theorem dX6_image_22 : decode cX6_image 22 = .ok (.aload_n 0, 1) := by decide +kernel
theorem dX6_image_23 : decode cX6_image 23 = .ok (.invokevirtual 254, 3) := by decide +kernel
theorem dX6_image_26 : decode cX6_image 26 = .ok (.iconst 1, 1) := by decide +kernel
theorem dX6_image_27 : decode cX6_image 27 = .ok (.ireturn, 1) := by decide +kernel
def fX6_image_18 (p : List Nat) (t : TF) : Option (Int32 × TF) := if t.1 (8 :: p) = true then (((fX6_takeFrom (prS (t.2 (8 :: p)) (t.2 p))).bind fun z2 => some ((1 : Int32), wrT (wrT t (8 :: p) z2.2) p (snS z2.2)))) else none
def fX6_image_0 (p : List Nat) (t : TF) : Option (Int32 × TF) := if t.1 (8 :: p) = true then (fX6_image_18 p t) else (if 8 :: p ∈ UF then (fX6_image_18 p (mkT t (8 :: p) S0R)) else none)
def fX6_image (p : List Nat) (t : TF) : Option (Int32 × TF) := fX6_image_0 p t
set_option maxRecDepth 100000 in
set_option maxHeartbeats 4000000 in
theorem okX6_image_18 (hNew : NewOK) {G : GG} {X : Nat → Prop} {ob0 : List Nat → Nat} {t0 : TF} {h00 : PH} (p : List Nat) (t : TF) (ob : List Nat → Nat) (a0 : Nat) (e0 : AtF ob t (p) a0) : EvP G 3 mX6_image X ob0 t0 h00 rwI (fX6_image_18 p t) 18 [(0, .ref a0)] [] t ob := by
  unfold fX6_image_18
  refine ep_aload_n (q := 19) 0 dX6_image_18 rfl rfl rfl ?_
  refine ep_getZ (z := (8, 0, 28)) (q := 22) e0 (by decide) rfl fl6_385 rfl dX6_image_19 rfl ?_
  refine ep_lz (fun g1 => ?_)
  refine ep_aload_n (q := 23) 0 dX6_image_22 rfl rfl rfl ?_
  refine ep_invVU2 (As := [.ref a0]) (rest := []) (q := 26) (⟨g1, rfl⟩) e0 cne (okX6_takeFrom) rfl calX6_takeFrom ml6_254 (by decide) rfl rfl (Nat.le_of_ble_eq_true rfl) dX6_image_23 rfl (fun z2 => ?_)
  refine ep_iconst (v := (1 : Int32)) (q := 27) dX6_image_26 (by decide) rfl ?_
  exact ep_iret rfl dX6_image_27
set_option maxRecDepth 100000 in
set_option maxHeartbeats 4000000 in
theorem okX6_image_0 (hNew : NewOK) {G : GG} {X : Nat → Prop} {ob0 : List Nat → Nat} {t0 : TF} {h00 : PH} (p : List Nat) (t : TF) (ob : List Nat → Nat) (a0 : Nat) (e0 : AtF ob t (p) a0) : EvP G 3 mX6_image X ob0 t0 h00 rwI (fX6_image_0 p t) 0 [(0, .ref a0)] [] t ob := by
  unfold fX6_image_0
  refine ep_aload_n (q := 1) 0 dX6_image_0 rfl rfl rfl ?_
  refine ep_getZ (z := (8, 0, 28)) (q := 4) e0 (by decide) rfl fl6_385 rfl dX6_image_1 rfl ?_
  refine ep_ifnonnull (tgt := 18) (q := 7) dX6_image_4 (by decide) rfl (fun h1 => ?_) (fun h1 => ?_)
  · refine ep_sub (lv' := [(0, .ref a0)]) [0] rfl ?_
    exact okX6_image_18 hNew p t ob a0 e0
  · refine ep_aload_n (q := 8) 0 dX6_image_7 rfl rfl rfl ?_
    refine ep_guard (fun g2 => ?_)
    refine ep_newP hNew (z := (8, 0, 28)) (q := 18) e0 (by decide) rfl g2 h1 rfl (by decide) fl6_385 rfl rfl (by decide) dX6_image_8 dX6_image_11 dX6_image_12 dX6_image_15 rfl (fun obz3 mvz3 => ?_)
    refine ep_sub (lv' := [(0, .ref a0)]) [0] rfl ?_
    exact okX6_image_18 hNew p (mkT t (8 :: p) S0R) obz3 a0 (mvz3 _ _ e0)
theorem okX6_image (hNew : NewOK) (p : List Nat) : MtP 3 mX6_image rwI p (fun a => [.ref a]) (fX6_image p) := by
  refine MtP.of (by decide +kernel) rfl (fun _ => Nat.le_of_ble_eq_true rfl) (fun G X ob t h a e => ?_)
  refine ep_sub (lv := [(0, .ref a)]) (lv' := [(0, .ref a)]) [0] rfl ?_
  exact okX6_image_0 hNew p t ob a e
-- X6_wouldBe
theorem dX6_wouldBe_0 : decode cX6_wouldBe 0 = .ok (.aload_n 0, 1) := by decide +kernel
theorem dX6_wouldBe_1 : decode cX6_wouldBe 1 = .ok (.getfield 93, 3) := by decide +kernel
theorem dX6_wouldBe_4 : decode cX6_wouldBe 4 = .ok (.ifCond .ne 5, 3) := by decide +kernel
theorem dX6_wouldBe_7 : decode cX6_wouldBe 7 = .ok (.iconst 0, 1) := by decide +kernel
theorem dX6_wouldBe_8 : decode cX6_wouldBe 8 = .ok (.ireturn, 1) := by decide +kernel
theorem dX6_wouldBe_9 : decode cX6_wouldBe 9 = .ok (.aload_n 0, 1) := by decide +kernel
theorem dX6_wouldBe_10 : decode cX6_wouldBe 10 = .ok (.getfield 58, 3) := by decide +kernel
theorem dX6_wouldBe_13 : decode cX6_wouldBe 13 = .ok (.iload_n 1, 1) := by decide +kernel
theorem dX6_wouldBe_14 : decode cX6_wouldBe 14 = .ok (.iaload, 1) := by decide +kernel
theorem dX6_wouldBe_15 : decode cX6_wouldBe 15 = .ok (.tableswitch 92 1 5 #[33, 63, 68, 38, 73], 33) := by decide +kernel
theorem dX6_wouldBe_48 : decode cX6_wouldBe 48 = .ok (.aload_n 0, 1) := by decide +kernel
theorem dX6_wouldBe_49 : decode cX6_wouldBe 49 = .ok (.invokevirtual 307, 3) := by decide +kernel
theorem dX6_wouldBe_52 : decode cX6_wouldBe 52 = .ok (.ireturn, 1) := by decide +kernel
theorem dX6_wouldBe_53 : decode cX6_wouldBe 53 = .ok (.aload_n 0, 1) := by decide +kernel
theorem dX6_wouldBe_54 : decode cX6_wouldBe 54 = .ok (.getfield 289, 3) := by decide +kernel
theorem dX6_wouldBe_57 : decode cX6_wouldBe 57 = .ok (.aload_n 0, 1) := by decide +kernel
theorem dX6_wouldBe_58 : decode cX6_wouldBe 58 = .ok (.getfield 61, 3) := by decide +kernel
theorem dX6_wouldBe_61 : decode cX6_wouldBe 61 = .ok (.iload_n 1, 1) := by decide +kernel
theorem dX6_wouldBe_62 : decode cX6_wouldBe 62 = .ok (.iaload, 1) := by decide +kernel
theorem dX6_wouldBe_63 : decode cX6_wouldBe 63 = .ok (.iconst 2, 1) := by decide +kernel
theorem dX6_wouldBe_64 : decode cX6_wouldBe 64 = .ok (.iadd, 1) := by decide +kernel
theorem dX6_wouldBe_65 : decode cX6_wouldBe 65 = .ok (.irem, 1) := by decide +kernel
theorem dX6_wouldBe_66 : decode cX6_wouldBe 66 = .ok (.ifCond .eq 7, 3) := by decide +kernel
theorem dX6_wouldBe_69 : decode cX6_wouldBe 69 = .ok (.iconst 0, 1) := by decide +kernel
theorem dX6_wouldBe_70 : decode cX6_wouldBe 70 = .ok (.goto 7, 3) := by decide +kernel
theorem dX6_wouldBe_73 : decode cX6_wouldBe 73 = .ok (.aload_n 0, 1) := by decide +kernel
theorem dX6_wouldBe_74 : decode cX6_wouldBe 74 = .ok (.invokevirtual 307, 3) := by decide +kernel
theorem dX6_wouldBe_77 : decode cX6_wouldBe 77 = .ok (.ireturn, 1) := by decide +kernel
theorem dX6_wouldBe_78 : decode cX6_wouldBe 78 = .ok (.aload_n 0, 1) := by decide +kernel
theorem dX6_wouldBe_79 : decode cX6_wouldBe 79 = .ok (.invokevirtual 323, 3) := by decide +kernel
theorem dX6_wouldBe_82 : decode cX6_wouldBe 82 = .ok (.ireturn, 1) := by decide +kernel
theorem dX6_wouldBe_83 : decode cX6_wouldBe 83 = .ok (.aload_n 0, 1) := by decide +kernel
theorem dX6_wouldBe_84 : decode cX6_wouldBe 84 = .ok (.invokevirtual 326, 3) := by decide +kernel
theorem dX6_wouldBe_87 : decode cX6_wouldBe 87 = .ok (.ireturn, 1) := by decide +kernel
theorem dX6_wouldBe_88 : decode cX6_wouldBe 88 = .ok (.aload_n 0, 1) := by decide +kernel
theorem dX6_wouldBe_89 : decode cX6_wouldBe 89 = .ok (.aload_n 0, 1) := by decide +kernel
theorem dX6_wouldBe_90 : decode cX6_wouldBe 90 = .ok (.getfield 61, 3) := by decide +kernel
theorem dX6_wouldBe_93 : decode cX6_wouldBe 93 = .ok (.iload_n 1, 1) := by decide +kernel
theorem dX6_wouldBe_94 : decode cX6_wouldBe 94 = .ok (.iaload, 1) := by decide +kernel
theorem dX6_wouldBe_95 : decode cX6_wouldBe 95 = .ok (.iconst 3, 1) := by decide +kernel
theorem dX6_wouldBe_96 : decode cX6_wouldBe 96 = .ok (.irem, 1) := by decide +kernel
theorem dX6_wouldBe_97 : decode cX6_wouldBe 97 = .ok (.iconst 1, 1) := by decide +kernel
theorem dX6_wouldBe_98 : decode cX6_wouldBe 98 = .ok (.iadd, 1) := by decide +kernel
theorem dX6_wouldBe_99 : decode cX6_wouldBe 99 = .ok (.invokevirtual 320, 3) := by decide +kernel
theorem dX6_wouldBe_102 : decode cX6_wouldBe 102 = .ok (.aload_n 0, 1) := by decide +kernel
theorem dX6_wouldBe_103 : decode cX6_wouldBe 103 = .ok (.getfield 317, 3) := by decide +kernel
theorem dX6_wouldBe_106 : decode cX6_wouldBe 106 = .ok (.ireturn, 1) := by decide +kernel
theorem dX6_wouldBe_107 : decode cX6_wouldBe 107 = .ok (.iconst 1, 1) := by decide +kernel
theorem dX6_wouldBe_108 : decode cX6_wouldBe 108 = .ok (.ireturn, 1) := by decide +kernel
def fX6_wouldBe_0 (p : List Nat) (x1 : Int32) (t : TF) : Option (Int32 × TF) := if ((t.2 p).1 0 10) = 0 then (some ((0 : Int32), t)) else (if ixB x1 4 then (if ((t.2 p).1 25 x1.toNatClampNeg) = (1 : Int32) then (((fX6_roundAct (t.2 p)).bind fun z4 => some (z4.1, wrT t p z4.2))) else (if ((t.2 p).1 25 x1.toNatClampNeg) = (2 : Int32) then (((fX6_wettestAct (t.2 p)).bind fun z6 => some (z6.1, wrT t p z6.2))) else (if ((t.2 p).1 25 x1.toNatClampNeg) = (3 : Int32) then (((fX6_lowestAct (t.2 p)).bind fun z8 => some (z8.1, wrT t p z8.2))) else (if ((t.2 p).1 25 x1.toNatClampNeg) = (4 : Int32) then (if ixB x1 4 then (if ¬ (((t.2 p).1 26 x1.toNatClampNeg) + (2 : Int32)) = 0 then (if (((t.2 p).1 0 18) - ((t.2 p).1 0 18) / (((t.2 p).1 26 x1.toNatClampNeg) + (2 : Int32)) * (((t.2 p).1 26 x1.toNatClampNeg) + (2 : Int32))) = 0 then (((fX6_roundAct (t.2 p)).bind fun z13 => some (z13.1, wrT t p z13.2))) else (some ((0 : Int32), t))) else none) else none) else (if ((t.2 p).1 25 x1.toNatClampNeg) = (5 : Int32) then (if ixB x1 4 then (((fX6_findPlan p ((((t.2 p).1 26 x1.toNatClampNeg) - ((t.2 p).1 26 x1.toNatClampNeg) / (3 : Int32) * (3 : Int32)) + (1 : Int32)) t).bind fun z16 => some ((z16.2.2 p).1 0 38, z16.2))) else none) else (some ((1 : Int32), t))))))) else none)
def fX6_wouldBe (p : List Nat) (x1 : Int32) (t : TF) : Option (Int32 × TF) := fX6_wouldBe_0 p x1 t
set_option maxRecDepth 100000 in
set_option maxHeartbeats 4000000 in
theorem okX6_wouldBe_0 (hNew : NewOK) {G : GG} {X : Nat → Prop} {ob0 : List Nat → Nat} {t0 : TF} {h00 : PH} (p : List Nat) (x1 : Int32) (t : TF) (ob : List Nat → Nat) (a0 : Nat) (e0 : AtF ob t (p) a0) : EvP G 9 mX6_wouldBe X ob0 t0 h00 rwI (fX6_wouldBe_0 p x1 t) 0 [(0, .ref a0), (1, .int x1)] [] t ob := by
  unfold fX6_wouldBe_0
  refine ep_aload_n (q := 1) 0 dX6_wouldBe_0 rfl rfl rfl ?_
  refine ep_getI (x := (t.2 p).1 0 10) (q := 4) e0 fl6_93 rfl rfl dX6_wouldBe_1 rfl ?_
  refine ep_if (pt := 7) (pf := 9) (fun _ _ _ _ _ _ kt kf => ev_if_ne (tgt := 9) dX6_wouldBe_4 (by decide) kf kt) (fun h1 => ?_) (fun h1 => ?_)
  · refine ep_iconst (v := (0 : Int32)) (q := 8) dX6_wouldBe_7 (by decide) rfl ?_
    exact ep_iret rfl dX6_wouldBe_8
  · refine ep_aload_n (q := 10) 0 dX6_wouldBe_9 rfl rfl rfl ?_
    refine ep_getR (k := 25) (q := 13) e0 fl6_58 rfl rfl rfl dX6_wouldBe_10 rfl ?_
    refine ep_iload_n (q := 14) 1 dX6_wouldBe_13 rfl rfl rfl ?_
    refine ep_guard (fun g2 => ?_)
    refine ep_iaload (x := (t.2 p).1 25 x1.toNatClampNeg) (q := 15) e0 rfl g2 dX6_wouldBe_14 rfl rfl ?_
    refine ep_dec (fun h3 => ?_) (fun h3 => ?_)
    · refine ep_of (fun _ _ _ _ _ _ => ev_tableIn (tgt := 48) dX6_wouldBe_15 (by rw [h3]; decide) (by rw [h3]; decide) (off := 33) (by rw [h3]; rfl) (by decide)) ?_
      refine ep_aload_n (q := 49) 0 dX6_wouldBe_48 rfl rfl rfl ?_
      refine ep_invVI1 (As := []) (rest := []) (q := 52) e0 (okX6_roundAct) rfl calX6_roundAct ml6_307 (by decide) rfl rfl (Nat.le_of_ble_eq_true rfl) dX6_wouldBe_49 rfl (fun z4 => ?_)
      exact ep_iret rfl dX6_wouldBe_52
    refine ep_dec (fun h5 => ?_) (fun h5 => ?_)
    · refine ep_of (fun _ _ _ _ _ _ => ev_tableIn (tgt := 78) dX6_wouldBe_15 (by rw [h5]; decide) (by rw [h5]; decide) (off := 63) (by rw [h5]; rfl) (by decide)) ?_
      refine ep_aload_n (q := 79) 0 dX6_wouldBe_78 rfl rfl rfl ?_
      refine ep_invVI1 (As := []) (rest := []) (q := 82) e0 (okX6_wettestAct) rfl calX6_wettestAct ml6_323 (by decide) rfl rfl (Nat.le_of_ble_eq_true rfl) dX6_wouldBe_79 rfl (fun z6 => ?_)
      exact ep_iret rfl dX6_wouldBe_82
    refine ep_dec (fun h7 => ?_) (fun h7 => ?_)
    · refine ep_of (fun _ _ _ _ _ _ => ev_tableIn (tgt := 83) dX6_wouldBe_15 (by rw [h7]; decide) (by rw [h7]; decide) (off := 68) (by rw [h7]; rfl) (by decide)) ?_
      refine ep_aload_n (q := 84) 0 dX6_wouldBe_83 rfl rfl rfl ?_
      refine ep_invVI1 (As := []) (rest := []) (q := 87) e0 (okX6_lowestAct) rfl calX6_lowestAct ml6_326 (by decide) rfl rfl (Nat.le_of_ble_eq_true rfl) dX6_wouldBe_84 rfl (fun z8 => ?_)
      exact ep_iret rfl dX6_wouldBe_87
    refine ep_dec (fun h9 => ?_) (fun h9 => ?_)
    · refine ep_of (fun _ _ _ _ _ _ => ev_tableIn (tgt := 53) dX6_wouldBe_15 (by rw [h9]; decide) (by rw [h9]; decide) (off := 38) (by rw [h9]; rfl) (by decide)) ?_
      refine ep_aload_n (q := 54) 0 dX6_wouldBe_53 rfl rfl rfl ?_
      refine ep_getI (x := (t.2 p).1 0 18) (q := 57) e0 fl6_289 rfl rfl dX6_wouldBe_54 rfl ?_
      refine ep_aload_n (q := 58) 0 dX6_wouldBe_57 rfl rfl rfl ?_
      refine ep_getR (k := 26) (q := 61) e0 fl6_61 rfl rfl rfl dX6_wouldBe_58 rfl ?_
      refine ep_iload_n (q := 62) 1 dX6_wouldBe_61 rfl rfl rfl ?_
      refine ep_guard (fun g10 => ?_)
      refine ep_iaload (x := (t.2 p).1 26 x1.toNatClampNeg) (q := 63) e0 rfl g10 dX6_wouldBe_62 rfl rfl ?_
      refine ep_iconst (v := (2 : Int32)) (q := 64) dX6_wouldBe_63 (by decide) rfl ?_
      refine ep_iadd (q := 65) dX6_wouldBe_64 rfl ?_
      refine ep_guard (fun g11 => ?_)
      refine ep_irem (q := 66) dX6_wouldBe_65 g11 rfl ?_
      refine ep_if (pt := 73) (pf := 69) (fun _ _ _ _ _ _ => ev_if_eq (tgt := 73) dX6_wouldBe_66 (by decide)) (fun h12 => ?_) (fun h12 => ?_)
      · refine ep_aload_n (q := 74) 0 dX6_wouldBe_73 rfl rfl rfl ?_
        refine ep_invVI1 (As := []) (rest := []) (q := 77) e0 (okX6_roundAct) rfl calX6_roundAct ml6_307 (by decide) rfl rfl (Nat.le_of_ble_eq_true rfl) dX6_wouldBe_74 rfl (fun z13 => ?_)
        exact ep_iret rfl dX6_wouldBe_77
      · refine ep_iconst (v := (0 : Int32)) (q := 70) dX6_wouldBe_69 (by decide) rfl ?_
        refine ep_goto (tgt := 77) dX6_wouldBe_70 (by decide) ?_
        exact ep_iret rfl dX6_wouldBe_77
    refine ep_dec (fun h14 => ?_) (fun h14 => ?_)
    · refine ep_of (fun _ _ _ _ _ _ => ev_tableIn (tgt := 88) dX6_wouldBe_15 (by rw [h14]; decide) (by rw [h14]; decide) (off := 73) (by rw [h14]; rfl) (by decide)) ?_
      refine ep_aload_n (q := 89) 0 dX6_wouldBe_88 rfl rfl rfl ?_
      refine ep_aload_n (q := 90) 0 dX6_wouldBe_89 rfl rfl rfl ?_
      refine ep_getR (k := 26) (q := 93) e0 fl6_61 rfl rfl rfl dX6_wouldBe_90 rfl ?_
      refine ep_iload_n (q := 94) 1 dX6_wouldBe_93 rfl rfl rfl ?_
      refine ep_guard (fun g15 => ?_)
      refine ep_iaload (x := (t.2 p).1 26 x1.toNatClampNeg) (q := 95) e0 rfl g15 dX6_wouldBe_94 rfl rfl ?_
      refine ep_iconst (v := (3 : Int32)) (q := 96) dX6_wouldBe_95 (by decide) rfl ?_
      refine ep_irem (q := 97) dX6_wouldBe_96 (by decide) rfl ?_
      refine ep_iconst (v := (1 : Int32)) (q := 98) dX6_wouldBe_97 (by decide) rfl ?_
      refine ep_iadd (q := 99) dX6_wouldBe_98 rfl ?_
      refine ep_invVUP (As := [.int ((((t.2 p).1 26 x1.toNatClampNeg) - ((t.2 p).1 26 x1.toNatClampNeg) / (3 : Int32) * (3 : Int32)) + (1 : Int32))]) (rest := []) (q := 102) e0 (okX6_findPlan hNew p ((((t.2 p).1 26 x1.toNatClampNeg) - ((t.2 p).1 26 x1.toNatClampNeg) / (3 : Int32) * (3 : Int32)) + (1 : Int32))) rfl calX6_findPlan ml6_320 (by decide) rfl rfl (Nat.le_of_ble_eq_true rfl) dX6_wouldBe_99 rfl (fun z16 obz16 _ mvz16 => ?_)
      refine ep_aload_n (q := 103) 0 dX6_wouldBe_102 rfl rfl rfl ?_
      refine ep_getI (x := (z16.2.2 p).1 0 38) (q := 106) (mvz16 _ _ e0) fl6_317 rfl rfl dX6_wouldBe_103 rfl ?_
      exact ep_iret rfl dX6_wouldBe_106
    have hsw : ((t.2 p).1 25 x1.toNatClampNeg : Int32).toInt < 1 ∨ 5 < ((t.2 p).1 25 x1.toNatClampNeg : Int32).toInt := by
      have th3 := ne_toI (k := 1) h3 (by decide)
      have th5 := ne_toI (k := 2) h5 (by decide)
      have th7 := ne_toI (k := 3) h7 (by decide)
      have th9 := ne_toI (k := 4) h9 (by decide)
      have th14 := ne_toI (k := 5) h14 (by decide)
      omega
    refine ep_of (fun _ _ _ _ _ _ => ev_tableOut (tgt := 107) dX6_wouldBe_15 hsw (by decide)) ?_
    refine ep_iconst (v := (1 : Int32)) (q := 108) dX6_wouldBe_107 (by decide) rfl ?_
    exact ep_iret rfl dX6_wouldBe_108
theorem okX6_wouldBe (hNew : NewOK) (p : List Nat) (x1 : Int32) : MtP 9 mX6_wouldBe rwI p (fun a => [.ref a, .int x1]) (fX6_wouldBe p x1) := by
  refine MtP.of (by decide +kernel) rfl (fun _ => Nat.le_of_ble_eq_true rfl) (fun G X ob t h a e => ?_)
  refine ep_sub (lv := [(0, .ref a), (1, .int x1)]) (lv' := [(0, .ref a), (1, .int x1)]) [0, 1] rfl ?_
  exact okX6_wouldBe_0 hNew p x1 t ob a e
-- X6_would
theorem dX6_would_0 : decode cX6_would 0 = .ok (.aload_n 0, 1) := by decide +kernel
theorem dX6_would_1 : decode cX6_would 1 = .ok (.iload_n 1, 1) := by decide +kernel
theorem dX6_would_2 : decode cX6_would 2 = .ok (.invokevirtual 113, 3) := by decide +kernel
theorem dX6_would_5 : decode cX6_would 5 = .ok (.ifCond .eq 11, 3) := by decide +kernel
theorem dX6_would_8 : decode cX6_would 8 = .ok (.aload_n 0, 1) := by decide +kernel
theorem dX6_would_9 : decode cX6_would 9 = .ok (.iload_n 1, 1) := by decide +kernel
theorem dX6_would_10 : decode cX6_would 10 = .ok (.invokevirtual 123, 3) := by decide +kernel
theorem dX6_would_13 : decode cX6_would 13 = .ok (.goto 9, 3) := by decide +kernel
theorem dX6_would_16 : decode cX6_would 16 = .ok (.aload_n 0, 1) := by decide +kernel
theorem dX6_would_17 : decode cX6_would 17 = .ok (.bipush (-2), 2) := by decide +kernel
theorem dX6_would_19 : decode cX6_would 19 = .ok (.invokevirtual 102, 3) := by decide +kernel
theorem dX6_would_22 : decode cX6_would 22 = .ok (.ireturn, 1) := by decide +kernel
def fX6_would_0 (p : List Nat) (x1 : Int32) (t : TF) : Option (Int32 × TF) := ((fX6_isLicker x1 (t.2 p)).bind fun z1 => if z1.1 = 0 then (((fX6_refuse (-2 : Int32) ((wrT t p z1.2).2 p)).bind fun z3 => some (z3.1, wrT (wrT t p z1.2) p z3.2))) else (((fX6_wouldBe p x1 (wrT t p z1.2)).bind fun z4 => some (z4.1, z4.2))))
def fX6_would (p : List Nat) (x1 : Int32) (t : TF) : Option (Int32 × TF) := fX6_would_0 p x1 t
set_option maxRecDepth 100000 in
set_option maxHeartbeats 4000000 in
theorem okX6_would_0 (hNew : NewOK) {G : GG} {X : Nat → Prop} {ob0 : List Nat → Nat} {t0 : TF} {h00 : PH} (p : List Nat) (x1 : Int32) (t : TF) (ob : List Nat → Nat) (a0 : Nat) (e0 : AtF ob t (p) a0) : EvP G 10 mX6_would X ob0 t0 h00 rwI (fX6_would_0 p x1 t) 0 [(0, .ref a0), (1, .int x1)] [] t ob := by
  unfold fX6_would_0
  refine ep_aload_n (q := 1) 0 dX6_would_0 rfl rfl rfl ?_
  refine ep_iload_n (q := 2) 1 dX6_would_1 rfl rfl rfl ?_
  refine ep_invVI1 (As := [.int x1]) (rest := []) (q := 5) e0 (okX6_isLicker x1) rfl calX6_isLicker ml6_113 (by decide) rfl rfl (Nat.le_of_ble_eq_true rfl) dX6_would_2 rfl (fun z1 => ?_)
  refine ep_if (pt := 16) (pf := 8) (fun _ _ _ _ _ _ => ev_if_eq (tgt := 16) dX6_would_5 (by decide)) (fun h2 => ?_) (fun h2 => ?_)
  · refine ep_aload_n (q := 17) 0 dX6_would_16 rfl rfl rfl ?_
    refine ep_bipush (v := (-2 : Int32)) (q := 19) dX6_would_17 (by decide) rfl ?_
    refine ep_invVI1 (As := [.int (-2 : Int32)]) (rest := []) (q := 22) e0 (okX6_refuse (-2 : Int32)) rfl calX6_refuse ml6_102 (by decide) rfl rfl (Nat.le_of_ble_eq_true rfl) dX6_would_19 rfl (fun z3 => ?_)
    exact ep_iret rfl dX6_would_22
  · refine ep_aload_n (q := 9) 0 dX6_would_8 rfl rfl rfl ?_
    refine ep_iload_n (q := 10) 1 dX6_would_9 rfl rfl rfl ?_
    refine ep_invVIP (As := [.int x1]) (rest := []) (q := 13) e0 (okX6_wouldBe hNew p x1) rfl calX6_wouldBe ml6_123 (by decide) rfl rfl (Nat.le_of_ble_eq_true rfl) dX6_would_10 rfl (fun z4 obz4 _ mvz4 => ?_)
    refine ep_goto (tgt := 22) dX6_would_13 (by decide) ?_
    exact ep_iret rfl dX6_would_22
theorem okX6_would (hNew : NewOK) (p : List Nat) (x1 : Int32) : MtP 10 mX6_would rwI p (fun a => [.ref a, .int x1]) (fX6_would p x1) := by
  refine MtP.of (by decide +kernel) rfl (fun _ => Nat.le_of_ble_eq_true rfl) (fun G X ob t h a e => ?_)
  refine ep_sub (lv := [(0, .ref a), (1, .int x1)]) (lv' := [(0, .ref a), (1, .int x1)]) [0, 1] rfl ?_
  exact okX6_would_0 hNew p x1 t ob a e
-- X6_lickedBy
theorem dX6_lickedBy_0 : decode cX6_lickedBy 0 = .ok (.iconst 0, 1) := by decide +kernel
theorem dX6_lickedBy_1 : decode cX6_lickedBy 1 = .ok (.istore_n 3, 1) := by decide +kernel
theorem dX6_lickedBy_2 : decode cX6_lickedBy 2 = .ok (.iload_n 3, 1) := by decide +kernel
theorem dX6_lickedBy_3 : decode cX6_lickedBy 3 = .ok (.iload_n 2, 1) := by decide +kernel
theorem dX6_lickedBy_4 : decode cX6_lickedBy 4 = .ok (.if_icmp .ge 19, 3) := by decide +kernel
theorem dX6_lickedBy_7 : decode cX6_lickedBy 7 = .ok (.aload_n 0, 1) := by decide +kernel
theorem dX6_lickedBy_8 : decode cX6_lickedBy 8 = .ok (.aload_n 0, 1) := by decide +kernel
theorem dX6_lickedBy_9 : decode cX6_lickedBy 9 = .ok (.iload_n 1, 1) := by decide +kernel
theorem dX6_lickedBy_10 : decode cX6_lickedBy 10 = .ok (.invokevirtual 123, 3) := by decide +kernel
theorem dX6_lickedBy_13 : decode cX6_lickedBy 13 = .ok (.iconst 0, 1) := by decide +kernel
theorem dX6_lickedBy_14 : decode cX6_lickedBy 14 = .ok (.invokevirtual 212, 3) := by decide +kernel
theorem dX6_lickedBy_17 : decode cX6_lickedBy 17 = .ok (.iinc 3 1, 3) := by decide +kernel
theorem dX6_lickedBy_20 : decode cX6_lickedBy 20 = .ok (.goto (-18), 3) := by decide +kernel
theorem dX6_lickedBy_23 : decode cX6_lickedBy 23 = .ok (.return_, 1) := by decide +kernel
def fX6_lickedBy_2 (p : List Nat) : Nat → Int32 → Int32 → Int32 → TF → Option (Unit × TF)
  | 0, _, _, _, _ => none
  | n + 1, x1, x2, x3, t => if x2 ≤ x3 then (some ((), t)) else (((fX6_wouldBe p x1 t).bind fun z2 => ((fX6_goes z2.1 (0 : Int32) (z2.2.2 p)).bind fun z3 => fX6_lickedBy_2 p n x1 x2 (x3 + (1 : Int32)) (wrT z2.2 p z3.2))))
def fX6_lickedBy_0 (p : List Nat) (x1 : Int32) (x2 : Int32) (t : TF) : Option (Unit × TF) := fX6_lickedBy_2 p FU x1 x2 (0 : Int32) t
def fX6_lickedBy (p : List Nat) (x1 : Int32) (x2 : Int32) (t : TF) : Option (Unit × TF) := fX6_lickedBy_0 p x1 x2 t
set_option maxRecDepth 100000 in
set_option maxHeartbeats 4000000 in
theorem okX6_lickedBy_2 (hNew : NewOK) {G : GG} {X : Nat → Prop} {ob0 : List Nat → Nat} {t0 : TF} {h00 : PH} (p : List Nat) : ∀ (n : Nat) (x1 : Int32) (x2 : Int32) (x3 : Int32) (t : TF) (ob : List Nat → Nat) (a0 : Nat) (e0 : AtF ob t (p) a0), EvP G 10 mX6_lickedBy X ob0 t0 h00 rwU (fX6_lickedBy_2 p n x1 x2 x3 t) 2 [(0, .ref a0), (1, .int x1), (2, .int x2), (3, .int x3)] [] t ob := by
  intro n
  induction n with
  | zero => intro x1 x2 x3 t ob a0 e0; rw [fX6_lickedBy_2]; exact ep_none
  | succ n ih =>
    intro x1 x2 x3 t ob a0 e0
    rw [fX6_lickedBy_2]
    refine ep_iload_n (q := 3) 3 dX6_lickedBy_2 rfl rfl rfl ?_
    refine ep_iload_n (q := 4) 2 dX6_lickedBy_3 rfl rfl rfl ?_
    refine ep_if (pt := 23) (pf := 7) (fun _ _ _ _ _ _ => ev_icmp_ge (tgt := 23) dX6_lickedBy_4 (by decide)) (fun h1 => ?_) (fun h1 => ?_)
    · exact ep_vret rfl dX6_lickedBy_23
    · refine ep_aload_n (q := 8) 0 dX6_lickedBy_7 rfl rfl rfl ?_
      refine ep_aload_n (q := 9) 0 dX6_lickedBy_8 rfl rfl rfl ?_
      refine ep_iload_n (q := 10) 1 dX6_lickedBy_9 rfl rfl rfl ?_
      refine ep_invVIP (As := [.int x1]) (rest := [.ref a0]) (q := 13) e0 (okX6_wouldBe hNew p x1) rfl calX6_wouldBe ml6_123 (by decide) rfl rfl (Nat.le_of_ble_eq_true rfl) dX6_lickedBy_10 rfl (fun z2 obz2 _ mvz2 => ?_)
      refine ep_iconst (v := (0 : Int32)) (q := 14) dX6_lickedBy_13 (by decide) rfl ?_
      refine ep_invVU1 (As := [.int z2.1, .int (0 : Int32)]) (rest := []) (q := 17) (mvz2 _ _ e0) (okX6_goes z2.1 (0 : Int32)) rfl calX6_goes ml6_212 (by decide) rfl rfl (Nat.le_of_ble_eq_true rfl) dX6_lickedBy_14 rfl (fun z3 => ?_)
      refine ep_iinc (v := x3 + (1 : Int32)) (lv' := [(3, .int (x3 + (1 : Int32))), (0, .ref a0), (1, .int x1), (2, .int x2)]) (q := 20) 3 dX6_lickedBy_17 rfl rfl (by decide) rfl rfl ?_
      refine ep_goto (tgt := 2) dX6_lickedBy_20 (by decide) ?_
      refine ep_sub (lv' := [(0, .ref a0), (1, .int x1), (2, .int x2), (3, .int (x3 + (1 : Int32)))]) [1, 2, 3, 0] rfl ?_
      exact ih x1 x2 (x3 + (1 : Int32)) (wrT z2.2 p z3.2) obz2 a0 (mvz2 _ _ e0)
set_option maxRecDepth 100000 in
set_option maxHeartbeats 4000000 in
theorem okX6_lickedBy_0 (hNew : NewOK) {G : GG} {X : Nat → Prop} {ob0 : List Nat → Nat} {t0 : TF} {h00 : PH} (p : List Nat) (x1 : Int32) (x2 : Int32) (t : TF) (ob : List Nat → Nat) (a0 : Nat) (e0 : AtF ob t (p) a0) : EvP G 10 mX6_lickedBy X ob0 t0 h00 rwU (fX6_lickedBy_0 p x1 x2 t) 0 [(0, .ref a0), (1, .int x1), (2, .int x2)] [] t ob := by
  unfold fX6_lickedBy_0
  refine ep_iconst (v := (0 : Int32)) (q := 1) dX6_lickedBy_0 (by decide) rfl ?_
  refine ep_istore_n (lv' := [(3, .int (0 : Int32)), (0, .ref a0), (1, .int x1), (2, .int x2)]) (q := 2) dX6_lickedBy_1 rfl (by decide) rfl rfl ?_
  refine ep_sub (lv' := [(0, .ref a0), (1, .int x1), (2, .int x2), (3, .int (0 : Int32))]) [1, 2, 3, 0] rfl ?_
  exact okX6_lickedBy_2 hNew p FU x1 x2 (0 : Int32) t ob a0 e0
theorem okX6_lickedBy (hNew : NewOK) (p : List Nat) (x1 : Int32) (x2 : Int32) : MtP 10 mX6_lickedBy rwU p (fun a => [.ref a, .int x1, .int x2]) (fX6_lickedBy p x1 x2) := by
  refine MtP.of (by decide +kernel) rfl (fun _ => Nat.le_of_ble_eq_true rfl) (fun G X ob t h a e => ?_)
  refine ep_sub (lv := [(0, .ref a), (1, .int x1), (2, .int x2)]) (lv' := [(0, .ref a), (1, .int x1), (2, .int x2)]) [0, 1, 2] rfl ?_
  exact okX6_lickedBy_0 hNew p x1 x2 t ob a e
-- X6_withoutNow
theorem dX6_withoutNow_0 : decode cX6_withoutNow 0 = .ok (.aload_n 0, 1) := by decide +kernel
theorem dX6_withoutNow_1 : decode cX6_withoutNow 1 = .ok (.invokevirtual 247, 3) := by decide +kernel
theorem dX6_withoutNow_4 : decode cX6_withoutNow 4 = .ok (.astore_n 2, 1) := by decide +kernel
theorem dX6_withoutNow_5 : decode cX6_withoutNow 5 = .ok (.aload_n 2, 1) := by decide +kernel
theorem dX6_withoutNow_6 : decode cX6_withoutNow 6 = .ok (.iload_n 1, 1) := by decide +kernel
theorem dX6_withoutNow_7 : decode cX6_withoutNow 7 = .ok (.invokevirtual 335, 3) := by decide +kernel
theorem dX6_withoutNow_10 : decode cX6_withoutNow 10 = .ok (.aload_n 2, 1) := by decide +kernel
theorem dX6_withoutNow_11 : decode cX6_withoutNow 11 = .ok (.getfield 283, 3) := by decide +kernel
theorem dX6_withoutNow_14 : decode cX6_withoutNow 14 = .ok (.aload_n 0, 1) := by decide +kernel
theorem dX6_withoutNow_15 : decode cX6_withoutNow 15 = .ok (.getfield 283, 3) := by decide +kernel
theorem dX6_withoutNow_18 : decode cX6_withoutNow 18 = .ok (.isub, 1) := by decide +kernel
theorem dX6_withoutNow_19 : decode cX6_withoutNow 19 = .ok (.ireturn, 1) := by decide +kernel
def fX6_withoutNow_0 (p : List Nat) (x1 : Int32) (t : TF) : Option (Int32 × TF) := ((fX6_fresh p t).bind fun z1 => ((fX6_stands x1 (z1.2.2 (9 :: p))).bind fun z2 => some ((((wrT z1.2 (9 :: p) z2.2).2 (9 :: p)).1 0 19) - (((wrT z1.2 (9 :: p) z2.2).2 p).1 0 19), wrT z1.2 (9 :: p) z2.2)))
def fX6_withoutNow (p : List Nat) (x1 : Int32) (t : TF) : Option (Int32 × TF) := fX6_withoutNow_0 p x1 t
set_option maxRecDepth 100000 in
set_option maxHeartbeats 4000000 in
theorem okX6_withoutNow_0 (hNew : NewOK) {G : GG} {X : Nat → Prop} {ob0 : List Nat → Nat} {t0 : TF} {h00 : PH} (p : List Nat) (x1 : Int32) (t : TF) (ob : List Nat → Nat) (a0 : Nat) (e0 : AtF ob t (p) a0) : EvP G 4 mX6_withoutNow X ob0 t0 h00 rwI (fX6_withoutNow_0 p x1 t) 0 [(0, .ref a0), (1, .int x1)] [] t ob := by
  unfold fX6_withoutNow_0
  refine ep_aload_n (q := 1) 0 dX6_withoutNow_0 rfl rfl rfl ?_
  refine ep_fresh (rest := []) (q := 4) e0 (okX6_fresh_f hNew p) rfl calX6_fresh ml6_247 (by decide) rfl (Nat.le_of_ble_eq_true rfl) dX6_withoutNow_1 rfl (fun z1 obz1 yz1 _ mvz1 ez1 => ?_)
  refine ep_astore_n (lv' := [(2, .ref yz1), (0, .ref a0), (1, .int x1)]) (q := 5) dX6_withoutNow_4 rfl (by decide) rfl rfl ?_
  refine ep_aload_n (q := 6) 0 dX6_withoutNow_5 rfl rfl rfl ?_
  refine ep_iload_n (q := 7) 2 dX6_withoutNow_6 rfl rfl rfl ?_
  refine ep_invVU1 (As := [.int x1]) (rest := []) (q := 10) ez1 (okX6_stands x1) rfl calX6_stands ml6_335 (by decide) rfl rfl (Nat.le_of_ble_eq_true rfl) dX6_withoutNow_7 rfl (fun z2 => ?_)
  refine ep_aload_n (q := 11) 0 dX6_withoutNow_10 rfl rfl rfl ?_
  refine ep_getI (x := ((wrT z1.2 (9 :: p) z2.2).2 (9 :: p)).1 0 19) (q := 14) ez1 fl6_283 rfl rfl dX6_withoutNow_11 rfl ?_
  refine ep_aload_n (q := 15) 1 dX6_withoutNow_14 rfl rfl rfl ?_
  refine ep_getI (x := ((wrT z1.2 (9 :: p) z2.2).2 p).1 0 19) (q := 18) (mvz1 _ _ e0) fl6_283 rfl rfl dX6_withoutNow_15 rfl ?_
  refine ep_isub (q := 19) dX6_withoutNow_18 rfl ?_
  exact ep_iret rfl dX6_withoutNow_19
theorem okX6_withoutNow (hNew : NewOK) (p : List Nat) (x1 : Int32) : MtP 4 mX6_withoutNow rwI p (fun a => [.ref a, .int x1]) (fX6_withoutNow p x1) := by
  refine MtP.of (by decide +kernel) rfl (fun _ => Nat.le_of_ble_eq_true rfl) (fun G X ob t h a e => ?_)
  refine ep_sub (lv := [(0, .ref a), (1, .int x1)]) (lv' := [(0, .ref a), (1, .int x1)]) [0, 1] rfl ?_
  exact okX6_withoutNow_0 hNew p x1 t ob a e
-- X6_without
theorem dX6_without_0 : decode cX6_without 0 = .ok (.iload_n 1, 1) := by decide +kernel
theorem dX6_without_1 : decode cX6_without 1 = .ok (.i2l, 1) := by decide +kernel
theorem dX6_without_2 : decode cX6_without 2 = .ok (.lconst 0, 1) := by decide +kernel
theorem dX6_without_3 : decode cX6_without 3 = .ok (.ldc2_w 338, 3) := by decide +kernel
theorem dX6_without_6 : decode cX6_without 6 = .ok (.invokestatic 89, 3) := by decide +kernel
theorem dX6_without_9 : decode cX6_without 9 = .ok (.ifCond .eq 11, 3) := by decide +kernel
theorem dX6_without_12 : decode cX6_without 12 = .ok (.aload_n 0, 1) := by decide +kernel
theorem dX6_without_13 : decode cX6_without 13 = .ok (.iload_n 1, 1) := by decide +kernel
theorem dX6_without_14 : decode cX6_without 14 = .ok (.invokevirtual 340, 3) := by decide +kernel
theorem dX6_without_17 : decode cX6_without 17 = .ok (.goto 9, 3) := by decide +kernel
theorem dX6_without_20 : decode cX6_without 20 = .ok (.aload_n 0, 1) := by decide +kernel
theorem dX6_without_21 : decode cX6_without 21 = .ok (.bipush (-2), 2) := by decide +kernel
theorem dX6_without_23 : decode cX6_without 23 = .ok (.invokevirtual 102, 3) := by decide +kernel
theorem dX6_without_26 : decode cX6_without 26 = .ok (.ireturn, 1) := by decide +kernel
def fX6_without_0 (p : List Nat) (x1 : Int32) (t : TF) : Option (Int32 × TF) := ((fX6_in x1.toInt64 (0 : Int64) (200 : Int64) (t.2 p)).bind fun z1 => if z1.1 = 0 then (((fX6_refuse (-2 : Int32) (t.2 p)).bind fun z3 => some (z3.1, wrT t p z3.2))) else (((fX6_withoutNow p x1 t).bind fun z4 => some (z4.1, z4.2))))
def fX6_without (p : List Nat) (x1 : Int32) (t : TF) : Option (Int32 × TF) := fX6_without_0 p x1 t
set_option maxRecDepth 100000 in
set_option maxHeartbeats 4000000 in
theorem okX6_without_0 (hNew : NewOK) {G : GG} {X : Nat → Prop} {ob0 : List Nat → Nat} {t0 : TF} {h00 : PH} (p : List Nat) (x1 : Int32) (t : TF) (ob : List Nat → Nat) (a0 : Nat) (e0 : AtF ob t (p) a0) : EvP G 5 mX6_without X ob0 t0 h00 rwI (fX6_without_0 p x1 t) 0 [(0, .ref a0), (1, .int x1)] [] t ob := by
  unfold fX6_without_0
  refine ep_iload_n (q := 1) 1 dX6_without_0 rfl rfl rfl ?_
  refine ep_i2l (v := x1.toInt64) (q := 2) dX6_without_1 rfl rfl ?_
  refine ep_lconst (v := (0 : Int64)) (q := 3) dX6_without_2 (by decide) rfl ?_
  refine ep_ldc2 (v := (200 : Int64)) (q := 6) k6_338 dX6_without_3 rfl ?_
  refine ep_invPI (s := t.2 p) (As := [.long x1.toInt64, .long (0 : Int64), .long (200 : Int64)]) (rest := []) (q := 9) (okX6_in x1.toInt64 (0 : Int64) (200 : Int64)) rfl calX6_in ml6_89 (by decide) rfl rfl (Nat.le_of_ble_eq_true rfl) dX6_without_6 rfl (fun z1 => ?_)
  refine ep_if (pt := 20) (pf := 12) (fun _ _ _ _ _ _ => ev_if_eq (tgt := 20) dX6_without_9 (by decide)) (fun h2 => ?_) (fun h2 => ?_)
  · refine ep_aload_n (q := 21) 0 dX6_without_20 rfl rfl rfl ?_
    refine ep_bipush (v := (-2 : Int32)) (q := 23) dX6_without_21 (by decide) rfl ?_
    refine ep_invVI1 (As := [.int (-2 : Int32)]) (rest := []) (q := 26) e0 (okX6_refuse (-2 : Int32)) rfl calX6_refuse ml6_102 (by decide) rfl rfl (Nat.le_of_ble_eq_true rfl) dX6_without_23 rfl (fun z3 => ?_)
    exact ep_iret rfl dX6_without_26
  · refine ep_aload_n (q := 13) 0 dX6_without_12 rfl rfl rfl ?_
    refine ep_iload_n (q := 14) 1 dX6_without_13 rfl rfl rfl ?_
    refine ep_invVIP (As := [.int x1]) (rest := []) (q := 17) e0 (okX6_withoutNow hNew p x1) rfl calX6_withoutNow ml6_340 (by decide) rfl rfl (Nat.le_of_ble_eq_true rfl) dX6_without_14 rfl (fun z4 obz4 _ mvz4 => ?_)
    refine ep_goto (tgt := 26) dX6_without_17 (by decide) ?_
    exact ep_iret rfl dX6_without_26
theorem okX6_without (hNew : NewOK) (p : List Nat) (x1 : Int32) : MtP 5 mX6_without rwI p (fun a => [.ref a, .int x1]) (fX6_without p x1) := by
  refine MtP.of (by decide +kernel) rfl (fun _ => Nat.le_of_ble_eq_true rfl) (fun G X ob t h a e => ?_)
  refine ep_sub (lv := [(0, .ref a), (1, .int x1)]) (lv' := [(0, .ref a), (1, .int x1)]) [0, 1] rfl ?_
  exact okX6_without_0 hNew p x1 t ob a e
