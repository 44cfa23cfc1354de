-- X6_fresh
theorem dX6_fresh_0 : decode cX6_fresh 0 = .ok (.aload_n 0, 1) := by decide +kernel
theorem dX6_fresh_1 : decode cX6_fresh 1 = .ok (.getfield 331, 3) := by decide +kernel
theorem dX6_fresh_4 : decode cX6_fresh 4 = .ok (.ifnonnull 14, 3) := by decide +kernel
theorem dX6_fresh_7 : decode cX6_fresh 7 = .ok (.aload_n 0, 1) := by decide +kernel
theorem dX6_fresh_8 : decode cX6_fresh 8 = .ok (.new 8, 3) := by decide +kernel
theorem dX6_fresh_11 : decode cX6_fresh 11 = .ok (.dup, 1) := by decide +kernel
theorem dX6_fresh_12 : decode cX6_fresh 12 = .ok (.invokespecial 316, 3) := by decide +kernel
theorem dX6_fresh_15 : decode cX6_fresh 15 = .ok (.putfield 331, 3) := by decide +kernel
theorem dX6_fresh_18 : decode cX6_fresh 18 = .ok (.aload_n 0, 1) := by decide +kernel
theorem dX6_fresh_19 : decode cX6_fresh 19 = .ok (.getfield 331, 3) := by decide +kernel
theorem dX6_fresh_22 : decode cX6_fresh 22 = .ok (.aload_n 0, 1) := by decide +kernel
theorem dX6_fresh_23 : decode cX6_fresh 23 = .ok (.invokevirtual 254, 3) := by decide +kernel
theorem dX6_fresh_26 : decode cX6_fresh 26 = .ok (.aload_n 0, 1) := by decide +kernel
theorem dX6_fresh_27 : decode cX6_fresh 27 = .ok (.getfield 331, 3) := by decide +kernel
theorem dX6_fresh_30 : decode cX6_fresh 30 = .ok (.areturn, 1) := by decide +kernel
def fX6_fresh_18 (p : List Nat) (t : TF) : Option (Unit × TF) := if t.1 (9 :: p) = true then (((fX6_takeFrom (prS (t.2 (9 :: p)) (t.2 p))).bind fun z2 => if (wrT (wrT t (9 :: p) z2.2) p (snS z2.2)).1 (9 :: p) = true then (some ((), wrT (wrT t (9 :: p) z2.2) p (snS z2.2))) else none)) else none
def fX6_fresh_0 (p : List Nat) (t : TF) : Option (Unit × TF) := if t.1 (9 :: p) = true then (fX6_fresh_18 p t) else (if 9 :: p ∈ UF then (fX6_fresh_18 p (mkT t (9 :: p) S0R)) else none)
def fX6_fresh (p : List Nat) (t : TF) : Option (Unit × TF) := fX6_fresh_0 p t
set_option maxRecDepth 100000 in
set_option maxHeartbeats 4000000 in
theorem okX6_fresh_18 (hNew : NewOK) {G : GG} {X : Nat → Prop} {ob0 : List Nat → Nat} {t0 : TF} {h00 : PH} (p : List Nat) (t : TF) (ob : List Nat → Nat) (a0 : Nat) (e0 : AtF ob t (p) a0) : EvP G 3 mX6_fresh X ob0 t0 h00 (rwA (9 :: p)) (fX6_fresh_18 p t) 18 [(0, .ref a0)] [] t ob := by
  unfold fX6_fresh_18
  refine ep_aload_n (q := 19) 0 dX6_fresh_18 rfl rfl rfl ?_
  refine ep_getZ (z := (9, 0, 29)) (q := 22) e0 (by decide) rfl fl6_331 rfl dX6_fresh_19 rfl ?_
  refine ep_lz (fun g1 => ?_)
  refine ep_aload_n (q := 23) 0 dX6_fresh_22 rfl rfl rfl ?_
  refine ep_invVU2 (As := [.ref a0]) (rest := []) (q := 26) (⟨g1, rfl⟩) e0 cne (okX6_takeFrom) rfl calX6_takeFrom ml6_254 (by decide) rfl rfl (Nat.le_of_ble_eq_true rfl) dX6_fresh_23 rfl (fun z2 => ?_)
  refine ep_aload_n (q := 27) 0 dX6_fresh_26 rfl rfl rfl ?_
  refine ep_getZ (z := (9, 0, 29)) (q := 30) e0 (by decide) rfl fl6_331 rfl dX6_fresh_27 rfl ?_
  refine ep_lz (fun g3 => ?_)
  exact ep_aret (⟨g3, rfl⟩) rfl dX6_fresh_30
set_option maxRecDepth 100000 in
set_option maxHeartbeats 4000000 in
theorem okX6_fresh_0 (hNew : NewOK) {G : GG} {X : Nat → Prop} {ob0 : List Nat → Nat} {t0 : TF} {h00 : PH} (p : List Nat) (t : TF) (ob : List Nat → Nat) (a0 : Nat) (e0 : AtF ob t (p) a0) : EvP G 3 mX6_fresh X ob0 t0 h00 (rwA (9 :: p)) (fX6_fresh_0 p t) 0 [(0, .ref a0)] [] t ob := by
  unfold fX6_fresh_0
  refine ep_aload_n (q := 1) 0 dX6_fresh_0 rfl rfl rfl ?_
  refine ep_getZ (z := (9, 0, 29)) (q := 4) e0 (by decide) rfl fl6_331 rfl dX6_fresh_1 rfl ?_
  refine ep_ifnonnull (tgt := 18) (q := 7) dX6_fresh_4 (by decide) rfl (fun h1 => ?_) (fun h1 => ?_)
  · refine ep_sub (lv' := [(0, .ref a0)]) [0] rfl ?_
    exact okX6_fresh_18 hNew p t ob a0 e0
  · refine ep_aload_n (q := 8) 0 dX6_fresh_7 rfl rfl rfl ?_
    refine ep_guard (fun g2 => ?_)
    refine ep_newP hNew (z := (9, 0, 29)) (q := 18) e0 (by decide) rfl g2 h1 rfl (by decide) fl6_331 rfl rfl (by decide) dX6_fresh_8 dX6_fresh_11 dX6_fresh_12 dX6_fresh_15 rfl (fun obz3 mvz3 => ?_)
    refine ep_sub (lv' := [(0, .ref a0)]) [0] rfl ?_
    exact okX6_fresh_18 hNew p (mkT t (9 :: p) S0R) obz3 a0 (mvz3 _ _ e0)
theorem okX6_fresh (hNew : NewOK) (p : List Nat) : MtP 3 mX6_fresh (rwA (9 :: p)) p (fun a => [.ref a]) (fX6_fresh p) := by
  refine MtP.of (by decide +kernel) rfl (fun _ => Nat.le_of_ble_eq_true rfl) (fun G X ob t h a e => ?_)
  refine ep_sub (lv := [(0, .ref a)]) (lv' := [(0, .ref a)]) [0] rfl ?_
  exact okX6_fresh_0 hNew p t ob a e
theorem fresh_in18 {p : List Nat} {t t' : TF} (hf : fX6_fresh_18 p t = some ((), t')) : t'.1 (9 :: p) = true := by
  unfold fX6_fresh_18 at hf
  split at hf
  · obtain ⟨z, -, h2⟩ := Option.bind_eq_some_iff.mp hf
    split at h2
    · rename_i g
      cases h2
      exact g
    · cases h2
  · cases hf
theorem fresh_in {p : List Nat} {t t' : TF} (hf : fX6_fresh p t = some ((), t')) : t'.1 (9 :: p) = true := by
  unfold fX6_fresh fX6_fresh_0 at hf
  split at hf
  · exact fresh_in18 hf
  · split at hf
    · exact fresh_in18 hf
    · cases hf
theorem okX6_fresh_f (hNew : NewOK) (p : List Nat) : MtPf 3 mX6_fresh p (9 :: p) (fun a => [.ref a]) (fX6_fresh p) := ⟨fun _ _ hf => fresh_in hf, okX6_fresh hNew p⟩
-- X6_image
theorem dX6_image_0 : decode cX6_image 0 = .ok (.aload_n 0, 1) := by decide +kernel
theorem dX6_image_1 : decode cX6_image 1 = .ok (.getfield 385, 3) := by decide +kernel
theorem dX6_image_4 : decode cX6_image 4 = .ok (.ifnonnull 14, 3) := by decide +kernel
theorem dX6_image_7 : decode cX6_image 7 = .ok (.aload_n 0, 1) := by decide +kernel
theorem dX6_image_8 : decode cX6_image 8 = .ok (.new 8, 3) := by decide +kernel
theorem dX6_image_11 : decode cX6_image 11 = .ok (.dup, 1) := by decide +kernel
theorem dX6_image_12 : decode cX6_image 12 = .ok (.invokespecial 316, 3) := by decide +kernel
theorem dX6_image_15 : decode cX6_image 15 = .ok (.putfield 385, 3) := by decide +kernel
theorem dX6_image_18 : decode cX6_image 18 = .ok (.aload_n 0, 1) := by decide +kernel
theorem dX6_image_19 : decode cX6_image 19 = .ok (.getfield 385, 3) := by decide +kernel
theorem dX6_image_22 : decode cX6_image 22 = .ok (.aload_n 0, 1) := by decide +kernel
theorem dX6_image_23 : decode cX6_image 23 = .ok (.invokevirtual 254, 3) := by decide +kernel
theorem dX6_image_26 : decode cX6_image 26 = .ok (.iconst 1, 1) := by decide +kernel
theorem dX6_image_27 : decode cX6_image 27 = .ok (.ireturn, 1) := by decide +kernel
def fX6_image_18 (p : List Nat) (t : TF) : Option (Int32 × TF) := if t.1 (8 :: p) = true then (((fX6_takeFrom (prS (t.2 (8 :: p)) (t.2 p))).bind fun z2 => some ((1 : Int32), wrT (wrT t (8 :: p) z2.2) p (snS z2.2)))) else none
def fX6_image_0 (p : List Nat) (t : TF) : Option (Int32 × TF) := if t.1 (8 :: p) = true then (fX6_image_18 p t) else (if 8 :: p ∈ UF then (fX6_image_18 p (mkT t (8 :: p) S0R)) else none)
def fX6_image (p : List Nat) (t : TF) : Option (Int32 × TF) := fX6_image_0 p t
set_option maxRecDepth 100000 in
set_option maxHeartbeats 4000000 in
theorem okX6_image_18 (hNew : NewOK) {G : GG} {X : Nat → Prop} {ob0 : List Nat → Nat} {t0 : TF} {h00 : PH} (p : List Nat) (t : TF) (ob : List Nat → Nat) (a0 : Nat) (e0 : AtF ob t (p) a0) : EvP G 3 mX6_image X ob0 t0 h00 rwI (fX6_image_18 p t) 18 [(0, .ref a0)] [] t ob := by
  unfold fX6_image_18
  refine ep_aload_n (q := 19) 0 dX6_image_18 rfl rfl rfl ?_
  refine ep_getZ (z := (8, 0, 28)) (q := 22) e0 (by decide) rfl fl6_385 rfl dX6_image_19 rfl ?_
  refine ep_lz (fun g1 => ?_)
  refine ep_aload_n (q := 23) 0 dX6_image_22 rfl rfl rfl ?_
  refine ep_invVU2 (As := [.ref a0]) (rest := []) (q := 26) (⟨g1, rfl⟩) e0 cne (okX6_takeFrom) rfl calX6_takeFrom ml6_254 (by decide) rfl rfl (Nat.le_of_ble_eq_true rfl) dX6_image_23 rfl (fun z2 => ?_)
  refine ep_iconst (v := (1 : Int32)) (q := 27) dX6_image_26 (by decide) rfl ?_
  exact ep_iret rfl dX6_image_27
set_option maxRecDepth 100000 in
set_option maxHeartbeats 4000000 in
theorem okX6_image_0 (hNew : NewOK) {G : GG} {X : Nat → Prop} {ob0 : List Nat → Nat} {t0 : TF} {h00 : PH} (p : List Nat) (t : TF) (ob : List Nat → Nat) (a0 : Nat) (e0 : AtF ob t (p) a0) : EvP G 3 mX6_image X ob0 t0 h00 rwI (fX6_image_0 p t) 0 [(0, .ref a0)] [] t ob := by
  unfold fX6_image_0
  refine ep_aload_n (q := 1) 0 dX6_image_0 rfl rfl rfl ?_
  refine ep_getZ (z := (8, 0, 28)) (q := 4) e0 (by decide) rfl fl6_385 rfl dX6_image_1 rfl ?_
  refine ep_ifnonnull (tgt := 18) (q := 7) dX6_image_4 (by decide) rfl (fun h1 => ?_) (fun h1 => ?_)
  · refine ep_sub (lv' := [(0, .ref a0)]) [0] rfl ?_
    exact okX6_image_18 hNew p t ob a0 e0
  · refine ep_aload_n (q := 8) 0 dX6_image_7 rfl rfl rfl ?_
    refine ep_guard (fun g2 => ?_)
    refine ep_newP hNew (z := (8, 0, 28)) (q := 18) e0 (by decide) rfl g2 h1 rfl (by decide) fl6_385 rfl rfl (by decide) dX6_image_8 dX6_image_11 dX6_image_12 dX6_image_15 rfl (fun obz3 mvz3 => ?_)
    refine ep_sub (lv' := [(0, .ref a0)]) [0] rfl ?_
    exact okX6_image_18 hNew p (mkT t (8 :: p) S0R) obz3 a0 (mvz3 _ _ e0)
theorem okX6_image (hNew : NewOK) (p : List Nat) : MtP 3 mX6_image rwI p (fun a => [.ref a]) (fX6_image p) := by
  refine MtP.of (by decide +kernel) rfl (fun _ => Nat.le_of_ble_eq_true rfl) (fun G X ob t h a e => ?_)
  refine ep_sub (lv := [(0, .ref a)]) (lv' := [(0, .ref a)]) [0] rfl ?_
  exact okX6_image_0 hNew p t ob a e
