/-! Math.min and System.arraycopy -/
def updA {α : Type} (S : Nat → Nat → α) (a : Nat) (g : Nat → α) : Nat → Nat → α := fun q => if q = a then g else S q
theorem updA_same {α : Type} {S : Nat → Nat → α} {a : Nat} {g : Nat → α} : updA S a g a = g := by simp [updA]
theorem updA_ne {α : Type} {S : Nat → Nat → α} {a q : Nat} {g : Nat → α} (z : q ≠ a) : updA S a g q = S q := by simp [updA, z]
theorem mrg_setA {α : Type} {pl : Nat → Nat} {S C : Nat → Nat → α} {n k : Nat} {g : Nat → α} (hi : injN pl n) (hk : k < n) : updA (mrg pl n S C) (pl k) g = mrg pl n S (updA C k g) := by
  funext q
  rcases mrg_cases (pl := pl) n q with ⟨j, hj, rfl⟩ | hq
  · rw [mrg_at hi hj]
    by_cases z : j = k
    · subst z
      rw [updA_same, updA_same]
    · rw [updA_ne (fun e => z (hi j k hj hk e)), updA_ne z, mrg_at hi hj]
  · rw [mrg_off hq, updA_ne (hq k hk), mrg_off hq]
def wrA (s : SS) (k : Nat) (g : Nat → Int32) : SS := (updA s.1 k g, s.2)
def wrAL (s : SS) (k : Nat) (g : Nat → Int64) : SS := (s.1, updA s.2 k g)
theorem LH_wrA {pl : Nat → Nat} {n : Nat} {h0 : PH} {s : SS} {k : Nat} {g : Nat → Int32} (hi : injN pl n) (hk : k < n) : LH pl n h0 (wrA s k g) = (h0.1, h0.2.1, h0.2.2.1, updA (LH pl n h0 s).2.2.2.1 (pl k) g, (LH pl n h0 s).2.2.2.2) := by
  unfold LH wrA
  simp only [mrg_setA hi hk]
theorem LH_wrAL {pl : Nat → Nat} {n : Nat} {h0 : PH} {s : SS} {k : Nat} {g : Nat → Int64} (hi : injN pl n) (hk : k < n) : LH pl n h0 (wrAL s k g) = (h0.1, h0.2.1, h0.2.2.1, (LH pl n h0 s).2.2.2.1, updA (LH pl n h0 s).2.2.2.2 (pl k) g) := by
  unfold LH wrAL
  simp only [mrg_setA hi hk]
abbrev acOK (sp dp n : Int32) (n0 n1 : Nat) : Prop := ¬ sp < 0 ∧ ¬ dp < 0 ∧ ¬ n < 0 ∧ sp.toNatClampNeg + n.toNatClampNeg ≤ n0 ∧ dp.toNatClampNeg + n.toNatClampNeg ≤ n1
theorem tt_min : Cond.static Lib.Math.min.name ∈ TT ∧ Cond.initialized "java/lang/Math" ∈ TT ∧ Cond.code Lib.Math.min.name Lib.Math.min.code 2 (some .int) ∈ TT := ⟨TT_in (by decide +kernel) rfl, TT_in (by decide +kernel) rfl, TT_in (by decide +kernel) rfl⟩
theorem tt_acp : Cond.native arraycopyName ∈ TT ∧ Cond.static arraycopyName ∈ TT ∧ Cond.initialized "java/lang/System" ∈ TT := ⟨TT_in (by decide +kernel) rfl, TT_in (by decide +kernel) rfl, TT_in (by decide +kernel) rfl⟩
theorem toInt_nn {z : Int32} (hz : ¬ z < 0) : z.toInt = (z.toNatClampNeg : Int) := by
  have hz0 : (0 : Int) ≤ z.toInt := by
    have := Int32.not_lt.mp hz
    simpa using Int32.le_iff_toInt_le.mp this
  show z.toInt = ((z.toInt.toNat : Nat) : Int)
  omega
section ECP
variable {G : GG} {d : Nat} {M : MI} {mc ms : Nat} {Q : Option Value → PH → Prop} {kc ks pc : Nat} {lv : List (Nat × Value)} {rest : List Value} {h : PH}
theorem ev_mmin {idx : Nat} {x y : Int32} (hlk : Cond.methodLink (moM M) idx Lib.Math.min.name ∈ TT) (hd : 1 ≤ d) (hW : (rest.map fun v => v.category).sum ≤ 8) (h1 : kc ≤ mc) (h2 : ks ≤ ms) (hdg : decode (mbM M) pc = .ok (.invokestatic idx, 3))
    (kk : Ev G d M mc ms Q kc ks (pc + 3) lv (.int (if y < x then y else x) :: rest) h) : Ev G d M mc ms Q kc ks pc lv (.int y :: .int x :: rest) h := by
  intro p l e s m args below meth c H locs ls X R L hl
  have hts : ∀ w ∈ TT, w.before args s = true := fun w hw => X.2.2.2.2.1 w (List.mem_cons_of_mem _ hw)
  refine va_mmin X.1 X.2.1 (X.2.2.1.trans hl.1.symm) X.2.2.2.1 (hts _ hlk) (hts _ tt_min.1) (hts _ tt_min.2.1) (hts _ tt_min.2.2) hd ?_ h1 h2 hdg (kk p l e s m args below meth c H locs ls X R L hl)
  show _ + 13 ≤ 64 * d
  omega
theorem ev_acopyI {idx a0 a n0 n1 : Nat} {sp dp n : Int32} (hs0 : h.2.1 a0 = some (10, n0)) (hs1 : h.2.1 a = some (10, n1)) (hlk : Cond.methodLink (moM M) idx arraycopyName ∈ TT) (hok : acOK sp dp n n0 n1) (hd : 1 ≤ d) (hW : (rest.map fun v => v.category).sum ≤ 8) (hdg : decode (mbM M) pc = .ok (.invokestatic idx, 3))
    (kk : Ev G d M mc ms Q kc ks (pc + 3) lv rest (h.1, h.2.1, h.2.2.1, updA h.2.2.2.1 a (va_cpy (h.2.2.2.1 a0) (h.2.2.2.1 a) sp.toNatClampNeg dp.toNatClampNeg n.toNatClampNeg), h.2.2.2.2)) : Ev G d M mc ms Q kc ks pc lv (.int n :: .int dp :: .ref a :: .int sp :: .ref a0 :: rest) h := by
  intro p l e s m args below meth c H locs ls X R L hl
  have hts : ∀ w ∈ TT, w.before args s = true := fun w hw => X.2.2.2.2.1 w (List.mem_cons_of_mem _ hw)
  obtain ⟨h1, h2, h3, h4, h5⟩ := hok
  intro T hT X0
  obtain ⟨-, hc0⟩ := R.ints hs0
  obtain ⟨hga, hc1⟩ := R.ints hs1
  have hty := (X.2.2.2.2.2.2.2.1.1.2 0 _ (tysG_at G (by decide))).1
  obtain ⟨-, k0, hk0, cm0, hkk0⟩ := hty n0 (fun j => .int (h.2.2.2.1 a0 j))
  obtain ⟨-, k1, hk1, cm1, hkk1⟩ := hty n1 (fun j => .int (h.2.2.2.1 a j))
  have hnf : nativeFrameWords "java/lang/System" "arraycopy" 5 + 11 ≤ 56 := by decide +kernel
  obtain ⟨vm', X', step⟩ := X0.arraycopy X.1 X.2.2.2.1 (hts _ hlk) (hts _ tt_acp.1) (hts _ tt_acp.2.1) (hts _ tt_acp.2.2) (src := a0) (dst := a) (cs := arrV (G.2.1 0) n0 (fun j => .int (h.2.2.2.1 a0 j))) (cd := arrV (G.2.1 0) n1 (fun j => .int (h.2.2.2.1 a j))) (srcPos := sp) (destPos := dp) (n := n) (by rw [hT]; exact hc0) (by rw [hT]; exact hc1)
    (fun _ h => by cases h) (fun _ h => by cases h) (fun h => by cases h) (fun h => by cases h) hk0 hk1 hkk0 hkk1 (by simp [atyG, refKind]) h1 h2 h3
    (by rw [toInt_nn h1, toInt_nn h3, arrV_size]; omega)
    (by rw [toInt_nn h2, toInt_nn h3, arrV_size]; omega)
    (fun vm₁ _ i hi => by
      have e : (arrV (G.2.1 0) n0 (fun j => .int (h.2.2.2.1 a0 j))).slots.getD (sp.toNatClampNeg + i) .null = .int (h.2.2.2.1 a0 (sp.toNatClampNeg + i)) := by
        rw [Array.getD_eq_getD_getElem?, arrV_read _ _ (by omega)]
        rfl
      refine ⟨?_, ?_⟩
      · rw [e]
        rfl
      · rw [e]
        exact trivial)
    (g := F0 m pc ls (.int n :: .int dp :: .ref a :: .int sp :: .ref a0 :: rest)) rfl (by rw [X.2.2.1]; exact hl.1) (rest := rest) rfl (by rw [X.2.1]; exact hdg) hd (by show 2 * 0 + _ + _ ≤ 64 * d; omega)
  have e1 : copied (arrV (G.2.1 0) n0 (fun j => .int (h.2.2.2.1 a0 j))) (arrV (G.2.1 0) n1 (fun j => .int (h.2.2.2.1 a j))) sp dp n = arrV (G.2.1 0) n1 (fun j => .int (va_cpy (h.2.2.2.1 a0) (h.2.2.2.1 a) sp.toNatClampNeg dp.toNatClampNeg n.toNatClampNeg j)) := va_copied (fun z => .int z) (G.2.1 0) (G.2.1 0) (h.2.2.2.1 a0) (h.2.2.2.1 a) h4
  rw [e1] at X' step
  have hl2 : a < H.size := (Array.getElem?_eq_some_iff.mp hc1).1
  have hheap : ((T.setVm vm').setCell a (arrV (G.2.1 0) n1 (fun j => .int (va_cpy (h.2.2.2.1 a0) (h.2.2.2.1 a) sp.toNatClampNeg dp.toNatClampNeg n.toNatClampNeg j)))).heap = H.setIfInBounds a (arrV (G.2.1 0) n1 (fun j => .int (va_cpy (h.2.2.2.1 a0) (h.2.2.2.1 a) sp.toNatClampNeg dp.toNatClampNeg n.toNatClampNeg j))) := by rw [← hT]; rfl
  have oq : ∀ q : Nat, q ≠ a → (H.setIfInBounds a (arrV (G.2.1 0) n1 (fun j => .int (va_cpy (h.2.2.2.1 a0) (h.2.2.2.1 a) sp.toNatClampNeg dp.toNatClampNeg n.toNatClampNeg j))))[q]? = H[q]? := fun q hq => by simp [Array.getElem?_setIfInBounds, Ne.symm hq]
  obtain ⟨t, a1, b1⟩ := kk p l e s m args below meth c _ _ ls X (R.write (P := h.2.2.1) (S := updA h.2.2.2.1 a (va_cpy (h.2.2.2.1 a0) (h.2.2.2.1 a) sp.toNatClampNeg dp.toNatClampNeg n.toNatClampNeg)) (LL := h.2.2.2.2) hs1 (by simp) oq (fun q _ => rfl) (fun q z => updA_ne z) (fun q _ => rfl) (by
      unfold cellG
      rw [if_neg (show ¬ (10 : Nat) < 7 by decide), if_pos rfl]
      simp only [updA_same]
      simp [Array.getElem?_setIfInBounds, hl2])) (fun q hq => by
      rcases List.mem_append.mp hq with z | z
      · exact L q z
      · obtain ⟨w, -, hw⟩ := List.mem_map.mp z
        rw [← hw]
        exact hga) hl _ hheap X'
  exact ⟨t, step t a1, b1⟩
theorem ev_acopyL {idx a0 a n0 n1 : Nat} {sp dp n : Int32} (hs0 : h.2.1 a0 = some (11, n0)) (hs1 : h.2.1 a = some (11, n1)) (hlk : Cond.methodLink (moM M) idx arraycopyName ∈ TT) (hok : acOK sp dp n n0 n1) (hd : 1 ≤ d) (hW : (rest.map fun v => v.category).sum ≤ 8) (hdg : decode (mbM M) pc = .ok (.invokestatic idx, 3))
    (kk : Ev G d M mc ms Q kc ks (pc + 3) lv rest (h.1, h.2.1, h.2.2.1, h.2.2.2.1, updA h.2.2.2.2 a (va_cpy (h.2.2.2.2 a0) (h.2.2.2.2 a) sp.toNatClampNeg dp.toNatClampNeg n.toNatClampNeg))) : Ev G d M mc ms Q kc ks pc lv (.int n :: .int dp :: .ref a :: .int sp :: .ref a0 :: rest) h := by
  intro p l e s m args below meth c H locs ls X R L hl
  have hts : ∀ w ∈ TT, w.before args s = true := fun w hw => X.2.2.2.2.1 w (List.mem_cons_of_mem _ hw)
  obtain ⟨h1, h2, h3, h4, h5⟩ := hok
  intro T hT X0
  obtain ⟨-, hc0⟩ := R.lngs hs0
  obtain ⟨hga, hc1⟩ := R.lngs hs1
  have hty := (X.2.2.2.2.2.2.2.1.1.2 1 _ (tysG_at G (by decide))).1
  obtain ⟨-, k0, hk0, cm0, hkk0⟩ := hty n0 (fun j => .long (h.2.2.2.2 a0 j))
  obtain ⟨-, k1, hk1, cm1, hkk1⟩ := hty n1 (fun j => .long (h.2.2.2.2 a j))
  have hnf : nativeFrameWords "java/lang/System" "arraycopy" 5 + 11 ≤ 56 := by decide +kernel
  obtain ⟨vm', X', step⟩ := X0.arraycopy X.1 X.2.2.2.1 (hts _ hlk) (hts _ tt_acp.1) (hts _ tt_acp.2.1) (hts _ tt_acp.2.2) (src := a0) (dst := a) (cs := arrV (G.2.1 1) n0 (fun j => .long (h.2.2.2.2 a0 j))) (cd := arrV (G.2.1 1) n1 (fun j => .long (h.2.2.2.2 a j))) (srcPos := sp) (destPos := dp) (n := n) (by rw [hT]; exact hc0) (by rw [hT]; exact hc1)
    (fun _ h => by cases h) (fun _ h => by cases h) (fun h => by cases h) (fun h => by cases h) hk0 hk1 hkk0 hkk1 (by simp [atyG, refKind]) h1 h2 h3
    (by rw [toInt_nn h1, toInt_nn h3, arrV_size]; omega)
    (by rw [toInt_nn h2, toInt_nn h3, arrV_size]; omega)
    (fun vm₁ _ i hi => by
      have e : (arrV (G.2.1 1) n0 (fun j => .long (h.2.2.2.2 a0 j))).slots.getD (sp.toNatClampNeg + i) .null = .long (h.2.2.2.2 a0 (sp.toNatClampNeg + i)) := by
        rw [Array.getD_eq_getD_getElem?, arrV_read _ _ (by omega)]
        rfl
      refine ⟨?_, ?_⟩
      · rw [e]
        rfl
      · rw [e]
        exact trivial)
    (g := F0 m pc ls (.int n :: .int dp :: .ref a :: .int sp :: .ref a0 :: rest)) rfl (by rw [X.2.2.1]; exact hl.1) (rest := rest) rfl (by rw [X.2.1]; exact hdg) hd (by show 2 * 0 + _ + _ ≤ 64 * d; omega)
  have e1 : copied (arrV (G.2.1 1) n0 (fun j => .long (h.2.2.2.2 a0 j))) (arrV (G.2.1 1) n1 (fun j => .long (h.2.2.2.2 a j))) sp dp n = arrV (G.2.1 1) n1 (fun j => .long (va_cpy (h.2.2.2.2 a0) (h.2.2.2.2 a) sp.toNatClampNeg dp.toNatClampNeg n.toNatClampNeg j)) := va_copied (fun z => .long z) (G.2.1 1) (G.2.1 1) (h.2.2.2.2 a0) (h.2.2.2.2 a) h4
  rw [e1] at X' step
  have hl2 : a < H.size := (Array.getElem?_eq_some_iff.mp hc1).1
  have hheap : ((T.setVm vm').setCell a (arrV (G.2.1 1) n1 (fun j => .long (va_cpy (h.2.2.2.2 a0) (h.2.2.2.2 a) sp.toNatClampNeg dp.toNatClampNeg n.toNatClampNeg j)))).heap = H.setIfInBounds a (arrV (G.2.1 1) n1 (fun j => .long (va_cpy (h.2.2.2.2 a0) (h.2.2.2.2 a) sp.toNatClampNeg dp.toNatClampNeg n.toNatClampNeg j))) := by rw [← hT]; rfl
  have oq : ∀ q : Nat, q ≠ a → (H.setIfInBounds a (arrV (G.2.1 1) n1 (fun j => .long (va_cpy (h.2.2.2.2 a0) (h.2.2.2.2 a) sp.toNatClampNeg dp.toNatClampNeg n.toNatClampNeg j))))[q]? = H[q]? := fun q hq => by simp [Array.getElem?_setIfInBounds, Ne.symm hq]
  obtain ⟨t, a1, b1⟩ := kk p l e s m args below meth c _ _ ls X (R.write (P := h.2.2.1) (S := h.2.2.2.1) (LL := updA h.2.2.2.2 a (va_cpy (h.2.2.2.2 a0) (h.2.2.2.2 a) sp.toNatClampNeg dp.toNatClampNeg n.toNatClampNeg)) hs1 (by simp) oq (fun q _ => rfl) (fun q _ => rfl) (fun q z => updA_ne z) (by
      unfold cellG
      rw [if_neg (show ¬ (11 : Nat) < 7 by decide), if_neg (show ¬ (11 : Nat) = 10 by decide), if_pos rfl]
      simp only [updA_same]
      simp [Array.getElem?_setIfInBounds, hl2])) (fun q hq => by
      rcases List.mem_append.mp hq with z | z
      · exact L q z
      · obtain ⟨w, -, hw⟩ := List.mem_map.mp z
        rw [← hw]
        exact hga) hl _ hheap X'
  exact ⟨t, step t a1, b1⟩
end ECP
section EFC
variable {G : GG} {d : Nat} {M : MI} {ly : LY} {pl : Nat → Nat} {h0 : PH} {ρ : Type} {rv : ρ → Option Value} {f : Option (ρ × SS)} {pc : Nat} {lv : List (Nat × Value)} {rest : List Value} {s : SS}
theorem ef_mmin {q idx : Nat} {x y : Int32} (hlk : Cond.methodLink (moM M) idx Lib.Math.min.name ∈ TT) (hd : 1 ≤ d) (hW : (rest.map fun v => v.category).sum ≤ 8) (hdg : decode (mbM M) pc = .ok (.invokestatic idx, 3)) (hq : pc + 3 = q) (kk : EvF G d M ly pl h0 rv f q lv (.int (if y < x then y else x) :: rest) s) : EvF G d M ly pl h0 rv f pc lv (.int y :: .int x :: rest) s := fun H r s' hf => by
  subst hq
  exact ev_mmin hlk hd hW (Nat.le_refl 0) (Nat.le_refl 0) hdg (kk H r s' hf)
theorem ef_acopyI {q idx k0 k1 n0 n1 : Nat} {r0 r1 : List (Nat × Nat)} {sp dp n : Int32} {g : Nat → Int32} (he0 : ly[k0]? = some ((10, n0), r0)) (he1 : ly[k1]? = some ((10, n1), r1)) (hlk : Cond.methodLink (moM M) idx arraycopyName ∈ TT) (hok : acOK sp dp n n0 n1) (hd : 1 ≤ d) (hW : (rest.map fun v => v.category).sum ≤ 8) (hdg : decode (mbM M) pc = .ok (.invokestatic idx, 3)) (hg : va_cpy (s.1 k0) (s.1 k1) sp.toNatClampNeg dp.toNatClampNeg n.toNatClampNeg = g) (hq : pc + 3 = q)
    (kk : EvF G d M ly pl h0 rv f q lv rest (wrA s k1 g)) : EvF G d M ly pl h0 rv f pc lv (.int n :: .int dp :: .ref (pl k1) :: .int sp :: .ref (pl k0) :: rest) s := fun H r s' hf => by
  subst hq
  have h1 := kk H r s' hf
  rw [LH_wrA H.1 (LayOK.lt he1)] at h1
  refine ev_acopyI (H.sh he0) (H.sh he1) hlk hok hd hW hdg ?_
  have e : va_cpy ((LH pl ly.length h0 s).2.2.2.1 (pl k0)) ((LH pl ly.length h0 s).2.2.2.1 (pl k1)) sp.toNatClampNeg dp.toNatClampNeg n.toNatClampNeg = g := by
    rw [← hg]
    show va_cpy (mrg pl ly.length h0.2.2.2.1 s.1 (pl k0)) (mrg pl ly.length h0.2.2.2.1 s.1 (pl k1)) _ _ _ = _
    rw [mrg_at H.1 (LayOK.lt he0), mrg_at H.1 (LayOK.lt he1)]
  rw [e]
  exact h1
theorem ef_acopyL {q idx k0 k1 n0 n1 : Nat} {r0 r1 : List (Nat × Nat)} {sp dp n : Int32} {g : Nat → Int64} (he0 : ly[k0]? = some ((11, n0), r0)) (he1 : ly[k1]? = some ((11, n1), r1)) (hlk : Cond.methodLink (moM M) idx arraycopyName ∈ TT) (hok : acOK sp dp n n0 n1) (hd : 1 ≤ d) (hW : (rest.map fun v => v.category).sum ≤ 8) (hdg : decode (mbM M) pc = .ok (.invokestatic idx, 3)) (hg : va_cpy (s.2 k0) (s.2 k1) sp.toNatClampNeg dp.toNatClampNeg n.toNatClampNeg = g) (hq : pc + 3 = q)
    (kk : EvF G d M ly pl h0 rv f q lv rest (wrAL s k1 g)) : EvF G d M ly pl h0 rv f pc lv (.int n :: .int dp :: .ref (pl k1) :: .int sp :: .ref (pl k0) :: rest) s := fun H r s' hf => by
  subst hq
  have h1 := kk H r s' hf
  rw [LH_wrAL H.1 (LayOK.lt he1)] at h1
  refine ev_acopyL (H.sh he0) (H.sh he1) hlk hok hd hW hdg ?_
  have e : va_cpy ((LH pl ly.length h0 s).2.2.2.2 (pl k0)) ((LH pl ly.length h0 s).2.2.2.2 (pl k1)) sp.toNatClampNeg dp.toNatClampNeg n.toNatClampNeg = g := by
    rw [← hg]
    show va_cpy (mrg pl ly.length h0.2.2.2.2 s.2 (pl k0)) (mrg pl ly.length h0.2.2.2.2 s.2 (pl k1)) _ _ _ = _
    rw [mrg_at H.1 (LayOK.lt he0), mrg_at H.1 (LayOK.lt he1)]
  rw [e]
  exact h1
end EFC
/-- the loops' fuel -/
def FU : Nat := 1000
