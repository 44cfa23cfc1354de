/-- a new object of the reference -/
def X6F : LX := gX6_init (addC (6, 0) []) 0
def S0R : SS := (fun k j => cI X6F k j, fun _ _ => 0)
/-- what a construction does -/
def NewOK : Prop := ∀ (G : GG) (d : Nat) (M : MI) (mc ms : Nat) (Q : Option Value → PH → Prop) (kc ks pc : Nat) (lv : List (Nat × Value)) (rest : List Value) (h : PH), moM M = RX6 → decode (mbM M) pc = .ok (.new 8, 3) → decode (mbM M) (pc + 3) = .ok (.dup, 1) → decode (mbM M) (pc + 4) = .ok (.invokespecial 316, 3) → 3 ≤ d → kc + 33 ≤ mc → ks + 791 ≤ ms → (rest.map fun v => v.category).sum ≤ 6 →
    (∀ h' : PH, NewH S0R h h' → Ev G d M mc ms Q (kc + 33) (ks + 791) (pc + 7) lv (.ref h.1 :: rest) h') → Ev G d M mc ms Q kc ks pc lv rest h
section LATE2
variable {G : GG} {d : Nat} {M : MI} {X : Nat → Prop} {ob0 : List Nat → Nat} {t0 : TF} {h00 : PH} {ρ : Type} {rv : ρ → (List Nat → Nat) → Option Value} {f : Option (ρ × TF)} {pc : Nat} {lv : List (Nat × Value)} {rest : List Value} {t : TF} {ob : List Nat → Nat}
theorem obN_on {ob : List Nat → Nat} {q : List Nat} {b : Nat} : obN ob q b q = b := if_pos rfl
theorem obN_off {ob : List Nat → Nat} {q x : List Nat} {b : Nat} (h : x ≠ q) : obN ob q b x = ob x := if_neg h
theorem AtF.mk {q p : List Nat} {a b : Nat} {s : SS} (hn : ¬ t.1 q = true) (h : AtF ob t p a) : AtF (obN ob q b) (mkT t q s) p a := ⟨mkT_le _ h.1, (obN_off (x := p) (q := q) (fun e => hn (by rw [← e]; exact h.1))).trans h.2⟩
theorem lateL {q : List Nat} {b : Nat} (hn : ¬ t.1 q = true) (L1 : leF t0 t) (L2 : ∀ p : List Nat, t0.1 p = true → ob p = ob0 p) : ∀ p : List Nat, t0.1 p = true → obN ob q b p = ob0 p := fun p hp => (obN_off (x := p) (q := q) (fun e => hn (by rw [← e]; exact L1 p hp))).trans (L2 p hp)
/-- new, into a field -/
theorem ep_newP (hNew : NewOK) {q idx a : Nat} {p : List Nat} {z : Nat × Nat × Nat} (ha : AtF ob t p a) (hz : z ∈ NZ) (hz0 : z.2.1 = 0) (hu : z.1 :: p ∈ UF) (hn : ¬ t.1 (z.1 :: p) = true) (hM : moM M = RX6) (hd : 3 ≤ d) (hF : FL M idx 6 z.2.2) (hfin : (TXG 6 z.2.2).2.2.2 = false) (hty : ftyG 6 z.2.2 = .object RX6) (hW : (rest.map fun v => v.category).sum ≤ 5)
    (d1 : decode (mbM M) pc = .ok (.new 8, 3)) (d2 : decode (mbM M) (pc + 3) = .ok (.dup, 1)) (d3 : decode (mbM M) (pc + 4) = .ok (.invokespecial 316, 3)) (d4 : decode (mbM M) (pc + 7) = .ok (.putfield idx, 3)) (hq : pc + 10 = q)
    (kk : ∀ ob' : List Nat → Nat, (∀ (x : List Nat) (b : Nat), AtF ob t x b → AtF ob' (mkT t (z.1 :: p) S0R) x b) → EvP G d M X ob0 t0 h00 rv f q lv rest (mkT t (z.1 :: p) S0R) ob') : EvP G d M X ob0 t0 h00 rv f pc lv (.ref a :: rest) t ob := fun L1 L2 r t' hf => by
  subst hq
  have K := fun b : Nat => kk (obN ob (z.1 :: p) b) (fun x c e => AtF.mk hn e) (L1.tr mkT_le) (lateL hn L1 L2) r t' hf
  have hle := (K 0).1
  refine ⟨mkT_le.tr hle, fun h F Fx => ?_⟩
  refine hNew G d M _ _ _ _ _ pc lv (.ref a :: rest) h hM d1 d2 d3 hd ?_ ?_ (by simp only [List.map_cons, List.sum_cons, show (Value.ref a).category = 1 from rfl]; omega) (fun h' N => ?_)
  · rw [← CC_mk (s := S0R) L1 hu hn]
    exact CC_le hle
  · rw [← CS_mk (s := S0R) L1 hu hn]
    exact CS_le hle
  · obtain ⟨F1, F2⟩ := F.new ha hz hn N
    rw [hz0, Nat.add_zero] at F1 F2
    have e0 : h'.2.1 a = some (6, 0) := by
      have hb := (F.1 p ha.1).2.2.1
      rw [ha.2] at hb
      rw [(N.2.1 a (by omega)).1]
      exact F.shA (k := 0) (e := ((6, 0), _)) ha rfl
    refine ev_putR (ci := 6) (n := 0) e0 hF hfin (by rw [hty]; rfl) (by rw [hty]; rfl) (by rw [hty]; rfl) d4 ?_
    rw [← CC_mk (s := S0R) L1 hu hn, ← CS_mk (s := S0R) L1 hu hn]
    exact (K h.1).2 _ F1 (Fx.tr F2)
/-- new, into the row of those ahead -/
theorem ep_newA (hNew : NewOK) {q a : Nat} {p : List Nat} {i : Int32} (ha : AtF ob t p a) (hi : ixB i 4) (hu : i.toNatClampNeg :: p ∈ UF) (hn : ¬ t.1 (i.toNatClampNeg :: p) = true) (hM : moM M = RX6) (hd : 3 ≤ d) (hW : (rest.map fun v => v.category).sum ≤ 4)
    (d1 : decode (mbM M) pc = .ok (.new 8, 3)) (d2 : decode (mbM M) (pc + 3) = .ok (.dup, 1)) (d3 : decode (mbM M) (pc + 4) = .ok (.invokespecial 316, 3)) (d4 : decode (mbM M) (pc + 7) = .ok (.aastore, 1)) (hq : pc + 8 = q)
    (kk : ∀ ob' : List Nat → Nat, (∀ (x : List Nat) (b : Nat), AtF ob t x b → AtF ob' (mkT t (i.toNatClampNeg :: p) S0R) x b) → EvP G d M X ob0 t0 h00 rv f q lv rest (mkT t (i.toNatClampNeg :: p) S0R) ob') : EvP G d M X ob0 t0 h00 rv f pc lv (.int i :: .ref (a + 28) :: rest) t ob := fun L1 L2 r t' hf => by
  subst hq
  have hz : (i.toNatClampNeg, 28, i.toNatClampNeg) ∈ NZ := by
    have h4 := ixB_lt hi
    generalize i.toNatClampNeg = k at h4
    rcases (show k = 0 ∨ k = 1 ∨ k = 2 ∨ k = 3 by omega) with rfl | rfl | rfl | rfl <;> decide
  have K := fun b : Nat => kk (obN ob (i.toNatClampNeg :: p) b) (fun x c e => AtF.mk hn e) (L1.tr mkT_le) (lateL hn L1 L2) r t' hf
  have hle := (K 0).1
  refine ⟨mkT_le.tr hle, fun h F Fx => ?_⟩
  refine hNew G d M _ _ _ _ _ pc lv (.int i :: .ref (a + 28) :: rest) h hM d1 d2 d3 hd ?_ ?_ (by simp only [List.map_cons, List.sum_cons, show (Value.ref (a + 28)).category = 1 from rfl, show (Value.int i).category = 1 from rfl]; omega) (fun h' N => ?_)
  · rw [← CC_mk (s := S0R) L1 hu hn]
    exact CC_le hle
  · rw [← CS_mk (s := S0R) L1 hu hn]
    exact CS_le hle
  · obtain ⟨F1, F2⟩ := F.new ha hz hn N
    have e0 : h'.2.1 (a + 28) = some (14, 4) := by
      have hb := (F.1 p ha.1).2.2.1
      rw [ha.2] at hb
      rw [(N.2.1 (a + 28) (by omega)).1]
      exact F.shA (k := 28) (e := ((14, 4), _)) ha rfl
    have e1 : h'.2.1 h.1 = some (6, 0) := (N.2.2.1.2 0 ((6, 0), _) rfl).1
    refine ev_aastore (ci := 6) (nb := 0) e0 (by decide) rfl e1 (by decide) hi d4 ?_
    rw [← CC_mk (s := S0R) L1 hu hn, ← CS_mk (s := S0R) L1 hu hn]
    exact (K h.1).2 _ F1 (Fx.tr F2)
end LATE2
theorem X6F_len : X6F.length = 33 := by decide +kernel
theorem X6F_sh : ∀ k : Nat, k < 33 → cSh X6F k = (lyR[k]?).map (fun e => e.1) := by decide +kernel
theorem X6F_P : ∀ k : Nat, k < 33 → ∀ q ∈ ((lyR[k]?).map (fun e => e.2)).getD [], cP X6F k q.1 = some q.2 := by decide +kernel
theorem X6F_N : ∀ z ∈ NZ, cP X6F z.2.1 z.2.2 = none := by decide +kernel
theorem newH_X6 (h : PH) : NewH S0R h (emb h X6F) := by
  refine ⟨?_, fun q hq => emb_lt hq, ⟨fun i j _ _ e => by unfold plA at e; omega, fun k e hk => ?_⟩, fun k hk => ⟨?_, ?_⟩, fun z hz => ?_⟩
  · show h.1 + X6F.length = h.1 + 33
    rw [X6F_len]
  · have h33 : k < 33 := (List.getElem?_eq_some_iff.mp hk).1
    refine ⟨?_, fun j t ht => ?_⟩
    · have e1 := X6F_sh k h33
      rw [hk] at e1
      exact emb_sh.trans e1
    · have e1 := X6F_P k h33
      rw [hk] at e1
      exact emb_P.trans (congrArg (rfv h.1) (e1 (j, t) (lookup_mem ht)))
  · exact funext fun j => emb_I
  · exact funext fun j => emb_L
  · exact emb_P.trans (congrArg (rfv h.1) (X6F_N z hz))
theorem newOK : NewOK := fun G d M mc ms Q kc ks pc lv rest h hM d1 d2 d3 hd hc hs hW kk => by
  refine ev_nil ?_
  refine ev_new (ci := 6) (by decide) (by rw [hM]; exact TT_4 136 rfl rfl) (TT_4 127 rfl rfl) (TT_1 7 rfl rfl) (by omega) (by show ks + 45 ≤ ms; omega) d1 ?_
  rw [emb_addC]
  refine ev_dup d2 rfl ?_
  have hm := okxX6_init h (addC (6, 0) []) 0 rfl G
  refine ev_invI (As := []) (rest := .ref h.1 :: rest) hm calX6_init (by rw [hM]; exact ml6_316) (by omega) rfl rfl (by simp only [List.map_cons, List.sum_cons, show (Value.ref h.1).category = 1 from rfl]; omega) (by omega) (by show ks + 45 + 746 ≤ ms; omega) d3 (fun v h' hq => ?_)
  obtain ⟨e1, e2⟩ := hq
  subst e1
  subst e2
  exact kk (emb h X6F) (newH_X6 h)
