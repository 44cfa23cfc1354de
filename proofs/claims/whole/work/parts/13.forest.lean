/-! THE FOREST: the reference's objects, some made late. A path: [] the main one, 9 :: p tried, 8 :: p kept, k :: p ahead[k]. -/
abbrev TF : Type := (List Nat → Bool) × (List Nat → SS)
def UF : List (List Nat) := [[9], [8], [1], [2], [3], [1, 2], [2, 3], [1, 2, 3], [1, 9], [2, 9], [3, 9], [1, 2, 9], [2, 3, 9], [1, 2, 3, 9]]
def lzF (ob : List Nat → Nat) (t : TF) (p : List Nat) : Value := if t.1 p = true then .ref (ob p) else .null
def plA (a : Nat) : Nat → Nat := fun k => a + k
/-- the slots that name an object made late: its tag, its cell, its slot -/
def NZ : List (Nat × Nat × Nat) := [(8, 0, 28), (9, 0, 29), (0, 28, 0), (1, 28, 1), (2, 28, 2), (3, 28, 3)]
/-- the heap holds the forest t, at the addresses ob; X: the cells that are another's -/
def FO (X : Nat → Prop) (ob : List Nat → Nat) (t : TF) (h : PH) : Prop :=
  (∀ p : List Nat, t.1 p = true → LayOK lyR (plA (ob p)) h ∧ (∀ k : Nat, k < 33 → h.2.2.2.1 (ob p + k) = (t.2 p).1 k ∧ h.2.2.2.2 (ob p + k) = (t.2 p).2 k ∧ ¬ X (ob p + k)) ∧ ob p + 33 ≤ h.1 ∧
    ∀ z ∈ NZ, h.2.2.1 (ob p + z.2.1) z.2.2 = lzF ob t (z.1 :: p)) ∧
  (∀ p q : List Nat, t.1 p = true → t.1 q = true → p ≠ q → ob p + 33 ≤ ob q ∨ ob q + 33 ≤ ob p) ∧ (∀ q : Nat, X q → q < h.1) ∧ ∀ (c : Nat) (x : List Nat), t.1 (c :: x) = true → t.1 x = true
/-- what is another's stays -/
def FrX (X : Nat → Prop) (h h' : PH) : Prop := h.1 ≤ h'.1 ∧ ∀ q : Nat, X q → h'.2.1 q = h.2.1 q ∧ h'.2.2.1 q = h.2.2.1 q ∧ h'.2.2.2.1 q = h.2.2.2.1 q ∧ h'.2.2.2.2 q = h.2.2.2.2 q
theorem FrX.rf {X : Nat → Prop} {h : PH} : FrX X h h := ⟨Nat.le_refl _, fun _ _ => ⟨rfl, rfl, rfl, rfl⟩⟩
theorem FrX.tr {X : Nat → Prop} {h1 h2 h3 : PH} (a : FrX X h1 h2) (b : FrX X h2 h3) : FrX X h1 h3 := ⟨Nat.le_trans a.1 b.1, fun q hq => ⟨(b.2 q hq).1.trans (a.2 q hq).1, (b.2 q hq).2.1.trans (a.2 q hq).2.1, (b.2 q hq).2.2.1.trans (a.2 q hq).2.2.1, (b.2 q hq).2.2.2.trans (a.2 q hq).2.2.2⟩⟩
def leF (t t' : TF) : Prop := ∀ p : List Nat, t.1 p = true → t'.1 p = true
theorem leF.rf {t : TF} : leF t t := fun _ h => h
theorem leF.tr {a b c : TF} (h : leF a b) (k : leF b c) : leF a c := fun p z => k p (h p z)
def cntF (t : TF) : Nat := (UF.filter t.1).length
theorem cntF_le {t t' : TF} (h : leF t t') : cntF t ≤ cntF t' := by
  unfold cntF
  generalize UF = l
  induction l with
  | nil => exact Nat.le_refl _
  | cons a l ih =>
    by_cases z : t.1 a = true
    · rw [List.filter_cons_of_pos z, List.filter_cons_of_pos (h a z)]
      simpa using ih
    · rw [List.filter_cons_of_neg z]
      by_cases y : t'.1 a = true
      · rw [List.filter_cons_of_pos y]
        exact Nat.le_succ_of_le ih
      · rw [List.filter_cons_of_neg y]
        exact ih
def CC (t t' : TF) : Nat := 33 * (cntF t' - cntF t)
def CS (t t' : TF) : Nat := 791 * (cntF t' - cntF t)
theorem CC_rf {t : TF} : CC t t = 0 := by unfold CC; omega
theorem CS_rf {t : TF} : CS t t = 0 := by unfold CS; omega
theorem CC_add {a b c : TF} (h : leF a b) (k : leF b c) : CC a b + CC b c = CC a c := by
  have h1 := cntF_le h
  have h2 := cntF_le k
  unfold CC
  omega
theorem CS_add {a b c : TF} (h : leF a b) (k : leF b c) : CS a b + CS b c = CS a c := by
  have h1 := cntF_le h
  have h2 := cntF_le k
  unfold CS
  omega
theorem CC_le {a b c : TF} (k : leF b c) : CC a b ≤ CC a c := by
  have h2 := cntF_le k
  unfold CC
  omega
theorem CS_le {a b c : TF} (k : leF b c) : CS a b ≤ CS a c := by
  have h2 := cntF_le k
  unfold CS
  omega
def AtF (ob : List Nat → Nat) (t : TF) (p : List Nat) (a : Nat) : Prop := t.1 p = true ∧ ob p = a
/-- the state at one path changed -/
def wrT (t : TF) (p : List Nat) (s : SS) : TF := (t.1, fun q => if q = p then s else t.2 q)
theorem wrT_same {t : TF} {p : List Nat} {s : SS} : (wrT t p s).2 p = s := by simp [wrT]
theorem wrT_ne {t : TF} {p q : List Nat} {s : SS} (h : q ≠ p) : (wrT t p s).2 q = t.2 q := by simp [wrT, h]
theorem AtF.wr {ob : List Nat → Nat} {t : TF} {p q : List Nat} {a : Nat} {s : SS} (h : AtF ob t p a) : AtF ob (wrT t q s) p a := h
theorem leF.wr {t : TF} {q : List Nat} {s : SS} : leF t (wrT t q s) := fun _ h => h
theorem leF.wr' {t : TF} {q : List Nat} {s : SS} : leF (wrT t q s) t := fun _ h => h
theorem CC_wr {a t : TF} {q : List Nat} {s : SS} : CC a (wrT t q s) = CC a t := rfl
theorem CS_wr {a t : TF} {q : List Nat} {s : SS} : CS a (wrT t q s) = CS a t := rfl
theorem lyR_len : lyR.length = 33 := rfl
/-- one object's cells changed -/
theorem FO.put {X : Nat → Prop} {ob : List Nat → Nat} {t : TF} {h : PH} {p : List Nat} {a : Nat} {s : SS} (F : FO X ob t h) (hp : AtF ob t p a) : FO X ob (wrT t p s) (LH (plA a) 33 h s) ∧ FrX X h (LH (plA a) 33 h s) := by
  obtain ⟨F1, F2, F3⟩ := F
  obtain ⟨hp, rfl⟩ := hp
  have hi : injN (plA (ob p)) 33 := fun i j _ _ e => by unfold plA at e; omega
  have off : ∀ q : List Nat, t.1 q = true → q ≠ p → ∀ k : Nat, k < 33 → ∀ j : Nat, j < 33 → ob q + k ≠ plA (ob p) j := by
    intro q hq hne k hk j hj
    rcases F2 q p hq hp hne with z | z
    · unfold plA; omega
    · unfold plA; omega
  refine ⟨⟨fun q hq => ?_, F2, F3⟩, Nat.le_refl _, fun q hq => ?_⟩
  · obtain ⟨g1, g2, g3, g4⟩ := F1 q hq
    refine ⟨g1, fun k hk => ?_, g3, g4⟩
    by_cases z : q = p
    · subst z
      rw [wrT_same]
      exact ⟨mrg_at hi hk, mrg_at hi hk, (g2 k hk).2.2⟩
    · rw [wrT_ne z]
      exact ⟨(mrg_off (fun j hj => off q hq z k hk j hj)).trans (g2 k hk).1, (mrg_off (fun j hj => off q hq z k hk j hj)).trans (g2 k hk).2.1, (g2 k hk).2.2⟩
  · have hne : ∀ k : Nat, k < 33 → q ≠ plA (ob p) k := fun k hk e => ((F1 p hp).2.1 k hk).2.2 (by rw [e] at hq; exact hq)
    exact ⟨rfl, rfl, mrg_off hne, mrg_off hne⟩
theorem FO.sel {X : Nat → Prop} {ob : List Nat → Nat} {t : TF} {h : PH} {p : List Nat} {a : Nat} (F : FO X ob t h) (hp : AtF ob t p a) : LH (plA a) 33 h (t.2 p) = h := by
  obtain ⟨hp, rfl⟩ := hp
  have hi : injN (plA (ob p)) 33 := fun i j _ _ e => by unfold plA at e; omega
  have e := LH_id (n := 33) (h := h) hi
  refine Eq.trans ?_ e
  unfold LH
  congr 4
  · exact mrg_congr hi (fun k hk => (((F.1 p hp).2.1 k hk).1).symm)
  · exact mrg_congr hi (fun k hk => (((F.1 p hp).2.1 k hk).2.1).symm)
theorem FO.lay {X : Nat → Prop} {ob : List Nat → Nat} {t : TF} {h : PH} {p : List Nat} {a : Nat} (F : FO X ob t h) (hp : AtF ob t p a) : LayOK lyR (plA a) h := by
  obtain ⟨hp, rfl⟩ := hp
  exact (F.1 p hp).1
theorem FO.at {X : Nat → Prop} {ob : List Nat → Nat} {t : TF} {h : PH} {p : List Nat} {a k : Nat} (F : FO X ob t h) (hp : AtF ob t p a) (hk : k < 33) : h.2.2.2.1 (a + k) = (t.2 p).1 k ∧ h.2.2.2.2 (a + k) = (t.2 p).2 k := by
  obtain ⟨hp, rfl⟩ := hp
  exact ⟨((F.1 p hp).2.1 k hk).1, ((F.1 p hp).2.1 k hk).2.1⟩
def rwU : Unit → (List Nat → Nat) → Option Value := fun _ _ => none
def rwI : Int32 → (List Nat → Nat) → Option Value := fun r _ => rvI r
def rwL : Int64 → (List Nat → Nat) → Option Value := fun r _ => rvL r
/-- what is returned is the object at q -/
def rwA (q : List Nat) : Unit → (List Nat → Nat) → Option Value := fun _ ob => some (.ref (ob q))
def QP (X : Nat → Prop) (ob0 : List Nat → Nat) (t0 : TF) (h00 : PH) {ρ : Type} (rv : ρ → (List Nat → Nat) → Option Value) (r : ρ) (t' : TF) : Option Value → PH → Prop := fun v h' => ∃ ob' : List Nat → Nat, v = rv r ob' ∧ (∀ p : List Nat, t0.1 p = true → ob' p = ob0 p) ∧ FO X ob' t' h' ∧ FrX X h00 h'
/-- a contract of a method of the object at path p -/
def MtP (d : Nat) (M : MI) {ρ : Type} (rv : ρ → (List Nat → Nat) → Option Value) (p : List Nat) (av : Nat → List Value) (f : TF → Option (ρ × TF)) : Prop :=
  (∀ (t : TF) (r : ρ) (t' : TF), t.1 p = true → f t = some (r, t') → leF t t') ∧
  ∀ (X : Nat → Prop) (h : PH) (ob : List Nat → Nat) (t : TF) (r : ρ) (t' : TF) (a : Nat), AtF ob t p a → FO X ob t h → f t = some (r, t') → Mt d M (CC t t') (CS t t') (fun _ => av a) h (QP X ob t h rv r t')
/-- what it returns is the object at q -/
def MtPf (d : Nat) (M : MI) (p q : List Nat) (av : Nat → List Value) (f : TF → Option (Unit × TF)) : Prop :=
  (∀ (t : TF) (t' : TF), f t = some ((), t') → t'.1 q = true) ∧ MtP d M (rwA q) p av f
def EvP (G : GG) (d : Nat) (M : MI) (X : Nat → Prop) (ob0 : List Nat → Nat) (t0 : TF) (h00 : PH) {ρ : Type} (rv : ρ → (List Nat → Nat) → Option Value) (f : Option (ρ × TF)) (pc : Nat) (lv : List (Nat × Value)) (st : List Value) (t : TF) (ob : List Nat → Nat) : Prop :=
  leF t0 t → (∀ p : List Nat, t0.1 p = true → ob p = ob0 p) → ∀ (r : ρ) (t' : TF), f = some (r, t') → leF t t' ∧ ∀ h : PH, FO X ob t h → FrX X h00 h → Ev G d M (CC t0 t') (CS t0 t') (QP X ob0 t0 h00 rv r t') (CC t0 t) (CS t0 t) pc lv st h
def G00 : GG := ((fun _ => 0, fun _ _ => 0), fun _ => 0, #[], fun _ => 0, fun _ => 0)
theorem MtP.of {d : Nat} {M : MI} {ρ : Type} {rv : ρ → (List Nat → Nat) → Option Value} {p : List Nat} {av : Nat → List Value} {f : TF → Option (ρ × TF)} (hpl : plainName (myM M).cls = true) (ho : moM M = (myM M).cls) (hl : ∀ a : Nat, (lg_sl (av a)).length ≤ mlM M)
    (body : ∀ (G : GG) (X : Nat → Prop) (ob : List Nat → Nat) (t : TF) (h : PH) (a : Nat), AtF ob t p a → EvP G d M X ob t h rv (f t) 0 (lv_args 0 (av a)) [] t ob) : MtP d M rv p av f := by
  refine ⟨fun t r t' ht hf => ((body G00 (fun _ => False) (fun _ => 0) t (0, fun _ => none, fun _ _ => .null, fun _ _ => 0, fun _ _ => 0) 0 ⟨ht, rfl⟩) leF.rf (fun _ _ => rfl) r t' hf).1, ?_⟩
  intro X h ob t r t' a ha F hf G
  refine MtG.of hpl ho (hl a) ?_
  have z := ((body G X ob t h a ha) leF.rf (fun _ _ => rfl) r t' hf).2 h F FrX.rf
  rw [CC_rf, CS_rf] at z
  exact z
theorem AtF.mono {ob ob' : List Nat → Nat} {t t' : TF} {p : List Nat} {a : Nat} (h : AtF ob t p a) (hl : leF t t') (ho : ∀ q : List Nat, t.1 q = true → ob' q = ob q) : AtF ob' t' p a := ⟨hl p h.1, (ho p h.1).trans h.2⟩
/-- two objects as one state -/
def prS (s1 s2 : SS) : SS := (fun k => if k < 33 then s1.1 k else s2.1 (k - 33), fun k => if k < 33 then s1.2 k else s2.2 (k - 33))
def snS (s : SS) : SS := (fun k => s.1 (k + 33), fun k => s.2 (k + 33))
def plAB (a b : Nat) : Nat → Nat := fun k => if k < 33 then a + k else b + (k - 33)
theorem plAB_lo {a b k : Nat} (h : k < 33) : plAB a b k = a + k := if_pos h
theorem plAB_hi {a b k : Nat} : plAB a b (33 + k) = b + k := by
  unfold plAB
  rw [if_neg (by omega), show 33 + k - 33 = k by omega]
theorem lyRR_1 : ∀ k : Nat, k < 33 → lyRR[k]? = lyR[k]? := by decide +kernel
theorem lyRR_2 : ∀ k : Nat, k < 33 → lyRR[33 + k]? = (lyR[k]?).map (fun e => (e.1, e.2.map (fun q => (q.1, 33 + q.2)))) := by decide +kernel
theorem lyR_in : ∀ e ∈ lyR, ∀ q ∈ e.2, q.2 < 33 := by decide +kernel
theorem lookup_map {l : List (Nat × Nat)} {j t : Nat} (h : (l.map (fun q => (q.1, 33 + q.2))).lookup j = some t) : ∃ t0, l.lookup j = some t0 ∧ t = 33 + t0 := by
  induction l with
  | nil => cases h
  | cons a l ih =>
    obtain ⟨x, y⟩ := a
    simp only [List.map_cons, List.lookup_cons] at h
    by_cases z : j == x
    · simp only [z] at h
      cases h
      exact ⟨y, by simp only [List.lookup_cons, z], rfl⟩
    · simp only [z] at h
      obtain ⟨t0, h1, h2⟩ := ih h
      exact ⟨t0, by simp only [List.lookup_cons, z]; exact h1, h2⟩
theorem LayOK.pair {a b : Nat} {h : PH} (H1 : LayOK lyR (plA a) h) (H2 : LayOK lyR (plA b) h) (hd : a + 33 ≤ b ∨ b + 33 ≤ a) : LayOK lyRR (plAB a b) h := by
  have hl : lyRR.length = 66 := by decide +kernel
  refine ⟨fun i j hi hj e => ?_, fun k e hk => ?_⟩
  · rw [hl] at hi hj
    unfold plAB at e
    split at e <;> split at e <;> rcases hd with z | z <;> omega
  · have hk66 : k < 66 := by
      have := (List.getElem?_eq_some_iff.mp hk).1
      rw [hl] at this
      exact this
    by_cases hk3 : k < 33
    · rw [lyRR_1 k hk3] at hk
      obtain ⟨g1, g2⟩ := H1.2 k e hk
      refine ⟨by rw [plAB_lo hk3]; exact g1, fun j t ht => ?_⟩
      have ht3 := lyR_in e (List.mem_of_getElem? hk) _ (lookup_mem ht)
      rw [plAB_lo hk3, plAB_lo ht3]
      exact g2 j t ht
    · obtain ⟨k', rfl⟩ : ∃ k', k = 33 + k' := ⟨k - 33, by omega⟩
      rw [lyRR_2 k' (by omega)] at hk
      obtain ⟨e0, h1, h2⟩ := Option.map_eq_some_iff.mp hk
      subst h2
      obtain ⟨g1, g2⟩ := H2.2 k' e0 h1
      refine ⟨by rw [plAB_hi]; exact g1, fun j t ht => ?_⟩
      obtain ⟨t0, h3, h4⟩ := lookup_map ht
      subst h4
      rw [plAB_hi, plAB_hi]
      exact g2 j t0 h3
theorem mrg_pair {α : Type} {a b : Nat} {S C : Nat → Nat → α} (hd : a + 33 ≤ b ∨ b + 33 ≤ a) : mrg (plAB a b) 66 S C = mrg (plA b) 33 (mrg (plA a) 33 S C) (fun k => C (k + 33)) := by
  have hi : injN (plAB a b) 66 := fun i j hi hj e => by
    unfold plAB at e
    split at e <;> split at e <;> rcases hd with z | z <;> omega
  have ha : injN (plA a) 33 := fun i j _ _ e => by unfold plA at e; omega
  have hb : injN (plA b) 33 := fun i j _ _ e => by unfold plA at e; omega
  funext q
  rcases mrg_cases (pl := plAB a b) 66 q with ⟨j, hj, rfl⟩ | hq
  · rw [mrg_at hi hj]
    by_cases z : j < 33
    · rw [plAB_lo z]
      rw [mrg_off (fun k hk e => by unfold plA at e; rcases hd with w | w <;> omega)]
      exact (mrg_at ha z).symm
    · obtain ⟨k', rfl⟩ : ∃ k', j = 33 + k' := ⟨j - 33, by omega⟩
      rw [plAB_hi]
      have e2 := mrg_at (S := mrg (plA a) 33 S C) (C := fun k => C (k + 33)) hb (show k' < 33 by omega)
      rw [show C (33 + k') = (fun k => C (k + 33)) k' from by show C (33 + k') = C (k' + 33); rw [Nat.add_comm]]
      exact e2.symm
  · rw [mrg_off hq, mrg_off (fun k hk e => hq (33 + k) (by omega) (by rw [plAB_hi]; exact e)), mrg_off (fun k hk e => hq k (by omega) (by rw [plAB_lo hk]; exact e))]
theorem FO.put2 {X : Nat → Prop} {ob : List Nat → Nat} {t : TF} {h : PH} {p q : List Nat} {a b : Nat} {s : SS} (F : FO X ob t h) (hp : AtF ob t p a) (hq : AtF ob t q b) (hne : p ≠ q) : FO X ob (wrT (wrT t p s) q (snS s)) (LH (plAB a b) 66 h s) ∧ FrX X h (LH (plAB a b) 66 h s) := by
  have hd : a + 33 ≤ b ∨ b + 33 ≤ a := by
    have := F.2.1 p q hp.1 hq.1 hne
    rw [hp.2, hq.2] at this
    exact this
  obtain ⟨G1, G2⟩ := F.put (s := s) hp
  obtain ⟨K1, K2⟩ := G1.put (p := q) (a := b) (s := snS s) (hq.wr)
  have e : LH (plAB a b) 66 h s = LH (plA b) 33 (LH (plA a) 33 h s) (snS s) := by
    unfold LH snS
    simp only [mrg_pair hd]
  rw [e]
  exact ⟨K1, G2.tr K2⟩
theorem FO.sel2 {X : Nat → Prop} {ob : List Nat → Nat} {t : TF} {h : PH} {p q : List Nat} {a b : Nat} (F : FO X ob t h) (hp : AtF ob t p a) (hq : AtF ob t q b) (hne : p ≠ q) : LH (plAB a b) 66 h (prS (t.2 p) (t.2 q)) = h := by
  have hd : a + 33 ≤ b ∨ b + 33 ≤ a := by
    have := F.2.1 p q hp.1 hq.1 hne
    rw [hp.2, hq.2] at this
    exact this
  have hi : injN (plAB a b) 66 := (LayOK.pair (F.lay hp) (F.lay hq) hd).1
  have e := LH_id (n := 66) (h := h) hi
  refine Eq.trans ?_ e
  unfold LH
  congr 4
  · refine mrg_congr hi (fun k hk => ?_)
    by_cases z : k < 33
    · show (if k < 33 then _ else _) = h.2.2.2.1 (plAB a b k)
      rw [if_pos z, plAB_lo z]
      exact (F.at hp z).1.symm
    · obtain ⟨k', rfl⟩ : ∃ k', k = 33 + k' := ⟨k - 33, by omega⟩
      show (if 33 + k' < 33 then _ else (t.2 q).1 (33 + k' - 33)) = h.2.2.2.1 (plAB a b (33 + k'))
      rw [if_neg (by omega), plAB_hi, show 33 + k' - 33 = k' by omega]
      exact (F.at hq (by omega)).1.symm
  · refine mrg_congr hi (fun k hk => ?_)
    by_cases z : k < 33
    · show (if k < 33 then _ else _) = h.2.2.2.2 (plAB a b k)
      rw [if_pos z, plAB_lo z]
      exact (F.at hp z).2.symm
    · obtain ⟨k', rfl⟩ : ∃ k', k = 33 + k' := ⟨k - 33, by omega⟩
      show (if 33 + k' < 33 then _ else (t.2 q).2 (33 + k' - 33)) = h.2.2.2.2 (plAB a b (33 + k'))
      rw [if_neg (by omega), plAB_hi, show 33 + k' - 33 = k' by omega]
      exact (F.at hq (by omega)).2.symm
theorem cne {k : Nat} {p : List Nat} : k :: p ≠ p := fun e => by have := congrArg List.length e; simp at this
theorem cne' {k : Nat} {p : List Nat} : p ≠ k :: p := fun e => cne e.symm
/-- two writes of one object -/
abbrev wTI (t : TF) (p : List Nat) (k j : Nat) (x : Int32) : TF := wrT t p (wrI (t.2 p) k j x)
abbrev wTL (t : TF) (p : List Nat) (k j : Nat) (x : Int64) : TF := wrT t p (wrL (t.2 p) k j x)
/-- a new object at q -/
def mkT (t : TF) (q : List Nat) (s : SS) : TF := (fun x => x == q || t.1 x, fun x => if x = q then s else t.2 x)
theorem mkT_le {t : TF} {q : List Nat} {s : SS} : leF t (mkT t q s) := fun x hx => by
  show (x == q || t.1 x) = true
  rw [hx, Bool.or_true]
theorem mkT_at {t : TF} {q : List Nat} {s : SS} : (mkT t q s).1 q = true := by
  show (q == q || t.1 q) = true
  simp
theorem cntL {f g : List Nat → Bool} {q : List Nat} : ∀ (l : List (List Nat)), l.Nodup → q ∈ l → f q = false → (∀ x, g x = (x == q || f x)) → (l.filter g).length = (l.filter f).length + 1
  | [], _, h, _, _ => by cases h
  | a :: l, hn, h, hf, hg => by
    have hn2 := List.nodup_cons.mp hn
    by_cases z : a = q
    · subst z
      have e1 : g a = true := by rw [hg]; simp
      rw [List.filter_cons_of_pos e1, List.filter_cons_of_neg (by rw [hf]; decide)]
      have e2 : l.filter g = l.filter f := List.filter_congr (fun x hx => by
        rw [hg]
        have : (x == a) = false := by
          have hne : x ≠ a := fun e => hn2.1 (e ▸ hx)
          simpa using hne
        rw [this, Bool.false_or])
      rw [e2]
      rfl
    · have hq : q ∈ l := by
        rcases List.mem_cons.mp h with y | y
        · exact absurd y.symm z
        · exact y
      have ih := cntL l hn2.2 hq hf hg
      have e1 : g a = f a := by
        rw [hg]
        have : (a == q) = false := by simpa using z
        rw [this, Bool.false_or]
      by_cases y : f a = true
      · rw [List.filter_cons_of_pos (e1.trans y), List.filter_cons_of_pos y, List.length_cons, List.length_cons, ih]
      · rw [List.filter_cons_of_neg (by rw [e1]; exact y), List.filter_cons_of_neg y, ih]
theorem UF_nodup : UF.Nodup := by decide
theorem mkT_cnt {t : TF} {q : List Nat} {s : SS} (hq : q ∈ UF) (hn : ¬ t.1 q = true) : cntF (mkT t q s) = cntF t + 1 := cntL UF UF_nodup hq (Bool.not_eq_true _ ▸ hn) (fun _ => rfl)
theorem CC_mk {t0 t : TF} {q : List Nat} {s : SS} (hl : leF t0 t) (hq : q ∈ UF) (hn : ¬ t.1 q = true) : CC t0 (mkT t q s) = CC t0 t + 33 := by
  have h1 := cntF_le hl
  unfold CC
  rw [mkT_cnt hq hn]
  omega
theorem CS_mk {t0 t : TF} {q : List Nat} {s : SS} (hl : leF t0 t) (hq : q ∈ UF) (hn : ¬ t.1 q = true) : CS t0 (mkT t q s) = CS t0 t + 791 := by
  have h1 := cntF_le hl
  unfold CS
  rw [mkT_cnt hq hn]
  omega
/-- what a construction leaves behind it: 33 cells at the heap's end -/
def NewH (s : SS) (h h' : PH) : Prop := h'.1 = h.1 + 33 ∧ (∀ q : Nat, q < h.1 → h'.2.1 q = h.2.1 q ∧ h'.2.2.1 q = h.2.2.1 q ∧ h'.2.2.2.1 q = h.2.2.2.1 q ∧ h'.2.2.2.2 q = h.2.2.2.2 q) ∧ LayOK lyR (plA h.1) h' ∧ (∀ k : Nat, k < 33 → h'.2.2.2.1 (h.1 + k) = s.1 k ∧ h'.2.2.2.2 (h.1 + k) = s.2 k) ∧ ∀ z ∈ NZ, h'.2.2.1 (h.1 + z.2.1) z.2.2 = .null
theorem NZ_lt : ∀ z ∈ NZ, z.2.1 < 33 := by decide
theorem NZ_slot : ∀ z ∈ NZ, ∀ y ∈ NZ, z.2 = y.2 → z = y := by decide
theorem NZ_tag : ∀ z ∈ NZ, ∀ y ∈ NZ, z.1 = y.1 → z = y := by decide
theorem NZ_none : ∀ z ∈ NZ, ((lyR[z.2.1]?).bind fun e => e.2.lookup z.2.2) = none := by decide +kernel
theorem upd2_off {α : Type} {f : Nat → Nat → α} {q k q' k' : Nat} {v : α} (h : ¬ (q' = q ∧ k' = k)) : upd2 f q k v q' k' = f q' k' := by
  unfold upd2
  by_cases z : q' = q
  · rw [if_pos z]
    exact if_neg (fun y => h ⟨z, y⟩)
  · rw [if_neg z]
theorem upd2_on {α : Type} {f : Nat → Nat → α} {q k : Nat} {v : α} : upd2 f q k v q k = v := by simp [upd2]
def obN (ob : List Nat → Nat) (q : List Nat) (b : Nat) : List Nat → Nat := fun x => if x = q then b else ob x
theorem FO.new {X : Nat → Prop} {ob : List Nat → Nat} {t : TF} {h h1 : PH} {p : List Nat} {a : Nat} {s : SS} {z : Nat × Nat × Nat} (F : FO X ob t h) (ha : AtF ob t p a) (hz : z ∈ NZ) (hn : ¬ t.1 (z.1 :: p) = true) (N : NewH s h h1) :
    FO X (obN ob (z.1 :: p) h.1) (mkT t (z.1 :: p) s) (h1.1, h1.2.1, upd2 h1.2.2.1 (a + z.2.1) z.2.2 (.ref h.1), h1.2.2.2.1, h1.2.2.2.2) ∧ FrX X h (h1.1, h1.2.1, upd2 h1.2.2.1 (a + z.2.1) z.2.2 (.ref h.1), h1.2.2.2.1, h1.2.2.2.2) := by
  obtain ⟨F1, F2, F3, F4⟩ := F
  obtain ⟨hp, rfl⟩ := ha
  obtain ⟨N1, N2, N3, N4, N5⟩ := N
  have hz33 := NZ_lt z hz
  have hpz : ob p + z.2.1 < h.1 := by have := (F1 p hp).2.2.1; omega
  have hnew : ∀ x : List Nat, (mkT t (z.1 :: p) s).1 x = true → x ≠ z.1 :: p → t.1 x = true := by
    intro x hx hne
    have e : (x == z.1 :: p || t.1 x) = true := hx
    rcases Bool.or_eq_true _ _ ▸ e with y | y
    · exact absurd (by simpa using y) hne
    · exact y
  have lzo : ∀ y : List Nat, y ≠ z.1 :: p → lzF (obN ob (z.1 :: p) h.1) (mkT t (z.1 :: p) s) y = lzF ob t y := by
    intro y hy
    unfold lzF obN
    have e : (mkT t (z.1 :: p) s).1 y = t.1 y := by
      show (y == z.1 :: p || t.1 y) = t.1 y
      have : (y == z.1 :: p) = false := by simpa using hy
      rw [this, Bool.false_or]
    rw [e, if_neg hy]
  refine ⟨⟨fun x hx => ?_, fun x y hx hy hne => ?_, fun q hq => ?_, fun c x hx => ?_⟩, ?_, fun q hq => ?_⟩
  · by_cases hxq : x = z.1 :: p
    · subst hxq
      have eo : obN ob (z.1 :: p) h.1 (z.1 :: p) = h.1 := if_pos rfl
      have es : (mkT t (z.1 :: p) s).2 (z.1 :: p) = s := if_pos rfl
      rw [eo, es]
      refine ⟨⟨N3.1, fun k e hk => ⟨(N3.2 k e hk).1, fun j u hu => ?_⟩⟩, fun k hk => ⟨(N4 k hk).1, (N4 k hk).2, fun hX => by have := F3 _ hX; omega⟩, Nat.le_of_eq N1.symm, fun y hy => ?_⟩
      · have ee : ¬ (plA h.1 k = ob p + z.2.1 ∧ j = z.2.2) := fun e => by have := e.1; unfold plA at this; omega
        exact (upd2_off ee).trans ((N3.2 k e hk).2 j u hu)
      · have ee : ¬ (h.1 + y.2.1 = ob p + z.2.1 ∧ y.2.2 = z.2.2) := fun e => by have := e.1; omega
        refine (upd2_off ee).trans ((N5 y hy).trans ?_)
        rw [lzo _ cne]
        unfold lzF
        rw [if_neg (fun e => hn (F4 _ _ e))]
    · have hx0 := hnew x hx hxq
      obtain ⟨g1, g2, g3, g4⟩ := F1 x hx0
      have eo : obN ob (z.1 :: p) h.1 x = ob x := if_neg hxq
      have es : (mkT t (z.1 :: p) s).2 x = t.2 x := if_neg hxq
      rw [eo, es]
      have hcell : ∀ k : Nat, k < 33 → ob x + k = ob p + z.2.1 → x = p ∧ k = z.2.1 := by
        intro k hk e
        by_cases y : x = p
        · subst y
          exact ⟨rfl, by omega⟩
        · rcases F2 x p hx0 hp y with w | w <;> omega
      refine ⟨⟨g1.1, fun k e hk => ?_⟩, fun k hk => ?_, by show ob x + 33 ≤ h1.1; omega, fun y hy => ?_⟩
      · have hk33 : k < 33 := (List.getElem?_eq_some_iff.mp hk).1
        have hlt : plA (ob x) k < h.1 := by unfold plA; omega
        refine ⟨(N2 _ hlt).1 ▸ (g1.2 k e hk).1, fun j u hu => ?_⟩
        have ee : ¬ (plA (ob x) k = ob p + z.2.1 ∧ j = z.2.2) := fun w => by
          obtain ⟨w1, w2⟩ := hcell k hk33 w.1
          have w3 := NZ_none z hz
          rw [← w2, hk] at w3
          have w4 : e.2.lookup z.2.2 = none := w3
          rw [← w.2, hu] at w4
          cases w4
        exact (upd2_off ee).trans ((congrFun (N2 _ hlt).2.1 j).trans ((g1.2 k e hk).2 j u hu))
      · have hlt : ob x + k < h.1 := by omega
        exact ⟨(N2 _ hlt).2.2.1.trans (g2 k hk).1, (N2 _ hlt).2.2.2.trans (g2 k hk).2.1, (g2 k hk).2.2⟩
      · have hy33 := NZ_lt y hy
        have hlt : ob x + y.2.1 < h.1 := by omega
        by_cases w : ob x + y.2.1 = ob p + z.2.1 ∧ y.2.2 = z.2.2
        · obtain ⟨w1, w2⟩ := hcell _ hy33 w.1
          have hyz : y = z := NZ_slot y hy z hz (Prod.ext w2 w.2)
          subst hyz
          subst w1
          refine upd2_on.trans ?_
          unfold lzF
          rw [if_pos mkT_at]
          exact congrArg Value.ref (if_pos rfl).symm
        · refine (upd2_off w).trans ((congrFun (N2 _ hlt).2.1 _).trans ((g4 y hy).trans (lzo _ (fun e => w ?_)).symm))
          obtain ⟨e1, e2⟩ := List.cons.inj e
          have := NZ_tag y hy z hz e1
          subst this
          subst e2
          exact ⟨rfl, rfl⟩
  · by_cases h1 : x = z.1 :: p
    · subst h1
      have hy0 := hnew y hy (fun e => hne e.symm)
      rw [show obN ob (z.1 :: p) h.1 (z.1 :: p) = h.1 from if_pos rfl, show obN ob (z.1 :: p) h.1 y = ob y from if_neg (fun e => hne e.symm)]
      exact Or.inr (F1 y hy0).2.2.1
    · have hx0 := hnew x hx h1
      by_cases h2 : y = z.1 :: p
      · subst h2
        rw [show obN ob (z.1 :: p) h.1 (z.1 :: p) = h.1 from if_pos rfl, show obN ob (z.1 :: p) h.1 x = ob x from if_neg h1]
        exact Or.inl (F1 x hx0).2.2.1
      · rw [show obN ob (z.1 :: p) h.1 x = ob x from if_neg h1, show obN ob (z.1 :: p) h.1 y = ob y from if_neg h2]
        exact F2 x y hx0 (hnew y hy h2) hne
  · show q < h1.1
    have := F3 q hq
    omega
  · by_cases h1 : c :: x = z.1 :: p
    · obtain ⟨-, e2⟩ := List.cons.inj h1
      subst e2
      exact mkT_le _ hp
    · exact mkT_le _ (F4 c x (hnew _ hx h1))
  · show h.1 ≤ h1.1
    omega
  · have hq1 := F3 q hq
    obtain ⟨e1, e2, e3, e4⟩ := N2 q hq1
    refine ⟨e1, ?_, e3, e4⟩
    funext j
    refine (upd2_off (fun w => ?_)).trans (congrFun e2 j)
    exact ((F1 p hp).2.1 _ hz33).2.2 (w.1 ▸ hq)
