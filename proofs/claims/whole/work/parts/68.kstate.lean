/-! PURE MATHEMATICS, 49: what both hold while they read. -/
section READ
variable {φ : Nat → Nat → Option (Nat × Nat)} {c d : CN} {N t M n lo lo' i : Nat} {L : Int} {s r s1 r1 s2 r2 : SS} {x y : Int32}
def FC (s s' : SS) : Prop := s'.2 = s.2 ∧ s'.1 1 = s.1 1 ∧ ∀ j : Nat, j < 2 ∨ 5 < j → s'.1 0 j = s.1 0 j
def FR (r r' : SS) : Prop := r'.2 = r.2 ∧ (∀ a b : Nat, relT a b → φR a b = none → r'.1 a b = r.1 a b) ∧ r'.1 0 37 = r.1 0 37
theorem FC.rf : FC s s := ⟨rfl, rfl, fun _ _ => rfl⟩
theorem FR.rf : FR r r := ⟨rfl, fun _ _ _ _ => rfl, rfl⟩
theorem FC.tr (h : FC s s1) (k : FC s1 s2) : FC s s2 := ⟨k.1.trans h.1, k.2.1.trans h.2.1, fun j hj => (k.2.2 j hj).trans (h.2.2 j hj)⟩
theorem FR.tr (h : FR r r1) (k : FR r1 r2) : FR r r2 := ⟨k.1.trans h.1, fun a b h1 h2 => (k.2.1 a b h1 h2).trans (h.2.1 a b h1 h2), k.2.2.trans h.2.2⟩
theorem TR.fr (h : TR r r1) : FR r r1 := ⟨h.1, fun a b h1 _ => h.2 a b (fun z => by have := h1.1 z.1; omega), h.2 0 37 (by omega)⟩
/-- what both hold while they read; phi: where the class has its cone -/
def KS (φ : Nat → Nat → Option (Nat × Nat)) (c : CN) (N t M : Nat) (L : Int) (s r : SS) (n lo : Nat) : Prop := TK s r n lo ∧ OK c N t M L ∧ WI c ∧ Hold φ c s.1 ∧ Hold φR c r.1
/-- both have failed, at the same place -/
def KF (s r s' r' : SS) : Prop := FC s s' ∧ FR r r' ∧ ∃ fr : Nat, fr ≤ 250 ∧ s'.1 0 3 = i32 fr ∧ r'.1 0 35 = i32 fr
theorem TK.of (h : TK s r n lo) (e0 : s1.1 0 = s.1 0) (e1 : s1.1 1 = s.1 1) (e2 : ∀ b : Nat, b < 35 → r1.1 0 b = r.1 0 b) (e3 : r1.1 15 = r.1 15) : TK s1 r1 n lo := by
  obtain ⟨⟨a1, a2, a3, a4⟩, fr, to, h⟩ := h
  refine ⟨⟨a1, by rw [e0]; exact a2, (e2 7 (by decide)).trans a3, fun j hj => by rw [e1, e3]; exact a4 j hj⟩, fr, to, ?_⟩
  rw [e0, e2 31 (by decide), e2 32 (by decide), e2 33 (by decide), e2 34 (by decide)]
  exact h
theorem mrg0 (hz : TC (selS (fun k => 0 + k) s) s1) : (mrgS (fun k => 0 + k) 2 s s1).1 0 = s1.1 0 ∧ (mrgS (fun k => 0 + k) 2 s s1).1 1 = s.1 1 ∧ s1.1 1 = s.1 1 ∧ (∀ p : Nat, 2 ≤ p → (mrgS (fun k => 0 + k) 2 s s1).1 p = s.1 p) ∧ (mrgS (fun k => 0 + k) 2 s s1).2 = s.2 := by
  obtain ⟨h1, h2, h3⟩ := mrg2 (A := 0) (S := s) (s := s1)
  have e1 : s1.1 1 = s.1 1 := hz.2.1 1 (by decide)
  refine ⟨h2.1, h2.2.trans e1, e1, fun p hp => (h1 p (by omega) (by omega)).1, funext fun p => ?_⟩
  by_cases p0 : p = 0
  · subst p0
    exact h3.1.trans (congrFun hz.1 0)
  · by_cases p1 : p = 1
    · subst p1
      exact h3.2.trans (congrFun hz.1 1)
    · exact (h1 p (by omega) (by omega)).2
theorem sel0 : (selS (fun k => 0 + k) s).1 0 = s.1 0 ∧ (selS (fun k => 0 + k) s).1 1 = s.1 1 := ⟨rfl, rfl⟩
/-- both go one token on -/
theorem K_adv (hφ : ∀ k j : Nat, k < 2 → φ k j = none) (h : KS φ c N t M L s r n lo) (hl : ∀ fr to : Nat, lo ≤ fr → fr ≤ to → to ≤ 250 → s.1 0 3 = i32 fr → s.1 0 4 = i32 to → (s.1 0 2 = 3 → to = fr + 1) → lo' ≤ to) : ∃ z r1 : SS, fX1_advance (selS (fun k => 0 + k) s) = some ((), z) ∧ fX6_look r = some ((), r1) ∧ KS φ c N t M L (mrgS (fun k => 0 + k) 2 s z) r1 n lo' ∧ FC s (mrgS (fun k => 0 + k) 2 s z) ∧ TR r r1 ∧ ∀ p : Nat, 2 ≤ p → (mrgS (fun k => 0 + k) 2 s z).1 p = s.1 p := by
  obtain ⟨hT, hO, hW, hs, hr⟩ := h
  have hT' : TK (selS (fun k => 0 + k) s) r n lo := hT.of rfl rfl (fun _ _ => rfl) rfl
  obtain ⟨hb, fr, to, k1, k2, k3, k4, k5, k6, k7, k8, _⟩ := hT'
  have hn := hb.1
  obtain ⟨z, r1, q1, q2, q3, q4, q5⟩ := both_look hb k4 k7 k8
  obtain ⟨m0, m1, m2, m3, m4⟩ := mrg0 q3
  refine ⟨z, r1, q1, q2, ⟨(q5.lo (hl fr to k1 k3 (by omega) k5 k7 k2)).of m0 (m1.trans m2.symm) (fun _ _ => rfl) rfl, hO, hW, fun k j a b e => ?_, fun k j a b e => ?_⟩, ⟨m4, m1, fun j hj => ?_⟩, q4, m3⟩
  · by_cases hk : k < 2
    · rw [hφ k j hk] at e
      exact absurd e (by simp)
    · rw [m3 k (by omega)]
      exact hs k j a b e
  · have := φR_rel e
    rw [q4.2 k j (fun z => by have := this.1 z.1; omega)]
    exact hr k j a b e
  · rw [m0]
    exact q3.2.2 j hj
theorem TK.from (h : TK s r n lo) : ∃ fr : Nat, fr ≤ 250 ∧ s.1 0 3 = i32 fr ∧ r.1 0 33 = i32 fr := by
  obtain ⟨hb, fr, to, k1, k2, k3, k4, k5, k6, _⟩ := h
  have hn := hb.1
  exact ⟨fr, by omega, k5, k6⟩
theorem φR_29 {b : Nat} : φR 29 b = none := by
  unfold φR φR1
  rw [if_neg (by omega)]
  repeat rw [if_neg (by omega)]
theorem FR35 {z : Int32} : FR r (wrI r 0 35 z) := ⟨rfl, fun a b h1 _ => by rw [wrI_1, if_neg (fun z => by have := h1.1 z.1; omega)], by rw [wrI_1, if_neg (by decide)]⟩
theorem FR29 {z : Int32} : FR r (wrI r 29 i z) := ⟨rfl, fun a b h1 _ => by rw [wrI_1, if_neg (fun z => by have := h1.2; omega)], by rw [wrI_1, if_neg (fun z => absurd z.1 (by decide))]⟩
theorem KS.r29 {z : Int32} (h : KS φ c N t M L s r n lo) : KS φ c N t M L s (wrI r 29 i z) n lo := by
  refine ⟨h.1.of rfl rfl (fun b _ => ?_) (funext fun b => ?_), h.2.1, h.2.2.1, h.2.2.2.1, fun k j a b e => ?_⟩
  · rw [wrI_1, if_neg (fun z => absurd z.1 (by decide))]
  · rw [wrI_1, if_neg (fun z => absurd z.1 (by decide))]
  · have := φR_rel e
    rw [wrI_1, if_neg (fun z => by have := this.2; omega)]
    exact h.2.2.2.2 k j a b e
/-- both look for a number in its bounds -/
theorem K_num (h : KS φ c N t M L s r n lo) (hy : y < 1000) (hi : i < 2) : (fX1_isNumber x y (selS (fun k => 0 + k) s) = some (0, selS (fun k => 0 + k) s) ∧ ∃ r' : SS, fX6_number (i32 i) x y r = some (0, r') ∧ KF s r s r') ∨ (fX1_isNumber x y (selS (fun k => 0 + k) s) = some (1, selS (fun k => 0 + k) s) ∧ x ≤ s.1 0 5 ∧ s.1 0 5 ≤ y ∧ fX6_number (i32 i) x y r = (fX6_look (wrI r 29 i (s.1 0 5))).bind fun z => some ((1 : Int32), z.2)) := by
  have hT' : TK (selS (fun k => 0 + k) s) r n lo := h.1.of rfl rfl (fun _ _ => rfl) rfl
  obtain ⟨fr, f1, f2, f3⟩ := h.1.from
  rcases both_num (x := x) (i := i) hT' hy hi with ⟨q1, q2⟩ | ⟨q1, q2, q3, q4, q5⟩
  · refine Or.inl ⟨q1, _, q2, .rf, FR35, fr, f1, f2, ?_⟩
    rw [wrI_1, if_pos ⟨rfl, rfl⟩]
    exact f3
  · rw [← q4] at q5
    exact Or.inr ⟨q1, q2, q3, q5⟩
/-- both ask whether it is the word i -/
theorem K_word (h : KS φ c N t M L s r n lo) (hi : i < 7) (hk : s.1 0 2 = 1) : ∃ b : Bool, fX1_isWord i (selS (fun k => 0 + k) s) = some (if b = true then 1 else 0, selS (fun k => 0 + k) s) ∧ fX6_isWord i r = some (if b = true then 1 else 0, r) ∧ (b = true ↔ Wd r i) := by
  have hT' : TK (selS (fun k => 0 + k) s) r n lo := h.1.of rfl rfl (fun _ _ => rfl) rfl
  exact both_word hT' hi hk
theorem strLen_pos : ∀ i : Nat, i < 7 → 1 ≤ strLen.getD i 0 := by decide +kernel
/-- a word read: the next token begins behind it -/
theorem Wd.on (h : TK s r n lo) (hi : i < 7) (hw : Wd r i) : ∀ fr to : Nat, lo ≤ fr → fr ≤ to → to ≤ 250 → s.1 0 3 = i32 fr → s.1 0 4 = i32 to → (s.1 0 2 = 3 → to = fr + 1) → lo + 1 ≤ to := by
  intro fr to h1 h2 h3 h4 h5 _
  obtain ⟨hb, fr', to', _, _, k3, k4, k5, k6, k7, k8, _⟩ := h
  have hn := hb.1
  have l1 := strLen_pos i hi
  have l2 := strLen_lt i hi
  obtain ⟨f, a1, a2, a3, _⟩ := hw
  have e1 : f = fr' := inj32 (by omega) (by omega) (a2.symm.trans k6)
  have e2 : fr = fr' := inj32 (by omega) (by omega) (h4.symm.trans k5)
  have e3 : f + strLen.getD i 0 = to' := inj32 (by omega) (by omega) (a3.symm.trans k8)
  have e4 : to = to' := inj32 (by omega) (by omega) (h5.symm.trans k7)
  omega
end READ
