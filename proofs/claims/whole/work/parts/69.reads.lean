/-! PURE MATHEMATICS, 50: statements read. -/
section READ
variable {φ : Nat → Nat → Option (Nat × Nat)} {c d : CN} {N t M n lo lo' i : Nat} {L : Int} {s r s1 r1 s2 r2 : SS} {x y : Int32}
theorem T_adv (h : TK s r n lo) (hl : ∀ fr to : Nat, lo ≤ fr → fr ≤ to → to ≤ 250 → s.1 0 3 = i32 fr → s.1 0 4 = i32 to → (s.1 0 2 = 3 → to = fr + 1) → lo' ≤ to) : ∃ z r1 : SS, fX1_advance (selS (fun k => 0 + k) s) = some ((), z) ∧ fX6_look r = some ((), r1) ∧ TK (mrgS (fun k => 0 + k) 2 s z) r1 n lo' ∧ FC s (mrgS (fun k => 0 + k) 2 s z) ∧ TR r r1 ∧ ∀ p : Nat, 2 ≤ p → (mrgS (fun k => 0 + k) 2 s z).1 p = s.1 p := by
  have hT' : TK (selS (fun k => 0 + k) s) r n lo := h.of rfl rfl (fun _ _ => rfl) rfl
  obtain ⟨hb, fr, to, k1, k2, k3, k4, k5, k6, k7, k8, _⟩ := hT'
  have hn := hb.1
  obtain ⟨z, r1, q1, q2, q3, q4, q5⟩ := both_look hb k4 k7 k8
  obtain ⟨m0, m1, m2, m3, m4⟩ := mrg0 q3
  exact ⟨z, r1, q1, q2, (q5.lo (hl fr to k1 k3 (by omega) k5 k7 k2)).of m0 (m1.trans m2.symm) (fun _ _ => rfl) rfl, ⟨m4, m1, fun j hj => by rw [m0]; exact q3.2.2 j hj⟩, q4, m3⟩
theorem stay : ∀ fr to : Nat, lo ≤ fr → fr ≤ to → to ≤ 250 → s.1 0 3 = i32 fr → s.1 0 4 = i32 to → (s.1 0 2 = 3 → to = fr + 1) → lo ≤ to := fun _ _ h1 h2 _ _ _ _ => Nat.le_trans h1 h2
theorem TR.hold (h : TR r r1) (hr : Hold φR c r.1) : Hold φR c r1.1 := fun k j a b e => by
  have := φR_rel e
  rw [h.2 k j (fun z => by have := this.1 z.1; omega)]
  exact hr k j a b e
theorem hold_ge2 (hφ : ∀ k j : Nat, k < 2 → φ k j = none) (h : Hold φ c s.1) (e : ∀ p : Nat, 2 ≤ p → s1.1 p = s.1 p) : Hold φ c s1.1 := fun k j a b q => by
  by_cases hk : k < 2
  · rw [hφ k j hk] at q
    exact absurd q (by simp)
  · rw [e k (by omega)]
    exact h k j a b q
/-- a statement read by both -/
def Cone5 (c c' : CN) : Prop := ∀ p : Nat, 5 ≤ p → c' p = c p
def LkLe (c c' : CN) : Prop := lk c ≤ lk c'
def KB (φ : Nat → Nat → Option (Nat × Nat)) (Q : CN → Prop) (c : CN) (L : Int) (s r : SS) (n lo : Nat) (f g : Option (Int32 × SS)) : Prop := (∃ s' r' : SS, f = some (0, s') ∧ g = some (0, r') ∧ KF s r s' r') ∨ ∃ (s' r' : SS) (c' : CN) (N' t' M' : Nat), f = some (1, s') ∧ g = some (1, r') ∧ KS φ c' N' t' M' (L + 1000) s' r' n lo ∧ FC s s' ∧ FR r r' ∧ Q c'
theorem φC2_lo : ∀ k j : Nat, k < 2 → atL 2 φC k j = none := fun k j hk => by unfold atL; rw [if_neg (by omega)]
theorem nb1 : nbZ 1 = 1 := by decide
theorem nb0 : nbZ 0 = 0 := by decide
theorem FC_w {a b : Nat} {z : Int32} (h : FC s s1) (ha : 2 ≤ a) : FC s (wrI s1 a b z) := by
  refine h.tr ⟨rfl, funext fun j => ?_, fun j _ => ?_⟩
  · rw [wrI_1, if_neg (fun z => by have := z.1; omega)]
  · rw [wrI_1, if_neg (fun z => by have := z.1; omega)]
theorem tk_w {a b : Nat} {z : Int32} (h : TK s r n lo) (ha : 2 ≤ a) : TK (wrI s a b z) r n lo := by
  refine h.of (funext fun j => ?_) (funext fun j => ?_) (fun _ _ => rfl) rfl
  · rw [wrI_1, if_neg (fun z => by have := z.1; omega)]
  · rw [wrI_1, if_neg (fun z => by have := z.1; omega)]
theorem FR_w {a b : Nat} {q : Nat × Nat} {z : Int32} (e : φR a b = some q) : FR r (wrI r a b z) := ⟨rfl, fun a' b' _ h2 => by
  rw [wrI_1, if_neg (fun y => by rw [y.1, y.2, e] at h2; exact absurd h2 (by simp))], by
  rw [wrI_1, if_neg (fun y => by rw [← y.1, ← y.2] at e; have := (φR_rel e).1 rfl; omega)]⟩
/-- hold and brim: c's cell 0 j -/
theorem read_ask {j e : Nat} {f : SS → Option (Int32 × SS)} {G : Option (Int32 × SS)} (hj : (j = 3 ∧ e = 0) ∨ (j = 4 ∧ e = 1)) (h : KS (atL 2 φC) c N t M L s r n lo) (hw : ∃ i : Nat, i < 7 ∧ Wd r i) (hL : L + 1000 ≤ 1999000000)
    (ef : f s = ((fX1_advance (selS (fun k => 0 + k) s)).bind fun z1 => ((fX1_isNumber (0 : Int32) (20 : Int32) (selS (fun k => 0 + k) (mrgS (fun k => 0 + k) 2 s z1.2))).bind fun z2 => if z2.1 = 0 then (some ((0 : Int32), mrgS (fun k => 0 + k) 2 (mrgS (fun k => 0 + k) 2 s z1.2) z2.2)) else (((fX1_advance (selS (fun k => 0 + k) (wrI (mrgS (fun k => 0 + k) 2 (mrgS (fun k => 0 + k) 2 s z1.2) z2.2) 2 j ((mrgS (fun k => 0 + k) 2 (mrgS (fun k => 0 + k) 2 s z1.2) z2.2).1 0 5)))).bind fun z4 => some ((1 : Int32), mrgS (fun k => 0 + k) 2 (wrI (mrgS (fun k => 0 + k) 2 (mrgS (fun k => 0 + k) 2 s z1.2) z2.2) 2 j ((mrgS (fun k => 0 + k) 2 (mrgS (fun k => 0 + k) 2 s z1.2) z2.2).1 0 5)) z4.2))))))
    (eg : G = ((fX6_tells (0 : Int32) (20 : Int32) r).bind fun z16 => if z16.1 = 0 then some (nbZ z16.1, wrI z16.2 24 e (z16.2.1 24 e)) else some (nbZ z16.1, wrI z16.2 24 e (z16.2.1 29 0)))) : KB (atL 2 φC) (Cone5 c) c L s r n (lo + 1) (f s) G := by
  obtain ⟨i, hi, hwi⟩ := hw
  obtain ⟨hT, hO, hW, hs, hr⟩ := h
  obtain ⟨z, r1, q1, q2, q3, q4, q5, q6⟩ := T_adv hT (hwi.on hT hi)
  have k1 : KS (atL 2 φC) c N t M L (mrgS (fun k => 0 + k) 2 s z) r1 n (lo + 1) := ⟨q3, hO, hW, hold_ge2 φC2_lo hs q6, q5.hold hr⟩
  rw [ef, eg]
  unfold fX6_tells fX6_tells_0
  rw [q1, q2, obind, obind]
  dsimp only
  generalize hs1 : mrgS (fun k => 0 + k) 2 s z = s1 at *
  rcases K_num (x := 0) (y := 20) (i := 0) k1 (by decide) (by decide) with ⟨p1, r', p2, p3⟩ | ⟨p1, p2, p3, p4⟩
  · have p2' : fX6_number (0 : Int32) (0 : Int32) (20 : Int32) r1 = some (0, r') := p2
    rw [p1, p2', obind, obind, obind]
    dsimp only
    rw [nb0, if_pos rfl, if_pos rfl, mrg_sel injA]
    refine Or.inl ⟨_, _, rfl, rfl, q4.tr p3.1, q5.fr.tr (p3.2.1.tr ⟨rfl, fun a b _ _ => ?_, by show upd2 r'.1 24 e (r'.1 24 e) 0 37 = _; rw [upd2_id]⟩), ?_⟩
    · show upd2 r'.1 24 e (r'.1 24 e) a b = _
      rw [upd2_id]
    · obtain ⟨fr, a1, a2, a3⟩ := p3.2.2
      refine ⟨fr, a1, a2, ?_⟩
      show upd2 r'.1 24 e (r'.1 24 e) 0 35 = _
      rw [upd2_id]
      exact a3
  · have p4' : fX6_number (0 : Int32) (0 : Int32) (20 : Int32) r1 = (fX6_look (wrI r1 29 0 (s1.1 0 5))).bind fun z => some ((1 : Int32), z.2) := p4
    rw [p1, p4', obind]
    dsimp only
    rw [if_neg (by decide), mrg_sel injA]
    generalize s1.1 0 5 = val at *
    have k2 := k1.r29 (i := 0) (z := val)
    obtain ⟨z4, r2, u1, u2, u3, u4, u5, u6⟩ := T_adv (tk_w (a := 2) (b := j) (z := val) k2.1 (by decide)) stay
    rw [u1, u2, obind, obind, obind, obind]
    dsimp only
    rw [nb1, if_neg (by decide)]
    have e29 : r2.1 29 0 = val := (u5.2 29 0 (fun z => by omega)).trans (by rw [wrI_1, if_pos ⟨rfl, rfl⟩])
    have hr2 : Hold φR c r2.1 := u5.hold k2.2.2.2.2
    have eφ : φR 24 e = some (0, j) := by rcases hj with ⟨a, b⟩ | ⟨a, b⟩ <;> subst a <;> subst b <;> rfl
    have eC : atL 2 φC 2 j = some (0, j) := by rcases hj with ⟨a, b⟩ | ⟨a, b⟩ <;> subst a <;> rfl
    have t3 : TK (mrgS (fun k => 0 + k) 2 (wrI s1 2 j val) z4) (wrI r2 24 e val) n (lo + 1) := u3.of rfl rfl (fun b _ => by rw [wrI_1, if_neg (fun z => absurd z.1 (by decide))]) (funext fun b => by rw [wrI_1, if_neg (fun z => absurd z.1 (by decide))])
    have t4 : FR r (wrI r2 24 e val) := q5.fr.tr (FR29.tr (u5.fr.tr (FR_w eφ)))
    rw [wr_R hr2 eφ] at t3 t4
    rw [e29, wr_R hr2 eφ]
    have hv : 0 ≤ val.toInt ∧ val.toInt ≤ 20 := ⟨Int32.le_iff_toInt_le.mp p2, Int32.le_iff_toInt_le.mp p3⟩
    have hO2 : OK (upd2 c 0 j val) N t M (L + 1000) := (upd_OK hO (by rcases hj with ⟨a, b⟩ | ⟨a, b⟩ <;> subst a <;> omega)).mono (by omega) hL
    refine Or.inr ⟨_, _, upd2 c 0 j val, N, t, M, rfl, rfl, ⟨t3, hO2, hW.of upd_5, ?_, Hold_put⟩, (q4.tr (FC_w .rf (by decide))).tr u4, ?_⟩
    · refine hold_ge2 φC2_lo (s := wrI s1 2 j val) ?_ u6
      show Hold _ _ (upd2 s1.1 2 j val)
      have hh := k1.2.2.2.1
      rw [← hh.eq, put_upd (atL_ok φC_ok) eC]
      exact Hold_put
    · exact ⟨t4, upd_5⟩
end READ
