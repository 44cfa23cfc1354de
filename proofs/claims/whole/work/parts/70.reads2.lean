/-! PURE MATHEMATICS, 51: sides and scoops read. -/
section READ
variable {φ : Nat → Nat → Option (Nat × Nat)} {c c' d : CN} {N t M n lo lo' i : Nat} {L : Int} {s r s1 r1 s2 r2 : SS} {x y : Int32}
theorem cone_op {ρ : Type} {f : SS → Option (ρ × SS)} {q : ρ} (h : Hold (atL 2 φC) c s.1) (e : ∀ (u : CN) (w : Nat → Nat → Int64), f (put φC c u, w) = some (q, (put φC c' u, w))) : ∃ z : SS, f (selS (fun k => 2 + k) s) = some (q, z) ∧ mrgS (fun k => 2 + k) 5 s z = (put (atL 2 φC) c' s.1, s.2) := by
  obtain ⟨v, w⟩ := s
  exact ⟨_, by rw [sel_at h]; exact e _ _, by rw [mrg_C]⟩
theorem FC_put (hφ : ∀ k j : Nat, k < 2 → φ k j = none) : FC s (put φ c' s.1, s.2) := ⟨rfl, funext fun j => put_off (hφ 1 j (by decide)), fun j _ => put_off (hφ 0 j (by decide))⟩
theorem tk_put (hφ : ∀ k j : Nat, k < 2 → φ k j = none) (h : TK s r n lo) : TK (put φ c' s.1, s.2) r n lo := h.of (funext fun j => put_off (hφ 0 j (by decide))) (funext fun j => put_off (hφ 1 j (by decide))) (fun _ _ => rfl) rfl
theorem φR_15 {j : Nat} : φR 15 j = none := by
  unfold φR φR1
  rw [if_neg (by omega)]
  repeat rw [if_neg (by omega)]
theorem φR_31 {b : Nat} (h : 31 ≤ b) : φR 0 b = none := by
  cases e : φR 0 b with
  | none => rfl
  | some q => exact absurd ((φR_rel e).1 rfl) (by omega)
theorem tk_putR (h : TK s r n lo) : TK s (put φR c' r.1, r.2) n lo := by
  obtain ⟨⟨a1, a2, a3, a4⟩, fr, to, h⟩ := h
  have e : ∀ b : Nat, 31 ≤ b → put φR c' r.1 0 b = r.1 0 b := fun b hb => put_off (φR_31 hb)
  refine ⟨⟨a1, a2, (put_off (φ := φR) (c := c') (u := r.1) (show φR 0 7 = none from rfl)).trans a3, fun j hj => (a4 j hj).trans (put_off (φ := φR) (c := c') (u := r.1) φR_15).symm⟩, fr, to, ?_⟩
  dsimp only
  rw [e 31 (by decide), e 32 (by decide), e 33 (by decide), e 34 (by decide)]
  exact h
theorem FR_put : FR r (put φR c' r.1, r.2) := ⟨rfl, fun _ _ _ h => put_off h, put_off (φ := φR) (c := c') (u := r.1) (φR_31 (b := 37) (by decide))⟩
theorem refR_op {ρ : Type} {f : SS → Option (ρ × SS)} {q : ρ} (h : Hold φR c r.1) (e : ∀ (u : CN) (w : Nat → Nat → Int64), f (put φR c u, w) = some (q, (put φR c' u, w))) : f r = some (q, (put φR c' r.1, r.2)) := by
  have := e r.1 r.2
  rw [← h.mk] at this
  exact this
theorem mSides_p {p : Nat} (hp : 5 ≤ p) : mSides x c p = c p := by unfold mSides; rw [upd2_ne (by omega), upd2_ne (by omega), upd2_ne (by omega)]
theorem read_sides (h : KS (atL 2 φC) c N t 0 L s r n lo) (hw : ∃ i : Nat, i < 7 ∧ Wd r i) (hL : L + 1000 ≤ 1999000000) : KB (atL 2 φC) (Cone5 c) c L s r n (lo + 1) (fX1_readSides s) ((fX6_tells (3 : Int32) (8 : Int32) r).bind fun z4 => if z4.1 = 0 then (some (nbZ z4.1, z4.2)) else (((fX6_becomeSides (z4.2.1 29 0) z4.2).bind fun z6 => some (nbZ z4.1, z6.2)))) := by
  obtain ⟨i, hi, hwi⟩ := hw
  obtain ⟨hT, hO, hW, hs, hr⟩ := h
  have e11 : s.1 2 11 = i32 0 := (hs 2 11 0 11 rfl).trans hO.1.2.2.1
  obtain ⟨z, r1, q1, q2, q3, q4, q5, q6⟩ := T_adv hT (hwi.on hT hi)
  have k1 : KS (atL 2 φC) c N t 0 L (mrgS (fun k => 0 + k) 2 s z) r1 n (lo + 1) := ⟨q3, hO, hW, hold_ge2 φC2_lo hs q6, q5.hold hr⟩
  unfold fX1_readSides fX1_readSides_0 fX6_tells fX6_tells_0
  rw [e11, if_pos (by decide), q1, q2, obind, obind]
  dsimp only
  generalize hs1 : mrgS (fun k => 0 + k) 2 s z = s1 at *
  rcases K_num (x := 3) (y := 8) (i := 0) k1 (by decide) (by decide) with ⟨p1, r', p2, p3⟩ | ⟨p1, p2, p3, p4⟩
  · have p2' : fX6_number (0 : Int32) (3 : Int32) (8 : Int32) r1 = some (0, r') := p2
    rw [p1, p2', obind, obind, obind]
    dsimp only
    rw [nb0, if_pos rfl, if_pos rfl, mrg_sel injA, nb0]
    exact Or.inl ⟨_, _, rfl, rfl, q4.tr p3.1, q5.fr.tr p3.2.1, p3.2.2⟩
  · have p4' : fX6_number (0 : Int32) (3 : Int32) (8 : Int32) r1 = (fX6_look (wrI r1 29 0 (s1.1 0 5))).bind fun z => some ((1 : Int32), z.2) := p4
    rw [p1, p4', obind]
    dsimp only
    rw [if_neg (by decide), mrg_sel injA]
    obtain ⟨v, v3, v8, ev⟩ := of_bet (a := 3) (b := 8) (by decide) ⟨p2, p3⟩ (by decide)
    rw [ev]
    rw [ev] at p4' p4
    have k2 := k1.r29 (i := 0) (z := i32 v)
    obtain ⟨z5, o1, o2⟩ := cone_op (c' := mSides (i32 v) c) k1.2.2.2.1 (fun u w => okC_sides (x := i32 v))
    rw [o1, obind]
    dsimp only
    rw [o2]
    obtain ⟨z4, r2, u1, u2, u3, u4, u5, u6⟩ := T_adv (tk_put (c' := mSides (i32 v) c) φC2_lo k2.1) stay
    rw [u1, u2, obind, obind, obind, obind]
    dsimp only
    rw [nb1, if_neg (by decide)]
    have e29 : r2.1 29 0 = i32 v := (u5.2 29 0 (fun z => by omega)).trans (by rw [wrI_1, if_pos ⟨rfl, rfl⟩])
    have hr2 : Hold φR c r2.1 := u5.hold k2.2.2.2.2
    rw [e29, refR_op hr2 (fun u w => okR_sides (x := i32 v)), obind, nb1]
    have hO2 : OK (mSides (i32 v) c) v 0 0 (L + 1000) := (mSides_OK hO v3 v8).mono (by omega) hL
    exact Or.inr ⟨_, _, mSides (i32 v) c, v, 0, 0, rfl, rfl, ⟨tk_putR u3, hO2, hW.of (fun p hp => mSides_p hp), hold_ge2 φC2_lo Hold_put u6, Hold_put⟩, (q4.tr (FC_put φC2_lo)).tr u4, q5.fr.tr (FR29.tr (u5.fr.tr FR_put)), fun p hp => mSides_p hp⟩
end READ
