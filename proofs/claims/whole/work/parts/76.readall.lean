/-! PURE MATHEMATICS, 57: all statements. -/
section READ
variable {c c' d : CN} {N t M n lo lo' i : Nat} {L : Int} {s s' r s1 r1 s2 r2 : SS} {x y : Int32}
def FR0 (r r' : SS) : Prop := r'.2 = r.2 ∧ ∀ a b : Nat, relT a b → φR a b = none → r'.1 a b = r.1 a b
theorem FR.z (h : FR r r1) : FR0 r r1 := ⟨h.1, h.2.1⟩
theorem FR0.tr (h : FR0 r r1) (k : FR0 r1 r2) : FR0 r r2 := ⟨k.1.trans h.1, fun a b h1 h2 => (k.2 a b h1 h2).trans (h.2 a b h1 h2)⟩
theorem FR37 {z : Int32} : FR0 r (wrI r 0 37 z) := ⟨rfl, fun a b h1 _ => by rw [wrI_1, if_neg (fun z => by have := h1.1 z.1; omega)]⟩
theorem KS.r37 {φ : Nat → Nat → Option (Nat × Nat)} {z : Int32} (h : KS φ c N t M L s r n lo) : KS φ c N t M L s (wrI r 0 37 z) n lo := by
  refine ⟨h.1.of rfl rfl (fun b hb => ?_) (funext fun b => ?_), h.2.1, h.2.2.1, h.2.2.2.1, fun k j a b e => ?_⟩
  · rw [wrI_1, if_neg (fun z => by have := z.2; omega)]
  · rw [wrI_1, if_neg (fun z => absurd z.1 (by decide))]
  · have := φR_rel e
    rw [wrI_1, if_neg (fun z => by have := this.1 z.1; omega)]
    exact h.2.2.2.2 k j a b e
def cnt (b : Bool) (q : SS) : SS := if b = true then wrI q 0 37 (q.1 0 37 + 1) else q
/-- both have read all, or failed alike -/
def KA (c : CN) (L : Int) (s r : SS) (n : Nat) (F G : Option (Int32 × SS)) : Prop := (∃ (s' r' : SS) (fr : Nat), F = some ((-20 : Int32) - i32 fr, s') ∧ G = some (0, r') ∧ FC s s' ∧ FR0 r r' ∧ fr ≤ 250 ∧ r'.1 0 35 = i32 fr) ∨ ∃ (s' r' : SS) (c' : CN) (N' t' M' k' : Nat), F = some (i32 k', s') ∧ G = some (1, r') ∧ r'.1 0 37 = i32 k' ∧ k' ≤ 200 ∧ KS (atL 2 φW) c' N' t' M' L s' r' n 0 ∧ FC s s' ∧ FR0 r r' ∧ lk c ≤ lk c'
theorem read_loop : ∀ (m k f g : Nat) (b : Bool) (c : CN) (N t M : Nat) (L : Int) (s r : SS) (lo : Nat), k + m = 200 → 1 ≤ k → 2 * (k - 1) ≤ lo → m < f → m < g → KS (atL 2 φW) c N t M L s r n lo → L + 1000 * m + 1000 ≤ 1999000000 → r.1 0 37 + (if b = true then 1 else 0) = i32 k → KA c (L + 1000 * m + 1000) s r n (fX1_readInto_11 f (i32 k) s) ((fX6_statement r).bind fun z4 => if z4.1 = 0 then some ((0 : Int32), z4.2) else fX6_readAll_23 g (cnt b z4.2))
  | m, k, 0, g, b, c, N, t, M, L, s, r, lo => fun _ _ _ h => absurd h (Nat.not_lt_zero _)
  | m, k, f + 1, 0, b, c, N, t, M, L, s, r, lo => fun _ _ _ _ h => absurd h (Nat.not_lt_zero _)
  | m, k, f + 1, g + 1, b, c, N, t, M, L, s, r, lo => fun hm hk1 hlo hf hg h hL h37 => by
    have hk : k ≤ 126 := by
      obtain ⟨hb, fr, to, a1, _, a2, a3, _⟩ := h.1
      have := hb.1
      omega
    obtain ⟨m', em⟩ : ∃ m' : Nat, m = m' + 1 := ⟨m - 1, by omega⟩
    subst em
    unfold fX1_readInto_11
    rw [if_neg (fun z => by have := (l_lt (n := 250) (by unfold B31; omega) (by decide)).mp z; omega)]
    rcases both_statement h (by omega) with ⟨s', r', a1, a2, a3, a4, fr, a5, a6, a7⟩ | ⟨s', r', c', N', t', M', a1, a2, a3, a4, a5, a6⟩
    · rw [a1, a2, obind, obind]
      dsimp only
      rw [if_pos rfl, if_pos rfl, a6]
      exact Or.inl ⟨s', r', fr, rfl, rfl, a3, a4.z, a5, a7⟩
    · rw [a1, a2, obind, obind]
      dsimp only
      rw [if_neg (show ¬ (1 : Int32) = 0 by decide), if_neg (show ¬ (1 : Int32) = 0 by decide)]
      have k3 : KS (atL 2 φW) c' N' t' M' (L + 1000) s' (cnt b r') n (lo + 1) ∧ FR0 r (cnt b r') ∧ (cnt b r').1 0 37 = i32 k := by
        unfold cnt
        cases b with
        | true =>
          refine ⟨KS.r37 a3, a5.z.tr FR37, ?_⟩
          rw [if_pos rfl, wrI_1, if_pos ⟨rfl, rfl⟩, a5.2.2]
          exact h37
        | false =>
          refine ⟨a3, a5.z, ?_⟩
          rw [if_neg (by decide), a5.2.2, ← h37]
          exact (Int32.add_zero _).symm
      obtain ⟨k4, k5, k6⟩ := k3
      generalize cnt b r' = q at *
      have kind : s'.1 0 2 = q.1 0 32 := by
        obtain ⟨_, _, _, _, _, _, _, _, _, _, _, k, _⟩ := k4.1
        exact k
      unfold fX6_readAll_23
      rw [kind]
      by_cases z0 : q.1 0 32 = 0
      · rw [if_pos z0, if_pos z0]
        exact Or.inr ⟨s', q, c', N', t', M', k, rfl, rfl, k6, by omega, ⟨k4.1.lo (Nat.zero_le _), k4.2.1.mono (by omega) (by omega), k4.2.2⟩, a4, k5, a6⟩
      · rw [if_neg z0, if_neg z0]
        by_cases z3 : q.1 0 32 = 3
        · rw [if_pos z3, if_pos z3]
          obtain ⟨z, r2, q1, q2, q3, q4, q5, q6⟩ := T_adv (lo' := lo + 2) k4.1 (fun fr to h1 h2 h3 h4 h5 h6 => by have := h6 (kind.trans z3); omega)
          rw [q1, q2, obind, obind]
          dsimp only
          rw [i32_succ]
          have k7 : KS (atL 2 φW) c' N' t' M' (L + 1000) (mrgS (fun k => 0 + k) 2 s' z) r2 n (lo + 2) := ⟨q3, k4.2.1, k4.2.2.1, hold_ge2 φW2_lo k4.2.2.2.1 q6, q5.hold k4.2.2.2.2⟩
          have e37 : r2.1 0 37 = i32 k := (q5.2 0 37 (by omega)).trans k6
          rcases read_loop m' (k + 1) f g true c' N' t' M' (L + 1000) _ r2 (lo + 2) (by omega) (by omega) (by omega) (by omega) (by omega) k7 (by omega) (by rw [e37, if_pos rfl, i32_succ]) with ⟨s3, r3, fr, b1, b2, b3, b4, b5⟩ | ⟨s3, r3, c3, N3, t3, M3, k3, b1, b2, b3, b4, b5, b6, b7, b8⟩
          · exact Or.inl ⟨s3, r3, fr, b1, b2, (a4.tr q4).tr b3, (k5.tr q5.fr.z).tr b4, b5⟩
          · exact Or.inr ⟨s3, r3, c3, N3, t3, M3, k3, b1, b2, b3, b4, ⟨b5.1, b5.2.1.mono (by omega) (by omega), b5.2.2⟩, (a4.tr q4).tr b6, (k5.tr q5.fr.z).tr b7, Nat.le_trans a6 b8⟩
        · rw [if_neg z3, if_neg z3]
          obtain ⟨fr, f1, f2, f3⟩ := k4.1.from
          have e : fX6_wrong q = some ((0 : Int32), wrI q 0 35 (q.1 0 33)) := rfl
          rw [e, obind, f2, nb0]
          exact Or.inl ⟨s', _, fr, rfl, rfl, a4, k5.tr FR35.z, f1, by rw [wrI_1, if_pos ⟨rfl, rfl⟩]; exact f3⟩
end READ
