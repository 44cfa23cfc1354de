/-! PURE MATHEMATICS, 55: from seven places to eleven. -/
section READ
variable {c c' d : CN} {N t M n lo lo' i : Nat} {L : Int} {s s' r s1 r1 s2 r2 : SS} {x y : Int32}
theorem inj7 : injN (fun k => if k < 2 then 0 + k else 3 + (k - 2)) 7 := fun i j hi hj e => by
  dsimp only at e
  split at e <;> split at e <;> omega
theorem m7_0 : (mrgS (fun k => if k < 2 then 0 + k else 3 + (k - 2)) 7 s s').1 0 = s'.1 0 := mrg_at (S := s.1) (C := s'.1) inj7 (k := 0) (by decide)
theorem m7_1 : (mrgS (fun k => if k < 2 then 0 + k else 3 + (k - 2)) 7 s s').1 1 = s'.1 1 := mrg_at (S := s.1) (C := s'.1) inj7 (k := 1) (by decide)
theorem m7_c {k : Nat} (hk : k < 5) : (mrgS (fun k => if k < 2 then 0 + k else 3 + (k - 2)) 7 s s').1 (3 + k) = s'.1 (2 + k) := by
  have := mrg_at (S := s.1) (C := s'.1) inj7 (k := 2 + k) (by omega)
  rw [if_neg (by omega), show 2 + k - 2 = k by omega] at this
  exact this
theorem m7_off {p : Nat} (hp : p = 2 ∨ 8 ≤ p) : (mrgS (fun k => if k < 2 then 0 + k else 3 + (k - 2)) 7 s s').1 p = s.1 p := by
  refine mrg_off (S := s.1) (C := s'.1) fun k hk => ?_
  split <;> omega
theorem m7_L (h : s'.2 = (selS (fun k => if k < 2 then 0 + k else 3 + (k - 2)) s).2) : (mrgS (fun k => if k < 2 then 0 + k else 3 + (k - 2)) 7 s s').2 = s.2 := by
  unfold mrgS
  rw [h]
  exact mrg_id inj7
theorem φW_hi {k j : Nat} {q : Nat × Nat} (e : φW k j = some q) (hk : k = 0 ∨ 6 ≤ k) : 5 ≤ q.1 := by
  have := ψW_of k j q e
  unfold ψW at this
  split at this
  · have e1 := congrArg Prod.fst this
    dsimp only at e1
    omega
  · omega
theorem KS_down (h : KS (atL 2 φW) c N t M L s r n lo) : KS (atL 2 φC) c N t M L (selS (fun k => if k < 2 then 0 + k else 3 + (k - 2)) s) r n lo := by
  refine ⟨h.1.of rfl rfl (fun _ _ => rfl) rfl, h.2.1, h.2.2.1, fun k j a b e => ?_, h.2.2.2.2⟩
  unfold atL at e
  by_cases hk : 2 ≤ k
  · rw [if_pos hk] at e
    have h5 : k - 2 < 5 := Nat.not_le.mp (fun q => by rw [φC_5 (k - 2) j q] at e; exact absurd e (by simp))
    show s.1 (if k < 2 then 0 + k else 3 + (k - 2)) j = c a b
    rw [if_neg (by omega)]
    refine h.2.2.2.1 _ j a b ?_
    unfold atL
    rw [if_pos (by omega), show 3 + (k - 2) - 2 = 1 + (k - 2) by omega, fW_cone h5]
    exact e
  · rw [if_neg hk] at e
    exact absurd e (by simp)
theorem KB_lift {F G : Option (Int32 × SS)} (h : KS (atL 2 φW) c N t M L s r n lo) (k : KB (atL 2 φC) (Cone5 c) c L (selS (fun k => if k < 2 then 0 + k else 3 + (k - 2)) s) r n lo' F G) : KB (atL 2 φW) (LkLe c) c L s r n lo' (F.bind fun z => some (nbZ z.1, mrgS (fun k => if k < 2 then 0 + k else 3 + (k - 2)) 7 s z.2)) G := by
  have up : ∀ s' : SS, FC (selS (fun k => if k < 2 then 0 + k else 3 + (k - 2)) s) s' → FC s (mrgS (fun k => if k < 2 then 0 + k else 3 + (k - 2)) 7 s s') := fun s' f => ⟨m7_L f.1, m7_1.trans f.2.1, fun j hj => by rw [m7_0]; exact f.2.2 j hj⟩
  rcases k with ⟨s', r', a1, a2, a3, a4, fr, a5, a6, a7⟩ | ⟨s', r', c', N', t', M', a1, a2, a3, a4, a5, a6⟩
  · rw [a1, obind, nb0]
    exact Or.inl ⟨_, r', rfl, a2, up s' a3, a4, fr, a5, by rw [m7_0]; exact a6, a7⟩
  · rw [a1, obind, nb1]
    refine Or.inr ⟨_, r', c', N', t', M', rfl, a2, ⟨a3.1.of m7_0 m7_1 (fun _ _ => rfl) rfl, a3.2.1, a3.2.2.1, fun k j a b e => ?_, a3.2.2.2.2⟩, up s' a4, a5, ?_⟩
    · have e0 := e
      unfold atL at e
      by_cases hk : 2 ≤ k
      · rw [if_pos hk] at e
        by_cases hc : k = 2 ∨ 8 ≤ k
        · have h5 := φW_hi e (by omega)
          rw [m7_off hc, a6 a h5]
          exact h.2.2.2.1 k j a b e0
        · have e3 : k = 3 + (k - 3) := by omega
          have e4 : k - 2 = 1 + (k - 3) := by omega
          rw [e4, fW_cone (by omega)] at e
          rw [e3, m7_c (by omega)]
          refine a3.2.2.2.1 _ j a b ?_
          unfold atL
          rw [if_pos (by omega), show 2 + (k - 3) - 2 = k - 3 by omega]
          exact e
      · rw [if_neg hk] at e
        exact absurd e (by simp)
    · unfold LkLe lk
      rw [a6 5 (by decide)]
      exact Nat.le_refl _
end READ
