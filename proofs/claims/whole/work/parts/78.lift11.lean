/-! PURE MATHEMATICS, 59: from eleven places to the class's. -/
section READ
variable {c c' d : CN} {N t M n lo lo' i : Nat} {L : Int} {S s' : SS}
theorem inj11 : injN (fun k => if k < 2 then 58 + k else 1 + (k - 2)) 11 := fun i j hi hj e => by
  dsimp only at e
  split at e <;> split at e <;> omega
theorem m11_0 : (mrgS (fun k => if k < 2 then 58 + k else 1 + (k - 2)) 11 S s').1 58 = s'.1 0 := mrg_at (S := S.1) (C := s'.1) inj11 (k := 0) (by decide)
theorem m11_1 : (mrgS (fun k => if k < 2 then 58 + k else 1 + (k - 2)) 11 S s').1 59 = s'.1 1 := mrg_at (S := S.1) (C := s'.1) inj11 (k := 1) (by decide)
theorem m11_c {k : Nat} (hk : k < 9) : (mrgS (fun k => if k < 2 then 58 + k else 1 + (k - 2)) 11 S s').1 (1 + k) = s'.1 (2 + k) := by
  have := mrg_at (S := S.1) (C := s'.1) inj11 (k := 2 + k) (by omega)
  rw [if_neg (by omega), show 2 + k - 2 = k by omega] at this
  exact this
theorem m11_off {p : Nat} (hp : p = 0 ∨ (10 ≤ p ∧ p ≠ 58 ∧ p ≠ 59)) : (mrgS (fun k => if k < 2 then 58 + k else 1 + (k - 2)) 11 S s').1 p = S.1 p := by
  refine mrg_off (S := S.1) (C := s'.1) fun k hk => ?_
  split <;> omega
theorem m11_L (h : s'.2 = (selS (fun k => if k < 2 then 58 + k else 1 + (k - 2)) S).2) : (mrgS (fun k => if k < 2 then 58 + k else 1 + (k - 2)) 11 S s').2 = S.2 := by
  unfold mrgS
  rw [h]
  exact mrg_id inj11
theorem down11 (h : Hold (atL 1 φW) c S.1) : Hold (atL 2 φW) c (selS (fun k => if k < 2 then 58 + k else 1 + (k - 2)) S).1 := fun k j a b e => by
  unfold atL at e
  by_cases hk : 2 ≤ k
  · rw [if_pos hk] at e
    show S.1 (if k < 2 then 58 + k else 1 + (k - 2)) j = c a b
    rw [if_neg (by omega)]
    refine h _ j a b ?_
    rw [atL_at]
    exact e
  · rw [if_neg hk] at e
    exact absurd e (by simp)
theorem up11 (h : Hold (atL 2 φW) c' s'.1) : Hold (atL 1 φW) c' (mrgS (fun k => if k < 2 then 58 + k else 1 + (k - 2)) 11 S s').1 := fun k j a b e => by
  unfold atL at e
  by_cases hk : 1 ≤ k
  · rw [if_pos hk] at e
    have h9 : k - 1 < 9 := Nat.not_le.mp (fun q => by rw [φW_9 (k - 1) j q] at e; exact absurd e (by simp))
    rw [show k = 1 + (k - 1) by omega, m11_c h9]
    refine h _ j a b ?_
    rw [atL_at]
    exact e
  · rw [if_neg hk] at e
    exact absurd e (by simp)
/-- the tape's places are the reference's -/
theorem tape_TB {T : TF} (h : TPr S (T.2 [])) {r : SS} (e7 : r.1 0 7 = (T.2 []).1 0 7) (e15 : r.1 15 = (T.2 []).1 15) : ∃ n : Nat, TB (selS (fun k => if k < 2 then 58 + k else 1 + (k - 2)) S) r n := by
  obtain ⟨⟨n, hn, h1, h2⟩, h3⟩ := h
  exact ⟨n, hn, h1, e7.trans h2, fun j hj => by rw [e15]; exact h3 j hj⟩
end READ
