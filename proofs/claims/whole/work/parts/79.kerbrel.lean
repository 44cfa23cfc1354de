/-! PURE MATHEMATICS, 60: the relation behind kerb. -/
section READ
variable {c d : CN} {N t M : Nat} {L L' : Int} {S S' r : SS} {T T' : TF}
theorem RC.kerb {N' t' M' : Nat} (h : RC c N t M L S T) (hd : OK d N' t' M' L') (hW : WI d) (hL : L ≤ L') (hl : lk c ≤ lk d) (e0 : S'.2 = S.2) (e1 : ∀ p : Nat, p = 0 ∨ (10 ≤ p ∧ p < 19) ∨ 60 ≤ p → S'.1 p = S.1 p) (eS : Hold (atL 1 φW) d S'.1) (eR : Hold φR d r.1) (e2 : r.2 = (T.2 []).2) (e3 : ∀ a b : Nat, relT a b → φR a b = none → ¬ (a = 0 ∧ b = 7) → a ≠ 15 → r.1 a b = (T.2 []).1 a b) (e4 : TPr S' r) (hT : T'.2 [] = r ∧ T'.1 [8] = T.1 [8] ∧ T'.2 [8] = T.2 [8]) : RC d N' t' M' L' S' T' := by
  obtain ⟨h1, h2, h3, h4, h5, h6, h7, h8⟩ := h
  have n0 : ∀ k j : Nat, (k = 1 ∨ k = 2 ∨ k = 3 ∨ k = 14 ∨ k = 16) → r.1 k j = (T.2 []).1 k j := fun k j e => by
    refine e3 k j ⟨fun z => by omega, by omega⟩ ?_ (fun z => by omega) (by omega)
    unfold φR φR1
    rw [if_neg (by omega)]
    repeat rw [if_neg (by omega)]
  refine ⟨hd, hW, eS, by rw [hT.1]; exact eR, ?_, fun q hq => ?_, by rw [hT.1]; exact e4, fun j j1 j2 => ?_⟩
  · have h5' := h5.mono hL hd.2.2.2
    unfold KR at h5' ⊢
    rw [e1 0 (Or.inl rfl), hT.2.1, hT.2.2]
    rcases h5' with h | ⟨ha, hc, ck, N1, t1, M1, k1, k2, k3, k4⟩
    · exact Or.inl h
    · exact Or.inr ⟨ha, hc, ck, N1, t1, M1, k1, k2, k3.same (fun p p1 p2 => e1 p (by omega)), k4⟩
  · have := h6 q hq
    unfold SHr at this ⊢
    rw [hT.1, e0, e2, e1 (61 + 2 * q) (by omega), n0 1 q (by decide), n0 2 q (by decide), n0 3 q (by decide), n0 14 q (by decide)]
    rcases this with h | h | ⟨l, h⟩
    · exact Or.inl h
    · exact Or.inr (Or.inl h)
    · exact Or.inr (Or.inr ⟨l, by omega, h.2⟩)
  · rw [hT.1, e1 60 (by omega), n0 16 j (by decide)]
    exact h8 j j1 j2
end READ
