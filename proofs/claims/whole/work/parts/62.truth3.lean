/-! PURE MATHEMATICS, 44: licks and day. -/
section TRUTH
variable {c d : CN} {N t M a l q n : Nat} {L L' L1 : Int} {v v1 : CN} {w : Nat → Nat → Int64} {S : SS} {T T1 : TF} {x y z : Int32}
/-- a second of licks, as wouldIn would have it -/
theorem lickInTruth_succ (n : Nat) (x1 x2 x3 : Int32) (s : SS) : fX5_lickInTruth_2 (n + 1) x1 x2 x3 s = if x2 ≤ x3 then some ((), s) else ((fX5_wouldIn2 x1 s).bind fun z2 => ((fX4_actInTruth z2.1 (selS (fun k => 1 + k) z2.2)).bind fun z3 => fX5_lickInTruth_2 n x1 x2 (x3 + (1 : Int32)) (mrgS (fun k => 1 + k) 9 z2.2 z3.2))) := by
  rw [fX5_lickInTruth_2]
  unfold fX5_wouldIn2 fX5_wouldIn2_0
  by_cases h : x2 ≤ x3
  · rw [if_pos h, if_pos h]
  · rw [if_neg h, if_neg h]
    by_cases g : ixB x1 4
    · simp only [if_pos g]
      generalize fX2_choose (s.1 7 x1.toNatClampNeg) (s.1 8 x1.toNatClampNeg) (selS (fun k => if k < 24 then 33 + k else 2 + (k - 24)) s) = o
      cases o with
      | none => rfl
      | some z => rfl
    · simp only [if_neg g]
      rfl
theorem licks_loop (hl : l < 4) : ∀ (m k f : Nat) (c : CN) (t : Nat) (L : Int) (S : SS) (T : TF), T.1 [] = true → RC c N t M L S T → L + 1000 * m + 300000 ≤ 1999000000 → k + m = n → n ≤ 60 → m < f → ∃ (S' : SS) (T' : TF) (c' : CN) (t' : Nat), fX5_lickInTruth_2 f (i32 l) (i32 n) (i32 k) S = some ((), S') ∧ fX6_licksTruly_2 [] f (i32 l) (i32 n) (i32 k) T = some ((), T') ∧ T'.1 [] = true ∧ RC c' N t' M (L + 1000 * m) S' T'
  | m, k, 0, c, t, L, S, T => fun _ _ _ _ _ h => absurd h (Nat.not_lt_zero _)
  | 0, k, f + 1, c, t, L, S, T => fun h0 h hL hk hn _ => by
    unfold fX5_lickInTruth_2 fX6_licksTruly_2
    rw [if_pos ((gle (show n ≤ 1000 by omega) (show k ≤ 1000 by omega)).mpr (by omega)), if_pos ((gle (show n ≤ 1000 by omega) (show k ≤ 1000 by omega)).mpr (by omega))]
    exact ⟨_, _, c, t, rfl, rfl, h0, h.mono (by omega) (by omega)⟩
  | m + 1, k, f + 1, c, t, L, S, T => fun h0 h hL hk hn hf => by
    have nk : ¬ i32 n ≤ i32 k := fun z => by have := (gle (show n ≤ 1000 by omega) (show k ≤ 1000 by omega)).mp z; omega
    obtain ⟨v2, T2, e1, e2, e3, e4⟩ := would_truth h (by omega) hl
    have hA : canA M (wouldL N t M l c) := mWould_A h.1.1.m3
    have hs := e4.same
    have h2 : RC c N t M L (v2, S.2) T2 := h.same ⟨rfl, fun p hp => e3 p (by omega)⟩ hs
    obtain ⟨zz, q1, q2, q3, q4⟩ := sec_both h2 hA (by omega)
    rw [lickInTruth_succ]
    unfold fX6_licksTruly_2
    rw [if_neg nk, if_neg nk, e1, e2, obind, obind]
    dsimp only
    rw [q1, q3, obind, obind]
    dsimp only
    rw [q2, i32_succ]
    obtain ⟨S', T', c', t', p1, p2, p3, p4⟩ := licks_loop hl m (k + 1) f _ _ (L + 1000) _ _ (by exact hs.1.trans h0) q4 (by omega) (by omega) hn (by omega)
    exact ⟨S', T', c', t', p1, p2, p3, p4.mono (by omega) (by omega)⟩
theorem in160 {x : Int32} {s : SS} : fX6_in x.toInt64 (1 : Int64) (60 : Int64) s = some (if 1 ≤ x ∧ x ≤ 60 then 1 else 0, s) := okR_in32 (by decide) (by decide)
theorem RC.scores (h : RC c N t M L S T) : S.1 2 8 = c 0 8 ∧ S.1 2 9 = c 0 9 ∧ (T.2 []).1 0 19 = c 0 8 ∧ (T.2 []).1 0 20 = c 0 9 := ⟨h.2.2.1 2 8 0 8 rfl, h.2.2.1 2 9 0 9 rfl, h.2.2.2.1 0 19 0 8 rfl, h.2.2.2.1 0 20 0 9 rfl⟩
theorem both_licks (h : RR L S T) (hL : L + 600000 ≤ 1999000000) : BothT (L + 300000) (fX5_licks x y S) (fX6_licks [] x y T) := by
  have bad2 := bad_T (a := 2) (h.mono (L' := L + 300000) (by omega) (by omega)) (by decide) (by decide)
  obtain ⟨h0, c, N, t, M, h⟩ := h
  have hl := h.licker.2.2.2
  unfold fX5_licks fX5_licks_0 fX5_licks_18 fX6_licks fX6_licks_0 fX6_licks_20
  simp only [okM_isLicker h, okR_isLicker h, okC_within, in160, obind, iteB, wrT_id]
  by_cases h1 : 0 ≤ x ∧ x ≤ i32 (lk c) - 1
  · obtain ⟨l, hl', e⟩ := (of_lt (by omega)).mp h1
    subst e
    rw [if_pos h1, if_pos h1]
    by_cases h2 : 1 ≤ y ∧ y ≤ 60
    · obtain ⟨n, hn, e⟩ := of_le (b := 60) (by decide) ⟨Int32.le_trans (by decide) h2.1, h2.2⟩
      subst e
      rw [if_pos h2, if_pos h2]
      obtain ⟨S', T', c', t', p1, p2, p3, p4⟩ := licks_loop (n := n) (show l < 4 by omega) n 0 FU c t L S T h0 h (by omega) (by omega) hn (by unfold FU; omega)
      have p1' : fX5_lickInTruth (i32 l) (i32 n) S = some ((), S') := p1
      have p2' : fX6_licksTruly [] (i32 l) (i32 n) T = some ((), T') := p2
      rw [p1', p2', obind, obind]
      dsimp only
      rw [p4.scores.2.1, p4.scores.2.2.2, h.scores.2.1, h.scores.2.2.2]
      exact ⟨_, _, _, rfl, rfl, RR.mono (L := L + 1000 * n) (p4.rr p3) (by omega) (by omega)⟩
    · rw [if_neg h2, if_neg h2]
      exact bad2
  · rw [if_neg h1, if_neg h1]
    exact bad2
end TRUTH
