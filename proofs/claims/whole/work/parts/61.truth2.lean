/-! PURE MATHEMATICS, 43: behind, swap. -/
section TRUTH
variable {c d : CN} {N t M a l q n : Nat} {L L' L1 : Int} {v v1 : CN} {w : Nat → Nat → Int64} {S : SS} {T T1 : TF} {x y z : Int32}
theorem told_bad (h : ¬ (0 ≤ x ∧ x ≤ 7) ∨ ¬ (0 ≤ y ∧ y ≤ 40)) : fX5_toldFault x y (0 : Int32) (40 : Int32) S = some (-2, S) := by
  unfold fX5_toldFault fX5_toldFault_0
  simp only [okC_within, obind, iteB]
  by_cases hy : 0 ≤ y ∧ y ≤ 40
  · rw [if_pos hy, (rowF_bad (S := S) (s := S) (h.resolve_right (fun z => z hy))).1, obind]
    rfl
  · rw [if_neg hy]
theorem behind_loop (h : RC c N t M L S T) (h0 : T.1 [] = true) (hr : Row S (T.2 []) q n) : ∀ (m k f : Nat) (d : CN) (τ : Nat) (v1 : CN) (T1 : TF) (L1 : Int), k + m = n → m < f → Tht c d S T v1 T1 → OK d N τ M L1 → L1 + 1000 * m ≤ 1999000000 → Can M (T.2 []) q k n → ∃ (r : Int32) (S' : SS) (T' : TF), fX5_behind_71 f (i32 q) (i32 n) x (i32 k) (v1, S.2) = some (r, S') ∧ fX6_behind_90 [] f (i32 q) (i32 n) x (i32 k) T1 = some (r, T') ∧ RR L S' T'
  | m, k, 0, d, τ, v1, T1, L1 => fun _ h => absurd h (Nat.not_lt_zero _)
  | 0, k, f + 1, d, τ, v1, T1, L1 => fun hk _ ht hd _ _ => by
    have hn := hr.2.1
    obtain ⟨r, s, q1, q2, q3⟩ := told_both (x := x) h ht hd
    subst q3
    unfold fX5_behind_71 fX6_behind_90
    rw [if_pos ((gle (show n ≤ 1000 by omega) (show k ≤ 1000 by omega)).mpr (by omega)), if_pos ((gle (show n ≤ 1000 by omega) (show k ≤ 1000 by omega)).mpr (by omega)), q1, obind, q2, obind]
    dsimp only
    rw [prS_back]
    exact ⟨_, _, _, rfl, rfl, (ht.1.rr (h.rr h0)).cut⟩
  | m + 1, k, f + 1, d, τ, v1, T1, L1 => fun hk hf ht hd hL hc => by
    have hn := hr.2.1
    have hq := hr.1
    have hk40 : k < 40 := by omega
    have he := hr.2.2 k hk40
    have nk : ¬ i32 n ≤ i32 k := fun z => by have := (gle (show n ≤ 1000 by omega) (show k ≤ 1000 by omega)).mp z; omega
    obtain ⟨a, ha, ea⟩ := hc k (Nat.le_refl _) (by omega)
    have e1 : (T1.2 []).2 (5 + q) k = (T.2 []).2 (5 + q) k := by rw [ht.1.2.1]
    obtain ⟨zz, s, v2, p1, p2, p3, p4⟩ := pass_both (w := S.2) ht hd (ht.WI h.2.1) ha
    have hd2 := hd.pass (by omega) ha
    unfold fX5_behind_71 fX6_behind_90
    rw [if_neg nk, if_neg nk, if_pos (gix hq (by decide)), if_pos (gix hq (by decide)), if_pos (gix hk40 (by decide)), if_pos (gix hk40 (by decide)), gnat (show q ≤ 1000 by omega), gnat (show k ≤ 1000 by omega), e1]
    dsimp only
    rw [he, ea, p1, obind, p3, obind]
    dsimp only
    rw [p2, i32_succ]
    exact behind_loop h h0 hr m (k + 1) f _ _ v2 _ (L1 + 1000) (by omega) (by omega) p4 hd2 (by omega) (fun j j1 j2 => hc j (by omega) j2)
theorem both_behind (h : RR L S T) (hL : L + 300000 ≤ 1999000000) : BothT L (fX5_behind x y z S) (fX6_behind [] x y z T) := by
  have hh := h
  have bad2 := bad_T (a := 2) h (by decide) (by decide)
  have bad5 := bad_T (a := 5) h (by decide) (by decide)
  have e2 : (-i32 2 : Int32) = -2 := by decide
  rw [e2] at bad2
  obtain ⟨h0, c, N, t, M, h⟩ := h
  unfold fX5_behind fX5_behind_0 fX6_behind fX6_behind_0 fX6_behind_36
  simp only [okC_within, in07, in040, in03, obind, iteB]
  by_cases h3 : 0 ≤ z ∧ z ≤ 3
  · rw [if_pos h3, if_pos h3]
    by_cases h1 : 0 ≤ x ∧ x ≤ 7
    · rw [if_pos h1]
      by_cases h2 : 0 ≤ y ∧ y ≤ 40
      · rw [if_pos h2]
        rcases told_fault (x := x) (y := y) h0 h with ⟨q, n, hr, e1, e2, f1, f2⟩ | ⟨r, S', s', r0, f1, f2, f3, f4⟩
        · subst e1
          subst e2
          have hq := hr.1
          have hn := hr.2.1
          obtain ⟨r, q1, q2, q3⟩ := both_wrong h hr
          rw [f1, f2, obind, obind]
          dsimp only
          rw [wrT_id, if_pos rfl]
          unfold fX5_behind_23
          rw [if_pos rfl, if_pos (gix hq (by decide)), gnat (by omega), q1, q2, obind, obind]
          dsimp only
          rw [wrT_id]
          by_cases y1 : r = -1
          · rw [if_pos y1, if_pos y1]
            obtain ⟨zz, v1, T2, p1, p2, p3, p4⟩ := begin_both (w := S.2) h Bas.rf
            have p1' : fX0_takeFrom (selS (fun k => if k < 5 then 28 + k else 2 + (k - 5)) S) = some ((), zz) := p1
            have p2' : mrgS (fun k => if k < 5 then 28 + k else 2 + (k - 5)) 10 S zz = (v1, S.2) := p2
            rw [p1', p3, obind, obind]
            dsimp only
            rw [p2']
            exact behind_loop h h0 hr n 0 FU c t v1 T2 L (by omega) (by unfold FU; omega) p4 h.1 (by omega) (q3 y1)
          · rw [if_neg y1, if_neg y1]
            exact bad5
        · rw [f1, f3, obind, obind]
          dsimp only
          unfold fX5_behind_23
          rw [if_neg r0, if_neg r0, f2, obind]
          exact ⟨r, _, _, rfl, rfl, f4⟩
      · rw [if_neg h2, told_bad (Or.inr h2), obind]
        dsimp only
        unfold fX5_behind_23
        rw [if_neg (by decide)]
        exact bad2
    · rw [if_neg h1, told_bad (Or.inl h1), obind]
      dsimp only
      unfold fX5_behind_23
      rw [if_neg (by decide)]
      exact bad2
  · rw [if_neg h3, if_neg h3, ite_self, ite_self]
    unfold fX5_behind_23
    rw [if_neg (by decide)]
    exact bad2
theorem prS_prS {s1 s2 : SS} : prS (prS s1 s2) s2 = prS s1 s2 := by
  unfold prS
  refine Prod.ext ?_ ?_ <;> funext a <;> dsimp only <;> split <;> rfl
theorem back9 {U : TF} {A s2 : SS} (h : U.2 [9] = s2) : wrT (wrT U [] A) [9] s2 = wrT U [] A := by
  have h1 : (wrT U [] A).2 [9] = s2 := (wrT_ne (by decide)).trans h
  have h2 := wrT_id (t := wrT U [] A) (p := [9])
  rw [h1] at h2
  exact h2
theorem both_swap (h : RR L S T) : BothT L (fX5_swap x y S) (fX6_swap [] x y T) := by
  have hh := h
  have bad2 := bad_T (a := 2) h (by decide) (by decide)
  obtain ⟨h0, c, N, t, M, h⟩ := h
  obtain ⟨v, w⟩ := S
  have hM := h.1.1.m3
  unfold fX5_swap fX5_swap_0 fX5_swap_16 fX6_swap fX6_swap_0 fX6_swap_16
  simp only [okM_isScoop h, okR_isScoop h, obind, iteB, wrT_id]
  by_cases h1 : 0 ≤ x ∧ x ≤ i32 M - 1
  · rw [if_pos h1, if_pos h1]
    by_cases h2 : 0 ≤ y ∧ y ≤ i32 M - 1
    · rw [if_pos h2, if_pos h2]
      obtain ⟨i, hi, e⟩ := (of_lt (by omega)).mp h1
      obtain ⟨o, ho, e'⟩ := (of_lt (by omega)).mp h2
      subst e
      subst e'
      by_cases hio : i32 i = i32 o
      · rw [if_pos hio, if_pos hio]
        exact ⟨_, _, _, rfl, rfl, hh⟩
      · rw [if_neg hio, if_neg hio]
        have hio' : i ≠ o := fun z => hio (by rw [z])
        have hp : ∀ p : Nat, 5 ≤ p → mSwap i o c p = c p := fun p hp => by
          unfold mSwap
          rw [mRow_p (by omega) (by omega) (by omega), mRow_p (by omega) (by omega) (by omega)]
        obtain ⟨zz, p1, p2⟩ := okM_at (f := fX0_changePlaces (i32 i) (i32 o)) (r := ()) (w := w) h.2.2.1 hp (fun u w => okC_change (by omega) (by omega) hio')
        obtain ⟨T2, q1, q2, q3, q4, q5, q6, _⟩ := fresh_R h.2.2.2.1
        have hd : OK (mSwap i o c) N t M L := mRow_OK h.1 (mRow_OK h.1 h.1 (by omega) (by omega)) (by omega) (by omega)
        have hW : WI (mSwap i o c) := h.2.1.of hp
        have hT2 : SameT T T2 := ⟨q3, q4, q5, by rw [q2], fun a b _ => by rw [q2]⟩
        have hl : lk (mSwap i o c) = lk c := by unfold lk; rw [hp 5 (by decide)]
        have g1 := okR_putFrom (i := i) (s := o) (d := c) (u := (T2.2 []).1) (w := (T2.2 []).2) (show i < 3 by omega) (show o < 3 by omega) q6
        have g2 := okR_putFrom (i := o) (s := i) (d := mRow i o c c) (u := (T2.2 []).1) (w := (T2.2 []).2) (show o < 3 by omega) (show i < 3 by omega) q6
        have hT2h : Hold φR c (T2.2 []).1 := by rw [q2]; exact h.2.2.2.1
        rw [← hT2h.mk] at g1
        rw [p1, q1, obind, obind]
        dsimp only
        rw [p2, g1, obind]
        dsimp only
        have b1 : (wrT T2 [] (prS (put φR (mRow i o c c) (T2.2 []).1, (T2.2 []).2) (T2.2 [9]))).2 [9] = T2.2 [9] := wrT_ne (by decide)
        have b2 : (wrT T2 [] (prS (put φR (mRow i o c c) (T2.2 []).1, (T2.2 []).2) (T2.2 [9]))).2 [] = prS (put φR (mRow i o c c) (T2.2 []).1, (T2.2 []).2) (T2.2 [9]) := wrT_same
        rw [snS_pr, back9 rfl, b1, b2, prS_prS, g2, obind]
        dsimp only
        rw [snS_pr, wrT_wrT, back9 rfl]
        refine ⟨_, _, _, rfl, rfl, ?_⟩
        have k := (RC.truth (T := T2) (S := (v, w)) (q3.trans h0) (h.same ⟨rfl, fun _ _ => rfl⟩ hT2) hd hW (Int.le_refl _) (by rw [hl]; exact Nat.le_refl _)).cut (s := T2.2 [9])
        have b3 : (wrT T2 [] (put φR (mSwap i o c) (T2.2 []).1, (T2.2 []).2)).2 [] = (put φR (mSwap i o c) (T2.2 []).1, (T2.2 []).2) := wrT_same
        rw [b3, wrT_wrT] at k
        exact k
    · rw [if_neg h2, if_neg h2]
      exact bad2
  · rw [if_neg h1, if_neg h1]
    exact bad2
end TRUTH
