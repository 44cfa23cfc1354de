/-! PURE MATHEMATICS, 34: plan; the best licker; loops in thought. -/
section THOUGHT
variable {c d : CN} {N t M a l : Nat} {L L1 : Int} {v v1 : CN} {w : Nat → Nat → Int64} {S : SS} {T T1 : TF} {x y : Int32}
theorem in13 {x : Int32} {s : SS} : fX6_in x.toInt64 (1 : Int64) (3 : Int64) s = some (if 1 ≤ x ∧ x ≤ 3 then 1 else 0, s) := okR_in32 (by decide) (by decide)
theorem inm1 {x v : Int32} {s : SS} : fX6_in x.toInt64 (-1 : Int64) v.toInt64 s = some (if -1 ≤ x ∧ x ≤ v then 1 else 0, s) := okR_in32 (by decide) rfl
theorem both_plan (h : RR L S T) (hL : L + 300000 ≤ 1999000000) : BothT L (fX5_plan x y S) (fX6_plan [] x y T) := by
  have hh := h
  have bad2 := bad_T (a := 2) h (by decide) (by decide)
  obtain ⟨h0, c, N, t, M, h⟩ := h
  unfold fX5_plan fX5_plan_0 fX5_plan_20 fX6_plan fX6_plan_0 fX6_plan_27
  simp only [okC_within, in13, inm1, obind, iteB]
  by_cases h1 : 1 ≤ x ∧ x ≤ 3
  · obtain ⟨k1, ka, kb, e⟩ := of_bet (a := 1) (b := 3) (by decide) h1 (by decide)
    obtain ⟨k, rfl⟩ : ∃ k, k1 = k + 1 := ⟨k1 - 1, by omega⟩
    subst e
    simp only [if_pos h1, i32_pred]
    by_cases h2 : -1 ≤ y ∧ y ≤ i32 k
    · simp only [if_pos h2]
      obtain ⟨v1, q1, q2, q3, q4⟩ := okD_plan (k := k) (w := fun j => S.2 (if j < 24 then 33 + j else 2 + (j - 24))) (by omega) h.1 (by omega) (hold_mind (B := 2) (hold_C2 h.2.2.1))
      obtain ⟨v', r1, r2, r3⟩ := mind_call (B := 2) (v := S.1) (v1 := v1) (w := S.2) (by decide) q2
      have q1' : fX2_findPlan (i32 (k + 1)) (selS (fun j => if j < 24 then 33 + j else 2 + (j - 24)) S) = some ((), (v1, fun j => S.2 (if j < 24 then 33 + j else 2 + (j - 24)))) := q1
      have r1' : mrgS (fun k => if k < 24 then 33 + k else 2 + (k - 24)) 29 S (v1, fun k => S.2 (if k < 24 then 33 + k else 2 + (k - 24))) = (v', S.2) := r1
      obtain ⟨T', p1, p2, p3⟩ := planR_ok (N := N) (M := M) (k + 1) 5 [] (by omega) (by omega) (by
        have := okPP_main
        have h3 : k = 0 ∨ k = 1 ∨ k = 2 := by omega
        rcases h3 with e | e | e <;> rw [e]
        · exact this.1
        · exact this.2.1
        · exact this.2.2) T c t L h.2.2.2.1 h.1 (by omega) h.2.1.2.1
      have p1' : fX6_findPlan [] (i32 (k + 1)) T = some ((), T') := p1
      have e33 : v' 33 3 = (PL N M (k + 1) t c).1 := by
        have := r3 0 (by decide)
        rw [show v' 33 = v1 0 from this]; exact q3
      have e28 : v' 2 8 = c 0 8 := by rw [r2 2 (by decide)]; exact h.2.2.1 2 8 0 8 rfl
      have e19 : (T'.2 []).1 0 19 = c 0 8 := p2.hold h.2.2.2.1 0 19 0 8 rfl
      have fin : RR L (v', S.2) T' := hh.same ⟨rfl, fun p hp => r2 p (by omega)⟩ p2.same
      simp only [q1', p1', obind, r1', e33, e28, e19, p3.1]
      by_cases y1 : y = -1
      · simp only [if_pos y1]
        exact ⟨_, _, _, rfl, rfl, fin⟩
      · simp only [if_neg y1]
        have t1 := Int32.le_iff_toInt_le.mp h2.1
        have t2 := Int32.le_iff_toInt_le.mp h2.2
        rw [i32_toInt (by unfold B31; omega)] at t2
        have em : (-1 : Int32).toInt = -1 := rfl
        rw [em] at t1
        have t3 : y.toInt ≠ -1 := fun z => y1 (Int32.toInt_inj.mp (by rw [z]; rfl))
        obtain ⟨j, hj, e, et⟩ := of_nn (x := y) (by omega)
        subst e
        have hj3 : j < 3 := by omega
        have e36 : v' 36 j = i32 ((PL N M (k + 1) t c).2.2.getD j 0) := by
          have := r3 3 (by decide)
          rw [show v' 36 = v1 3 from this]; exact q4 j (by omega)
        simp only [if_pos (gix hj3 (show 3 ≤ 1000 by decide)), gnat (show j ≤ 1000 by omega), e36, p3.2.2.2 j (by omega)]
        exact ⟨_, _, _, rfl, rfl, fin⟩
    · simp only [if_neg h2]
      exact bad2
  · simp only [if_neg h1]
    exact bad2
theorem Bas.of_v {v2 : CN} {T2 : TF} (h : Bas S T v1 T1) (k : Bas S T v2 T2) : Bas S T v1 T2 := ⟨h.1, k.2⟩
theorem best_loop {n : Nat} (h : RC c N t M L S T) (hL : L + 300000 ≤ 1999000000) (hn : n ≤ 200) : ∀ (m l f g b : Nat) (le mo : Int32) (v1 : CN) (T1 : TF), l + m = lk c → 1 ≤ l → b ≤ 4 → m < f → m < g → Bas S T v1 T1 → ∃ (r : Int32) (v2 : CN) (T2 : TF), fX5_best_41 f (i32 n) (i32 b) le mo (i32 l) (v1, S.2) = some (r, (v2, S.2)) ∧ fX6_best_43 [] g (i32 n) (i32 b) le mo (i32 l) T1 = some (r, T2) ∧ Bas S T v2 T2
  | m, l, 0, g, b, le, mo, v1, T1 => fun _ _ _ h => absurd h (Nat.not_lt_zero _)
  | m, l, f + 1, 0, b, le, mo, v1, T1 => fun _ _ _ _ h => absurd h (Nat.not_lt_zero _)
  | 0, l, f + 1, g + 1, b, le, mo, v1, T1 => fun hl hl1 hb _ _ hbas => by
    have hk := h.licker
    have e1 : v1 1 3 = i32 (lk c) := by rw [hbas.1 1 (by decide)]; exact hk.1.trans hk.2.2.1
    have e2 : (T1.2 []).1 0 22 = i32 (lk c) := by rw [hbas.2.1]; exact hk.2.1.trans hk.2.2.1
    unfold fX5_best_41 fX6_best_43
    rw [show (v1, S.2).1 1 3 = i32 (lk c) from e1, e2, if_pos ((gle (by omega) (by omega)).mpr (by omega)), if_pos ((gle (by omega) (by omega)).mpr (by omega))]
    exact ⟨_, v1, T1, rfl, rfl, hbas⟩
  | m + 1, l, f + 1, g + 1, b, le, mo, v1, T1 => fun hl hl1 hb hf hg hbas => by
    have hk := h.licker
    have e1 : v1 1 3 = i32 (lk c) := by rw [hbas.1 1 (by decide)]; exact hk.1.trans hk.2.2.1
    have e2 : (T1.2 []).1 0 22 = i32 (lk c) := by rw [hbas.2.1]; exact hk.2.1.trans hk.2.2.1
    have nl : ¬ i32 (lk c) ≤ i32 l := fun z => absurd ((gle (by omega) (by omega)).mp z) (by omega)
    obtain ⟨d', τ', v2, T2, T3, q1, q2, q3, q4, q5⟩ := thinkRun_both h hL (show l < 4 by omega) hn hbas
    obtain ⟨a1, a2, a3, a4, a5, a6⟩ := lost_S h q4
    have l0 : ¬ i32 l = 0 := ne_l (n := 0) (by unfold B31; omega) (by decide) (by omega)
    have take := best_loop h hL hn m (l + 1) f g l (d' 0 8) (d' 0 9) v2 T3 (by omega) (by omega) (by omega) (by omega) (by omega) q4.1
    have keep := best_loop h hL hn m (l + 1) f g b le mo v2 T3 (by omega) (by omega) hb (by omega) (by omega) q4.1
    unfold fX5_best_41 fX6_best_43
    rw [show (v1, S.2).1 1 3 = i32 (lk c) from e1, e2, if_neg nl, if_neg nl, q1, obind, q2, obind]
    dsimp only
    rw [q3, obind]
    dsimp only
    unfold fX5_best_94 fX5_best_98 fX5_best_99 fX5_best_111 fX6_best_99
    dsimp only
    simp only [if_neg (i32_ne1 (show b ≤ 1000 by omega)), if_neg l0, i10, if_true, if_false, a1, a2, a4, a5, i32_succ]
    by_cases z : d' 0 8 < le
    · rw [if_pos z, if_pos z]
      exact take
    · rw [if_neg z, if_neg z]
      by_cases y : d' 0 8 = le
      · rw [if_pos y, if_pos y]
        by_cases u : d' 0 9 ≤ mo
        · rw [if_pos u, if_pos u]
          exact keep
        · rw [if_neg u, if_neg u]
          exact take
      · rw [if_neg y, if_neg y]
        exact keep
theorem both_best (h : RR L S T) (hL : L + 300000 ≤ 1999000000) : BothT L (fX5_best x S) (fX6_best [] x T) := by
  have hh := h
  have bad2 := bad_T (a := 2) h (by decide) (by decide)
  have bad5 := bad_T (a := 5) h (by decide) (by decide)
  obtain ⟨h0, c, N, t, M, h⟩ := h
  have hk := h.licker
  unfold fX5_best fX5_best_0 fX6_best fX6_best_0
  simp only [okC_isSpan, in0200, obind, iteB]
  by_cases h1 : 0 ≤ x ∧ x ≤ 200
  · obtain ⟨n, hn, e⟩ := of_le (b := 200) (by decide) h1
    subst e
    simp only [if_pos h1]
    rw [hk.1.trans hk.2.2.1, hk.2.1.trans hk.2.2.1]
    by_cases z : lk c = 0
    · rw [z, if_pos (show i32 0 = 0 from rfl), if_pos (show i32 0 = 0 from rfl)]
      exact bad5
    · rw [if_neg (ne_l (n := 0) (by unfold B31; omega) (by decide) z), if_neg (ne_l (n := 0) (by unfold B31; omega) (by decide) z)]
      obtain ⟨d', τ', v2, T2, T3, q1, q2, q3, q4, q5⟩ := thinkRun_both h hL (show 0 < 4 by decide) hn Bas.rf
      obtain ⟨a1, a2, a3, a4, a5, a6⟩ := lost_S h q4
      obtain ⟨r, v3, T4, r1, r2, r3⟩ := best_loop h hL hn (lk c - 1) 1 999 999 0 (d' 0 8) (d' 0 9) v2 T3 (by omega) (by decide) (by decide) (by omega) (by omega) q4.1
      have nl : ¬ i32 (lk c) ≤ (0 : Int32) := fun z => absurd ((gle (a := lk c) (b := 0) (by omega) (by omega)).mp z) (by omega)
      have q1' : fX5_thinkRun (0 : Int32) (i32 n) S = some ((), (v2, S.2)) := q1
      have q3' : fX6_lickedBy [9] (0 : Int32) (i32 n) T2 = some ((), T3) := q3
      refine ⟨r, (v3, S.2), T4, ?_, ?_, r3.rr hh⟩
      · rw [show FU = 999 + 1 from rfl]
        unfold fX5_best_41
        rw [hk.1.trans hk.2.2.1, if_neg nl, q1', obind]
        dsimp only
        unfold fX5_best_94 fX5_best_98 fX5_best_99 fX5_best_111
        dsimp only
        simp only [a1, a2, if_true]
        have r1' : fX5_best_41 999 (i32 n) 0 (d' 0 8) (d' 0 9) (0 + 1) (v2, S.2) = some (r, (v3, S.2)) := r1
        rw [r1']
        repeat' split
        all_goals rfl
      · rw [show FU = 999 + 1 from rfl]
        unfold fX6_best_43
        rw [hk.2.1.trans hk.2.2.1, if_neg nl, q2, obind]
        dsimp only
        rw [q3', obind]
        dsimp only
        rw [if_pos rfl]
        unfold fX6_best_99
        rw [a4, a5]
        exact r2
  · simp only [if_neg h1]
    exact bad2
end THOUGHT
