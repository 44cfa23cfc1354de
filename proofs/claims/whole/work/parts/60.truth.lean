/-! PURE MATHEMATICS, 42: judge; a second in truth, act, done. -/
section TRUTH
variable {c d : CN} {N t M a l q n : Nat} {L L' L1 : Int} {v v1 : CN} {w : Nat → Nat → Int64} {S : SS} {T T1 : TF} {x y : Int32}
theorem both_wrong (h : RC c N t M L S T) (hr : Row S (T.2 []) q n) : ∃ r : Int32, fX5_wrongTold (i32 q) (i32 n) S = some (r, S) ∧ fX6_wrongIn q (i32 n) (T.2 []) = some (r, T.2 []) ∧ (r = -1 → Can M (T.2 []) q 0 n) := by
  have hn := hr.2.1
  obtain ⟨r, q1, q2, q3⟩ := wrong_loop h hr n 0 FU (by omega) (by unfold FU; omega)
  refine ⟨r, q1, ?_, q3⟩
  unfold fX6_wrongIn
  rw [if_pos hr.1]
  exact q2
theorem both_judge (h : RR L S T) : Both L (fX5_judge x y S) (fX6_judge x y (T.2 [])) T := by
  have hh := h
  obtain ⟨h0, c, N, t, M, h⟩ := h
  unfold fX5_judge fX5_judge_0 fX6_judge fX6_judge_0
  rcases told_fault (x := x) (y := y) h0 h with ⟨q, n, hr, e1, e2, f1, f2⟩ | ⟨r, S', s', r0, f1, f2, f3, f4⟩
  · subst e1
    subst e2
    have hq := hr.1
    obtain ⟨r, q1, q2, _⟩ := both_wrong h hr
    rw [f1, f2, obind, obind]
    dsimp only
    rw [if_pos rfl, if_pos rfl, if_pos (gix hq (by decide)), gnat (by omega), q1, q2, obind, obind]
    exact ⟨r, _, _, rfl, rfl, hh.id⟩
  · rw [f1, f3, obind, obind]
    dsimp only
    rw [if_neg r0, if_neg r0, f2, obind]
    exact ⟨r, _, _, rfl, rfl, f4⟩
theorem OK_55 {i : Nat} {z : Int32} (h : OK d N t M L) : OK (upd2 (upd2 d 8 i x) 5 5 z) N t M L := ⟨⟨h.1.1, h.1.2.1, h.1.2.2.1, h.1.2.2.2⟩, ⟨h.2.1.1, h.2.1.2.1, h.2.1.2.2.1, h.2.1.2.2.2.1, h.2.1.2.2.2.2⟩, h.2.2.1, h.2.2.2⟩
theorem WI_55 {i D : Nat} (h : WI d) (hD : D < 20) (e : d 5 5 = i32 D) : WI (upd2 (upd2 d 8 i x) 5 5 (d 5 5 + 1)) := by
  refine ⟨h.1, ⟨D + 1, by omega, ?_⟩, fun l hl => h.2.2 l hl⟩
  show d 5 5 + 1 = i32 (D + 1)
  rw [e, i32_succ]
theorem mTruth_OK (h : OK c N t M L) (hW : WI c) (hL : L + 1000 ≤ 1999000000) (hc : canA M a) : OK (mTruth N t M a c) N (newT N t a) M (L + 1000) ∧ WI (mTruth N t M a c) ∧ lk (mTruth N t M a c) = lk c := by
  have k := h.pass hL hc
  have e : ∀ p : Nat, 5 ≤ p → mPass N t M a c p = c p := fun p hp => mPass_p hp
  have kW := hW.of e
  have e5 := e 5 (by decide)
  unfold mTruth
  by_cases z : mPass N t M a c 0 8 ≤ c 0 8
  · rw [if_pos z]
    exact ⟨k, kW, by unfold lk; rw [e5]⟩
  · rw [if_neg z]
    obtain ⟨D, hD, eD⟩ := kW.2.1
    by_cases y : (20 : Int32) ≤ mPass N t M a c 5 5
    · rw [if_pos y]
      exact ⟨k, kW, by unfold lk; rw [e5]⟩
    · rw [if_neg y]
      have hD' : D < 20 := Nat.not_le.mp (fun q => y (by rw [eD]; exact (l_le (n := 20) (by unfold B31; omega) (by decide)).mpr q))
      refine ⟨OK_55 k, WI_55 kW hD' eD, ?_⟩
      show lk (mPass N t M a c) = lk c
      unfold lk
      rw [e5]
/-- one second in truth -/
theorem sec_both (h : RC c N t M L S T) (hc : canA M a) (hL : L + 1000 ≤ 1999000000) : ∃ (z : SS), fX4_actInTruth (i32 a) (selS (fun k => 1 + k) S) = some ((), z) ∧ mrgS (fun k => 1 + k) 9 S z = (put (atL 1 φW) (mTruth N t M a c) S.1, S.2) ∧ fX6_goes (i32 a) (1 : Int32) (T.2 []) = some ((), (put φR (mTruth N t M a c) (T.2 []).1, (T.2 []).2)) ∧ RC (mTruth N t M a c) N (newT N t a) M (L + 1000) (put (atL 1 φW) (mTruth N t M a c) S.1, S.2) (wrT T [] (put φR (mTruth N t M a c) (T.2 []).1, (T.2 []).2)) := by
  obtain ⟨v, w⟩ := S
  have k := mTruth_OK h.1 h.2.1 hL hc
  obtain ⟨z, q1, q2⟩ := okM_atW (d := mTruth N t M a c) (f := fX4_actInTruth (i32 a)) (r := ()) (w := w) h.2.2.1 (fun u w => okW_act h.1.1 h.1.2.1.Nn h.1.eat hc h.2.1.2.1)
  have r1 := goes_hold (y := 1) h.2.2.2.1 h.1 hc h.2.1.2.1
  have e : dropS 1 (c 0 8) (mPass N t M a c) = mTruth N t M a c := if_neg (by decide)
  rw [e] at r1
  exact ⟨z, q1, q2, r1, h.truthC k.1 k.2.1 (by omega) (by rw [k.2.2]; exact Nat.le_refl _)⟩
theorem in06 {x : Int32} {s : SS} : fX6_in x.toInt64 (0 : Int64) (6 : Int64) s = some (if 0 ≤ x ∧ x ≤ 6 then 1 else 0, s) := okR_in32 (by decide) (by decide)
theorem both_act (h : RR L S T) (hL : L + 300000 ≤ 1999000000) : Both (L + 300000) (fX5_act x S) (fX6_act x (T.2 [])) T := by
  have hm := h.mono (L' := L + 300000) (by omega) hL
  have bad2 := bad_of (a := 2) hm (by decide) (by decide)
  have bad5 := bad_of (a := 5) hm (by decide) (by decide)
  obtain ⟨h0, c, N, t, M, h⟩ := h
  have hM := h.1.1.m3
  have e10 := h.cells.2.2.2.2.2
  unfold fX5_act fX5_act_0 fX6_act fX6_act_0
  rw [okC_within, in06, obind, obind]
  dsimp only
  rw [iteB, iteB]
  by_cases h1 : 0 ≤ x ∧ x ≤ 6
  · obtain ⟨a, ha, e⟩ := of_le (b := 6) (by decide) h1
    subst e
    rw [if_pos h1, if_pos h1, canDo_S h ha, okR_canAct h.1.1 e10 ha, obind, obind]
    dsimp only
    rw [mrg_sel injA]
    by_cases z : 1 ≤ a ∧ a < 4 ∧ M < a
    · rw [if_pos z, if_neg (show ¬ canB M a by unfold canB; omega), if_pos rfl, if_pos rfl]
      exact bad5
    · rw [if_neg z, if_pos (show canB M a by unfold canB; omega), if_neg (by decide), if_neg (by decide)]
      have hc : canA M a := ⟨ha, fun _ _ => by omega⟩
      obtain ⟨zz, q1, q2, q3, q4⟩ := sec_both h hc (by omega)
      rw [q1, obind, q3, obind]
      dsimp only
      rw [q2]
      dsimp only
      have e1 : put (atL 1 φW) (mTruth N t M a c) S.1 2 8 = mTruth N t M a c 0 8 := put_at rfl
      have e2 : put φR (mTruth N t M a c) (T.2 []).1 0 19 = mTruth N t M a c 0 8 := put_at rfl
      have e3 : S.1 2 8 = c 0 8 := h.2.2.1 2 8 0 8 rfl
      have e4 : (T.2 []).1 0 19 = c 0 8 := h.2.2.2.1 0 19 0 8 rfl
      rw [e1, e2, e3, e4]
      exact ⟨_, _, _, rfl, rfl, RR.mono (L := L + 1000) (q4.rr h0) (by omega) hL⟩
  · rw [if_neg h1, if_neg h1]
    exact bad2
theorem done_loop {z : Int32} : ∀ (m k f : Nat) (c : CN) (t : Nat) (L : Int) (S : SS) (T : TF), T.1 [] = true → RC c N t M L S T → L + 1000 * m ≤ 1999000000 → Row S (T.2 []) q n → Can M (T.2 []) q k n → k + m = n → m < f → ∃ (r : Int32) (S' s' : SS), fX5_done_52 f (i32 q) (i32 n) z (i32 k) S = some (r, S') ∧ fX6_done_44 f (i32 q) (i32 n) z (i32 k) (T.2 []) = some (r, s') ∧ RR (L + 1000 * m) S' (wrT T [] s')
  | m, k, 0, c, t, L, S, T => fun _ _ _ _ _ _ h => absurd h (Nat.not_lt_zero _)
  | 0, k, f + 1, c, t, L, S, T => fun h0 h hL hr _ hk _ => by
    have hn := hr.2.1
    have e3 : S.1 2 8 = c 0 8 := h.2.2.1 2 8 0 8 rfl
    have e4 : (T.2 []).1 0 19 = c 0 8 := h.2.2.2.1 0 19 0 8 rfl
    unfold fX5_done_52 fX6_done_44
    rw [if_pos ((gle (show n ≤ 1000 by omega) (show k ≤ 1000 by omega)).mpr (by omega)), if_pos ((gle (show n ≤ 1000 by omega) (show k ≤ 1000 by omega)).mpr (by omega)), e3, e4]
    exact ⟨_, _, _, rfl, rfl, (((h.rr h0).mono (by omega) hL)).id⟩
  | m + 1, k, f + 1, c, t, L, S, T => fun h0 h hL hr hc hk hf => by
    have hn := hr.2.1
    have hq := hr.1
    have hk40 : k < 40 := by omega
    have he := hr.2.2 k hk40
    have nk : ¬ i32 n ≤ i32 k := fun z => by have := (gle (show n ≤ 1000 by omega) (show k ≤ 1000 by omega)).mp z; omega
    obtain ⟨a, ha, ea⟩ := hc k (Nat.le_refl _) (by omega)
    obtain ⟨zz, q1, q2, q3, q4⟩ := sec_both h ha (by omega)
    unfold fX5_done_52 fX6_done_44
    rw [if_neg nk, if_neg nk, if_pos (gix hq (by decide)), if_pos (gix hq (by decide)), if_pos (gix hk40 (by decide)), if_pos (gix hk40 (by decide)), gnat (show q ≤ 1000 by omega), gnat (show k ≤ 1000 by omega), he, ea, q1, obind, q3, obind]
    dsimp only
    rw [q2, i32_succ]
    have h1 : (wrT T [] (put φR (mTruth N t M a c) (T.2 []).1, (T.2 []).2)).2 [] = (put φR (mTruth N t M a c) (T.2 []).1, (T.2 []).2) := wrT_same
    obtain ⟨r, S', s', p1, p2, p3⟩ := done_loop (z := z) m (k + 1) f (mTruth N t M a c) (newT N t a) (L + 1000) _ _ (by exact h0) q4 (by omega) (by rw [h1]; exact ⟨hq, hn, hr.2.2⟩) (by rw [h1]; exact fun j j1 j2 => hc j (by omega) j2) (by omega) (by omega)
    rw [h1] at p2
    rw [wrT_wrT, show L + 1000 + 1000 * (m : Int) = L + 1000 * ((m + 1 : Nat) : Int) by omega] at p3
    exact ⟨r, S', s', p1, p2, p3⟩
theorem both_done (h : RR L S T) (hL : L + 300000 ≤ 1999000000) : Both (L + 300000) (fX5_done x y S) (fX6_done x y (T.2 [])) T := by
  have hm := h.mono (L' := L + 300000) (by omega) hL
  have bad5 := bad_of (a := 5) hm (by decide) (by decide)
  obtain ⟨h0, c, N, t, M, h⟩ := h
  unfold fX5_done fX5_done_0 fX6_done fX6_done_0
  rcases told_fault (x := x) (y := y) h0 h with ⟨q, n, hr, e1, e2, f1, f2⟩ | ⟨r, S', s', r0, f1, f2, f3, f4⟩
  · subst e1
    subst e2
    have hq := hr.1
    have hn := hr.2.1
    obtain ⟨r, q1, q2, q3⟩ := both_wrong h hr
    rw [f1, f2, obind, obind]
    dsimp only
    rw [if_pos rfl, if_pos rfl, if_pos (gix hq (by decide)), gnat (by omega), q1, q2, obind, obind]
    dsimp only
    by_cases z : r = -1
    · rw [if_pos z, if_pos z]
      have e3 : S.1 2 8 = c 0 8 := h.2.2.1 2 8 0 8 rfl
      have e4 : (T.2 []).1 0 19 = c 0 8 := h.2.2.2.1 0 19 0 8 rfl
      obtain ⟨r', S', s', p1, p2, p3⟩ := done_loop (z := c 0 8) n 0 FU c t L S T h0 h (by omega) hr (q3 z) (by omega) (by unfold FU; omega)
      rw [e3, e4]
      exact ⟨r', S', s', p1, p2, p3.mono (by omega) hL⟩
    · rw [if_neg z, if_neg z]
      exact bad5
  · rw [f1, f3, obind, obind]
    dsimp only
    rw [if_neg r0, if_neg r0, f2, obind]
    exact ⟨r, _, _, rfl, rfl, f4.mono (by omega) hL⟩
end TRUTH
