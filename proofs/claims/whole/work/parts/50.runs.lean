/-! PURE MATHEMATICS, 32: calls in thought. -/
theorem in0200 {x : Int32} {s : SS} : fX6_in x.toInt64 (0 : Int64) (200 : Int64) s = some (if 0 ≤ x ∧ x ≤ 200 then 1 else 0, s) := okR_in32 (by decide) (by decide)
theorem in03 {x : Int32} {s : SS} : fX6_in x.toInt64 (0 : Int64) (3 : Int64) s = some (if 0 ≤ x ∧ x ≤ 3 then 1 else 0, s) := okR_in32 (by decide) (by decide)
theorem okC_isSpan {x : Int32} {s : SS} : fX5_isSpan x s = some (if 0 ≤ x ∧ x ≤ 200 then 1 else 0, s) := by
  unfold fX5_isSpan fX5_isSpan_0
  rw [okC_within, obind]
  dsimp only
  rw [nbZ_b]
section THOUGHT
variable {c d : CN} {N t M a l : Nat} {L L1 : Int} {v v1 : CN} {w : Nat → Nat → Int64} {S : SS} {T T1 : TF} {x y : Int32}
theorem bad_T {a : Nat} (h : RR L S T) (h2 : 2 ≤ a) (h6 : a ≤ 6) : BothT L ((fX5_refuse (-i32 a) S).bind fun z => some (z.1, z.2)) ((fX6_refuse (-i32 a) (T.2 [])).bind fun z => some (z.1, wrT T [] z.2)) := BothT.refuse h h2 h6 rfl rfl
theorem idle_both {n : Nat} (h : Tht c d S T v1 T1) (hd : OK d N t M L1) (hW : WI d) (hn : n ≤ 200) (hL : L1 + 200000 ≤ 1999000000) : ∃ (v2 : CN) (s : SS), fX5_lostIdling (i32 n) (v1, w) = some (idle N t M n d 0 8 - d 0 8, (v2, w)) ∧ fX6_stands (i32 n) (T1.2 [9]) = some ((), s) ∧ Tht c (idle N t M n d) S T v2 (wrT T1 [9] s) := by
  have e8 : v1 28 8 = d 0 8 := h.2.1 28 8 0 8 (atL_at 0 8)
  obtain ⟨v2, q1, q2, q3⟩ := okM_idling (x := d 0 8) (w := w) hn n 0 FU d v1 L1 (by omega) (by unfold FU; omega) hd (by omega) h.2.1
  have g := okR_stands (u := (T1.2 [9]).1) (w := (T1.2 [9]).2) hn n 0 FU d L1 (by omega) (by unfold FU; omega) hd (by omega) hW.2.1
  rw [← h.2.2.1.mk] at g
  refine ⟨v2, _, ?_, g, ⟨fun p hp => ?_, ?_, h.1.2.2.1, h.1.2.2.2.1, ?_⟩, q2, by rw [wrT_same]; exact Hold_put, fun p hp => (idle_p hp n d).trans (h.p p hp)⟩
  · unfold fX5_lostIdling fX5_lostIdling_0
    rw [show (v1, w).1 28 8 = d 0 8 from e8]
    exact q1
  · rw [q3 p (by omega)]; exact h.1.1 p hp
  · rw [wrT_ne (by decide)]; exact h.1.2.1
  · rw [wrT_ne (by decide)]; exact h.1.2.2.2.2
theorem both_without (h : RR L S T) (hL : L + 300000 ≤ 1999000000) : BothT L (fX5_without x S) (fX6_without [] x T) := by
  have hh := h
  have bad2 := bad_T (a := 2) h (by decide) (by decide)
  obtain ⟨h0, c, N, t, M, h⟩ := h
  unfold fX5_without fX5_without_0 fX6_without fX6_without_0 fX6_withoutNow fX6_withoutNow_0
  simp only [okC_isSpan, in0200, obind, iteB]
  by_cases h1 : 0 ≤ x ∧ x ≤ 200
  · obtain ⟨n, hn, e⟩ := of_le (b := 200) (by decide) h1
    subst e
    simp only [if_pos h1]
    obtain ⟨z, v1, T2, e1, e2, e3, e4⟩ := begin_both (w := S.2) h Bas.rf
    obtain ⟨v2, s, q1, q2, q3⟩ := idle_both (w := S.2) (n := n) e4 h.1 h.2.1 hn (by omega)
    have e1' : fX0_takeFrom (selS (fun k => if k < 5 then 28 + k else 2 + (k - 5)) S) = some ((), z) := e1
    have e2' : mrgS (fun k => if k < 5 then 28 + k else 2 + (k - 5)) 10 S z = (v1, S.2) := e2
    have a1 : ((wrT T2 [9] s).2 [9]).1 0 19 = idle N t M n c 0 8 := q3.2.2.1 0 19 0 8 rfl
    have a2 : ((wrT T2 [9] s).2 []).1 0 19 = c 0 8 := by rw [q3.1.2.1]; exact h.2.2.2.1 0 19 0 8 rfl
    rw [e1', e3, obind, obind]
    dsimp only
    rw [e2', q1, q2, obind, obind, obind]
    dsimp only
    rw [a1, a2]
    exact ⟨_, _, _, rfl, rfl, q3.1.rr hh⟩
  · simp only [if_neg h1]
    exact bad2
theorem spare_loop (h : RC c N t M L S T) : ∀ (m k f g : Nat) (d : CN) (v1 : CN) (T1 : TF) (L1 : Int), k + m = 200 → m < f → m < g → Tht c d S T v1 T1 → OK d N t M L1 → L1 + 1000 * m ≤ 1999000000 → ∃ (r : Int32) (v2 : CN) (T2 : TF), fX5_spare_16 f (i32 k) (v1, S.2) = some (r, (v2, S.2)) ∧ fX6_spare_7 [] g (i32 k) T1 = some (r, T2) ∧ Bas S T v2 T2
  | m, k, 0, g, d, v1, T1, L1 => fun _ h => absurd h (Nat.not_lt_zero _)
  | m, k, f + 1, 0, d, v1, T1, L1 => fun _ _ h => absurd h (Nat.not_lt_zero _)
  | 0, k, f + 1, g + 1, d, v1, T1, L1 => fun hk _ _ ht _ _ => by
    have : k = 200 := by omega
    subst this
    unfold fX5_spare_16 fX6_spare_7
    rw [if_pos (show (200 : Int32) ≤ i32 200 by decide), if_pos (show (200 : Int32) ≤ i32 200 by decide)]
    exact ⟨200, v1, T1, rfl, rfl, ht.1⟩
  | m + 1, k, f + 1, g + 1, d, v1, T1, L1 => fun hk hf hg ht hd hL => by
    have n2 : ¬ (200 : Int32) ≤ i32 k := fun z => absurd ((l_le (n := 200) (by unfold B31; omega) (by decide)).mp z) (by omega)
    obtain ⟨z, s, v2, e1, e2, e3, e4⟩ := pass_both (a := 0) (w := S.2) ht hd (ht.WI h.2.1) canA_0
    have hd1 := hd.pass (a := 0) (by omega) canA_0
    rw [newT_0] at hd1
    have e1' : fX0_pass (0 : Int32) (selS (fun k => 28 + k) (v1, S.2)) = some ((), z) := e1
    have e3' : fX6_goes (0 : Int32) (0 : Int32) (T1.2 [9]) = some ((), s) := e3
    have b1 : v2 28 8 = mPass N t M 0 d 0 8 := e4.2.1 28 8 0 8 (atL_at 0 8)
    have b2 : v2 2 8 = c 0 8 := by rw [e4.1.1 2 (by decide)]; exact h.2.2.1 2 8 0 8 rfl
    have b3 : ((wrT T1 [9] s).2 [9]).1 0 19 = mPass N t M 0 d 0 8 := e4.2.2.1 0 19 0 8 rfl
    have b4 : ((wrT T1 [9] s).2 []).1 0 19 = c 0 8 := by rw [e4.1.2.1]; exact h.2.2.2.1 0 19 0 8 rfl
    unfold fX5_spare_16 fX6_spare_7
    rw [if_neg n2, if_neg n2, e1', e3', obind, obind]
    dsimp only
    rw [e2]
    simp only [b1, b2, b3, b4, i32_succ]
    by_cases y : mPass N t M 0 d 0 8 ≤ c 0 8
    · rw [if_pos y, if_pos y]
      exact spare_loop h m (k + 1) f g _ v2 _ (L1 + 1000) (by omega) (by omega) (by omega) e4 hd1 (by omega)
    · rw [if_neg y, if_neg y]
      exact ⟨_, v2, _, rfl, rfl, e4.1⟩
theorem both_spare (h : RR L S T) (hL : L + 300000 ≤ 1999000000) : BothT L (fX5_spare S) (fX6_spare [] T) := by
  have hh := h
  obtain ⟨h0, c, N, t, M, h⟩ := h
  obtain ⟨z, v1, T2, e1, e2, e3, e4⟩ := begin_both (w := S.2) h Bas.rf
  have e1' : fX0_takeFrom (selS (fun k => if k < 5 then 28 + k else 2 + (k - 5)) S) = some ((), z) := e1
  have e2' : mrgS (fun k => if k < 5 then 28 + k else 2 + (k - 5)) 10 S z = (v1, S.2) := e2
  obtain ⟨r, v2, T3, q1, q2, q3⟩ := spare_loop h 200 0 FU FU c v1 T2 L (by decide) (by decide) (by decide) e4 h.1 (by omega)
  unfold fX5_spare fX5_spare_0 fX6_spare fX6_spare_0
  rw [e1', e3, obind, obind]
  dsimp only
  rw [e2']
  exact ⟨r, (v2, S.2), T3, q1, q2, q3.rr hh⟩
/-- one second by a licker -/
theorem lick_both (h : RC c N t M L S T) {τ : Nat} (ht : Tht c d S T v1 T1) (hd : OK d N τ M L1) (hL : L1 + 5000 ≤ 1999000000) (hl : l < 4) : ∃ (A : Nat) (v2 v3 : CN) (T2 : TF) (z s : SS), canA M A ∧ fX5_wouldIn28 (i32 l) (v1, S.2) = some (i32 A, (v2, S.2)) ∧ fX0_pass (i32 A) (selS (fun k => 28 + k) (v2, S.2)) = some ((), z) ∧ mrgS (fun k => 28 + k) 5 (v2, S.2) z = (v3, S.2) ∧ fX6_wouldBe [9] (i32 l) T1 = some (i32 A, T2) ∧ fX6_goes (i32 A) (0 : Int32) (T2.2 [9]) = some ((), s) ∧ Tht c (mPass N τ M A d) S T v3 (wrT T2 [9] s) ∧ OK (mPass N τ M A d) N (newT N τ A) M (L1 + 1000) := by
  have h7 : S.1 7 l = c 6 l := rdM h.2.2.1 (fM_kind hl)
  have h8 : S.1 8 l = c 7 l := rdM h.2.2.1 (fM_by hl)
  have hW := ht.WI h.2.1
  obtain ⟨v2, T2, q1, q2, q3⟩ := would_both (w := S.2) ht hd (by omega) hW hl h7 h8
  have hA : canA M (wouldL N τ M l d) := mWould_A hd.1.m3
  obtain ⟨z, s, v3, r1, r2, r3, r4⟩ := pass_both (w := S.2) q3 hd hW hA
  exact ⟨_, v2, v3, T2, z, s, hA, q1, r1, r2, q2, r3, r4, hd.pass (by omega) hA⟩
/-- the reference's licking by one second -/
theorem licked1 {A : Nat} {T2 : TF} {s : SS} (h1 : fX6_wouldBe [9] (i32 l) T1 = some (i32 A, T2)) (h2 : fX6_goes (i32 A) (0 : Int32) (T2.2 [9]) = some ((), s)) : fX6_lickedBy [9] (i32 l) (1 : Int32) T1 = some ((), wrT T2 [9] s) := by
  unfold fX6_lickedBy fX6_lickedBy_0
  rw [show FU = 998 + 1 + 1 from rfl]
  unfold fX6_lickedBy_2
  rw [if_neg (by decide), h1, obind]
  dsimp only
  rw [h2, obind]
  dsimp only
  unfold fX6_lickedBy_2
  rw [if_pos (by decide)]
/-- a second of a run, as wouldIn would have it -/
theorem thinkRun_succ (n : Nat) (x1 x2 x3 : Int32) (s : SS) : fX5_thinkRun_16 (n + 1) x1 x2 x3 s = if x2 ≤ x3 then some ((), s) else ((fX5_wouldIn28 x1 s).bind fun z2 => ((fX0_pass z2.1 (selS (fun k => 28 + k) z2.2)).bind fun z3 => fX5_thinkRun_16 n x1 x2 (x3 + (1 : Int32)) (mrgS (fun k => 28 + k) 5 z2.2 z3.2))) := by
  rw [fX5_thinkRun_16]
  unfold fX5_wouldIn28 fX5_wouldIn28_0
  by_cases h : x2 ≤ x3
  · rw [if_pos h, if_pos h]
  · rw [if_neg h, if_neg h]
    by_cases g : ixB x1 4
    · simp only [if_pos g]
      generalize fX2_choose (s.1 7 x1.toNatClampNeg) (s.1 8 x1.toNatClampNeg) (selS (fun k => if k < 24 then 33 + k else 28 + (k - 24)) s) = o
      cases o with
      | none => rfl
      | some z => rfl
    · simp only [if_neg g]
      rfl
theorem run_loop {n : Nat} (h : RC c N t M L S T) (hl : l < 4) (hn : n ≤ 200) : ∀ (m k f g : Nat) (d : CN) (τ : Nat) (v1 : CN) (T1 : TF) (L1 : Int), k + m = n → m < f → m < g → Tht c d S T v1 T1 → OK d N τ M L1 → L1 + 1000 * m + 5000 ≤ 1999000000 → ∃ (d' : CN) (τ' : Nat) (v2 : CN) (T2 : TF), fX5_thinkRun_16 f (i32 l) (i32 n) (i32 k) (v1, S.2) = some ((), (v2, S.2)) ∧ fX6_lickedBy_2 [9] g (i32 l) (i32 n) (i32 k) T1 = some ((), T2) ∧ Tht c d' S T v2 T2 ∧ OK d' N τ' M (L1 + 1000 * m)
  | m, k, 0, g, d, τ, v1, T1, L1 => fun _ h => absurd h (Nat.not_lt_zero _)
  | m, k, f + 1, 0, d, τ, v1, T1, L1 => fun _ _ h => absurd h (Nat.not_lt_zero _)
  | 0, k, f + 1, g + 1, d, τ, v1, T1, L1 => fun hk _ _ ht hd _ => by
    have : k = n := by omega
    subst this
    unfold fX5_thinkRun_16 fX6_lickedBy_2
    rw [if_pos (Int32.le_refl _), if_pos (Int32.le_refl _)]
    exact ⟨d, τ, v1, T1, rfl, rfl, ht, by rw [show L1 + 1000 * ((0 : Nat) : Int) = L1 by omega]; exact hd⟩
  | m + 1, k, f + 1, g + 1, d, τ, v1, T1, L1 => fun hk hf hg ht hd hL => by
    have nk : ¬ i32 n ≤ i32 k := fun z => absurd ((gle (a := n) (b := k) (by omega) (by omega)).mp z) (by omega)
    obtain ⟨A, v2, v3, T2, z, s, hA, e1, e2, e3, e4, e5, e6, e7⟩ := lick_both h ht hd (by omega) hl
    obtain ⟨d', τ', v4, T3, q1, q2, q3, q4⟩ := run_loop h hl hn m (k + 1) f g _ _ v3 (wrT T2 [9] s) (L1 + 1000) (by omega) (by omega) (by omega) e6 e7 (by omega)
    refine ⟨d', τ', v4, T3, ?_, ?_, q3, by rw [show L1 + 1000 * ((m + 1 : Nat) : Int) = L1 + 1000 + 1000 * (m : Int) by omega]; exact q4⟩
    · rw [thinkRun_succ]
      rw [if_neg nk, e1, obind]
      dsimp only
      rw [e2, obind]
      dsimp only
      rw [e3, i32_succ]
      exact q1
    · unfold fX6_lickedBy_2
      rw [if_neg nk, e4, obind]
      dsimp only
      rw [e5, obind]
      dsimp only
      rw [i32_succ]
      exact q2
/-- a run begun -/
theorem thinkRun_both {n : Nat} (h : RC c N t M L S T) (hL : L + 300000 ≤ 1999000000) (hl : l < 4) (hn : n ≤ 200) (hb : Bas S T v1 T1) : ∃ (d' : CN) (τ' : Nat) (v2 : CN) (T2 T3 : TF), fX5_thinkRun (i32 l) (i32 n) (v1, S.2) = some ((), (v2, S.2)) ∧ fX6_fresh [] T1 = some ((), T2) ∧ fX6_lickedBy [9] (i32 l) (i32 n) T2 = some ((), T3) ∧ Tht c d' S T v2 T3 ∧ OK d' N τ' M (L + 1000 * n) := by
  obtain ⟨z, v3, T2, e1, e2, e3, e4⟩ := begin_both (w := S.2) h hb
  obtain ⟨d', τ', v4, T3, q1, q2, q3, q4⟩ := run_loop h hl hn n 0 FU FU c t v3 T2 L (by omega) (by unfold FU; omega) (by unfold FU; omega) e4 h.1 (by omega)
  refine ⟨d', τ', v4, T2, T3, ?_, e3, q2, q3, q4⟩
  unfold fX5_thinkRun fX5_thinkRun_0
  rw [e1, obind]
  dsimp only
  rw [e2]
  exact q1
/-- what comes of a thought is told -/
theorem told_both {τ : Nat} (h : RC c N t M L S T) (ht : Tht c d S T v1 T1) (hd : OK d N τ M L1) : ∃ (r : Int32) (s : SS), fX5_thoughtResult x (v1, S.2) = some (r, (v1, S.2)) ∧ fX6_toldOf x (prS (T1.2 []) (T1.2 [9])) = some (r, s) ∧ (s = prS (T1.2 []) (T1.2 [9])) := by
  have b1 : ∀ j : Nat, j < 12 → v1 28 j = d 0 j := fun j hj => ht.2.1 28 j 0 j ((atL_at (A := 28) (φ := φC) 0 j).trans (if_pos hj))
  have b2 : ∀ j : Nat, j < 12 → v1 2 j = c 0 j := fun j hj => by
    rw [ht.1.1 2 (by decide)]
    exact h.2.2.1 2 j 0 j (by unfold atL φW szC; rw [if_pos (by decide), if_neg (by decide), if_pos (by decide)]; exact if_pos hj)
  have b3 : ∀ j : Nat, (prS (T1.2 []) (T1.2 [9])).1 33 j = (T1.2 [9]).1 0 j := fun j => rfl
  have b4 : ∀ j : Nat, (prS (T1.2 []) (T1.2 [9])).1 0 j = (T.2 []).1 0 j := fun j => by
    show (T1.2 []).1 0 j = _
    rw [ht.1.2.1]
  have hr := h.2.2.2.1
  have hs : ∀ s1 s2 : SS, selS (fun k => 33 + k) (prS s1 s2) = s2 := fun s1 s2 => by
    unfold selS prS
    refine Prod.ext ?_ ?_
    · funext k
      dsimp only
      rw [if_neg (by omega), Nat.add_sub_cancel_left]
    · funext k
      dsimp only
      rw [if_neg (by omega), Nat.add_sub_cancel_left]
  have hm : mrgS (fun k => 33 + k) 33 (prS (T1.2 []) (T1.2 [9])) (T1.2 [9]) = prS (T1.2 []) (T1.2 [9]) := by
    have := mrg_sel (π := fun k => 33 + k) (n := 33) injA (S := prS (T1.2 []) (T1.2 [9]))
    rw [hs] at this
    exact this
  unfold fX5_thoughtResult fX5_thoughtResult_0 fX6_toldOf fX6_toldOf_0
  by_cases x0 : x = 0
  · rw [if_pos x0, if_pos x0]
    refine ⟨d 0 8 - c 0 8, _, ?_, ?_, rfl⟩
    · rw [show (v1, S.2).1 28 8 = d 0 8 from b1 8 (by decide), show (v1, S.2).1 2 8 = c 0 8 from b2 8 (by decide)]
    · rw [b3, b4, ht.2.2.1 0 19 0 8 rfl, hr 0 19 0 8 rfl]
  · rw [if_neg x0, if_neg x0]
    by_cases x1 : x = 1
    · rw [if_pos x1, if_pos x1]
      refine ⟨d 0 9 - c 0 9, _, ?_, ?_, rfl⟩
      · rw [show (v1, S.2).1 28 9 = d 0 9 from b1 9 (by decide), show (v1, S.2).1 2 9 = c 0 9 from b2 9 (by decide)]
      · rw [b3, b4, ht.2.2.1 0 20 0 9 rfl, hr 0 20 0 9 rfl]
    · rw [if_neg x1, if_neg x1]
      by_cases x2 : x = 2
      · rw [if_pos x2, if_pos x2]
        have g := okR_left (u := (T1.2 [9]).1) (w := (T1.2 [9]).2) hd.1
        rw [← ht.2.2.1.mk] at g
        refine ⟨mLeft N M d, _, ?_, ?_, rfl⟩
        · rw [sel_at ht.2.1, okC_left hd.1, obind]
          dsimp only
          rw [mrg_C, ht.2.1.eq]
        · rw [hs, g, obind]
          dsimp only
          rw [hm]
      · rw [if_neg x2, if_neg x2]
        refine ⟨d 0 1, _, ?_, ?_, rfl⟩
        · rw [show (v1, S.2).1 28 1 = d 0 1 from b1 1 (by decide)]
        · rw [b3, ht.2.2.1 0 15 0 1 rfl]
theorem prS_back : wrT (wrT T1 [] (prS (T1.2 []) (T1.2 [9]))) [9] (snS (prS (T1.2 []) (T1.2 [9]))) = wrT T1 [] (prS (T1.2 []) (T1.2 [9])) := by
  rw [snS_pr]
  have h1 : (wrT T1 [] (prS (T1.2 []) (T1.2 [9]))).2 [9] = T1.2 [9] := wrT_ne (by decide)
  have h2 := wrT_id (t := wrT T1 [] (prS (T1.2 []) (T1.2 [9]))) (p := [9])
  rw [h1] at h2
  exact h2
theorem prS_lo {s1 s2 : SS} {a : Nat} (ha : a < 33) : (prS s1 s2).1 a = s1.1 a ∧ (prS s1 s2).2 a = s1.2 a := by
  unfold prS
  dsimp only
  rw [if_pos ha, if_pos ha]
  exact ⟨rfl, rfl⟩
theorem RR.cut {s : SS} (h : RR L S T) : RR L S (wrT T [] (prS (T.2 []) s)) := by
  obtain ⟨h0, c, N, t, M, h1, h2, h3, h4, h5, h6, h7, h8⟩ := h
  refine ⟨h0, c, N, t, M, h1, h2, h3, by rw [wrT_same]; exact Hold_prS h4, ?_, fun q hq => ?_, ?_, fun j j1 j2 => ?_⟩
  · unfold KR at h5 ⊢
    rw [wrT_ne (show ([8] : List Nat) ≠ [] by decide)]
    exact h5
  · have := h6 q hq
    unfold SHr at this ⊢
    rw [wrT_same, (prS_lo (show 1 < 33 by decide)).1, (prS_lo (show 2 < 33 by decide)).1, (prS_lo (show 3 < 33 by decide)).1, (prS_lo (show 14 < 33 by decide)).1, (prS_lo (show 5 + q < 33 by omega)).2]
    exact this
  · unfold TPr at h7 ⊢
    rw [wrT_same, (prS_lo (show 0 < 33 by decide)).1, (prS_lo (show 15 < 33 by decide)).1]
    exact h7
  · rw [wrT_same, (prS_lo (show 16 < 33 by decide)).1]
    exact h8 j j1 j2
/-- both run -/
theorem both_run {z : Int32} (h : RR L S T) (hL : L + 300000 ≤ 1999000000) : BothT L (fX5_run x y z S) (fX6_run [] x y z T) := by
  have hh := h
  have bad2 := bad_T (a := 2) h (by decide) (by decide)
  obtain ⟨h0, c, N, t, M, h⟩ := h
  have hl := h.licker.2.2.2
  unfold fX5_run fX5_run_0 fX5_run_24 fX6_run fX6_run_0 fX6_run_32
  simp only [okM_isLicker h, okR_isLicker h, okC_isSpan, okC_within, in0200, in03, obind, iteB, wrT_id]
  by_cases h1 : 0 ≤ x ∧ x ≤ i32 (lk c) - 1
  · obtain ⟨l, hl', e⟩ := (of_lt (by omega)).mp h1
    subst e
    simp only [if_pos h1]
    by_cases h2 : 0 ≤ y ∧ y ≤ 200
    · obtain ⟨n, hn, e⟩ := of_le (b := 200) (by decide) h2
      subst e
      simp only [if_pos h2]
      by_cases h3 : 0 ≤ z ∧ z ≤ 3
      · simp only [if_pos h3]
        obtain ⟨d', τ', v2, T2, T3, e1, e2, e3, e4, e5⟩ := thinkRun_both h hL (show l < 4 by omega) hn Bas.rf
        obtain ⟨r, s, q1, q2, q3⟩ := told_both (x := z) h e4 e5
        subst q3
        have e1' : fX5_thinkRun (i32 l) (i32 n) S = some ((), (v2, S.2)) := e1
        simp only [e1', e2, e3, obind, q1, q2, prS_back]
        exact ⟨_, _, _, rfl, rfl, (e4.1.rr hh).cut⟩
      · simp only [if_neg h3]
        exact bad2
    · simp only [if_neg h2]
      exact bad2
  · simp only [if_neg h1]
    exact bad2
end THOUGHT
