/-! PURE MATHEMATICS, 38: largest. -/
section LARGEST
variable {c d : CN} {N t M a l : Nat} {L L1 : Int} {v v1 : CN} {w : Nat → Nat → Int64} {S : SS} {T T1 : TF} {x y : Int32}
/-- what is lost with a scoop more -/
def lostW (N t M n s v : Nat) (c : CN) : Int32 := idle N t (M + 1) n (mTop M (i32 s) (i32 v) c) 0 8 - c 0 8
theorem top_tht {s b : Nat} (h : Tht c c S T v1 T1) (hH : Hd c N t M) (hM : M < 3) : ∃ (z s' : SS) (v2 : CN), fX0_putOnTop (i32 s) (i32 b) (selS (fun k => 28 + k) (v1, w)) = some ((), z) ∧ mrgS (fun k => 28 + k) 5 (v1, w) z = (v2, w) ∧ fX6_addScoop (i32 s) (i32 b) (T1.2 [9]) = some ((), s') ∧ Tht c (mTop M (i32 s) (i32 b) c) S T v2 (wrT T1 [9] s') := by
  have g := okR_add (x := i32 s) (y := i32 b) (u := (T1.2 [9]).1) (w := (T1.2 [9]).2) hH hM
  rw [← h.2.2.1.mk] at g
  refine ⟨_, _, put (atL 28 φC) (mTop M (i32 s) (i32 b) c) v1, by rw [sel_at h.2.1]; exact okC_top hH hM, mrg_C, g, ⟨fun p hp => ?_, ?_, h.1.2.2.1, h.1.2.2.2.1, ?_⟩, Hold_put, by rw [wrT_same]; exact Hold_put, fun p hp => mTop_p hp⟩
  · rw [← h.1.1 p hp]
    funext j
    exact put_off (atL_off φC_5 p j (by omega))
  · rw [wrT_ne (by decide)]; exact h.1.2.1
  · rw [wrT_ne (by decide)]; exact h.1.2.2.2.2
/-- a thought with a scoop more -/
theorem under_both {s b n : Nat} (h : RC c N t M L S T) (hL : L + 300000 ≤ 1999000000) (hM : M < 3) (hs : s ≤ 9) (hb99 : b ≤ 99) (hn : n ≤ 200) (hb : Bas S T v1 T1) : ∃ (v3 : CN) (T2 : TF) (s1 s2 : SS), fX5_lostUnder (i32 s) (i32 b) (i32 n) (v1, S.2) = some (lostW N t M n s b c, (v3, S.2)) ∧ fX6_fresh [] T1 = some ((), T2) ∧ fX6_addScoop (i32 s) (i32 b) (T2.2 [9]) = some ((), s1) ∧ fX6_stands (i32 n) ((wrT T2 [9] s1).2 [9]) = some ((), s2) ∧ (((wrT (wrT T2 [9] s1) [9] s2).2 [9]).1 0 19) - (((wrT (wrT T2 [9] s1) [9] s2).2 []).1 0 19) = lostW N t M n s b c ∧ Bas S T v3 (wrT (wrT T2 [9] s1) [9] s2) := by
  obtain ⟨z, v2, T2, e1, e2, e3, e4⟩ := begin_both (w := S.2) h hb
  obtain ⟨z2, s1, v3, p1, p2, p3, p4⟩ := top_tht (s := s) (b := b) (w := S.2) e4 h.1.1 hM
  have hd := mTop_OK h.1 hM hs hb99
  obtain ⟨v4, s2, q1, q2, q3⟩ := idle_both (w := S.2) (n := n) p4 hd (h.2.1.of (fun p hp => mTop_p hp)) hn (by omega)
  have e08 : mTop M (i32 s) (i32 b) c 0 8 = c 0 8 := by
    unfold mTop
    rw [upd2_same, if_neg (by decide), zeroW_p (by decide)]
    rfl
  have a4 : ((wrT (wrT T2 [9] s1) [9] s2).2 [9]).1 0 19 = idle N t (M + 1) n (mTop M (i32 s) (i32 b) c) 0 8 := q3.2.2.1 0 19 0 8 rfl
  have a6 : ((wrT (wrT T2 [9] s1) [9] s2).2 []).1 0 19 = c 0 8 := by rw [q3.1.2.1]; exact h.2.2.2.1 0 19 0 8 rfl
  refine ⟨v4, T2, s1, s2, ?_, e3, p3, q2, by rw [a4, a6]; rfl, q3.1⟩
  unfold fX5_lostUnder fX5_lostUnder_0
  rw [e1, obind]
  dsimp only
  rw [e2, p1, obind]
  dsimp only
  rw [p2, q1, obind, e08]
  rfl
theorem lostW_mono {s a b n : Nat} (h : OK c N t M L) (hL : L + 300000 ≤ 1999000000) (hM : M < 3) (hs : s ≤ 9) (hab : a ≤ b) (hb : b ≤ 99) (hn : n ≤ 200) : lostW N t M n s a c ≤ lostW N t M n s b c := by
  have ha := mTop_OK h hM hs (show a ≤ 99 by omega)
  have hb' := mTop_OK h hM hs hb
  have e08 : ∀ q : Nat, mTop M (i32 s) (i32 q) c 0 8 = c 0 8 := fun q => by
    unfold mTop
    rw [upd2_same, if_neg (by decide), zeroW_p (by decide)]
    rfl
  have l1 := idle_lost n _ L ha (by omega)
  have l2 := idle_lost n _ L hb' (by omega)
  rw [e08] at l1 l2
  have le := (idle_Le n _ _ L ha hb' (by omega) (mTop_Le (c := c) (s := s) hM hab hb)).2.2.2.2.1
  have h8 := h.2.2.1 8 (by decide) (by decide)
  unfold lostW
  rw [sub_le' h8.1 l1 l2]
  exact Int32.le_iff_toInt_le.mpr le
/-- the class halves its way -/
theorem half_loop {s n : Nat} {W : Int32} (h : RC c N t M L S T) (hL : L + 300000 ≤ 1999000000) (hM : M < 3) (hs : s ≤ 9) (hn : n ≤ 200) : ∀ (m f fit : Nat) (v1 : CN) (T1 : TF), m ≤ 7 → m < f → fit ≤ 99 → (fit = 0 ∨ lostW N t M n s fit c ≤ W) → (∀ q : Nat, fit + 2 ^ m ≤ q → q ≤ 99 → ¬ lostW N t M n s q c ≤ W) → Bas S T v1 T1 → ∃ (r : Nat) (v2 : CN), fX5_largest_72 f (i32 s) (i32 n) W (i32 fit) (i32 (2 ^ m / 2)) (v1, S.2) = some (i32 r, (v2, S.2)) ∧ Bas S T v2 T1 ∧ r ≤ 99 ∧ (r = 0 ∨ lostW N t M n s r c ≤ W) ∧ ∀ q : Nat, r + 1 ≤ q → q ≤ 99 → ¬ lostW N t M n s q c ≤ W
  | m, 0, fit, v1, T1 => fun _ h => absurd h (Nat.not_lt_zero _)
  | 0, f + 1, fit, v1, T1 => fun _ _ hf h1 h2 hb => by
    unfold fX5_largest_72
    rw [if_pos (show i32 (2 ^ 0 / 2) ≤ 0 by decide)]
    exact ⟨fit, v1, rfl, hb, hf, h1, fun q q1 q2 => h2 q (by omega) q2⟩
  | m + 1, f + 1, fit, v1, T1 => fun hm hmf hf h1 h2 hb => by
    have hp : 2 ^ m ≤ 64 := Nat.le_trans (Nat.pow_le_pow_right (by decide) (show m ≤ 6 by omega)) (by decide)
    have hp0 : 0 < 2 ^ m := Nat.two_pow_pos m
    have es : 2 ^ (m + 1) / 2 = 2 ^ m := by rw [Nat.pow_succ]; omega
    have es2 : 2 ^ (m + 1) = 2 ^ m + 2 ^ m := by rw [Nat.pow_succ]; omega
    have eh : i32 (2 ^ m) / (2 : Int32) = i32 (2 ^ m / 2) := by
      rw [show (2 : Int32) = i32 2 from rfl, i32_div (by unfold B31; omega) (by decide) (by decide)]
    have n0 : ¬ i32 (2 ^ m) ≤ 0 := fun z => absurd ((le_l (n := 0) (by unfold B31; omega) (by decide)).mp z) (by omega)
    unfold fX5_largest_72
    rw [es, if_neg n0, i32_add]
    unfold fX5_largest_109
    rw [eh]
    by_cases y : fit + 2 ^ m ≤ 99
    · rw [if_neg (fun z => absurd ((l_lt (n := 99) (by unfold B31; omega) (by decide)).mp z) (by omega))]
      obtain ⟨v3, T2, s1, s2, q1, q2, q3, q4, q5, q6⟩ := under_both (s := s) (b := fit + 2 ^ m) (n := n) h hL hM hs y hn hb
      rw [q1, obind]
      dsimp only
      have hb3 : Bas S T v3 T1 := q6.of_v hb
      by_cases z : W < lostW N t M n s (fit + 2 ^ m) c
      · rw [if_pos z]
        refine half_loop h hL hM hs hn m f fit v3 T1 (by omega) (by omega) hf h1 (fun q q1' q2' => ?_) hb3
        intro hq
        have := lostW_mono (n := n) h.1 hL hM hs q1' q2' hn
        exact absurd (Int32.le_trans this hq) (Int32.not_le.mpr z)
      · rw [if_neg z]
        exact half_loop h hL hM hs hn m f (fit + 2 ^ m) v3 T1 (by omega) (by omega) y (Or.inr (Int32.not_lt.mp z)) (fun q q1' q2' => h2 q (by omega) q2') hb3
    · rw [if_pos ((l_lt (n := 99) (by unfold B31; omega) (by decide)).mpr (by omega))]
      exact half_loop h hL hM hs hn m f fit v1 T1 (by omega) (by omega) hf h1 (fun q q1' q2' => by omega) hb
/-- the reference goes down -/
theorem down_loop {s n : Nat} {W : Int32} (h : RC c N t M L S T) (hL : L + 300000 ≤ 1999000000) (hM : M < 3) (hs : s ≤ 9) (hn : n ≤ 200) : ∀ (v0 f : Nat) (v1 : CN) (T1 : TF), v0 ≤ 99 → v0 < f → (∀ q : Nat, v0 + 1 ≤ q → q ≤ 99 → ¬ lostW N t M n s q c ≤ W) → Bas S T v1 T1 → ∃ (r : Nat) (v2 : CN) (T2 : TF), fX6_largest_56 [] f (i32 s) (i32 n) W (i32 v0) T1 = some (i32 r, T2) ∧ Bas S T v2 T2 ∧ r ≤ 99 ∧ (r = 0 ∨ lostW N t M n s r c ≤ W) ∧ ∀ q : Nat, r + 1 ≤ q → q ≤ 99 → ¬ lostW N t M n s q c ≤ W
  | v0, 0, v1, T1 => fun _ h => absurd h (Nat.not_lt_zero _)
  | 0, f + 1, v1, T1 => fun _ _ h2 hb => by
    unfold fX6_largest_56
    rw [if_pos (show i32 0 ≤ 0 by decide)]
    exact ⟨0, v1, T1, rfl, hb, by decide, Or.inl rfl, h2⟩
  | v0 + 1, f + 1, v1, T1 => fun hv hf h2 hb => by
    have n0 : ¬ i32 (v0 + 1) ≤ 0 := fun z => absurd ((le_l (n := 0) (by unfold B31; omega) (by decide)).mp z) (by omega)
    obtain ⟨v3, T2, s1, s2, q1, q2, q3, q4, q5, q6⟩ := under_both (s := s) (b := v0 + 1) (n := n) h hL hM hs hv hn hb
    unfold fX6_largest_56
    rw [if_neg n0, q2, obind]
    dsimp only
    rw [q3, obind]
    dsimp only
    rw [q4, obind]
    dsimp only
    rw [q5]
    by_cases z : W < lostW N t M n s (v0 + 1) c
    · rw [if_pos z, i32_neg1, i32_pred]
      exact down_loop h hL hM hs hn v0 f v3 _ (by omega) (by omega) (fun q q1' q2' => by
        by_cases e : q = v0 + 1
        · rw [e]; exact Int32.not_le.mpr z
        · exact h2 q (by omega) q2') q6
    · rw [if_neg z]
      exact ⟨v0 + 1, v3, _, rfl, q6, hv, Or.inr (Int32.not_lt.mp z), h2⟩
theorem both_largest (h : RR L S T) (hL : L + 300000 ≤ 1999000000) : BothT L (fX5_largest x y S) (fX6_largest [] x y T) := by
  have hh := h
  have bad2 := bad_T (a := 2) h (by decide) (by decide)
  have bad6 := bad_T (a := 6) h (by decide) (by decide)
  obtain ⟨h0, c, N, t, M, h⟩ := h
  have hM := h.1.1.m3
  have hc := h.cells
  unfold fX5_largest fX5_largest_0 fX5_largest_17 fX6_largest fX6_largest_0 fX6_largest_24 fX6_withoutNow fX6_withoutNow_0
  simp only [okC_within, okC_isSpan, in09, in0200, obind, iteB, hc.2.2.1, hc.2.2.2.2.2, lt_l (a := M) (n := 3) (by unfold B31; omega) (by decide), eq_l (a := M) (n := 3) (by unfold B31; omega) (by decide)]
  by_cases h1 : 0 ≤ x ∧ x ≤ 9
  · obtain ⟨s, hs, e⟩ := of_le (b := 9) (by decide) h1
    subst e
    simp only [if_pos h1]
    by_cases h2 : 0 ≤ y ∧ y ≤ 200
    · obtain ⟨n, hn, e⟩ := of_le (b := 200) (by decide) h2
      subst e
      simp only [if_pos h2]
      by_cases h3 : M < 3
      · simp only [if_pos h3, if_neg (show ¬ M = 3 by omega)]
        obtain ⟨z, v1, T2, e1, e2, e3, e4⟩ := begin_both (w := S.2) h Bas.rf
        obtain ⟨v2, s2, q1, q2, q3⟩ := idle_both (w := S.2) (n := n) e4 h.1 h.2.1 hn (by omega)
        have e1' : fX0_takeFrom (selS (fun k => if k < 5 then 28 + k else 2 + (k - 5)) S) = some ((), z) := e1
        have e2' : mrgS (fun k => if k < 5 then 28 + k else 2 + (k - 5)) 10 S z = (v1, S.2) := e2
        have a1 : ((wrT T2 [9] s2).2 [9]).1 0 19 = idle N t M n c 0 8 := q3.2.2.1 0 19 0 8 rfl
        have a2 : ((wrT T2 [9] s2).2 []).1 0 19 = c 0 8 := by rw [q3.1.2.1]; exact h.2.2.2.1 0 19 0 8 rfl
        rw [e1', e3, obind, obind]
        dsimp only
        rw [e2', q1, q2, obind, obind]
        dsimp only
        rw [obind, a1, a2]
        dsimp only
        obtain ⟨r1, v3, p1, p2, p3, p4, p5⟩ := half_loop (s := s) (n := n) (W := idle N t M n c 0 8 - c 0 8) h hL h3 hs hn 7 FU 0 v2 (wrT T2 [9] s2) (by decide) (by decide) (by decide) (Or.inl rfl) (fun q q1 q2 => by omega) q3.1
        obtain ⟨r2, v4, T4, u1, u2, u3, u4, u5⟩ := down_loop (s := s) (n := n) (W := idle N t M n c 0 8 - c 0 8) h hL h3 hs hn 99 FU v2 (wrT T2 [9] s2) (by decide) (by decide) (fun q q1 q2 => by omega) q3.1
        have er : r1 = r2 := by
          rcases Nat.lt_trichotomy r1 r2 with z | z | z
          · rcases u4 with u4 | u4
            · omega
            · exact absurd u4 (p5 r2 (by omega) u3)
          · exact z
          · rcases p4 with p4 | p4
            · omega
            · exact absurd p4 (u5 r1 (by omega) p3)
        subst er
        exact ⟨i32 r1, (v3, S.2), T4, p1, u1, (p2.of_v u2).rr hh⟩
      · simp only [if_neg h3, if_pos (show M = 3 by omega)]
        exact bad6
    · simp only [if_neg h2]
      exact bad2
  · simp only [if_neg h1]
    exact bad2
end LARGEST
